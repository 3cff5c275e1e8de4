/-! THE LAW'S HELPERS over a memory that holds the component's A and the law's own rows -/
section LA12
def CP (A σ : sy_Mem) : Prop := ∀ k, k < 44 → σ k = A k
def mg (A L : sy_Mem) : sy_Mem := fun k => if k < 44 then A k else L k
theorem CP_mg {A σ : sy_Mem} (h : CP A σ) : ∃ L, σ = mg A L := ⟨σ, by
  funext k
  unfold mg
  split
  · rename_i hk; exact h k hk
  · rfl⟩
theorem CP_up {A σ : sy_Mem} (h : CP A σ) {a i : Nat} {v : Int32} (ha : 44 ≤ a) : CP A (sy_up σ a i v) := fun k hk => by rw [up_ne (by omega)]; exact h k hk
theorem CP_upL {A σ : sy_Mem} (h : CP A σ) {a i : Nat} {v : Int64} (ha : 44 ≤ a) : CP A (sy_upL σ a i v) := fun k hk => by rw [upL_ne (by omega)]; exact h k hk
variable {A L σ τ : sy_Mem} {t : Nat}
theorem mg_v {v i : Nat} (hv : v < 4) (hi : i ≤ 2) : mg A L (sy_vw v + i) = A (sy_vw v + i) := by
  unfold mg sy_vw
  rw [if_pos (by omega)]
theorem yn_I_mg (I : yn_I t A) : yn_I t (mg A L) := by
  refine ⟨I.1, I.2.1, I.2.2.1, I.2.2.2.1, I.2.2.2.2.1, fun v hv => ?_, I.2.2.2.2.2.2⟩
  have h := I.2.2.2.2.2.1 v hv
  rcases (show v = 0 ∨ v = 1 ∨ v = 2 ∨ v = 3 by omega) with rfl | rfl | rfl | rfl <;> exact h
theorem mg_here {v : Nat} (hv : v < 4) : ya_here (mg A L) v = ya_here A v := by
  rcases (show v = 0 ∨ v = 1 ∨ v = 2 ∨ v = 3 by omega) with rfl | rfl | rfl | rfl <;> rfl
-- what a helper answers
theorem kh_I {as : sy_AE} {c : List Value → sy_MM (Option Value)} {nc : Nat} {env vs : List Value} {k : List Value → sy_MM (Option Value)} {x : Int32} (ha : as env σ = some (.inl vs, σ)) (hc : c vs σ = some (.inl (some (.int x)), τ)) : sy_hI as c nc env k σ = some (.inl (some (.int x)), τ) := by
  unfold sy_hI
  rw [sy_bnd_at ha]
  unfold sy_tr
  rw [hc]
  rfl
theorem kh_IE {as : sy_AE} {c : List Value → sy_MM (Option Value)} {nc E : Nat} {env vs : List Value} {k : List Value → sy_MM (Option Value)} (ha : as env σ = some (.inl vs, σ)) (hc : c vs σ = some (.inr E, τ)) (hE : 1 ≤ E ∧ E ≤ nc) : sy_hI as c nc env k σ = some (.inl (some (.int (sy_xE E))), τ) := by
  unfold sy_hI
  rw [sy_bnd_at ha]
  unfold sy_tr
  rw [hc]
  unfold sy_hx
  dsimp only
  rw [if_pos hE]
  rfl
theorem kh_V {as : sy_AE} {c : List Value → sy_MM (Option Value)} {nc : Nat} {env vs : List Value} {k : List Value → sy_MM (Option Value)} (ha : as env σ = some (.inl vs, σ)) (hc : c vs σ = some (.inl none, τ)) : sy_hV as c nc env k σ = some (.inl (some (.int 0)), τ) := by
  unfold sy_hV
  rw [sy_bnd_at ha]
  unfold sy_tr
  rw [hc]
  rfl
theorem kh_VE {as : sy_AE} {c : List Value → sy_MM (Option Value)} {nc E : Nat} {env vs : List Value} {k : List Value → sy_MM (Option Value)} (ha : as env σ = some (.inl vs, σ)) (hc : c vs σ = some (.inr E, τ)) (hE : 1 ≤ E ∧ E ≤ nc) : sy_hV as c nc env k σ = some (.inl (some (.int (sy_xE E))), τ) := by
  unfold sy_hV
  rw [sy_bnd_at ha]
  unfold sy_tr
  rw [hc]
  unfold sy_hx
  dsimp only
  rw [if_pos hE]
  rfl
theorem kh_L {as : sy_AE} {c : List Value → sy_MM (Option Value)} {nc : Nat} {env vs : List Value} {k : List Value → sy_MM (Option Value)} {x : Int64} (ha : as env σ = some (.inl vs, σ)) (hc : c vs σ = some (.inl (some (.long x)), τ)) : sy_hL as c nc env k σ = some (.inl (some (.long x)), τ) := by
  unfold sy_hL
  rw [sy_bnd_at ha]
  unfold sy_tr
  rw [hc]
  rfl
theorem xE1 : sy_xE 1 = -1000001 := by decide
theorem xE2 : sy_xE 2 = -1000002 := by decide
theorem xE3 : sy_xE 3 = -1000003 := by decide
theorem kh_if {as : sy_AE} {c : List Value → sy_MM (Option Value)} {nc : Nat} {env vs : List Value} {k : List Value → sy_MM (Option Value)} {x : Int32} {b : Bool} (hn : 1 ≤ nc) (ha : as env σ = some (.inl vs, σ)) (hc : c vs σ = if b then some (.inl (some (.int x)), σ) else some (.inr 1, σ)) : sy_hI as c nc env k σ = some (.inl (some (.int (if b then x else -1000001))), σ) := by
  cases b
  · exact (kh_IE ha hc ⟨by omega, hn⟩).trans (by rw [xE1]; rfl)
  · exact kh_I ha hc
theorem h_count (I : yn_I t A) (h : CP A σ) (a : Int32) : sf_L_count [.ref 0, .int a] σ = some (.inl (some (.int (if (decide (0 ≤ a) && decide (a < 3)) then ya_cnt A a else -1000001))), σ) := by
  obtain ⟨L, rfl⟩ := CP_mg h
  exact ke_meth (kh_if (by omega) (ee_aR (ee_R rfl) (ee_aI (ee_L rfl) ee_aN)) (ee_cv (yt_X5_count (yn_Wo (yn_I_mg I)) a) rfl)) (Nat.le_of_ble_eq_true rfl)
theorem h_rowAt (I : yn_I t A) (h : CP A σ) (d p : Int32) : sf_L_rowAt [.ref 0, .int d, .int p] σ = some (.inl (some (.int (if ya_X5_isPlace A d p then ya_X3_signOf A (ya_at A d p) else -1000001))), σ) := by
  obtain ⟨L, rfl⟩ := CP_mg h
  exact ke_meth (kh_if (by omega) (ee_aR (ee_R rfl) (ee_aI (ee_L rfl) (ee_aI (ee_L rfl) ee_aN))) (ee_cv (yt_X5_rowAt (yn_Wo (yn_I_mg I)) d p) rfl)) (Nat.le_of_ble_eq_true rfl)
theorem h_rowAnew (I : yn_I t A) (h : CP A σ) (d p : Int32) : sf_L_rowAnew [.ref 0, .int d, .int p] σ = some (.inl (some (.int (if ya_X5_isPlace A d p then ya_X3_signOf A (ya_at A d p) else -1000001))), σ) := by
  obtain ⟨L, rfl⟩ := CP_mg h
  exact ke_meth (kh_if (by omega) (ee_aR (ee_R rfl) (ee_aI (ee_L rfl) (ee_aI (ee_L rfl) ee_aN))) (ee_cv (yt_X5_rowAnew (yn_I_mg I) d p) rfl)) (Nat.le_of_ble_eq_true rfl)
theorem h_fieldAt (I : yn_I t A) (h : CP A σ) (d p f : Int32) : sf_L_fieldAt [.ref 0, .int d, .int p, .int f] σ = some (.inl (some (.int (if (ya_X5_isPlace A d p && (decide (0 ≤ f) && decide (f < 3))) then ya_N A (ya_at A d p) f else -1000001))), σ) := by
  obtain ⟨L, rfl⟩ := CP_mg h
  exact ke_meth (kh_if (by omega) (ee_aR (ee_R rfl) (ee_aI (ee_L rfl) (ee_aI (ee_L rfl) (ee_aI (ee_L rfl) ee_aN)))) (ee_cv (yt_X5_fieldAt (yn_Wo (yn_I_mg I)) d p f) rfl)) (Nat.le_of_ble_eq_true rfl)
theorem h_area (h : CP A σ) (a b : Int32) : sf_L_area [.ref 0, .int a, .int b] σ = some (.inl (some (.int (if ((decide (0 ≤ a) && decide (a < 4)) && (decide (0 ≤ b) && decide (b < 3))) then ya_slot A a b else -1000001))), σ) := by
  obtain ⟨L, rfl⟩ := CP_mg h
  exact ke_meth (kh_if (by omega) (ee_aR (ee_R rfl) (ee_aI (ee_L rfl) (ee_aI (ee_L rfl) ee_aN))) (ee_cv (yt_X5_area (mg A L) a b) rfl)) (Nat.le_of_ble_eq_true rfl)
theorem vw4 {v : Nat} (hv : v < 4) : (decide ((0 : Int32) ≤ nI v) && decide (nI v < 4)) = true ∧ (nI v).toNatClampNeg = v := by
  rcases (show v = 0 ∨ v = 1 ∨ v = 2 ∨ v = 3 by omega) with rfl | rfl | rfl | rfl <;> decide
theorem h_place (h : CP A σ) {v : Nat} (hv : v < 4) : sf_L_place [.ref 0, .int (nI v)] σ = some (.inl (some (.int (yL A (ya_here A v)))), σ) := by
  obtain ⟨L, rfl⟩ := CP_mg h
  refine (ke_meth (kh_if (by omega) (ee_aR (ee_R rfl) (ee_aI (ee_L rfl) ee_aN)) (ee_cv (yt_X5_at (mg A L) (nI v)) rfl)) (Nat.le_of_ble_eq_true rfl)).trans ?_
  rw [(vw4 hv).1, (vw4 hv).2, mg_here hv]
  rfl
theorem h_ahead (I : yn_I t A) (h : CP A σ) {v : Nat} (hv : v < 4) : sf_L_ahead [.ref 0, .int (nI v)] σ = some (.inl (some (.int (ya_X5_countAhead A v))), σ) := by
  obtain ⟨L, rfl⟩ := CP_mg h
  refine (ke_meth (kh_if (by omega) (ee_aR (ee_R rfl) (ee_aI (ee_L rfl) ee_aN)) (ee_cv (yt_X5_ahead (yn_Wo (yn_I_mg I)) (nI v)) rfl)) (Nat.le_of_ble_eq_true rfl)).trans ?_
  rw [(vw4 hv).1, (vw4 hv).2]
  rcases (show v = 0 ∨ v = 1 ∨ v = 2 ∨ v = 3 by omega) with rfl | rfl | rfl | rfl <;> rfl
theorem h_parent (h : CP A σ) {v : Nat} (hv : v < 4) : sf_L_parent [.ref 0, .int (nI v)] σ = some (.inl (some (.int (yL A (A (sy_vw v) 5)))), σ) := by
  obtain ⟨L, rfl⟩ := CP_mg h
  refine (ke_meth (kh_if (by omega) (ee_aR (ee_R rfl) (ee_aI (ee_L rfl) ee_aN)) (ee_cv (yt_X5_parent (mg A L) (nI v)) rfl)) (Nat.le_of_ble_eq_true rfl)).trans ?_
  rw [(vw4 hv).1, (vw4 hv).2]
  rcases (show v = 0 ∨ v = 1 ∨ v = 2 ∨ v = 3 by omega) with rfl | rfl | rfl | rfl <;> rfl
theorem h_holds (h : CP A σ) {v : Nat} (hv : v < 4) : sf_L_holds [.ref 0, .int (nI v)] σ = some (.inl (some (.int (A (sy_vw v) 6))), σ) := by
  obtain ⟨L, rfl⟩ := CP_mg h
  refine (ke_meth (kh_if (by omega) (ee_aR (ee_R rfl) (ee_aI (ee_L rfl) ee_aN)) (ee_cv (yt_X5_holds (mg A L) (nI v)) rfl)) (Nat.le_of_ble_eq_true rfl)).trans ?_
  rw [(vw4 hv).1, (vw4 hv).2]
  rcases (show v = 0 ∨ v = 1 ∨ v = 2 ∨ v = 3 by omega) with rfl | rfl | rfl | rfl <;> rfl
theorem h_second (I : yn_I t A) (h : CP A σ) {v : Nat} (hv : v < 4) : sf_L_second [.ref 0, .int (nI v)] σ = some (.inl (some (.int (yL A (ya_X3_rootOf A (tG A (yT A (ya_here A v))) (ya_N A (ya_here A v) 2))))), σ) := by
  obtain ⟨L, rfl⟩ := CP_mg h
  refine (ke_meth (kh_if (by omega) (ee_aR (ee_R rfl) (ee_aI (ee_L rfl) ee_aN)) (ee_cv (yt_X5_second (yn_Wo (yn_I_mg I)) (nI v)) rfl)) (Nat.le_of_ble_eq_true rfl)).trans ?_
  rw [(vw4 hv).1, (vw4 hv).2, mg_here hv]
  rfl
theorem h_tied (I : yn_I t A) (h : CP A σ) {v : Nat} (hv : v < 4) : sf_L_tied [.ref 0, .int (nI v)] σ = some (.inl (some (.int (nI (ya_cw (fun i => ya_X3_isTied A (nI i) (ya_here A v)) 60)))), σ) := by
  obtain ⟨L, rfl⟩ := CP_mg h
  refine (ke_meth (kh_if (by omega) (ee_aR (ee_R rfl) (ee_aI (ee_L rfl) ee_aN)) (ee_cv (yt_X5_tied (yn_Wo (yn_I_mg I)) (nI v)) rfl)) (Nat.le_of_ble_eq_true rfl)).trans ?_
  rw [(vw4 hv).1, (vw4 hv).2, mg_here hv]
  rfl
theorem mg_H : ∀ (n : Nat) (s : Int32), ya_H (mg A L) n s = ya_H A n s
  | 0, s => rfl
  | n + 1, s => by
    have ih := mg_H n (yP A s)
    unfold ya_H
    first | (rw [← ih]; rfl) | rfl
theorem mg_keys (s : Int32) : ya_keys (mg A L) s = ya_keys A s := by
  unfold ya_keys
  rw [mg_H]
  rfl
theorem h_keys (I : yn_I t A) (h : CP A σ) {v : Nat} (hv : v < 4) : sf_L_keys [.ref 0, .int (nI v)] σ = some (.inl (some (.long (ya_keys A (ya_here A v)))), σ) := by
  obtain ⟨L, rfl⟩ := CP_mg h
  have hc := yt_X5_keys (σ := mg A L) (yn_I_mg I) (nI v)
  rw [(vw4 hv).1, if_pos rfl, (vw4 hv).2, mg_here hv, mg_keys] at hc
  exact ke_meth (kh_L (ee_aR (ee_R rfl) (ee_aI (ee_L rfl) ee_aN)) (ee_cv hc rfl)) (Nat.le_of_ble_eq_true rfl)
end LA12
