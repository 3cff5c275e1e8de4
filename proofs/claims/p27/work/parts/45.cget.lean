/-! the component's get -/
section YG1
theorem yu_ne {σ : sy_Mem} {k i j : Nat} {v : Int32} (h : j ≠ k) : sy_up σ k i v j = σ j := by
  unfold sy_up
  rw [if_neg h]
theorem yu_eq {σ : sy_Mem} {k i : Nat} {v : Int32} : sy_up σ k i v k = upd (σ k) i v := by
  unfold sy_up
  rw [if_pos rfl]
theorem yu_at {σ : sy_Mem} {k i : Nat} {v : Int32} : sy_up σ k i v k i = v := by rw [yu_eq, pk_us]
theorem yu_an {σ : sy_Mem} {k i j : Nat} {v : Int32} (h : j ≠ i) : sy_up σ k i v k j = σ k j := by rw [yu_eq, pk_un h]
theorem yv_lt {v : Nat} (hv : v < 4) : 32 ≤ sy_vw v ∧ sy_vw v ≤ 41 := by unfold sy_vw; omega
theorem yv_inj {v w : Nat} : sy_vw v = sy_vw w ↔ v = w := by unfold sy_vw; omega
variable {σ : sy_Mem}
theorem yt_X4_release (σ : sy_Mem) {v : Nat} (hv : v < 4) : sf_X4_release [.ref (sy_vw v)] σ = some (.inl none, sy_up σ (sy_vw v) 6 0) := by
  refine ee_meth ?_ rfl
  unfold sm_X4_release
  exact es_Q (es_P (ee_R rfl) ee_K (yv_I hv (by decide)) es_eV)
theorem yt_X0_drop (σ : sy_Mem) : sf_X0_drop [.ref 19] σ = some (.inl (some (.int (σ 19 0))), sy_up σ 19 0 0) := rfl
theorem yt_X4_setParent (σ : sy_Mem) {v : Nat} (hv : v < 4) (s : Int32) : sf_X4_setParent [.ref (sy_vw v), .int s] σ = some (.inl none, sy_up σ (sy_vw v) 5 s) := by
  refine ee_meth ?_ rfl
  unfold sm_X4_setParent
  exact es_Q (es_P (ee_R rfl) (ee_L rfl) (yv_I hv (by decide)) es_eV)
/-- a view at a segment -/
def ya_stand (σ : sy_Mem) (v : Nat) (m a b : Int32) : sy_Mem := sy_up (sy_up (sy_up σ (sy_vw v) 2 m) (sy_vw v) 3 a) (sy_vw v) 4 b
theorem yt_X4_standAt (σ : sy_Mem) {v : Nat} (hv : v < 4) (s : Int32) : sf_X4_standAt [.ref (sy_vw v), .int s] σ = some (.inl none, ya_stand σ v s 1 0) := by
  refine ee_meth ?_ rfl
  unfold sm_X4_standAt
  exact es_Q (es_Q (es_P (ee_R rfl) (ee_L rfl) (yv_I hv (by decide)) (es_Q (es_PZ (ee_R rfl) ee_K (Or.inr rfl) (yv_I hv (by decide)) (es_PZ (ee_R rfl) ee_K (Or.inl rfl) (yv_I hv (by decide)) es_eV)))))
theorem yt_X4_standAheadOfAll (σ : sy_Mem) {v : Nat} (hv : v < 4) : sf_X4_standAheadOfAll [.ref (sy_vw v)] σ = some (.inl none, ya_stand σ v (-1) 0 0) := by
  refine ee_meth ?_ rfl
  unfold sm_X4_standAheadOfAll
  exact es_Q (es_Q (es_P (ee_R rfl) ee_K (yv_I hv (by decide)) (es_Q (es_PZ (ee_R rfl) ee_K (Or.inl rfl) (yv_I hv (by decide)) (es_PZ (ee_R rfl) ee_K (Or.inl rfl) (yv_I hv (by decide)) es_eV)))))
theorem yt_X4_standAheadOf (σ : sy_Mem) {v : Nat} (hv : v < 4) (s : Int32) : sf_X4_standAheadOf [.ref (sy_vw v), .int s] σ = some (.inl none, ya_stand σ v s 0 (ya_b (decide (s = -1)))) := by
  refine ee_meth ?_ rfl
  unfold sm_X4_standAheadOf
  exact es_Q (es_Q (es_P (ee_R rfl) (ee_L rfl) (yv_I hv (by decide)) (es_Q (es_PZ (ee_R rfl) ee_K (Or.inl rfl) (yv_I hv (by decide)) (es_PZ (ee_R rfl) (ee_iC (ee_cB (ee_L rfl) ee_K)) (ya_b01 _) (yv_I hv (by decide)) es_eV)))))
theorem yt_X5_setSlotNumber (σ : sy_Mem) (s f x : Int32) (hs : 0 ≤ s.toInt ∧ s.toInt < 4) (hf : 0 ≤ f.toInt ∧ f.toInt < 3) : sf_X5_setSlotNumber [.ref 0, .int s, .int f, .int x] σ = some (.inl none, sy_up σ 31 (3 * s.toNatClampNeg + f.toNatClampNeg) x) := by
  refine ee_meth ?_ rfl
  unfold sm_X5_setSlotNumber
  have e := yl_ix (n := 4) (m := 3) yl_c3 hs.1 hs.2 (by omega) hf.1 hf.2
  have hc : ((decide (0 ≤ s) && decide (s < 4)) && (decide (0 ≤ f) && decide (f < 3))) = true := by rw [Bool.and_eq_true, yl_isL, yl_isD]; exact ⟨hs, hf⟩
  rw [← e.2.1]
  refine es_Q ((es_I (r2 := none) (x := true) ((ee_cA (ee_cb (ee_M (ee_aI (ee_L rfl) (ee_aI ee_K ee_aN)) (ee_cs (yt_X5_isIn σ s 4) rfl))) (fun _ => ee_cb (ee_M (ee_aI (ee_L rfl) (ee_aI ee_K ee_aN)) (ee_cs (yt_X5_isIn σ f 3) rfl)))).trans (by rw [hc])) (fun _ => es_W (ee_rF (ee_R rfl) rfl) (ee_B (ee_B (ee_L rfl) ee_K) (ee_L rfl)) (ee_L rfl) e.2.2 es_eV) (fun h => absurd h (by decide))).trans (if_pos rfl))
/-- a slot filled with the fields of a segment -/
def ya_fillN (σ : sy_Mem) (s : Nat) (x : Int32) : Nat → sy_Mem
  | 0 => σ
  | i + 1 => sy_up (ya_fillN σ s x i) 31 (3 * s + i) (ya_N σ x (nI i))
theorem ya_fillN_ne (σ : sy_Mem) (s : Nat) (x : Int32) {k : Nat} (hk : k ≠ 31) : ∀ i, ya_fillN σ s x i k = σ k
  | 0 => rfl
  | i + 1 => by
    show sy_up _ 31 _ _ k = _
    rw [yu_ne hk, ya_fillN_ne σ s x hk i]
theorem ya_N_c {σ τ : sy_Mem} (h : σ 14 = τ 14) (s f : Int32) : ya_N σ s f = ya_N τ s f := by
  unfold ya_N
  rw [h]
theorem yt_X5_fillSlot (σ : sy_Mem) (s : Nat) (x : Int32) (hs : s < 4) : sf_X5_fillSlot [.ref 0, .int (nI s), .int x] σ = some (.inl none, ya_fillN σ s x 3) := by
  refine ee_meth ?_ rfl
  unfold sm_X5_fillSlot
  refine es_Q (es_B (es_Q (es_SI ee_K0 ?_)))
  refine es_loop (E := fun i => [.ref 0, .int (nI s), .int x, .int (nI i)]) (S := fun i => ya_fillN σ s x i) 3 0 1000 (by omega) (fun i _ hi => ?_) ?_ (fun i _ hi k' => ?_) es_eV
  · refine (ee_cB (ee_L rfl) ee_K).trans ?_
    rw [show decide (nI i < 3) = decide (i < 3) from yi_lt (N := 3) rfl (by omega) (by omega), decide_eq_true (by omega)]
  · rfl
  · have h1 : sf_X5_setSlotNumber [.ref 0, .int (nI s), .int (nI i), .int (ya_N (ya_fillN σ s x i) x (nI i))] (ya_fillN σ s x i) = some (.inl none, ya_fillN σ s x (i + 1)) := by
      rw [yt_X5_setSlotNumber _ _ _ _ (by rw [nI_toInt (by omega)]; omega) (by rw [nI_toInt (by omega)]; omega), nI_clamp (by omega), nI_clamp (by omega), ya_N_c (ya_fillN_ne σ s x (by decide) i)]
      rfl
    exact es_Q (es_C (ee_aR (ee_R rfl) (ee_aI (ee_L rfl) (ee_aI (ee_L rfl) (ee_aI (ee_M (ee_aR (ee_rF (ee_R rfl) rfl) (ee_aI (ee_L rfl) (ee_aI (ee_L rfl) ee_aN))) (ee_cv (yt_X3_numberOf _ x (nI i)) rfl)) ee_aN)))) (ee_cv h1 rfl) (es_In1 rfl rfl))
/-- one more is held -/
def ya_hold (σ : sy_Mem) (v n : Nat) (x : Int32) (q : Bool) : sy_Mem := sy_up (sy_up (sy_up σ (sy_vw v + 1) n x) (sy_vw v + 2) n (ya_b q)) (sy_vw v) 6 (nI (n + 1))
theorem yt_X4_hold (σ : sy_Mem) {v n : Nat} (hv : v < 4) (x : Int32) (q : Bool) (hn : σ (sy_vw v) 6 = nI n) (h4 : n < 4) : sf_X4_hold [.ref (sy_vw v), .int x, .int (ya_b q)] σ = some (.inl none, ya_hold σ v n x q) := by
  refine ee_meth ?_ rfl
  unfold sm_X4_hold
  have hb := yv_lt hv
  have hF : ∀ {τ : sy_Mem}, τ (sy_vw v) 6 = nI n → sy_iF 4 6 (sy_rL 0) [.ref (sy_vw v), .int x, .int (ya_b q)] τ = some (.inl (nI n), τ) := fun {τ} h => by rw [ee_F (ee_R rfl) (yv_I hv (by decide)), h]
  refine es_Q ((es_I (r2 := none) (x := true) ((ee_cB (hF hn) ee_K).trans (by rw [show decide (nI n < 4) = decide (n < 4) from yi_lt (N := 4) rfl (by omega) (by omega), decide_eq_true h4])) (fun _ => ?_) (fun h => absurd h (by decide))).trans (if_pos rfl))
  have h1 : (sy_up σ (sy_vw v + 1) n x) (sy_vw v) 6 = nI n := by rw [yu_ne (by omega), hn]
  have h2 : (sy_up (sy_up σ (sy_vw v + 1) n x) (sy_vw v + 2) n (ya_b q)) (sy_vw v) 6 = nI n := by rw [yu_ne (by omega), h1]
  refine es_Q (es_W (ee_rF (ee_R rfl) (yv_F7 hv)) (hF hn) (ee_L rfl) (by rw [yv_L7 hv]; exact yi_inbN h4 (by omega)) ?_)
  rw [nI_clamp (by omega)]
  refine es_Q (es_WZ (ee_rF (ee_R rfl) (yv_F8 hv)) (hF h1) (ee_L rfl) (ya_b01 q) (by rw [yv_L8 hv]; exact yi_inbN h4 (by omega)) ?_)
  rw [nI_clamp (by omega)]
  refine es_F (ee_R rfl) ee_K (yv_I hv (by decide)) ?_
  show sy_eV _ _ (sy_up _ (sy_vw v) 6 (_ + 1)) = _
  rw [h2, nI_1]
  rfl
/-- one segment delivered -/
def ya_one (σ : sy_Mem) (v n : Nat) (x : Int32) (h q : Bool) : sy_Mem := if h then ya_hold (ya_fillN σ n x 3) v n x q else ya_fillN σ n x 3
theorem yt_X5_deliverOne (σ : sy_Mem) {v n : Nat} (hv : v < 4) (x a : Int32) (h : Bool) (hn : h = true → σ (sy_vw v) 6 = nI n) (h4 : n < 4) : sf_X5_deliverOne [.ref 0, .ref (sy_vw v), .int x, .int (nI n), .int a, .int (ya_b h)] σ = some (.inl none, ya_one σ v n x h (ya_code σ a 32)) := by
  refine ee_meth ?_ rfl
  unfold sm_X5_deliverOne
  have hb := yv_lt hv
  refine es_Q (es_Q (es_C (ee_aR (ee_R rfl) (ee_aI (ee_L rfl) (ee_aI (ee_L rfl) ee_aN))) (ee_cv (yt_X5_fillSlot σ n x h4) rfl) ?_))
  have hcd : ya_code (ya_fillN σ n x 3) a 32 = ya_code σ a 32 := by
    unfold ya_code ya_ag ya_isA
    rw [ya_fillN_ne σ n x (by decide) 3, ya_fillN_ne σ n x (by decide) 3]
  refine (es_I (ee_cb (ee_L rfl)) (fun e => es_C (ee_aR (ee_R rfl) (ee_aI (ee_L rfl) (ee_aI (ee_M (ee_aR (ee_rF (ee_R rfl) rfl) (ee_aI (ee_L rfl) (ee_aI ee_K ee_aN))) (ee_cv (yt_X0_hasCode _ a 32) rfl)) ee_aN))) (ee_cv (yt_X4_hold _ hv x _ (by rw [ya_fillN_ne σ n x (by omega) 3]; exact hn e) h4) (yv_rc hv rfl)) es_eV) (fun _ => es_N es_eV)).trans ?_
  unfold ya_one
  rw [hcd]
  cases h <;> rfl
end YG1
