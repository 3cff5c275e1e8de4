section LA29
variable {A σ τ : sy_Mem} {t n : Nat}
theorem h_typeE (I : yn_I t σ) (d p k r : Int32) {E : Nat} (hE : 1 ≤ E ∧ E ≤ 3) (h : (if ya_ty1 σ d p then (if ya_ty2 σ d p k r then (if ya_ty3 σ d p then 0 else 3) else 2) else 1) = E) : sf_L_type [.ref 0, .int d, .int p, .int k, .int r] σ = some (.inl (some (.int (sy_xE E))), σ) := by
  have hc := yt_X5_type I d p k r
  have : sf_X5_type [.ref 0, .int d, .int p, .int k, .int r] σ = some (.inr E, σ) := by
    rw [hc, ← h]
    revert h
    by_cases q1 : ya_ty1 σ d p = true
    · rw [if_pos q1, if_pos q1]
      by_cases q2 : ya_ty2 σ d p k r = true
      · rw [if_pos q2, if_pos q2]
        by_cases q3 : ya_ty3 σ d p = true
        · rw [if_pos q3]
          intro h
          omega
        · rw [if_neg q3, if_neg q3]
          intro _
          rfl
      · rw [if_neg q2, if_neg q2]
        intro _
        rfl
    · rw [if_neg q1, if_neg q1]
      intro _
      rfl
  exact ke_meth (kh_IE (ee_aR (ee_R rfl) (ee_aI (ee_L rfl) (ee_aI (ee_L rfl) (ee_aI (ee_L rfl) (ee_aI (ee_L rfl) ee_aN))))) (ee_cv this rfl) hE) (Nat.le_of_ble_eq_true rfl)
theorem h_tieE (I : yn_I t σ) (x u c g : Int32) {E : Nat} (hE : 1 ≤ E ∧ E ≤ 3) (h : (if ya_ti1 σ x u then (if ya_ti2 σ x u c g then (if ya_ti3 σ x then 0 else 3) else 2) else 1) = E) : sf_L_tie [.ref 0, .int x, .int u, .int c, .int g] σ = some (.inl (some (.int (sy_xE E))), σ) := by
  have hc := yt_X5_tie (yn_Wo I) x u c g
  have : sf_X5_tie [.ref 0, .int x, .int u, .int c, .int g] σ = some (.inr E, σ) := by
    rw [hc, ← h]
    revert h
    by_cases q1 : ya_ti1 σ x u = true
    · rw [if_pos q1, if_pos q1]
      by_cases q2 : ya_ti2 σ x u c g = true
      · rw [if_pos q2, if_pos q2]
        by_cases q3 : ya_ti3 σ x = true
        · rw [if_pos q3]
          intro h
          omega
        · rw [if_neg q3, if_neg q3]
          intro _
          rfl
      · rw [if_neg q2, if_neg q2]
        intro _
        rfl
    · rw [if_neg q1, if_neg q1]
      intro _
      rfl
  exact ke_meth (kh_VE (ee_aR (ee_R rfl) (ee_aI (ee_L rfl) (ee_aI (ee_L rfl) (ee_aI (ee_L rfl) (ee_aI (ee_L rfl) ee_aN))))) (ee_cv this rfl) hE) (Nat.le_of_ble_eq_true rfl)
def mB (σ : sy_Mem) (i w : Nat) : sy_Mem := sy_up σ 44 i (σ 44 i + nI w)
theorem li_tie (L : LI t n σ) {i : Nat} (hi : i < n) (h7 : σ 7 i = -1) (h3 : σ 3 i ≠ -1) (h8 : σ 8 i = 0) (h9 : σ 9 i = 0) (hcn : ∀ d, ya_cnt σ d = 0) (h2 : 2 ≤ n) {u c g : Nat} (hu : u < 2) (hc : c < 2) (hg : g < 3) :
    sf_L_tie [.ref 0, .int (nI i), .int (nI u), .int (nI c), .int (nI g)] (mB σ i (8192 * (u + 1) + 131072 * c + 262144 * g)) = some (.inl (some (.int 0)), ya_bind (mB σ i (8192 * (u + 1) + 131072 * c + 262144 * g)) i (nI u) (nI c) (nI g)) ∧ LI t n (ya_bind (mB σ i (8192 * (u + 1) + 131072 * c + 262144 * g)) i (nI u) (nI c) (nI g)) ∧ ya_bind (mB σ i (8192 * (u + 1) + 131072 * c + 262144 * g)) i (nI u) (nI c) (nI g) 7 i = nI u ∧ (∀ k, k ≠ 7 → k ≠ 8 → k ≠ 9 → k ≠ 44 → ya_bind (mB σ i (8192 * (u + 1) + 131072 * c + 262144 * g)) i (nI u) (nI c) (nI g) k = σ k) := by
  have L0 := L
  obtain ⟨I, T, ⟨s1, s2, s3, s4, s5, s6, s7⟩, h19, h521, hV, hN⟩ := L
  have B1 : (nI u).toInt = u := nI_toInt (by omega)
  have B2 : (nI c).toInt = c := nI_toInt (by omega)
  have B3 : (nI g).toInt = g := nI_toInt (by omega)
  have h3u : σ 3 u = -1 := by
    rcases (show u = 0 ∨ u = 1 by omega) with rfl | rfl
    · exact (s5 (by omega)).2
    · exact (s6 (by omega)).2
  generalize hw : 8192 * (u + 1) + 131072 * c + 262144 * g = w
  have hm : ∀ k, k ≠ 44 → mB σ i w k = σ k := fun k h1 => up_ne h1
  have I1 : yn_I t (mB σ i w) := yn_I_lt I (fun k hk => hm k (by omega))
  have e1 : ∀ x, ya_isT (mB σ i w) x = ya_isT σ x := fun x => ya_isT_c (hm 1 (by omega)) x
  have hTi := li_T L0 hi
  have hTu := li_T L0 (show u < n by omega)
  have hci : (nI i).toNatClampNeg = i := nI_clamp (by omega)
  have hcu : (nI u).toNatClampNeg = u := nI_clamp (by omega)
  have ti1 : ya_ti1 (mB σ i w) (nI i) (nI u) = true := by
    unfold ya_ti1
    rw [e1, e1, hTi, hTu]
    rfl
  have ti2 : ya_ti2 (mB σ i w) (nI i) (nI u) (nI c) (nI g) = true := by
    unfold ya_ti2 ya_X2_isRootType
    rw [e1, e1, hTi, hTu, hci, hcu, hm 3 (by omega), decide_eq_false h3, decide_eq_true h3u, show (decide ((0 : Int32) ≤ nI g) && decide (nI g < 3)) = true from yl_isD.mpr (by omega)]
    rcases (show c = 0 ∨ c = 1 by omega) with rfl | rfl <;> rfl
  have tg7 : tG (mB σ i w) (nI i) = -1 := by
    show ya_tg (mB σ i w) 7 (-1) (nI i) = -1
    rw [ya_tg_c (hm 1 (by omega)) (hm 7 (by omega)), li_tg L0 hi]
    exact h7
  have ti3 : ya_ti3 (mB σ i w) (nI i) = true := by
    unfold ya_ti3
    rw [show ya_cnt (mB σ i w) (tD (mB σ i w) (nI i)) = 0 from hcn _, tg7]
    rfl
  have ht := yt_X5_tie (yn_Wo I1) (nI i) (nI u) (nI c) (nI g)
  rw [ti1, ti2, ti3, if_pos rfl, if_pos rfl, if_pos rfl, hci] at ht
  have hP : tP (mB σ i w) (nI u) = -1 := by
    show ya_tg (mB σ i w) 3 (-1) (nI u) = -1
    rw [ya_tg_c (hm 1 (by omega)) (hm 3 (by omega)), li_tg L0 (show u < n by omega)]
    exact h3u
  have I2 := yn_bind I1 (x := nI i) (u := nI u) (c := nI c) (g := nI g) (by rw [e1]; exact hTi) (by rw [e1]; exact hTu) hP
  rw [hci] at I2
  have bn : ∀ {k : Nat}, k ≠ 7 ∧ k ≠ 8 ∧ k ≠ 9 → ya_bind (mB σ i w) i (nI u) (nI c) (nI g) k = mB σ i w k := fun h => ya_bind_ne h
  have bi : ya_bind (mB σ i w) i (nI u) (nI c) (nI g) 7 i = nI u ∧ ya_bind (mB σ i w) i (nI u) (nI c) (nI g) 8 i = nI c ∧ ya_bind (mB σ i w) i (nI u) (nI c) (nI g) 9 i = nI g := by
    unfold ya_bind
    refine ⟨?_, ?_, ?_⟩
    · rw [yu_ne (by decide), yu_ne (by decide), yu_at]
    · rw [yu_ne (by decide), yu_at]
    · rw [yu_at]
  have ba : ∀ {k j : Nat}, j ≠ i → ya_bind (mB σ i w) i (nI u) (nI c) (nI g) k j = mB σ i w k j := fun {k j} h => by
    unfold ya_bind
    by_cases k9 : k = 9
    · rw [k9, yu_an h, yu_ne (by decide), yu_ne (by decide)]
    · by_cases k8 : k = 8
      · rw [k8, yu_ne (by decide), yu_an h, yu_ne (by decide)]
      · by_cases k7 : k = 7
        · rw [k7, yu_ne (by decide), yu_ne (by decide), yu_an h]
        · rw [yu_ne k9, yu_ne k8, yu_ne k7]
  have fr : ∀ k, k ≠ 7 → k ≠ 8 → k ≠ 9 → k ≠ 44 → ya_bind (mB σ i w) i (nI u) (nI c) (nI g) k = σ k := fun k a b c d => by rw [bn ⟨a, b, c⟩, hm k d]
  have C3 : ∀ X w, 8192 * (u + 1) + 131072 * c + 262144 * g = w → X + 8192 * ((-1 : Int32).toInt + 1).toNat + 131072 * (0 : Int32).toInt.toNat + 262144 * (0 : Int32).toInt.toNat + w = X + 8192 * ((u : Int) + 1).toNat + 131072 * (c : Int).toNat + 262144 * (g : Int).toNat := fun X w h => by
    rw [show ((-1 : Int32).toInt + 1).toNat = 0 from rfl, show (0 : Int32).toInt.toNat = 0 from rfl, show ((u : Int) + 1).toNat = u + 1 from rfl, Int.toNat_natCast, Int.toNat_natCast]
    omega
  refine ⟨ke_meth (kh_V (ee_aR (ee_R rfl) (ee_aI (ee_L rfl) (ee_aI (ee_L rfl) (ee_aI (ee_L rfl) (ee_aI (ee_L rfl) ee_aN))))) (ee_cv ht rfl)) (Nat.le_of_ble_eq_true rfl), ⟨I2, fun j hj => ?_, ⟨?_, ?_, s3, fun j hj => ?_, fun h => ?_, fun h => ?_, fun h d hd => ?_⟩, ?_, ?_, fun v hv => ?_, fun k k1 k2 => ?_⟩, bi.1, fr⟩
  · rw [fr 1 (by omega) (by omega) (by omega) (by omega)] at hj
    obtain ⟨T1, T2⟩ := T j hj
    by_cases e : j = i
    · subst e
      rw [bi.2.1, bi.2.2, bn (k := 44) (by decide)]
      refine ⟨?_, by omega, by omega⟩
      have e44 : mB σ j w 44 j = nI (tn σ j + w) := by
        unfold mB
        rw [up_at, if_pos rfl, T1, nadd]
      rw [e44]
      refine congrArg nI ?_
      unfold tn
      rw [fr 2 (by omega) (by omega) (by omega) (by omega), fr 3 (by omega) (by omega) (by omega) (by omega), fr 4 (by omega) (by omega) (by omega) (by omega), fr 5 (by omega) (by omega) (by omega) (by omega), fr 6 (by omega) (by omega) (by omega) (by omega), bi.1, bi.2.1, bi.2.2, h7, h8, h9, B1, B2, B3]
      generalize (σ 2 j).toInt.toNat + 4 * ((σ 3 j).toInt + 1).toNat + 64 * (σ 5 j).toInt.toNat + 256 * (σ 6 j).toInt.toNat + 1024 * (σ 4 j).toInt.toNat = X
      exact C3 X w hw
    · have etn : tn (ya_bind (mB σ i w) i (nI u) (nI c) (nI g)) j = tn σ j := by
        unfold tn
        rw [ba e, ba e, ba e, ba e, ba e, ba e, ba e, ba e, hm 2 (by omega), hm 3 (by omega), hm 4 (by omega), hm 5 (by omega), hm 6 (by omega), hm 7 (by omega), hm 8 (by omega), hm 9 (by omega)]
      rw [etn, ba e, ba e, ba e, hm 8 (by omega), hm 9 (by omega)]
      refine ⟨?_, T2⟩
      unfold mB
      rw [up_at, if_neg e]
      exact T1
  · rw [fr 1 (by omega) (by omega) (by omega) (by omega)]; exact s1
  · rw [fr 52 (by omega) (by omega) (by omega) (by omega)]; exact s2
  · rw [ba (by omega), ba (by omega), hm 8 (by omega), hm 9 (by omega)]
    exact s4 j hj
  · rw [fr 2 (by omega) (by omega) (by omega) (by omega), fr 3 (by omega) (by omega) (by omega) (by omega)]
    exact s5 h
  · rw [fr 2 (by omega) (by omega) (by omega) (by omega), fr 3 (by omega) (by omega) (by omega) (by omega)]
    exact s6 h
  · rw [fr 16 (by omega) (by omega) (by omega) (by omega)]
    exact s7 h d hd
  · rw [fr 19 (by omega) (by omega) (by omega) (by omega)]; exact h19
  · rw [fr 52 (by omega) (by omega) (by omega) (by omega)]; exact h521
  · rw [fr 51 (by omega) (by omega) (by omega) (by omega), hV v hv]
    exact congrArg nI (vn_c hv (fun j h1 h2 => fr j (by omega) (by omega) (by omega) (by omega))).symm
  · rw [fr 58 (by omega) (by omega) (by omega) (by omega)]
    exact hN k k1 k2
end LA29
