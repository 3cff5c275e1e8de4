section LA59
variable {A B F σ τ : sy_Mem} {t u n v : Nat} {env : List Value}
theorem s0_11 : ∀ i, i < 60 → sy_s0 11 i = -1 := by decide +kernel
theorem s0_13 : ∀ i, i < 60 → sy_s0 13 i = 0 := by decide +kernel
theorem s0_14 : ∀ i, i < 180 → sy_s0 14 i = 0 := by decide +kernel
theorem s0_16 : ∀ d, d < 3 → sy_s0 16 d = 0 := by decide +kernel
theorem s0_31 : ∀ i, i < 12 → sy_s0 31 i = 0 := by decide +kernel
theorem s0_1 : sy_s0 1 0 = 0 ∧ sy_s0 10 9 = 0 ∧ sy_s0 19 0 = 0 ∧ sy_s0 27 0 = 0 ∧ sy_s0 27 1 = 0 := by decide +kernel
theorem s0_v : ∀ v, v < 4 → sy_s0 (sy_vw v) 0 = 0 ∧ sy_s0 (sy_vw v) 1 = 0 ∧ sy_s0 (sy_vw v) 2 = -1 ∧ sy_s0 (sy_vw v) 3 = 0 ∧ sy_s0 (sy_vw v) 4 = 0 ∧ sy_s0 (sy_vw v) 5 = -1 ∧ sy_s0 (sy_vw v) 6 = 0 := by decide +kernel
theorem s0_l (s : Int32) : ¬ yl sy_s0 s := by
  unfold yl ya_sg
  by_cases h : (decide (0 ≤ s) && decide (s < 60)) = true
  · have := yl_isS.mp h
    rw [if_pos h, s0_11 _ (by rw [yi_clampInt]; omega)]
    exact fun e => e rfl
  · rw [if_neg h]
    exact fun e => e rfl
theorem s0_T (u : Int32) : ¬ ya_isT sy_s0 u = true := fun h => by
  have := yl_isT.mp h
  rw [s0_1.1, yl_c0] at this
  omega
theorem s0_I : yn_I 0 sy_s0 := by
  obtain ⟨h1, h10, h19, h27, h271⟩ := s0_1
  refine ⟨⟨by rw [h1]; decide, fun t h => absurd h (s0_T t), fun t u h => absurd h (s0_T t)⟩, ⟨fun s h => absurd h (s0_l s), fun i hi => by rw [s0_14 i hi]; decide⟩, ⟨fun d hd => by rw [s0_16 d hd]; decide, ⟨by rw [h10, s0_16 0 (by decide), s0_16 1 (by decide), s0_16 2 (by decide)]; decide, by rw [h10]; decide⟩, fun s h => absurd h (s0_l s), fun d p g1 g2 g3 g4 => ?_⟩, ⟨fun s h => absurd h (s0_l s), fun s _ _ h => absurd h (s0_l s), fun s _ h => absurd h (s0_l s), fun s _ h => absurd h (s0_l s), fun s _ h => absurd h (s0_l s), fun s _ h => absurd h (s0_l s)⟩, fun i hi => by rw [s0_13 i hi]; decide, fun v hv => ?_, ⟨by rw [h19]; decide, fun i hi => ?_, fun i hi => by rw [s0_31 i hi]; decide, by rw [h27]; decide, Or.inl h271⟩⟩
  · rw [ya_cnt_in ⟨g1, g2⟩, s0_16 _ (by rw [yi_clampInt]; omega), yl_c0] at g4
    omega
  · obtain ⟨a0, a1, a2, a3, a4, a5, a6⟩ := s0_v v hv
    unfold yn_v
    rw [a0, a1, a2, a3, a4, a5, a6]
    exact ⟨by decide, by decide, Or.inl rfl, Or.inl rfl, Or.inl rfl, Or.inl rfl, by decide, fun i hi => absurd hi (by rw [yl_c0]; omega)⟩
  · rw [h19, yl_c0] at hi
    omega
theorem s0_58 : ∀ k, k < 58 → 53 ≤ k → sy_s0 58 k = 0 := by decide +kernel
theorem s0_LI : LI 0 0 sy_s0 := by
  refine ⟨s0_I, fun i hi => ?_, ⟨by decide +kernel, by decide +kernel, by omega, fun i _ => ⟨rfl, rfl⟩, fun h => absurd h (by omega), fun h => absurd h (by omega), fun _ d hd => s0_16 d hd⟩, by decide +kernel, by decide +kernel, by decide +kernel, fun k h1 h2 => s0_58 k (by omega) h1⟩
  rw [s0_1.1, yl_c0] at hi
  omega
theorem LI_AF0 (L : LI t n σ) (I : yn_I u F) (h : AF σ F) (h16 : F 16 = σ 16) : LI u n F := by
  obtain ⟨-, T, ⟨s1, s2, s3, s4, s5, s6, s7⟩, -, -, V, -⟩ := L
  obtain ⟨f1, f2, f3, f4, f5, f6⟩ := h
  have e : ∀ k, k < 10 → F k = σ k := fun k hk => f1 k (Or.inl hk)
  refine ⟨I, add_TT T e (f1 44 (by omega)), ⟨?_, ?_, s3, fun i hi => ?_, fun h => ?_, fun h => ?_, fun h => by rw [h16]; exact s7 h⟩, f5, f4, fun w hw => ?_, f6⟩
  · rw [e 1 (by omega)]; exact s1
  · rw [f2]; exact s2
  · rw [e 8 (by omega), e 9 (by omega)]; exact s4 i hi
  · rw [e 2 (by omega), e 3 (by omega)]; exact s5 h
  · rw [e 2 (by omega), e 3 (by omega)]; exact s6 h
  · unfold vn
    rw [f3 w hw 0 (by omega), f3 w hw 1 (by omega), f1 51 (by omega)]
    exact V w hw
theorem c_types (h : env[1]? = some (.ref 0)) : sy_iM (sy_cv 5 0 sf_X5_types) (sy_aR (sy_rL 1) sy_aN) env σ = some (.inl (σ 1 0), σ) := ee_M (ee_aR (ee_R h) ee_aN) (ee_cv (r := some (.inl (some (.int (σ 1 0))), σ)) rfl rfl)
/-- a get where there is nothing -/
theorem get_none (I : yn_I t σ) (h19 : σ 19 0 = 0) (h16 : ∀ d, d < 3 → σ 16 d = 0) : ∃ G1 G2, sf_L_get [.ref 0, .int 0, .int 1, .int 0] σ = some (.inl (some (.int 3)), G1) ∧ sf_L_get [.ref 0, .int 0, .int 0, .int 0] σ = some (.inl (some (.int 7)), G2) ∧ G1 = ya_get σ 0 (nI 1) false ∧ G2 = ya_get σ 0 (nI 0) false := by
  have hL : ya_X5_isListOrdered σ 0 = true := by
    unfold ya_X5_isListOrdered
    rw [h19]
    rfl
  have hf : ∀ how, ya_finds σ 0 how = -1 := fun how => by
    refine Classical.byContradiction fun h => ?_
    obtain ⟨f1, f2, -⟩ := yg_finds I (show 0 < 4 by omega) h
    have hDr := yl_sD I.1 I.2.1 f1
    obtain ⟨p, p1, -⟩ := sg_of I f1 (d := (sD σ (ya_finds σ 0 how)).toInt.toNat) (by omega) (ntI (by omega) (by omega)).symm
    have : cn σ (sD σ (ya_finds σ 0 how)).toInt.toNat = 0 := by
      show (σ 16 (sD σ (ya_finds σ 0 how)).toInt.toNat).toInt.toNat = 0
      rw [h16 _ (by omega)]
      rfl
    omega
  obtain ⟨-, -, g3, g4, -⟩ := get_is (σ := σ) (show 0 < 4 by omega) (nI 1) false
  obtain ⟨-, -, k3, -, -⟩ := get_is (σ := σ) (show 0 < 4 by omega) (nI 0) false
  have a1 := g4 hL (fun h => absurd h.1 (by decide)) (hf _) (fun h => by
    rcases h with h | h
    · exact h rfl
    · rw [h19] at h
      exact absurd h (by decide))
  have a2 := k3 hL (fun h => absurd h.1 (by decide)) (hf _) (Or.inl (by decide))
  have b1 := h_get I (show 0 < 4 by omega) (way := 1) (by omega) false
  have b2 := h_get I (show 0 < 4 by omega) (way := 0) (by omega) false
  rw [a1.1] at b1
  rw [a2.1] at b2
  exact ⟨_, _, b1, b2, rfl, rfl⟩
theorem law_pre {bs L : Nat} {xs : Nat → Int32} : ∃ τ, (∀ k, (sy_sSI 11 (sy_iC (sy_cA (sy_cA (sy_cA (sy_cA (sy_cA (sy_ceq (sy_iM (sy_cv 5 0 sf_X5_types) (sy_aR (sy_rL 1) sy_aN)) (sy_iK 0)) (sy_ceq (sy_iM (sy_cr 2 sf_L_count) (sy_aR (sy_rL 1) (sy_aI (sy_iK 2) sy_aN))) (sy_iK 0))) (sy_ceq (sy_iM (sy_cr 2 sf_L_count) (sy_aR (sy_rL 1) (sy_aI (sy_iK 3) sy_aN))) (sy_iK (-1000001)))) (sy_ceq (sy_iM (sy_cr 4 sf_L_get) (sy_aR (sy_rL 1) (sy_aI (sy_iK 0) (sy_aI (sy_iK 1) (sy_aI (sy_iK 0) sy_aN))))) (sy_iK 3))) (sy_ceq (sy_iM (sy_cr 4 sf_L_get) (sy_aR (sy_rL 1) (sy_aI (sy_iK 0) (sy_aI (sy_iK 0) (sy_aI (sy_iK 0) sy_aN))))) (sy_iK 7))) (sy_ceq (sy_iM (sy_cr 2 sf_L_insert) (sy_aR (sy_rL 1) (sy_aI (sy_iK 0) sy_aN))) (sy_iK 4))))) (sy_env0 bs) k sy_s0 = k (sy_env0 bs ++ [.int (ya_b true)]) τ) ∧ LI 0 0 τ := by
  have L0 := s0_LI
  obtain ⟨I, T, ⟨s1, s2, s3, s4, s5, s6, s7⟩, h19, g1, V, g0⟩ := L0
  have s7 := s7 (by omega)
  obtain ⟨G1, -, a1, -, e1, -⟩ := get_none I h19 s7
  have I1 : yn_I 0 G1 := by
    rw [e1]
    exact yn_get I (by omega) _ _
  have k1 : ∀ k, k ≤ 18 ∨ 44 ≤ k → G1 k = sy_s0 k := fun k hk => by
    rw [e1]
    exact get_ne (by omega) (by omega)
  have h191 : G1 19 0 = 0 := by
    rw [e1]
    exact get_cell
  obtain ⟨-, G2, -, a2, -, e2⟩ := get_none I1 h191 (fun d hd => by rw [k1 16 (by omega)]; exact s7 d hd)
  have I2 : yn_I 0 G2 := by
    rw [e2]
    exact yn_get I1 (by omega) _ _
  have k2 : ∀ k, k ≤ 18 ∨ 44 ≤ k → G2 k = sy_s0 k := fun k hk => by
    rw [e2, get_ne (by omega) (by omega)]
    exact k1 k hk
  have h192 : G2 19 0 = 0 := by
    rw [e2]
    exact get_cell
  have hv : ∀ w, w < 4 → ∀ i, i < 2 → G2 (sy_vw w) i = sy_s0 (sy_vw w) i := fun w hw i hi => by
    rw [e2, get_v (by omega) hw hi, e1, get_v (by omega) hw hi]
  have hi := h_insert (τ := G2) (v := 0) (by omega) (ct_ins4 (A := sy_up G2 (sy_vw 0) 6 0) (yn_release I2 (by omega)) (by omega) (by
    unfold ig
    have : lsN (sy_up G2 (sy_vw 0) 6 0) = 0 := by
      show (sy_up G2 (sy_vw 0) 6 0 19 0).toInt.toNat = 0
      rw [yu_ne (by decide), h192]
      rfl
    rw [this]
    rfl))
  obtain ⟨F, hF⟩ : ∃ F, F = sy_up (sy_up G2 (sy_vw 0) 6 0) 19 0 0 := ⟨_, rfl⟩
  rw [← hF] at hi
  have IF : yn_I 0 F := by
    rw [hF]
    exact yn_drop (yn_release I2 (by omega))
  have kF : ∀ k, k ≤ 18 ∨ 44 ≤ k → F k = sy_s0 k := fun k hk => by
    have hb := yv_lt (show 0 < 4 by omega)
    rw [hF, yu_ne (by omega), yu_ne (by omega)]
    exact k2 k hk
  refine ⟨F, fun k => ?_, LI_AF0 s0_LI IF ⟨fun k hk => kF k (by omega), by rw [kF 52 (by omega)], fun w hw i hi => ?_, by rw [kF 52 (by omega)]; exact g1, by rw [hF]; exact yu_at, fun j a b => by rw [kF 58 (by omega)]; exact g0 j a b⟩ (kF 16 (by omega))⟩
  · refine es_SI (x := ya_b true) (σ1 := F) (ee_iC (ee_cAt (ee_cAt (ee_cAt (ee_cAt (ee_cAt (ee_eq (ee_cB (c_types rfl) ee_K) (decide_eq_true s1)) (ee_eq (ee_cB (ee_M (ee_aR (ee_R rfl) (ee_aI ee_K ee_aN)) (ee_cr (h_count I CP_self 2) rfl)) ee_K) ?_)) (ee_eq (ee_cB (ee_M (ee_aR (ee_R rfl) (ee_aI ee_K ee_aN)) (ee_cr (h_count I CP_self 3) rfl)) ee_K) (decide_eq_true rfl))) (ee_eq (ee_cB (ee_M (ee_aR (ee_R rfl) (ee_aI ee_K (ee_aI ee_K (ee_aI ee_K ee_aN)))) (ee_cr a1 rfl)) ee_K) (decide_eq_true rfl))) (ee_eq (ee_cB (ee_M (ee_aR (ee_R rfl) (ee_aI ee_K (ee_aI ee_K (ee_aI ee_K ee_aN)))) (ee_cr a2 rfl)) ee_K) (decide_eq_true rfl))) (ee_eq (ee_cB (ee_M (ee_aR (ee_R rfl) (ee_aI ee_K ee_aN)) (ee_cr hi rfl)) ee_K) (decide_eq_true rfl)))) rfl
    have := (cnt_nI I (show 2 < 3 by omega)).1
    have e3 : ya_cnt sy_s0 2 = 0 := by
      rw [show (2 : Int32) = nI 2 from rfl, this, show cn sy_s0 2 = 0 from by show (sy_s0 16 2).toInt.toNat = 0; rw [s7 2 (by omega)]; rfl]
      rfl
    rw [e3]
    rfl
  · rw [hF, yu_ne (by have := yv_lt hw; omega)]
    by_cases q : sy_vw w = sy_vw 0
    · rw [q, yu_an (by omega), ← q]
      exact hv w hw i hi
    · rw [yu_ne q]
      exact hv w hw i hi
theorem t_script {bs L : Nat} {xs : Nat → Int32} (hL : L ≤ 260) {m : Nat} (hm : m < 1000) : ∃ z, sf_L_at bs L xs [.retAddr bs, .int (nI m)] σ = some (.inl (some (.int z)), σ) := by
  have hsn : sy_iSn bs L [.retAddr bs, .int (nI m)] σ = some (.inl (nI L), σ) := by
    unfold sy_iSn sy_sA1
    simp
    rfl
  by_cases h : m < L
  · refine ⟨xs m, ke_meth ?_ (Nat.le_of_ble_eq_true rfl)⟩
    refine es_eI (ee_iQ1 (ee_eq (ee_cB (ee_L rfl) hsn) ?_) ?_)
    · show decide (nI m < nI L) = true
      rw [nI_ltd (by omega) (by omega)]
      exact decide_eq_true h
    · have hb : sy_inb (nI m) L = true := ki_inb h (by omega)
      have hc : (nI m).toNatClampNeg = m := nI_clamp (by omega)
      have hi : sy_iL 1 [.retAddr bs, .int (nI m)] σ = some (.inl (nI m), σ) := ee_L rfl
      unfold sy_iS
      show (if sy_sA1 (.retAddr bs) bs = true then sy_bnd (sy_iL 1 [.retAddr bs, .int (nI m)]) (fun j => if sy_inb j L = true then sy_ret (xs j.toNatClampNeg) else sy_fail) else sy_fail) σ = _
      rw [if_pos (by unfold sy_sA1; simp), sy_bnd_at hi, if_pos hb, hc]
      rfl
  · refine ⟨1474548169 * (nI m + 1) + 985004135, ke_meth ?_ (Nat.le_of_ble_eq_true rfl)⟩
    refine es_eI (ee_iQ2 (ee_eq (ee_cB (ee_L rfl) hsn) ?_) (ee_B (ee_B ee_K (ee_B (ee_L rfl) ee_K)) ee_K))
    show decide (nI m < nI L) = false
    rw [nI_ltd (by omega) (by omega)]
    exact decide_eq_false h
theorem ee_aS {bs : Nat} {as : sy_AE} {vs : List Value} (h0 : env[0]? = some (.retAddr bs)) (h : as env σ = some (.inl vs, τ)) : sy_aS bs as env σ = some (.inl (.retAddr bs :: vs), τ) := by
  unfold sy_aS
  rw [h0]
  show (if sy_sA1 (.retAddr bs) bs = true then sy_bnd (as env) (fun vs => sy_ret (.retAddr bs :: vs)) else sy_fail) σ = _
  rw [if_pos (by unfold sy_sA1; simp), sy_bnd_at h]
  rfl
theorem law_all {bs L : Nat} {xs : Nat → Int32} (hL : L ≤ 260) : ∃ τ, sy_lawM bs L xs sy_s0 = some (.inl (some (.int 1)), τ) := by
  obtain ⟨σp, hp, Lp⟩ := law_pre (bs := bs) (L := L) (xs := xs)
  suffices h : EX (sm_L_law bs L xs) (sy_env0 bs) sy_s0 (some (.int 1)) (fun _ => True) by
    obtain ⟨τ, h, -⟩ := h
    exact ⟨τ, h⟩
  unfold sm_L_law
  refine ex_D hp ?_
  refine ex_Q (R := fun e τ => e = sy_env0 bs ++ [.int (ya_b true)]) (sx_B (sx_SIQ ee_K ?_)) (fun e τ h => ⟨τ, ?_, trivial⟩)
  · refine sx_wh (N := 130) (Inv := fun i e τ => e = sy_env0 bs ++ [.int (ya_b true), .int (nI i)] ∧ ∃ n, LI (8 * i) n τ) (fun i e τ hi hI => ?_) 130 0 131 _ _ (by omega) (by omega) ⟨rfl, 0, Lp⟩
    obtain ⟨rfl, n, Li⟩ := hI
    refine ⟨decide (i < 130), ee_eq (ee_cA (ee_eq (ee_cB (ee_L rfl) ee_K) (nI_ltd (q := 130) (by omega) (by omega))) (fun _ => ee_cb (c := true) (ee_L rfl))) (Bool.and_true _), fun hx => ?_, fun hx => rfl⟩
    have hi2 := of_decide_eq_true hx
    refine ⟨hi2, ?_⟩
    obtain ⟨x, cx⟩ := t_script (σ := τ) (bs := bs) (L := L) (xs := xs) hL (m := 2 * i) (by omega)
    obtain ⟨y, cy⟩ := t_script (σ := τ) (bs := bs) (L := L) (xs := xs) hL (m := 2 * i + 1) (by omega)
    obtain ⟨F, n', cF, LF'⟩ := t_acts Li (by omega) x y
    have hX : (sy_iM (sy_cr 2 (sf_L_at bs L xs)) (sy_aS bs (sy_aI (sy_iMul (sy_iK 2) (sy_iL 12)) sy_aN))) (sy_env0 bs ++ [.int (ya_b true), .int (nI i)]) τ = some (.inl x, τ) := ee_M (ee_aS rfl (ee_aI (ee_eq (ee_B ee_K (ee_L rfl)) (show nI 2 * nI i = nI (2 * i) from nmul)) ee_aN)) (ee_cr cx rfl)
    have hY : (sy_iM (sy_cr 2 (sf_L_at bs L xs)) (sy_aS bs (sy_aI (sy_iAdd (sy_iMul (sy_iK 2) (sy_iL 12)) (sy_iK 1)) sy_aN))) (sy_env0 bs ++ [.int (ya_b true), .int (nI i)]) τ = some (.inl y, τ) := ee_M (ee_aS rfl (ee_aI (ee_eq (ee_B (ee_B ee_K (ee_L rfl)) ee_K) (show nI 2 * nI i + nI 1 = nI (2 * i + 1) by rw [nmul, nadd])) ee_aN)) (ee_cr cy rfl)
    have ht : decide (F 1 0 = F 52 0) = true := decide_eq_true (LF'.2.2.1.1.trans LF'.2.2.1.2.1.symm)
    refine ⟨_, F, ⟨rfl, n', LF'⟩, fun k => es_Q (es_SI (x := ya_b true) (σ1 := F) (ee_iC (ee_cAt (ee_cb (c := true) (ee_M (ee_aR (ee_R rfl) (ee_aR (ee_R rfl) (ee_aR (ee_R rfl) (ee_aR (ee_R rfl) (ee_aR (ee_R rfl) (ee_aR (ee_R rfl) (ee_aR (ee_R rfl) (ee_aR (ee_R rfl) (ee_aR (ee_R rfl) (ee_aR (ee_R rfl) (ee_aI hX (ee_aI hY ee_aN)))))))))))) (ee_cr cF rfl))) (ee_eq (ee_cB (c_types rfl) (ee_An (j := 0) (ee_R rfl) ee_K (by decide) (by decide))) ht))) (es_In rfl ?_))⟩
    exact congrArg (fun z => k (sy_env0 bs ++ [.int (ya_b true), .int z]) F) (nadd (a := i) (b := 1))
  · rw [h]
    exact es_eZb (c := true) (ee_L rfl)
end LA59
