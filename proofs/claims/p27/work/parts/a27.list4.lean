section LA27
variable {A σ τ : sy_Mem} {t : Nat}
theorem up_same {k i : Nat} {x : Int32} (h : σ k i = x) : sy_up σ k i x = σ := by
  rw [← h]
  exact yu_same
theorem t_lists (I : yn_I t σ) (T : TT σ σ) (h7 : σ 1 0 = nI 7) (g7 : σ 52 0 = nI 7) (h19 : σ 19 0 = 0) (g1 : σ 52 1 = 0) (view x y : Int32) (pl : Bool) : ∃ τ, sf_L_lists (eLs view x y pl) σ = some (.inl (some (.int 1)), τ) ∧ LL t σ τ := by
  have L0 : LL t σ σ := by
    have e : lsN σ = 0 := by
      show (σ 19 0).toInt.toNat = 0
      rw [h19]
      rfl
    refine ⟨I, ⟨by rw [e, g1]; rfl, fun i hi => ?_⟩, fun _ _ => rfl, rfl⟩
    rw [e] at hi
    exact absurd hi (by omega)
  have n0 : lsN σ = 0 := by
    show (σ 19 0).toInt.toNat = 0
    rw [h19]
    rfl
  obtain ⟨-, -, -, -, -, -, kT, -⟩ := ll_is L0 T h7 g7
  refine ex_m ?_ (Nat.le_of_ble_eq_true rfl)
  have hc0 : sy_iM (sy_cv 5 0 sf_X5_clear) (sy_aR (sy_rL 0) sy_aN) (sy_ea (eLs view x y pl)) σ = some (.inl 0, σ) := by
    have e := f_X5_clear σ
    rw [up_same h19, h19] at e
    exact ee_M (ee_aR (ee_R rfl) ee_aN) (ee_cv e rfl)
  have hg0 : ∀ env : List Value, env[4]? = some (.ref 52) → sy_iA 0 (sy_rL 4) (sy_iK 0) env σ = some (.inl (nI 7), σ) := fun env h4 => by
    rw [← g7]
    exact ee_An (j := 0) (ee_R h4) ee_K (by decide) (by decide)
  refine ex_SI (x := 1) (ee_iC (x := true) (ee_eq (ee_cB hc0 (ee_An (j := 1) (ee_R rfl) ee_K (by decide) (by decide))) (decide_eq_true g1.symm))) ?_
  refine ex_D (fun k => es_Wn (j := 1) (ee_R rfl) ee_K ee_K (by decide) (by decide) rfl) ?_
  rw [up_same g1]
  obtain ⟨ty0, t1, t2⟩ := c_low (e := sy_iL 6) (σ := σ) (env := eLs view x y pl ++ [.int 1]) (n := 7) (by omega) (by omega) (ee_L rfl) (hg0 _ rfl)
  refine ex_SI t2 ?_
  -- a type of the view's database, if there is one
  refine ex_Q (R := fun e τ' => ∃ ty, ty < 7 ∧ e = eLs view x y pl ++ [.int 1, .int (nI ty)] ∧ τ' = σ) (sx_B (sx_SIQ ee_K ?_)) ?_
  · refine sx_wh (N := 8) (Inv := fun i env τ' => ∃ ty, ty < 7 ∧ env = eLs view x y pl ++ [.int 1, .int (nI ty), .int (nI i)] ∧ τ' = σ) (fun i env τ' hi hI => ?_) 8 0 1000 _ _ rfl (by omega) ⟨ty0, t1, rfl, rfl⟩
    obtain ⟨ty, h1, rfl, rfl⟩ := hI
    refine ⟨_, ee_cA (ee_cB (ee_L rfl) ee_K) (fun _ => ee_cB (ev_b I T (kT _ h1) (ee_R rfl) (ee_L rfl)) (ee_Dv (ee_L rfl) ee_K (by decide))), fun hx => ?_, fun _ => ⟨ty, h1, rfl, rfl⟩⟩
    rw [Bool.and_eq_true, show decide (nI i < 8) = decide (i < 8) from nI_ltd (q := 8) (by omega) (by omega), decide_eq_true_eq] at hx
    refine ⟨hx.1, ?_⟩
    refine sx_SIQ (x := nI ((ty + 1) % 7)) (ee_eq (ee_Dv (ee_B (ee_L rfl) ee_K) (hg0 _ rfl) (by decide)) ?_) (sx_D (fun k => es_In rfl rfl) ⟨(ty + 1) % 7, Nat.mod_lt _ (by omega), ?_, rfl⟩)
    · show (nI ty + nI 1) - (nI ty + nI 1) / nI 7 * nI 7 = _
      rw [nadd]
      exact nmod (by omega) (by omega)
    · exact congrArg (fun z => eLs view x y pl ++ [.int 1, .int (nI ((ty + 1) % 7)), .int z]) (nadd (a := i) (b := 1))
  rintro e τ' ⟨ty, hty, rfl, ht⟩
  rw [ht]
  clear ht τ' t2 t1 ty0
  refine ex_SI (ee_L rfl) ?_
  refine ex_Q (R := fun e τ' => ∃ f, f < 7 ∧ e = eLs view x y pl ++ [.int 1, .int (nI ty), .int (nI f)] ∧ τ' = σ) ?_ ?_
  · refine sx_wh (N := 4) (Inv := fun j env τ' => ∃ f l, env = eLs view x y pl ++ [.int 1, .int (nI ty), .int (nI f)] ∧ τ' = σ ∧ f < 7 ∧ tV σ (nI f) = nI l ∧ l + j ≤ 4) (fun j env τ' hj hI => ?_) 4 0 1000 _ _ rfl (by omega) ?_
    · obtain ⟨f, l, rfl, rfl, hf, hl, hlj⟩ := hI
      obtain ⟨l', l1, l2, l3, l4⟩ := lev_is I hf h7 (kT _ hf)
      have el : l = l' := by
        have := hl.symm.trans l3
        have := congrArg Int32.toInt this
        rw [nI_toInt (by omega), nI_toInt (by omega)] at this
        omega
      subst el
      obtain ⟨u, u1, u2⟩ := c_low (e := sy_iShr (sy_iL 7) (sy_iM (sy_cr 2 sf_L_level) (sy_aR (sy_rL 1) (sy_aI (sy_iL 11) sy_aN)))) (σ := τ') (env := eLs view x y pl ++ [.int 1, .int (nI ty), .int (nI f)]) (n := 3) (by omega) (by omega) (ee_B (ee_L rfl) (ev_v I T (kT _ hf) (ee_R rfl) (ee_L rfl))) ee_K
      refine ⟨_, ee_cA (ee_cB (ev_u I T (kT _ hf) (ee_R rfl) (ee_L rfl)) ee_K) (fun _ => ee_cB u2 ee_K), fun hx => ?_, fun _ => ⟨f, hf, rfl, rfl⟩⟩
      rw [Bool.and_eq_true] at hx
      rcases l4 with ⟨q, -⟩ | ⟨z', l', z1, z2, z3, z4, z5⟩
      · rw [q] at hx
        exact absurd hx.1 (by decide)
      · exact ⟨by omega, sx_SI (ee_eq (ev_u I T (kT _ hf) (ee_R rfl) (ee_L rfl)) z2) ⟨z', l', rfl, rfl, z1, z4, by omega⟩⟩
    · obtain ⟨l', l1, l2, l3, -⟩ := lev_is I hty h7 (kT _ hty)
      exact ⟨ty, l', rfl, rfl, hty, l3, by omega⟩
  rintro e τ' ⟨f, hf, rfl, ht⟩
  rw [ht]
  clear ht τ'
  obtain ⟨l1, a1, a2, a3, -⟩ := lev_is I hty h7 (kT _ hty)
  obtain ⟨l2, b1, b2, b3, -⟩ := lev_is I hf h7 (kT _ hf)
  obtain ⟨w, -, w2⟩ := c_low (e := sy_iShr (sy_iL 6) (sy_iK 4)) (σ := σ) (env := eLs view x y pl ++ [.int 1, .int (nI ty), .int (nI f)]) (n := 5) (by omega) (by omega) (ee_B (ee_L rfl) ee_K) ee_K
  obtain ⟨mn, hmn, hmn4⟩ : ∃ mn : Int32, (if decide (nI w = 0) then 0 else nI l1 - nI l2 + 1) = mn ∧ mn.toInt ≤ 4 := by
    refine ⟨_, rfl, ?_⟩
    cases decide (nI w = 0)
    · rcases (show l1 = 1 ∨ l1 = 2 ∨ l1 = 3 ∨ l1 = 4 by omega) with rfl | rfl | rfl | rfl <;> rcases (show l2 = 1 ∨ l2 = 2 ∨ l2 = 3 ∨ l2 = 4 by omega) with rfl | rfl | rfl | rfl <;> decide
    · show (0 : Int32).toInt ≤ 4
      decide
  refine ex_SI (ee_eq (ee_iQ (ee_cB w2 ee_K) (fun _ => ee_K) (fun _ => ee_B (ee_B (ee_eq (ev_v I T (kT _ hty) (ee_R rfl) (ee_L rfl)) a3) (ee_eq (ev_v I T (kT _ hf) (ee_R rfl) (ee_L rfl)) b3)) ee_K)) hmn) ?_
  refine ex_Q (R := fun e τ' => e = eLs view x y pl ++ [.int 1, .int (nI ty), .int (nI f), .int mn] ∧ LL t σ τ') (sx_B (sx_SIQ ee_K (lists_loop T h7 g7 hmn4 hty hf (fun z τ' L => ⟨rfl, L⟩) L0 n0))) ?_
  rintro e τ' ⟨rfl, L⟩
  obtain ⟨T', k1, k52, k521, k19, k4, kT', kN⟩ := ll_is L T h7 g7
  have I' := L.1
  refine ex_E (es_eZb (c := true) (ee_iC (ee_eq (ee_cA (x := true) (y := true) (ee_eq (ee_cA (x := true) (y := true) (ee_eq (ee_cA (x := true) (y := true) (ee_eq (ee_cA (x := true) (y := true) (ee_eq (ee_cA (x := true) (y := true) (ee_eq (ee_cA (x := true) (y := true) (ee_cb (c := true) (ee_L rfl)) (fun _ => ee_eq (ee_cB (ee_M (ee_aR (ee_R rfl) (ee_aI (ee_eq (ee_An (j := 0) (ee_R rfl) ee_K (by decide) (by decide)) k52) (ee_aI ee_K ee_aN))) (ee_cr (h_argE I' (nI 7) 64 (Or.inl kN)) rfl)) ee_K) (by rw [kN]; rfl))) rfl) (fun _ => ee_eq (ee_cB (ee_M (ee_aR (ee_R rfl) (ee_aI ee_K (ee_aI ee_K ee_aN))) (ee_cr (h_argE I' 0 64 (Or.inr ⟨kT' 0 (by omega), rfl⟩)) rfl)) ee_K) (by rw [show ya_isT τ' 0 = true from kT' 0 (by omega)]; rfl))) rfl) (fun _ => ee_eq (ee_cB (ee_M (ee_aR (ee_R rfl) (ee_aI (x := ya_b true) ee_K (ee_aI ee_K (ee_aI ee_K (ee_aI ee_K ee_aN))))) (ee_cr (h_condE I' true 3 6 0 (E := 1) (by decide) (by rw [if_neg (by decide)])) rfl)) ee_K) (by rw [xE1]; rfl))) rfl) (fun _ => ee_eq (ee_cB (ee_M (ee_aR (ee_R rfl) (ee_aI (x := ya_b true) ee_K (ee_aI ee_K (ee_aI ee_K (ee_aI ee_K ee_aN))))) (ee_cr (h_condE I' true 0 6 0 (E := 2) (by decide) (by rw [if_pos (by decide), if_neg (by decide)])) rfl)) ee_K) (by rw [xE2]; rfl))) rfl) (fun _ => ee_eq (ee_cB (ee_M (ee_aR (ee_R rfl) (ee_aI (x := ya_b true) ee_K (ee_aI ee_K (ee_aI ee_K (ee_aI ee_K ee_aN))))) (ee_cr (h_condE I' true 0 0 1000 (E := 2) (by decide) (by rw [if_pos (by decide), if_neg (by decide)])) rfl)) ee_K) (by rw [xE2]; rfl))) rfl) (fun _ => ?_)) rfl))) L
  by_cases n : lsN τ' = 0
  · rw [n] at k521 k19
    have hm : ya_more τ' = false := by
      unfold ya_more
      rw [k19]
      rfl
    exact ee_cO (x := false) (y := true) (ee_eq (ee_cB (ee_eq (ee_An (j := 1) (ee_R rfl) ee_K (by decide) (by decide)) k521) ee_K) rfl) (fun _ => ee_eq (ee_cB (ee_M (ee_aR (ee_R rfl) (ee_aI (x := ya_b true) ee_K (ee_aI ee_K (ee_aI ee_K (ee_aI ee_K ee_aN))))) (ee_cr (h_condE I' true 0 0 0 (E := 3) (by decide) (by rw [if_pos (by decide), if_pos (by decide), hm, if_neg (by decide)])) rfl)) ee_K) (by rw [xE3]; rfl))
  · exact ee_cO (x := true) (y := true) (ee_eq (ee_cB (ee_eq (ee_An (j := 1) (ee_R rfl) ee_K (by decide) (by decide)) k521) ee_K) (by rw [nI_gt0 (by omega)]; exact decide_eq_true (by omega))) (fun e => by cases e)
end LA27
