section LA26
variable {A σ τ : sy_Mem} {t : Nat}
/-- up from a type, while the level is above one -/
theorem lists_its (I : yn_I t τ) (T : TT τ τ) (h7 : τ 1 0 = nI 7) (kT : ∀ y, y < 7 → ya_isT τ (nI y) = true) {view x y : Int32} {pl : Bool} {ty fi i : Nat} {mn : Int32} (hfi : fi < 7) (hty : ty < 7) (hi : i < 5) {Q : List Value → sy_Mem → Prop} (hQ : ∀ z, z < 7 → Q (eLs view x y pl ++ [.int 1, .int (nI ty), .int (nI fi), .int mn, .int (nI i), .int (nI z)]) τ) :
    SX (sy_wh (sy_cgt (sy_iM (sy_cr 2 sf_L_level) (sy_aR (sy_rL 1) (sy_aI (sy_iL 14) sy_aN))) (sy_iAdd (sy_iM (sy_cr 2 sf_L_level) (sy_aR (sy_rL 1) (sy_aI (sy_iL 11) sy_aN))) (sy_iL 13))) (sy_sSI 14 (sy_iM (sy_cr 2 sf_L_above) (sy_aR (sy_rL 1) (sy_aI (sy_iL 14) sy_aN)))) 1000) (eLs view x y pl ++ [.int 1, .int (nI ty), .int (nI fi), .int mn, .int (nI i), .int (nI ty)]) τ Q := by
  refine sx_wh (N := 4) (Inv := fun j env τ' => ∃ z l, env = eLs view x y pl ++ [.int 1, .int (nI ty), .int (nI fi), .int mn, .int (nI i), .int (nI z)] ∧ τ' = τ ∧ z < 7 ∧ tV τ (nI z) = nI l ∧ l + j ≤ 4) (fun j env τ' hj hI => ?_) 4 0 1000 _ _ rfl (by omega) ?_
  · obtain ⟨z, l, rfl, rfl, hz, hl, hlj⟩ := hI
    obtain ⟨lf, f1, f2, f3, -⟩ := lev_is I hfi h7 (kT _ hfi)
    obtain ⟨l', l1, l2, l3, l4⟩ := lev_is I hz h7 (kT _ hz)
    have el : l = l' := by
      have := hl.symm.trans l3
      have := congrArg Int32.toInt this
      rw [nI_toInt (by omega), nI_toInt (by omega)] at this
      omega
    subst el
    refine ⟨decide (lf + i < l), ?_, fun hx => ?_, fun _ => hQ z hz⟩
    · refine ee_eq (ee_cB (ev_v I T (kT _ hz) (ee_R rfl) (ee_L rfl)) (ee_B (ev_v I T (kT _ hfi) (ee_R rfl) (ee_L rfl)) (ee_L rfl))) ?_
      rw [hl, f3, nadd]
      exact nI_ltd (by omega) (by omega)
    · have hx := of_decide_eq_true hx
      rcases l4 with ⟨-, q⟩ | ⟨z', l', z1, z2, z3, z4, z5⟩
      · omega
      · exact ⟨by omega, sx_SI (ee_eq (ev_u I T (kT _ hz) (ee_R rfl) (ee_L rfl)) z2) ⟨z', l', rfl, rfl, z1, z4, by omega⟩⟩
  · obtain ⟨l', l1, l2, l3, -⟩ := lev_is I hty h7 (kT _ hty)
    exact ⟨ty, l', rfl, rfl, hty, l3, by omega⟩
theorem lists_loop (T : TT σ σ) (h7 : σ 1 0 = nI 7) (g7 : σ 52 0 = nI 7) {view x y : Int32} {pl : Bool} {ty fi : Nat} {mn : Int32} (hmn : mn.toInt ≤ 4) (hty : ty < 7) (hfi : fi < 7) {Q : List Value → sy_Mem → Prop} (hQ : ∀ z τ', LL t σ τ' → Q (eLs view x y pl ++ [.int 1, .int (nI ty), .int (nI fi), .int mn, .int z]) τ') (L : LL t σ τ) (hn : lsN τ = 0) :
    SX (sy_wh (sy_cA (sy_clt (sy_iL 13) (sy_iL 12)) (sy_cI (sy_iL 9))) (sy_sQ (sy_sB 14 (sy_sQ (sy_sSI 14 (sy_iL 10)) (sy_sQ (sy_wh (sy_cgt (sy_iM (sy_cr 2 sf_L_level) (sy_aR (sy_rL 1) (sy_aI (sy_iL 14) sy_aN))) (sy_iAdd (sy_iM (sy_cr 2 sf_L_level) (sy_aR (sy_rL 1) (sy_aI (sy_iL 11) sy_aN))) (sy_iL 13))) (sy_sSI 14 (sy_iM (sy_cr 2 sf_L_above) (sy_aR (sy_rL 1) (sy_aI (sy_iL 14) sy_aN)))) 1000) (sy_sQ (sy_sSI 14 (sy_iQ (sy_ceq (sy_iM (sy_cr 2 sf_L_low) (sy_aI (sy_iShr (sy_iL 6) (sy_iAdd (sy_iK 7) (sy_iL 13))) (sy_aI (sy_iK 19) sy_aN))) (sy_iK 0)) (sy_iM (sy_cr 2 sf_L_low) (sy_aI (sy_iL 7) (sy_aI (sy_iA 0 (sy_rL 4) (sy_iK 0)) sy_aN))) (sy_iL 14))) (sy_sQ (sy_sSI 15 (sy_iA 0 (sy_rL 4) (sy_iK 1))) (sy_sI (sy_cO (sy_cO (sy_cI (sy_iL 8)) (sy_ceq (sy_iL 13) (sy_iSub (sy_iL 12) (sy_iK 1)))) (sy_cgt (sy_iM (sy_cr 2 sf_L_low) (sy_aI (sy_iShr (sy_iL 7) (sy_iAdd (sy_iK 5) (sy_iL 13))) (sy_aI (sy_iK 4) sy_aN))) (sy_iK 0))) (sy_sB 16 (sy_sQ (sy_sSI 16 (sy_iQ (sy_ceq (sy_iM (sy_cr 2 sf_L_low) (sy_aI (sy_iShr (sy_iL 7) (sy_iAdd (sy_iK 4) (sy_iMul (sy_iK 3) (sy_iL 13)))) (sy_aI (sy_iK 3) sy_aN))) (sy_iK 0)) (sy_iM (sy_cr 2 sf_L_low) (sy_aI (sy_iShr (sy_iL 6) (sy_iAdd (sy_iK 6) (sy_iL 13))) (sy_aI (sy_iK 64) sy_aN))) (sy_iM (sy_cr 2 sf_L_low) (sy_aI (sy_iShr (sy_iL 6) (sy_iAdd (sy_iK 6) (sy_iL 13))) (sy_aI (sy_iK 2) sy_aN))))) (sy_sQ (sy_sSI 16 (sy_iQ (sy_cI (sy_iL 8)) (sy_iAnd (sy_iL 16) (sy_iK 1)) (sy_iL 16))) (sy_sQ (sy_sW (sy_rL 2) (sy_iL 15) (sy_iAdd (sy_iL 14) (sy_iMul (sy_iK 16) (sy_iL 16)))) (sy_sQ (sy_sWL (sy_rL 3) (sy_iL 15) (sy_lK 0)) (sy_sQ (sy_sA (sy_rL 4) (sy_iK 1) (sy_iK 1)) (sy_sQ (sy_sSI 9 (sy_iC (sy_ceq (sy_iM (sy_cr 3 sf_L_argument) (sy_aR (sy_rL 0) (sy_aI (sy_iL 14) (sy_aI (sy_iL 16) sy_aN)))) (sy_iA 0 (sy_rL 4) (sy_iK 1))))) (sy_sQ (sy_sSI 17 (sy_iQ (sy_cI (sy_iL 8)) (sy_iQ (sy_cO (sy_ceq (sy_iM (sy_cr 2 sf_L_low) (sy_aI (sy_iShr (sy_iL 6) (sy_iAdd (sy_iK 9) (sy_iL 13))) (sy_aI (sy_iK 12) sy_aN))) (sy_iK 0)) (sy_cA (sy_clt (sy_iL 13) (sy_iSub (sy_iL 12) (sy_iK 1))) (sy_ceq (sy_iM (sy_cr 2 sf_L_low) (sy_aI (sy_iShr (sy_iL 7) (sy_iAdd (sy_iK 7) (sy_iL 13))) (sy_aI (sy_iK 2) sy_aN))) (sy_iK 0)))) (sy_iK 1) (sy_iK 0)) (sy_iM (sy_cr 2 sf_L_low) (sy_aI (sy_iShr (sy_iL 7) (sy_iAdd (sy_iK 9) (sy_iL 13))) (sy_aI (sy_iK 4) sy_aN))))) (sy_sB 18 (sy_sQ (sy_sSI 18 (sy_iK 0)) (sy_wh (sy_cA (sy_clt (sy_iL 18) (sy_iL 17)) (sy_cI (sy_iL 9))) (sy_sQ (sy_sB 19 (sy_sQ (sy_sSI 19 (sy_iM (sy_cr 2 sf_L_low) (sy_aI (sy_iShr (sy_iL 6) (sy_iAdd (sy_iK 11) (sy_iL 18))) (sy_aI (sy_iK 2) sy_aN)))) (sy_sQ (sy_sSI 20 (sy_iM (sy_cr 2 sf_L_low) (sy_aI (sy_iShr (sy_iL 6) (sy_iAdd (sy_iK 13) (sy_iL 18))) (sy_aI (sy_iK 3) sy_aN)))) (sy_sQ (sy_sSI 21 (sy_iM (sy_cr 2 sf_L_low) (sy_aI (sy_iShr (sy_iL 7) (sy_iAdd (sy_iK 12) (sy_iL 18))) (sy_aI (sy_iK 6) sy_aN)))) (sy_sQ (sy_sSI 22 (sy_iM (sy_cr 2 sf_L_low) (sy_aI (sy_iShr (sy_iL 7) (sy_iAdd (sy_iMul (sy_iK 2) (sy_iL 18)) (sy_iL 13))) (sy_aI (sy_iK 12) sy_aN)))) (sy_sQ (sy_sAL (sy_rL 3) (sy_iL 15) (sy_lB (fun x y => x + y) (sy_lK 1) (sy_lS (fun x y => x <<< y) (sy_lI (sy_iAdd (sy_iAdd (sy_iAdd (sy_iL 19) (sy_iMul (sy_iK 2) (sy_iL 20))) (sy_iMul (sy_iK 8) (sy_iL 21))) (sy_iMul (sy_iK 64) (sy_iL 22)))) (sy_iAdd (sy_iK 2) (sy_iMul (sy_iK 16) (sy_iL 18)))))) (sy_sSI 9 (sy_iC (sy_ceq (sy_iM (sy_cr 5 sf_L_condition) (sy_aR (sy_rL 0) (sy_aI (sy_iC (sy_ceq (sy_iL 19) (sy_iK 1))) (sy_aI (sy_iL 20) (sy_aI (sy_iL 21) (sy_aI (sy_iL 22) sy_aN)))))) (sy_iAdd (sy_iL 18) (sy_iK 1))))))))))) (sy_sIn 18 1)) 5))))))))))) sy_sN)))))) (sy_sIn 13 1)) 6) (eLs view x y pl ++ [.int 1, .int (nI ty), .int (nI fi), .int mn, .int 0]) τ Q := by
  refine sx_wh (N := 4) (Inv := fun i env τ' => env = eLs view x y pl ++ [.int 1, .int (nI ty), .int (nI fi), .int mn, .int (nI i)] ∧ LL t σ τ' ∧ lsN τ' ≤ i) (fun i env τ' hi hI => ?_) 4 0 6 _ _ rfl (by omega) ⟨rfl, L, by omega⟩
  obtain ⟨rfl, L', hn'⟩ := hI
  refine ⟨_, ee_cA (y := true) (ee_cB (ee_L rfl) (ee_L rfl)) (fun _ => ee_cb (c := true) (ee_L rfl)), fun hx => ?_, fun _ => hQ _ _ L'⟩
  rw [Bool.and_true, decide_eq_true_eq, Int32.lt_iff_toInt_lt, nI_toInt (by omega)] at hx
  have hi4 : i < 4 := by omega
  refine ⟨hi4, ?_⟩
  obtain ⟨T', k1, k52, k521, k19, k4, kT, -⟩ := ll_is L' T h7 g7
  have I' := L'.1
  refine sx_Q (R := fun e τ2 => e = eLs view x y pl ++ [.int 1, .int (nI ty), .int (nI fi), .int mn, .int (nI i)] ∧ LL t σ τ2 ∧ lsN τ2 ≤ i + 1) (sx_B ?_) (fun e τ2 h => ⟨_, _, ⟨rfl, h.2⟩, fun k => ?_⟩)
  · refine sx_SIQ (ee_L rfl) ?_
    refine sx_Q (R := fun e τ2 => ∃ z, z < 7 ∧ e = eLs view x y pl ++ [.int 1, .int (nI ty), .int (nI fi), .int mn, .int (nI i), .int (nI z)] ∧ τ2 = τ') (lists_its I' T' k1 kT hfi hty (by omega) (fun z hz => ⟨z, hz, rfl, rfl⟩)) ?_
    rintro e τ2 ⟨z, hz, rfl, ht⟩
    rw [ht]
    clear ht τ2
    -- the type
    have hg0 : ∀ env : List Value, env[4]? = some (.ref 52) → sy_iA 0 (sy_rL 4) (sy_iK 0) env τ' = some (.inl (nI 7), τ') := fun env h4 => by
      rw [← k52]
      exact ee_An (j := 0) (ee_R h4) ee_K (by decide) (by decide)
    have hg1 : ∀ env : List Value, env[4]? = some (.ref 52) → sy_iA 0 (sy_rL 4) (sy_iK 1) env τ' = some (.inl (nI (lsN τ')), τ') := fun env h4 => by
      rw [← k521]
      exact ee_An (j := 1) (ee_R h4) ee_K (by decide) (by decide)
    obtain ⟨a1, -, a2⟩ := c_low (e := sy_iShr (sy_iL 6) (sy_iAdd (sy_iK 7) (sy_iL 13))) (σ := τ') (env := eLs view x y pl ++ [.int 1, .int (nI ty), .int (nI fi), .int mn, .int (nI i), .int (nI z)]) (n := 19) (by omega) (by omega) (ee_B (ee_L (i := 6) rfl) (ee_B (ee_K (v := 7)) (ee_L (i := 13) rfl))) ee_K
    obtain ⟨b1, b2, b3⟩ := c_low (σ := τ') (env := eLs view x y pl ++ [.int 1, .int (nI ty), .int (nI fi), .int mn, .int (nI i), .int (nI z)]) (n := 7) (by omega) (by omega) (ee_L (i := 7) rfl) (hg0 _ rfl)
    obtain ⟨it, it7, hit⟩ : ∃ it, it < 7 ∧ (if decide (nI a1 = 0) then nI b1 else nI z) = nI it := by
      cases decide (nI a1 = 0)
      · exact ⟨z, hz, rfl⟩
      · exact ⟨b1, b2, rfl⟩
    refine sx_SIQ (ee_eq (ee_iQ (ee_cB a2 ee_K) (fun _ => b3) (fun _ => ee_L rfl)) hit) ?_
    refine sx_SIQ (hg1 _ rfl) ?_
    obtain ⟨d1, -, d2⟩ := c_low (e := sy_iShr (sy_iL 7) (sy_iAdd (sy_iK 5) (sy_iL 13))) (σ := τ') (env := eLs view x y pl ++ [.int 1, .int (nI ty), .int (nI fi), .int mn, .int (nI i), .int (nI it), .int (nI (lsN τ'))]) (n := 4) (by omega) (by omega) (ee_B (ee_L (i := 7) rfl) (ee_B (ee_K (v := 5)) (ee_L (i := 13) rfl))) ee_K
    refine sx_I (ee_cO (ee_cO (ee_cb (c := pl) (ee_L rfl)) (fun _ => ee_cB (ee_L rfl) (ee_B (ee_L rfl) ee_K))) (fun _ => ee_cB d2 ee_K)) (fun _ => sx_B ?_) (fun _ => sx_N ⟨rfl, L', by omega⟩)
    -- the codes
    obtain ⟨c1, -, c2⟩ := c_low (e := sy_iShr (sy_iL 7) (sy_iAdd (sy_iK 4) (sy_iMul (sy_iK 3) (sy_iL 13)))) (σ := τ') (env := eLs view x y pl ++ [.int 1, .int (nI ty), .int (nI fi), .int mn, .int (nI i), .int (nI it), .int (nI (lsN τ'))]) (n := 3) (by omega) (by omega) (ee_B (ee_L (i := 7) rfl) (ee_B (ee_K (v := 4)) (ee_B (ee_K (v := 3)) (ee_L (i := 13) rfl)))) ee_K
    obtain ⟨e1, e2, e3⟩ := c_low (e := sy_iShr (sy_iL 6) (sy_iAdd (sy_iK 6) (sy_iL 13))) (σ := τ') (env := eLs view x y pl ++ [.int 1, .int (nI ty), .int (nI fi), .int mn, .int (nI i), .int (nI it), .int (nI (lsN τ'))]) (n := 64) (by omega) (by omega) (ee_B (ee_L (i := 6) rfl) (ee_B (ee_K (v := 6)) (ee_L (i := 13) rfl))) ee_K
    obtain ⟨f1, f2, f3⟩ := c_low (e := sy_iShr (sy_iL 6) (sy_iAdd (sy_iK 6) (sy_iL 13))) (σ := τ') (env := eLs view x y pl ++ [.int 1, .int (nI ty), .int (nI fi), .int mn, .int (nI i), .int (nI it), .int (nI (lsN τ'))]) (n := 2) (by omega) (by omega) (ee_B (ee_L (i := 6) rfl) (ee_B (ee_K (v := 6)) (ee_L (i := 13) rfl))) ee_K
    obtain ⟨cd0, cd1, hcd⟩ : ∃ cd, cd < 64 ∧ (if decide (nI c1 = 0) then nI e1 else nI f1) = nI cd := by
      cases decide (nI c1 = 0)
      · exact ⟨f1, by omega, rfl⟩
      · exact ⟨e1, e2, rfl⟩
    refine sx_SIQ (ee_eq (ee_iQ (ee_cB c2 ee_K) (fun _ => e3) (fun _ => f3)) hcd) ?_
    obtain ⟨cd, cd2, hcd2⟩ : ∃ cd, cd < 64 ∧ (if pl then nI cd0 &&& 1 else nI cd0) = nI cd := by
      cases pl
      · exact ⟨cd0, cd1, rfl⟩
      · rcases and1 (nI cd0) with h | h
        · exact ⟨0, by omega, h⟩
        · exact ⟨1, by omega, h⟩
    refine sx_SIQ (ee_eq (ee_iQ (ee_cb (c := pl) (ee_L rfl)) (fun _ => ee_B (ee_L rfl) ee_K) (fun _ => ee_L rfl)) hcd2) ?_
    obtain ⟨J1, J2, J3, J4, J5⟩ := ll_add L' rfl (by omega) (show it < 12 by omega) (kT _ it7) cd2
    have hX : (sy_iAdd (sy_iL 14) (sy_iMul (sy_iK 16) (sy_iL 16))) (eLs view x y pl ++ [.int 1, .int (nI ty), .int (nI fi), .int mn, .int (nI i), .int (nI it), .int (nI (lsN τ')), .int (nI cd)]) τ' = some (.inl (nI (it + 16 * cd)), τ') := by
      refine ee_eq (ee_B (ee_L rfl) (ee_B ee_K (ee_L rfl))) ?_
      show nI it + nI 16 * nI cd = _
      rw [nmul, nadd]
    have hn4 : lsN τ' < 4 := by omega
    refine sx_DQ (fun k => es_Wn (ee_R rfl) (ee_L rfl) hX (show lsN τ' < 4 from hn4) (by decide) rfl) ?_
    refine sx_DQ (fun k => es_WL (ee_R rfl) (ee_L rfl) ee_lK (show lsN τ' < 4 from hn4) (by decide) rfl) ?_
    have hA1 : sy_upL (sy_up τ' 49 (lsN τ') (nI (it + 16 * cd))) 50 (lsN τ') 0 52 1 + 1 = nI (lsN τ' + 1) := by
      rw [upL_ne (by omega), up_ne (by omega), k521]
      exact nadd (b := 1)
    refine sx_DQ (fun k => es_An (j := 1) (ee_R rfl) ee_K ee_K (by decide) (by decide) rfl) ?_
    rw [hA1]
    show SX _ _ (mA τ' (lsN τ') it cd) _
    have I4 := J3.1
    obtain ⟨-, -, -, m521, -, -, -, -⟩ := ll_is J3 T h7 g7
    refine sx_SIQ (x := 1) (σ1 := ya_list (mA τ' (lsN τ') it cd) (lsN τ') (nI it) (nI cd)) (ee_iC (x := true) (ee_eq (ee_cB (ee_M (ee_aR (ee_R rfl) (ee_aI (ee_L rfl) (ee_aI (ee_L rfl) ee_aN))) (ee_cr (h_argument J1 J2 hn4 ?_ cd2) rfl)) (ee_An (j := 1) (ee_R rfl) ee_K (by decide) (by decide))) (decide_eq_true ?_))) ?_
    · unfold mA
      rw [ya_isT_c (by rw [up_ne (by omega), upL_ne (by omega), up_ne (by omega)])]
      exact kT _ it7
    · rw [m521, J4]
    · generalize hτ2 : ya_list (mA τ' (lsN τ') it cd) (lsN τ') (nI it) (nI cd) = τ2 at *
      let E2 := eLs view x y pl ++ [.int 1, .int (nI ty), .int (nI fi), .int mn, .int (nI i), .int (nI it), .int (nI (lsN τ')), .int (nI cd)]
      obtain ⟨g1, -, g3⟩ := c_low (e := sy_iShr (sy_iL 6) (sy_iAdd (sy_iK 9) (sy_iL 13))) (σ := τ2) (env := E2) (n := 12) (by omega) (by omega) (ee_B (ee_L (i := 6) rfl) (ee_B (ee_K (v := 9)) (ee_L (i := 13) rfl))) ee_K
      obtain ⟨h1, -, h3⟩ := c_low (e := sy_iShr (sy_iL 7) (sy_iAdd (sy_iK 7) (sy_iL 13))) (σ := τ2) (env := E2) (n := 2) (by omega) (by omega) (ee_B (ee_L (i := 7) rfl) (ee_B (ee_K (v := 7)) (ee_L (i := 13) rfl))) ee_K
      obtain ⟨j1, j2, j3⟩ := c_low (e := sy_iShr (sy_iL 7) (sy_iAdd (sy_iK 9) (sy_iL 13))) (σ := τ2) (env := E2) (n := 4) (by omega) (by omega) (ee_B (ee_L (i := 7) rfl) (ee_B (ee_K (v := 9)) (ee_L (i := 13) rfl))) ee_K
      obtain ⟨cc, cc4, hcc⟩ : ∃ cc, cc < 4 ∧ (if pl then (if (decide (nI g1 = 0) || (decide (nI i < mn - 1) && decide (nI h1 = 0))) then 1 else 0) else nI j1) = nI cc := by
        cases pl
        · exact ⟨j1, j2, rfl⟩
        · cases (decide (nI g1 = 0) || (decide (nI i < mn - 1) && decide (nI h1 = 0)))
          · exact ⟨0, by omega, rfl⟩
          · exact ⟨1, by omega, rfl⟩
      refine sx_SIQ (ee_eq (ee_iQ (ee_cb (c := pl) (ee_L rfl)) (fun _ => ee_iQ (ee_cO (ee_cB g3 ee_K) (fun _ => ee_cA (ee_cB (ee_L rfl) (ee_B (ee_L rfl) ee_K)) (fun _ => ee_cB h3 ee_K))) (fun _ => ee_K) (fun _ => ee_K)) (fun _ => j3)) hcc) ?_
      refine sx_B (sx_SIQ ee_K ?_)
      exact lists_conds T h7 g7 hn4 cc4 (fun z τ3 L3 n3 => ⟨rfl, L3, by omega⟩) J3 J4 J5
  · rw [h.1]
    refine es_In rfl ?_
    exact congrArg (fun z => k (eLs view x y pl ++ [.int 1, .int (nI ty), .int (nI fi), .int mn, .int z]) τ2) (nadd (a := i) (b := 1))
end LA26
