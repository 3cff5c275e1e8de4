section LA25
variable {A σ τ : sy_Mem} {t : Nat}
theorem ll_is (L : LL t σ τ) (T : TT σ σ) (h7 : σ 1 0 = nI 7) (g7 : σ 52 0 = nI 7) : TT τ τ ∧ τ 1 0 = nI 7 ∧ τ 52 0 = nI 7 ∧ τ 52 1 = nI (lsN τ) ∧ τ 19 0 = nI (lsN τ) ∧ lsN τ ≤ 4 ∧ (∀ y, y < 7 → ya_isT τ (nI y) = true) ∧ ya_isT τ (nI 7) = false := by
  obtain ⟨I, Q, F, F2⟩ := L
  have h1 : τ 1 0 = nI 7 := by rw [F 1 (by omega)]; exact h7
  have h19 := yg_n19e I
  have h4 := yg_n19 I
  refine ⟨TT_b (fun k hk => F k (by omega)) (F 44 (by omega)) T, h1, by rw [F2]; exact g7, Q.1, h19, h4.2, fun y hy => ?_, ?_⟩
  · refine yl_isT.mpr ?_
    rw [h1, nI_toInt (by omega), nI_toInt (by omega)]
    omega
  · cases e : ya_isT τ (nI 7) with
    | false => rfl
    | true =>
      have := yl_isT.mp e
      rw [h1, nI_toInt (by omega)] at this
      omega
/-- the level of a type and its parent, as numbers -/
theorem lev_is (I : yn_I t τ) {y : Nat} (hy : y < 7) (h7 : τ 1 0 = nI 7) (h : ya_isT τ (nI y) = true) : ∃ l, 1 ≤ l ∧ l ≤ 4 ∧ tV τ (nI y) = nI l ∧ ((tP τ (nI y) = -1 ∧ l = 1) ∨ ∃ z l', z < 7 ∧ tP τ (nI y) = nI z ∧ ya_isT τ (nI z) = true ∧ tV τ (nI z) = nI l' ∧ l = l' + 1) := by
  obtain ⟨-, -, -, -, -, g1, g2, -⟩ := I.1.2.1 _ h
  have e : ∀ ty, ya_isT τ ty = true → tV τ ty = nI (tV τ ty).toInt.toNat := fun ty h => by
    obtain ⟨-, -, -, -, -, g, -, -⟩ := I.1.2.1 _ h
    exact (ntI (by omega) (by omega)).symm
  refine ⟨(tV τ (nI y)).toInt.toNat, by omega, by omega, e _ h, ?_⟩
  rcases g2 with ⟨a, b, -⟩ | ⟨a, b, -, c⟩
  · exact Or.inl ⟨a, by omega⟩
  · right
    obtain ⟨z, z1, z2, z3⟩ := isT_nI I.1 a
    rw [h7, nI_toInt (by omega)] at z3
    have := (I.1.2.1 _ a).2.2.2.2.2.1
    exact ⟨z, (tV τ (tP τ (nI y))).toInt.toNat, by omega, z1, by rw [← z1]; exact a, by rw [← z1]; exact e _ a, by omega⟩
abbrev eLs (view x y : Int32) (pl : Bool) : List Value := [.ref 0, .ref 44, .ref 49, .ref 50, .ref 52, .int view, .int x, .int y, .int (ya_b pl)]
/-- the conditions of one argument -/
theorem lists_conds (T : TT σ σ) (h7 : σ 1 0 = nI 7) (g7 : σ 52 0 = nI 7) {view x y : Int32} {pl : Bool} {ty fi i it n cd cc : Nat} {mn : Int32} (hn4 : n < 4) (hcc : cc < 4) {Q : List Value → sy_Mem → Prop} (hQ : ∀ z τ', LL t σ τ' → lsN τ' = n + 1 → Q (eLs view x y pl ++ [.int 1, .int (nI ty), .int (nI fi), .int mn, .int (nI i), .int (nI it), .int (nI n), .int (nI cd), .int (nI cc), .int z]) τ') (L : LL t σ τ) (hn : lsN τ = n + 1) (h22 : τ 22 n = nI 0) :
    SX (sy_wh (sy_cA (sy_clt (sy_iL 18) (sy_iL 17)) (sy_cI (sy_iL 9))) (sy_sQ (sy_sB 19 (sy_sQ (sy_sSI 19 (sy_iM (sy_cr 2 sf_L_low) (sy_aI (sy_iShr (sy_iL 6) (sy_iAdd (sy_iK 11) (sy_iL 18))) (sy_aI (sy_iK 2) sy_aN)))) (sy_sQ (sy_sSI 20 (sy_iM (sy_cr 2 sf_L_low) (sy_aI (sy_iShr (sy_iL 6) (sy_iAdd (sy_iK 13) (sy_iL 18))) (sy_aI (sy_iK 3) sy_aN)))) (sy_sQ (sy_sSI 21 (sy_iM (sy_cr 2 sf_L_low) (sy_aI (sy_iShr (sy_iL 7) (sy_iAdd (sy_iK 12) (sy_iL 18))) (sy_aI (sy_iK 6) sy_aN)))) (sy_sQ (sy_sSI 22 (sy_iM (sy_cr 2 sf_L_low) (sy_aI (sy_iShr (sy_iL 7) (sy_iAdd (sy_iMul (sy_iK 2) (sy_iL 18)) (sy_iL 13))) (sy_aI (sy_iK 12) sy_aN)))) (sy_sQ (sy_sAL (sy_rL 3) (sy_iL 15) (sy_lB (fun x y => x + y) (sy_lK 1) (sy_lS (fun x y => x <<< y) (sy_lI (sy_iAdd (sy_iAdd (sy_iAdd (sy_iL 19) (sy_iMul (sy_iK 2) (sy_iL 20))) (sy_iMul (sy_iK 8) (sy_iL 21))) (sy_iMul (sy_iK 64) (sy_iL 22)))) (sy_iAdd (sy_iK 2) (sy_iMul (sy_iK 16) (sy_iL 18)))))) (sy_sSI 9 (sy_iC (sy_ceq (sy_iM (sy_cr 5 sf_L_condition) (sy_aR (sy_rL 0) (sy_aI (sy_iC (sy_ceq (sy_iL 19) (sy_iK 1))) (sy_aI (sy_iL 20) (sy_aI (sy_iL 21) (sy_aI (sy_iL 22) sy_aN)))))) (sy_iAdd (sy_iL 18) (sy_iK 1))))))))))) (sy_sIn 18 1)) 5) (eLs view x y pl ++ [.int 1, .int (nI ty), .int (nI fi), .int mn, .int (nI i), .int (nI it), .int (nI n), .int (nI cd), .int (nI cc), .int 0]) τ Q := by
  refine sx_wh (N := 3) (Inv := fun m env τ' => env = eLs view x y pl ++ [.int 1, .int (nI ty), .int (nI fi), .int mn, .int (nI i), .int (nI it), .int (nI n), .int (nI cd), .int (nI cc), .int (nI m)] ∧ LL t σ τ' ∧ lsN τ' = n + 1 ∧ τ' 22 n = nI m) (fun m env τ' hm hI => ?_) 3 0 5 _ _ rfl (by omega) ⟨rfl, L, hn, h22⟩
  obtain ⟨rfl, L', hn', h22'⟩ := hI
  refine ⟨_, ee_cA (y := true) (ee_cB (ee_L rfl) (ee_L rfl)) (fun _ => ee_cb (c := true) (ee_L rfl)), fun hx => ?_, fun _ => hQ _ _ L' hn'⟩
  rw [Bool.and_true, nI_ltd (by omega) (by omega), decide_eq_true_eq] at hx
  have hm3 : m < 3 := by omega
  refine ⟨hm3, ?_⟩
  obtain ⟨TT', k1, k52, k521, k19, k4, kT, -⟩ := ll_is L' T h7 g7
  let E := eLs view x y pl ++ [.int 1, .int (nI ty), .int (nI fi), .int mn, .int (nI i), .int (nI it), .int (nI n), .int (nI cd), .int (nI cc), .int (nI m)]
  obtain ⟨o, o1, o2⟩ := c_low (e := sy_iShr (sy_iL 6) (sy_iAdd (sy_iK 11) (sy_iL 18))) (σ := τ') (env := E) (n := 2) (by omega) (by omega) (ee_B (ee_L (i := 6) rfl) (ee_B (ee_K (v := 11)) (ee_L (i := 18) rfl))) ee_K
  obtain ⟨f, f1, f2⟩ := c_low (e := sy_iShr (sy_iL 6) (sy_iAdd (sy_iK 13) (sy_iL 18))) (σ := τ') (env := E ++ [.int (nI o)]) (n := 3) (by omega) (by omega) (ee_B (ee_L (i := 6) rfl) (ee_B (ee_K (v := 13)) (ee_L (i := 18) rfl))) ee_K
  obtain ⟨c, c1, c2⟩ := c_low (e := sy_iShr (sy_iL 7) (sy_iAdd (sy_iK 12) (sy_iL 18))) (σ := τ') (env := E ++ [.int (nI o), .int (nI f)]) (n := 6) (by omega) (by omega) (ee_B (ee_L (i := 7) rfl) (ee_B (ee_K (v := 12)) (ee_L (i := 18) rfl))) ee_K
  obtain ⟨w, w1, w2⟩ := c_low (e := sy_iShr (sy_iL 7) (sy_iAdd (sy_iMul (sy_iK 2) (sy_iL 18)) (sy_iL 13))) (σ := τ') (env := E ++ [.int (nI o), .int (nI f), .int (nI c)]) (n := 12) (by omega) (by omega) (ee_B (ee_L (i := 7) rfl) (ee_B (ee_B (ee_K (v := 2)) (ee_L (i := 18) rfl)) (ee_L (i := 13) rfl))) ee_K
  obtain ⟨J1, J2, J3, J4, J5, J6⟩ := ll_cond L' hn' hn4 h22' hm3 o1 f1 c1 (show w < 1000 by omega)
  have hB : (sy_lB (fun x y => x + y) (sy_lK 1) (sy_lS (fun x y => x <<< y) (sy_lI (sy_iAdd (sy_iAdd (sy_iAdd (sy_iL 19) (sy_iMul (sy_iK 2) (sy_iL 20))) (sy_iMul (sy_iK 8) (sy_iL 21))) (sy_iMul (sy_iK 64) (sy_iL 22)))) (sy_iAdd (sy_iK 2) (sy_iMul (sy_iK 16) (sy_iL 18))))) (E ++ [.int (nI o), .int (nI f), .int (nI c), .int (nI w)]) τ' = some (.inl (pL (1 + (o + 2 * f + 8 * c + 64 * w) * 2 ^ (2 + 16 * m))), τ') := by
    refine ee_eq (ee_lB ee_lK (ee_lS (ee_lI (ee_B (ee_B (ee_B (ee_L rfl) (ee_B ee_K (ee_L rfl))) (ee_B ee_K (ee_L rfl))) (ee_B ee_K (ee_L rfl)))) (ee_B ee_K (ee_B ee_K (ee_L rfl))))) ?_
    show (1 : Int64) + (nI o + nI 2 * nI f + nI 8 * nI c + nI 64 * nI w).toInt64 <<< ((nI 2 + nI 16 * nI m).toInt64 &&& 63) = _
    rw [nmul, nmul, nmul, nadd, nadd, nadd, nmul, nadd, nI_i64 (by omega), pL_shl _ (by omega), show (1 : Int64) = pL 1 from rfl, pL_add]
  refine sx_Q (R := fun e τ2 => e = eLs view x y pl ++ [.int 1, .int (nI ty), .int (nI fi), .int mn, .int (nI i), .int (nI it), .int (nI n), .int (nI cd), .int (nI cc), .int (nI m)] ∧ LL t σ τ2 ∧ lsN τ2 = n + 1 ∧ τ2 22 n = nI (m + 1)) (sx_B ?_) (fun e τ2 h => ⟨_, _, ⟨rfl, h.2⟩, fun k => ?_⟩)
  · refine sx_SIQ o2 (sx_SIQ f2 (sx_SIQ c2 (sx_SIQ w2 ?_)))
    refine sx_DQ (fun k => es_AL (ee_R rfl) (ee_L rfl) hB (show n < 4 from hn4) (by decide) rfl) ?_
    refine sx_SI (ee_iC (x := true) (ee_eq (ee_cB (ee_M (ee_aR (ee_R rfl) (ee_aI (ee_iC (ee_cB (ee_L rfl) ee_K)) (ee_aI (ee_L rfl) (ee_aI (ee_L rfl) (ee_aI (ee_L rfl) ee_aN))))) (ee_cr (h_condition J1 hn4 hm3 J2 J3 (decide (nI o = 1)) f1 c1 (show w < 1000 by omega)) rfl)) (ee_B (ee_L rfl) ee_K)) (decide_eq_true (nadd (b := 1)).symm))) ⟨rfl, J4, J5, J6⟩
  · rw [h.1]
    refine es_In rfl ?_
    exact congrArg (fun z => k (eLs view x y pl ++ [.int 1, .int (nI ty), .int (nI fi), .int mn, .int (nI i), .int (nI it), .int (nI n), .int (nI cd), .int (nI cc), .int z]) τ2) (nadd (a := m) (b := 1))
end LA25
