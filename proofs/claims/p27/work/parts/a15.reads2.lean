section LA15
variable {A S : sy_Mem} {t : Nat}
theorem ndm (a : Int32) : a - 1 = a + -1 := by
  rw [Int32.sub_eq_add_neg]
theorem near_ex (f : Nat → Nat) (l : Nat) : ∀ p, (∃ j, j < p ∧ f j ≤ l ∧ ∀ q, j < q → q < p → l < f q) ∨ (∀ q, q < p → l < f q)
  | 0 => Or.inr fun q hq => absurd hq (by omega)
  | p + 1 => by
    by_cases h : f p ≤ l
    · exact Or.inl ⟨p, by omega, h, fun q h1 h2 => absurd h2 (by omega)⟩
    · rcases near_ex f l p with ⟨j, j1, j2, j3⟩ | h2
      · refine Or.inl ⟨j, by omega, j2, fun q h1 h3 => ?_⟩
        by_cases e : q = p
        · rw [e]; omega
        · exact j3 q h1 (by omega)
      · refine Or.inr fun q hq => ?_
        by_cases e : q = p
        · rw [e]; omega
        · exact h2 q (by omega)
theorem sign_is (I : yn_I t A) {s : Int32} (hs : yl A s) : (1000 * yT A s + ya_N A s 0) / 1000 = yT A s ∧ (1000 * yT A s + ya_N A s 0) - (1000 * yT A s + ya_N A s 0) / 1000 * 1000 = ya_N A s 0 := by
  have h1 := T_lt I.1 I.2.1 hs
  have h2 := N_in I.2.1 hs (f := 0) (by decide)
  obtain ⟨a, ha⟩ : ∃ a : Nat, (yT A s).toInt = a := ⟨(yT A s).toInt.toNat, by omega⟩
  obtain ⟨b, hb⟩ : ∃ b : Nat, (ya_N A s 0).toInt = b := ⟨(ya_N A s 0).toInt.toNat, by omega⟩
  have ea : yT A s = nI a := yi_ext (by rw [nI_toInt (by omega), ha])
  have eb : ya_N A s 0 = nI b := yi_ext (by rw [nI_toInt (by omega), hb])
  have e : 1000 * yT A s + ya_N A s 0 = nI (1000 * a + b) := by
    rw [ea, eb, show (1000 : Int32) = nI 1000 from rfl, nmul, nadd]
  rw [e, show (1000 : Int32) = nI 1000 from rfl]
  refine ⟨?_, ?_⟩
  · rw [ndiv (by omega) (by omega), ea]
    congr 1
    omega
  · rw [nmod (by omega) (by omega), eb]
    congr 1
    omega
theorem sk_sum (I : yn_I t A) {s : Int32} (hs : yl A s) : (((yT A s).toInt64 + 16 * (ya_N A s 0).toInt64) + 16384 * (ya_N A s 1).toInt64) + 16777216 * (ya_N A s 2).toInt64 = pL (sk A s) := by
  have h1 := T_lt I.1 I.2.1 hs
  have h2 := N_in I.2.1 hs (f := 0) (by decide)
  have h3 := N_in I.2.1 hs (f := 1) (by decide)
  have h4 := N_in I.2.1 hs (f := 2) (by decide)
  have e : ∀ x : Int32, 0 ≤ x.toInt → x.toInt64 = pL x.toInt.toNat := fun x hx => by
    have hlt := x.toInt_lt
    have ex : x = nI x.toInt.toNat := yi_ext (by rw [nI_toInt (by omega)]; omega)
    rw [ex, nI_i64 (by omega)]
    congr 1
    rw [← ex]
  rw [e _ h1.1, e _ h2.1, e _ h3.1, e _ h4.1, show (16 : Int64) = pL 16 from rfl, show (16384 : Int64) = pL 16384 from rfl, show (16777216 : Int64) = pL 16777216 from rfl, pL_mul, pL_mul, pL_mul, pL_add, pL_add, pL_add]
  rfl
abbrev eR (d p : Nat) : List Value := [.ref 0, .ref 44, .ref 45, .ref 46, .ref 47, .ref 48, .int (nI d), .ref (45 + d), .int (nI p)]
theorem reads_step (I : yn_I t A) (T : TT A S) (h : CP A S) {d p : Nat} (hd : d < 3) (hp : p < cn A d) (K : ∀ j, j < p → lg S (45 + d) j = pL (sk A (sg A d j))) (h0 : S 48 0 = nI (cn A 0)) (k' : List Value → sy_MM (Option Value)) :
    (sy_sQ (sy_sB 9 (sy_sQ (sy_sSI 9 (sy_iM (sy_cr 3 sf_L_rowAt) (sy_aR (sy_rL 0) (sy_aI (sy_iL 6) (sy_aI (sy_iL 8) sy_aN))))) (sy_sQ (sy_sWL (sy_rL 7) (sy_iL 8) (sy_lB (fun x y => x + y) (sy_lB (fun x y => x + y) (sy_lB (fun x y => x + y) (sy_lI (sy_iDv true (sy_iL 9) (sy_iK 1000))) (sy_lB (fun x y => x * y) (sy_lK 16) (sy_lI (sy_iDv false (sy_iL 9) (sy_iK 1000))))) (sy_lB (fun x y => x * y) (sy_lK 16384) (sy_lI (sy_iM (sy_cr 4 sf_L_fieldAt) (sy_aR (sy_rL 0) (sy_aI (sy_iL 6) (sy_aI (sy_iL 8) (sy_aI (sy_iK 1) sy_aN)))))))) (sy_lB (fun x y => x * y) (sy_lK 16777216) (sy_lI (sy_iM (sy_cr 4 sf_L_fieldAt) (sy_aR (sy_rL 0) (sy_aI (sy_iL 6) (sy_aI (sy_iL 8) (sy_aI (sy_iK 2) sy_aN))))))))) (sy_sQ (sy_sSI 10 (sy_iM (sy_cr 2 sf_L_above) (sy_aR (sy_rL 1) (sy_aI (sy_iDv true (sy_iL 9) (sy_iK 1000)) sy_aN)))) (sy_sQ (sy_sI (sy_cO (sy_cO (sy_cO (sy_cA (sy_ceq (sy_iDv false (sy_iAdd (sy_iL 8) (sy_iA 0 (sy_rL 5) (sy_iK 0))) (sy_iK 5)) (sy_iK 0)) (sy_cne (sy_iL 9) (sy_iM (sy_cr 3 sf_L_rowAnew) (sy_aR (sy_rL 0) (sy_aI (sy_iL 6) (sy_aI (sy_iL 8) sy_aN)))))) (sy_cne (sy_iM (sy_cr 2 sf_L_base) (sy_aR (sy_rL 1) (sy_aI (sy_iDv true (sy_iL 9) (sy_iK 1000)) sy_aN))) (sy_iL 6))) (sy_cne (sy_iM (sy_cr 4 sf_L_fieldAt) (sy_aR (sy_rL 0) (sy_aI (sy_iL 6) (sy_aI (sy_iL 8) (sy_aI (sy_iK 0) sy_aN))))) (sy_iDv false (sy_iL 9) (sy_iK 1000)))) (sy_cA (sy_cge (sy_iL 10) (sy_iK 0)) (sy_clt (sy_iM (sy_cr 3 sf_L_over) (sy_aR (sy_rL 1) (sy_aR (sy_rL 7) (sy_aI (sy_iL 8) sy_aN)))) (sy_iK 0)))) (sy_eZ (sy_iK 0)) sy_sN) (sy_sQ (sy_sSI 11 (sy_iSub (sy_iL 8) (sy_iK 1))) (sy_sQ (sy_wh (sy_cA (sy_cge (sy_iL 11) (sy_iK 0)) (sy_cgt (sy_iM (sy_cr 2 sf_L_level) (sy_aR (sy_rL 1) (sy_aI (sy_iM (sy_cr 1 sf_L_typeOf) (sy_aL (sy_lA (sy_rL 7) (sy_iL 11)) sy_aN)) sy_aN))) (sy_iM (sy_cr 2 sf_L_level) (sy_aR (sy_rL 1) (sy_aI (sy_iDv true (sy_iL 9) (sy_iK 1000)) sy_aN))))) (sy_sIn 11 (-1)) 1000) (sy_sQ (sy_sSI 12 (sy_iC (sy_cA (sy_cge (sy_iL 11) (sy_iK 0)) (sy_ceq (sy_iM (sy_cr 2 sf_L_level) (sy_aR (sy_rL 1) (sy_aI (sy_iM (sy_cr 1 sf_L_typeOf) (sy_aL (sy_lA (sy_rL 7) (sy_iL 11)) sy_aN)) sy_aN))) (sy_iM (sy_cr 2 sf_L_level) (sy_aR (sy_rL 1) (sy_aI (sy_iDv true (sy_iL 9) (sy_iK 1000)) sy_aN))))))) (sy_sQ (sy_sSI 13 (sy_iDv false (sy_iDv true (sy_iA 0 (sy_rL 1) (sy_iDv true (sy_iL 9) (sy_iK 1000))) (sy_iK 64)) (sy_iK 4))) (sy_sI (sy_cA (sy_cI (sy_iL 12)) (sy_cO (sy_cgt (sy_iM (sy_cr 1 sf_L_typeOf) (sy_aL (sy_lA (sy_rL 7) (sy_iL 11)) sy_aN)) (sy_iDv true (sy_iL 9) (sy_iK 1000))) (sy_cA (sy_cA (sy_ceq (sy_iM (sy_cr 1 sf_L_typeOf) (sy_aL (sy_lA (sy_rL 7) (sy_iL 11)) sy_aN)) (sy_iDv true (sy_iL 9) (sy_iK 1000))) (sy_clt (sy_iL 13) (sy_iK 2))) (sy_cgt (sy_iSub (sy_iM (sy_cr 2 sf_L_fieldOf) (sy_aL (sy_lA (sy_rL 7) (sy_iL 11)) (sy_aI (sy_iK 0) sy_aN))) (sy_iDv false (sy_iL 9) (sy_iK 1000))) (sy_iQ (sy_ceq (sy_iL 13) (sy_iK 0)) (sy_iK (-1)) (sy_iK 0)))))) (sy_eZ (sy_iK 0)) sy_sN)))))))))) (sy_sIn 8 1)) (eR d p) k' S = k' (eR d (p + 1)) (sy_upL S (45 + d) p (pL (sk A (sg A d p)))) := by
  have h60 := cn_le I hd
  have h60' := cn_le I (show 0 < 3 by omega)
  obtain ⟨a1, a2, a3⟩ := sg_ok I hd hp
  obtain ⟨s1, s2⟩ := sign_is I a1
  have hT := (I.2.1.1 _ a1).1
  have its : ∀ env : List Value, ∀ M : sy_Mem, env[9]? = some (.int (1000 * yT A (sg A d p) + ya_N A (sg A d p) 0)) → sy_iDv true (sy_iL 9) (sy_iK 1000) env M = some (.inl (yT A (sg A d p)), M) ∧ sy_iDv false (sy_iL 9) (sy_iK 1000) env M = some (.inl (ya_N A (sg A d p) 0), M) := fun env M h9 => ⟨ee_eq (ee_Dv (ee_L h9) ee_K (by decide)) s1, ee_eq (ee_Dv (ee_L h9) ee_K (by decide)) s2⟩
  refine es_Q (es_B (es_Q (es_SI (c_rowAt I h hd hp (ee_R rfl) (ee_L rfl) (ee_L rfl)) (es_Q (es_WL (σ1 := S) (v := pL (sk A (sg A d p))) (ee_R rfl) (ee_L rfl) (ee_eq (ee_lB (ee_lB (ee_lB (ee_lI (its _ S rfl).1) (ee_lB ee_lK (ee_lI (its _ S rfl).2))) (ee_lB ee_lK (ee_lI (c_fieldAt I h (f := 1) hd hp (by omega) (ee_R rfl) (ee_L rfl) (ee_L rfl) ee_K)))) (ee_lB ee_lK (ee_lI (c_fieldAt I h (f := 2) hd hp (by omega) (ee_R rfl) (ee_L rfl) (ee_L rfl) ee_K)))) (sk_sum I a1)) (by rw [rw_len hd]; omega) (by rw [rw_len hd]; omega) ?_)))))
  generalize hS' : sy_upL S (45 + d) p (pL (sk A (sg A d p))) = S'
  have T' : TT A S' := fun i hi => by
    rw [← hS', upL_ne (by omega)]
    exact T i hi
  have h' : CP A S' := by
    rw [← hS']
    exact CP_upL h (by omega)
  have K' : ∀ j, j ≤ p → lg S' (45 + d) j = pL (sk A (sg A d j)) := fun j hj => by
    rw [← hS', lg_up]
    by_cases e : j = p
    · rw [if_pos ⟨rfl, e⟩, e]
    · rw [if_neg (fun q => e q.2)]
      exact K j (by omega)
  have h0' : S' 48 0 = nI (cn A 0) := by
    rw [← hS', upL_ne (by omega)]
    exact h0
  have ty : ∀ (env : List Value) (e : sy_IE) (j : Nat), env[7]? = some (.ref (45 + d)) → e env S' = some (.inl (nI j), S') → j ≤ p → sy_iM (sy_cr 1 sf_L_typeOf) (sy_aL (sy_lA (sy_rL 7) e) sy_aN) env S' = some (.inl (yT A (sg A d j)), S') := fun env e j h7 he hj => by
    have hl : sy_lA (sy_rL 7) e env S' = some (.inl (pL (sk A (sg A d j))), S') := by
      rw [← K' j hj]
      exact ee_lA (ee_R h7) he (by rw [rw_len hd]; omega) (by rw [rw_len hd]; omega)
    exact ee_M (ee_aL hl ee_aN) (ee_cr (t_typeOf I.1 I.2.1 (sg_ok I hd (show j < cn A d by omega)).1) rfl)
  have fld : ∀ (env : List Value) (e : sy_IE) (j : Nat), env[7]? = some (.ref (45 + d)) → e env S' = some (.inl (nI j), S') → j ≤ p → sy_iM (sy_cr 2 sf_L_fieldOf) (sy_aL (sy_lA (sy_rL 7) e) (sy_aI (sy_iK 0) sy_aN)) env S' = some (.inl (ya_N A (sg A d j) 0), S') := fun env e j h7 he hj => by
    have hl : sy_lA (sy_rL 7) e env S' = some (.inl (pL (sk A (sg A d j))), S') := by
      rw [← K' j hj]
      exact ee_lA (ee_R h7) he (by rw [rw_len hd]; omega) (by rw [rw_len hd]; omega)
    exact ee_M (ee_aL hl (ee_aI ee_K ee_aN)) (ee_cr (t_fieldOf I.1 I.2.1 (sg_ok I hd (show j < cn A d by omega)).1 (f := 0) (by omega)) rfl)
  refine es_Q (es_SI (ev_u I T' hT (ee_R rfl) (its _ S' rfl).1) (es_Q (es_IF (ee_eq (ee_cO (x := false) (y := decide ((0 : Int32) ≤ tP A (yT A (sg A d p))) && decide (yL A (yP A (sg A d p)) < 0)) (ee_cO (x := false) (y := false) (ee_cO (x := false) (y := false) (ee_eq (ee_cA (y := false) (ee_cB (ee_Dv (ee_B (ee_L rfl) (ee_An (j := 0) (ee_R rfl) ee_K (by decide) (by decide))) ee_K (by decide)) ee_K) (fun _ => ee_eq (ee_cB (ee_L rfl) (c_rowAnew I h' hd hp (ee_R rfl) (ee_L rfl) (ee_L rfl))) ?_)) (Bool.and_false _)) (fun _ => ee_eq (ee_cB (ev_b I T' hT (ee_R rfl) (its _ S' rfl).1) (ee_L rfl)) ?_)) (fun _ => ee_eq (ee_cB (c_fieldAt I h' (f := 0) hd hp (by omega) (ee_R rfl) (ee_L rfl) (ee_L rfl) ee_K) (its _ S' rfl).2) ?_)) (fun _ => ee_cA (ee_cB (ee_L rfl) ee_K) (fun _ => ee_cB (ee_M (ee_aR (ee_R rfl) (ee_aR (ee_R rfl) (ee_aI (ee_L rfl) ee_aN))) (ee_cr (t_over0 I T' hd hp K') rfl)) ee_K))) ?_) ?_)))
  · exact congrArg not (decide_eq_true rfl)
  · rw [show tD A (yT A (sg A d p)) = nI d from a2]
    exact congrArg not (decide_eq_true rfl)
  · exact congrArg not (decide_eq_true rfl)
  · rw [Bool.false_or]
    rcases yP_D I hd hp with e | ⟨q, q1, q2, q3⟩
    · have h1 : tP A (yT A (sg A d p)) = -1 := by
        rcases (I.2.1.1 _ a1).2 with ⟨r, -⟩ | ⟨r, -⟩
        · exact r
        · exact absurd e (yl_ne r)
      rw [h1]
      rfl
    · rw [q3, decide_eq_false (show ¬ nI q < 0 by rw [Int32.lt_iff_toInt_lt, nI_toInt (by omega)]; show ¬ (q : Int) < 0; omega), Bool.and_false]
  -- the nearest of no deeper level
  have hlv : ∀ j, j < cn A d → ((ya_lv A (sg A d j) : Nat) : Int) = (tV A (yT A (sg A d j))).toInt := fun j hj => (lv_pos I (sg_ok I hd hj).1).2.2
  have cond : ∀ (j : Nat), j < p → ∀ u : Value, (sy_cA (sy_cge (sy_iL 11) (sy_iK 0)) (sy_cgt (sy_iM (sy_cr 2 sf_L_level) (sy_aR (sy_rL 1) (sy_aI (sy_iM (sy_cr 1 sf_L_typeOf) (sy_aL (sy_lA (sy_rL 7) (sy_iL 11)) sy_aN)) sy_aN))) (sy_iM (sy_cr 2 sf_L_level) (sy_aR (sy_rL 1) (sy_aI (sy_iDv true (sy_iL 9) (sy_iK 1000)) sy_aN))))) (eR d p ++ [.int (1000 * yT A (sg A d p) + ya_N A (sg A d p) 0), u, .int (nI j)]) S' = some (.inl (decide (ya_lv A (sg A d p) < ya_lv A (sg A d j))), S') := fun j hj u => by
    refine ee_eq (ee_cA (x := true) (y := decide (ya_lv A (sg A d p) < ya_lv A (sg A d j))) (ee_eq (ee_cB (ee_L rfl) ee_K) (ge0 (by omega))) (fun _ => ee_eq (ee_cB (ev_v I T' (I.2.1.1 _ (sg_ok I hd (show j < cn A d by omega)).1).1 (ee_R rfl) (ty _ _ j rfl (ee_L rfl) (by omega))) (ev_v I T' hT (ee_R rfl) (its _ S' rfl).1)) ?_)) (Bool.true_and _)
    have e1 := hlv j (by omega)
    have e2 := hlv p hp
    rw [decide_eq_decide, Int32.lt_iff_toInt_lt]
    omega
  have fin : ∀ z : Int32, (z = -1 ∨ ∃ j, j < p ∧ z = nI j ∧ ya_lv A (sg A d j) ≤ ya_lv A (sg A d p) ∧ ∀ q, j < q → q < p → ya_lv A (sg A d p) < ya_lv A (sg A d q)) →
      (fun env' => (sy_sQ (sy_sSI 12 (sy_iC (sy_cA (sy_cge (sy_iL 11) (sy_iK 0)) (sy_ceq (sy_iM (sy_cr 2 sf_L_level) (sy_aR (sy_rL 1) (sy_aI (sy_iM (sy_cr 1 sf_L_typeOf) (sy_aL (sy_lA (sy_rL 7) (sy_iL 11)) sy_aN)) sy_aN))) (sy_iM (sy_cr 2 sf_L_level) (sy_aR (sy_rL 1) (sy_aI (sy_iDv true (sy_iL 9) (sy_iK 1000)) sy_aN))))))) (sy_sQ (sy_sSI 13 (sy_iDv false (sy_iDv true (sy_iA 0 (sy_rL 1) (sy_iDv true (sy_iL 9) (sy_iK 1000))) (sy_iK 64)) (sy_iK 4))) (sy_sI (sy_cA (sy_cI (sy_iL 12)) (sy_cO (sy_cgt (sy_iM (sy_cr 1 sf_L_typeOf) (sy_aL (sy_lA (sy_rL 7) (sy_iL 11)) sy_aN)) (sy_iDv true (sy_iL 9) (sy_iK 1000))) (sy_cA (sy_cA (sy_ceq (sy_iM (sy_cr 1 sf_L_typeOf) (sy_aL (sy_lA (sy_rL 7) (sy_iL 11)) sy_aN)) (sy_iDv true (sy_iL 9) (sy_iK 1000))) (sy_clt (sy_iL 13) (sy_iK 2))) (sy_cgt (sy_iSub (sy_iM (sy_cr 2 sf_L_fieldOf) (sy_aL (sy_lA (sy_rL 7) (sy_iL 11)) (sy_aI (sy_iK 0) sy_aN))) (sy_iDv false (sy_iL 9) (sy_iK 1000))) (sy_iQ (sy_ceq (sy_iL 13) (sy_iK 0)) (sy_iK (-1)) (sy_iK 0)))))) (sy_eZ (sy_iK 0)) sy_sN))) env' (fun env' => sy_sIn 8 1 (List.take 9 env') k')) (eR d p ++ [.int (1000 * yT A (sg A d p) + ya_N A (sg A d p) 0), .int (tP A (yT A (sg A d p))), .int z]) S' = k' (eR d (p + 1)) S' := by
    intro z hz
    obtain ⟨kk1, -⟩ := t_keys I.1 T' hT
    have hkey : ∀ env : List Value, env[1]? = some (.ref 44) → env[9]? = some (.int (1000 * yT A (sg A d p) + ya_N A (sg A d p) 0)) → sy_iDv false (sy_iDv true (sy_iA 0 (sy_rL 1) (sy_iDv true (sy_iL 9) (sy_iK 1000))) (sy_iK 64)) (sy_iK 4) env S' = some (.inl (nI (tn A (yT A (sg A d p)).toInt.toNat / 64 % 4)), S') := fun env h1 h9 => t_at I.1 T' hT (a := 64) (b := 4) (ee_R h1) (its env S' h9).1 (by omega) (by omega)
    have hkT := I.1.2.1 _ hT
    rcases hz with rfl | ⟨j, j1, rfl, j2, j3⟩
    · refine es_Q (es_SI (x := ya_b false) (ee_iC (ee_eq (ee_cA (x := false) (y := false) (ee_eq (ee_cB (ee_L rfl) ee_K) rfl) (fun h => by cases h)) rfl)) (es_Q (es_SI (hkey _ rfl rfl) (es_IF (ee_eq (ee_cA (x := false) (y := false) (ee_cb (ee_L rfl)) (fun h => by cases h)) rfl) (es_In rfl ?_)))))
      exact congrArg (fun z => k' [.ref 0, .ref 44, .ref 45, .ref 46, .ref 47, .ref 48, .int (nI d), .ref (45 + d), .int z] S') (nadd (a := p) (b := 1))
    · have hjn : j < cn A d := by omega
      obtain ⟨b1, b2, b3⟩ := sg_ok I hd hjn
      have e1 := hlv j hjn
      have e2 := hlv p hp
      have n1 := N_in I.2.1 a1 (f := 0) (by decide)
      have n2 := N_in I.2.1 b1 (f := 0) (by decide)
      have hlvd : decide (tV A (yT A (sg A d j)) = tV A (yT A (sg A d p))) = decide (ya_lv A (sg A d j) = ya_lv A (sg A d p)) := by
        rw [decide_eq_decide]
        exact ⟨fun e => by rw [e] at e1; omega, fun e => yi_ext (by omega)⟩
      refine es_Q (es_SI (x := ya_b (decide (ya_lv A (sg A d j) = ya_lv A (sg A d p)))) (ee_iC (ee_eq (ee_cA (x := true) (y := decide (ya_lv A (sg A d j) = ya_lv A (sg A d p))) (ee_eq (ee_cB (ee_L rfl) ee_K) (ge0 (by omega))) (fun _ => ee_eq (ee_cB (ev_v I T' (I.2.1.1 _ b1).1 (ee_R rfl) (ty _ _ j rfl (ee_L rfl) (by omega))) (ev_v I T' hT (ee_R rfl) (its _ S' rfl).1)) hlvd)) (Bool.true_and _))) (es_Q (es_SI (hkey _ rfl rfl) (es_IF (ee_eq (ee_cA (ee_cb (ee_L rfl)) (fun _ => ee_cO (ee_cB (ty _ _ j rfl (ee_L rfl) (by omega)) (its _ S' rfl).1) (fun _ => ee_cA (ee_cA (ee_cB (ty _ _ j rfl (ee_L rfl) (by omega)) (its _ S' rfl).1) (fun _ => ee_cB (ee_L rfl) ee_K)) (fun _ => ee_cB (ee_B (fld _ _ j rfl (ee_L rfl) (by omega)) (its _ S' rfl).2) (ee_iQ (ee_cB (ee_L rfl) ee_K) (fun _ => ee_K) (fun _ => ee_K)))))) ?_) (es_In rfl ?_)))))
      · by_cases hl : ya_lv A (sg A d j) = ya_lv A (sg A d p)
        · have hP := near_par I hd hp j1 hl j3
          obtain ⟨o1, o2⟩ := near_ok I hd hp j1 hP
          rw [decide_eq_true hl, Bool.true_and, decide_eq_false (show ¬ yT A (sg A d p) < yT A (sg A d j) by rw [Int32.lt_iff_toInt_lt]; omega), Bool.false_or]
          generalize hK : tn A (yT A (sg A d p)).toInt.toNat / 64 % 4 = K at *
          have hK4 : K < 4 := by
            rw [← hK]
            exact Nat.mod_lt _ (by omega)
          by_cases hTT : yT A (sg A d j) = yT A (sg A d p)
          · by_cases hk2 : K < 2
            · obtain ⟨o3, o4⟩ := o2 hTT (by omega)
              rw [Bool.and_eq_false_iff]
              right
              refine decide_eq_false ?_
              rw [Int32.lt_iff_toInt_lt, yl_sub (by omega) (by omega) (by omega) (by omega)]
              by_cases hk0 : K = 0
              · subst hk0
                have hz : tK A (yT A (sg A d p)) = 0 := yi_ext (by rw [← kk1]; rfl)
                have := o4 hz
                show ¬ (-1 : Int) < _
                omega
              · have hne : ¬ nI K = 0 := fun e => by
                  have := congrArg Int32.toInt e
                  rw [nI_toInt (by omega), yl_c0] at this
                  omega
                rw [decide_eq_false hne]
                show ¬ (0 : Int) < _
                omega
            · rw [decide_eq_false (show ¬ nI K < 2 by rw [Int32.lt_iff_toInt_lt, nI_toInt (by omega)]; show ¬ (K : Int) < 2; omega), Bool.and_false, Bool.false_and]
          · rw [decide_eq_false hTT, Bool.false_and, Bool.false_and]
        · rw [decide_eq_false hl, Bool.false_and]
      · exact congrArg (fun z => k' [.ref 0, .ref 44, .ref 45, .ref 46, .ref 47, .ref 48, .int (nI d), .ref (45 + d), .int z] S') (nadd (a := p) (b := 1))
  refine es_Q (es_SI (ee_eq (ee_B (ee_L rfl) ee_K) (ndm _)) (es_Q ?_))
  let C : sy_CE := (sy_cA (sy_cge (sy_iL 11) (sy_iK 0)) (sy_cgt (sy_iM (sy_cr 2 sf_L_level) (sy_aR (sy_rL 1) (sy_aI (sy_iM (sy_cr 1 sf_L_typeOf) (sy_aL (sy_lA (sy_rL 7) (sy_iL 11)) sy_aN)) sy_aN))) (sy_iM (sy_cr 2 sf_L_level) (sy_aR (sy_rL 1) (sy_aI (sy_iDv true (sy_iL 9) (sy_iK 1000)) sy_aN)))))
  let K0 : List Value → sy_MM (Option Value) := (fun env' => (sy_sQ (sy_sSI 12 (sy_iC (sy_cA (sy_cge (sy_iL 11) (sy_iK 0)) (sy_ceq (sy_iM (sy_cr 2 sf_L_level) (sy_aR (sy_rL 1) (sy_aI (sy_iM (sy_cr 1 sf_L_typeOf) (sy_aL (sy_lA (sy_rL 7) (sy_iL 11)) sy_aN)) sy_aN))) (sy_iM (sy_cr 2 sf_L_level) (sy_aR (sy_rL 1) (sy_aI (sy_iDv true (sy_iL 9) (sy_iK 1000)) sy_aN))))))) (sy_sQ (sy_sSI 13 (sy_iDv false (sy_iDv true (sy_iA 0 (sy_rL 1) (sy_iDv true (sy_iL 9) (sy_iK 1000))) (sy_iK 64)) (sy_iK 4))) (sy_sI (sy_cA (sy_cI (sy_iL 12)) (sy_cO (sy_cgt (sy_iM (sy_cr 1 sf_L_typeOf) (sy_aL (sy_lA (sy_rL 7) (sy_iL 11)) sy_aN)) (sy_iDv true (sy_iL 9) (sy_iK 1000))) (sy_cA (sy_cA (sy_ceq (sy_iM (sy_cr 1 sf_L_typeOf) (sy_aL (sy_lA (sy_rL 7) (sy_iL 11)) sy_aN)) (sy_iDv true (sy_iL 9) (sy_iK 1000))) (sy_clt (sy_iL 13) (sy_iK 2))) (sy_cgt (sy_iSub (sy_iM (sy_cr 2 sf_L_fieldOf) (sy_aL (sy_lA (sy_rL 7) (sy_iL 11)) (sy_aI (sy_iK 0) sy_aN))) (sy_iDv false (sy_iL 9) (sy_iK 1000))) (sy_iQ (sy_ceq (sy_iL 13) (sy_iK 0)) (sy_iK (-1)) (sy_iK 0)))))) (sy_eZ (sy_iK 0)) sy_sN))) env' (fun env' => sy_sIn 8 1 (List.take 9 env') k'))
  let E : Nat → List Value := fun i => eR d p ++ [.int (1000 * yT A (sg A d p) + ya_N A (sg A d p) 0), .int (tP A (yT A (sg A d p))), .int (nI (p - i) + -1)]
  have step : ∀ i, i < p → (∀ q, p - 1 - i ≤ q → q < p → ya_lv A (sg A d p) < ya_lv A (sg A d q)) → C (E i) S' = some (.inl true, S') ∧ ∀ k2 : List Value → sy_MM (Option Value), sy_sIn 11 (-1) (E i) k2 S' = k2 (E (i + 1)) S' := fun i hi hq => by
    refine ⟨?_, fun k2 => es_In rfl ?_⟩
    · have e : E i = eR d p ++ [.int (1000 * yT A (sg A d p) + ya_N A (sg A d p) 0), .int (tP A (yT A (sg A d p))), .int (nI (p - 1 - i))] := by
        show eR d p ++ [.int (1000 * yT A (sg A d p) + ya_N A (sg A d p) 0), .int (tP A (yT A (sg A d p))), .int (nI (p - i) + -1)] = _
        rw [ndec (show 1 ≤ p - i by omega), show p - i - 1 = p - 1 - i by omega]
      rw [e]
      exact ee_eq (cond _ (by omega) _) (decide_eq_true (hq _ (Nat.le_refl _) (by omega)))
    · have : nI (p - i) + -1 + -1 = nI (p - (i + 1)) + -1 := by
        rw [ndec (show 1 ≤ p - i by omega), show p - i - 1 = p - (i + 1) by omega]
      exact congrArg (fun z => k2 (eR d p ++ [.int (1000 * yT A (sg A d p) + ya_N A (sg A d p) 0), .int (tP A (yT A (sg A d p))), .int z]) S') this
  rcases near_ex (fun j => ya_lv A (sg A d j)) (ya_lv A (sg A d p)) p with ⟨j, j1, j2, j3⟩ | hn
  · have e : E (p - 1 - j) = eR d p ++ [.int (1000 * yT A (sg A d p) + ya_N A (sg A d p) 0), .int (tP A (yT A (sg A d p))), .int (nI j)] := by
      show eR d p ++ [.int (1000 * yT A (sg A d p) + ya_N A (sg A d p) 0), .int (tP A (yT A (sg A d p))), .int (nI (p - (p - 1 - j)) + -1)] = _
      rw [ndec (show 1 ≤ p - (p - 1 - j) by omega), show p - (p - 1 - j) - 1 = j by omega]
    have he : C (E (p - 1 - j)) S' = some (.inl false, S') := by
      rw [e]
      exact ee_eq (cond _ j1 _) (decide_eq_false (by omega))
    have key := ks_wh (c := C) (s := sy_sIn 11 (-1)) (E := E) (S := fun _ => S') (k := K0) (N := p - 1 - j) (fun i hi => step i (by omega) (fun q h1 h2 => j3 q (by omega) h2)) he (p - 1 - j) 0 1000 (by omega) (by omega)
    have f := fin (nI j) (Or.inr ⟨j, j1, rfl, j2, j3⟩)
    rw [← e] at f
    exact key.trans f
  · have e : E p = eR d p ++ [.int (1000 * yT A (sg A d p) + ya_N A (sg A d p) 0), .int (tP A (yT A (sg A d p))), .int (-1)] := by
      show eR d p ++ [.int (1000 * yT A (sg A d p) + ya_N A (sg A d p) 0), .int (tP A (yT A (sg A d p))), .int (nI (p - p) + -1)] = _
      rw [Nat.sub_self]
      rfl
    have he : C (E p) S' = some (.inl false, S') := by
      rw [e]
      exact ee_eq (ee_cA (x := false) (y := false) (ee_eq (ee_cB (ee_L rfl) ee_K) rfl) (fun h => by cases h)) rfl
    have key := ks_wh (c := C) (s := sy_sIn 11 (-1)) (E := E) (S := fun _ => S') (k := K0) (N := p) (fun i hi => step i hi (fun q _ h2 => hn q h2)) he p 0 1000 (by omega) (by omega)
    have f := fin (-1) (Or.inl rfl)
    rw [← e] at f
    exact key.trans f
end LA15
