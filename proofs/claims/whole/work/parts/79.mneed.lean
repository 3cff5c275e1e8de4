/-! the roots that are needed: the model's, and both -/
section YQm
variable {A τ τ' : sy_Mem} {t n : Nat} {ty key : Int32}
def yq_1 (A : sy_Mem) (u key : Int32) : Prop := ya_isT A u = true ∧ tP A u = -1 ∧ (0 ≤ key.toInt ∧ key.toInt ≤ 999) ∧ ya_X3_rootOf A u key = -1
def yq (A τ : sy_Mem) (n : Nat) : Prop := τ 44 33 = A 27 0 ∧ (0 ≤ (A 27 0).toInt ∧ (A 27 0).toInt ≤ n) ∧ (∀ i : Nat, (i : Int) < (A 27 0).toInt → τ 75 i = A 28 i ∧ τ 76 i = A 29 i ∧ yq_1 A (A 28 i) (A 29 i)) ∧ ∀ i j : Nat, (i : Int) < (A 27 0).toInt → j < i → ¬ (A 28 j = A 28 i ∧ A 29 j = A 29 i)
def yq_g (τ τ' : sy_Mem) : Prop := (∀ k, k ≠ 44 → k ≠ 75 → k ≠ 76 → τ' k = τ k) ∧ ∀ i, i ≠ 33 → τ' 44 i = τ 44 i
theorem yq_g_trans {τ'' : sy_Mem} (h1 : yq_g τ τ') (h2 : yq_g τ' τ'') : yq_g τ τ'' := ⟨fun k a b c => (h2.1 k a b c).trans (h1.1 k a b c), fun i hi => (h2.2 i hi).trans (h1.2 i hi)⟩
theorem yq_g_M (M : yr_M A τ) (h : yq_g τ τ') : yr_M A τ' := yr_M_own M ⟨h.2 0 (by decide), h.2 24 (by decide)⟩ (fun k h1 h2 h3 => h.1 k (by omega) (by omega) (by omega))
def ym_nr (τ A : sy_Mem) (ty key : Int32) : sy_Mem := if ya_nc0 A ty key = true then τ else if tC A ty = 0 then τ else (ya_nf A (tG A ty) key).elim (sy_up (sy_up (sy_up τ 75 (A 27 0).toNatClampNeg (tG A ty)) 76 (A 27 0).toNatClampNeg key) 44 33 (A 27 0 + 1)) (fun _ => τ)
theorem ym_nr_g : yq_g τ (ym_nr τ A ty key) := by
  unfold ym_nr
  by_cases h1 : ya_nc0 A ty key = true
  · rw [if_pos h1]
    exact ⟨fun _ _ _ _ => rfl, fun _ _ => rfl⟩
  · rw [if_neg h1]
    by_cases h2 : tC A ty = 0
    · rw [if_pos h2]
      exact ⟨fun _ _ _ _ => rfl, fun _ _ => rfl⟩
    · rw [if_neg h2]
      cases ya_nf A (tG A ty) key with
      | some i => exact ⟨fun _ _ _ _ => rfl, fun _ _ => rfl⟩
      | none =>
        refine ⟨fun k a b c => ?_, fun i hi => ?_⟩
        · show sy_up _ 44 33 _ k = _
          rw [yu_ne a, yu_ne c, yu_ne b]
        · show sy_up _ 44 33 _ 44 i = _
          rw [yu_an hi, yu_ne (by decide), yu_ne (by decide)]
theorem yq_tG (I : yn_I t A) (hty : ya_isT A ty = true) (h : ¬ tG A ty = -1) : ya_isT A (tG A ty) = true ∧ tP A (tG A ty) = -1 := by
  obtain ⟨_, _, _, _, _, _, _, g⟩ := I.1.2.1 _ hty
  exact g.resolve_left h
theorem ym_needs (M : yr_M A τ) (I : yn_I t A) (Q : yq A τ n) (hn : n < 4) (hty : ya_isT A ty = true) (key : Int32) : sf_X6_needs [.ref 44, .int ty, .int key] τ = some (.inl (some (.int (ya_b (ya_nc0 A ty key || !decide (tC A ty = 0))))), ym_nr τ A ty key) := by
  obtain ⟨q1, q2, q3, q4⟩ := Q
  have hc : (A 27 0).toNatClampNeg < 4 := by rw [yi_clampInt]; omega
  refine ee_meth ?_ rfl
  unfold sm_X6_needs
  refine es_Q (es_SI (em_50 M I (ee_rF (ee_R rfl) rfl) (ee_L rfl) hty) (es_Q ?_))
  have hcond : ∀ {env : List Value}, env[0]? = some (.ref 44) → env[2]? = some (.int key) → env[3]? = some (.int (tG A ty)) → sy_cO (sy_ceq (sy_iL 3) (sy_iK (-1))) (sy_cne (sy_iM (sy_cv 6 2 sf_X6_rootOf) (sy_aR (sy_rL 0) (sy_aI (sy_iL 3) (sy_aI (sy_iL 2) sy_aN)))) (sy_iK (-1))) env τ = some (.inl (ya_nc0 A ty key), τ) := fun h0 h2 h3 => by
    refine ee_cO (ee_cB (ee_L h3) ee_K) (fun h => ?_)
    have hg := yq_tG I hty (of_decide_eq_false h)
    exact ee_cB (ee_M (ee_aR (ee_R h0) (ee_aI (ee_L h3) (ee_aI (ee_L h2) ee_aN))) (ee_cv (ym_rootOf M I _ _ (of_decide_eq_false h) hg.2) rfl)) ee_K
  cases e0 : ya_nc0 A ty key with
  | true =>
    refine es_It ((hcond rfl rfl rfl).trans (by rw [e0])) ?_
    rw [show ym_nr τ A ty key = τ from by unfold ym_nr; rw [if_pos e0]]
    rfl
  | false =>
    refine es_If ((hcond rfl rfl rfl).trans (by rw [e0])) (es_N (es_Q ?_))
    by_cases e1 : tC A ty = 0
    · refine es_It ((ee_cB (em_51 M I (ee_rF (ee_R rfl) rfl) (ee_L rfl) hty) ee_K).trans (by rw [decide_eq_true e1])) ?_
      rw [show ym_nr τ A ty key = τ from by unfold ym_nr; rw [if_neg (by rw [e0]; decide), if_pos e1], e1]
      rfl
    · refine es_If ((ee_cB (em_51 M I (ee_rF (ee_R rfl) rfl) (ee_L rfl) hty) ee_K).trans (by rw [decide_eq_false e1])) (es_N (es_Q (es_B (es_Q (es_SI ee_K0 ?_)))))
      rw [show ym_nr τ A ty key = (ya_nf A (tG A ty) key).elim (sy_up (sy_up (sy_up τ 75 (A 27 0).toNatClampNeg (tG A ty)) 76 (A 27 0).toNatClampNeg key) 44 33 (A 27 0 + 1)) (fun _ => τ) from by unfold ym_nr; rw [if_neg (by rw [e0]; decide), if_neg e1], decide_eq_false e1]
      refine (es_for (E := fun i => [.ref 44, .int ty, .int key, .int (tG A ty), .int (nI i)]) (P := fun i => decide (A 28 i = tG A ty) && decide (A 29 i = key)) (R := fun _ => some (.inl (some (.int (ya_b true))), τ)) (A 27 0).toNatClampNeg 0 1000 (by omega) (fun i _ hi => ?_) ?_ (fun i _ hi k' => ?_)).trans ?_
      · exact (es_cB rfl ((ee_F (ee_R rfl) rfl).trans (by rw [q1])) (by omega)).trans (by rw [decide_eq_true (by omega)])
      · exact (es_cB rfl ((ee_F (ee_R rfl) rfl).trans (by rw [q1])) (by omega)).trans (by rw [decide_eq_false (by omega)])
      · have hq := q3 i (by rw [yi_clampInt] at hi; omega)
        refine es_Q ((es_I (x := decide (A 28 i = tG A ty) && decide (A 29 i = key)) (r1 := some (.inl (some (.int (ya_b true))), τ)) (ee_cA (ee_cB ((ee_An (ee_rF (ee_R rfl) rfl) (ee_L rfl) (show i < 4 by omega) (by decide)).trans (by rw [hq.1])) (ee_L rfl)) (fun _ => ee_cB ((ee_An (ee_rF (ee_R rfl) rfl) (ee_L rfl) (show i < 4 by omega) (by decide)).trans (by rw [hq.2.1])) (ee_L rfl))) (fun _ => es_eZ1) (fun _ => es_N (es_In1 rfl rfl))))
      · show (ya_nf A (tG A ty) key).elim _ _ = _
        cases ya_nf A (tG A ty) key with
        | some i => rfl
        | none =>
          rw [Option.elim_none, Option.elim_none]
          have hx : sy_inb (A 27 0) 4 = true := yi_inb.mpr ⟨q2.1, by omega⟩
          refine es_Q (es_W (ee_rF (ee_R rfl) rfl) ((ee_F (ee_R rfl) rfl).trans (by rw [q1])) (ee_L rfl) hx (es_Q (es_W (x := A 27 0) (ee_rF (ee_R rfl) rfl) ((ee_F (ee_R rfl) rfl).trans (by rw [yu_ne (by decide), q1])) (ee_L rfl) hx (es_Q ?_))))
          refine es_F (ee_R rfl) ee_K rfl ?_
          rw [yu_ne (by decide), yu_ne (by decide), q1]
          rfl
theorem yq_nr (I : yn_I t A) (Q : yq A τ n) (hn : n < 4) (hty : ya_isT A ty = true) (hk : 0 ≤ key.toInt ∧ key.toInt ≤ 999) : yq (ya_nr A ty key) (ym_nr τ A ty key) (n + 1) := by
  obtain ⟨q1, q2, q3, q4⟩ := Q
  have hf : yq_f A (ya_nr A ty key) := ya_nr_f
  have h1 : ∀ u k2, yq_1 A u k2 → yq_1 (ya_nr A ty key) u k2 := fun u k2 h => by
    obtain ⟨a1, a2, a3, a4⟩ := h
    refine ⟨by rw [ya_isT_c (hf 1 (by decide))]; exact a1, ?_, a3, by rw [ya_rootOf_nd hf]; exact a4⟩
    show ya_tg _ 3 (-1) u = -1
    rw [ya_tg_c (hf 1 (by decide)) (hf 3 (by decide))]
    exact a2
  by_cases e0 : ya_nc0 A ty key = true
  · rw [show ya_nr A ty key = A from by unfold ya_nr; rw [if_pos e0], show ym_nr τ A ty key = τ from by unfold ym_nr; rw [if_pos e0]]
    exact ⟨q1, ⟨q2.1, by omega⟩, q3, q4⟩
  · by_cases e1 : tC A ty = 0
    · rw [show ym_nr τ A ty key = τ from by unfold ym_nr; rw [if_neg e0, if_pos e1]]
      have e : ya_nr A ty key = sy_up A 27 1 1 := by unfold ya_nr; rw [if_neg e0, if_pos e1]
      rw [e] at h1 ⊢
      have e27 : sy_up A 27 1 1 27 0 = A 27 0 := yu_an (by decide)
      have e28 : sy_up A 27 1 1 28 = A 28 := yu_ne (by decide)
      have e29 : sy_up A 27 1 1 29 = A 29 := yu_ne (by decide)
      unfold yq
      rw [e27, e28, e29]
      exact ⟨q1, ⟨q2.1, by omega⟩, fun i hi => ⟨(q3 i hi).1, (q3 i hi).2.1, h1 _ _ (q3 i hi).2.2⟩, q4⟩
    · have e : ya_nr A ty key = ya_ndd A (tG A ty) key := by unfold ya_nr; rw [if_neg e0, if_neg e1]
      have e' : ym_nr τ A ty key = (ya_nf A (tG A ty) key).elim (sy_up (sy_up (sy_up τ 75 (A 27 0).toNatClampNeg (tG A ty)) 76 (A 27 0).toNatClampNeg key) 44 33 (A 27 0 + 1)) (fun _ => τ) := by unfold ym_nr; rw [if_neg e0, if_neg e1]
      cases en : ya_nf A (tG A ty) key with
      | some i =>
        rw [en] at e'
        have e2 : ya_ndd A (tG A ty) key = A := by unfold ya_ndd; rw [en]; rfl
        rw [e, e2, e']
        exact ⟨q1, ⟨q2.1, by omega⟩, q3, q4⟩
      | none =>
        rw [en] at e'
        have e2 : ya_ndd A (tG A ty) key = sy_up (sy_up (sy_up A 28 (A 27 0).toNatClampNeg (tG A ty)) 29 (A 27 0).toNatClampNeg key) 27 0 (A 27 0 + 1) := by unfold ya_ndd; rw [en]; rfl
        rw [e, e2] at h1
        rw [e, e2, e']
        show yq _ (sy_up (sy_up (sy_up τ 75 (A 27 0).toNatClampNeg (tG A ty)) 76 (A 27 0).toNatClampNeg key) 44 33 (A 27 0 + 1)) (n + 1)
        have hplus : (A 27 0 + 1).toInt = (A 27 0).toInt + 1 := by
          rw [yl_add (by omega) (by omega) (by decide) (by decide), yl_c1]
        have e27 : ∀ x : Int32, sy_up (sy_up (sy_up A 28 (A 27 0).toNatClampNeg (tG A ty)) 29 (A 27 0).toNatClampNeg key) 27 0 x 27 0 = x := fun x => yu_at
        have e28 : ∀ x : Int32, sy_up (sy_up (sy_up A 28 (A 27 0).toNatClampNeg (tG A ty)) 29 (A 27 0).toNatClampNeg key) 27 0 x 28 = upd (A 28) (A 27 0).toNatClampNeg (tG A ty) := fun x => by rw [yu_ne (by decide), yu_ne (by decide), yu_eq]
        have e29 : ∀ x : Int32, sy_up (sy_up (sy_up A 28 (A 27 0).toNatClampNeg (tG A ty)) 29 (A 27 0).toNatClampNeg key) 27 0 x 29 = upd (A 29) (A 27 0).toNatClampNeg key := fun x => by rw [yu_ne (by decide), yu_eq, yu_ne (by decide)]
        have e75 : sy_up (sy_up (sy_up τ 75 (A 27 0).toNatClampNeg (tG A ty)) 76 (A 27 0).toNatClampNeg key) 44 33 (A 27 0 + 1) 75 = upd (τ 75) (A 27 0).toNatClampNeg (tG A ty) := by rw [yu_ne (by decide), yu_ne (by decide), yu_eq]
        have e76 : sy_up (sy_up (sy_up τ 75 (A 27 0).toNatClampNeg (tG A ty)) 76 (A 27 0).toNatClampNeg key) 44 33 (A 27 0 + 1) 76 = upd (τ 76) (A 27 0).toNatClampNeg key := by rw [yu_ne (by decide), yu_eq, yu_ne (by decide)]
        have hnew : yq_1 A (tG A ty) key := by
          have e0' : ya_nc0 A ty key = false := by simpa using e0
          unfold ya_nc0 at e0'
          rw [Bool.or_eq_false_iff] at e0'
          have hg := yq_tG I hty (of_decide_eq_false e0'.1)
          exact ⟨hg.1, hg.2, hk, by simpa using e0'.2⟩
        have hcl : (A 27 0).toNatClampNeg = (A 27 0).toInt.toNat := yi_clampInt _
        unfold yq
        rw [e27, e28, e29, e75, e76, hplus]
        refine ⟨yu_at, ⟨by omega, by omega⟩, fun i hi => ?_, fun i j hi hj => ?_⟩
        · by_cases ei : i = (A 27 0).toNatClampNeg
          · rw [ei, upd_at, upd_at, upd_at, upd_at]
            exact ⟨rfl, rfl, h1 _ _ hnew⟩
          · rw [upd_ne ei, upd_ne ei, upd_ne ei, upd_ne ei]
            have := q3 i (by omega)
            exact ⟨this.1, this.2.1, h1 _ _ this.2.2⟩
        · rw [upd_ne (show j ≠ (A 27 0).toNatClampNeg by omega), upd_ne (show j ≠ (A 27 0).toNatClampNeg by omega)]
          by_cases ei : i = (A 27 0).toNatClampNeg
          · rw [ei, upd_at, upd_at]
            have := ya_ff_none.mp en j (by omega) (by omega)
            rintro ⟨g1, g2⟩
            rw [decide_eq_true g1, decide_eq_true g2] at this
            cases this
          · rw [upd_ne ei, upd_ne ei]
            exact q4 i j (by omega) hj
theorem yq_27 (h0 : 0 ≤ (A 27 0).toInt) : ya_nr A ty key 27 1 = if (ya_nc0 A ty key || !decide (tC A ty = 0)) = true then A 27 1 else 1 := by
  unfold ya_nr
  by_cases e0 : ya_nc0 A ty key = true
  · rw [if_pos e0, e0]
    rfl
  · rw [if_neg e0, show ya_nc0 A ty key = false by simpa using e0]
    by_cases e1 : tC A ty = 0
    · rw [if_pos e1, e1]
      rfl
    · rw [if_neg e1, decide_eq_false e1]
      show ya_ndd _ _ _ 27 1 = A 27 1
      unfold ya_ndd
      cases ya_nf A (tG A ty) key with
      | some i => rfl
      | none =>
        show sy_up _ 27 0 _ 27 1 = _
        rw [yu_an (by decide), yu_ne (by decide), yu_ne (by decide)]
theorem yn_I_nr (I : yn_I t A) (Q : yq A τ n) (hn : n < 4) (hty : ya_isT A ty = true) (hk : 0 ≤ key.toInt ∧ key.toInt ≤ 999) : yn_I t (ya_nr A ty key) := by
  have Q' := yq_nr I Q hn hty hk
  refine yn_I_nd I ya_nr_f ⟨Q'.2.1.1, by have := Q'.2.1.2; omega⟩ ?_
  rw [yq_27 Q.2.1.1]
  have := I.2.2.2.2.2.2.2.2.2.2
  cases (ya_nc0 A ty key || !decide (tC A ty = 0))
  · exact Or.inr rfl
  · exact this
end YQm
