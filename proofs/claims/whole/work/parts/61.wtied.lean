/-! the turns of second and tied -/
section YWa
variable {σ τ A : sy_Mem} {t : Nat}
theorem ya_ff_succ {P : Nat → Bool} : ∀ (n a : Nat), ya_ff P (n + 1) a = match ya_ff P n a with | some i => some i | none => if P (a + n) then some (a + n) else none
  | 0, a => by
    unfold ya_ff
    rw [Nat.add_zero]
    rfl
  | n + 1, a => by
    rw [show ya_ff P (n + 1 + 1) a = if P a then some a else ya_ff P (n + 1) (a + 1) from rfl, show ya_ff P (n + 1) a = if P a then some a else ya_ff P n (a + 1) from rfl]
    by_cases h : P a = true
    · rw [if_pos h, if_pos h]
    · rw [if_neg h, if_neg h, ya_ff_succ n (a + 1), show a + 1 + n = a + (n + 1) by omega]
/-- roots with the same key are one -/
theorem yg_root1 (I : yn_I t A) {u s r : Int32} (hu : tP A u = -1) (hs : yl A s) (hr : yl A r) (h1 : yT A s = u) (h2 : yT A r = u) (hk : ya_N A s 0 = ya_N A r 0) : s = r := by
  have e1 : yP A s = -1 := by
    rcases (I.2.1.1 s hs).2 with ⟨_, h⟩ | ⟨_, _, h⟩
    · exact h
    · exact absurd (by rw [h1]; exact hu) h
  have e2 : yP A r = -1 := by
    rcases (I.2.1.1 r hr).2 with ⟨_, h⟩ | ⟨_, _, h⟩
    · exact h
    · exact absurd (by rw [h2]; exact hu) h
  have hk0 : tK A (yT A s) = 0 := by
    rcases (I.1.2.1 _ (I.2.1.1 s hs).1).2.2.2.2.2.2.1 with ⟨_, _, h⟩ | ⟨h, _⟩
    · exact h
    · rw [h1, hu, ya_isT_m] at h; cases h
  exact I.2.2.2.1.2.2.2.2.1 s r hs hr (h1.trans h2.symm) (e1.trans e2.symm) hk0 hk
/-- what rootOf comes to -/
theorem yg_rootOf (I : yn_I t A) {u key r : Int32} (hu0 : u ≠ -1) (hu : tP A u = -1) (hr : yl A r) : ya_X3_rootOf A u key = r ↔ (yT A r = u ∧ ya_N A r 0 = key) := by
  unfold ya_X3_rootOf
  rw [if_neg hu0]
  have hin := yl_in hr
  have er : r = nI r.toNatClampNeg := yi_nat (yi_pos.mpr hin.1)
  have hrn : r.toNatClampNeg < 60 := by rw [yi_clampInt]; omega
  cases hf : ya_ff (fun i => decide (A 11 i = u) && decide (ya_N A (nI i) 0 = key)) 60 0 with
  | none =>
    constructor
    · intro e
      exact absurd e.symm (yl_ne hr)
    · rintro ⟨h1, h2⟩
      have := ya_ff_none.mp hf r.toNatClampNeg (by omega) (by omega)
      rw [Bool.and_eq_false_iff] at this
      rcases this with q | q
      · exfalso
        apply of_decide_eq_false q
        rw [← h1]
        show _ = ya_sg A 11 r
        rw [ya_sg_in hin]
      · exfalso
        apply of_decide_eq_false q
        rw [← er]
        exact h2
  | some i =>
    obtain ⟨_, h2, h3, _⟩ := ya_ff_some.mp hf
    rw [Bool.and_eq_true] at h3
    have hT : yT A (nI i) = u := by
      show ya_sg A 11 (nI i) = u
      rw [ya_sgn (by omega)]
      exact of_decide_eq_true h3.1
    have hl : yl A (nI i) := by
      show ya_sg A 11 (nI i) ≠ -1
      rw [show ya_sg A 11 (nI i) = u from hT]
      exact hu0
    constructor
    · intro e
      rw [← show nI i = r from e]
      exact ⟨hT, of_decide_eq_true h3.2⟩
    · rintro ⟨h4, h5⟩
      exact yg_root1 I hu hl hr hT h4 ((of_decide_eq_true h3.2).trans h5.symm)
theorem yg_rootOf_l (I : yn_I t A) {u key : Int32} (h : ya_X3_rootOf A u key ≠ -1) : yl A (ya_X3_rootOf A u key) := by
  unfold ya_X3_rootOf at h ⊢
  by_cases e : u = -1
  · rw [if_pos e] at h; exact absurd rfl h
  · rw [if_neg e] at h ⊢
    cases hf : ya_ff (fun i => decide (A 11 i = u) && decide (ya_N A (nI i) 0 = key)) 60 0 with
    | none => rw [hf] at h; exact absurd rfl h
    | some i =>
      obtain ⟨_, h2, h3, _⟩ := ya_ff_some.mp hf
      rw [Bool.and_eq_true] at h3
      show ya_sg A 11 (nI i) ≠ -1
      rw [ya_sgn (by omega), of_decide_eq_true h3.1]
      exact e
theorem ym_rootOf (M : yr_M A τ) (I : yn_I t A) (u key : Int32) (hu0 : u ≠ -1) (hu : tP A u = -1) : sf_X6_rootOf [.ref 44, .int u, .int key] τ = some (.inl (some (.int (ya_X3_rootOf A u key))), τ) := by
  refine ee_meth ?_ rfl
  unfold sm_X6_rootOf
  refine es_Q (es_SI ee_K (es_Q (es_B (es_Q (es_SI ee_K0 ?_)))))
  refine es_loop (E := fun i => [.ref 44, .int u, .int key, .int ((ya_ff (fun i => decide (A 11 i = u) && decide (ya_N A (nI i) 0 = key)) i 0).elim (-1) (fun i => nI i)), .int (nI i)]) (S := fun _ => τ) 60 0 1000 (by omega) (fun i _ hi => (es_c60 rfl (by omega)).trans (by rw [decide_eq_true (by omega)])) ((es_c60 rfl (by omega)).trans (by rw [decide_eq_false (by omega)])) (fun i _ hi k' => ?_) ?_
  · have hi60 := yg_60 (show i < 60 by omega)
    refine es_Q (es_SI (ee_iQ (ee_cA (ee_cB (em_53 M (ee_rF (ee_R rfl) rfl) (ee_L rfl) hi60) (ee_L rfl)) (fun _ => ee_cB (ee_M (ee_aR (ee_R rfl) (ee_aI (ee_L rfl) ee_aN)) (ee_cv (ym_key M _ hi60) rfl)) (ee_L rfl))) (fun _ => ee_L rfl) (fun _ => ee_L rfl)) (es_In1 rfl ?_))
    have e : (if (decide (ya_sg A 11 (nI i) = u) && decide (ya_N A (nI i) 0 = key)) = true then nI i else (ya_ff (fun i => decide (A 11 i = u) && decide (ya_N A (nI i) 0 = key)) i 0).elim (-1) (fun i => nI i)) = (ya_ff (fun i => decide (A 11 i = u) && decide (ya_N A (nI i) 0 = key)) (i + 1) 0).elim (-1) (fun i => nI i) := by
      rw [ya_ff_succ i 0, Nat.zero_add, ya_sgn (by omega)]
      by_cases hP : (decide (A 11 i = u) && decide (ya_N A (nI i) 0 = key)) = true
      · rw [if_pos hP, if_pos hP]
        cases hf : ya_ff (fun i => decide (A 11 i = u) && decide (ya_N A (nI i) 0 = key)) i 0 with
        | none => rfl
        | some j =>
          obtain ⟨_, h2, h3, _⟩ := ya_ff_some.mp hf
          rw [Bool.and_eq_true] at h3 hP
          have hl : ∀ z, z < 60 → A 11 z = u → yl A (nI z) ∧ yT A (nI z) = u := fun z hz e => by
            have : ya_sg A 11 (nI z) = u := by rw [ya_sgn hz]; exact e
            exact ⟨by show ya_sg A 11 (nI z) ≠ -1; rw [this]; exact hu0, this⟩
          have h5 := hl i (by omega) (of_decide_eq_true hP.1)
          have h6 := hl j (by omega) (of_decide_eq_true h3.1)
          exact yg_root1 I hu h5.1 h6.1 h5.2 h6.2 ((of_decide_eq_true hP.2).trans (of_decide_eq_true h3.2).symm)
      · rw [if_neg hP, if_neg hP]
        cases ya_ff (fun i => decide (A 11 i = u) && decide (ya_N A (nI i) 0 = key)) i 0 <;> rfl
    rw [e]
    rfl
  · refine (es_eI (k := fun _ => sy_fail) (ee_L rfl)).trans ?_
    unfold ya_X3_rootOf
    rw [if_neg hu0]
theorem yg_tgt (I : yn_I t A) {s : Int32} (hs : yl A s) : tG A (yT A s) = -1 ∨ (tG A (yT A s) ≠ -1 ∧ tP A (tG A (yT A s)) = -1) := by
  rcases (I.1.2.1 _ (I.2.1.1 s hs).1).2.2.2.2.2.2.2 with h | ⟨h1, h2⟩
  · exact Or.inl h
  · exact Or.inr ⟨ya_isT_ne h1, h2⟩
theorem ym_secondOf (M : yr_M A τ) (I : yn_I t A) (s : Int32) (hs : yl A s) : sf_X6_secondOf [.ref 44, .int s] τ = some (.inl (some (.int (ya_X3_rootOf A (tG A (yT A s)) (ya_N A s 2)))), τ) := by
  have e : ya_X3_rootOf A (tG A (yT A s)) (ya_N A s 2) = if decide (tG A (yT A s) = -1) then -1 else ya_X3_rootOf A (tG A (yT A s)) (ya_N A s 2) := by
    by_cases h : tG A (yT A s) = -1
    · rw [decide_eq_true h, if_pos rfl]
      unfold ya_X3_rootOf
      rw [if_pos h]
    · rw [decide_eq_false h, if_neg (by decide)]
  rw [e]
  refine ee_meth ?_ rfl
  unfold sm_X6_secondOf
  refine es_Q (es_SI (em_50 M I (ee_rF (ee_R rfl) rfl) (em_53 M (ee_rF (ee_R rfl) rfl) (ee_L rfl) (yl_in hs)) (I.2.1.1 s hs).1) (es_eI (ee_iQ (ee_cB (ee_L rfl) ee_K) (fun _ => ee_K) (fun h0 => ?_))))
  have h := (yg_tgt I hs).resolve_left (of_decide_eq_false h0)
  exact ee_M (ee_aR (ee_R rfl) (ee_aI (ee_L rfl) (ee_aI (em_55 M (ee_rF (ee_R rfl) rfl) (ee_L rfl) ee_K (yl_in hs) ⟨by decide, by decide⟩) ee_aN))) (ee_cv (ym_rootOf M I _ _ h.1 h.2) rfl)
theorem yt_X5_second (W : ya_W σ) (a : Int32) : sf_X5_second [.ref 0, .int a] σ = if (decide (0 ≤ a) && decide (a < 4)) then some (.inl (some (.int (yL σ (ya_X3_rootOf σ (tG σ (yT σ (ya_here σ a.toNatClampNeg))) (ya_N σ (ya_here σ a.toNatClampNeg) 2))))), σ) else some (.inr 1, σ) := by
  refine ee_meth ?_ rfl
  unfold sm_X5_second
  refine es_Q (es_SRx (ee_aR (ee_R rfl) (ee_aI (ee_L rfl) ee_aN)) (ee_cv (yt_X5_viewOf σ a) rfl) (fun hx => ?_))
  refine es_Q (es_SI (ee_M (ee_aR (ee_R rfl) ee_aN) (ee_cv (yt_X4_segmentAt σ (yv_of hx).1) (yv_rc (yv_of hx).1 rfl))) ?_)
  refine es_Q (es_SI (ee_M (ee_aR (ee_rF (ee_R rfl) rfl) (ee_aI (ee_M (ee_aR (ee_rF (ee_R rfl) rfl) (ee_aI (ee_L rfl) ee_aN)) (ee_cv (yt_X3_typeOf σ _) rfl)) ee_aN)) (ee_cv (yt_X2_targetOf W _) rfl)) ?_)
  exact es_eI (ee_M (ee_aR (ee_rF (ee_R rfl) rfl) (ee_aI (ee_M (ee_aR (ee_rF (ee_R rfl) rfl) (ee_aI (ee_L rfl) (ee_aI (ee_M (ee_aR (ee_rF (ee_R rfl) rfl) (ee_aI (ee_L rfl) (ee_aI ee_K ee_aN))) (ee_cv (yt_X3_numberOf σ _ 2) rfl)) ee_aN))) (ee_cv (yt_X3_rootOf W _ _) rfl)) ee_aN)) (ee_cv (yt_X3_placeOf σ _) rfl))
theorem yg_seconD : yL σ (ya_X3_rootOf σ (tG σ (yT σ (-1))) (ya_N σ (-1) 2)) = -1 := by
  have : tG σ (yT σ (-1)) = -1 := by
    show ya_tg σ 7 (-1) (-1) = -1
    unfold ya_tg
    rw [ya_isT_m]
    rfl
  rw [this]
  unfold ya_X3_rootOf
  rw [if_pos rfl]
  rfl
theorem yw_ok_second (H : yw_R t σ) (a : Int32) : yw_OK t σ 1 sf_X5_second sf_X6_second [.int a] := by
  refine yw_reader H _ _ (yt_X5_second (yn_Wo H.1) a) (fun τ M => ?_)
  have I := H.1
  refine ee_meth ?_ rfl
  unfold sm_X6_second
  have hg := ee_cN (ee_goes (yg_isView τ a [.ref 44, .int a] rfl rfl))
  rw [ya_thr1] at hg
  cases hc : (decide (0 ≤ a) && decide (a < 4)) with
  | false =>
    rw [hc, if_neg (show ¬ (false = true) by decide)] at hg
    rw [if_neg (show ¬ (false = true) by decide), if_neg (show ¬ (false = true) by decide)]
    refine es_Q (es_It (ee_cO (x := true) (y := true) hg (fun h => absurd h (by decide))) (es_eI (x := 0) ?_))
    refine (ee_iQ (z := false) (x := -1) (y := 0) ((ee_cB (ee_F (ee_R rfl) rfl) ee_K).trans (by rw [yu_at]; rfl)) (fun h => absurd h (by decide)) (fun _ => ee_K)).trans ?_
    rw [if_neg (show ¬ (false = true) by decide)]
  | true =>
    rw [hc, if_pos (show true = true from rfl)] at hg
    rw [if_pos (show true = true from rfl), if_pos (show true = true from rfl)]
    obtain ⟨hv, ea⟩ := yv_of hc
    have M' := yr_M_44 M (i := 36) (x := 0) ⟨by decide, by decide⟩
    have ec : some (Value.int a) = some (.int (nI a.toNatClampNeg)) := by rw [← ea]
    have hcond : sy_cO (sy_cN (sy_cI (sy_iM (sy_cv 6 3 sf_X6_goes) (sy_aR (sy_rL 0) (sy_aI (sy_iM (sy_cs 1 sf_X6_isView) (sy_aI (sy_iL 1) sy_aN)) (sy_aI (sy_iK 1) (sy_aI (sy_iK 1) sy_aN))))))) (sy_cne (sy_iA 0 (sy_rF 6 17 (sy_rL 0)) (sy_iL 1)) (sy_iK 0)) [.ref 44, .int a] τ = some (.inl (!decide (ya_mode σ a.toNatClampNeg = 0)), sy_up τ 44 36 0) :=
      (ee_cO (x := false) hg (fun _ => ee_cB (em_61 M' hv (ee_rF (ee_R rfl) rfl) (ee_L ec)) ee_K)).trans (by rw [Bool.false_or])
    have hrest : ya_mode σ a.toNatClampNeg ≠ 0 → ∀ k : List Value → sy_MM (Option Value), sy_eI (sy_iQ (sy_ceq (sy_iF 6 36 (sy_rL 0)) (sy_iK 0)) (sy_iK (-1)) (sy_iK 0)) [.ref 44, .int a] k (sy_up τ 44 36 0) = some (.inl (some (.int (-1))), sy_up τ 44 36 0) := fun _ k => by
      refine es_eI ?_
      refine (ee_iQ (z := true) (x := -1) (y := 0) ((ee_cB (ee_F (ee_R rfl) rfl) ee_K).trans (by rw [yu_at]; rfl)) (fun _ => ee_K) (fun h => absurd h (by decide))).trans ?_
      rw [if_pos (show true = true from rfl)]
    by_cases hm : ya_mode σ a.toNatClampNeg = 0
    · have hl := yg_mode0 I hv (decide_eq_true hm)
      have hh : ya_here σ a.toNatClampNeg = σ (sy_vw a.toNatClampNeg) 2 := by
        by_cases e : σ (sy_vw a.toNatClampNeg) 3 = 0
        · exact absurd hm ((yg_here I hv).1 e).2
        · exact ((yg_here I hv).2 e).1
      rw [hm] at hcond
      rw [hh]
      refine es_Q (es_If hcond (es_N (es_Q (es_SI (ee_M (ee_aR (ee_R rfl) (ee_aI (em_62 M' hv (ee_rF (ee_R rfl) rfl) (ee_L ec)) ee_aN)) (ee_cv (ym_secondOf M' I _ hl) rfl)) ?_))))
      refine es_eI ?_
      refine (ee_iQ (ee_cB (ee_L rfl) ee_K) (fun _ => ee_K) (fun h0 => ee_M (ee_aR (ee_R rfl) (ee_aI (ee_L rfl) ee_aN)) (ee_cv (ym_placeOf M' I _ (yg_rootOf_l I (of_decide_eq_false h0))) rfl))).trans ?_
      by_cases e : ya_X3_rootOf σ (tG σ (yT σ (σ (sy_vw a.toNatClampNeg) 2))) (ya_N σ (σ (sy_vw a.toNatClampNeg) 2) 2) = -1
      · rw [decide_eq_true e, if_pos (show true = true from rfl), e]
        rfl
      · rw [decide_eq_false e, if_neg (show ¬ (false = true) by decide)]
    · have hh : ya_here σ a.toNatClampNeg = -1 := by
        by_cases e : σ (sy_vw a.toNatClampNeg) 3 = 0
        · exact ((yg_here I hv).1 e).1
        · exact absurd ((yg_here I hv).2 e).2.1 hm
      rw [decide_eq_false hm] at hcond
      rw [hh, yg_seconD]
      exact es_Q (es_It hcond (hrest hm _))
end YWa
