/-! the turns of second and tied -/
section YWa
variable {σ τ A : sy_Mem} {t : Nat}
theorem ya_ff_succ {P : Nat → Bool} : ∀ (n a : Nat), ya_ff P (n + 1) a = match ya_ff P n a with | some i => some i | none => if P (a + n) then some (a + n) else none
  | 0, a => by
    unfold ya_ff
    rw [Nat.add_zero]
    rfl
  | n + 1, a => by
    rw [show ya_ff P (n + 1 + 1) a = if P a then some a else ya_ff P (n + 1) (a + 1) from rfl, show ya_ff P (n + 1) a = if P a then some a else ya_ff P n (a + 1) from rfl]
    by_cases h : P a = true
    · rw [if_pos h, if_pos h]
    · rw [if_neg h, if_neg h, ya_ff_succ n (a + 1), show a + 1 + n = a + (n + 1) by omega]
/-- roots with the same key are one -/
theorem yg_root1 (I : yn_I t A) {u s r : Int32} (hu : tP A u = -1) (hs : yl A s) (hr : yl A r) (h1 : yT A s = u) (h2 : yT A r = u) (hk : ya_N A s 0 = ya_N A r 0) : s = r := by
  have e1 : yP A s = -1 := by
    rcases (I.2.1.1 s hs).2 with ⟨_, h⟩ | ⟨_, _, h⟩
    · exact h
    · exact absurd (by rw [h1]; exact hu) h
  have e2 : yP A r = -1 := by
    rcases (I.2.1.1 r hr).2 with ⟨_, h⟩ | ⟨_, _, h⟩
    · exact h
    · exact absurd (by rw [h2]; exact hu) h
  have hk0 : tK A (yT A s) = 0 := by
    rcases (I.1.2.1 _ (I.2.1.1 s hs).1).2.2.2.2.2.2.1 with ⟨_, _, h⟩ | ⟨h, _⟩
    · exact h
    · rw [h1, hu, ya_isT_m] at h; cases h
  exact I.2.2.2.1.2.2.2.2.1 s r hs hr (h1.trans h2.symm) (e1.trans e2.symm) hk0 hk
/-- what rootOf comes to -/
theorem yg_rootOf (I : yn_I t A) {u key r : Int32} (hu0 : u ≠ -1) (hu : tP A u = -1) (hr : yl A r) : ya_X3_rootOf A u key = r ↔ (yT A r = u ∧ ya_N A r 0 = key) := by
  unfold ya_X3_rootOf
  rw [if_neg hu0]
  have hin := yl_in hr
  have er : r = nI r.toNatClampNeg := yi_nat (yi_pos.mpr hin.1)
  have hrn : r.toNatClampNeg < 60 := by rw [yi_clampInt]; omega
  cases hf : ya_ff (fun i => decide (A 11 i = u) && decide (ya_N A (nI i) 0 = key)) 60 0 with
  | none =>
    constructor
    · intro e
      exact absurd e.symm (yl_ne hr)
    · rintro ⟨h1, h2⟩
      have := ya_ff_none.mp hf r.toNatClampNeg (by omega) (by omega)
      rw [Bool.and_eq_false_iff] at this
      rcases this with q | q
      · exfalso
        apply of_decide_eq_false q
        rw [← h1]
        show _ = ya_sg A 11 r
        rw [ya_sg_in hin]
      · exfalso
        apply of_decide_eq_false q
        rw [← er]
        exact h2
  | some i =>
    obtain ⟨_, h2, h3, _⟩ := ya_ff_some.mp hf
    rw [Bool.and_eq_true] at h3
    have hT : yT A (nI i) = u := by
      show ya_sg A 11 (nI i) = u
      rw [ya_sgn (by omega)]
      exact of_decide_eq_true h3.1
    have hl : yl A (nI i) := by
      show ya_sg A 11 (nI i) ≠ -1
      rw [show ya_sg A 11 (nI i) = u from hT]
      exact hu0
    constructor
    · intro e
      rw [← show nI i = r from e]
      exact ⟨hT, of_decide_eq_true h3.2⟩
    · rintro ⟨h4, h5⟩
      exact yg_root1 I hu hl hr hT h4 ((of_decide_eq_true h3.2).trans h5.symm)
theorem yg_rootOf_l (I : yn_I t A) {u key : Int32} (h : ya_X3_rootOf A u key ≠ -1) : yl A (ya_X3_rootOf A u key) := by
  unfold ya_X3_rootOf at h ⊢
  by_cases e : u = -1
  · rw [if_pos e] at h; exact absurd rfl h
  · rw [if_neg e] at h ⊢
    cases hf : ya_ff (fun i => decide (A 11 i = u) && decide (ya_N A (nI i) 0 = key)) 60 0 with
    | none => rw [hf] at h; exact absurd rfl h
    | some i =>
      obtain ⟨_, h2, h3, _⟩ := ya_ff_some.mp hf
      rw [Bool.and_eq_true] at h3
      show ya_sg A 11 (nI i) ≠ -1
      rw [ya_sgn (by omega), of_decide_eq_true h3.1]
      exact e
theorem yg_tgt (I : yn_I t A) {s : Int32} (hs : yl A s) : tG A (yT A s) = -1 ∨ (tG A (yT A s) ≠ -1 ∧ tP A (tG A (yT A s)) = -1) := by
  rcases (I.1.2.1 _ (I.2.1.1 s hs).1).2.2.2.2.2.2.2 with h | ⟨h1, h2⟩
  · exact Or.inl h
  · exact Or.inr ⟨ya_isT_ne h1, h2⟩
theorem yt_X5_second (W : ya_W σ) (a : Int32) : sf_X5_second [.ref 0, .int a] σ = if (decide (0 ≤ a) && decide (a < 4)) then some (.inl (some (.int (yL σ (ya_X3_rootOf σ (tG σ (yT σ (ya_here σ a.toNatClampNeg))) (ya_N σ (ya_here σ a.toNatClampNeg) 2))))), σ) else some (.inr 1, σ) := by
  refine ee_meth ?_ rfl
  unfold sm_X5_second
  refine es_Q (es_SRx (ee_aR (ee_R rfl) (ee_aI (ee_L rfl) ee_aN)) (ee_cv (yt_X5_viewOf σ a) rfl) (fun hx => ?_))
  refine es_Q (es_SI (ee_M (ee_aR (ee_R rfl) ee_aN) (ee_cv (yt_X4_segmentAt σ (yv_of hx).1) (yv_rc (yv_of hx).1 rfl))) ?_)
  refine es_Q (es_SI (ee_M (ee_aR (ee_rF (ee_R rfl) rfl) (ee_aI (ee_M (ee_aR (ee_rF (ee_R rfl) rfl) (ee_aI (ee_L rfl) ee_aN)) (ee_cv (yt_X3_typeOf σ _) rfl)) ee_aN)) (ee_cv (yt_X2_targetOf W _) rfl)) ?_)
  exact es_eI (ee_M (ee_aR (ee_rF (ee_R rfl) rfl) (ee_aI (ee_M (ee_aR (ee_rF (ee_R rfl) rfl) (ee_aI (ee_L rfl) (ee_aI (ee_M (ee_aR (ee_rF (ee_R rfl) rfl) (ee_aI (ee_L rfl) (ee_aI ee_K ee_aN))) (ee_cv (yt_X3_numberOf σ _ 2) rfl)) ee_aN))) (ee_cv (yt_X3_rootOf W _ _) rfl)) ee_aN)) (ee_cv (yt_X3_placeOf σ _) rfl))
theorem yg_seconD : yL σ (ya_X3_rootOf σ (tG σ (yT σ (-1))) (ya_N σ (-1) 2)) = -1 := by
  have : tG σ (yT σ (-1)) = -1 := by
    show ya_tg σ 7 (-1) (-1) = -1
    unfold ya_tg
    rw [ya_isT_m]
    rfl
  rw [this]
  unfold ya_X3_rootOf
  rw [if_pos rfl]
  rfl
end YWa
