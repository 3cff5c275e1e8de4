/-! the roots that are needed are made -/
section YMk
variable {A τ τ' σ B C : sy_Mem} {t m n : Nat} {ty p key here : Int32}
theorem yt_X5_statusOfNeeds (h : A 27 1 = 0 ∨ A 27 1 = 1) (x : Int32) : sf_X5_statusOfNeeds [.ref 0, .int x] A = some (.inl (some (.int (if A 27 1 = 0 then (if decide (60 < A 10 9 + x + A 27 0) = true then 11 else 0) else 10))), A) := by
  refine ee_meth ?_ rfl
  unfold sm_X5_statusOfNeeds
  have hr : sy_cI (sy_iM (sy_cv 1 0 sf_X1_isRefused) (sy_aR (sy_rF 5 3 (sy_rL 0)) sy_aN)) [.ref 0, .int x] A = some (.inl (!decide (A 27 1 = 0)), A) := ee_cI (ee_M (ee_aR (ee_rF (ee_R rfl) rfl) ee_aN) (ee_cv (yt_X1_isRefused A h) rfl))
  by_cases e : A 27 1 = 0
  · rw [if_pos e]
    refine es_Q (es_If (hr.trans (by rw [decide_eq_true e]; rfl)) (es_N (es_eI (ee_iQ (ee_cB (ee_B (ee_B (ee_M (ee_aR (ee_rF (ee_R rfl) rfl) ee_aN) (ee_cv (yt_X3_size _) rfl)) (ee_L rfl)) (ee_M (ee_aR (ee_rF (ee_R rfl) rfl) ee_aN) (ee_cv (yt_X1_size _) rfl))) ee_K) (fun _ => ee_K) (fun _ => ee_K)))))
  · rw [if_neg e]
    exact es_Q (es_It (hr.trans (by rw [decide_eq_false e]; rfl)) (es_eI ee_K))
def yo_hi (A B : sy_Mem) : Prop := ∀ k, k < 10 ∨ 17 < k → B k = A k
theorem yo_hi_trans (h1 : yo_hi A B) (h2 : yo_hi B C) : yo_hi A C := fun k hk => (h2 k hk).trans (h1 k hk)
/-- the segments that were there are as before -/
def yo_old (A B : sy_Mem) : Prop := ∀ s, yl A s → yl B s ∧ yT B s = yT A s ∧ yP B s = yP A s ∧ sD B s = sD A s ∧ ∀ f, ya_N B s f = ya_N A s f
theorem yo_old_trans (h1 : yo_old A B) (h2 : yo_old B C) : yo_old A C := fun s hs => by
  obtain ⟨a1, a2, a3, a4, a5⟩ := h1 s hs
  obtain ⟨b1, b2, b3, b4, b5⟩ := h2 s a1
  exact ⟨b1, b2.trans a2, b3.trans a3, b4.trans a4, fun f => (b5 f).trans (a5 f)⟩
theorem yx_hio : yo_hi A (ya_add A ty p key here) := fun k hk => by
  rcases hk with h | h
  · exact yx_lo h
  · exact yx_hi h
theorem yx_old (H : yx_H t A ty p key here) : yo_old A (ya_add A ty p key here) := fun s hs => ⟨(yx_l H s).mpr (Or.inl hs), yx_To H hs, yx_Po H hs, yx_Do H hs, fun f => yx_N H hs f⟩
theorem yx_tot (H : yx_H t A ty p key here) : (ya_add A ty p key here 10 9).toInt = (A 10 9).toInt + 1 := by
  have := H.1.2.2.1.2.1
  have w := H.1.2.2.1.1
  have a0 := w 0 (by decide)
  have a1 := w 1 (by decide)
  have a2 := w 2 (by decide)
  rw [yx_10, upd_at, yl_add (by omega) (by omega) (by decide) (by decide), yl_c1]
def ya_mk (A : sy_Mem) : Nat → sy_Mem
  | 0 => A
  | n + 1 => ya_add (ya_mk A n) (A 28 n) (-1) (A 29 n) (-1)
end YMk
