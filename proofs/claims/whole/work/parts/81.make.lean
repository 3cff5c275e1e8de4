/-! the roots that are needed are made -/
section YMk
variable {A τ τ' σ B C : sy_Mem} {t m n : Nat} {ty p key here : Int32}
theorem yt_X5_statusOfNeeds (h : A 27 1 = 0 ∨ A 27 1 = 1) (x : Int32) : sf_X5_statusOfNeeds [.ref 0, .int x] A = some (.inl (some (.int (if A 27 1 = 0 then (if decide (60 < A 10 9 + x + A 27 0) = true then 11 else 0) else 10))), A) := by
  refine ee_meth ?_ rfl
  unfold sm_X5_statusOfNeeds
  have hr : sy_cI (sy_iM (sy_cv 1 0 sf_X1_isRefused) (sy_aR (sy_rF 5 3 (sy_rL 0)) sy_aN)) [.ref 0, .int x] A = some (.inl (!decide (A 27 1 = 0)), A) := ee_cI (ee_M (ee_aR (ee_rF (ee_R rfl) rfl) ee_aN) (ee_cv (yt_X1_isRefused A h) rfl))
  by_cases e : A 27 1 = 0
  · rw [if_pos e]
    refine es_Q (es_If (hr.trans (by rw [decide_eq_true e]; rfl)) (es_N (es_eI (ee_iQ (ee_cB (ee_B (ee_B (ee_M (ee_aR (ee_rF (ee_R rfl) rfl) ee_aN) (ee_cv (yt_X3_size _) rfl)) (ee_L rfl)) (ee_M (ee_aR (ee_rF (ee_R rfl) rfl) ee_aN) (ee_cv (yt_X1_size _) rfl))) ee_K) (fun _ => ee_K) (fun _ => ee_K)))))
  · rw [if_neg e]
    exact es_Q (es_It (hr.trans (by rw [decide_eq_false e]; rfl)) (es_eI ee_K))
theorem ym_all (M : yr_M A τ) (I : yn_I t A) : sf_X6_all [.ref 44] τ = some (.inl (some (.int (A 10 9))), τ) := by
  obtain ⟨w1, w2, _⟩ := I.2.2.1
  have a0 := w1 0 (by decide)
  have a1 := w1 1 (by decide)
  have a2 := w1 2 (by decide)
  refine ee_meth ?_ rfl
  unfold sm_X6_all
  have h : ∀ j : Nat, j < 3 → sy_iA 0 (sy_rF 6 13 (sy_rL 0)) (sy_iK (nI j)) [.ref 44] τ = some (.inl (A 16 j), τ) := fun j hj => (em_57 M (ee_rF (ee_R rfl) rfl) ee_K (by rw [nI_toInt (by omega)]; omega)).trans (by rw [ya_cnt_in (by rw [nI_toInt (by omega)]; omega), nI_clamp (by omega)])
  refine es_eI ((ee_B (ee_B (h 0 (by decide)) (h 1 (by decide))) (h 2 (by decide))).trans ?_)
  have : A 16 0 + A 16 1 + A 16 2 = A 10 9 := yi_ext (by
    have e1 : (A 16 0 + A 16 1).toInt = (A 16 0).toInt + (A 16 1).toInt := yl_add (by omega) (by omega) (by omega) (by omega)
    rw [yl_add (by omega) (by omega) (by omega) (by omega), e1]
    omega)
  rw [← this]
def yo_hi (A B : sy_Mem) : Prop := ∀ k, k < 10 ∨ 17 < k → B k = A k
theorem yo_hi_trans (h1 : yo_hi A B) (h2 : yo_hi B C) : yo_hi A C := fun k hk => (h2 k hk).trans (h1 k hk)
/-- the segments that were there are as before -/
def yo_old (A B : sy_Mem) : Prop := ∀ s, yl A s → yl B s ∧ yT B s = yT A s ∧ yP B s = yP A s ∧ sD B s = sD A s ∧ ∀ f, ya_N B s f = ya_N A s f
theorem yo_old_trans (h1 : yo_old A B) (h2 : yo_old B C) : yo_old A C := fun s hs => by
  obtain ⟨a1, a2, a3, a4, a5⟩ := h1 s hs
  obtain ⟨b1, b2, b3, b4, b5⟩ := h2 s a1
  exact ⟨b1, b2.trans a2, b3.trans a3, b4.trans a4, fun f => (b5 f).trans (a5 f)⟩
theorem yx_hio : yo_hi A (ya_add A ty p key here) := fun k hk => by
  rcases hk with h | h
  · exact yx_lo h
  · exact yx_hi h
theorem yx_old (H : yx_H t A ty p key here) : yo_old A (ya_add A ty p key here) := fun s hs => ⟨(yx_l H s).mpr (Or.inl hs), yx_To H hs, yx_Po H hs, yx_Do H hs, fun f => yx_N H hs f⟩
theorem yx_tot (H : yx_H t A ty p key here) : (ya_add A ty p key here 10 9).toInt = (A 10 9).toInt + 1 := by
  have := H.1.2.2.1.2.1
  have w := H.1.2.2.1.1
  have a0 := w 0 (by decide)
  have a1 := w 1 (by decide)
  have a2 := w 2 (by decide)
  rw [yx_10, upd_at, yl_add (by omega) (by omega) (by decide) (by decide), yl_c1]
def ya_mk (A : sy_Mem) : Nat → sy_Mem
  | 0 => A
  | n + 1 => ya_add (ya_mk A n) (A 28 n) (-1) (A 29 n) (-1)
def ym_mk (τ A : sy_Mem) : Nat → sy_Mem
  | 0 => τ
  | n + 1 => ym_ins (ym_mk τ A n) (ya_mk A n) (A 28 n) (-1) (A 29 n) (-1)
def yo_mk (t : Nat) (A τ : sy_Mem) (n : Nat) : Prop := yn_I (t + n) (ya_mk A n) ∧ yr_M (ya_mk A n) (ym_mk τ A n) ∧ (ya_mk A n 10 9).toInt = (A 10 9).toInt + n ∧ yo_hi A (ya_mk A n) ∧ ym_fi τ (ym_mk τ A n) ∧ yo_old A (ya_mk A n) ∧
  ∀ r, yl (ya_mk A n) r → yl A r ∨ ∃ i : Nat, i < n ∧ yT (ya_mk A n) r = A 28 i ∧ yP (ya_mk A n) r = -1 ∧ ya_N (ya_mk A n) r 0 = A 29 i
theorem yq_mkH (Q : yq A τ m) (hsum : (A 10 9).toInt + (A 27 0).toInt ≤ 60) {n : Nat} (hn : (n : Int) < (A 27 0).toInt) (h : yo_mk t A τ n) : yx_H (t + n) (ya_mk A n) (A 28 n) (-1) (A 29 n) (-1) ∧ (ya_mk A n 10 9).toInt < 60 := by
  obtain ⟨g1, g2, g3, g4, g5, g6, g7⟩ := h
  obtain ⟨a1, a2, a3, a4⟩ := (Q.2.2.1 n hn).2.2
  have h60 : (ya_mk A n 10 9).toInt < 60 := by omega
  have hr := yg_room g1 h60
  have hT : ya_isT (ya_mk A n) (A 28 n) = true := by rw [ya_isT_c (g4 1 (by decide))]; exact a1
  have hP : tP (ya_mk A n) (A 28 n) = -1 := by
    show ya_tg _ 3 (-1) _ = -1
    rw [ya_tg_c (g4 1 (by decide)) (g4 3 (by decide))]
    exact a2
  exact ⟨⟨g1, ⟨hT, Or.inl ⟨rfl, hP⟩, a3, Or.inl rfl⟩, hr.1, hr.2 _ (g1.1.2.1 _ hT).1⟩, h60⟩
theorem yq_mk (I : yn_I t A) (M : yr_M A τ) (Q : yq A τ m) (hsum : (A 10 9).toInt + (A 27 0).toInt ≤ 60) (ht : t + 60 < 10000) : ∀ n : Nat, (n : Int) ≤ (A 27 0).toInt → yo_mk t A τ n
  | 0, _ => ⟨I, M, by show (A 10 9).toInt = (A 10 9).toInt + 0; omega, fun _ _ => rfl, fun _ _ => rfl, fun s hs => ⟨hs, rfl, rfl, rfl, fun _ => rfl⟩, fun r hr => Or.inl hr⟩
  | n + 1, h => by
    have hm := yq_mk I M Q hsum ht n (by omega)
    obtain ⟨H, h60⟩ := yq_mkH Q hsum (by omega) hm
    obtain ⟨g1, g2, g3, g4, g5, g6, g7⟩ := hm
    have hq := (Q.2.2.1 n (by omega)).2.2
    have a0 : 0 ≤ (A 10 9).toInt := by
      have w := I.2.2.1.1
      have := I.2.2.1.2.1
      have a0 := w 0 (by decide)
      have a1 := w 1 (by decide)
      have a2 := w 2 (by decide)
      omega
    refine ⟨yx_I H (by show t + n < 10000; omega) h60 (fun _ r hr hT _ hN => ?_), yr_ins g2 H, ?_, yo_hi_trans g4 yx_hio, ym_fi_trans g5 ym_ins_fi, yo_old_trans g6 (yx_old H), fun r hr => ?_⟩
    · rcases g7 r hr with h1 | ⟨i, h1, h2, h3, h4⟩
      · obtain ⟨b1, b2, b3, b4, b5⟩ := g6 r h1
        rw [b2] at hT
        rw [b5] at hN
        have := (yg_rootOf I (ya_isT_ne hq.1) hq.2.1 h1).mpr ⟨hT, hN⟩
        rw [hq.2.2.2] at this
        exact yl_ne h1 this.symm
      · exact Q.2.2.2 n i (by omega) h1 ⟨by rw [← h2, hT], by rw [← h4, hN]⟩
    · rw [show ya_mk A (n + 1) = ya_add (ya_mk A n) (A 28 n) (-1) (A 29 n) (-1) from rfl, yx_tot H]
      omega
    · show yl A r ∨ ∃ i : Nat, i < n + 1 ∧ yT (ya_add (ya_mk A n) (A 28 n) (-1) (A 29 n) (-1)) r = A 28 i ∧ yP (ya_add (ya_mk A n) (A 28 n) (-1) (A 29 n) (-1)) r = -1 ∧ ya_N (ya_add (ya_mk A n) (A 28 n) (-1) (A 29 n) (-1)) r 0 = A 29 i
      rcases (yx_l H r).mp hr with h1 | h1
      · rw [yx_To H h1, yx_Po H h1, yx_N H h1]
        rcases g7 r h1 with h2 | ⟨i, h2, h3⟩
        · exact Or.inl h2
        · exact Or.inr ⟨i, by omega, h3⟩
      · rw [h1, yx_TZ H, yx_PZ H, yx_NZ H]
        exact Or.inr ⟨n, by omega, rfl, rfl, rfl⟩
theorem yt_X5_makeNeeded (I : yn_I t A) (M : yr_M A τ) (Q : yq A τ m) (hsum : (A 10 9).toInt + (A 27 0).toInt ≤ 60) (ht : t + 60 < 10000) : sf_X5_makeNeeded [.ref 0] A = some (.inl none, ya_mk A (A 27 0).toNatClampNeg) := by
  have h27 := I.2.2.2.2.2.2.2.2.2.1
  have hcl : ((A 27 0).toNatClampNeg : Int) = (A 27 0).toInt := by rw [yi_clampInt]; omega
  refine ee_meth ?_ rfl
  unfold sm_X5_makeNeeded
  refine es_Q (es_B (es_Q (es_SI ee_K0 ?_)))
  refine es_loop (E := fun i => [.ref 0, .int (nI i)]) (S := fun i => ya_mk A i) (A 27 0).toNatClampNeg 0 1000 (by omega) (fun i _ hi => ?_) ?_ (fun i _ hi k' => ?_) ?_
  · have g := yq_mk I M Q hsum ht i (by omega)
    exact (es_cB (B := A 27 0) rfl ((ee_M (ee_aR (ee_rF (ee_R rfl) rfl) ee_aN) (ee_cv (yt_X1_size _) rfl)).trans (by rw [g.2.2.2.1 27 (by decide)])) (by omega)).trans (by rw [decide_eq_true (by omega)])
  · have g := yq_mk I M Q hsum ht (0 + (A 27 0).toNatClampNeg) (by omega)
    exact (es_cB (B := A 27 0) rfl ((ee_M (ee_aR (ee_rF (ee_R rfl) rfl) ee_aN) (ee_cv (yt_X1_size _) rfl)).trans (by rw [g.2.2.2.1 27 (by decide)])) (by omega)).trans (by rw [decide_eq_false (by omega)])
  · have g := yq_mk I M Q hsum ht i (by omega)
    obtain ⟨H, h60⟩ := yq_mkH Q hsum (by omega) g
    have W := yn_Wo g.1
    have hnd : ∀ k, 17 < k → ya_nd (ya_mk A i) k (nI i) = A k i := fun k hk => by
      unfold ya_nd
      rw [g.2.2.2.1 27 (by decide), g.2.2.2.1 k (by omega), nI_clamp (by omega), if_pos]
      rw [Bool.and_eq_true, yl_ge, yl_lt, yl_c0, nI_toInt (by omega)]
      omega
    refine es_Q (es_E (ee_M (ee_aR (ee_R rfl) (ee_aI ((ee_M (ee_aR (ee_rF (ee_R rfl) rfl) (ee_aI (ee_L rfl) ee_aN)) (ee_cv (yt_X1_typeOf W _) rfl)).trans (by rw [hnd 28 (by decide)])) (ee_aI ee_K (ee_aI ((ee_M (ee_aR (ee_rF (ee_R rfl) rfl) (ee_aI (ee_L rfl) ee_aN)) (ee_cv (yt_X1_keyOf W _) rfl)).trans (by rw [hnd 29 (by decide)])) (ee_aI ee_K ee_aN))))) (ee_cv (yt_X5_addSegment H.1 H.2.1 H.2.2.1 H.2.2.2) rfl)) (es_In1 rfl rfl))
  · rw [Nat.zero_add]
    rfl
theorem ym_makes (I : yn_I t A) (M : yr_M A τ) (Q : yq A τ m) (hsum : (A 10 9).toInt + (A 27 0).toInt ≤ 60) (ht : t + 60 < 10000) : sf_X6_makes [.ref 44] τ = some (.inl none, ym_mk τ A (A 27 0).toNatClampNeg) := by
  have h27 := I.2.2.2.2.2.2.2.2.2.1
  have hcl : ((A 27 0).toNatClampNeg : Int) = (A 27 0).toInt := by rw [yi_clampInt]; omega
  refine ee_meth ?_ rfl
  unfold sm_X6_makes
  refine es_Q (es_B (es_Q (es_SI ee_K0 ?_)))
  refine es_loop (E := fun i => [.ref 44, .int (nI i)]) (S := fun i => ym_mk τ A i) (A 27 0).toNatClampNeg 0 1000 (by omega) (fun i _ hi => ?_) ?_ (fun i _ hi k' => ?_) ?_
  · have g := yq_mk I M Q hsum ht i (by omega)
    exact (es_cB (B := A 27 0) rfl ((ee_F (ee_R rfl) rfl).trans (by rw [g.2.2.2.2.1 44 (by decide), Q.1])) (by omega)).trans (by rw [decide_eq_true (by omega)])
  · have g := yq_mk I M Q hsum ht (0 + (A 27 0).toNatClampNeg) (by omega)
    exact (es_cB (B := A 27 0) rfl ((ee_F (ee_R rfl) rfl).trans (by rw [g.2.2.2.2.1 44 (by decide), Q.1])) (by omega)).trans (by rw [decide_eq_false (by omega)])
  · have g := yq_mk I M Q hsum ht i (by omega)
    obtain ⟨H, h60⟩ := yq_mkH Q hsum (by omega) g
    have hq := Q.2.2.1 i (by omega)
    refine es_Q (es_B (es_SI (ee_M (ee_aR (ee_R rfl) (ee_aI ((ee_An (ee_rF (ee_R rfl) rfl) (ee_L rfl) (show i < 4 by omega) (by decide)).trans (by rw [g.2.2.2.2.1 75 (by decide), hq.1])) (ee_aI ee_K (ee_aI ((ee_An (ee_rF (ee_R rfl) rfl) (ee_L rfl) (show i < 4 by omega) (by decide)).trans (by rw [g.2.2.2.2.1 76 (by decide), hq.2.1])) (ee_aI ee_K ee_aN))))) (ee_cv (ym_inserts g.2.1 H (Or.inl ⟨rfl, rfl⟩)) rfl)) (es_In1 rfl rfl)))
  · rw [Nat.zero_add]
    rfl
end YMk
