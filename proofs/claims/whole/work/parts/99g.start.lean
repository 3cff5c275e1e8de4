/-! what holds at the start -/
section YS0
theorem s0_11 : ∀ i, i < 60 → sy_s0 11 i = -1 := by decide +kernel
theorem s0_13 : ∀ i, i < 60 → sy_s0 13 i = 0 := by decide +kernel
theorem s0_14 : ∀ i, i < 180 → sy_s0 14 i = 0 := by decide +kernel
theorem s0_16 : ∀ d, d < 3 → sy_s0 16 d = 0 := by decide +kernel
theorem s0_31 : ∀ i, i < 12 → sy_s0 31 i = 0 := by decide +kernel
theorem s0_1 : sy_s0 1 0 = 0 ∧ sy_s0 10 9 = 0 ∧ sy_s0 19 0 = 0 ∧ sy_s0 27 0 = 0 ∧ sy_s0 27 1 = 0 := by decide +kernel
theorem s0_v : ∀ v, v < 4 → sy_s0 (sy_vw v) 0 = 0 ∧ sy_s0 (sy_vw v) 1 = 0 ∧ sy_s0 (sy_vw v) 2 = -1 ∧ sy_s0 (sy_vw v) 3 = 0 ∧ sy_s0 (sy_vw v) 4 = 0 ∧ sy_s0 (sy_vw v) 5 = -1 ∧ sy_s0 (sy_vw v) 6 = 0 := by decide +kernel
theorem s0_m : ∀ v, v < 4 → sy_s0 59 v = 0 ∧ sy_s0 60 v = 0 ∧ sy_s0 61 v = 2 ∧ sy_s0 62 v = -1 ∧ sy_s0 63 v = -1 ∧ sy_s0 64 v = 0 := by decide +kernel
theorem s0_l (s : Int32) : ¬ yl sy_s0 s := by
  unfold yl ya_sg
  by_cases h : (decide (0 ≤ s) && decide (s < 60)) = true
  · have := yl_isS.mp h
    rw [if_pos h, s0_11 _ (by rw [yi_clampInt]; omega)]
    exact fun e => e rfl
  · rw [if_neg h]
    exact fun e => e rfl
theorem s0_T (u : Int32) : ¬ ya_isT sy_s0 u = true := fun h => by
  have := yl_isT.mp h
  rw [s0_1.1, yl_c0] at this
  omega
theorem s0_I : yn_I 0 sy_s0 := by
  obtain ⟨h1, h10, h19, h27, h271⟩ := s0_1
  refine ⟨⟨by rw [h1]; decide, fun t h => absurd h (s0_T t), fun t u h => absurd h (s0_T t)⟩, ⟨fun s h => absurd h (s0_l s), fun i hi => by rw [s0_14 i hi]; decide⟩, ⟨fun d hd => by rw [s0_16 d hd]; decide, ⟨by rw [h10, s0_16 0 (by decide), s0_16 1 (by decide), s0_16 2 (by decide)]; decide, by rw [h10]; decide⟩, fun s h => absurd h (s0_l s), fun d p g1 g2 g3 g4 => ?_⟩, ⟨fun s h => absurd h (s0_l s), fun s _ _ h => absurd h (s0_l s), fun s _ h => absurd h (s0_l s), fun s _ h => absurd h (s0_l s), fun s _ h => absurd h (s0_l s), fun s _ h => absurd h (s0_l s)⟩, fun i hi => by rw [s0_13 i hi]; decide, fun v hv => ?_, ⟨by rw [h19]; decide, fun i hi => ?_, fun i hi => by rw [s0_31 i hi]; decide, by rw [h27]; decide, Or.inl h271⟩⟩
  · rw [ya_cnt_in ⟨g1, g2⟩, s0_16 _ (by rw [yi_clampInt]; omega), yl_c0] at g4
    omega
  · obtain ⟨a0, a1, a2, a3, a4, a5, a6⟩ := s0_v v hv
    unfold yn_v
    rw [a0, a1, a2, a3, a4, a5, a6]
    exact ⟨by decide, by decide, Or.inl rfl, Or.inl rfl, Or.inl rfl, Or.inl rfl, by decide, fun i hi => absurd hi (by rw [yl_c0]; omega)⟩
  · rw [h19, yl_c0] at hi
    omega
set_option maxRecDepth 100000 in
theorem s0_M : yr_M sy_s0 sy_s0 := by
  refine ⟨⟨rfl, rfl, rfl, rfl, rfl, rfl, rfl, rfl, rfl⟩, ⟨?_, fun i hi h => absurd (s0_11 i hi) h, rfl, rfl, rfl⟩, fun v hv => ?_, ⟨rfl, rfl, rfl, rfl, rfl, rfl, rfl, rfl, rfl⟩⟩
  · rfl
  · obtain ⟨a0, a1, a2, a3, a4, a5, a6⟩ := s0_v v hv
    obtain ⟨m0, m1, m2, m3, m4, m5⟩ := s0_m v hv
    unfold yr_v ya_mode
    rw [a0, a1, a2, a3, a4, a5, a6]
    exact ⟨m0, m1, m2, m3, m4, m5, fun i hi => absurd hi (by rw [yl_c0]; omega)⟩
theorem law_all {bs L : Nat} {xs : Nat → Int32} (hL : L ≤ 2560) : ∃ τ, sy_lawM bs L xs sy_s0 = some (.inl (some (.int 1)), τ) :=
  law_ofT (R := fun t σ => yw_R (8 * t) σ) ⟨s0_I, s0_M⟩ hL (fun t σ ht H => law_step hL t σ ht H)
end YS0
