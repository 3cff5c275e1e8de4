/-! insertListed and insertsAll -/
section YIa
variable {A τ : sy_Mem} {t f v : Nat}
theorem yn_I_le (I : yn_I t A) : ∀ n, yn_I (t + n) A
  | 0 => I
  | n + 1 => yn_I_up (yn_I_le I n)
theorem yn_I_to (I : yn_I t A) {n : Nat} (h : t ≤ n) : yn_I n A := by
  have := yn_I_le I (n - t)
  rw [show t + (n - t) = n by omega] at this
  exact this
theorem yi_rot (a m l f : Int32) : a + m + l - f = a + (l - f) + m := by
  rw [Int32.sub_eq_add_neg, Int32.sub_eq_add_neg, Int32.add_assoc, Int32.add_assoc, Int32.add_comm m, Int32.add_assoc, Int32.add_assoc a, Int32.add_assoc l]
theorem yg_up_m (I : yn_I t A) {s : Int32} (hs : s = -1 ∨ yl A s) : ya_X3_upward A s (-1) = -1 := by
  unfold ya_X3_upward
  cases h : ya_walk (fun x => ya_sg A 12 x) (fun x => decide (ya_sg A 11 x = -1)) 4 s with
  | none => rfl
  | some x =>
    have hq := of_decide_eq_true (yk_walk_Q h).1
    have hl := yk_walk_G (G := yl A) (fun y hy => yk_GP I.1 I.2.1 y hy) hs h
    exact absurd hq hl
/-- the parent that was found is one -/
theorem yg_par0 (I : yn_I t A) (hv : v < 4) (hf : (f : Int) < (A 19 0).toInt) (hN : ya_X5_areNewOnesOrdered A f = true) : (tP A (ya_ag A 20 (-1) (nI f)) = -1 → ya_par0 A v f = -1) ∧ (ya_par0 A v f ≠ -1 → yl A (ya_par0 A v f) ∧ yT A (ya_par0 A v f) = tP A (ya_ag A 20 (-1) (nI f))) := by
  have h4 := yg_n19 I
  have ha := ((ya_areNew I hf).mp hN f (Nat.le_refl _) hf).2
  by_cases h0 : 0 < f
  · have hp := ha.resolve_left (by omega)
    refine ⟨fun e => absurd (hp ▸ e) (ya_isT_ne (yg_arg I (by omega))), fun hne => ?_⟩
    rw [show ya_par0 A v f = ya_X5_firstRight A v f 0 (-1) from if_pos h0] at hne ⊢
    unfold ya_X5_firstRight at hne ⊢
    have hd := (I.2.2.2.2.2.1 v hv).1
    cases hff : ya_ff (fun i => ((decide ((-1 : Int32) = (-1))) || (ya_X3_isBelow A (ya_at A (A (sy_vw v) 0) (nI i)) (-1))) && (ya_X5_isRight A v (ya_at A (A (sy_vw v) 0) (nI i)) f)) ((ya_cnt A (A (sy_vw v) 0)).toNatClampNeg - 0) 0 with
    | none => rw [hff] at hne; exact absurd rfl hne
    | some i =>
      rw [hff] at hne
      obtain ⟨q1, q2, q3, _⟩ := ya_ff_some.mp hff
      show yl A (ya_at A (A (sy_vw v) 0) (nI i)) ∧ yT A (ya_at A (A (sy_vw v) 0) (nI i)) = _
      have hl := (yg_at I hd (yg_pn I hd (by omega : i < _))).1
      refine ⟨hl, ?_⟩
      rw [Bool.and_eq_true] at q3
      have hr := yg_right (by omega) q3.2
      rw [Bool.and_eq_true, Bool.or_eq_true] at hr
      rcases hr.2 with e | e
      · have := congrArg Int32.toInt (of_decide_eq_true e)
        rw [nI_toInt (by omega), yl_c0] at this
        omega
      · rw [nI_sub1 (by omega) (by omega)] at e
        rw [hp]
        exact of_decide_eq_true e
  · rw [show ya_par0 A v f = ya_X3_upward A (ya_here A v) (tP A (ya_ag A 20 (-1) (nI f))) from if_neg h0]
    have hh := ya_here_l I hv
    refine ⟨fun e => by rw [e]; exact yg_up_m I hh, fun hne => ?_⟩
    unfold ya_X3_upward at hne ⊢
    cases h : ya_walk (fun x => ya_sg A 12 x) (fun x => decide (ya_sg A 11 x = tP A (ya_ag A 20 (-1) (nI f)))) 4 (ya_here A v) with
    | none => rw [h] at hne; exact absurd rfl hne
    | some x => exact ⟨yk_walk_G (G := yl A) (fun y hy => yk_GP I.1 I.2.1 y hy) hh h, of_decide_eq_true (yk_walk_Q h).1⟩
theorem yg_noTwin {ty p key : Int32} (h : ya_X3_hasTwin A ty p key = false) : ∀ r, yl A r → yT A r = ty → yP A r = p → ya_N A r 0 ≠ key := fun r hr hT hP hN => by
  have hin := yl_in hr
  have er : r = nI r.toNatClampNeg := yi_nat (yi_pos.mpr hin.1)
  have : (ya_ff (fun i => ((ya_tw A (nI i) ty p) && (decide ((ya_N A (nI i) 0) = key)))) 60 0).isSome = true := by
    refine ya_ff_isSome.mpr ⟨r.toNatClampNeg, by omega, by rw [yi_clampInt]; omega, ?_⟩
    rw [← er]
    unfold ya_tw
    rw [show ya_sg A 11 r = ty from hT, show ya_sg A 12 r = p from hP, hN, yl_isS.mpr hin, decide_eq_true rfl, decide_eq_true rfl, decide_eq_true rfl]
    rfl
  unfold ya_X3_hasTwin at h
  rw [this] at h
  cases h
/-- what is asked of the new ones, behind the making of roots -/
theorem yi_okK {G K : sy_Mem} {p : Int32} {m : Nat} (I : yn_I t A) (hv : v < 4) (hf : (f : Int) < (A 19 0).toInt) (hL : ya_X5_isListOrdered A v = true) (hN : ya_X5_areNewOnesOrdered A f = true)
    (hp : (p = -1 ∧ tP A (ya_ag A 20 (-1) (nI f)) = -1) ∨ (yl A p ∧ yT A p = tP A (ya_ag A 20 (-1) (nI f)) ∧ tP A (ya_ag A 20 (-1) (nI f)) ≠ -1))
    (hd : tK A (ya_ag A 20 (-1) (nI f)) = 0 → ya_X3_hasTwin A (ya_ag A 20 (-1) (nI f)) p (ya_slot A 0 0) = false)
    (hG : yq_f A G) (hx : yq_x G (fun u k => ¬ (u = ya_ag A 20 (-1) (nI f) ∧ k = ya_slot A 0 0))) (hm : (m : Int) = (G 27 0).toInt)
    (hK : yo_hi G K) (hKo : yo_old G K) (hKn : ∀ r, yl K r → yl G r ∨ ∃ i : Nat, i < m ∧ yT K r = G 28 i ∧ yP K r = -1 ∧ ya_N K r 0 = G 29 i)
    (hs : (K 10 9).toInt + ((A 19 0).toInt - f) ≤ 60) : yi_ok K v f p := by
  have hb := yv_lt hv
  have hk : ∀ k, k < 10 ∨ (17 < k ∧ (k < 27 ∨ 29 < k)) → K k = A k := fun k h => by rw [hK k (by omega), hG k (by omega)]
  have eu : ∀ j : Nat, ya_ag K 20 (-1) (nI j) = ya_ag A 20 (-1) (nI j) := fun j => ya_ag_c (hk 19 (by omega)) (hk 20 (by omega)) _ _
  have et : ∀ c, c < 10 → ∀ x, ya_tg K c (-1) x = ya_tg A c (-1) x := fun c hc x => ya_tg_c (hk 1 (by omega)) (hk c (by omega)) _ _
  have hlG : ∀ s, yl G s = yl A s := fun s => yl_c (hG 11 (by omega)) s
  have hTG : ∀ s, yT G s = yT A s := fun s => ya_sg_c (hG 11 (by omega)) s
  have hPG : ∀ s, yP G s = yP A s := fun s => ya_sg_c (hG 12 (by omega)) s
  refine ⟨by rw [hk 19 (by omega)]; exact hf, by rw [hk 19 (by omega)]; exact hs, fun j h1 h2 => ?_, fun j h1 h2 => ?_, ?_, ?_⟩
  · rw [hk 19 (by omega)] at h2
    rw [eu, hk _ (by omega)]
    show ya_tg K 2 (-1) _ = _
    rw [et 2 (by omega)]
    have hs := (yg_listed I hL).1 j h2
    unfold ya_X4_sees at hs
    by_cases q : ya_tg A 2 (-1) (ya_ag A 20 (-1) (nI j)) = A (sy_vw v) 0
    · exact q
    · rw [decide_eq_false q] at hs
      exact absurd hs (by simp)
  · rw [hk 19 (by omega)] at h2
    rw [eu, eu]
    show ya_tg K 3 (-1) _ = _
    rw [et 3 (by omega)]
    exact (((ya_areNew I hf).mp hN j (by omega) h2).2).resolve_left (by omega)
  · have e3 : tP K (ya_ag K 20 (-1) (nI f)) = tP A (ya_ag A 20 (-1) (nI f)) := by rw [eu]; exact et 3 (by omega) _
    rw [e3]
    rcases hp with h | ⟨h1, h2, h3⟩
    · exact Or.inl h
    · obtain ⟨q1, q2, _⟩ := hKo p (by rw [hlG]; exact h1)
      exact Or.inr ⟨q1, by rw [q2, hTG]; exact h2, h3⟩
  · have e5 : tK K (ya_ag K 20 (-1) (nI f)) = tK A (ya_ag A 20 (-1) (nI f)) := by rw [eu]; exact et 5 (by omega) _
    rw [e5, eu, show ya_slot K 0 0 = ya_slot A 0 0 from ya_slot_c (hk 31 (by omega)) _ _]
    intro h0 r hr hT hP hNr
    rcases hKn r hr with h1 | ⟨i, h1, h2, h3, h4⟩
    · obtain ⟨q1, q2, q3, q4, q5⟩ := hKo r h1
      rw [hlG] at h1
      refine yg_noTwin (hd h0) r h1 ?_ ?_ ?_
      · rw [← hTG, ← q2]; exact hT
      · rw [← hPG, ← q3]; exact hP
      · rw [← ya_N_nd hG, ← q5]; exact hNr
    · exact hx i (by omega) ⟨by rw [← h2, hT], by rw [← h4, hNr]⟩
end YIa
