/-! the model's readers, told by the component's memory; printed by wip/whole/gen/gen43.py -/
section YQ
variable {A σ : sy_Mem} {t : Nat}
theorem yk_ful {isor met : Nat → Bool} : ∀ (n i : Nat) (p : Bool), ya_ful isor met (n + 1) i p = (((decide (0 < i) && isor i) && p) || ya_ful isor met n (i + 1) ((p || (decide (0 < i) && isor i)) && met i)) := by
  intro n i p
  rw [show ya_ful isor met (n + 1) i p = if decide (0 < i) && isor i then (if p then true else ya_ful isor met n (i + 1) (met i)) else ya_ful isor met n (i + 1) (p && met i) from rfl]
  cases hq : (decide (0 < i) && isor i) <;> cases p <;> simp
theorem es_c60 {env : List Value} {i j : Nat} (h : env[j]? = some (.int (nI i))) (hi : i ≤ 60) : sy_clt (sy_iL j) (sy_iK 60) env σ = some (.inl (decide (i < 60)), σ) :=
  (ee_cB (ee_L h) ee_K).trans (by rw [show decide (nI i < 60) = decide (i < 60) from yi_lt (N := 60) rfl (by omega) (by omega)])
theorem es_cB {env : List Value} {i j : Nat} {e : sy_IE} {B : Int32} (h : env[j]? = some (.int (nI i))) (he : e env σ = some (.inl B, σ)) (hi : i < 2000) : sy_clt (sy_iL j) e env σ = some (.inl (decide (i < B.toNatClampNeg)), σ) :=
  (ee_cB (ee_L h) he).trans (by rw [yi_ltB (by omega)])
theorem yg_60 {i : Nat} (h : i < 60) : 0 ≤ (nI i).toInt ∧ (nI i).toInt < 60 := by rw [nI_toInt (by omega)]; omega
theorem yg_n19 (I : yn_I t A) : (A 19 0).toInt = ((A 19 0).toNatClampNeg : Int) ∧ (A 19 0).toNatClampNeg ≤ 4 := by
  have := I.2.2.2.2.2.2.1
  rw [yi_clampInt]
  omega
theorem yg_arg (I : yn_I t A) {j : Nat} (h : (j : Int) < (A 19 0).toInt) : ya_isT A (ya_ag A 20 (-1) (nI j)) = true := by
  have h4 := I.2.2.2.2.2.2.1.2
  rw [ya_ag_in (yl_An h h4), nI_clamp (by omega)]
  exact (I.2.2.2.2.2.2.2.1 j h).1
theorem yg_tw1 {x : Int32} {p : Bool} (h : ((!decide (ya_sg A 11 x = -1)) && p) = true) : yl A x := by
  rw [Bool.and_eq_true] at h
  simpa [yl] using h.1
theorem yg_tw2 {x : Int32} {p q : Bool} (h : (((!decide (ya_sg A 11 x = -1)) && p) && q) = true) : yl A x := by
  rw [Bool.and_eq_true] at h
  exact yg_tw1 h.1
theorem yg_tw3 {x : Int32} {p q r : Bool} (h : ((((!decide (ya_sg A 11 x = -1)) && p) && q) && r) = true) : yl A x := by
  rw [Bool.and_eq_true] at h
  exact yg_tw2 h.1
theorem yg_isNone {o : Option Nat} : o.isNone = !o.isSome := by cases o <;> rfl
theorem yg_ite {b : Bool} : (if b = true then true else false) = b := by cases b <;> rfl
theorem yg_iteN {b : Bool} : (if b = true then false else true) = !b := by cases b <;> rfl
theorem yg_pred (I : yn_I t A) {a : Nat} (h : ¬ nI a = 0) (ha : (a : Int) ≤ (A 19 0).toInt) : nI a - 1 = nI (a - 1) ∧ ya_isA A (nI a - 1) = true := by
  have h4 := yg_n19 I
  have h0 : a ≠ 0 := by
    intro e
    subst e
    exact h nI_0
  have e : nI a - 1 = nI (a - 1) := by
    obtain ⟨b, rfl⟩ : ∃ b, a = b + 1 := ⟨a - 1, by omega⟩
    rw [nI_pred, show b + 1 - 1 = b by omega]
  refine ⟨e, ?_⟩
  rw [e]
  exact yl_An (by omega) (by omega)
/-- what is found above is there, and of the type -/
theorem yg_upw (I : yn_I t A) : ∀ (n : Nat) {s u : Int32}, yl A s → (tV A (yT A s)).toInt ≤ n → (yT A s = u ∨ ya_walk (tP A) (fun x => decide (x = u)) 4 (tP A (yT A s)) ≠ none) → u ≠ -1 → yl A ((ya_walk (yP A) (fun x => decide (yT A x = u)) n s).elim (-1) (fun x => x)) ∧ yT A ((ya_walk (yP A) (fun x => decide (yT A x = u)) n s).elim (-1) (fun x => x)) = u
  | 0, s, u, hs, hn, _, _ => by
    have := (I.1.2.1 _ (I.2.1.1 s hs).1).2.2.2.2.2.1.1
    omega
  | n + 1, s, u, hs, hn, hu, hu1 => by
    unfold ya_walk
    rw [if_neg (yl_ne hs)]
    by_cases e : yT A s = u
    · rw [if_pos (decide_eq_true e)]
      exact ⟨hs, e⟩
    · rw [if_neg (by simpa using e)]
      have hu := hu.resolve_left e
      by_cases hp : yP A s = -1
      · exfalso
        rcases (I.2.1.1 s hs).2 with ⟨h1, _⟩ | ⟨h1, _⟩
        · rw [h1] at hu
          exact hu rfl
        · rw [hp] at h1
          exact yl_ne h1 rfl
      · obtain ⟨h1, h2, h3, h4⟩ := yl_par I.1 I.2.1 hs hp
        refine yg_upw I n h1 (by omega) ?_ hu1
        rcases (I.2.1.1 s hs).2 with ⟨_, g⟩ | ⟨g1, g2, g3⟩
        · exact absurd g hp
        · rw [g2]
          by_cases e2 : tP A (yT A s) = u
          · exact Or.inl e2
          · right
            intro hw
            apply hu
            have hd : ya_dp (tP A) 4 (tP A (yT A s)) := by
              rcases yk_GT I.1 _ (I.2.1.1 s hs).1 with q | q
              · exact absurd q g3
              · exact yk_dpT4 I.1 q
            have hb := yk_below (o := u) g3 hd
            rw [hw, decide_eq_false e2] at hb
            cases hz : ya_walk (tP A) (fun x => decide (x = u)) 4 (tP A (yT A s)) with
            | none => rfl
            | some z => rw [hz] at hb; cases hb
theorem yg_up (I : yn_I t A) {s u : Int32} (hs : yl A s) (h : yT A s = u ∨ ya_X2_isBelow A (yT A s) u = true) (hu : u ≠ -1) : yl A (ya_X3_upward A s u) ∧ yT A (ya_X3_upward A s u) = u := by
  refine yg_upw I 4 hs (I.1.2.1 _ (I.2.1.1 s hs).1).2.2.2.2.2.1.2 ?_ hu
  rcases h with h | h
  · exact Or.inl h
  · right
    unfold ya_X2_isBelow at h
    rw [yk_elimB] at h
    intro e
    have e' : ya_walk (fun x => ya_tg A 3 (-1) x) (fun x => decide (x = u)) 4 (ya_tg A 3 (-1) (yT A s)) = none := e
    rw [e'] at h
    cases h
/-- below what is below -/
theorem yg_belowT (hS : yn_S A) : ∀ (n : Nat) {a b c : Int32}, ya_isT A a = true → (tV A a).toInt ≤ n → ya_X2_isBelow A a b = true → ya_X2_isBelow A b c = true → ya_X2_isBelow A a c = true
  | 0, a, b, c, ha, hn, _, _ => by
    have := (hS.2.1 _ ha).2.2.2.2.2.1.1
    omega
  | n + 1, a, b, c, ha, hn, h1, h2 => by
    unfold ya_X2_isBelow at h1 h2 ⊢
    rw [yk_elimB] at h1 h2 ⊢
    rcases (hS.2.1 _ ha).2.2.2.2.2.2.1 with ⟨g, _⟩ | ⟨g1, g2, g3, g4⟩
    · rw [show ya_tg A 3 (-1) a = -1 from g] at h1
      cases h1
    · have hd := yk_dpT4 hS g1
      have e1 := yk_below (o := b) (ya_isT_ne g1) hd
      have e2 := yk_below (o := c) (ya_isT_ne g1) hd
      rw [show ya_walk (fun x => ya_tg A 3 (-1) x) (fun x => decide (x = b)) 4 (ya_tg A 3 (-1) a) = ya_walk (tP A) (fun x => decide (x = b)) 4 (tP A a) from rfl, e1] at h1
      rw [show ya_walk (fun x => ya_tg A 3 (-1) x) (fun x => decide (x = c)) 4 (ya_tg A 3 (-1) a) = ya_walk (tP A) (fun x => decide (x = c)) 4 (tP A a) from rfl, e2]
      rw [Bool.or_eq_true] at h1 ⊢
      rcases h1 with h1 | h1
      · right
        rw [show tP A a = b from of_decide_eq_true h1]
        exact h2
      · right
        have := yg_belowT hS n (a := tP A a) (b := b) (c := c) g1 (by omega) (by unfold ya_X2_isBelow; rw [yk_elimB]; exact h1) (by unfold ya_X2_isBelow; rw [yk_elimB]; exact h2)
        unfold ya_X2_isBelow at this
        rw [yk_elimB] at this
        exact this
/-- an ordered list: each is below each ahead of it -/
theorem yg_listed (I : yn_I t A) {v : Nat} (hL : ya_X5_isListOrdered A v = true) : (∀ j : Nat, (j : Int) < (A 19 0).toInt → ya_X4_sees A v (ya_ag A 20 (-1) (nI j)) = true) ∧ ∀ (j : Nat) (d : Nat), ((j + (d + 1) : Nat) : Int) < (A 19 0).toInt → ya_X2_isBelow A (ya_ag A 20 (-1) (nI (j + (d + 1)))) (ya_ag A 20 (-1) (nI j)) = true := by
  have h4 := yg_n19 I
  have h0 : ∀ j : Nat, (j : Int) < (A 19 0).toInt → ya_X4_sees A v (ya_ag A 20 (-1) (nI j)) = true ∧ (0 < j → ya_X2_isBelow A (ya_ag A 20 (-1) (nI j)) (ya_ag A 20 (-1) (nI (j - 1))) = true) := fun j hj => by
    unfold ya_X5_isListOrdered at hL
    rw [yg_iteN, Bool.not_eq_true'] at hL
    have hn : ¬ (∃ i, 0 ≤ i ∧ i < 0 + (A 19 0).toNatClampNeg ∧ _) := fun q => absurd (ya_ff_isSome.mpr q) (by rw [hL]; decide)
    have hj2 : ¬ _ := fun q => hn ⟨j, by omega, by omega, q⟩
    simp only [Bool.or_eq_true, Bool.and_eq_true, Bool.not_eq_true', not_or, Bool.not_eq_false, not_and] at hj2
    refine ⟨hj2.1, fun q => ?_⟩
    have h5 := hj2.2 (by rw [decide_eq_true_eq, Int32.lt_iff_toInt_lt, nI_toInt (by omega), yl_c0]; omega)
    rwa [show nI j - 1 = nI (j - 1) from (yg_pred I (fun e => by have := congrArg Int32.toInt e; rw [nI_toInt (by omega), yl_c0] at this; omega) (by omega)).1] at h5
  refine ⟨fun j hj => (h0 j hj).1, fun j d => ?_⟩
  induction d with
  | zero => exact fun hd => (h0 (j + 1) hd).2 (by omega)
  | succ d ih =>
    intro hd
    have h1 := (h0 (j + (d + 2)) hd).2 (by omega)
    rw [show j + (d + 2) - 1 = j + (d + 1) by omega] at h1
    have hT := yg_arg I hd
    exact yg_belowT I.1 4 hT (I.1.2.1 _ hT).2.2.2.2.2.1.2 h1 (ih (by omega))

theorem yg_argx (I : yn_I t A) {x : Int32} (h : ya_isA A x = true) : ya_isT A (ya_ag A 20 (-1) x) = true := by
  have h1 := yl_isA.mp h
  rw [yi_nat (yi_pos.mpr h1.1)]
  exact yg_arg I (by rw [yi_clampInt]; omega)
/-- below: on a lower level, of the same database -/
theorem yg_belowV (I : yn_I t A) : ∀ (n : Nat) {s p : Int32}, yl A s → (tV A (yT A s)).toInt ≤ n → ya_X3_isBelow A s p = true → yl A p ∧ sD A p = sD A s ∧ (tV A (yT A p)).toInt < (tV A (yT A s)).toInt ∧ yP A s ≠ -1 ∧ (yP A s = p ∨ ya_X3_isBelow A (yP A s) p = true)
  | 0, s, p, hs, hn, _ => by
    have := (I.1.2.1 _ (I.2.1.1 s hs).1).2.2.2.2.2.1.1
    omega
  | n + 1, s, p, hs, hn, h => by
    have h0 := h
    unfold ya_X3_isBelow at h
    rw [yk_elimB] at h
    by_cases hp : yP A s = -1
    · rw [show ya_sg A 12 s = -1 from hp] at h
      cases h
    · obtain ⟨h1, h2, h3, h4⟩ := yl_par I.1 I.2.1 hs hp
      have e := yk_below (o := p) hp (yk_dp4 I.1 I.2.1 h1)
      rw [show ya_walk (fun x => ya_sg A 12 x) (fun x => decide (x = p)) 4 (ya_sg A 12 s) = ya_walk (yP A) (fun x => decide (x = p)) 4 (yP A s) from rfl, e, Bool.or_eq_true] at h
      rcases h with h | h
      · have q : yP A s = p := of_decide_eq_true h
        rw [q] at h1 h2 h3 h4
        exact ⟨h1, h2, by omega, hp, Or.inl q⟩
      · have hb : ya_X3_isBelow A (yP A s) p = true := by
          unfold ya_X3_isBelow
          rw [yk_elimB]
          exact h
        obtain ⟨g1, g2, g3, _⟩ := yg_belowV I n h1 (by omega) hb
        exact ⟨g1, g2.trans h2, by omega, hp, Or.inr hb⟩
theorem yg_below (I : yn_I t A) {s p : Int32} (hs : yl A s) (h : ya_X3_isBelow A s p = true) : yl A p ∧ sD A p = sD A s ∧ (tV A (yT A p)).toInt < (tV A (yT A s)).toInt ∧ yP A s ≠ -1 ∧ (yP A s = p ∨ ya_X3_isBelow A (yP A s) p = true) :=
  yg_belowV I 4 hs (I.1.2.1 _ (I.2.1.1 s hs).1).2.2.2.2.2.1.2 h
theorem yg_noself (I : yn_I t A) {s : Int32} (hs : yl A s) : ya_X3_isBelow A s s = false := by
  cases h : ya_X3_isBelow A s s with
  | false => rfl
  | true => have := (yg_below I hs h).2.2.1; omega
theorem yg_belowm {p : Int32} (h : ya_sg A 12 (-1) = -1) : ya_X3_isBelow A (-1) p = false := by
  unfold ya_X3_isBelow
  rw [h]
  rfl
theorem yg_sgm {k : Nat} : ya_sg A k (-1) = -1 := rfl
theorem yg_here (I : yn_I t A) {v : Nat} (hv : v < 4) : (A (sy_vw v) 3 = 0 → ya_here A v = -1 ∧ ya_mode A v ≠ 0) ∧ (A (sy_vw v) 3 ≠ 0 → ya_here A v = A (sy_vw v) 2 ∧ ya_mode A v = 0 ∧ yl A (A (sy_vw v) 2)) := by
  obtain ⟨_, _, h2, h3, _⟩ := I.2.2.2.2.2.1 v hv
  constructor
  · intro e
    refine ⟨by unfold ya_here; rw [e]; rfl, ?_⟩
    unfold ya_mode
    rw [if_neg (by simpa using e)]
    by_cases h : A (sy_vw v) 2 ≠ -1
    · rw [if_pos h]; decide
    · rw [if_neg h]
      by_cases h' : A (sy_vw v) 4 ≠ 0
      · rw [if_pos h']; decide
      · rw [if_neg h']; decide
  · intro e
    refine ⟨?_, ?_, ?_⟩
    · unfold ya_here
      rw [decide_eq_false e]
      rfl
    · unfold ya_mode
      rw [if_pos e]
    · rcases h3 with h3 | h3
      · exact absurd h3 e
      · exact (h2.resolve_left h3.2).1
theorem yg_mode0 (I : yn_I t A) {v : Nat} (hv : v < 4) (h : decide (ya_mode A v = 0) = true) : yl A (A (sy_vw v) 2) := by
  by_cases e : A (sy_vw v) 3 = 0
  · exact absurd (of_decide_eq_true h) ((yg_here I hv).1 e).2
  · exact ((yg_here I hv).2 e).2.2
theorem yg_mode1 (I : yn_I t A) {v : Nat} (hv : v < 4) (h : decide (ya_mode A v = 1) = true) : yl A (A (sy_vw v) 2) := by
  obtain ⟨_, _, h2, _⟩ := I.2.2.2.2.2.1 v hv
  refine (h2.resolve_left (fun e => ?_)).1
  have h := of_decide_eq_true h
  unfold ya_mode at h
  by_cases h3 : A (sy_vw v) 3 ≠ 0
  · rw [if_pos h3] at h; exact absurd h (by decide)
  · rw [if_neg h3, if_neg (fun q => q e)] at h
    by_cases h' : A (sy_vw v) 4 ≠ 0
    · rw [if_pos h'] at h; exact absurd h (by decide)
    · rw [if_neg h'] at h; exact absurd h (by decide)
theorem yg_rt (I : yn_I t A) {v a2 i : Nat} {a1 : Int32} (hL : ya_X5_isListOrdered A v = true) (hs : yl A a1) (ha : (a2 : Int) ≤ (A 19 0).toInt) (hb : (ya_X4_sees A v (ya_sg A 11 a1) && (decide (nI a2 = 0) || decide (ya_sg A 11 a1 = ya_ag A 20 (-1) (nI a2 - 1)))) = true) (hi : i < a2) : yl A (ya_X3_upward A a1 (ya_ag A 20 (-1) (nI i))) ∧ yT A (ya_X3_upward A a1 (ya_ag A 20 (-1) (nI i))) = ya_ag A 20 (-1) (nI i) := by
  have h4 := yg_n19 I
  have h0 : ¬ nI a2 = 0 := fun e => by
    have := congrArg Int32.toInt e
    rw [nI_toInt (by omega), yl_c0] at this
    omega
  rw [decide_eq_false h0, Bool.false_or, Bool.and_eq_true] at hb
  have hT := of_decide_eq_true hb.2
  rw [(yg_pred I h0 ha).1] at hT
  refine yg_up I hs ?_ (ya_isT_ne (yg_arg I (by omega)))
  show ya_sg A 11 a1 = _ ∨ _
  by_cases e : i = a2 - 1
  · left; rw [hT, e]
  · right
    show ya_X2_isBelow A (ya_sg A 11 a1) _ = true
    rw [hT]
    have := (yg_listed I hL).2 i (a2 - 1 - i - 1) (by omega)
    rwa [show i + (a2 - 1 - i - 1 + 1) = a2 - 1 by omega] at this

/-- the four ways in which a view can be -/
theorem yg_modes (I : yn_I t A) {v : Nat} (hv : v < 4) :
    (A (sy_vw v) 3 = 1 ∧ A (sy_vw v) 4 = 0 ∧ yl A (A (sy_vw v) 2) ∧ sD A (A (sy_vw v) 2) = A (sy_vw v) 0 ∧ ya_mode A v = 0 ∧ ya_here A v = A (sy_vw v) 2) ∨
    (A (sy_vw v) 3 = 0 ∧ A (sy_vw v) 4 = 0 ∧ yl A (A (sy_vw v) 2) ∧ sD A (A (sy_vw v) 2) = A (sy_vw v) 0 ∧ ya_mode A v = 1 ∧ ya_here A v = -1) ∨
    (A (sy_vw v) 3 = 0 ∧ A (sy_vw v) 4 = 1 ∧ A (sy_vw v) 2 = -1 ∧ ya_mode A v = 3 ∧ ya_here A v = -1) ∨
    (A (sy_vw v) 3 = 0 ∧ A (sy_vw v) 4 = 0 ∧ A (sy_vw v) 2 = -1 ∧ ya_mode A v = 2 ∧ ya_here A v = -1) := by
  obtain ⟨_, _, h2, h3, h4, _⟩ := I.2.2.2.2.2.1 v hv
  have hh := yg_here I hv
  rcases h3 with h3 | ⟨h3, h2'⟩
  · have hm := hh.1 h3
    rcases h2 with h2 | ⟨h2, h2d⟩
    · rcases h4 with h4 | ⟨h4, _⟩
      · right; right; right
        refine ⟨h3, h4, h2, ?_, hm.1⟩
        unfold ya_mode
        rw [h3, h4, h2]
        rfl
      · right; right; left
        refine ⟨h3, h4, h2, ?_, hm.1⟩
        unfold ya_mode
        rw [h3, h4, h2]
        rfl
    · right; left
      refine ⟨h3, h4.resolve_right (fun q => yl_ne h2 q.2), h2, h2d, ?_, hm.1⟩
      unfold ya_mode
      rw [h3, if_neg (by decide), if_pos (yl_ne h2)]
  · left
    have hm := hh.2 (by rw [h3]; decide)
    exact ⟨h3, h4.resolve_right (fun q => h2' q.2), hm.2.2, (h2.resolve_left h2').2, hm.2.1, hm.1⟩
theorem yg_pl (I : yn_I t A) {s : Int32} (hs : yl A s) : 0 ≤ (yL A s).toInt ∧ (yL A s).toInt < 60 ∧ (yL A s).toInt < (ya_cnt A (sD A s)).toInt := by
  obtain ⟨h1, h2, _⟩ := I.2.2.1.2.2.1 s hs
  have hd := yl_sD I.1 I.2.1 hs
  have h60 : (ya_cnt A (sD A s)).toInt ≤ 60 := by
    rw [ya_cnt_in hd]
    exact (I.2.2.1.1 _ (by rw [yi_clampInt]; omega)).2
  omega
theorem yg_plne (I : yn_I t A) {s : Int32} (hs : yl A s) : yL A s ≠ -1 := by
  intro e
  have := (yg_pl I hs).1
  rw [e, yl_cm] at this
  omega
/-- how many are ahead of a view -/
theorem yg_ahead (I : yn_I t A) {v : Nat} (hv : v < 4) : ya_X5_countAhead A v = (if ya_mode A v = 0 ∨ ya_mode A v = 1 then yL A (A (sy_vw v) 2) else if ya_mode A v = 2 then 0 else ya_cnt A (A (sy_vw v) 0)) := by
  unfold ya_X5_countAhead
  rcases yg_modes I hv with ⟨h3, h4, h2, _, hm, _⟩ | ⟨h3, h4, h2, _, hm, _⟩ | ⟨h3, h4, h2, hm, _⟩ | ⟨h3, h4, h2, hm, _⟩
  · rw [h4, hm, if_neg (by decide), decide_eq_false (yg_plne I h2), if_neg (by decide), if_pos (Or.inl rfl)]
  · rw [h4, hm, if_neg (by decide), decide_eq_false (yg_plne I h2), if_neg (by decide), if_pos (Or.inr rfl)]
  · rw [h4, hm, if_pos (by decide), if_neg (by decide), if_neg (by decide)]
  · rw [h4, hm, h2, if_neg (by decide), if_pos (show decide (ya_sg A 17 (-1) = -1) = true from rfl), if_neg (by decide), if_pos rfl]
theorem yg_from (I : yn_I t A) {v : Nat} (hv : v < 4) : ya_X5_placeBehind A v = (if ya_mode A v = 0 then yL A (A (sy_vw v) 2) + 1 else if ya_mode A v = 1 then yL A (A (sy_vw v) 2) else if ya_mode A v = 2 then 0 else ya_cnt A (A (sy_vw v) 0)) := by
  unfold ya_X5_placeBehind
  rw [yg_ahead I hv]
  rcases yg_modes I hv with ⟨h3, h4, h2, _, hm, hh⟩ | ⟨h3, h4, h2, _, hm, hh⟩ | ⟨h3, h4, h2, hm, hh⟩ | ⟨h3, h4, h2, hm, hh⟩
  · rw [hm, hh, decide_eq_false (yl_ne h2), if_neg (by decide), if_pos (Or.inl rfl), if_pos rfl]
  · rw [hm, hh, if_pos (by decide), if_pos (Or.inr rfl), if_neg (by decide), if_pos rfl]
  · rw [hm, hh, if_pos (by decide), if_neg (by decide), if_neg (by decide), if_neg (by decide), if_neg (by decide)]
  · rw [hm, hh, if_pos (by decide), if_neg (by decide), if_pos rfl, if_neg (by decide), if_neg (by decide)]
theorem yb_codes : ∀ f c2 c4 c8 t1 t0 x y : Bool, (((((!false) && f) && ((!c2) || (!t1))) && ((!c4) || (!t0))) && ((!c8) || (x || y))) = (f && (if (c2 && t1) then false else (if (c4 && t0) then false else (((!c8) || x) || y)))) := by decide
end YQ
