/-! the place of a new segment: where the component puts it is where the model counts to -/
section YB
variable {σ τ A : sy_Mem} {t : Nat}
theorem yU_under {s p : Int32} : ya_under A s p = true ↔ yU A s p := by
  unfold ya_under yU
  rw [Bool.or_eq_true, decide_eq_true_eq]
theorem yg_num (I : yn_I t A) {s f : Int32} (h : 0 ≤ s.toInt ∧ s.toInt < 60) (hf : 0 ≤ f.toInt ∧ f.toInt < 3) : 0 ≤ (ya_N A s f).toInt ∧ (ya_N A s f).toInt ≤ 999 := by
  rw [ya_N_in h hf]
  refine I.2.1.2 _ ?_
  rw [yi_clampInt, yi_clampInt]
  omega
/-- the child of p on the way up from s -/
def ya_ch (A : sy_Mem) (p s : Int32) : Int32 := (ya_walk (yP A) (fun x => decide (yP A x = p)) 4 s).elim s (fun x => x)
theorem yo_chN (I : yn_I t A) {p : Int32} : ∀ (n : Nat) {s : Int32}, yl A s → ya_lv A s ≤ n → (p = -1 ∨ ya_X3_isBelow A s p = true) → ∃ c, ya_walk (yP A) (fun x => decide (yP A x = p)) n s = some c ∧ yl A c ∧ yU A s c ∧ yP A c = p
  | 0, s, hs, hn, _ => by have := yl_lev I hs; omega
  | n + 1, s, hs, hn, h => by
    unfold ya_walk
    rw [if_neg (yl_ne hs)]
    by_cases hp : yP A s = p
    · rw [if_pos (decide_eq_true hp)]
      exact ⟨s, rfl, hs, Or.inl rfl, hp⟩
    · rw [if_neg (by rw [decide_eq_true_eq]; exact hp)]
      have h1 : yP A s ≠ -1 ∧ (p = -1 ∨ ya_X3_isBelow A (yP A s) p = true) := by
        rcases h with h | h
        · exact ⟨fun q => hp (q.trans h.symm), Or.inl h⟩
        · obtain ⟨_, _, _, h4, h5⟩ := yg_below I hs h
          exact ⟨h4, Or.inr (h5.resolve_left hp)⟩
      obtain ⟨h2, h3⟩ := yl_levS I hs h1.1
      obtain ⟨c, c1, c2, c3, c4⟩ := yo_chN I n h2 (by omega) h1.2
      exact ⟨c, c1, c2, yU_up I hs h1.1 c3, c4⟩
theorem yo_ch (I : yn_I t A) {p s : Int32} (hs : yl A s) (h : p = -1 ∨ ya_X3_isBelow A s p = true) : ya_walk (yP A) (fun x => decide (yP A x = p)) 4 s = some (ya_ch A p s) ∧ yl A (ya_ch A p s) ∧ yU A s (ya_ch A p s) ∧ yP A (ya_ch A p s) = p := by
  obtain ⟨c, c1, c2, c3, c4⟩ := yo_chN I 4 hs (yl_lev I hs).2.2 h
  have e : ya_ch A p s = c := by
    unfold ya_ch
    rw [c1]
    rfl
  rw [e]
  exact ⟨c1, c2, c3, c4⟩
/-- a walk's find is above -/
theorem yo_walkU (I : yn_I t A) {Q : Int32 → Bool} : ∀ (n : Nat) {s c : Int32}, yl A s → ya_walk (yP A) Q n s = some c → yU A s c
  | 0, _, _, _, h => by unfold ya_walk at h; cases h
  | n + 1, s, c, hs, h => by
    unfold ya_walk at h
    rw [if_neg (yl_ne hs)] at h
    by_cases hQ : Q s = true
    · rw [if_pos hQ] at h
      cases h
      exact Or.inl rfl
    · rw [if_neg hQ] at h
      by_cases hp : yP A s = -1
      · rw [hp] at h
        cases n with
        | zero => unfold ya_walk at h; cases h
        | succ n => unfold ya_walk at h; rw [if_pos rfl] at h; cases h
      · exact yU_up I hs hp (yo_walkU I n (yl_levS I hs hp).1 h)
theorem yo_below_of (I : yn_I t A) {s c p : Int32} (hs : yl A s) (hc : yU A s c) (hp : yP A c = p) (hp1 : p ≠ -1) : ya_X3_isBelow A s p = true := by
  have hA : ∀ (n : Nat) {x : Int32}, yl A x → ya_lv A x ≤ n → yU A x c → ya_X3_isBelow A x p = true := by
    intro n
    induction n with
    | zero => intro x hx hn _; have := yl_lev I hx; omega
    | succ n ih =>
      intro x hx hn hxc
      have hxp : yU A x p := by
        rcases (yU_l I hx hxc).2.2.2 with e | ⟨h1, h2, h3⟩
        · rw [e] at hp
          exact yU_up I hx (by rw [hp]; exact hp1) (Or.inl hp)
        · obtain ⟨h4, h5⟩ := yl_levS I hx h2
          exact yU_up I hx h2 (Or.inr (ih h4 (by omega) h3))
      rcases hxp with e | e
      · exfalso
        have h1 := (yU_l I hx hxc)
        have h2 := (yl_levS I h1.1 (by rw [hp]; exact hp1)).2
        rw [hp, ← e] at h2
        omega
      · exact e
  exact hA _ hs (Nat.le_refl _) hc
/-- liesUpTo -/
theorem yo_upTo (I : yn_I t A) {s p ty : Int32} (hs : yl A s) (hp : p ≠ -1) : ya_X3_liesUpTo A s p ty = (ya_X3_isBelow A s p && decide (yT A (ya_ch A p s) ≤ ty)) := by
  cases hb : ya_X3_isBelow A s p with
  | true =>
    have h := (yo_ch I hs (Or.inr hb)).1
    unfold ya_X3_liesUpTo
    rw [show ya_walk (fun x => ya_sg A 12 x) (fun x => decide (ya_sg A 12 x = p)) 4 s = _ from h]
    rfl
  | false =>
    unfold ya_X3_liesUpTo
    cases hw : ya_walk (fun x => ya_sg A 12 x) (fun x => decide (ya_sg A 12 x = p)) 4 s with
    | none => rfl
    | some c =>
      have := yo_below_of I hs (yo_walkU I 4 hs hw) (of_decide_eq_true (yk_walk_Q hw).1) hp
      rw [hb] at this
      cases this
theorem yo_upTom {p ty : Int32} : ya_X3_liesUpTo A (-1) p ty = false := rfl
/-- the model's liesAhead -/
def ya_lies (A : sy_Mem) (its key here r : Int32) : Bool :=
  if ((!decide (tK A its = 2)) && (!decide (ya_N A r 0 = key))) = true then decide (ya_N A r 0 < key)
  else if (!decide (tR A its = 2)) = true then decide (tR A its = 1)
  else ((((!decide (here = -1)) && (decide (yT A here = yT A r) && decide (yP A here = yP A r))) && (decide (tK A its = 2) || decide (ya_N A here 0 = key))) && decide (yL A r < yL A here))
/-- the model's isBehind -/
def ya_beh (A : sy_Mem) (its over key here s : Int32) : Bool :=
  if ((!decide (over = -1)) && (!ya_under A s over)) = true then decide (yL A s < yL A over)
  else if decide (s = over) = true then true
  else if decide (yT A (ya_ch A over s) = its) = true then ya_lies A its key here (ya_ch A over s) else decide (yT A (ya_ch A over s) < its)
/-- the component's twinBehindNew -/
def ya_least (A : sy_Mem) (ty key : Int32) : Int32 := if (!(!decide (tK A ty = 2))) = true then 0 else if decide (tR A ty = 1) = true then key + 1 else key
def ya_twin (A : sy_Mem) (ty p key here : Int32) : Int32 :=
  if ((decide (tR A ty = 2) && ya_tw A here ty p) && ((!(!decide (tK A ty = 2))) || decide (ya_N A here 0 = key))) = true then here
  else if (decide (tR A ty = 1) && (!(!decide (tK A ty = 2)))) = true then -1
  else (ya_ff (fun i => ya_tw A (ya_at A (tD A ty) (nI i)) ty p && decide (ya_least A ty key ≤ ya_N A (ya_at A (tD A ty) (nI i)) 0)) (ya_cnt A (tD A ty)).toNatClampNeg 0).elim (-1) (fun i => ya_at A (tD A ty) (nI i))
/-- what is asked of the type and the parent of a new segment -/
def yb_ok (A : sy_Mem) (ty p key here : Int32) : Prop := ya_isT A ty = true ∧ ((p = -1 ∧ tP A ty = -1) ∨ (yl A p ∧ yT A p = tP A ty ∧ tP A ty ≠ -1)) ∧ (0 ≤ key.toInt ∧ key.toInt ≤ 999) ∧ (here = -1 ∨ yl A here)
theorem yb_D (I : yn_I t A) {ty p key here : Int32} (h : yb_ok A ty p key here) : 0 ≤ (tD A ty).toInt ∧ (tD A ty).toInt < 3 := (I.1.2.1 _ h.1).1
theorem yb_pD (I : yn_I t A) {ty p key here : Int32} (h : yb_ok A ty p key here) (hp : p ≠ -1) : yl A p ∧ sD A p = tD A ty ∧ yT A p = tP A ty := by
  rcases h.2.1 with ⟨e, _⟩ | ⟨h1, h2, h3⟩
  · exact absurd e hp
  · refine ⟨h1, ?_, h2⟩
    rcases (I.1.2.1 _ h.1).2.2.2.2.2.2.1 with ⟨g, _⟩ | ⟨g1, g2, g3, g4⟩
    · exact absurd g h3
    · show tD A (yT A p) = _
      rw [h2]
      exact g3
theorem yb_tw {s ty p : Int32} (hty : ty ≠ -1) : ya_tw A s ty p = true ↔ (yl A s ∧ yT A s = ty ∧ yP A s = p) := by
  unfold ya_tw
  rw [Bool.and_eq_true, Bool.and_eq_true, yl_isS, decide_eq_true_eq, decide_eq_true_eq]
  constructor
  · rintro ⟨⟨h1, h2⟩, h3⟩
    exact ⟨by unfold yl; rw [h2]; exact hty, h2, h3⟩
  · rintro ⟨h1, h2, h3⟩
    exact ⟨⟨yl_in h1, h2⟩, h3⟩
theorem yo_row (I : yn_I t A) {r : Int32} (hr : yl A r) : ∃ q : Nat, q < (ya_cnt A (sD A r)).toNatClampNeg ∧ yL A r = nI q ∧ ya_at A (sD A r) (nI q) = r ∧ (yL A r).toInt = q := by
  have h := yg_pl I hr
  have e : yL A r = nI (yL A r).toNatClampNeg := yi_nat (yi_pos.mpr h.1)
  refine ⟨(yL A r).toNatClampNeg, by rw [yi_clampInt, yi_clampInt]; omega, e, ?_, by rw [yi_clampInt]; omega⟩
  rw [← e]
  exact (I.2.2.1.2.2.1 r hr).2.2
theorem yb_least (I : yn_I t A) {ty p key here r : Int32} (h : yb_ok A ty p key here) (hr : yl A r) (hT : yT A r = ty) (hP : yP A r = p) (h1 : ¬ ((decide (tR A ty = 2) && ya_tw A here ty p) && ((!(!decide (tK A ty = 2))) || decide (ya_N A here 0 = key))) = true) (h2 : ¬ (decide (tR A ty = 1) && (!(!decide (tK A ty = 2)))) = true) :
    ya_lies A ty key here r = !decide (ya_least A ty key ≤ ya_N A r 0) := by
  have hty := ya_isT_ne h.1
  have hn := yg_num I (yl_in hr) (f := 0) ⟨by decide, by decide⟩
  have hrule := (I.1.2.1 _ h.1).2.2.1
  have hk := h.2.2.1
  have hk1 : (key + 1).toInt = key.toInt + 1 := by rw [yl_add (by omega) (by omega) (by decide) (by decide)]; rfl
  have hx : (((!decide (here = -1)) && (decide (yT A here = yT A r) && decide (yP A here = yP A r))) && (decide (tK A ty = 2) || decide (ya_N A here 0 = key))) = true → tR A ty = 2 → False := fun q q2 => by
    apply h1
    rw [Bool.and_eq_true, Bool.and_eq_true, Bool.and_eq_true] at q
    obtain ⟨⟨q3, q4, q5⟩, q6⟩ := q
    have q7 : here ≠ -1 := by simpa using q3
    have q8 : yl A here := h.2.2.2.resolve_left q7
    rw [decide_eq_true q2, (yb_tw hty).mpr ⟨q8, (of_decide_eq_true q4).trans hT, (of_decide_eq_true q5).trans hP⟩, Bool.not_not]
    rw [q6]
    rfl
  unfold ya_lies ya_least
  by_cases hK : tK A ty = 2
  · have hR1 : tR A ty ≠ 1 := fun q => h2 (by rw [decide_eq_true q, decide_eq_true hK]; rfl)
    rw [decide_eq_true hK, if_neg (show ¬ ((!true) && (!decide (ya_N A r 0 = key))) = true by rw [Bool.not_true, Bool.false_and]; decide), if_pos (show (!(!true)) = true from rfl)]
    have : decide ((0 : Int32) ≤ ya_N A r 0) = true := by rw [yl_ge, yl_c0]; exact hn.1
    rw [this, Bool.not_true]
    by_cases hR : tR A ty = 2
    · rw [decide_eq_true hR, if_neg (by decide)]
      cases hz : (((!decide (here = -1)) && (decide (yT A here = yT A r) && decide (yP A here = yP A r))) && (true || decide (ya_N A here 0 = key))) with
      | false => rfl
      | true => exact absurd hR (fun q => hx (by rw [decide_eq_true hK]; exact hz) q)
    · rw [decide_eq_false hR, if_pos (by decide), decide_eq_false hR1]
  · rw [decide_eq_false hK, if_neg (show ¬ (!(!false)) = true by decide)]
    by_cases hN : ya_N A r 0 = key
    · rw [decide_eq_true hN, if_neg (show ¬ ((!false) && (!true)) = true by decide)]
      by_cases hR : tR A ty = 2
      · rw [decide_eq_true hR, if_neg (by decide), hR, if_neg (by decide), hN, decide_eq_true (Int32.le_refl key)]
        cases hz : (((!decide (here = -1)) && (decide (yT A here = yT A r) && decide (yP A here = yP A r))) && (false || decide (ya_N A here 0 = key))) with
        | false => rfl
        | true => exact absurd hR (fun q => hx (by rw [decide_eq_false hK]; exact hz) q)
      · rw [decide_eq_false hR, if_pos (by decide)]
        by_cases hR1 : tR A ty = 1
        · rw [decide_eq_true hR1, if_pos rfl, hN]
          have : decide (key + 1 ≤ key) = false := by
            rw [decide_eq_false_iff_not, Int32.le_iff_toInt_le, hk1]
            omega
          rw [this]
          rfl
        · rw [decide_eq_false hR1, if_neg (by decide), hN, decide_eq_true (Int32.le_refl key)]
          rfl
    · rw [decide_eq_false hN, if_pos (show ((!false) && (!false)) = true from rfl)]
      have hNi : (ya_N A r 0).toInt ≠ key.toInt := fun q => hN (yi_ext q)
      by_cases hR1 : tR A ty = 1
      · rw [decide_eq_true hR1, if_pos rfl, Bool.eq_iff_iff, Bool.not_eq_true', decide_eq_true_eq, decide_eq_false_iff_not, Int32.lt_iff_toInt_lt, Int32.le_iff_toInt_le, hk1]
        omega
      · rw [decide_eq_false hR1, if_neg (by decide), Bool.eq_iff_iff, Bool.not_eq_true', decide_eq_true_eq, decide_eq_false_iff_not, Int32.lt_iff_toInt_lt, Int32.le_iff_toInt_le]
        omega
/-- the twin that the component finds, and what the model says of each twin -/
theorem yb_twin (I : yn_I t A) {ty p key here : Int32} (h : yb_ok A ty p key here) : (ya_twin A ty p key here = -1 ∨ (yl A (ya_twin A ty p key here) ∧ yT A (ya_twin A ty p key here) = ty ∧ yP A (ya_twin A ty p key here) = p)) ∧
    ∀ r, yl A r → yT A r = ty → yP A r = p → (ya_lies A ty key here r = true ↔ (ya_twin A ty p key here = -1 ∨ (yL A r).toInt < (yL A (ya_twin A ty p key here)).toInt)) := by
  have hty := ya_isT_ne h.1
  unfold ya_twin
  by_cases h1 : ((decide (tR A ty = 2) && ya_tw A here ty p) && ((!(!decide (tK A ty = 2))) || decide (ya_N A here 0 = key))) = true
  · rw [if_pos h1]
    rw [Bool.and_eq_true, Bool.and_eq_true, yb_tw hty, Bool.not_not] at h1
    obtain ⟨⟨h2, h3, h4, h5⟩, h6⟩ := h1
    have hR := of_decide_eq_true h2
    refine ⟨Or.inr ⟨h3, h4, h5⟩, fun r hr rT rP => ?_⟩
    have hdr : sD A r = sD A here := by
      show tD A (yT A r) = tD A (yT A here)
      rw [rT, h4]
    unfold ya_lies
    by_cases hK : tK A ty = 2
    · rw [decide_eq_true hK, if_neg (show ¬ ((!true) && (!decide (ya_N A r 0 = key))) = true by rw [Bool.not_true, Bool.false_and]; decide), decide_eq_true hR, if_neg (by decide), decide_eq_false (yl_ne h3), decide_eq_true (h4.trans rT.symm), decide_eq_true (h5.trans rP.symm)]
      rw [show ((((!false) && (true && true)) && (true || decide (ya_N A here 0 = key))) && decide (yL A r < yL A here)) = decide (yL A r < yL A here) from rfl, decide_eq_true_eq, Int32.lt_iff_toInt_lt]
      exact ⟨Or.inr, fun q => q.resolve_left (yl_ne h3)⟩
    · rw [decide_eq_false hK, Bool.false_or] at h6
      have hN := of_decide_eq_true h6
      have hO4 := fun {a b : Int32} (ha : yl A a) (hb : yl A b) (e1 : yT A a = ty) (e2 : yT A b = ty) (e3 : yP A a = p) (e4 : yP A b = p) => I.2.2.2.1.2.2.2.1 a b ha hb (e1.trans e2.symm) (e3.trans e4.symm) (by rw [e1]; exact hK)
      rw [decide_eq_false hK]
      by_cases hq : ya_N A r 0 = key
      · rw [decide_eq_true hq, if_neg (by decide), decide_eq_true hR, if_neg (by decide), decide_eq_false (yl_ne h3), decide_eq_true (h4.trans rT.symm), decide_eq_true (h5.trans rP.symm), h6]
        rw [show ((((!false) && (true && true)) && (false || true)) && decide (yL A r < yL A here)) = decide (yL A r < yL A here) from rfl, decide_eq_true_eq, Int32.lt_iff_toInt_lt]
        exact ⟨Or.inr, fun q => q.resolve_left (yl_ne h3)⟩
      · rw [decide_eq_false hq, if_pos (by decide), decide_eq_true_eq, Int32.lt_iff_toInt_lt]
        have hqi : (ya_N A r 0).toInt ≠ key.toInt := fun q => hq (yi_ext q)
        constructor
        · intro g
          right
          rcases Int.lt_or_le (yL A r).toInt (yL A here).toInt with q | q
          · exact q
          · exfalso
            by_cases e : (yL A r).toInt = (yL A here).toInt
            · exact hq (by rw [yl_same I hr h3 hdr e]; exact hN)
            · have := hO4 h3 hr h4 rT h5 rP (by omega)
              rw [hN] at this
              omega
        · intro g
          have := hO4 hr h3 rT h4 rP h5 (g.resolve_left (yl_ne h3))
          rw [hN] at this
          omega
  · rw [if_neg h1]
    by_cases h2 : (decide (tR A ty = 1) && (!(!decide (tK A ty = 2)))) = true
    · rw [if_pos h2]
      refine ⟨Or.inl rfl, fun r hr rT rP => ⟨fun _ => Or.inl rfl, fun _ => ?_⟩⟩
      rw [Bool.and_eq_true, Bool.not_not] at h2
      unfold ya_lies
      have hR := of_decide_eq_true h2.1
      rw [h2.2, if_neg (show ¬ ((!true) && (!decide (ya_N A r 0 = key))) = true by rw [Bool.not_true, Bool.false_and]; decide), hR]
      rfl
    · rw [if_neg h2]
      have hD := yb_D I h
      have hcnt := yg_cnt I hD
      cases hf : ya_ff (fun i => ya_tw A (ya_at A (tD A ty) (nI i)) ty p && decide (ya_least A ty key ≤ ya_N A (ya_at A (tD A ty) (nI i)) 0)) (ya_cnt A (tD A ty)).toNatClampNeg 0 with
      | none =>
        refine ⟨Or.inl rfl, fun r hr rT rP => ⟨fun _ => Or.inl rfl, fun _ => ?_⟩⟩
        obtain ⟨q, q1, q2, q3, q4⟩ := yo_row I hr
        have hd : sD A r = tD A ty := by show tD A (yT A r) = _; rw [rT]
        rw [hd] at q1 q3
        have := ya_ff_none.mp hf q (by omega) (by omega)
        rw [q3, (yb_tw hty).mpr ⟨hr, rT, rP⟩, Bool.true_and] at this
        rw [yb_least I h hr rT rP h1 h2, this]
        rfl
      | some i =>
        obtain ⟨_, i2, i3, i4⟩ := ya_ff_some.mp hf
        rw [Bool.and_eq_true, yb_tw hty] at i3
        obtain ⟨⟨w1, w2, w3⟩, w4⟩ := i3
        show (ya_at A (tD A ty) (nI i) = -1 ∨ _) ∧ ∀ r, yl A r → yT A r = ty → yP A r = p → (ya_lies A ty key here r = true ↔ (ya_at A (tD A ty) (nI i) = -1 ∨ (yL A r).toInt < (yL A (ya_at A (tD A ty) (nI i))).toInt))
        refine ⟨Or.inr ⟨w1, w2, w3⟩, fun r hr rT rP => ?_⟩
        obtain ⟨q, q1, q2, q3, q4⟩ := yo_row I hr
        have hd : sD A r = tD A ty := by show tD A (yT A r) = _; rw [rT]
        rw [hd] at q1 q3
        have hi := yg_at I hD (show 0 ≤ (nI i).toInt ∧ (nI i).toInt < (ya_cnt A (tD A ty)).toInt by
          have : (ya_cnt A (tD A ty)).toNatClampNeg = (ya_cnt A (tD A ty)).toInt.toNat := rfl
          rw [nI_toInt (by omega)]
          omega)
        have hc60 : (ya_cnt A (tD A ty)).toNatClampNeg = (ya_cnt A (tD A ty)).toInt.toNat := rfl
        rw [hi.2.2, nI_toInt (by omega), q4, yb_least I h hr rT rP h1 h2, Bool.not_eq_true']
        constructor
        · intro g
          right
          rcases Nat.lt_or_ge q i with z | z
          · omega
          · exfalso
            by_cases e : q = i
            · rw [← e, q3] at w4
              rw [w4] at g
              cases g
            · by_cases hK : tK A ty = 2
              · have : ya_least A ty key = 0 := by unfold ya_least; rw [decide_eq_true hK]; rfl
                rw [this, decide_eq_false_iff_not, Int32.le_iff_toInt_le, yl_c0] at g
                exact g (yg_num I (yl_in hr) ⟨by decide, by decide⟩).1
              · have := I.2.2.2.1.2.2.2.1 (ya_at A (tD A ty) (nI i)) r w1 hr (w2.trans rT.symm) (w3.trans rP.symm) (by rw [w2]; exact hK) (by rw [hi.2.2, nI_toInt (by omega), q4]; omega)
                rw [decide_eq_true_eq, Int32.le_iff_toInt_le] at w4
                rw [decide_eq_false_iff_not, Int32.le_iff_toInt_le] at g
                omega
        · intro g
          have g := g.resolve_left (yl_ne w1)
          have := i4 q (by omega) (by omega)
          rw [q3, (yb_tw hty).mpr ⟨hr, rT, rP⟩, Bool.true_and] at this
          exact this
end YB
