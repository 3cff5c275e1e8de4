section YB2
variable {σ τ A : sy_Mem} {t : Nat}
/-- how many steps endOfTwins takes -/
def ya_steps (A : sy_Mem) (ty p : Int32) : Nat := (ya_ff (fun i => !ya_X3_liesUpTo A (ya_at A (tD A ty) (yL A p + 1 + nI i)) p ty) 60 0).elim 60 (fun i => i)
/-- the place of a new segment -/
def ya_plc (A : sy_Mem) (ty p key here : Int32) : Nat :=
  if ya_twin A ty p key here = -1 then (if p = -1 then (ya_cnt A (tD A ty)).toNatClampNeg else (yL A p).toNatClampNeg + 1 + ya_steps A ty p) else (yL A (ya_twin A ty p key here)).toNatClampNeg
theorem yl_lvp (I : yn_I t A) {u v : Int32} (hu : yl A u) (hv : yl A v) (h : yP A u = yP A v) : ya_lv A u = ya_lv A v := by
  by_cases e : yP A u = -1
  · rw [(yl_lev1 I hu).mpr e, (yl_lev1 I hv).mpr (h.symm.trans e)]
  · rw [(yl_levS I hu e).2, (yl_levS I hv (by rw [← h]; exact e)).2, h]
theorem yb_steps (I : yn_I t A) {ty p key here : Int32} (h : yb_ok A ty p key here) (hp : p ≠ -1) : ∃ q : Nat, (yL A p).toInt = q ∧ (yL A p).toNatClampNeg = q ∧ yL A p = nI q ∧ q + 1 + ya_steps A ty p ≤ (ya_cnt A (tD A ty)).toNatClampNeg ∧ ya_steps A ty p < 60 ∧
    (∀ j, j < ya_steps A ty p → ya_X3_liesUpTo A (ya_at A (tD A ty) (nI (q + 1 + j))) p ty = true) ∧ ya_X3_liesUpTo A (ya_at A (tD A ty) (nI (q + 1 + ya_steps A ty p))) p ty = false := by
  obtain ⟨p1, p2, p3⟩ := yb_pD I h hp
  obtain ⟨q, q1, q2, q3, q4⟩ := yo_row I p1
  rw [p2] at q1 q3
  have hD := yb_D I h
  have hcnt := yg_cnt I hD
  have hc60 : (ya_cnt A (tD A ty)).toNatClampNeg = (ya_cnt A (tD A ty)).toInt.toNat := rfl
  have hq60 : q < 60 := by omega
  have hadd : ∀ i : Nat, yL A p + 1 + nI i = nI (q + 1 + i) := fun i => by rw [q2, nI_1, nI_add]
  have hin : ∀ i : Nat, i < 200 → ya_X3_liesUpTo A (ya_at A (tD A ty) (nI (q + 1 + i))) p ty = true → q + 1 + i < (ya_cnt A (tD A ty)).toNatClampNeg := fun i hi hl => by
    rcases Nat.lt_or_ge (q + 1 + i) (ya_cnt A (tD A ty)).toNatClampNeg with z | z
    · exact z
    · exfalso
      have : ya_at A (tD A ty) (nI (q + 1 + i)) = -1 := by
        unfold ya_at
        rw [if_neg]
        intro g
        rw [Bool.and_eq_true, yl_lt] at g
        have g2 := g.2
        rw [ya_cnt_in hD] at hc60 z
        rw [nI_toInt (by omega)] at g2
        rw [yi_clampInt] at z
        omega
      rw [this] at hl
      cases hl
  have hall : ∀ j, j < ya_steps A ty p → ya_X3_liesUpTo A (ya_at A (tD A ty) (nI (q + 1 + j))) p ty = true := by
    unfold ya_steps
    cases hf : ya_ff (fun i => !ya_X3_liesUpTo A (ya_at A (tD A ty) (yL A p + 1 + nI i)) p ty) 60 0 with
    | none =>
      intro j hj
      have := ya_ff_none.mp hf j (by omega) (by have : j < 60 := hj; omega)
      rw [hadd] at this
      simpa using this
    | some i =>
      intro j hj
      have := (ya_ff_some.mp hf).2.2.2 j (by omega) hj
      rw [hadd] at this
      simpa using this
  have h60 : ya_steps A ty p ≤ 60 := by
    unfold ya_steps
    cases hf : ya_ff (fun i => !ya_X3_liesUpTo A (ya_at A (tD A ty) (yL A p + 1 + nI i)) p ty) 60 0 with
    | none => exact Nat.le_refl _
    | some i => have := (ya_ff_some.mp hf).2.1; show i ≤ 60; omega
  have hlt : ya_steps A ty p < 60 := by
    rcases Nat.lt_or_ge (ya_steps A ty p) 60 with z | z
    · exact z
    · have := hin 59 (by omega) (hall 59 (by omega))
      omega
  refine ⟨q, q4, by rw [yi_clampInt]; omega, q2, ?_, hlt, hall, ?_⟩
  · cases hs : ya_steps A ty p with
    | zero => omega
    | succ n =>
      have := hin n (by omega) (hall n (by omega))
      omega
  · revert hlt
    unfold ya_steps
    cases hf : ya_ff (fun i => !ya_X3_liesUpTo A (ya_at A (tD A ty) (yL A p + 1 + nI i)) p ty) 60 0 with
    | none => intro z; exact absurd z (by show ¬ 60 < 60; omega)
    | some i =>
      intro _
      have := (ya_ff_some.mp hf).2.2.1
      rw [hadd] at this
      simpa using this
theorem yg_rootsD (I : yn_I t A) {ty c : Int32} (hT : ya_isT A ty = true) (h1 : tP A ty = -1) (hc : yl A c) (hp : yP A c = -1) (hd : sD A c = tD A ty) : yT A c = ty := by
  have hTc := (I.2.1.1 c hc).1
  refine I.1.2.2 _ _ hTc hT ?_ h1 hd
  rcases (I.2.1.1 c hc).2 with ⟨g, _⟩ | ⟨g1, _, _⟩
  · exact g
  · exact absurd hp (yl_ne g1)
/-- the place of a new segment is that up to which the model finds it behind -/
theorem yb_place (I : yn_I t A) {ty p key here : Int32} (h : yb_ok A ty p key here) : ya_plc A ty p key here ≤ (ya_cnt A (tD A ty)).toNatClampNeg ∧
    ∀ s, yl A s → sD A s = tD A ty → (ya_beh A ty p key here s = true ↔ (yL A s).toInt < (ya_plc A ty p key here : Int)) := by
  have hty := ya_isT_ne h.1
  have hD := yb_D I h
  have hcnt := yg_cnt I hD
  have hc60 : (ya_cnt A (tD A ty)).toNatClampNeg = (ya_cnt A (tD A ty)).toInt.toNat := rfl
  obtain ⟨k1, k2⟩ := yb_twin I h
  unfold ya_plc
  by_cases hw : ya_twin A ty p key here = -1
  · rw [if_pos hw]
    by_cases hp : p = -1
    · rw [if_pos hp]
      refine ⟨Nat.le_refl _, fun s hs hd => ?_⟩
      have hpl := yg_pl I hs
      rw [hd] at hpl
      have : ya_beh A ty p key here s = true := by
        unfold ya_beh
        rw [decide_eq_true hp, if_neg (by rw [Bool.not_true, Bool.false_and]; decide), decide_eq_false (fun e => yl_ne hs (e.trans hp)), if_neg (by decide)]
        obtain ⟨c1, c2, c3, c4⟩ := yo_ch I hs (Or.inl hp)
        have hcT : yT A (ya_ch A p s) = ty := by
          refine yg_rootsD I h.1 ?_ c2 (c4.trans hp) ((yU_l I hs c3).2.1.trans hd)
          rcases h.2.1 with ⟨_, g⟩ | ⟨g, _, _⟩
          · exact g
          · exact absurd hp (yl_ne g)
        rw [decide_eq_true hcT, if_pos rfl]
        exact (k2 _ c2 hcT c4).mpr (Or.inl hw)
      rw [this]
      exact ⟨fun _ => by omega, fun _ => rfl⟩
    · rw [if_neg hp]
      obtain ⟨p1, p2, p3⟩ := yb_pD I h hp
      obtain ⟨q, q1, q2, q3, q4, q5, q6, q7⟩ := yb_steps I h hp
      rw [q2]
      refine ⟨q4, fun s hs hd => ?_⟩
      have hsd : sD A p = sD A s := p2.trans hd.symm
      have hpl := yg_pl I hs
      rw [hd] at hpl
      unfold ya_beh
      rw [decide_eq_false hp, Bool.not_false, Bool.true_and]
      by_cases hu : yU A s p
      · rw [yU_under.mpr hu, if_neg (by decide)]
        have hps := yU_pl I _ hs (Nat.le_refl _) hu
        by_cases hsp : s = p
        · rw [decide_eq_true hsp, if_pos rfl, hsp, q1]
          exact ⟨fun _ => by omega, fun _ => rfl⟩
        · rw [decide_eq_false hsp, if_neg (by decide)]
          have hb : ya_X3_isBelow A s p = true := hu.resolve_left hsp
          have hlt := hps.2 (fun e => hsp e.symm)
          obtain ⟨c1, c2, c3, c4⟩ := yo_ch I hs (Or.inr hb)
          -- the model says the same as liesUpTo
          have hm : (if decide (yT A (ya_ch A p s) = ty) = true then ya_lies A ty key here (ya_ch A p s) else decide (yT A (ya_ch A p s) < ty)) = true ↔ (yT A (ya_ch A p s)).toInt ≤ ty.toInt := by
            by_cases e : yT A (ya_ch A p s) = ty
            · rw [decide_eq_true e, if_pos rfl, e]
              exact ⟨fun _ => Int.le_refl _, fun _ => (k2 _ c2 e c4).mpr (Or.inl hw)⟩
            · rw [decide_eq_false e, if_neg (by decide), decide_eq_true_eq, Int32.lt_iff_toInt_lt]
              have : (yT A (ya_ch A p s)).toInt ≠ ty.toInt := fun z => e (yi_ext z)
              omega
          rw [hm]
          obtain ⟨r, r1, r2, r3, r4⟩ := yo_row I hs
          rw [hd] at r1 r3
          rcases Nat.lt_or_ge r (q + 1 + ya_steps A ty p) with z | z
          · refine ⟨fun _ => by omega, fun _ => ?_⟩
            have := q6 (r - (q + 1)) (by omega)
            rw [show q + 1 + (r - (q + 1)) = r by omega, r3, yo_upTo I hs hp, hb, Bool.true_and, decide_eq_true_eq, Int32.le_iff_toInt_le] at this
            exact this
          · refine ⟨fun g => ?_, fun g => by omega⟩
            exfalso
            -- the one at the end lies below p, with a child of a higher type
            have hpr : 0 ≤ (nI (q + 1 + ya_steps A ty p)).toInt ∧ (nI (q + 1 + ya_steps A ty p)).toInt < (ya_cnt A (tD A ty)).toInt := by
              rw [nI_toInt (by omega)]
              omega
            obtain ⟨x1, x2, x3⟩ := yg_at I hD hpr
            rw [nI_toInt (by omega)] at hpr
            have x4 : (yL A (ya_at A (tD A ty) (nI (q + 1 + ya_steps A ty p)))).toInt = ((q + 1 + ya_steps A ty p : Nat) : Int) := by rw [x3, nI_toInt (by omega)]
            have hux := I.2.2.2.1.2.1 s p _ hs p1 x1 hsd (x2.trans hd.symm) hu (by omega) (by omega)
            have hbx : ya_X3_isBelow A (ya_at A (tD A ty) (nI (q + 1 + ya_steps A ty p))) p = true := hux.resolve_left (fun e => by rw [e] at x4; omega)
            obtain ⟨d1, d2, d3, d4⟩ := yo_ch I x1 (Or.inr hbx)
            rw [yo_upTo I x1 hp, hbx, Bool.true_and, decide_eq_false_iff_not, Int32.le_iff_toInt_le] at q7
            have hdd : sD A (ya_ch A p s) = sD A (ya_ch A p (ya_at A (tD A ty) (nI (q + 1 + ya_steps A ty p)))) := (yU_l I hs c3).2.1.trans (hd.trans (x2.symm.trans (yU_l I x1 d3).2.1.symm))
            have hlt2 := I.2.2.2.1.2.2.1 _ _ c2 d2 hdd (c4.trans d4.symm) (by omega)
            have := yg_before I hs x1 c3 d3 (hd.trans x2.symm) (yl_lvp I c2 d2 (c4.trans d4.symm)) (fun e => by rw [e] at hlt2; omega) hlt2
            omega
      · have hu' : ya_under A s p = false := by
          cases e : ya_under A s p with
          | false => rfl
          | true => exact absurd (yU_under.mp e) hu
        rw [hu', Bool.not_false, if_pos rfl, decide_eq_true_eq, Int32.lt_iff_toInt_lt, q1]
        have hsp : s ≠ p := fun e => hu (Or.inl e)
        constructor
        · intro g; omega
        · intro g
          rcases Int.lt_or_le (yL A s).toInt (q : Int) with z | z
          · exact z
          · exfalso
            have hne : (yL A s).toInt ≠ (q : Int) := fun e => hsp (yl_same I hs p1 hsd.symm (by rw [e, q1]))
            obtain ⟨r, r1, r2, r3, r4⟩ := yo_row I hs
            rw [hd] at r1 r3
            have := q6 (r - (q + 1)) (by omega)
            rw [show q + 1 + (r - (q + 1)) = r by omega, r3, yo_upTo I hs hp, Bool.and_eq_true] at this
            exact hu (Or.inr this.1)
  · rw [if_neg hw]
    obtain ⟨w1, w2, w3⟩ := k1.resolve_left hw
    have wd : sD A (ya_twin A ty p key here) = tD A ty := by show tD A (yT A (ya_twin A ty p key here)) = _; rw [w2]
    have wpl := yg_pl I w1
    rw [wd] at wpl
    have e0 : ((yL A (ya_twin A ty p key here)).toNatClampNeg : Int) = (yL A (ya_twin A ty p key here)).toInt := by rw [yi_clampInt]; omega
    refine ⟨by rw [yi_clampInt]; omega, fun s hs hd => ?_⟩
    rw [e0]
    unfold ya_beh
    by_cases hA : p ≠ -1 ∧ ¬ yU A s p
    · obtain ⟨hp, hu⟩ := hA
      have hu' : ya_under A s p = false := by
        cases e : ya_under A s p with
        | false => rfl
        | true => exact absurd (yU_under.mp e) hu
      obtain ⟨p1, p2, p3⟩ := yb_pD I h hp
      have hsd : sD A p = sD A s := p2.trans hd.symm
      rw [decide_eq_false hp, hu', if_pos (by decide), decide_eq_true_eq, Int32.lt_iff_toInt_lt]
      have hO1 := I.2.2.2.1.1 _ w1 (by rw [w3]; exact hp)
      rw [w3] at hO1
      constructor
      · intro g; omega
      · intro g
        rcases Int.lt_or_le (yL A s).toInt (yL A p).toInt with z | z
        · exact z
        · exfalso
          exact hu (I.2.2.2.1.2.1 _ p s w1 p1 hs (p2.trans wd.symm) (hd.trans wd.symm) (yU_up I w1 (by rw [w3]; exact hp) (Or.inl w3)) z (by omega))
    · have hA' : p = -1 ∨ yU A s p := by
        by_cases e : p = -1
        · exact Or.inl e
        · right
          by_cases e2 : yU A s p
          · exact e2
          · exact absurd ⟨e, e2⟩ hA
      have hA2 : ¬ ((!decide (p = -1)) && (!ya_under A s p)) = true := by
        rcases hA' with e | e
        · rw [decide_eq_true e, Bool.not_true, Bool.false_and]; decide
        · rw [yU_under.mpr e, Bool.not_true, Bool.and_false]; decide
      rw [if_neg hA2]
      by_cases hsp : s = p
      · rw [decide_eq_true hsp, if_pos rfl]
        have hO1 := I.2.2.2.1.1 _ w1 (by rw [w3, ← hsp]; exact yl_ne hs)
        rw [w3] at hO1
        rw [show yL A s = yL A p by rw [hsp]]
        exact ⟨fun _ => hO1, fun _ => rfl⟩
      · rw [decide_eq_false hsp, if_neg (by decide)]
        have hb : p = -1 ∨ ya_X3_isBelow A s p = true := hA'.imp id (fun e => e.resolve_left hsp)
        obtain ⟨c1, c2, c3, c4⟩ := yo_ch I hs hb
        have cd : sD A (ya_ch A p s) = tD A ty := (yU_l I hs c3).2.1.trans hd
        have hlv := yl_lvp I c2 w1 (c4.trans w3.symm)
        have hgo : ((yL A s).toInt < (yL A (ya_twin A ty p key here)).toInt) ↔ ((yL A (ya_ch A p s)).toInt < (yL A (ya_twin A ty p key here)).toInt) := by
          by_cases e : ya_ch A p s = ya_twin A ty p key here
          · have := (yU_pl I _ hs (Nat.le_refl _) c3).1
            rw [e] at this ⊢
            omega
          · constructor
            · intro g
              rcases Int.lt_or_le (yL A (ya_ch A p s)).toInt (yL A (ya_twin A ty p key here)).toInt with z | z
              · exact z
              · exfalso
                have ne : (yL A (ya_ch A p s)).toInt ≠ (yL A (ya_twin A ty p key here)).toInt := fun z => e (yl_same I c2 w1 (cd.trans wd.symm) z)
                have := yg_before I w1 hs (Or.inl rfl) c3 (wd.trans hd.symm) hlv.symm (fun z => e z.symm) (by omega)
                omega
            · exact yg_before I hs w1 c3 (Or.inl rfl) (hd.trans wd.symm) hlv e
        rw [hgo]
        by_cases e : yT A (ya_ch A p s) = ty
        · rw [decide_eq_true e, if_pos rfl, k2 _ c2 e c4]
          exact ⟨fun z => z.resolve_left hw, Or.inr⟩
        · rw [decide_eq_false e, if_neg (by decide), decide_eq_true_eq, Int32.lt_iff_toInt_lt]
          have hne : ya_ch A p s ≠ ya_twin A ty p key here := fun z => e (by rw [z]; exact w2)
          have := yg_sib I c2 w1 hne (c4.trans w3.symm) (cd.trans wd.symm)
          rw [if_neg (fun z => e (z.trans w2)), w2] at this
          exact this.symm
end YB2
