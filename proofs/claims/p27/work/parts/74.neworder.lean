/-! the order of the rows behind addSegment -/
section YX3
variable {A : sy_Mem} {t : Nat} {ty p key here : Int32}
theorem yU_trans (I : yn_I t A) {b c : Int32} (hbc : yU A b c) : ∀ (n : Nat) {a : Int32}, yl A a → ya_lv A a ≤ n → yU A a b → yU A a c
  | 0, a, ha, hn, _ => by have := yl_lev I ha; omega
  | n + 1, a, ha, hn, h => by
    rcases (yU_l I ha h).2.2.2 with e | ⟨h1, h2, h3⟩
    · rw [← e]
      exact hbc
    · obtain ⟨h4, h5⟩ := yl_levS I ha h2
      exact yU_up I ha h2 (yU_trans I hbc n h4 (by omega) h3)
theorem yU_chain (I : yn_I t A) {a b : Int32} : ∀ (n : Nat) {s : Int32}, yl A s → ya_lv A s ≤ n → yU A s a → yU A s b → ya_lv A a ≤ ya_lv A b → yU A b a
  | 0, s, hs, hn, _, _, _ => by have := yl_lev I hs; omega
  | n + 1, s, hs, hn, ha, hb, hl => by
    rcases (yU_l I hs hb).2.2.2 with e | ⟨h1, h2, h3⟩
    · rw [e]
      exact ha
    · rcases (yU_l I hs ha).2.2.2 with e | ⟨g1, g2, g3⟩
      · rw [e] at hl
        omega
      · obtain ⟨h4, h5⟩ := yl_levS I hs h2
        exact yU_chain I n h4 (by omega) g3 h3 hl
/-- the child of p above s is that above what s lies below -/
theorem yo_ch_up (I : yn_I t A) {q : Int32} (hq : p = -1 ∨ ya_X3_isBelow A q p = true) : ∀ (n : Nat) {s : Int32}, yl A s → ya_lv A s ≤ n → yU A s q → ya_ch A p s = ya_ch A p q
  | 0, s, hs, hn, _ => by have := yl_lev I hs; omega
  | n + 1, s, hs, hn, h => by
    rcases (yU_l I hs h).2.2.2 with e | ⟨h1, h2, h3⟩
    · rw [e]
    · obtain ⟨h4, h5⟩ := yl_levS I hs h2
      rw [← yo_ch_up I hq n h4 (by omega) h3]
      have hql := (yU_l I hs h).1
      have hne : yP A s ≠ p := fun e => by
        rcases hq with z | z
        · exact h2 (e.trans z)
        · obtain ⟨z1, z2, z3, _⟩ := yg_below I hql z
          have a := yl_lev I z1
          have b := yl_lev I hql
          have c := (yU_l I h4 h3).2.2.1
          rw [e] at c
          omega
      have hb : p = -1 ∨ ya_X3_isBelow A (yP A s) p = true := by
        rcases hq with z | z
        · exact Or.inl z
        · right
          have := yU_trans I (Or.inr z : yU A q p) 4 h4 (yl_lev I h4).2.2 h3
          exact this.resolve_left hne
      have hw := (yo_ch I h4 hb).1
      have hd := yk_walk_le (Q := fun x => decide (yP A x = p)) (yk_dp4 I.1 I.2.1 hs) (show 4 ≤ 5 by omega)
      rw [show ya_walk (yP A) (fun x => decide (yP A x = p)) 5 s = if s = -1 then none else if (fun x => decide (yP A x = p)) s = true then some s else ya_walk (yP A) (fun x => decide (yP A x = p)) 4 (yP A s) from rfl, if_neg (yl_ne hs), if_neg (by rw [decide_eq_true_eq]; exact hne), hw] at hd
      show (ya_walk (yP A) (fun x => decide (yP A x = p)) 4 s).elim s (fun x => x) = _
      rw [← hd]
      rfl
/-- isBehind of a sibling -/
theorem yb_sib (I : yn_I t A) (h : yb_ok A ty p key here) {r : Int32} (hr : yl A r) (hp : yP A r = p) : ya_beh A ty p key here r = if yT A r = ty then ya_lies A ty key here r else decide (yT A r < ty) := by
  have hc : ya_ch A p r = r := by
    unfold ya_ch
    rw [show ya_walk (yP A) (fun x => decide (yP A x = p)) 4 r = if r = -1 then none else if (fun x => decide (yP A x = p)) r = true then some r else ya_walk (yP A) (fun x => decide (yP A x = p)) 3 (yP A r) from rfl, if_neg (yl_ne hr), if_pos (decide_eq_true hp)]
    rfl
  have hu : p ≠ -1 → ya_under A r p = true ∧ r ≠ p := fun q => by
    have hU : yU A r p := yU_up I hr (by rw [hp]; exact q) (Or.inl hp)
    refine ⟨yU_under.mpr hU, fun e => ?_⟩
    have := (yl_levS I hr (by rw [hp]; exact q)).2
    rw [hp, ← e] at this
    omega
  unfold ya_beh
  rw [hc]
  by_cases q : p = -1
  · rw [decide_eq_true q, if_neg (by rw [Bool.not_true, Bool.false_and]; decide), decide_eq_false (fun e => yl_ne hr (e.trans q)), if_neg (by decide)]
    by_cases e : yT A r = ty
    · rw [decide_eq_true e, if_pos rfl, if_pos e]
    · rw [decide_eq_false e, if_neg (by decide), if_neg e]
  · rw [(hu q).1, decide_eq_false (hu q).2, if_neg (by rw [Bool.not_true, Bool.and_false]; decide), if_neg (by decide)]
    by_cases e : yT A r = ty
    · rw [decide_eq_true e, if_pos rfl, if_pos e]
    · rw [decide_eq_false e, if_neg (by decide), if_neg e]
theorem yb_self (I : yn_I t A) (hp : p ≠ -1) : ya_beh A ty p key here p = true := by
  unfold ya_beh
  rw [yU_under.mpr (Or.inl rfl : yU A p p), if_neg (by rw [Bool.not_true, Bool.and_false]; decide), decide_eq_true rfl, if_pos rfl]
theorem yb_out {s : Int32} (hp : p ≠ -1) (h : ¬ yU A s p) : ya_beh A ty p key here s = decide (yL A s < yL A p) := by
  unfold ya_beh
  have : ya_under A s p = false := by
    cases e : ya_under A s p with
    | false => rfl
    | true => exact absurd (yU_under.mp e) h
  rw [this, decide_eq_false hp, if_pos (by decide)]
theorem yb_in {s : Int32} (h : p = -1 ∨ ya_X3_isBelow A s p = true) (hne : s ≠ p) : ya_beh A ty p key here s = if decide (yT A (ya_ch A p s) = ty) = true then ya_lies A ty key here (ya_ch A p s) else decide (yT A (ya_ch A p s) < ty) := by
  unfold ya_beh
  rw [if_neg, decide_eq_false hne, if_neg (by decide)]
  rcases h with e | e
  · rw [decide_eq_true e, Bool.not_true, Bool.false_and]; decide
  · rw [yU_under.mpr (Or.inr e), Bool.not_true, Bool.and_false]; decide
/-- walks of the old ones are as before -/
theorem yx_walk (H : yx_H t A ty p key here) {Q : Int32 → Bool} : ∀ (n : Nat) {s : Int32}, (s = -1 ∨ yl A s) → ya_walk (yP (ya_add A ty p key here)) Q n s = ya_walk (yP A) Q n s
  | 0, _, _ => rfl
  | n + 1, s, h => by
    unfold ya_walk
    by_cases e : s = -1
    · rw [if_pos e, if_pos e]
    · rw [if_neg e, if_neg e]
      have hl := h.resolve_left e
      rw [yx_Po H hl, yx_walk H n (yk_GP H.1.1 H.1.2.1 s hl)]
theorem yx_Uo (H : yx_H t A ty p key here) {s q : Int32} (hs : yl A s) : yU (ya_add A ty p key here) s q ↔ yU A s q := by
  have e : ya_X3_isBelow (ya_add A ty p key here) s q = ya_X3_isBelow A s q := by
    show (ya_walk (yP (ya_add A ty p key here)) (fun x => decide (x = q)) 4 (yP (ya_add A ty p key here) s)).elim false (fun _ => true) = (ya_walk (yP A) (fun x => decide (x = q)) 4 (yP A s)).elim false (fun _ => true)
    rw [yx_Po H hs, yx_walk H 4 (yk_GP H.1.1 H.1.2.1 s hs)]
  unfold yU
  rw [e]
theorem yx_UZ (H : yx_H t A ty p key here) {q : Int32} : yU (ya_add A ty p key here) (nI (ya_fr A)) q ↔ (nI (ya_fr A) = q ∨ (p ≠ -1 ∧ yU A p q)) := by
  have hp : p = -1 ∨ yl A p := H.2.1.2.1.imp (fun z => z.1) (fun z => z.1)
  have e : ya_X3_isBelow (ya_add A ty p key here) (nI (ya_fr A)) q = (ya_walk (yP A) (fun x => decide (x = q)) 4 p).isSome := by
    show (ya_walk (yP (ya_add A ty p key here)) (fun x => decide (x = q)) 4 (yP (ya_add A ty p key here) (nI (ya_fr A)))).elim false (fun _ => true) = _
    rw [yx_PZ H, yx_walk H 4 hp, yk_elimB]
  unfold yU
  rw [e]
  rcases hp with z | z
  · rw [z]
    constructor
    · rintro (h | h)
      · exact Or.inl h
      · cases h
    · rintro (h | h)
      · exact Or.inl h
      · exact absurd rfl h.1
  · have g := yk_below (o := q) (yl_ne z) (yk_dp4 H.1.1 H.1.2.1 z)
    have g2 : (ya_walk (yP A) (fun x => decide (x = q)) 4 (yP A p)).isSome = ya_X3_isBelow A p q := by
      show _ = (ya_walk (yP A) (fun x => decide (x = q)) 4 (yP A p)).elim false (fun _ => true)
      rw [yk_elimB]
    rw [g, g2, Bool.or_eq_true, decide_eq_true_eq]
    exact ⟨fun h => h.imp id (fun h => ⟨yl_ne z, h⟩), fun h => h.imp id (fun h => h.2)⟩
/-- the order of the rows is kept -/
theorem yx_O2 (H : yx_H t A ty p key here) : ∀ s q x, yl (ya_add A ty p key here) s → yl (ya_add A ty p key here) q → yl (ya_add A ty p key here) x → sD (ya_add A ty p key here) q = sD (ya_add A ty p key here) s → sD (ya_add A ty p key here) x = sD (ya_add A ty p key here) s → yU (ya_add A ty p key here) s q → (yL (ya_add A ty p key here) q).toInt ≤ (yL (ya_add A ty p key here) x).toInt → (yL (ya_add A ty p key here) x).toInt ≤ (yL (ya_add A ty p key here) s).toInt → yU (ya_add A ty p key here) x q := by
  intro s q x hs hq hx hdq hdx hU h1 h2
  have I := H.1
  have hO2 := I.2.2.2.1.2.1
  rcases (yx_l H s).mp hs with s1 | s1
  · -- s is an old one
    rw [yx_Uo H s1] at hU
    have q1 := (yU_l I s1 hU).1
    rw [yx_Do H s1] at hdq hdx
    rw [yx_Do H q1] at hdq
    rcases (yx_l H x).mp hx with x1 | x1
    · rw [yx_Do H x1] at hdx
      rw [yx_Uo H x1]
      exact hO2 s q x s1 q1 x1 hdq hdx hU ((yx_Lle H q1 x1 (hdq.trans hdx.symm)).mp h1) ((yx_Lle H x1 s1 hdx).mp h2)
    · rw [x1, yx_DZ H] at hdx
      rw [x1] at h1 h2 ⊢
      have hbq : ya_beh A ty p key here q = true := by
        cases e : ya_beh A ty p key here q with
        | true => rfl
        | false => have := (yx_LZlt H q1 (hdq.trans hdx.symm)).2.mpr e; omega
      have hbs : ya_beh A ty p key here s = false := by
        cases e : ya_beh A ty p key here s with
        | false => rfl
        | true => have := (yx_LZlt H s1 hdx.symm).1.mpr e; omega
      rw [yx_UZ H]
      right
      have hsame : (p = -1 ∨ ya_X3_isBelow A q p = true) → q ≠ p → False := fun g gn => by
        have e := yo_ch_up I g 4 s1 (yl_lev I s1).2.2 hU
        have hs2 : (p = -1 ∨ ya_X3_isBelow A s p = true) ∧ s ≠ p := by
          rcases g with g | g
          · exact ⟨Or.inl g, fun e => yl_ne s1 (e.trans g)⟩
          · have hsp := yU_trans I (Or.inr g : yU A q p) 4 s1 (yl_lev I s1).2.2 hU
            have hne : s ≠ p := fun e => by
              rw [e] at hU
              have a := (yU_l I (yU_l I s1 hsp).1 hU).2.2.1
              have b := (yg_below I q1 g).2.2.1
              have c := yl_lev I q1
              have d := yl_lev I (yU_l I s1 hsp).1
              omega
            exact ⟨Or.inr (hsp.resolve_left hne), hne⟩
        rw [yb_in g gn] at hbq
        rw [yb_in hs2.1 hs2.2, e] at hbs
        rw [hbs] at hbq
        cases hbq
      by_cases hp : p = -1
      · exact (hsame (Or.inl hp) (fun e => yl_ne q1 (e.trans hp))).elim
      · refine ⟨hp, ?_⟩
        obtain ⟨p1, p2, p3⟩ := yb_pD I H.2.1 hp
        by_cases g : yU A q p
        · by_cases e : q = p
          · rw [e]; exact Or.inl rfl
          · exact (hsame (Or.inr (g.resolve_left e)) e).elim
        · rw [yb_out hp g, decide_eq_true_eq, Int32.lt_iff_toInt_lt] at hbq
          by_cases g2 : yU A s p
          · refine yU_chain I 4 s1 (yl_lev I s1).2.2 hU g2 ?_
            rcases Nat.lt_or_ge (ya_lv A p) (ya_lv A q) with z | z
            · exact absurd (yU_chain I 4 s1 (yl_lev I s1).2.2 g2 hU (by omega)) g
            · exact z
          · rw [yb_out hp g2, decide_eq_false_iff_not, Int32.lt_iff_toInt_lt] at hbs
            exact hO2 s q p s1 q1 p1 hdq (p2.trans hdx) hU (by omega) (by omega)
  · -- s is the new one
    rw [s1] at hdq hdx hU h2
    rw [yx_DZ H] at hdq hdx
    rw [yx_UZ H] at hU
    rcases hU with e | ⟨hp, hU⟩
    · rw [← e] at h1 ⊢
      rcases (yx_l H x).mp hx with x1 | x1
      · rw [yx_Do H x1] at hdx
        have a := yx_LZlt H x1 hdx
        cases g : ya_beh A ty p key here x with
        | true => have := a.1.mpr g; omega
        | false => have := a.2.mpr g; omega
      · exact Or.inl x1
    · obtain ⟨p1, p2, p3⟩ := yb_pD I H.2.1 hp
      have q1 := (yU_l I p1 hU).1
      rcases (yx_l H x).mp hx with x1 | x1
      · rw [yx_Do H x1] at hdx
        rw [yx_Do H q1] at hdq
        rw [yx_Uo H x1]
        have a := yx_LZlt H x1 hdx
        have hbx : ya_beh A ty p key here x = true := by
          cases g : ya_beh A ty p key here x with
          | true => rfl
          | false => have := a.2.mpr g; omega
        rw [yx_Lle H q1 x1 (hdq.trans hdx.symm)] at h1
        rcases Int.lt_or_le (yL A p).toInt (yL A x).toInt with z | z
        · have hxp : yU A x p := by
            by_cases g : yU A x p
            · exact g
            · rw [yb_out hp g, decide_eq_true_eq, Int32.lt_iff_toInt_lt] at hbx
              omega
          exact yU_trans I hU 4 x1 (yl_lev I x1).2.2 hxp
        · exact hO2 p q x p1 q1 x1 (hdq.trans p2.symm) (hdx.trans p2.symm) hU h1 z
      · rw [x1, yx_UZ H]
        exact Or.inr ⟨hp, hU⟩
end YX3
