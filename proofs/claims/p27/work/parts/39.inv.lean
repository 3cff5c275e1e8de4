/-! what always holds of the component's memory (A: memory, in the component's cells), and what the model's cells are then -/
section YN
abbrev yT (A : sy_Mem) (s : Int32) : Int32 := ya_sg A 11 s
abbrev yP (A : sy_Mem) (s : Int32) : Int32 := ya_sg A 12 s
abbrev yL (A : sy_Mem) (s : Int32) : Int32 := ya_sg A 17 s
abbrev tD (A : sy_Mem) (t : Int32) : Int32 := ya_tg A 2 (-1) t
abbrev tP (A : sy_Mem) (t : Int32) : Int32 := ya_tg A 3 (-1) t
abbrev tV (A : sy_Mem) (t : Int32) : Int32 := ya_tg A 4 0 t
abbrev tK (A : sy_Mem) (t : Int32) : Int32 := ya_tg A 5 (-1) t
abbrev tR (A : sy_Mem) (t : Int32) : Int32 := ya_tg A 6 (-1) t
abbrev tG (A : sy_Mem) (t : Int32) : Int32 := ya_tg A 7 (-1) t
abbrev tC (A : sy_Mem) (t : Int32) : Int32 := ya_tg A 8 (-1) t
abbrev tO (A : sy_Mem) (t : Int32) : Int32 := ya_tg A 9 (-1) t
/-- there is such a segment -/
def yl (A : sy_Mem) (s : Int32) : Prop := ya_sg A 11 s ≠ -1
/-- the database of a segment -/
abbrev sD (A : sy_Mem) (s : Int32) : Int32 := tD A (yT A s)
/-- it is one, or below it -/
def yU (A : sy_Mem) (s p : Int32) : Prop := s = p ∨ ya_X3_isBelow A s p = true
def yn_ty (A : sy_Mem) (t : Int32) : Prop := (0 ≤ (tD A t).toInt ∧ (tD A t).toInt < 3) ∧ (0 ≤ (tK A t).toInt ∧ (tK A t).toInt ≤ 2) ∧ (0 ≤ (tR A t).toInt ∧ (tR A t).toInt ≤ 2) ∧ True ∧ True ∧ (1 ≤ (tV A t).toInt ∧ (tV A t).toInt ≤ 4) ∧
  ((tP A t = -1 ∧ (tV A t).toInt = 1 ∧ tK A t = 0) ∨ (ya_isT A (tP A t) = true ∧ (tP A t).toInt < t.toInt ∧ tD A (tP A t) = tD A t ∧ (tV A t).toInt = (tV A (tP A t)).toInt + 1)) ∧
  (tG A t = -1 ∨ (ya_isT A (tG A t) = true ∧ tP A (tG A t) = -1))
def yn_S (A : sy_Mem) : Prop := (0 ≤ (A 1 0).toInt ∧ (A 1 0).toInt ≤ 12) ∧ (∀ t, ya_isT A t = true → yn_ty A t) ∧ (∀ t u, ya_isT A t = true → ya_isT A u = true → tP A t = -1 → tP A u = -1 → tD A t = tD A u → t = u)
def yn_G (A : sy_Mem) : Prop := (∀ s, yl A s → ya_isT A (yT A s) = true ∧ ((tP A (yT A s) = -1 ∧ yP A s = -1) ∨ (yl A (yP A s) ∧ yT A (yP A s) = tP A (yT A s) ∧ tP A (yT A s) ≠ -1))) ∧ (∀ i, i < 180 → 0 ≤ (A 14 i).toInt ∧ (A 14 i).toInt ≤ 999)
def yn_W (A : sy_Mem) : Prop := (∀ d, d < 3 → 0 ≤ (A 16 d).toInt ∧ (A 16 d).toInt ≤ 60) ∧ ((A 10 9).toInt = (A 16 0).toInt + (A 16 1).toInt + (A 16 2).toInt ∧ (A 10 9).toInt ≤ 60) ∧
  (∀ s, yl A s → 0 ≤ (yL A s).toInt ∧ (yL A s).toInt < (ya_cnt A (sD A s)).toInt ∧ ya_at A (sD A s) (yL A s) = s) ∧
  (∀ d p : Int32, 0 ≤ d.toInt → d.toInt < 3 → 0 ≤ p.toInt → p.toInt < (ya_cnt A d).toInt → yl A (ya_at A d p) ∧ sD A (ya_at A d p) = d ∧ yL A (ya_at A d p) = p)
/-- the order of the row -/
def yn_O (A : sy_Mem) : Prop := (∀ s, yl A s → yP A s ≠ -1 → (yL A (yP A s)).toInt < (yL A s).toInt) ∧
  (∀ s p x, yl A s → yl A p → yl A x → sD A p = sD A s → sD A x = sD A s → yU A s p → (yL A p).toInt ≤ (yL A x).toInt → (yL A x).toInt ≤ (yL A s).toInt → yU A x p) ∧
  (∀ s r, yl A s → yl A r → sD A s = sD A r → yP A s = yP A r → (yT A s).toInt < (yT A r).toInt → (yL A s).toInt < (yL A r).toInt) ∧
  (∀ s r, yl A s → yl A r → yT A s = yT A r → yP A s = yP A r → tK A (yT A s) ≠ 2 → (yL A s).toInt < (yL A r).toInt → (ya_N A s 0).toInt ≤ (ya_N A r 0).toInt) ∧
  (∀ s r, yl A s → yl A r → yT A s = yT A r → yP A s = yP A r → tK A (yT A s) = 0 → ya_N A s 0 = ya_N A r 0 → s = r) ∧
  (∀ s r, yl A s → yl A r → yT A s = yT A r → yP A s = yP A r → ((yL A s).toInt < (yL A r).toInt ↔ (ya_sg A 13 s).toInt < (ya_sg A 13 r).toInt))
def yn_K (t : Nat) (A : sy_Mem) : Prop := ∀ i, i < 60 → 0 ≤ (A 13 i).toInt ∧ (A 13 i).toInt ≤ 8 * t
def yn_v (A : sy_Mem) (v : Nat) : Prop := (0 ≤ (A (sy_vw v) 0).toInt ∧ (A (sy_vw v) 0).toInt < 3) ∧ (0 ≤ (A (sy_vw v) 1).toInt ∧ (A (sy_vw v) 1).toInt ≤ 4095) ∧ (A (sy_vw v) 2 = -1 ∨ (yl A (A (sy_vw v) 2) ∧ sD A (A (sy_vw v) 2) = A (sy_vw v) 0)) ∧
  (A (sy_vw v) 3 = 0 ∨ (A (sy_vw v) 3 = 1 ∧ A (sy_vw v) 2 ≠ -1)) ∧ (A (sy_vw v) 4 = 0 ∨ (A (sy_vw v) 4 = 1 ∧ A (sy_vw v) 2 = -1)) ∧ (A (sy_vw v) 5 = -1 ∨ (yl A (A (sy_vw v) 5) ∧ sD A (A (sy_vw v) 5) = A (sy_vw v) 0)) ∧
  (0 ≤ (A (sy_vw v) 6).toInt ∧ (A (sy_vw v) 6).toInt ≤ 4) ∧ (∀ i : Nat, (i : Int) < (A (sy_vw v) 6).toInt → yl A (A (sy_vw v + 1) i) ∧ (A (sy_vw v + 2) i = 0 ∨ A (sy_vw v + 2) i = 1))
def yn_A (A : sy_Mem) : Prop := (0 ≤ (A 19 0).toInt ∧ (A 19 0).toInt ≤ 4) ∧ (∀ i : Nat, (i : Int) < (A 19 0).toInt → ya_isT A (A 20 i) = true ∧ (0 ≤ (A 21 i).toInt ∧ (A 21 i).toInt ≤ 63) ∧ (0 ≤ (A 22 i).toInt ∧ (A 22 i).toInt ≤ 3) ∧
  (∀ j : Nat, (j : Int) < (A 22 i).toInt → (A 23 (3 * i + j) = 0 ∨ A 23 (3 * i + j) = 1) ∧ (0 ≤ (A 24 (3 * i + j)).toInt ∧ (A 24 (3 * i + j)).toInt < 3))) ∧
  (∀ i, i < 12 → 0 ≤ (A 31 i).toInt ∧ (A 31 i).toInt ≤ 999) ∧ (0 ≤ (A 27 0).toInt ∧ (A 27 0).toInt ≤ 4) ∧ (A 27 1 = 0 ∨ A 27 1 = 1)
def yn_I (t : Nat) (A : sy_Mem) : Prop := yn_S A ∧ yn_G A ∧ yn_W A ∧ yn_O A ∧ yn_K t A ∧ (∀ v, v < 4 → yn_v A v) ∧ yn_A A
/-- the model's word for where a view is -/
def ya_mode (A : sy_Mem) (v : Nat) : Int32 := if A (sy_vw v) 3 ≠ 0 then 0 else if A (sy_vw v) 2 ≠ -1 then 1 else if A (sy_vw v) 4 ≠ 0 then 3 else 2
theorem yn_Wo {t : Nat} {A : sy_Mem} (h : yn_I t A) : ya_W A := by
  obtain ⟨hS, hG, hW, hO, hK, hV, hA⟩ := h
  refine ⟨hS.1.2, hA.1.2, hA.2.2.2.1.2, fun d hd => (hW.1 d hd).2, fun v hv => ?_⟩
  obtain ⟨h1, h2, h3, h4, h5, h6, h7, h8⟩ := hV v hv
  exact ⟨h7.2, h5.imp id (fun q => q.1), h4.imp id (fun q => q.1)⟩
section
variable {A : sy_Mem}
theorem yl_in {s : Int32} (h : yl A s) : 0 ≤ s.toInt ∧ s.toInt < 60 := by
  unfold yl ya_sg at h
  by_cases hc : (decide (0 ≤ s) && decide (s < 60)) = true
  · exact yl_isS.mp hc
  · rw [if_neg hc] at h
    exact absurd rfl h
theorem ya_sg_in {s : Int32} {k : Nat} (h : 0 ≤ s.toInt ∧ s.toInt < 60) : ya_sg A k s = A k s.toNatClampNeg := by
  unfold ya_sg
  rw [if_pos (yl_isS.mpr h)]
theorem ya_tg_in {t : Int32} {k : Nat} {d : Int32} (h : ya_isT A t = true) : ya_tg A k d t = A k t.toNatClampNeg := by
  unfold ya_tg
  rw [if_pos h]
theorem ya_N_in {s f : Int32} (h : 0 ≤ s.toInt ∧ s.toInt < 60) (hf : 0 ≤ f.toInt ∧ f.toInt < 3) : ya_N A s f = A 14 (3 * s.toNatClampNeg + f.toNatClampNeg) := by
  unfold ya_N
  rw [if_pos]
  rw [Bool.and_eq_true, Bool.and_eq_true, yl_isS, yl_ge, yl_lt, yl_c0, yl_c3]
  exact ⟨⟨h, hf.1⟩, hf.2⟩
theorem ya_cnt_in {d : Int32} (h : 0 ≤ d.toInt ∧ d.toInt < 3) : ya_cnt A d = A 16 d.toNatClampNeg := by
  unfold ya_cnt
  rw [if_pos (yl_isD.mpr h)]
theorem ya_at_in {d p : Int32} (h : 0 ≤ d.toInt ∧ d.toInt < 3) (hp : 0 ≤ p.toInt ∧ p.toInt < (ya_cnt A d).toInt) (h60 : (ya_cnt A d).toInt ≤ 60) : ya_at A d p = A 15 (60 * d.toNatClampNeg + p.toNatClampNeg) := by
  unfold ya_at
  rw [ya_cnt_in h] at hp h60
  rw [if_pos]
  rw [Bool.and_eq_true, Bool.and_eq_true, Bool.and_eq_true, yl_isD, yl_ge, yl_lt, yl_lt, yl_c0, yl_c60]
  exact ⟨⟨⟨h, hp.1⟩, by omega⟩, hp.2⟩
theorem ya_ag_in {a : Int32} {k : Nat} {d : Int32} (h : ya_isA A a = true) : ya_ag A k d a = A k a.toNatClampNeg := by
  unfold ya_ag
  rw [if_pos h]
theorem ya_slot_in {s f : Int32} (h : 0 ≤ s.toInt ∧ s.toInt < 4) (hf : 0 ≤ f.toInt ∧ f.toInt < 3) : ya_slot A s f = A 31 (3 * s.toNatClampNeg + f.toNatClampNeg) := by
  unfold ya_slot
  rw [if_pos]
  rw [Bool.and_eq_true, yl_isL, yl_isD]
  exact ⟨h, hf⟩
theorem yl_ne {s : Int32} (h : yl A s) : s ≠ -1 := by
  intro e
  have := yl_in h
  rw [e, yl_cm] at this
  omega
theorem yl_lv {i : Nat} (hi : i < 60) : yl A (nI i) ↔ A 11 i ≠ -1 := by
  unfold yl
  rw [ya_sg_in (by rw [nI_toInt (by omega)]; omega), nI_clamp (by omega)]
theorem ya_sgn {i k : Nat} (hi : i < 60) : ya_sg A k (nI i) = A k i := by
  rw [ya_sg_in (by rw [nI_toInt (by omega)]; omega), nI_clamp (by omega)]
theorem yi_ext {x y : Int32} (h : x.toInt = y.toInt) : x = y := Int32.toInt_inj.mp h
theorem yl_sD (hS : yn_S A) (hG : yn_G A) {s : Int32} (h : yl A s) : 0 ≤ (sD A s).toInt ∧ (sD A s).toInt < 3 := (hS.2.1 _ (hG.1 s h).1).1
theorem ya_isT_m : ya_isT A (-1) = false := by
  cases h : ya_isT A (-1) with
  | false => rfl
  | true => have := yl_isT.mp h; rw [yl_cm] at this; omega
theorem ya_isT_ne {t : Int32} (h : ya_isT A t = true) : t ≠ -1 := by
  intro e
  rw [e, ya_isT_m] at h
  cases h
/-- a parent is of the same database -/
theorem yl_par (hS : yn_S A) (hG : yn_G A) {s : Int32} (h : yl A s) (hp : yP A s ≠ -1) : yl A (yP A s) ∧ sD A (yP A s) = sD A s ∧ (tV A (yT A s)).toInt = (tV A (yT A (yP A s))).toInt + 1 ∧ (yT A (yP A s)).toInt < (yT A s).toInt := by
  obtain ⟨h1, h2⟩ := hG.1 s h
  rcases h2 with ⟨_, h3⟩ | ⟨h3, h4, h5⟩
  · exact absurd h3 hp
  · obtain ⟨_, _, _, _, _, _, g, _⟩ := hS.2.1 _ h1
    rcases g with ⟨g, _⟩ | ⟨g1, g2, g3, g4⟩
    · exact absurd g h5
    · refine ⟨h3, ?_, ?_, ?_⟩
      · show tD A (yT A (yP A s)) = _
        rw [h4]; exact g3
      · rw [h4]; exact g4
      · rw [h4]; exact g2
end
end YN
