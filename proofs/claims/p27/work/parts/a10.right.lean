section LA10
variable {A σ : sy_Mem} {t : Nat}
theorem bits64 : ∀ m : Fin 64, (decide (nI m.val &&& 1 = 0) = !decide (m.val % 2 = 1)) ∧ (decide (nI m.val &&& 2 = 0) = !decide (m.val / 2 % 2 = 1)) ∧ (decide (nI m.val &&& 4 = 0) = !decide (m.val / 4 % 2 = 1)) ∧ (decide (nI m.val &&& 8 = 0) = !decide (m.val / 8 % 2 = 1)) ∧ (decide (nI m.val &&& 16 = 0) = !decide (m.val / 16 % 2 = 1)) ∧ (decide (nI m.val &&& 32 = 0) = !decide (m.val / 32 % 2 = 1)) := by decide +kernel
abbrev qk (A : sy_Mem) (i : Nat) : Nat := (A 21 i).toInt.toNat
theorem code_is (I : yn_I t A) {i : Nat} (hi : i < lsN A) : A 21 i = nI (qk A i) ∧ qk A i < 64 ∧ ya_code A (nI i) 1 = decide (qk A i % 2 = 1) ∧ ya_code A (nI i) 2 = decide (qk A i / 2 % 2 = 1) ∧ ya_code A (nI i) 4 = decide (qk A i / 4 % 2 = 1) ∧ ya_code A (nI i) 8 = decide (qk A i / 8 % 2 = 1) ∧ ya_code A (nI i) 16 = decide (qk A i / 16 % 2 = 1) ∧ ya_code A (nI i) 32 = decide (qk A i / 32 % 2 = 1) := by
  obtain ⟨-, -, -, h4⟩ := q_T I hi
  have hlt : qk A i < 64 := by
    show (A 21 i).toInt.toNat < 64
    omega
  have e : A 21 i = nI (qk A i) := (ntI (by omega) (by show (((A 21 i).toInt.toNat : Nat) : Int) = _; omega)).symm
  obtain ⟨b1, b2, b3, b4, b5, b6⟩ := bits64 ⟨qk A i, hlt⟩
  have hc : ∀ c, ya_code A (nI i) c = !decide (nI (qk A i) &&& c = 0) := fun c => by
    unfold ya_code
    rw [(isA_nI I hi).1, ag_nI I hi, ← e, Bool.true_and]
  refine ⟨e, hlt, ?_, ?_, ?_, ?_, ?_, ?_⟩
  · rw [hc, b1, Bool.not_not]
  · rw [hc, b2, Bool.not_not]
  · rw [hc, b3, Bool.not_not]
  · rw [hc, b4, Bool.not_not]
  · rw [hc, b5, Bool.not_not]
  · rw [hc, b6, Bool.not_not]
theorem up_D (I : yn_I t A) {s ty : Int32} (hs : yl A s) (hu : yl A (ya_X3_upward A s ty)) : yU A s (ya_X3_upward A s ty) ∧ sD A (ya_X3_upward A s ty) = sD A s := by
  revert hu
  unfold ya_X3_upward
  cases hw : ya_walk (fun x => ya_sg A 12 x) (fun x => decide (ya_sg A 11 x = ty)) 4 s with
  | none => exact fun hu => absurd rfl (yl_ne hu)
  | some c =>
    intro hu
    have hU := yo_walkU I 4 hs hw
    exact ⟨hU, (yU_l I hs hU).2.1⟩
/-- the view's place as the law has it: where it stands, or -1 -/
theorem here_is (I : yn_I t A) {v d : Nat} (hv : v < 4) (hd : d < 3) (hD : A (sy_vw v) 0 = nI d) : (ya_here A v = -1) ∨ ∃ q, q < cn A d ∧ ya_here A v = sg A d q ∧ yL A (ya_here A v) = nI q := by
  obtain ⟨-, -, h3, h4, -⟩ := I.2.2.2.2.2.1 v hv
  unfold ya_here
  rcases h4 with h4 | ⟨h4, h5⟩
  · rw [h4]
    exact Or.inl rfl
  · rw [h4]
    rcases h3 with h3 | ⟨h3, h6⟩
    · exact absurd h3 h5
    · right
      exact sg_of I h3 hd (h6.trans hD)
/-- whether the view stands within a segment, as the law asks it -/
theorem within_is (I : yn_I t A) {v d px : Nat} (hv : v < 4) (hd : d < 3) (hD : A (sy_vw v) 0 = nI d) (hp : px < cn A d) : (decide (yL A (ya_here A v) < nI px) || decide (nI (yE A d px) ≤ yL A (ya_here A v))) = !(decide (ya_here A v = sg A d px) || ya_X3_isBelow A (ya_here A v) (sg A d px)) := by
  obtain ⟨e1, e2, e3⟩ := yE_is I hd hp
  have h60 := cn_le I hd
  rcases here_is I hv hd hD with h | ⟨q, q1, q2, q3⟩
  · rw [h, yL_m1, decide_eq_true (show (-1 : Int32) < nI px by rw [Int32.lt_iff_toInt_lt, nI_toInt (by omega)]; show (-1 : Int) < px; omega), Bool.true_or, yg_belowm rfl, decide_eq_false (fun e => yl_ne (sg_ok I hd hp).1 e.symm)]
    rfl
  · rw [q3, q2]
    have h1 : decide (nI q < nI px) = decide (q < px) := by
      rw [decide_eq_decide, Int32.lt_iff_toInt_lt]
      exact (nI_lt2 (by omega) (by omega)).1
    have h2 : decide (nI (yE A d px) ≤ nI q) = decide (yE A d px ≤ q) := by
      rw [decide_eq_decide, Int32.le_iff_toInt_le]
      exact (nI_lt2 (by omega) (by omega)).2
    rw [h1, h2]
    have h3 := e3 q q1
    have h4 : (decide (sg A d q = sg A d px) || ya_X3_isBelow A (sg A d q) (sg A d px)) = decide (px ≤ q ∧ q < yE A d px) := by
      rw [Bool.eq_iff_iff, decide_eq_true_eq, h3]
      unfold yU
      simp
    rw [h4, Bool.eq_iff_iff]
    simp
theorem ff_some {P : Nat → Bool} {n a : Nat} : (ya_ff P n a).isSome = true ↔ ∃ j, a ≤ j ∧ j < a + n ∧ P j = true := by
  cases h : ya_ff P n a with
  | none =>
    have := ya_ff_none.mp h
    simp
    intro j h1 h2
    exact this j h1 h2
  | some i =>
    obtain ⟨h1, h2, h3, -⟩ := ya_ff_some.mp h
    simp
    exact ⟨i, h1, h2, h3⟩
theorem yP_D (I : yn_I t A) {d j : Nat} (hd : d < 3) (hj : j < cn A d) : yP A (sg A d j) = -1 ∨ ∃ q, q < cn A d ∧ yP A (sg A d j) = sg A d q ∧ yL A (yP A (sg A d j)) = nI q := by
  by_cases h : yP A (sg A d j) = -1
  · exact Or.inl h
  · obtain ⟨b1, b2, -⟩ := yl_par I.1 I.2.1 (sg_ok I hd hj).1 h
    exact Or.inr (sg_of I b1 hd (b2.trans (sg_ok I hd hj).2.1))
theorem par_eq (I : yn_I t A) {d j p : Nat} (hd : d < 3) (hj : j < cn A d) (hp : p < cn A d) : decide (yL A (yP A (sg A d j)) = yL A (yP A (sg A d p))) = decide (yP A (sg A d j) = yP A (sg A d p)) := by
  have h60 := cn_le I hd
  have hm : ∀ q : Nat, q < 100 → ¬ nI q = -1 := fun q hq e => by
    have := congrArg Int32.toInt e
    rw [nI_toInt (by omega), yl_cm] at this
    omega
  rw [decide_eq_decide]
  refine ⟨fun h => ?_, fun h => by rw [h]⟩
  rcases yP_D I hd hj with e1 | ⟨q, q1, q2, q3⟩ <;> rcases yP_D I hd hp with e2 | ⟨r, r1, r2, r3⟩
  · rw [e1, e2]
  · rw [e1, r3, yL_m1] at h
    exact absurd h.symm (hm r (by omega))
  · rw [e2, q3, yL_m1] at h
    exact absurd h (hm q (by omega))
  · rw [q3, r3] at h
    have := congrArg Int32.toInt h
    rw [nI_toInt (by omega), nI_toInt (by omega)] at this
    rw [q2, r2, show q = r by omega]
/-- a twin that fulfils, ahead or behind: told by places -/
theorem twin_is (I : yn_I t A) {d px i : Nat} (hd : d < 3) (hp : px < cn A d) (f : Bool) : ya_X5_isTwinFulfilling A (sg A d px) (nI i) (ya_b f) = (ya_ff (fun j => (((!decide (j = px)) && decide (yT A (sg A d j) = yT A (sg A d px))) && decide (yL A (yP A (sg A d j)) = yL A (yP A (sg A d px)))) && ya_X0_isFulfilled A (nI i) (sg A d j) && decide (decide (j < px) = f)) (cn A d) 0).isSome := by
  have h60 := cn_le I hd
  obtain ⟨a1, a2, a3⟩ := sg_ok I hd hp
  have hb : ∀ b : Bool, decide (ya_b b = ya_b f) = decide (b = f) := fun b => by cases b <;> cases f <;> rfl
  have hL : ∀ j, j < cn A d → decide (yL A (sg A d j) < yL A (sg A d px)) = decide (j < px) := fun j hj => by
    rw [(sg_ok I hd hj).2.2, a3, decide_eq_decide, Int32.lt_iff_toInt_lt]
    exact (nI_lt2 (by omega) (by omega)).1
  have hne : ∀ j, j < cn A d → decide (sg A d j = sg A d px) = decide (j = px) := fun j hj => by
    rw [decide_eq_decide]
    exact ⟨fun e => sg_inj I hd hj hp e, fun e => by rw [e]⟩
  have hnum : ∀ j, j < cn A d → (sg A d j).toInt.toNat < 60 ∧ nI (sg A d j).toInt.toNat = sg A d j := fun j hj => by
    have := yl_in (sg_ok I hd hj).1
    refine ⟨by omega, ?_⟩
    apply yi_ext
    rw [nI_toInt (by omega)]
    omega
  have htw : ∀ j, j < cn A d → ya_tw A (sg A d j) (yT A (sg A d px)) (yP A (sg A d px)) = (decide (yT A (sg A d j) = yT A (sg A d px)) && decide (yP A (sg A d j) = yP A (sg A d px))) := fun j hj => by
    unfold ya_tw
    have hin := yl_in (sg_ok I hd hj).1
    rw [show (decide ((0 : Int32) ≤ sg A d j) && decide (sg A d j < 60)) = true by rw [yl_isS]; exact hin, Bool.true_and]
  have hs : ∀ (P : Nat → Bool) (n : Nat), (if (ya_ff P n 0).isSome then true else false) = (ya_ff P n 0).isSome := fun P n => by cases (ya_ff P n 0).isSome <;> rfl
  unfold ya_X5_isTwinFulfilling
  rw [hs, Bool.eq_iff_iff, ff_some, ff_some]
  constructor
  · rintro ⟨z, -, z1, z2⟩
    simp only [Bool.and_eq_true] at z2
    obtain ⟨⟨⟨g1, g2⟩, g3⟩, g4⟩ := z2
    obtain ⟨l1, l2, l3⟩ := (yb_tw (ya_isT_ne (I.2.1.1 _ a1).1)).mp g2
    obtain ⟨j, j1, j2, j3⟩ := sg_of I l1 hd (show tD A (yT A (nI z)) = nI d by rw [l2]; exact a2)
    refine ⟨j, by omega, by omega, ?_⟩
    rw [j2] at g1 g2 g3 g4
    rw [hne j j1] at g1
    rw [htw j j1] at g2
    rw [show decide (ya_sg A 17 (sg A d j) < ya_sg A 17 (sg A d px)) = decide (j < px) from hL j j1, hb] at g3
    rw [par_eq I hd j1 hp]
    simp only [Bool.and_eq_true] at g2 ⊢
    exact ⟨⟨⟨⟨g1, g2.1⟩, g2.2⟩, g4⟩, g3⟩
  · rintro ⟨j, -, j1, j2⟩
    have j1 : j < cn A d := by omega
    obtain ⟨n1, n2⟩ := hnum j j1
    refine ⟨(sg A d j).toInt.toNat, by omega, by omega, ?_⟩
    rw [n2, hne j j1, show ya_tw A (sg A d j) (ya_sg A 11 (sg A d px)) (ya_sg A 12 (sg A d px)) = _ from htw j j1, show decide (ya_sg A 17 (sg A d j) < ya_sg A 17 (sg A d px)) = decide (j < px) from hL j j1, hb]
    rw [par_eq I hd j1 hp] at j2
    simp only [Bool.and_eq_true] at j2 ⊢
    exact ⟨⟨⟨j2.1.1.1.1, j2.1.1.1.2, j2.1.1.2⟩, j2.2⟩, j2.1.2⟩
end LA10
