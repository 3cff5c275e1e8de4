/-! what held ones need, gathered -/
section YGh
variable {A B τ τ' : sy_Mem} {t n N v : Nat} {hl : Nat → Int32} {kp : Nat → Bool}
/-- nothing is needed by the held one -/
def ya_hk (A : sy_Mem) (hl : Nat → Int32) (kp : Nat → Bool) (n : Nat) : Bool := kp n || decide (ya_N A (hl n) 2 = ya_slot A (nI n) 2)
def ya_gh (A : sy_Mem) (hl : Nat → Int32) (kp : Nat → Bool) : Nat → sy_Mem
  | 0 => sy_up (sy_up A 27 0 0) 27 1 0
  | n + 1 => if ya_hk A hl kp n = true then ya_gh A hl kp n else ya_nr (ya_gh A hl kp n) (yT A (hl n)) (ya_slot A (nI n) 2)
theorem ya_gh_lo (h : yo_lo A B) : ∀ n, yo_lo (ya_gh A hl kp n) (ya_gh B hl kp n)
  | 0 => yo_lo_up (yo_lo_up h)
  | n + 1 => by
    have e : ya_hk B hl kp n = ya_hk A hl kp n := by
      unfold ya_hk ya_N
      rw [h 14 (by decide), ya_slot_c (h 31 (by decide))]
    have eT : yT B (hl n) = yT A (hl n) := ya_sg_c (h 11 (by decide)) _
    unfold ya_gh
    rw [e, eT, ya_slot_c (h 31 (by decide))]
    by_cases ho : ya_hk A hl kp n = true
    · rw [if_pos ho, if_pos ho]; exact ya_gh_lo h n
    · rw [if_neg ho, if_neg ho]; exact ya_nr_lo (ya_gh_lo h n)
theorem ya_held_c (h0 : B (sy_vw v) = A (sy_vw v)) (h1 : B (sy_vw v + 1) = A (sy_vw v + 1)) (i : Int32) : ya_held B v i = ya_held A v i := by
  unfold ya_held
  rw [h0, h1]
theorem ya_kept_c (h0 : B (sy_vw v) = A (sy_vw v)) (h1 : B (sy_vw v + 2) = A (sy_vw v + 2)) (i : Int32) : ya_kept B v i = ya_kept A v i := by
  unfold ya_kept
  rw [h0, h1]
/-- what a view holds -/
theorem yv_held (I : yn_I t A) (hv : v < 4) {i : Nat} (hi : (i : Int) < (A (sy_vw v) 6).toInt) : ya_held A v (nI i) = A (sy_vw v + 1) i ∧ ya_kept A v (nI i) = !decide (A (sy_vw v + 2) i = 0) ∧ yl A (ya_held A v (nI i)) := by
  have h7 := (I.2.2.2.2.2.1 v hv).2.2.2.2.2.2
  have hc : ((decide (0 ≤ nI i) && decide (nI i < A (sy_vw v) 6)) && decide (nI i < 4)) = true := by
    rw [Bool.and_eq_true, Bool.and_eq_true, decide_eq_true_eq, decide_eq_true_eq, decide_eq_true_eq, yi_pos, Int32.lt_iff_toInt_lt, Int32.lt_iff_toInt_lt, nI_toInt (by omega), show (4 : Int32).toInt = 4 from rfl]
    omega
  have e1 : ya_held A v (nI i) = A (sy_vw v + 1) i := by
    unfold ya_held
    rw [if_pos hc, nI_clamp (by omega)]
  refine ⟨e1, ?_, ?_⟩
  · unfold ya_kept
    rw [hc, nI_clamp (by omega), Bool.true_and]
  · rw [e1]
    exact (h7.2 i hi).1
theorem yv_hold (I : yn_I t A) (hv : v < 4) : ((A (sy_vw v) 6).toNatClampNeg : Int) = (A (sy_vw v) 6).toInt ∧ (A (sy_vw v) 6).toNatClampNeg ≤ 4 ∧ A (sy_vw v) 6 = nI (A (sy_vw v) 6).toNatClampNeg := by
  have h6 := (I.2.2.2.2.2.1 v hv).2.2.2.2.2.2.1
  refine ⟨by rw [yi_clampInt]; omega, by rw [yi_clampInt]; omega, yi_nat (yi_pos.mpr h6.1)⟩
end YGh
