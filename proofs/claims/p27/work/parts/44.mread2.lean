section YQ2
variable {A σ : sy_Mem} {t : Nat}
/-- the first right segment that a call of get comes to -/
def ya_within (A : sy_Mem) (v : Nat) (way : Int32) : Int32 := if way = 2 then A (sy_vw v) 5 else -1
def ya_start (A : sy_Mem) (v : Nat) (way : Int32) : Int32 := if way = 0 then 0 else ya_X5_placeBehind A v
def ya_finds (A : sy_Mem) (v : Nat) (way : Int32) : Int32 := ya_X5_firstRight A v (A 19 0).toNatClampNeg (ya_start A v way).toNatClampNeg (ya_within A v way)
theorem yg_start (I : yn_I t A) {v : Nat} (hv : v < 4) (way : Int32) : 0 ≤ (ya_start A v way).toInt ∧ (ya_start A v way).toInt ≤ 61 := by
  unfold ya_start
  by_cases h0 : way = 0
  · rw [if_pos h0]
    exact ⟨by decide, by decide⟩
  · rw [if_neg h0, yg_from I hv]
    have hd := (I.2.2.2.2.2.1 v hv).1
    have hc := I.2.2.1.1 (A (sy_vw v) 0).toNatClampNeg (by rw [yi_clampInt]; omega)
    rcases yg_modes I hv with ⟨_, _, h2, _, hm, _⟩ | ⟨_, _, h2, _, hm, _⟩ | ⟨_, _, _, hm, _⟩ | ⟨_, _, _, hm, _⟩
    · rw [hm, if_pos rfl]
      have := yg_pl I h2
      rw [yl_add (by omega) (by omega) (by decide) (by decide), yl_c1]
      omega
    · rw [hm, if_neg (by decide), if_pos rfl]
      have := yg_pl I h2
      omega
    · rw [hm, if_neg (by decide), if_neg (by decide), if_neg (by decide), ya_cnt_in hd]
      omega
    · rw [hm, if_neg (by decide), if_neg (by decide), if_pos rfl]
      exact ⟨by decide, by decide⟩
theorem yg_n19e (I : yn_I t A) : A 19 0 = nI (A 19 0).toNatClampNeg := yi_nat (yi_pos.mpr I.2.2.2.2.2.2.1.1)
/-- a place of the row -/
theorem yg_at (I : yn_I t A) {d p : Int32} (hd : 0 ≤ d.toInt ∧ d.toInt < 3) (hp : 0 ≤ p.toInt ∧ p.toInt < (ya_cnt A d).toInt) : yl A (ya_at A d p) ∧ sD A (ya_at A d p) = d ∧ yL A (ya_at A d p) = p := I.2.2.1.2.2.2 d p hd.1 hd.2 hp.1 hp.2
theorem yg_cnt (I : yn_I t A) {d : Int32} (hd : 0 ≤ d.toInt ∧ d.toInt < 3) : 0 ≤ (ya_cnt A d).toInt ∧ (ya_cnt A d).toInt ≤ 60 := by
  rw [ya_cnt_in hd]
  exact I.2.2.1.1 _ (by rw [yi_clampInt]; omega)
theorem yg_pn (I : yn_I t A) {d : Int32} (hd : 0 ≤ d.toInt ∧ d.toInt < 3) {i : Nat} (hi : i < (ya_cnt A d).toNatClampNeg) : 0 ≤ (nI i).toInt ∧ (nI i).toInt < (ya_cnt A d).toInt := by
  have := yg_cnt I hd
  rw [yi_clampInt] at hi
  rw [nI_toInt (by omega)]
  omega
theorem yg_nt (I : yn_I t A) {i : Nat} (hi : i < (A 1 0).toNatClampNeg) : ya_isT A (nI i) = true := by
  have := I.1.1
  rw [yi_clampInt] at hi
  rw [yl_isT, nI_toInt (by omega)]
  omega
theorem yg_rootT {x : Int32} (h : ya_isT A x = true) : ya_X2_isRootType A x = decide (tP A x = -1) := by
  unfold ya_X2_isRootType
  rw [h, Bool.true_and, show tP A x = ya_tg A 3 (-1) x from rfl, ya_tg_in h]
end YQ2
