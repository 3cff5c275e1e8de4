/-! the memory behind addSegment, read -/
section YX
variable {A : sy_Mem} {t : Nat} {ty p key here : Int32}
/-- what holds where a segment is added -/
def yx_H (t : Nat) (A : sy_Mem) (ty p key here : Int32) : Prop := yn_I t A ∧ yb_ok A ty p key here ∧ ya_fr A < 60 ∧ (ya_cnt A (tD A ty)).toNatClampNeg < 60
theorem yx_ne {k : Nat} (h10 : k ≠ 10) (h11 : k ≠ 11) (h12 : k ≠ 12) (h13 : k ≠ 13) (h14 : k ≠ 14) (h15 : k ≠ 15) (h16 : k ≠ 16) (h17 : k ≠ 17) : ya_add A ty p key here k = A k := by
  unfold ya_add ya_add2 ya_put ya_add1
  rw [yu_ne h14, yd_ne h17, yu_ne h10, yd_ne h16, yd_ne h15, ya_z3_ne h14, yu_ne h12, yu_ne h11, yu_ne h13, yd_ne h13]
theorem yx_lo {k : Nat} (h : k < 10) : ya_add A ty p key here k = A k := yx_ne (by omega) (by omega) (by omega) (by omega) (by omega) (by omega) (by omega) (by omega)
theorem yx_hi {k : Nat} (h : 17 < k) : ya_add A ty p key here k = A k := yx_ne (by omega) (by omega) (by omega) (by omega) (by omega) (by omega) (by omega) (by omega)
theorem yx_11 : ya_add A ty p key here 11 = upd (A 11) (ya_fr A) ty := by
  unfold ya_add ya_add2 ya_put ya_add1
  rw [yu_ne (by decide), yd_ne (by decide), yu_ne (by decide), yd_ne (by decide), yd_ne (by decide), ya_z3_ne (by decide), yu_ne (by decide), yu_eq, yu_ne (by decide), yd_ne (by decide)]
theorem yx_12 : ya_add A ty p key here 12 = upd (A 12) (ya_fr A) p := by
  unfold ya_add ya_add2 ya_put ya_add1
  rw [yu_ne (by decide), yd_ne (by decide), yu_ne (by decide), yd_ne (by decide), yd_ne (by decide), ya_z3_ne (by decide), yu_eq, yu_ne (by decide), yu_ne (by decide), yd_ne (by decide)]
theorem yx_13 : ya_add A ty p key here 13 = upd (ya_rks A ty p (ya_twin A ty p key here)) (ya_fr A) (ya_rank A ty p (ya_twin A ty p key here)) := by
  unfold ya_add ya_add2 ya_put ya_add1
  rw [yu_ne (by decide), yd_ne (by decide), yu_ne (by decide), yd_ne (by decide), yd_ne (by decide), ya_z3_ne (by decide), yu_ne (by decide), yu_ne (by decide), yu_eq, yd_at]
theorem yx_14 : ya_add A ty p key here 14 = upd (upd (upd (upd (A 14) (3 * ya_fr A + 0) 0) (3 * ya_fr A + 1) 0) (3 * ya_fr A + 2) 0) (3 * ya_fr A) key := by
  unfold ya_add ya_add2 ya_put ya_add1
  rw [yu_eq, yd_ne (by decide), yu_ne (by decide), yd_ne (by decide), yd_ne (by decide)]
  rw [show ∀ B : sy_Mem, ya_z3 B (ya_fr A) 3 = sy_up (sy_up (sy_up B 14 (3 * ya_fr A + 0) 0) 14 (3 * ya_fr A + 1) 0) 14 (3 * ya_fr A + 2) 0 from fun _ => rfl]
  rw [yu_eq, yu_eq, yu_eq, yu_ne (by decide), yu_ne (by decide), yu_ne (by decide), yd_ne (by decide)]
theorem ya_add1_k {tw : Int32} {k : Nat} (h1 : k ≠ 11) (h2 : k ≠ 12) (h3 : k ≠ 13) (h4 : k ≠ 14) : ya_add1 A ty p tw k = A k := by
  unfold ya_add1
  rw [ya_z3_ne h4, yu_ne h2, yu_ne h1, yu_ne h3, yd_ne h3]
theorem yx_15 : ya_add A ty p key here 15 = upd (ya_shf (A 15) (60 * (tD A ty).toNatClampNeg) (ya_cnt A (tD A ty)).toNatClampNeg ((ya_cnt A (tD A ty)).toNatClampNeg - ya_plc A ty p key here)) (60 * (tD A ty).toNatClampNeg + ya_plc A ty p key here) (nI (ya_fr A)) := by
  unfold ya_add ya_add2 ya_put
  rw [yu_ne (by decide), yd_ne (by decide), yu_ne (by decide), yd_ne (by decide), yd_at, ya_add1_k (by decide) (by decide) (by decide) (by decide)]
theorem yx_16 : ya_add A ty p key here 16 = upd (A 16) (tD A ty).toNatClampNeg (nI ((ya_cnt A (tD A ty)).toNatClampNeg + 1)) := by
  unfold ya_add ya_add2 ya_put
  rw [yu_ne (by decide), yd_ne (by decide), yu_ne (by decide), yd_at, ya_add1_k (by decide) (by decide) (by decide) (by decide)]
theorem yx_10 : ya_add A ty p key here 10 = upd (A 10) 9 (A 10 9 + 1) := by
  unfold ya_add ya_add2 ya_put
  rw [yu_ne (by decide), yd_ne (by decide), yu_eq, yd_ne (by decide), yd_ne (by decide), ya_add1_k (by decide) (by decide) (by decide) (by decide)]
theorem yx_17 : ya_add A ty p key here 17 = ya_pls (ya_add2 A ty p key here) (tD A ty) ((ya_cnt A (tD A ty)).toNatClampNeg + 1) := by
  unfold ya_add
  rw [yu_ne (by decide), yd_at]
theorem yx_2_15 : ya_add2 A ty p key here 15 = ya_add A ty p key here 15 := by
  rw [yx_15]
  unfold ya_add2 ya_put
  rw [yu_ne (by decide), yd_ne (by decide), yd_at, ya_add1_k (by decide) (by decide) (by decide) (by decide)]
theorem yx_2_16 : ya_add2 A ty p key here 16 = ya_add A ty p key here 16 := by
  rw [yx_16]
  unfold ya_add2 ya_put
  rw [yu_ne (by decide), yd_at, ya_add1_k (by decide) (by decide) (by decide) (by decide)]
theorem yx_2_17 : ya_add2 A ty p key here 17 = A 17 := by
  unfold ya_add2 ya_put
  rw [yu_ne (by decide), yd_ne (by decide), yd_ne (by decide), ya_add1_k (by decide) (by decide) (by decide) (by decide)]
theorem yx_2_at (d q : Int32) : ya_at (ya_add2 A ty p key here) d q = ya_at (ya_add A ty p key here) d q := by
  unfold ya_at
  rw [yx_2_15, yx_2_16]
theorem upd_at {f : Nat → Int32} {i : Nat} {v : Int32} : upd f i v i = v := by unfold upd; rw [if_pos rfl]
theorem upd_ne {f : Nat → Int32} {i j : Nat} {v : Int32} (h : j ≠ i) : upd f i v j = f j := by unfold upd; rw [if_neg h]
/-- a row of a number for each segment, changed in one place -/
theorem yx_sg {k : Nat} {v : Int32} (hz : ya_fr A < 60) {B : sy_Mem} (h : B k = upd (A k) (ya_fr A) v) (s : Int32) : ya_sg B k s = if s = nI (ya_fr A) then v else ya_sg A k s := by
  by_cases e : s = nI (ya_fr A)
  · rw [if_pos e, e, ya_sgn hz, h, upd_at]
  · rw [if_neg e]
    unfold ya_sg
    by_cases hs : (decide (0 ≤ s) && decide (s < 60)) = true
    · rw [if_pos hs, if_pos hs, h, upd_ne]
      intro q
      apply e
      rw [← q]
      exact yi_nat (yi_pos.mpr (yl_isS.mp hs).1)
    · rw [if_neg hs, if_neg hs]
theorem yx_T (H : yx_H t A ty p key here) (s : Int32) : yT (ya_add A ty p key here) s = if s = nI (ya_fr A) then ty else yT A s := yx_sg H.2.2.1 yx_11 s
theorem yx_P (H : yx_H t A ty p key here) (s : Int32) : yP (ya_add A ty p key here) s = if s = nI (ya_fr A) then p else yP A s := yx_sg H.2.2.1 yx_12 s
theorem yx_dead (H : yx_H t A ty p key here) : ¬ yl A (nI (ya_fr A)) := by
  unfold yl
  rw [ya_sgn H.2.2.1, (ya_fr_at H.2.2.1).1]
  exact fun h => h rfl
theorem yx_l (H : yx_H t A ty p key here) (s : Int32) : yl (ya_add A ty p key here) s ↔ (yl A s ∨ s = nI (ya_fr A)) := by
  show yT (ya_add A ty p key here) s ≠ -1 ↔ _
  rw [yx_T H]
  by_cases e : s = nI (ya_fr A)
  · rw [if_pos e]
    exact ⟨fun _ => Or.inr e, fun _ => ya_isT_ne H.2.1.1⟩
  · rw [if_neg e]
    exact ⟨fun h => Or.inl h, fun h => h.resolve_right e⟩
theorem yx_lne (H : yx_H t A ty p key here) {s : Int32} (h : yl A s) : s ≠ nI (ya_fr A) := fun e => yx_dead H (by rw [← e]; exact h)
theorem yx_isT (u : Int32) : ya_isT (ya_add A ty p key here) u = ya_isT A u := by
  unfold ya_isT
  rw [yx_lo (by decide)]
theorem yx_tg {k : Nat} (hk : k < 10) (d u : Int32) : ya_tg (ya_add A ty p key here) k d u = ya_tg A k d u := by
  unfold ya_tg
  rw [yx_isT, yx_lo hk]
theorem yx_To (H : yx_H t A ty p key here) {s : Int32} (h : yl A s) : yT (ya_add A ty p key here) s = yT A s := by rw [yx_T H, if_neg (yx_lne H h)]
theorem yx_Po (H : yx_H t A ty p key here) {s : Int32} (h : yl A s) : yP (ya_add A ty p key here) s = yP A s := by rw [yx_P H, if_neg (yx_lne H h)]
theorem yx_Do (H : yx_H t A ty p key here) {s : Int32} (h : yl A s) : sD (ya_add A ty p key here) s = sD A s := by
  show ya_tg _ 2 (-1) (yT _ s) = _
  rw [yx_tg (by decide), yx_To H h]
theorem yx_TZ (H : yx_H t A ty p key here) : yT (ya_add A ty p key here) (nI (ya_fr A)) = ty := by rw [yx_T H, if_pos rfl]
theorem yx_PZ (H : yx_H t A ty p key here) : yP (ya_add A ty p key here) (nI (ya_fr A)) = p := by rw [yx_P H, if_pos rfl]
theorem yx_DZ (H : yx_H t A ty p key here) : sD (ya_add A ty p key here) (nI (ya_fr A)) = tD A ty := by
  show ya_tg _ 2 (-1) (yT _ _) = _
  rw [yx_tg (by decide), yx_TZ H]
theorem yx_Dn (H : yx_H t A ty p key here) : (tD A ty).toNatClampNeg < 3 ∧ ((tD A ty).toNatClampNeg : Int) = (tD A ty).toInt := by
  have := yb_D H.1 H.2.1
  rw [yi_clampInt]
  omega
/-- the counts -/
theorem yx_cntD (H : yx_H t A ty p key here) : ya_cnt (ya_add A ty p key here) (tD A ty) = nI ((ya_cnt A (tD A ty)).toNatClampNeg + 1) := by
  rw [ya_cnt_in (yb_D H.1 H.2.1), yx_16, upd_at]
theorem yx_cnto (H : yx_H t A ty p key here) {d : Int32} (h : d ≠ tD A ty) : ya_cnt (ya_add A ty p key here) d = ya_cnt A d := by
  unfold ya_cnt
  by_cases hd : (decide (0 ≤ d) && decide (d < 3)) = true
  · rw [if_pos hd, if_pos hd, yx_16, upd_ne]
    intro e
    apply h
    have h1 := yl_isD.mp hd
    have h2 := yb_D H.1 H.2.1
    rw [yi_clampInt, yi_clampInt] at e
    exact yi_ext (by omega)
  · rw [if_neg hd, if_neg hd]
theorem yx_c (H : yx_H t A ty p key here) : (ya_cnt A (tD A ty)).toInt = ((ya_cnt A (tD A ty)).toNatClampNeg : Int) ∧ ya_plc A ty p key here ≤ (ya_cnt A (tD A ty)).toNatClampNeg := by
  have := yg_cnt H.1 (yb_D H.1 H.2.1)
  exact ⟨by rw [yi_clampInt]; omega, (yb_place H.1 H.2.1).1⟩
/-- the row -/
theorem yx_at (H : yx_H t A ty p key here) {i : Nat} (hi : i ≤ (ya_cnt A (tD A ty)).toNatClampNeg) : ya_at (ya_add A ty p key here) (tD A ty) (nI i) = if i < ya_plc A ty p key here then ya_at A (tD A ty) (nI i) else if i = ya_plc A ty p key here then nI (ya_fr A) else ya_at A (tD A ty) (nI (i - 1)) := by
  have hD := yb_D H.1 H.2.1
  have hc := yx_c H
  have h60 := H.2.2.2
  have e1 : ∀ j : Nat, j < (ya_cnt A (tD A ty)).toNatClampNeg → ya_at A (tD A ty) (nI j) = A 15 (60 * (tD A ty).toNatClampNeg + j) := fun j hj => by
    rw [ya_at_in hD (by rw [nI_toInt (by omega)]; omega) (yg_cnt H.1 hD).2, nI_clamp (by omega)]
  rw [ya_at_in hD (by rw [yx_cntD H, nI_toInt (by omega), nI_toInt (by omega)]; omega) (by rw [yx_cntD H, nI_toInt (by omega)]; omega), nI_clamp (by omega), yx_15]
  by_cases h1 : i < ya_plc A ty p key here
  · rw [if_pos h1, upd_ne (by omega), e1 i (by omega)]
    unfold ya_shf
    rw [if_neg (by omega)]
  · rw [if_neg h1]
    by_cases h2 : i = ya_plc A ty p key here
    · rw [if_pos h2, h2, upd_at]
    · rw [if_neg h2, upd_ne (by omega), e1 (i - 1) (by omega)]
      unfold ya_shf
      rw [if_pos (by omega), show 60 * (tD A ty).toNatClampNeg + i - 1 = 60 * (tD A ty).toNatClampNeg + (i - 1) by omega]
theorem yx_ato (H : yx_H t A ty p key here) {d q : Int32} (h : d ≠ tD A ty) : ya_at (ya_add A ty p key here) d q = ya_at A d q := by
  have hD := yb_D H.1 H.2.1
  have hc := yx_c H
  have h60 := H.2.2.2
  unfold ya_at
  by_cases hd : (decide (0 ≤ d) && decide (d < 3)) = true
  · have h1 := yl_isD.mp hd
    have hne : d.toNatClampNeg ≠ (tD A ty).toNatClampNeg := fun e => h (yi_ext (by rw [yi_clampInt, yi_clampInt] at e; omega))
    rw [yx_16, upd_ne hne, yx_15]
    by_cases hq : ((((decide (0 ≤ d) && decide (d < 3)) && decide (0 ≤ q)) && decide (q < 60)) && decide (q < A 16 d.toNatClampNeg)) = true
    · rw [if_pos hq, if_pos hq]
      rw [Bool.and_eq_true, Bool.and_eq_true, Bool.and_eq_true, yl_ge, yl_lt, yl_c0, yl_c60] at hq
      have h3 : q.toNatClampNeg < 60 := by rw [yi_clampInt]; omega
      rw [upd_ne (by omega)]
      unfold ya_shf
      rw [if_neg (by omega)]
    · rw [if_neg hq, if_neg hq]
  · rw [show (decide (0 ≤ d) && decide (d < 3)) = false from Bool.eq_false_iff.mpr hd]
    rfl
end YX
