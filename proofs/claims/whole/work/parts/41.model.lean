/-! the model's cells and its small readers, told by the component's memory A -/
section YM
variable {A σ σ1 : sy_Mem} {env : List Value} {r : sy_RE} {i : sy_IE} {x : Int32} {t : Nat}
theorem em_tg {k c : Nat} {d : Int32} (hk : σ k = A c) (hl : sy_len 0 k = 12) (I : yn_I t A) (hr : r env σ = some (.inl k, σ)) (hi : i env σ = some (.inl x, σ)) (h : ya_isT A x = true) : sy_iA 0 r i env σ = some (.inl (ya_tg A c d x), σ) := by
  have h1 := yl_isT.mp h
  have h2 := I.1.1.2
  rw [ee_A (kd := 0) hr hi (by rw [hl, yi_inb]; omega), hk, ya_tg_in h]
theorem em_45 (M : yr_M A σ) (I : yn_I t A) (hr : r env σ = some (.inl 45, σ)) (hi : i env σ = some (.inl x, σ)) (h : ya_isT A x = true) : sy_iA 0 r i env σ = some (.inl (ya_tg A 2 (-1) x), σ) := em_tg M.1.2.1 rfl I hr hi h
theorem em_46 (M : yr_M A σ) (I : yn_I t A) (hr : r env σ = some (.inl 46, σ)) (hi : i env σ = some (.inl x, σ)) (h : ya_isT A x = true) : sy_iA 0 r i env σ = some (.inl (ya_tg A 3 (-1) x), σ) := em_tg M.1.2.2.1 rfl I hr hi h
theorem em_47 (M : yr_M A σ) (I : yn_I t A) (hr : r env σ = some (.inl 47, σ)) (hi : i env σ = some (.inl x, σ)) (h : ya_isT A x = true) : sy_iA 0 r i env σ = some (.inl (ya_tg A 5 (-1) x), σ) := em_tg M.1.2.2.2.1 rfl I hr hi h
theorem em_48 (M : yr_M A σ) (I : yn_I t A) (hr : r env σ = some (.inl 48, σ)) (hi : i env σ = some (.inl x, σ)) (h : ya_isT A x = true) : sy_iA 0 r i env σ = some (.inl (ya_tg A 6 (-1) x), σ) := em_tg M.1.2.2.2.2.1 rfl I hr hi h
theorem em_49 (M : yr_M A σ) (I : yn_I t A) (hr : r env σ = some (.inl 49, σ)) (hi : i env σ = some (.inl x, σ)) (h : ya_isT A x = true) : sy_iA 0 r i env σ = some (.inl (ya_tg A 4 0 x), σ) := em_tg M.1.2.2.2.2.2.1 rfl I hr hi h
theorem em_50 (M : yr_M A σ) (I : yn_I t A) (hr : r env σ = some (.inl 50, σ)) (hi : i env σ = some (.inl x, σ)) (h : ya_isT A x = true) : sy_iA 0 r i env σ = some (.inl (ya_tg A 7 (-1) x), σ) := em_tg M.1.2.2.2.2.2.2.1 rfl I hr hi h
theorem em_51 (M : yr_M A σ) (I : yn_I t A) (hr : r env σ = some (.inl 51, σ)) (hi : i env σ = some (.inl x, σ)) (h : ya_isT A x = true) : sy_iA 0 r i env σ = some (.inl (ya_tg A 8 (-1) x), σ) := em_tg M.1.2.2.2.2.2.2.2.1 rfl I hr hi h
theorem em_52 (M : yr_M A σ) (I : yn_I t A) (hr : r env σ = some (.inl 52, σ)) (hi : i env σ = some (.inl x, σ)) (h : ya_isT A x = true) : sy_iA 0 r i env σ = some (.inl (ya_tg A 9 (-1) x), σ) := em_tg M.1.2.2.2.2.2.2.2.2 rfl I hr hi h
theorem em_53 (M : yr_M A σ) (hr : r env σ = some (.inl 53, σ)) (hi : i env σ = some (.inl x, σ)) (h : 0 ≤ x.toInt ∧ x.toInt < 60) : sy_iA 0 r i env σ = some (.inl (ya_sg A 11 x), σ) := by
  rw [ee_A (kd := 0) hr hi (yi_inb.mpr h), M.2.1.1, ya_sg_in h]
theorem em_54 (M : yr_M A σ) (hr : r env σ = some (.inl 54, σ)) (hi : i env σ = some (.inl x, σ)) (h : yl A x) : sy_iA 0 r i env σ = some (.inl (ya_sg A 12 x), σ) := by
  have h1 := yl_in h
  rw [ee_A (kd := 0) hr hi (yi_inb.mpr h1), ya_sg_in h1, M.2.1.2.1 _ (by rw [yi_clampInt]; omega)]
  unfold yl at h
  rwa [ya_sg_in h1] at h
theorem em_55 {f : Int32} {e : sy_IE} (M : yr_M A σ) (hr : r env σ = some (.inl 55, σ)) (hi : i env σ = some (.inl x, σ)) (he : e env σ = some (.inl f, σ)) (h : 0 ≤ x.toInt ∧ x.toInt < 60) (hf : 0 ≤ f.toInt ∧ f.toInt < 3) : sy_iA 0 r (sy_iAdd (sy_iMul (sy_iK 3) i) e) env σ = some (.inl (ya_N A x f), σ) := by
  have e1 := yl_ix (c := 3) (n := 60) (m := 3) yl_c3 h.1 h.2 (by omega) hf.1 hf.2
  rw [Int32.mul_comm] at e1
  rw [ee_A (kd := 0) hr (ee_B (ee_B ee_K hi) he) e1.2.2, e1.2.1, M.2.1.2.2.1, ya_N_in h hf]
theorem em_550 (M : yr_M A σ) (hr : r env σ = some (.inl 55, σ)) (hi : i env σ = some (.inl x, σ)) (h : 0 ≤ x.toInt ∧ x.toInt < 60) : sy_iA 0 r (sy_iMul (sy_iK 3) i) env σ = some (.inl (ya_N A x 0), σ) := by
  have e1 := yl_ix (c := 3) (y := 0) (n := 60) (m := 3) yl_c3 h.1 h.2 (by omega) (by decide) (by decide)
  rw [Int32.mul_comm, Int32.add_zero] at e1
  rw [ee_A (kd := 0) hr (ee_B ee_K hi) e1.2.2, e1.2.1, M.2.1.2.2.1, ya_N_in h ⟨by decide, by decide⟩]
theorem em_57 (M : yr_M A σ) (hr : r env σ = some (.inl 57, σ)) (hi : i env σ = some (.inl x, σ)) (h : 0 ≤ x.toInt ∧ x.toInt < 3) : sy_iA 0 r i env σ = some (.inl (ya_cnt A x), σ) := by
  rw [ee_A (kd := 0) hr hi (yi_inb.mpr h), M.2.1.2.2.2.1, ya_cnt_in h]
section
variable {v : Nat}
theorem em_v {k : Nat} (hl : sy_len 0 k = 4) (hr : r env σ = some (.inl k, σ)) (hi : i env σ = some (.inl (nI v), σ)) (hv : v < 4) : sy_iA 0 r i env σ = some (.inl (σ k v), σ) := ee_An hr hi (by omega) (by omega)
theorem em_59 (M : yr_M A σ) (hv : v < 4) (hr : r env σ = some (.inl 59, σ)) (hi : i env σ = some (.inl (nI v), σ)) : sy_iA 0 r i env σ = some (.inl (A (sy_vw v) 0), σ) := by
  rw [em_v rfl hr hi hv, (M.2.2.1 v hv).1]
theorem em_60 (M : yr_M A σ) (hv : v < 4) (hr : r env σ = some (.inl 60, σ)) (hi : i env σ = some (.inl (nI v), σ)) : sy_iA 0 r i env σ = some (.inl (A (sy_vw v) 1), σ) := by
  rw [em_v rfl hr hi hv, (M.2.2.1 v hv).2.1]
theorem em_61 (M : yr_M A σ) (hv : v < 4) (hr : r env σ = some (.inl 61, σ)) (hi : i env σ = some (.inl (nI v), σ)) : sy_iA 0 r i env σ = some (.inl (ya_mode A v), σ) := by
  rw [em_v rfl hr hi hv, (M.2.2.1 v hv).2.2.1]
theorem em_62 (M : yr_M A σ) (hv : v < 4) (hr : r env σ = some (.inl 62, σ)) (hi : i env σ = some (.inl (nI v), σ)) : sy_iA 0 r i env σ = some (.inl (A (sy_vw v) 2), σ) := by
  rw [em_v rfl hr hi hv, (M.2.2.1 v hv).2.2.2.1]
theorem em_63 (M : yr_M A σ) (hv : v < 4) (hr : r env σ = some (.inl 63, σ)) (hi : i env σ = some (.inl (nI v), σ)) : sy_iA 0 r i env σ = some (.inl (A (sy_vw v) 5), σ) := by
  rw [em_v rfl hr hi hv, (M.2.2.1 v hv).2.2.2.2.1]
theorem em_64 (M : yr_M A σ) (hv : v < 4) (hr : r env σ = some (.inl 64, σ)) (hi : i env σ = some (.inl (nI v), σ)) : sy_iA 0 r i env σ = some (.inl (A (sy_vw v) 6), σ) := by
  rw [em_v rfl hr hi hv, (M.2.2.1 v hv).2.2.2.2.2.1]
theorem em_65 {e : sy_IE} {j : Nat} (M : yr_M A σ) (I : yn_I t A) (hv : v < 4) (hr : r env σ = some (.inl 65, σ)) (hi : i env σ = some (.inl (nI v), σ)) (he : e env σ = some (.inl (nI j), σ)) (h : (j : Int) < (A (sy_vw v) 6).toInt) : sy_iA 0 r (sy_iAdd (sy_iMul (sy_iK 4) i) e) env σ = some (.inl (A (sy_vw v + 1) j), σ) := by
  have h4 := (I.2.2.2.2.2.1 v hv).2.2.2.2.2.2.1.2
  have e1 := yl_ix (x := nI v) (y := nI j) (c := 4) (n := 4) (m := 4) yl_c4 (by rw [nI_toInt (by omega)]; omega) (by rw [nI_toInt (by omega)]; omega) (by omega) (by rw [nI_toInt (by omega)]; omega) (by rw [nI_toInt (by omega)]; omega)
  rw [Int32.mul_comm, nI_clamp (by omega), nI_clamp (by omega)] at e1
  rw [ee_A (kd := 0) hr (ee_B (ee_B ee_K hi) he) e1.2.2, e1.2.1, ((M.2.2.1 v hv).2.2.2.2.2.2 j h).1]
theorem em_66 {e : sy_IE} {j : Nat} (M : yr_M A σ) (I : yn_I t A) (hv : v < 4) (hr : r env σ = some (.inl 66, σ)) (hi : i env σ = some (.inl (nI v), σ)) (he : e env σ = some (.inl (nI j), σ)) (h : (j : Int) < (A (sy_vw v) 6).toInt) : sy_iA 0 r (sy_iAdd (sy_iMul (sy_iK 4) i) e) env σ = some (.inl (A (sy_vw v + 2) j), σ) := by
  have h4 := (I.2.2.2.2.2.1 v hv).2.2.2.2.2.2.1.2
  have e1 := yl_ix (x := nI v) (y := nI j) (c := 4) (n := 4) (m := 4) yl_c4 (by rw [nI_toInt (by omega)]; omega) (by rw [nI_toInt (by omega)]; omega) (by omega) (by rw [nI_toInt (by omega)]; omega) (by rw [nI_toInt (by omega)]; omega)
  rw [Int32.mul_comm, nI_clamp (by omega), nI_clamp (by omega)] at e1
  rw [ee_A (kd := 0) hr (ee_B (ee_B ee_K hi) he) e1.2.2, e1.2.1, ((M.2.2.1 v hv).2.2.2.2.2.2 j h).2]
end
theorem yl_An {j : Nat} (hj : (j : Int) < (A 19 0).toInt) (h4 : (A 19 0).toInt ≤ 4) : ya_isA A (nI j) = true := by
  rw [yl_isA, nI_toInt (by omega)]
  omega
theorem em_67 {j : Nat} (M : yr_M A σ) (I : yn_I t A) (hr : r env σ = some (.inl 67, σ)) (hi : i env σ = some (.inl (nI j), σ)) (h : (j : Int) < (A 19 0).toInt) : sy_iA 0 r i env σ = some (.inl (ya_ag A 20 (-1) (nI j)), σ) := by
  have h4 := I.2.2.2.2.2.2.1.2
  rw [ee_An (kd := 0) hr hi (show j < 4 by omega) (by decide), M.2.2.2.2.1, ya_ag_in (yl_An h h4), nI_clamp (by omega)]
theorem em_68 {j : Nat} (M : yr_M A σ) (I : yn_I t A) (hr : r env σ = some (.inl 68, σ)) (hi : i env σ = some (.inl (nI j), σ)) (h : (j : Int) < (A 19 0).toInt) : sy_iA 0 r i env σ = some (.inl (ya_ag A 21 0 (nI j)), σ) := by
  have h4 := I.2.2.2.2.2.2.1.2
  rw [ee_An (kd := 0) hr hi (show j < 4 by omega) (by decide), M.2.2.2.2.2.1, ya_ag_in (yl_An h h4), nI_clamp (by omega)]
theorem em_69 {j : Nat} (M : yr_M A σ) (I : yn_I t A) (hr : r env σ = some (.inl 69, σ)) (hi : i env σ = some (.inl (nI j), σ)) (h : (j : Int) < (A 19 0).toInt) : sy_iA 0 r i env σ = some (.inl (ya_ag A 22 0 (nI j)), σ) := by
  have h4 := I.2.2.2.2.2.2.1.2
  rw [ee_An (kd := 0) hr hi (show j < 4 by omega) (by decide), M.2.2.2.2.2.2.1, ya_ag_in (yl_An h h4), nI_clamp (by omega)]
theorem em_74 {f : Int32} {e : sy_IE} (M : yr_M A σ) (hr : r env σ = some (.inl 74, σ)) (hi : i env σ = some (.inl x, σ)) (he : e env σ = some (.inl f, σ)) (h : 0 ≤ x.toInt ∧ x.toInt < 4) (hf : 0 ≤ f.toInt ∧ f.toInt < 3) : sy_iA 0 r (sy_iAdd (sy_iMul (sy_iK 3) i) e) env σ = some (.inl (ya_slot A x f), σ) := by
  have e1 := yl_ix (c := 3) (n := 4) (m := 3) yl_c3 h.1 h.2 (by omega) hf.1 hf.2
  rw [Int32.mul_comm] at e1
  rw [ee_A (kd := 0) hr (ee_B (ee_B ee_K hi) he) e1.2.2, e1.2.1, M.2.2.2.2.2.2.2.2.2.2.2, ya_slot_in h hf]
theorem em_740 (M : yr_M A σ) (hr : r env σ = some (.inl 74, σ)) (hi : i env σ = some (.inl x, σ)) (h : 0 ≤ x.toInt ∧ x.toInt < 4) : sy_iA 0 r (sy_iMul (sy_iK 3) i) env σ = some (.inl (ya_slot A x 0), σ) := by
  have e1 := yl_ix (c := 3) (y := 0) (n := 4) (m := 3) yl_c3 h.1 h.2 (by omega) (by decide) (by decide)
  rw [Int32.mul_comm, Int32.add_zero] at e1
  rw [ee_A (kd := 0) hr (ee_B ee_K hi) e1.2.2, e1.2.1, M.2.2.2.2.2.2.2.2.2.2.2, ya_slot_in h ⟨by decide, by decide⟩]
theorem em_F0 (M : yr_M A σ) (hr : r env σ = some (.inl 44, σ)) : sy_iF 6 0 r env σ = some (.inl (A 1 0), σ) := by rw [ee_F hr rfl, M.1.1]
theorem em_F24 (M : yr_M A σ) (hr : r env σ = some (.inl 44, σ)) : sy_iF 6 24 r env σ = some (.inl (A 19 0), σ) := by rw [ee_F hr rfl, M.2.2.2.1]
-- small methods
theorem ym_in (σ : sy_Mem) (x l h : Int32) : sf_X6_in [.int x, .int l, .int h] σ = some (.inl (some (.int (ya_b (decide (l ≤ x) && decide (x ≤ h))))), σ) := by
  refine ee_meth ?_ rfl
  unfold sm_X6_in
  exact es_eZb (ee_iC (ee_cA (ee_cB (ee_L rfl) (ee_L rfl)) (fun _ => ee_cB (ee_L rfl) (ee_L rfl))))
theorem yl_le1 {x : Int32} {n m : Int32} (h : m.toInt = n.toInt + 1) : decide (x ≤ n) = decide (x < m) := by
  rw [decide_eq_decide, Int32.le_iff_toInt_le, Int32.lt_iff_toInt_lt]
  omega
theorem ym_isDatabase (σ : sy_Mem) (x : Int32) : sf_X6_isDatabase [.int x] σ = some (.inl (some (.int (ya_b (decide (0 ≤ x) && decide (x < 3))))), σ) := by
  rw [← yl_le1 (n := 2) rfl]
  refine ee_meth ?_ rfl
  unfold sm_X6_isDatabase
  exact es_eZb (ee_M (ee_aI (ee_L rfl) (ee_aI ee_K (ee_aI ee_K ee_aN))) (ee_cs (ym_in σ x 0 2) rfl))
theorem ym_isView (σ : sy_Mem) (x : Int32) : sf_X6_isView [.int x] σ = some (.inl (some (.int (ya_b (decide (0 ≤ x) && decide (x < 4))))), σ) := by
  rw [← yl_le1 (n := 3) rfl]
  refine ee_meth ?_ rfl
  unfold sm_X6_isView
  exact es_eZb (ee_M (ee_aI (ee_L rfl) (ee_aI ee_K (ee_aI ee_K ee_aN))) (ee_cs (ym_in σ x 0 3) rfl))
theorem ym_isNumber (σ : sy_Mem) (x : Int32) : sf_X6_isNumber [.int x] σ = some (.inl (some (.int (ya_b (decide (0 ≤ x) && decide (x < 1000))))), σ) := by
  rw [← yl_le1 (n := 999) rfl]
  refine ee_meth ?_ rfl
  unfold sm_X6_isNumber
  exact es_eZb (ee_M (ee_aI (ee_L rfl) (ee_aI ee_K (ee_aI ee_K ee_aN))) (ee_cs (ym_in σ x 0 999) rfl))
theorem ym_isSlot (σ : sy_Mem) (x y : Int32) : sf_X6_isSlot [.int x, .int y] σ = some (.inl (some (.int (ya_b ((decide (0 ≤ x) && decide (x < 4)) && (decide (0 ≤ y) && decide (y < 3)))))), σ) := by
  rw [← yl_le1 (n := 3) rfl, ← yl_le1 (n := 2) rfl]
  refine ee_meth ?_ rfl
  unfold sm_X6_isSlot
  exact es_eZb (ee_iC (ee_cA (ee_cb (ee_M (ee_aI (ee_L rfl) (ee_aI ee_K (ee_aI ee_K ee_aN))) (ee_cs (ym_in σ x 0 3) rfl))) (fun _ => ee_cb (ee_M (ee_aI (ee_L rfl) (ee_aI ee_K (ee_aI ee_K ee_aN))) (ee_cs (ym_in σ y 0 2) rfl)))))
theorem ym_isType (M : yr_M A σ) (I : yn_I t A) (x : Int32) : sf_X6_isType [.ref 44, .int x] σ = some (.inl (some (.int (ya_b (ya_isT A x)))), σ) := by
  have h1 := I.1.1
  have e : ya_isT A x = (decide (0 ≤ x) && decide (x ≤ A 1 0 - 1)) := by
    unfold ya_isT
    rw [yl_le1 (n := A 1 0 - 1) (m := A 1 0)]
    rw [yl_sub (x := A 1 0) (y := 1) (by omega) (by omega) (by decide) (by decide)]
    show _ = (A 1 0).toInt - 1 + 1
    omega
  rw [e]
  refine ee_meth ?_ rfl
  unfold sm_X6_isType
  exact es_eZb (ee_M (ee_aI (ee_L rfl) (ee_aI ee_K (ee_aI (ee_B (em_F0 M (ee_R rfl)) ee_K) ee_aN))) (ee_cs (ym_in σ x 0 _) rfl))
def ya_thr (a b c : Bool) : Int32 := if a then (if b then (if c then 0 else 3) else 2) else 1
theorem ym_goes (σ : sy_Mem) (a b c : Bool) : sf_X6_goes [.ref 44, .int (ya_b a), .int (ya_b b), .int (ya_b c)] σ = some (.inl (some (.int (ya_b ((a && b) && c)))), sy_up σ 44 36 (ya_thr a b c)) := by
  cases a <;> cases b <;> cases c <;> rfl
theorem ym_segmentAt (M : yr_M A σ) (I : yn_I t A) (d p : Int32) (hd : 0 ≤ d.toInt ∧ d.toInt < 3) (hp : 0 ≤ p.toInt ∧ p.toInt < (ya_cnt A d).toInt) : sf_X6_segmentAt [.ref 44, .int d, .int p] σ = some (.inl (some (.int (ya_at A d p))), σ) := by
  have h60 : (ya_cnt A d).toInt ≤ 60 := by
    rw [ya_cnt_in hd]
    exact (I.2.2.1.1 _ (by rw [yi_clampInt]; omega)).2
  refine ee_meth ?_ rfl
  unfold sm_X6_segmentAt
  have e1 := yl_ix (c := 60) (n := 3) (m := 60) yl_c60 hd.1 hd.2 (by omega) hp.1 (by omega)
  rw [Int32.mul_comm] at e1
  refine es_eI ((ee_A (ee_rF (ee_R rfl) rfl) (ee_B (ee_B ee_K (ee_L rfl)) (ee_L rfl)) e1.2.2).trans ?_)
  rw [e1.2.1, ya_at_in hd hp h60, M.2.1.2.2.2.2]
theorem ym_key (M : yr_M A σ) (s : Int32) (h : 0 ≤ s.toInt ∧ s.toInt < 60) : sf_X6_key [.ref 44, .int s] σ = some (.inl (some (.int (ya_N A s 0))), σ) := by
  refine ee_meth ?_ rfl
  unfold sm_X6_key
  exact es_eI (em_550 M (ee_rF (ee_R rfl) rfl) (ee_L rfl) h)
theorem ym_compares (σ : sy_Mem) (x c y : Int32) : sf_X6_compares [.int x, .int c, .int y] σ = some (.inl (some (.int (ya_b (ya_met c x y)))), σ) := by
  refine ee_meth ?_ rfl
  unfold sm_X6_compares ya_met
  refine es_X (ee_L rfl) ?_
  by_cases h0 : c = 0
  · rw [if_pos h0, if_pos h0]; exact es_eZb (ee_iC (ee_cB (ee_L rfl) (ee_L rfl)))
  rw [if_neg h0, if_neg h0]
  by_cases h1 : c = 1
  · rw [if_pos h1, if_pos h1]; exact es_eZb (ee_iC (ee_cB (ee_L rfl) (ee_L rfl)))
  rw [if_neg h1, if_neg h1]
  by_cases h2 : c = 2
  · rw [if_pos h2, if_pos h2]; exact es_eZb (ee_iC (ee_cB (ee_L rfl) (ee_L rfl)))
  rw [if_neg h2, if_neg h2]
  by_cases h3 : c = 3
  · rw [if_pos h3, if_pos h3]; exact es_eZb (ee_iC (ee_cB (ee_L rfl) (ee_L rfl)))
  rw [if_neg h3, if_neg h3]
  by_cases h4 : c = 4
  · rw [if_pos h4, if_pos h4]; exact es_eZb (ee_iC (ee_cB (ee_L rfl) (ee_L rfl)))
  rw [if_neg h4, if_neg h4]
  exact es_eZb (ee_iC (ee_cB (ee_L rfl) (ee_L rfl)))
theorem ym_hasCode (M : yr_M A σ) (I : yn_I t A) {j : Nat} (hj : (j : Int) < (A 19 0).toInt) (c : Int32) : sf_X6_hasCode [.ref 44, .int (nI j), .int c] σ = some (.inl (some (.int (ya_b (ya_code A (nI j) c)))), σ) := by
  have e : ya_code A (nI j) c = !decide (ya_ag A 21 0 (nI j) &&& c = 0) := by
    unfold ya_code
    rw [yl_An hj I.2.2.2.2.2.2.1.2, Bool.true_and]
  rw [e]
  refine ee_meth ?_ rfl
  unfold sm_X6_hasCode
  exact es_eZb (ee_iC (ee_cB (ee_B (em_68 M I (ee_rF (ee_R rfl) rfl) (ee_L rfl) hj) (ee_L rfl)) ee_K))
theorem ym_areTwins (M : yr_M A σ) (s o : Int32) (hs : yl A s) (ho : yl A o) : sf_X6_areTwins [.ref 44, .int s, .int o] σ = some (.inl (some (.int (ya_b (decide (yT A s = yT A o) && decide (yP A s = yP A o))))), σ) := by
  refine ee_meth ?_ rfl
  unfold sm_X6_areTwins
  exact es_eZb (ee_iC (ee_cA (ee_cB (em_53 M (ee_rF (ee_R rfl) rfl) (ee_L rfl) (yl_in hs)) (em_53 M (ee_rF (ee_R rfl) rfl) (ee_L rfl) (yl_in ho))) (fun _ => ee_cB (em_54 M (ee_rF (ee_R rfl) rfl) (ee_L rfl) hs) (em_54 M (ee_rF (ee_R rfl) rfl) (ee_L rfl) ho))))
-- the model's walks
theorem ym_among (M : yr_M A σ) (I : yn_I t A) (s u : Int32) (hs : s = -1 ∨ yl A s) : sf_X6_among [.ref 44, .int s, .int u] σ = some (.inl (some (.int (ya_X3_upward A s u))), σ) := by
  refine ee_meth ?_ rfl
  unfold sm_X6_among ya_X3_upward
  refine es_Q (es_SI (ee_L rfl) (es_Q ?_))
  refine (es_climb (E := fun x => [.ref 44, .int s, .int u, .int x]) (nx := fun x => yP A x) (Q := fun x => decide (yT A x = u)) (G := yl A) (yk_GP I.1 I.2.1) (fun x hx => ?_) (fun x hx _ k' => ?_) 4 1000 s hs ?_ (by decide)).trans (es_eI (k := fun _ => sy_fail) (ee_L rfl))
  · rcases hx with rfl | hx
    · exact (ee_cA (x := false) (y := true) ((ee_cB (ee_L rfl) ee_K).trans (by rfl)) (fun h => absurd h (by decide))).trans (by rfl)
    · exact (ee_cA (ee_cB (ee_L rfl) ee_K) (fun _ => ee_cB (em_53 M (ee_rF (ee_R rfl) rfl) (ee_L rfl) (yl_in hx)) (ee_L rfl)))
  · exact es_SI (em_54 M (ee_rF (ee_R rfl) rfl) (ee_L rfl) hx) rfl
  · rcases hs with rfl | hs
    · exact yk_dp_le (n := 0) rfl (by omega)
    · exact yk_dp4 I.1 I.2.1 hs
def ya_under (A : sy_Mem) (s o : Int32) : Bool := decide (s = o) || ya_X3_isBelow A s o
theorem yk_under {s o : Int32} (I : yn_I t A) (hs : yl A s) (ho : o ≠ -1) : decide ((ya_walk (fun x => yP A x) (fun x => decide (x = o)) 4 s).elim (-1) (fun y => y) = o) = ya_under A s o := by
  unfold ya_under ya_X3_isBelow
  rw [yk_elimB]
  have h := yk_below (o := o) (yl_ne hs) (yk_dp4 I.1 I.2.1 hs)
  rw [← h]
  cases hw : ya_walk (fun x => yP A x) (fun x => decide (x = o)) 4 s with
  | none =>
    exact decide_eq_false (fun e => ho e.symm)
  | some y =>
    exact decide_eq_true (by simpa using (yk_walk_Q hw).1)
theorem ym_isUnder (M : yr_M A σ) (I : yn_I t A) (s o : Int32) (hs : yl A s) (ho : o ≠ -1) : sf_X6_isUnder [.ref 44, .int s, .int o] σ = some (.inl (some (.int (ya_b (ya_under A s o)))), σ) := by
  rw [← yk_under I hs ho]
  refine ee_meth ?_ rfl
  unfold sm_X6_isUnder
  refine es_Q (es_SI (ee_L rfl) (es_Q ?_))
  refine (es_climb (E := fun x => [.ref 44, .int s, .int o, .int x]) (nx := fun x => yP A x) (Q := fun x => decide (x = o)) (G := yl A) (yk_GP I.1 I.2.1) (fun x hx => ?_) (fun x hx _ k' => ?_) 4 1000 s (Or.inr hs) (yk_dp4 I.1 I.2.1 hs) (by decide)).trans (es_eZb (k := fun _ => sy_fail) (ee_iC (ee_cB (ee_L rfl) (ee_L rfl))))
  · exact (ee_cA (ee_cB (ee_L rfl) ee_K) (fun _ => ee_cB (ee_L rfl) (ee_L rfl)))
  · exact es_SI (em_54 M (ee_rF (ee_R rfl) rfl) (ee_L rfl) hx) rfl
theorem ym_isBelow (M : yr_M A σ) (I : yn_I t A) (u o : Int32) (hu : ya_isT A u = true) (ho : o ≠ -1) : sf_X6_isBelow [.ref 44, .int u, .int o] σ = some (.inl (some (.int (ya_b (ya_X2_isBelow A u o)))), σ) := by
  refine ee_meth ?_ rfl
  unfold sm_X6_isBelow ya_X2_isBelow
  have hp := yk_GT I.1 u hu
  refine es_Q (es_SI (em_46 M I (ee_rF (ee_R rfl) rfl) (ee_L rfl) hu) (es_Q ?_))
  refine (es_climb (E := fun x => [.ref 44, .int u, .int o, .int x]) (nx := fun x => tP A x) (Q := fun x => decide (x = o)) (G := fun x => ya_isT A x = true) (yk_GT I.1) (fun x hx => ?_) (fun x hx _ k' => ?_) 4 1000 (tP A u) hp ?_ (by decide)).trans ((es_eZb (k := fun _ => sy_fail) (ee_iC (ee_cA (ee_cB (ee_L rfl) (ee_L rfl)) (fun _ => ee_cB (ee_L rfl) ee_K)))).trans ?_)
  · exact (ee_cA (ee_cB (ee_L rfl) ee_K) (fun _ => ee_cB (ee_L rfl) (ee_L rfl)))
  · exact es_SI (em_46 M I (ee_rF (ee_R rfl) rfl) (ee_L rfl) hx) rfl
  · rcases hp with e | hp
    · rw [e]; exact yk_dp_le (n := 0) rfl (by omega)
    · exact yk_dpT4 I.1 hp
  · rw [yk_elimB]
    have e : ∀ w : Option Int32, ya_walk (fun x => tP A x) (fun x => decide (x = o)) 4 (tP A u) = w → (decide (w.elim (-1) (fun y => y) = o) && !decide (w.elim (-1) (fun y => y) = -1)) = w.isSome := fun w hw => by
      cases w with
      | none => simp
      | some y =>
        obtain ⟨h1, h2⟩ := yk_walk_Q hw
        simp only [decide_eq_true_eq] at h1
        simp [h1, ho]
    rw [e _ rfl]
end YM
