/-! the memory behind a delete, read -/
section YDm
variable {X Z : sy_Mem} {t : Nat} {D : Nat → Bool}
/-- what is asked of the marks -/
def yd_ok (X : sy_Mem) (D : Nat → Bool) : Prop := ∀ s, yl X s → yP X s ≠ -1 → ya_dmd D (yP X s) = true → ya_dmd D s = true
theorem ya_del_ne {k : Nat} (h : k < 10 ∨ k = 13 ∨ k = 14 ∨ 18 < k) : ya_del X D k = X k := by
  unfold ya_del
  rw [yd_ne (by omega), ya_kl_ne (by omega) (by omega) (by omega)]
  exact m4_ne (by omega) (by omega) (by omega) (by omega)
theorem ya_del_15 : ya_del X D 15 = ya_rr (X 15) (X 16) D 3 := by
  unfold ya_del
  rw [yd_ne (by decide), ya_kl_ne (by decide) (by decide) (by decide)]
  rfl
theorem ya_del_16 : ya_del X D 16 = ya_rc (X 15) (X 16) D 3 := by
  unfold ya_del
  rw [yd_ne (by decide), ya_kl_ne (by decide) (by decide) (by decide)]
  rfl
theorem ya_del_10 : ya_del X D 10 9 = ya_rt X D 3 := by
  unfold ya_del
  rw [yd_ne (by decide), ya_kl_ne (by decide) (by decide) (by decide)]
  show upd (X 10) 9 (ya_rt X D 3) 9 = _
  exact upd_at
theorem ya_del_11 : ya_del X D 11 = ya_rw (fun j => if D j = true then -1 else X 11 j) (X 11) 60 := by
  unfold ya_del ya_kl
  rw [yd_ne (by decide), yd_ne (by decide), yd_ne (by decide), yd_at]
  rfl
theorem ya_del_12 : ya_del X D 12 = ya_rw (fun j => if D j = true then -1 else X 12 j) (X 12) 60 := by
  unfold ya_del ya_kl
  rw [yd_ne (by decide), yd_ne (by decide), yd_at]
  rfl
theorem ya_del_17 : ya_del X D 17 = ya_rw (fun j => if D j = true then -1 else ya_rp X D 3 j) (ya_rp X D 3) 60 := by
  unfold ya_del ya_kl
  rw [yd_ne (by decide), yd_at]
  rfl
theorem yd_sg {B : sy_Mem} {f : Nat → Int32} {k : Nat} (h : B k = ya_rw (fun j => if D j = true then -1 else f j) f 60) (s : Int32) : ya_sg B k s = if ya_dmd D s = true then -1 else if (decide (0 ≤ s) && decide (s < 60)) = true then f s.toNatClampNeg else -1 := by
  unfold ya_sg ya_dmd
  cases hc : (decide (0 ≤ s) && decide (s < 60)) with
  | false => rfl
  | true =>
    have := yl_isS.mp hc
    rw [if_pos rfl, h, ya_rw_lt (by rw [yi_clampInt]; omega), Bool.true_and, if_pos rfl]
theorem yd_T (s : Int32) : yT (ya_del X D) s = if ya_dmd D s = true then -1 else yT X s := yd_sg ya_del_11 s
theorem yd_P (s : Int32) : yP (ya_del X D) s = if ya_dmd D s = true then -1 else yP X s := yd_sg ya_del_12 s
theorem yd_l (s : Int32) : yl (ya_del X D) s ↔ (yl X s ∧ ya_dmd D s = false) := by
  show yT (ya_del X D) s ≠ -1 ↔ _
  rw [yd_T]
  cases h : ya_dmd D s with
  | false => exact ⟨fun q => ⟨q, rfl⟩, fun q => q.1⟩
  | true => exact ⟨fun q => absurd rfl q, fun q => by cases q.2⟩
theorem yd_To {s : Int32} (h : yl (ya_del X D) s) : yT (ya_del X D) s = yT X s := by rw [yd_T, ((yd_l s).mp h).2]; rfl
theorem yd_Po {s : Int32} (h : yl (ya_del X D) s) : yP (ya_del X D) s = yP X s := by rw [yd_P, ((yd_l s).mp h).2]; rfl
theorem yd_isT (u : Int32) : ya_isT (ya_del X D) u = ya_isT X u := ya_isT_c (ya_del_ne (by decide)) u
theorem yd_tg {k : Nat} (hk : k < 10) (d u : Int32) : ya_tg (ya_del X D) k d u = ya_tg X k d u := ya_tg_c (ya_del_ne (by decide)) (ya_del_ne (Or.inl hk)) d u
theorem yd_Do {s : Int32} (h : yl (ya_del X D) s) : sD (ya_del X D) s = sD X s := by
  show ya_tg _ 2 (-1) (yT (ya_del X D) s) = ya_tg X 2 (-1) (yT X s)
  rw [yd_To h, yd_tg (by decide)]
theorem yd_N (s f : Int32) : ya_N (ya_del X D) s f = ya_N X s f := by
  unfold ya_N
  rw [ya_del_ne (by decide)]
/-- the place of a spared one -/
def ya_np (X : sy_Mem) (D : Nat → Bool) (s : Int32) : Nat := ya_cw (ya_sp (X 15) D (sD X s).toNatClampNeg) (yL X s).toNatClampNeg
theorem yd_row (I : yn_I t X) {s : Int32} (hs : yl X s) (hd : ya_dmd D s = false) : (sD X s).toNatClampNeg < 3 ∧ sD X s = nI (sD X s).toNatClampNeg ∧ (yL X s).toNatClampNeg < (X 16 (sD X s).toNatClampNeg).toNatClampNeg ∧ X 15 (60 * (sD X s).toNatClampNeg + (yL X s).toNatClampNeg) = s ∧ ya_sp (X 15) D (sD X s).toNatClampNeg (yL X s).toNatClampNeg = true := by
  have hD := yl_sD I.1 I.2.1 hs
  have hc := yg_cnt I hD
  have hp := yg_pl I hs
  have hd3 : (sD X s).toNatClampNeg < 3 := by rw [yi_clampInt]; omega
  have hat := (I.2.2.1.2.2.1 s hs).2.2
  rw [ya_at_in hD ⟨hp.1, hp.2.2⟩ hc.2] at hat
  refine ⟨hd3, yi_nat (yi_pos.mpr hD.1), ?_, hat, ?_⟩
  · have := hp.2.2
    rw [ya_cnt_in hD] at this
    rw [yi_clampInt, yi_clampInt (X 16 _)]
    omega
  · unfold ya_sp
    rw [hat, ← ya_dmd_in (D := D) (yl_in hs), hd]
    rfl
theorem yd_cnt (I : yn_I t X) {K d : Nat} (hd : d < K) (hK : K ≤ 3) (h16 : Z 16 = ya_rc (X 15) (X 16) D K) : ya_cnt Z (nI d) = nI (ya_nc X D d) ∧ ya_nc X D d ≤ 60 := by
  have hm := yg_m I
  refine ⟨?_, ?_⟩
  · rw [ya_cnt_n (by omega), h16]
    exact yp_rcat hm hd hK
  · have h1 := yp_le (P := ya_sp (X 15) D d) (X 16 d).toNatClampNeg
    have h2 := hm d (by omega)
    unfold ya_nc
    omega
theorem yd_atZ (I : yn_I t X) {K d i : Nat} (hd : d < K) (hK : K ≤ 3) (h15 : Z 15 = ya_rr (X 15) (X 16) D K) (h16 : Z 16 = ya_rc (X 15) (X 16) D K) (hi : i < (X 16 d).toNatClampNeg) (hs : ya_sp (X 15) D d i = true) : ya_cw (ya_sp (X 15) D d) i < ya_nc X D d ∧ ya_at Z (nI d) (nI (ya_cw (ya_sp (X 15) D d) i)) = X 15 (60 * d + i) := by
  have hm := yg_m I
  obtain ⟨hc, h60⟩ := yd_cnt I hd hK h16
  have hlt : ya_cw (ya_sp (X 15) D d) i < ya_nc X D d := yp_lt hs hi
  refine ⟨hlt, ?_⟩
  rw [ya_at_in (by rw [nI_toInt (by omega)]; omega) (by rw [hc, nI_toInt (by omega), nI_toInt (by omega)]; omega) (by rw [hc, nI_toInt (by omega)]; omega), nI_clamp (by omega), nI_clamp (by omega), h15]
  exact yp_rrat hm hi hs hd hK
/-- what stands at a place of the new row -/
theorem yd_atS (I : yn_I t X) {K d j : Nat} (hd : d < K) (hK : K ≤ 3) (h15 : Z 15 = ya_rr (X 15) (X 16) D K) (h16 : Z 16 = ya_rc (X 15) (X 16) D K) (hj : j < ya_nc X D d) : ∃ i, i < (X 16 d).toNatClampNeg ∧ ya_sp (X 15) D d i = true ∧ ya_cw (ya_sp (X 15) D d) i = j ∧ ya_at Z (nI d) (nI j) = X 15 (60 * d + i) := by
  obtain ⟨i, h1, h2, h3⟩ := yp_sur hj
  refine ⟨i, h1, h2, h3, ?_⟩
  rw [← h3]
  exact (yd_atZ I hd hK h15 h16 h1 h2).2
theorem yd_rp (I : yn_I t X) : ∀ (K : Nat), K ≤ 3 → ∀ s, yl X s → ya_dmd D s = false → (sD X s).toNatClampNeg < K → ya_rp X D K s.toNatClampNeg = nI (ya_np X D s)
  | 0, _, s, _, _, h => absurd h (by omega)
  | K + 1, hK, s, hs, hd, h => by
    obtain ⟨r1, r2, r3, r4, r5⟩ := yd_row I hs hd
    have hin := yl_in hs
    have hs60 : s.toNatClampNeg < 60 := by rw [yi_clampInt]; omega
    have hsn : nI s.toNatClampNeg = s := (yi_nat (yi_pos.mpr hin.1)).symm
    unfold ya_rp
    rcases Nat.lt_or_ge (sD X s).toNatClampNeg K with q | q
    · rw [ya_pls_miss _ (fun j hj => ?_)]
      · exact yd_rp I K (by omega) s hs hd q
      · obtain ⟨i, h1, h2, h3, h4⟩ := yd_atS (Z := ya_m4 X (ya_rr (X 15) (X 16) D (K + 1)) (ya_rc (X 15) (X 16) D (K + 1)) (ya_rp X D K) (X 10)) I (show K < K + 1 by omega) hK rfl rfl hj
        rw [h4, hsn]
        intro e
        have := (yg_row I (by omega) h1).2.1
        rw [e] at this
        rw [this, nI_clamp (by omega)] at q
        omega
    · have e : (sD X s).toNatClampNeg = K := by omega
      rw [e] at r3 r4 r5
      have hz := yd_atZ (Z := ya_m4 X (ya_rr (X 15) (X 16) D (K + 1)) (ya_rc (X 15) (X 16) D (K + 1)) (ya_rp X D K) (X 10)) I (show K < K + 1 by omega) hK rfl rfl r3 r5
      have enp : ya_np X D s = ya_cw (ya_sp (X 15) D K) (yL X s).toNatClampNeg := by unfold ya_np; rw [e]
      rw [enp]
      refine ya_pls_hit hs60 _ hz.1 (by rw [hz.2, r4, hsn]) (fun j hj hat => ?_)
      obtain ⟨i, h1, h2, h3, h4⟩ := yd_atS (Z := ya_m4 X (ya_rr (X 15) (X 16) D (K + 1)) (ya_rc (X 15) (X 16) D (K + 1)) (ya_rp X D K) (X 10)) I (show K < K + 1 by omega) hK rfl rfl hj
      rw [hat, hsn] at h4
      have := (yg_row I (by omega) h1).2.2
      rw [← h4] at this
      rw [← h3, this, nI_clamp (by have := yg_m I K (by omega); omega)]
theorem yd_L (I : yn_I t X) {s : Int32} (h : yl (ya_del X D) s) : yL (ya_del X D) s = nI (ya_np X D s) ∧ ya_np X D s < ya_nc X D (sD X s).toNatClampNeg ∧ ya_np X D s < 60 := by
  obtain ⟨hs, hd⟩ := (yd_l s).mp h
  obtain ⟨r1, r2, r3, r4, r5⟩ := yd_row I hs hd
  have hin := yl_in hs
  have h1 : ya_np X D s < ya_nc X D (sD X s).toNatClampNeg := yp_lt r5 r3
  have h2 := (yd_cnt (Z := ya_del X D) I r1 (Nat.le_refl _) ya_del_16).2
  refine ⟨?_, h1, by omega⟩
  show ya_sg (ya_del X D) 17 s = _
  rw [yd_sg ya_del_17, hd, if_neg (by decide), if_pos (yl_isS.mpr hin)]
  exact yd_rp I 3 (Nat.le_refl _) s hs hd r1
theorem yd_Llt (I : yn_I t X) {s r : Int32} (hs : yl (ya_del X D) s) (hr : yl (ya_del X D) r) (hD : sD X s = sD X r) : (yL (ya_del X D) s).toInt < (yL (ya_del X D) r).toInt ↔ (yL X s).toInt < (yL X r).toInt := by
  obtain ⟨a1, _, a3⟩ := yd_L I hs
  obtain ⟨b1, _, b3⟩ := yd_L I hr
  obtain ⟨hs', hds⟩ := (yd_l s).mp hs
  obtain ⟨hr', hdr⟩ := (yd_l r).mp hr
  obtain ⟨_, _, _, _, s5⟩ := yd_row I hs' hds
  obtain ⟨_, _, _, _, r5⟩ := yd_row I hr' hdr
  have ps := yg_pl I hs'
  have pr := yg_pl I hr'
  rw [a1, b1, nI_toInt (by omega), nI_toInt (by omega)]
  have e : ya_np X D s < ya_np X D r ↔ (yL X s).toNatClampNeg < (yL X r).toNatClampNeg := by
    unfold ya_np
    rw [hD] at s5 ⊢
    exact yp_lti s5 r5
  rw [yi_clampInt, yi_clampInt] at e
  omega
theorem yd_Lle (I : yn_I t X) {s r : Int32} (hs : yl (ya_del X D) s) (hr : yl (ya_del X D) r) (hD : sD X s = sD X r) : (yL (ya_del X D) s).toInt ≤ (yL (ya_del X D) r).toInt ↔ (yL X s).toInt ≤ (yL X r).toInt := by
  have := yd_Llt I hr hs hD.symm
  omega
end YDm
