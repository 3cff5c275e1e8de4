section LA54
variable {A B X Xf σ τ : sy_Mem} {t v d0 h0 d p w n : Nat} {x ty key : Int32} {D : Nat → Bool} {tdb : Bool} {pv : Nat → Nat}
theorem del_law (H : DH t d0 h0 x ty key D A) (T : TT A σ) (R : RW A σ) (V : ∀ w, w < 4 → σ 51 w = nI (vn A w) ∧ vn A w < 2 ^ 20 ∧ dvP A w < 3) (hpv : ∀ w, w < 4 → σ 56 w = nI (pv w) ∧ pv w ≤ 60) (h58 : σ 58 55 = 1 ∧ σ 58 56 = 1 ∧ σ 58 57 = 1) (h55 : ∀ d, d < 3 → σ 55 d = 0) (h57 : ∀ w, w < 4 → σ 57 w = 0) :
    SX (sy_sQ LD1 LD2) (eD v d0 h0 ty key 0) σ (fun e τ => e = eD v d0 h0 ty key (ya_b (ya_bnd A D x)) ∧ PIv A D (ya_bnd A D x) pv σ 3 0 τ) := by
  have H0 := H
  obtain ⟨I, ⟨hd0, hh0⟩, hx, hty, hkey, hD⟩ := H
  have hxl : yl A x := by
    rw [hx]
    exact (sg_ok I hd0 hh0).1
  refine sx_Q (del_mark H0 T R) ?_
  rintro e σ9 ⟨rfl, MR, F⟩
  rw [bnC_is I hxl]
  have hk : ∀ k, 48 < k → σ9 k = σ k := fun k hk => F k (by omega)
  obtain ⟨e2, τ, ⟨he, P1, P2, P3, P4, P5⟩, k2⟩ := del_pack (tdb := ya_bnd A D x) (pv := pv) (v := v) H0 (fun w hw => by rw [hk 51 (by omega)]; exact V w hw) (fun w hw => by rw [hk 56 (by omega)]; exact hpv w hw) (by rw [hk 58 (by omega)]; exact h58) MR (fun d hd => by rw [hk 55 (by omega)]; exact h55 d hd) (fun w hw => by rw [hk 57 (by omega)]; exact h57 w hw)
  exact ⟨e2, τ, ⟨he, P1, P2, P3, P4, fun k hk2 => (P5 k hk2).trans (F k (by omega))⟩, k2⟩
theorem cw_c {P Q : Nat → Bool} : ∀ n, (∀ i, i < n → P i = Q i) → ya_cw P n = ya_cw Q n
  | 0, _ => rfl
  | n + 1, h => by
    show ya_cw P n + (if P n = true then 1 else 0) = ya_cw Q n + (if Q n = true then 1 else 0)
    rw [cw_c n (fun i hi => h i (by omega)), h n (by omega)]
theorem cw_split {P : Nat → Bool} : ∀ n, ya_cw (fun i => !P i) n + ya_cw P n = n
  | 0 => rfl
  | n + 1 => by
    have ih := cw_split (P := P) n
    show (ya_cw (fun i => !P i) n + (if (!P n) = true then 1 else 0)) + (ya_cw P n + (if P n = true then 1 else 0)) = n + 1
    cases P n with
    | true =>
      rw [if_neg (by decide), if_pos rfl]
      omega
    | false =>
      rw [if_pos (by decide), if_neg (by decide)]
      omega
theorem cw_cut {P : Nat → Bool} {k : Nat} : ∀ n, k ≤ n → ya_cw (fun i => P i && decide (i < k)) n = ya_cw P k
  | 0, h => by
    rw [show k = 0 by omega]
    rfl
  | n + 1, h => by
    by_cases e : k = n + 1
    · rw [e]
      exact cw_c (n + 1) (fun i hi => by rw [decide_eq_true hi, Bool.and_true])
    · show ya_cw (fun i => P i && decide (i < k)) n + (if (P n && decide (n < k)) = true then 1 else 0) = _
      rw [cw_cut n (by omega), decide_eq_false (by omega), Bool.and_false, if_neg (by decide)]
      rfl
theorem cw_flat {P : Nat → Bool} {a : Nat} : ∀ n, a ≤ n → (∀ i, a ≤ i → i < n → P i = false) → ya_cw P n = ya_cw P a
  | 0, h, _ => by rw [show a = 0 by omega]
  | n + 1, h, hP => by
    by_cases e : a = n + 1
    · rw [e]
    · show ya_cw P n + (if P n = true then 1 else 0) = _
      rw [cw_flat n (by omega) (fun i h1 h2 => hP i h1 (by omega)), hP n (by omega) (by omega), if_neg (by decide)]
      rfl
/-- the base is the same, but for the marks -/
def ns18 (A B : sy_Mem) : Prop := ∀ k, k < 18 → B k = A k
theorem ns_at (h : ns18 A B) (a b : Int32) : ya_at B a b = ya_at A a b := by
  unfold ya_at
  rw [h 15 (by omega), h 16 (by omega)]
theorem ns_cn (h : ns18 A B) (d : Nat) : cn B d = cn A d := by
  show (B 16 d).toInt.toNat = _
  rw [h 16 (by omega)]
theorem ns_cnt (h : ns18 A B) (d : Int32) : ya_cnt B d = ya_cnt A d := by
  unfold ya_cnt
  rw [h 16 (by omega)]
theorem ns_RW (h : ns18 A B) (R : RW A τ) : RW B τ := fun d hd => by
  obtain ⟨r1, r2⟩ := R d hd
  rw [ns_cn h]
  refine ⟨r1, fun p hp => ?_⟩
  have e1 : sg B d p = sg A d p := ns_at h _ _
  rw [r2 p hp, e1]
  unfold sk ya_N
  rw [show yT B (sg A d p) = yT A (sg A d p) from ya_sg_c (h 11 (by omega)) _, h 14 (by omega)]
/-- the spared of a row -/
theorem sp_is (I : yn_I t A) (h : ns18 A Xf) (hd : d < 3) {i : Nat} (hi : i < cn A d) : ya_sp (Xf 15) D d i = !ya_dmd D (sg A d i) ∧ Xf 15 (60 * d + i) = sg A d i ∧ (Xf 16 d).toNatClampNeg = cn A d := by
  obtain ⟨a1, a2, a3⟩ := sg_ok I hd hi
  have h60 := cn_le I hd
  have h0 := I.2.2.1.1 d hd
  have e0 : (Xf 16 d).toNatClampNeg = cn A d := by
    rw [h 16 (by omega), yi_clampInt]
  have hc : cn A d = (A 16 d).toInt.toNat := rfl
  have e1 : Xf 15 (60 * d + i) = sg A d i := by
    rw [h 15 (by omega)]
    have hcn : ya_cnt A (nI d) = nI (cn A d) := (cnt_nI I hd).1
    have := ya_at_in (A := A) (d := nI d) (p := nI i) (by rw [nI_toInt (by omega)]; omega) (by rw [hcn, nI_toInt (by omega), nI_toInt (by omega)]; omega) (by rw [hcn, nI_toInt (by omega)]; omega)
    rw [nI_clamp (by omega), nI_clamp (by omega)] at this
    exact this.symm
  refine ⟨?_, e1, e0⟩
  unfold ya_sp
  rw [e1, ya_dmd_in (yl_in a1)]
theorem sp_cw (I : yn_I t A) (h : ns18 A Xf) (hd : d < 3) {n : Nat} (hn : n ≤ cn A d) : ya_cw (ya_sp (Xf 15) D d) n = ya_cw (fun i => !ya_dmd D (sg A d i)) n := cw_c n (fun i hi => (sp_is I h hd (by omega)).1)
/-- the rows behind a delete -/
theorem del_RW (I : yn_I t A) (If : yn_I t Xf) (h : ns18 A Xf) (P : PIv A D false pv σ 3 0 τ) : RW (ya_del Xf D) τ := by
  obtain ⟨P1, P2, -, -, -⟩ := P
  intro d hd
  have h60 := cn_le I hd
  have hkw : ∀ n, n ≤ cn A d → kwP A D false d n = ya_cw (ya_sp (Xf 15) D d) n := fun n hn => by
    rw [sp_cw I h hd hn]
    exact cw_c n (fun i _ => by unfold kpP; rw [Bool.false_or])
  have hc0 : (Xf 16 d).toNatClampNeg = cn A d := by
    have h0 := I.2.2.1.1 d hd
    rw [h 16 (by omega), yi_clampInt]
  have hnc : ya_nc Xf D d = kwP A D false d (cn A d) := by
    unfold ya_nc
    rw [hc0, hkw _ (Nat.le_refl _)]
  obtain ⟨c1, c2⟩ := yd_cnt (Z := ya_del Xf D) (D := D) If (K := 3) hd (by omega) ya_del_16
  have ecn : cn (ya_del Xf D) d = ya_nc Xf D d := by
    have := ya_cnt_n (Z := ya_del Xf D) hd
    rw [c1] at this
    show (ya_del Xf D 16 d).toInt.toNat = _
    rw [← this, nI_toInt (by omega)]
    omega
  rw [ecn]
  refine ⟨?_, fun j hj => ?_⟩
  · rw [hnc]
    have := P1 d hd
    rw [if_pos hd] at this
    exact this
  · obtain ⟨i, i1, i2, i3, i4⟩ := yd_atS (Z := ya_del Xf D) (D := D) If (K := 3) hd (by omega) ya_del_15 ya_del_16 hj
    rw [hc0] at i1
    obtain ⟨s1, s2, s3⟩ := sp_is (D := D) I h hd i1
    rw [s2] at i4
    have hnd : ya_dmd D (sg A d i) = false := by
      rw [s1] at i2
      simpa using i2
    have hr := (P2 d hd i i1).1 (Or.inl hd) (by unfold kpP; rw [hnd]; rfl)
    rw [hkw i (by omega), i3] at hr
    have e1 : sg (ya_del Xf D) d j = sg A d i := i4
    rw [hr, e1]
    obtain ⟨a1, a2, a3⟩ := sg_ok I hd i1
    have hl : yl (ya_del Xf D) (sg A d i) := (yd_l _).mpr ⟨by rw [yl_c (h 11 (by omega))]; exact a1, hnd⟩
    unfold sk
    rw [yd_To hl, yd_N, yd_N, yd_N, show yT Xf (sg A d i) = yT A (sg A d i) from ya_sg_c (h 11 (by omega)) _]
    unfold ya_N
    rw [h 14 (by omega)]
/-- rows that stay -/
theorem tied_RW (P : PIv A D true pv σ 3 0 τ) : RW A τ := by
  obtain ⟨P1, P2, -, -, -⟩ := P
  intro d hd
  have hk : ∀ n, kwP A D true d n = n := fun n => ya_cw_all (fun i _ => rfl)
  refine ⟨?_, fun p hp => ?_⟩
  · have := P1 d hd
    rw [if_pos hd, hk] at this
    exact this
  · have := (P2 d hd p hp).1 (Or.inl hd) rfl
    rw [hk] at this
    exact this
/-- how many are ahead of a view, behind a delete -/
theorem del_ahead (I : yn_I t A) (If : yn_I t Xf) (h : ns18 A Xf) (hw : w < 4) (hd : d < 3) (hD : A (sy_vw w) 0 = nI d) (M : MK D A Xf w) : ∃ a, ya_X5_countAhead A w = nI a ∧ a ≤ cn A d ∧ ya_X5_countAhead (ya_del Xf D) w = nI (a - ya_cw (fun p => ya_dmd D (sg A d p) && decide (p < a)) (cn A d)) ∧ ya_cw (fun p => ya_dmd D (sg A d p) && decide (p < a)) (cn A d) ≤ a := by
  have h60 := cn_le I hd
  have hb := yv_lt hw
  obtain ⟨m0, m2, m3, -⟩ := M
  obtain ⟨-, -, g2, g3, g4, -, -, -⟩ := I.2.2.2.2.2.1 w hw
  have hX : ya_del Xf D (sy_vw w) = Xf (sy_vw w) := ya_del_ne (by omega)
  have hc0 : (Xf 16 d).toNatClampNeg = cn A d := by
    have h0 := I.2.2.1.1 d hd
    rw [h 16 (by omega), yi_clampInt]
  obtain ⟨c1, c2⟩ := yd_cnt (Z := ya_del Xf D) (D := D) If (K := 3) hd (by omega) ya_del_16
  have hnc : ya_nc Xf D d = ya_cw (fun i => !ya_dmd D (sg A d i)) (cn A d) := by
    unfold ya_nc
    rw [hc0, sp_cw I h hd (Nat.le_refl _)]
  -- in general
  have fin : ∀ a, a ≤ cn A d → ya_X5_countAhead A w = nI a → ya_X5_countAhead (ya_del Xf D) w = nI (ya_cw (fun i => !ya_dmd D (sg A d i)) a) → ∃ a, ya_X5_countAhead A w = nI a ∧ a ≤ cn A d ∧ ya_X5_countAhead (ya_del Xf D) w = nI (a - ya_cw (fun p => ya_dmd D (sg A d p) && decide (p < a)) (cn A d)) ∧ ya_cw (fun p => ya_dmd D (sg A d p) && decide (p < a)) (cn A d) ≤ a := fun a ha h1 h2 => by
    have e1 := cw_cut (P := fun p => ya_dmd D (sg A d p)) (k := a) (cn A d) ha
    have e2 := cw_split (P := fun p => ya_dmd D (sg A d p)) a
    refine ⟨a, h1, ha, ?_, ?_⟩
    · rw [h2, e1]
      exact congrArg nI (by omega)
    · rw [e1]
      omega
  have hca : ∀ Z : sy_Mem, ya_X5_countAhead Z w = (if (!decide (Z (sy_vw w) 4 = 0)) = true then ya_cnt Z (Z (sy_vw w) 0) else (if decide (yL Z (Z (sy_vw w) 2) = -1) = true then 0 else yL Z (Z (sy_vw w) 2))) := fun _ => rfl
  have hnm : ∀ q : Nat, q < 1000 → decide (nI q = -1) = false := fun q hq => decide_eq_false (nI_nem hq)
  have lnew : ∀ q, q < cn A d → ya_dmd D (sg A d q) = false → yL (ya_del Xf D) (sg A d q) = nI (ya_cw (fun i => !ya_dmd D (sg A d i)) q) := fun q hq hnd => by
    obtain ⟨a1, a2, a3⟩ := sg_ok I hd hq
    have hl : yl (ya_del Xf D) (sg A d q) := (yd_l _).mpr ⟨by rw [yl_c (h 11 (by omega))]; exact a1, hnd⟩
    have e := (yd_L If hl).1
    have eS : sD Xf (sg A d q) = nI d := by
      show tD Xf (yT Xf (sg A d q)) = nI d
      rw [show yT Xf (sg A d q) = yT A (sg A d q) from ya_sg_c (h 11 (by omega)) _, show tD Xf (yT A (sg A d q)) = tD A (yT A (sg A d q)) from ya_tg_c (h 1 (by omega)) (h 2 (by omega)) _ _]
      exact a2
    have eL : yL Xf (sg A d q) = nI q := (ya_sg_c (h 17 (by omega)) _).trans a3
    rw [e]
    unfold ya_np
    rw [eS, eL, nI_clamp (by omega), nI_clamp (by omega), sp_cw I h hd (by omega)]
  by_cases e2 : A (sy_vw w) 2 = -1
  · obtain ⟨k2, k3, k4⟩ := m2 (by rw [e2]; rfl)
    rcases g4 with g4 | ⟨g4, -⟩
    · refine fin 0 (by omega) ?_ ?_
      · rw [hca, g4, e2]
        rfl
      · rw [hca, hX, k4, g4, k2, e2]
        rfl
    · refine fin (cn A d) (Nat.le_refl _) ?_ ?_
      · rw [hca, g4, hD, (cnt_nI I hd).1]
        rfl
      · rw [hca, hX, k4, g4, m0.1, hD, c1, hnc]
        rfl
  · have hlv := g2.resolve_left e2
    obtain ⟨q, q1, q2, q3⟩ := sg_of I hlv.1 hd (hlv.2.trans hD)
    have g40 : A (sy_vw w) 4 = 0 := by
      rcases g4 with g4 | ⟨-, g4⟩
      · exact g4
      · exact absurd g4 e2
    have hA : ya_X5_countAhead A w = nI q := by
      rw [hca, g40, q3, hnm q (by omega)]
      rfl
    cases hdm : ya_dmd D (A (sy_vw w) 2) with
    | false =>
      obtain ⟨k2, k3, k4⟩ := m2 hdm
      rw [q2] at hdm
      refine fin q (by omega) hA ?_
      have hl := lnew q q1 hdm
      have := cw_le (P := fun i => !ya_dmd D (sg A d i)) q
      rw [hca, hX, k4, g40, k2, q2, hl, hnm _ (by omega)]
      rfl
    | true =>
      obtain ⟨k2, k3, k4⟩ := m3 hdm
      obtain ⟨f1, f2, f3, f4, f5⟩ := ya_fsp_eq (D := D) I hlv.1 hdm
      rw [hlv.2, hD] at f2 f3 f4 f5
      rw [(cnt_nI I hd).1, nI_clamp (by omega)] at f2 f4 f5
      rw [q3, nI_clamp (by omega)] at f1 f3
      refine fin q (by omega) hA ?_
      have hfl : ∀ n, q ≤ n → n ≤ ya_fsp A D (A (sy_vw w) 2) → ya_cw (fun i => !ya_dmd D (sg A d i)) n = ya_cw (fun i => !ya_dmd D (sg A d i)) q := fun n h1 h2 => cw_flat n h1 (fun i h3 h4 => by
        have : ya_dmd D (sg A d i) = true := f3 i h3 (by omega)
        show (!ya_dmd D (sg A d i)) = false
        rw [this]
        rfl)
      by_cases e : ya_fsp A D (A (sy_vw w) 2) < cn A d
      · rw [if_pos e] at f5
        have hsl := (sg_ok I hd e).1
        have f5 : ya_spb A D (A (sy_vw w) 2) = sg A d (ya_fsp A D (A (sy_vw w) 2)) := f5
        rw [f5] at k2 k4
        rw [decide_eq_false (yl_ne hsl)] at k4
        have hl := lnew _ e (f4 e)
        rw [hfl _ f1 (Nat.le_refl _)] at hl
        have := cw_le (P := fun i => !ya_dmd D (sg A d i)) q
        rw [hca, hX, k4, k2, hl, hnm _ (by omega)]
        rfl
      · rw [if_neg e] at f5
        rw [f5] at k2 k4
        have he : ya_fsp A D (A (sy_vw w) 2) = cn A d := by omega
        have hl := hfl _ f1 (Nat.le_refl _)
        rw [he] at hl
        rw [hca, hX, k4, m0.1, hD, c1, hnc, hl]
        rfl
end LA54
