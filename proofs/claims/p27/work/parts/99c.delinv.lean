/-! what always holds, behind a delete -/
section YDi
variable {X τ : sy_Mem} {t : Nat} {D : Nat → Bool}
theorem yd_par (I : yn_I t X) (ok : yd_ok X D) {s : Int32} (h : yl (ya_del X D) s) : yP X s = -1 ∨ yl (ya_del X D) (yP X s) := by
  obtain ⟨hs, hd⟩ := (yd_l s).mp h
  by_cases e : yP X s = -1
  · exact Or.inl e
  · right
    rw [yd_l]
    refine ⟨(yl_par I.1 I.2.1 hs e).1, ?_⟩
    cases hp : ya_dmd D (yP X s) with
    | false => rfl
    | true => rw [ok s hs e hp] at hd; cases hd
theorem yd_walk (I : yn_I t X) (ok : yd_ok X D) {Q : Int32 → Bool} : ∀ (n : Nat) {s : Int32}, (s = -1 ∨ yl (ya_del X D) s) → ya_walk (yP (ya_del X D)) Q n s = ya_walk (yP X) Q n s
  | 0, _, _ => rfl
  | n + 1, s, h => by
    unfold ya_walk
    by_cases e : s = -1
    · rw [if_pos e, if_pos e]
    · rw [if_neg e, if_neg e]
      have hl := h.resolve_left e
      rw [yd_Po hl, yd_walk I ok n (yd_par I ok hl)]
theorem yd_U (I : yn_I t X) (ok : yd_ok X D) {s q : Int32} (hs : yl (ya_del X D) s) : yU (ya_del X D) s q ↔ yU X s q := by
  have e : ya_X3_isBelow (ya_del X D) s q = ya_X3_isBelow X s q := by
    show (ya_walk (yP (ya_del X D)) (fun x => decide (x = q)) 4 (yP (ya_del X D) s)).elim false (fun _ => true) = (ya_walk (yP X) (fun x => decide (x = q)) 4 (yP X s)).elim false (fun _ => true)
    rw [yd_Po hs, yd_walk I ok 4 (yd_par I ok hs)]
  unfold yU
  rw [e]
theorem yd_rt (I : yn_I t X) : (ya_rt X D 3).toInt = (ya_nc X D 0 : Int) + ya_nc X D 1 + ya_nc X D 2 ∧ (ya_nc X D 0 : Int) + ya_nc X D 1 + ya_nc X D 2 ≤ 60 := by
  obtain ⟨w1, ⟨w2, w3⟩, _⟩ := I.2.2.1
  have hn : ∀ d, d < 3 → (ya_nc X D d : Int) ≤ (X 16 d).toInt := fun d hd => by
    have h1 := yp_le (P := ya_sp (X 15) D d) (X 16 d).toNatClampNeg
    have h2 := (w1 d hd).1
    have h3 : (X 16 d).toNatClampNeg = (X 16 d).toInt.toNat := yi_clampInt _
    unfold ya_nc
    omega
  have a0 := w1 0 (by decide)
  have a1 := w1 1 (by decide)
  have a2 := w1 2 (by decide)
  have b0 := hn 0 (by decide)
  have b1 := hn 1 (by decide)
  have b2 := hn 2 (by decide)
  have hd : ∀ d, d < 3 → (X 16 d - nI (ya_nc X D d)).toInt = (X 16 d).toInt - ya_nc X D d := fun d hd => by
    have := w1 d hd
    have := hn d hd
    rw [yl_sub (by omega) (by omega) (by rw [nI_toInt (by omega)]; omega) (by rw [nI_toInt (by omega)]; omega), nI_toInt (by omega)]
  have c0 := hd 0 (by decide)
  have c1 := hd 1 (by decide)
  have c2 := hd 2 (by decide)
  have e1 : (ya_rt X D 1).toInt = (X 10 9).toInt - ((X 16 0).toInt - ya_nc X D 0) := by
    show (X 10 9 - (X 16 0 - nI (ya_nc X D 0))).toInt = _
    rw [yl_sub (by omega) (by omega) (by omega) (by omega), c0]
  have e2 : (ya_rt X D 2).toInt = (ya_rt X D 1).toInt - ((X 16 1).toInt - ya_nc X D 1) := by
    show (ya_rt X D 1 - (X 16 1 - nI (ya_nc X D 1))).toInt = _
    rw [yl_sub (by omega) (by omega) (by omega) (by omega), c1]
  have e3 : (ya_rt X D 3).toInt = (ya_rt X D 2).toInt - ((X 16 2).toInt - ya_nc X D 2) := by
    show (ya_rt X D 2 - (X 16 2 - nI (ya_nc X D 2))).toInt = _
    rw [yl_sub (by omega) (by omega) (by omega) (by omega), c2]
  omega
theorem yd_WW (I : yn_I t X) : yn_W (ya_del X D) := by
  have hc : ∀ d, d < 3 → ya_cnt (ya_del X D) (nI d) = nI (ya_nc X D d) ∧ ya_nc X D d ≤ 60 := fun d hd => yd_cnt I hd (Nat.le_refl _) ya_del_16
  have h16 : ∀ d, d < 3 → ya_del X D 16 d = nI (ya_nc X D d) := fun d hd => (ya_cnt_n (Z := ya_del X D) hd).symm.trans (hc d hd).1
  have ht := yd_rt (D := D) I
  refine ⟨fun d hd => ?_, ⟨?_, ?_⟩, fun s hs => ?_, fun d p h1 h2 h3 h4 => ?_⟩
  · have := (hc d hd).2
    rw [h16 d hd, nI_toInt (by omega)]
    omega
  · have := (hc 0 (by decide)).2
    have := (hc 1 (by decide)).2
    have := (hc 2 (by decide)).2
    rw [ya_del_10, h16 0 (by decide), h16 1 (by decide), h16 2 (by decide), nI_toInt (by omega), nI_toInt (by omega), nI_toInt (by omega)]
    omega
  · rw [ya_del_10]
    omega
  · obtain ⟨l1, l2, l3⟩ := yd_L I hs
    obtain ⟨hs', hd'⟩ := (yd_l s).mp hs
    obtain ⟨r1, r2, r3, r4, r5⟩ := yd_row I hs' hd'
    rw [yd_Do hs, l1, r2, (hc _ r1).1]
    have h60 := (hc _ r1).2
    rw [nI_toInt (by omega), nI_toInt (by omega)]
    refine ⟨by omega, by omega, ?_⟩
    have := (yd_atZ (Z := ya_del X D) I r1 (Nat.le_refl _) ya_del_15 ya_del_16 r3 r5).2
    rw [r4] at this
    exact this
  · have hdn : d = nI d.toNatClampNeg := yi_nat (yi_pos.mpr h1)
    have hpn : p = nI p.toNatClampNeg := yi_nat (yi_pos.mpr h3)
    have hd3 : d.toNatClampNeg < 3 := by rw [yi_clampInt]; omega
    have h60 := (hc _ hd3).2
    have hp : p.toNatClampNeg < ya_nc X D d.toNatClampNeg := by
      rw [hdn, (hc _ hd3).1, nI_toInt (by omega)] at h4
      rw [yi_clampInt]
      omega
    obtain ⟨i, g1, g2, g3, g4⟩ := yd_atS (Z := ya_del X D) I hd3 (Nat.le_refl _) ya_del_15 ya_del_16 hp
    rw [← hdn, ← hpn] at g4
    obtain ⟨b1, b2, b3⟩ := yg_row I hd3 g1
    have hin := yl_in b1
    have hl : yl (ya_del X D) (X 15 (60 * d.toNatClampNeg + i)) := by
      rw [yd_l]
      refine ⟨b1, ?_⟩
      rw [ya_dmd_in hin]
      unfold ya_sp at g2
      simpa using g2
    rw [g4]
    refine ⟨hl, by rw [yd_Do hl, b2, ← hdn], ?_⟩
    have hm := yg_m I d.toNatClampNeg hd3
    rw [(yd_L I hl).1, hpn, ← g3]
    unfold ya_np
    rw [b2, b3, nI_clamp (by omega), nI_clamp (by omega)]
theorem yd_OO (I : yn_I t X) (ok : yd_ok X D) : yn_O (ya_del X D) := by
  obtain ⟨o1, o2, o3, o4, o5, o6⟩ := I.2.2.2.1
  have hX : ∀ {s : Int32}, yl (ya_del X D) s → yl X s := fun h => ((yd_l _).mp h).1
  have eK : ∀ u, tK (ya_del X D) u = tK X u := fun u => yd_tg (by decide) _ _
  have hTP : ∀ {s r : Int32}, yl X s → yl X r → yT X s = yT X r → sD X s = sD X r := fun {s r} _ _ h => by
    show ya_tg X 2 (-1) (yT X s) = ya_tg X 2 (-1) (yT X r)
    rw [h]
  refine ⟨fun s hs hp => ?_, fun s p x hs hp hx hd1 hd2 hU h1 h2 => ?_, fun s r hs hr hd hP hT => ?_, fun s r hs hr hT hP hk hL => ?_, fun s r hs hr hT hP hk hN => ?_, fun s r hs hr hT hP => ?_⟩
  · rw [yd_Po hs] at hp ⊢
    have hl := (yd_par I ok hs).resolve_left hp
    exact (yd_Llt I hl hs (yl_par I.1 I.2.1 (hX hs) hp).2.1).mpr (o1 s (hX hs) hp)
  · rw [yd_Do hp, yd_Do hs] at hd1
    rw [yd_Do hx, yd_Do hs] at hd2
    rw [yd_U I ok hs] at hU
    rw [yd_U I ok hx]
    exact o2 s p x (hX hs) (hX hp) (hX hx) hd1 hd2 hU ((yd_Lle I hp hx (hd1.trans hd2.symm)).mp h1) ((yd_Lle I hx hs hd2).mp h2)
  · rw [yd_Do hs, yd_Do hr] at hd
    rw [yd_Po hs, yd_Po hr] at hP
    rw [yd_To hs, yd_To hr] at hT
    exact (yd_Llt I hs hr hd).mpr (o3 s r (hX hs) (hX hr) hd hP hT)
  · rw [yd_To hs, yd_To hr] at hT
    rw [yd_Po hs, yd_Po hr] at hP
    rw [yd_To hs, eK] at hk
    rw [yd_N, yd_N]
    exact o4 s r (hX hs) (hX hr) hT hP hk ((yd_Llt I hs hr (hTP (hX hs) (hX hr) hT)).mp hL)
  · rw [yd_To hs, yd_To hr] at hT
    rw [yd_Po hs, yd_Po hr] at hP
    rw [yd_To hs, eK] at hk
    rw [yd_N, yd_N] at hN
    exact o5 s r (hX hs) (hX hr) hT hP hk hN
  · rw [yd_To hs, yd_To hr] at hT
    rw [yd_Po hs, yd_Po hr] at hP
    rw [yd_Llt I hs hr (hTP (hX hs) (hX hr) hT), ya_sg_c (ya_del_ne (by decide)), ya_sg_c (ya_del_ne (by decide))]
    exact o6 s r (hX hs) (hX hr) hT hP
theorem yn_del (I : yn_I t X) (ok : yd_ok X D) (hV : ∀ v, v < 4 → yv_sp D X v) : yn_I t (ya_del X D) := by
  refine ⟨?_, ⟨fun s hs => ?_, ?_⟩, yd_WW I, yd_OO I ok, ?_, fun v hv => ?_, ?_⟩
  · rw [yn_S_9 (fun k hk => ya_del_ne (by omega))]
    exact I.1
  · have hs' := ((yd_l s).mp hs).1
    obtain ⟨g1, g2⟩ := I.2.1.1 s hs'
    have eP : tP (ya_del X D) (yT X s) = tP X (yT X s) := yd_tg (by decide) _ _
    rw [yd_To hs, yd_Po hs, yd_isT, eP]
    refine ⟨g1, ?_⟩
    rcases g2 with g2 | ⟨h1, h2, h3⟩
    · exact Or.inl g2
    · right
      have hl := (yd_par I ok hs).resolve_left (yl_ne h1)
      exact ⟨hl, by rw [yd_To hl]; exact h2, h3⟩
  · rw [ya_del_ne (by decide)]
    exact I.2.1.2
  · intro i hi
    rw [ya_del_ne (by decide)]
    exact I.2.2.2.2.1 i hi
  · have hb := yv_lt hv
    obtain ⟨h0, h1, h2, h3, h4, h5, h6, h7⟩ := I.2.2.2.2.2.1 v hv
    obtain ⟨s1, s2, s3⟩ := hV v hv
    unfold yn_v
    rw [ya_del_ne (by omega), ya_del_ne (by omega), ya_del_ne (by omega)]
    refine ⟨h0, h1, h2.imp id (fun g => ?_), h3, h4, h5.imp id (fun g => ?_), h6, fun i hi => ⟨?_, (h7 i hi).2⟩⟩
    · have hl := (yd_l _).mpr ⟨g.1, s1⟩
      exact ⟨hl, (yd_Do hl).trans g.2⟩
    · have hl := (yd_l _).mpr ⟨g.1, s2⟩
      exact ⟨hl, (yd_Do hl).trans g.2⟩
    · exact (yd_l _).mpr ⟨(h7 i hi).1, s3 i hi⟩
  · exact yn_A_c (ya_del_ne (by decide)) (fun k h1 h2 => ya_del_ne (by omega)) (by rw [ya_del_ne (by decide)]; exact I.2.2.2.2.2.2.2.2.1) I.2.2.2.2.2.2
/-- what is marked is closed below -/
def yd_good (A : sy_Mem) (D : Nat → Bool) : Prop := ∀ s, yl A s → yP A s ≠ -1 → ya_dmd D (yP A s) = true → ya_dmd D s = true
theorem yd_du (I : yn_I t X) {x s : Int32} (hs : yl X s) (hp : yP X s ≠ -1) (h : ya_dmd (ya_du X x) (yP X s) = true) : ya_dmd (ya_du X x) s = true := by
  have hl := yl_in hs
  have hlp := (yl_par I.1 I.2.1 hs hp).1
  rw [ya_dmd_in (yl_in hlp)] at h
  rw [ya_dmd_in hl]
  unfold ya_du at h ⊢
  have es : nI s.toNatClampNeg = s := (yi_nat (yi_pos.mpr hl.1)).symm
  have ep : nI (yP X s).toNatClampNeg = yP X s := (yi_nat (yi_pos.mpr (yl_in hlp).1)).symm
  rw [Bool.and_eq_true, ep, yU_under] at h
  rw [Bool.and_eq_true, es, yU_under]
  refine ⟨?_, yU_up I hs hp h.2⟩
  have h60 : s.toNatClampNeg < 60 := by rw [yi_clampInt]; omega
  have := (yl_lv (A := X) h60).mp (by rw [es]; exact hs)
  simpa using this
theorem yd_dm (I : yn_I t X) (got : Int32) : ∀ n, yd_good X (ya_dm X got n)
  | 0 => fun s hs hp h => yd_du I hs hp h
  | n + 1 => fun s hs hp h => by
    unfold ya_dm at h ⊢
    by_cases e : ya_tq X got n = true
    · rw [if_pos e] at h ⊢
      have hl := yl_in hs
      have hlp := yl_in (yl_par I.1 I.2.1 hs hp).1
      rw [ya_dmd_in hlp, Bool.or_eq_true] at h
      rw [ya_dmd_in hl, Bool.or_eq_true]
      rcases h with h | h
      · left
        have := yd_dm I got n s hs hp (by rw [ya_dmd_in hlp]; exact h)
        rw [ya_dmd_in hl] at this
        exact this
      · right
        have := yd_du I (x := nI n) hs hp (by rw [ya_dmd_in hlp]; exact h)
        rw [ya_dmd_in hl] at this
        exact this
    · rw [if_neg e] at h ⊢
      exact yd_dm I got n s hs hp h
end YDi
