section YX2
variable {A : sy_Mem} {t : Nat} {ty p key here : Int32}
theorem ya_pls_hit {B : sy_Mem} {d : Int32} {s i : Nat} (hs : s < 60) : ∀ (n : Nat), i < n → ya_at B d (nI i) = nI s → (∀ j, j < n → ya_at B d (nI j) = nI s → j = i) → ya_pls B d n s = nI i
  | 0, h, _, _ => absurd h (by omega)
  | n + 1, h, hi, hu => by
    have hs60 := yg_60 hs
    unfold ya_pls
    by_cases e : n = i
    · rw [e, hi, if_pos (yl_isS.mpr hs60), nI_clamp (by omega), upd_at]
    · have ih := ya_pls_hit hs n (by omega) hi (fun j hj => hu j (by omega))
      by_cases q : (decide (0 ≤ ya_at B d (nI n)) && decide (ya_at B d (nI n) < 60)) = true
      · rw [if_pos q, upd_ne, ih]
        intro g
        have : ya_at B d (nI n) = nI s := by rw [g]; exact yi_nat (yi_pos.mpr (yl_isS.mp q).1)
        exact e (hu n (by omega) this)
      · rw [if_neg q, ih]
theorem ya_pls_miss {B : sy_Mem} {d : Int32} {s : Nat} : ∀ (n : Nat), (∀ j, j < n → ya_at B d (nI j) ≠ nI s) → ya_pls B d n s = B 17 s
  | 0, _ => rfl
  | n + 1, hu => by
    unfold ya_pls
    have ih := ya_pls_miss n (fun j hj => hu j (by omega))
    by_cases q : (decide (0 ≤ ya_at B d (nI n)) && decide (ya_at B d (nI n) < 60)) = true
    · rw [if_pos q, upd_ne, ih]
      intro g
      exact hu n (by omega) (by rw [g]; exact yi_nat (yi_pos.mpr (yl_isS.mp q).1))
    · rw [if_neg q, ih]
/-- who is in the new row -/
theorem yx_row (H : yx_H t A ty p key here) {i : Nat} (hi : i ≤ (ya_cnt A (tD A ty)).toNatClampNeg) {s : Int32} (hs : yl A s) (h : ya_at (ya_add A ty p key here) (tD A ty) (nI i) = s) : sD A s = tD A ty ∧ (yL A s).toInt = (if i < ya_plc A ty p key here then (i : Int) else (i : Int) - 1) ∧ i ≠ ya_plc A ty p key here := by
  have hD := yb_D H.1 H.2.1
  have hc := yx_c H
  have h60 := H.2.2.2
  rw [yx_at H hi] at h
  by_cases h1 : i < ya_plc A ty p key here
  · rw [if_pos h1] at h ⊢
    have g := yg_at H.1 hD (p := nI i) (by rw [nI_toInt (by omega)]; omega)
    rw [h] at g
    exact ⟨g.2.1, by rw [g.2.2, nI_toInt (by omega)], by omega⟩
  · rw [if_neg h1] at h ⊢
    by_cases h2 : i = ya_plc A ty p key here
    · rw [if_pos h2] at h
      exact absurd h.symm (yx_lne H hs)
    · rw [if_neg h2] at h
      have g := yg_at H.1 hD (p := nI (i - 1)) (by rw [nI_toInt (by omega)]; omega)
      rw [h] at g
      exact ⟨g.2.1, by rw [g.2.2, nI_toInt (by omega)]; omega, h2⟩
theorem yx_LZ (H : yx_H t A ty p key here) : yL (ya_add A ty p key here) (nI (ya_fr A)) = nI (ya_plc A ty p key here) := by
  have hD := yb_D H.1 H.2.1
  have hc := yx_c H
  have h60 := H.2.2.2
  show ya_sg _ 17 _ = _
  rw [ya_sgn H.2.2.1, yx_17]
  refine ya_pls_hit H.2.2.1 _ (by omega) ?_ (fun j hj hq => ?_)
  · rw [yx_2_at, yx_at H hc.2, if_neg (by omega), if_pos rfl]
  · rw [yx_2_at, yx_at H (by omega)] at hq
    by_cases h1 : j < ya_plc A ty p key here
    · rw [if_pos h1] at hq
      exact absurd hq (yx_lne H (yg_at H.1 hD (p := nI j) (by rw [nI_toInt (by omega)]; omega)).1)
    · rw [if_neg h1] at hq
      by_cases h2 : j = ya_plc A ty p key here
      · exact h2
      · rw [if_neg h2] at hq
        exact absurd hq (yx_lne H (yg_at H.1 hD (p := nI (j - 1)) (by rw [nI_toInt (by omega)]; omega)).1)
/-- the places of the others -/
theorem yx_L (H : yx_H t A ty p key here) {s : Int32} (hs : yl A s) : (yL (ya_add A ty p key here) s).toInt = if sD A s = tD A ty ∧ (ya_plc A ty p key here : Int) ≤ (yL A s).toInt then (yL A s).toInt + 1 else (yL A s).toInt := by
  have hD := yb_D H.1 H.2.1
  have hc := yx_c H
  have h60 := H.2.2.2
  have hin := yl_in hs
  have es : s = nI s.toNatClampNeg := yi_nat (yi_pos.mpr hin.1)
  have hs60 : s.toNatClampNeg < 60 := by rw [yi_clampInt]; omega
  have e17 : yL (ya_add A ty p key here) s = ya_pls (ya_add2 A ty p key here) (tD A ty) ((ya_cnt A (tD A ty)).toNatClampNeg + 1) s.toNatClampNeg := by
    show ya_sg _ 17 s = _
    rw [ya_sg_in hin, yx_17]
  by_cases hd : sD A s = tD A ty
  · obtain ⟨q, q1, q2, q3, q4⟩ := yo_row H.1 hs
    rw [hd] at q1 q3
    have kk : ∀ i : Nat, i ≤ (ya_cnt A (tD A ty)).toNatClampNeg → ya_at (ya_add A ty p key here) (tD A ty) (nI i) = s → yL (ya_add A ty p key here) s = nI i := fun i hi hat => by
      rw [e17]
      refine ya_pls_hit hs60 _ (by omega) (by rw [yx_2_at, hat, ← es]) (fun j hj hq => ?_)
      rw [yx_2_at, ← es] at hq
      have g1 := yx_row H (by omega) hs hq
      have g2 := yx_row H hi hs hat
      have g3 := g1.2.1.symm.trans g2.2.1
      by_cases a : j < ya_plc A ty p key here
      · by_cases b : i < ya_plc A ty p key here
        · rw [if_pos a, if_pos b] at g3; omega
        · rw [if_pos a, if_neg b] at g3; omega
      · by_cases b : i < ya_plc A ty p key here
        · rw [if_neg a, if_pos b] at g3; omega
        · rw [if_neg a, if_neg b] at g3; omega
    by_cases hq : q < ya_plc A ty p key here
    · rw [if_neg (by omega), kk q (by omega) (by rw [yx_at H (by omega), if_pos hq, q3]), nI_toInt (by omega), q4]
    · rw [if_pos ⟨hd, by omega⟩, kk (q + 1) (by omega) (by rw [yx_at H (by omega), if_neg (by omega), if_neg (by omega), Nat.add_sub_cancel, q3]), nI_toInt (by omega), q4]
      omega
  · rw [if_neg (fun h => hd h.1), e17, ya_pls_miss, yx_2_17, ← ya_sg_in (A := A) (k := 17) hin]
    intro j hj hq
    rw [yx_2_at, ← es] at hq
    exact hd (yx_row H (by omega) hs hq).1
/-- which of two lies ahead does not change -/
theorem yx_Llt (H : yx_H t A ty p key here) {s r : Int32} (hs : yl A s) (hr : yl A r) (hd : sD A s = sD A r) : ((yL (ya_add A ty p key here) s).toInt < (yL (ya_add A ty p key here) r).toInt) ↔ ((yL A s).toInt < (yL A r).toInt) := by
  rw [yx_L H hs, yx_L H hr]
  by_cases a : sD A s = tD A ty ∧ (ya_plc A ty p key here : Int) ≤ (yL A s).toInt
  · rw [if_pos a]
    by_cases b : sD A r = tD A ty ∧ (ya_plc A ty p key here : Int) ≤ (yL A r).toInt
    · rw [if_pos b]; omega
    · rw [if_neg b]
      have : ¬ (ya_plc A ty p key here : Int) ≤ (yL A r).toInt := fun q => b ⟨hd.symm.trans a.1, q⟩
      omega
  · rw [if_neg a]
    by_cases b : sD A r = tD A ty ∧ (ya_plc A ty p key here : Int) ≤ (yL A r).toInt
    · rw [if_pos b]
      have : ¬ (ya_plc A ty p key here : Int) ≤ (yL A s).toInt := fun q => a ⟨hd.trans b.1, q⟩
      omega
    · rw [if_neg b]
theorem yx_Lle (H : yx_H t A ty p key here) {s r : Int32} (hs : yl A s) (hr : yl A r) (hd : sD A s = sD A r) : ((yL (ya_add A ty p key here) s).toInt ≤ (yL (ya_add A ty p key here) r).toInt) ↔ ((yL A s).toInt ≤ (yL A r).toInt) := by
  have := yx_Llt H hr hs hd.symm
  omega
/-- the new one's place, and another's -/
theorem yx_LZlt (H : yx_H t A ty p key here) {s : Int32} (hs : yl A s) (hd : sD A s = tD A ty) : ((yL (ya_add A ty p key here) s).toInt < (yL (ya_add A ty p key here) (nI (ya_fr A))).toInt ↔ ya_beh A ty p key here s = true) ∧ ((yL (ya_add A ty p key here) (nI (ya_fr A))).toInt < (yL (ya_add A ty p key here) s).toInt ↔ ya_beh A ty p key here s = false) := by
  have hb := (yb_place H.1 H.2.1).2 s hs hd
  have hc := yx_c H
  have h60 := H.2.2.2
  have hbf : ya_beh A ty p key here s = false ↔ ¬ (yL A s).toInt < (ya_plc A ty p key here : Int) := by rw [← hb, Bool.not_eq_true]
  rw [yx_LZ H, nI_toInt (by omega), yx_L H hs, hb, hbf]
  by_cases a : sD A s = tD A ty ∧ (ya_plc A ty p key here : Int) ≤ (yL A s).toInt
  · rw [if_pos a]; omega
  · rw [if_neg a]
    have : ¬ (ya_plc A ty p key here : Int) ≤ (yL A s).toInt := fun q => a ⟨hd, q⟩
    omega
/-- the numbers -/
theorem yx_N (H : yx_H t A ty p key here) {s : Int32} (hs : yl A s) (f : Int32) : ya_N (ya_add A ty p key here) s f = ya_N A s f := by
  have hin := yl_in hs
  have hz := H.2.2.1
  have hne := yx_lne H hs
  have hn : s.toNatClampNeg ≠ ya_fr A := fun e => hne (by rw [← e]; exact yi_nat (yi_pos.mpr hin.1))
  unfold ya_N
  by_cases hc : (((decide (0 ≤ s) && decide (s < 60)) && decide (0 ≤ f)) && decide (f < 3)) = true
  · rw [if_pos hc, if_pos hc, yx_14]
    rw [Bool.and_eq_true, Bool.and_eq_true, yl_ge, yl_lt, yl_c0, yl_c3] at hc
    have hf : f.toNatClampNeg < 3 := by rw [yi_clampInt]; omega
    rw [upd_ne (by omega), upd_ne (by omega), upd_ne (by omega), upd_ne (by omega)]
  · rw [if_neg hc, if_neg hc]
theorem yx_NZ (H : yx_H t A ty p key here) : ya_N (ya_add A ty p key here) (nI (ya_fr A)) 0 = key := by
  have hz := H.2.2.1
  rw [ya_N_in (yg_60 hz) ⟨by decide, by decide⟩, nI_clamp (by omega), yx_14]
  exact upd_at
/-- the rows still tell the segments -/
theorem yx_W (H : yx_H t A ty p key here) (h60t : (A 10 9).toInt < 60) : yn_W (ya_add A ty p key here) := by
  have hD := yb_D H.1 H.2.1
  have hDn := yx_Dn H
  have hc := yx_c H
  have h60 := H.2.2.2
  have hI := H.1
  obtain ⟨w1, w2, w3, w4⟩ := hI.2.2.1
  have hcD : A 16 (tD A ty).toNatClampNeg = nI (ya_cnt A (tD A ty)).toNatClampNeg := by
    rw [← ya_cnt_in (A := A) hD]
    exact yi_nat (yi_pos.mpr (yg_cnt hI hD).1)
  have hcDi : (A 16 (tD A ty).toNatClampNeg).toInt = ((ya_cnt A (tD A ty)).toNatClampNeg : Int) := by rw [hcD, nI_toInt (by omega)]
  have hLo : ∀ s, yl A s → 0 ≤ (yL (ya_add A ty p key here) s).toInt ∧ (yL (ya_add A ty p key here) s).toInt < (ya_cnt (ya_add A ty p key here) (sD A s)).toInt ∧ ya_at (ya_add A ty p key here) (sD A s) (yL (ya_add A ty p key here) s) = s := fun s hs => by
    have hL := yx_L H hs
    obtain ⟨g1, g2, g3⟩ := w3 s hs
    by_cases hd : sD A s = tD A ty
    · rw [hd] at g2 g3 ⊢
      rw [yx_cntD H, nI_toInt (by omega)]
      by_cases hq : (ya_plc A ty p key here : Int) ≤ (yL A s).toInt
      · rw [if_pos ⟨hd, hq⟩] at hL
        refine ⟨by omega, by omega, ?_⟩
        have e : yL (ya_add A ty p key here) s = nI ((yL A s).toNatClampNeg + 1) := yi_ext (by rw [hL, nI_toInt (by rw [yi_clampInt]; omega), yi_clampInt]; omega)
        rw [e, yx_at H (by rw [yi_clampInt]; omega), if_neg (by rw [yi_clampInt]; omega), if_neg (by rw [yi_clampInt]; omega), Nat.add_sub_cancel, ← yi_nat (yi_pos.mpr g1)]
        exact g3
      · rw [if_neg (fun z => hq z.2)] at hL
        refine ⟨by omega, by omega, ?_⟩
        have e : yL (ya_add A ty p key here) s = nI (yL A s).toNatClampNeg := yi_ext (by rw [hL, nI_toInt (by rw [yi_clampInt]; omega), yi_clampInt]; omega)
        rw [e, yx_at H (by rw [yi_clampInt]; omega), if_pos (by rw [yi_clampInt]; omega), ← yi_nat (yi_pos.mpr g1)]
        exact g3
    · rw [if_neg (fun z => hd z.1)] at hL
      have e : yL (ya_add A ty p key here) s = yL A s := yi_ext hL
      rw [e, yx_cnto H hd, yx_ato H hd]
      exact ⟨g1, g2, g3⟩
  have h0 : 0 ≤ (A 16 0).toInt ∧ 0 ≤ (A 16 1).toInt ∧ 0 ≤ (A 16 2).toInt := ⟨(w1 0 (by decide)).1, (w1 1 (by decide)).1, (w1 2 (by decide)).1⟩
  refine ⟨fun d hd => ?_, ⟨?_, ?_⟩, fun s hs => ?_, fun d q hd0 hd3 hq0 hq => ?_⟩
  · rw [yx_16]
    by_cases e : d = (tD A ty).toNatClampNeg
    · rw [e, upd_at, nI_toInt (by omega)]
      omega
    · rw [upd_ne e]
      exact w1 d hd
  · rw [yx_10, yx_16, upd_at, yl_add (by omega) (by omega) (by decide) (by decide), w2.1]
    rcases (show (tD A ty).toNatClampNeg = 0 ∨ (tD A ty).toNatClampNeg = 1 ∨ (tD A ty).toNatClampNeg = 2 by omega) with e | e | e
    · rw [e] at hcDi ⊢
      rw [upd_at, upd_ne (by decide), upd_ne (by decide), nI_toInt (by omega), hcDi, yl_c1]
      omega
    · rw [e] at hcDi ⊢
      rw [upd_at, upd_ne (by decide), upd_ne (by decide), nI_toInt (by omega), hcDi, yl_c1]
      omega
    · rw [e] at hcDi ⊢
      rw [upd_at, upd_ne (by decide), upd_ne (by decide), nI_toInt (by omega), hcDi, yl_c1]
      omega
  · rw [yx_10, upd_at, yl_add (by omega) (by omega) (by decide) (by decide), yl_c1]
    omega
  · rcases (yx_l H s).mp hs with h | h
    · rw [yx_Do H h]
      exact hLo s h
    · rw [h, yx_DZ H, yx_LZ H, yx_cntD H, nI_toInt (by omega), nI_toInt (by omega), yx_at H hc.2, if_neg (by omega), if_pos rfl]
      exact ⟨by omega, by omega, rfl⟩
  · by_cases hd : d = tD A ty
    · rw [hd] at hq ⊢
      rw [yx_cntD H, nI_toInt (by omega)] at hq
      have eq : q = nI q.toNatClampNeg := yi_nat (yi_pos.mpr hq0)
      have hqn : (q.toNatClampNeg : Int) = q.toInt := by rw [yi_clampInt]; omega
      have hat := yx_at H (i := q.toNatClampNeg) (by omega)
      rw [← eq] at hat
      by_cases h1 : q.toNatClampNeg < ya_plc A ty p key here
      · rw [if_pos h1] at hat
        obtain ⟨g1, g2, g3⟩ := yg_at hI hD (p := q) ⟨hq0, by omega⟩
        rw [hat]
        refine ⟨(yx_l H _).mpr (Or.inl g1), by rw [yx_Do H g1]; exact g2, yi_ext ?_⟩
        rw [yx_L H g1, if_neg (by rw [g3]; omega), g3]
      · rw [if_neg h1] at hat
        by_cases h2 : q.toNatClampNeg = ya_plc A ty p key here
        · rw [if_pos h2] at hat
          rw [hat]
          exact ⟨(yx_l H _).mpr (Or.inr rfl), yx_DZ H, by rw [yx_LZ H, ← h2, ← eq]⟩
        · rw [if_neg h2] at hat
          obtain ⟨g1, g2, g3⟩ := yg_at hI hD (p := nI (q.toNatClampNeg - 1)) (by rw [nI_toInt (by omega)]; omega)
          rw [hat]
          refine ⟨(yx_l H _).mpr (Or.inl g1), by rw [yx_Do H g1]; exact g2, yi_ext ?_⟩
          have g4 : (yL A (ya_at A (tD A ty) (nI (q.toNatClampNeg - 1)))).toInt = q.toInt - 1 := by rw [g3, nI_toInt (by omega)]; omega
          rw [yx_L H g1, if_pos ⟨g2, by omega⟩, g4]
          omega
    · rw [yx_cnto H hd] at hq
      obtain ⟨g1, g2, g3⟩ := w4 d q hd0 hd3 hq0 hq
      rw [yx_ato H hd]
      refine ⟨(yx_l H _).mpr (Or.inl g1), by rw [yx_Do H g1]; exact g2, yi_ext ?_⟩
      rw [yx_L H g1, if_neg (fun z => hd (g2.symm.trans z.1)), g3]
end YX2
