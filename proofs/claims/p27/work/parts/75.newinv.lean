/-! what always holds, holds behind addSegment -/
section YX4
variable {A : sy_Mem} {t : Nat} {ty p key here : Int32}
def ya_re9 (σ : sy_Mem) : sy_Mem := fun k => if k ≤ 9 then σ k else fun _ => 0
theorem yn_S_re9 {σ : sy_Mem} : yn_S (ya_re9 σ) = yn_S σ := rfl
theorem yn_S_9 {σ τ : sy_Mem} (h : ∀ k, k ≤ 9 → τ k = σ k) : yn_S τ = yn_S σ := by
  rw [← yn_S_re9 (σ := τ), ← yn_S_re9 (σ := σ)]
  have : ya_re9 τ = ya_re9 σ := by
    funext k
    unfold ya_re9
    by_cases hk : k ≤ 9
    · rw [if_pos hk, if_pos hk, h k hk]
    · rw [if_neg hk, if_neg hk]
  rw [this]
theorem yx_S (H : yx_H t A ty p key here) : yn_S (ya_add A ty p key here) := by
  rw [yn_S_9 (fun k hk => yx_lo (by omega))]
  exact H.1.1
theorem yx_G (H : yx_H t A ty p key here) : yn_G (ya_add A ty p key here) := by
  have hG := H.1.2.1
  refine ⟨fun s hs => ?_, fun i hi => ?_⟩
  · rcases (yx_l H s).mp hs with h | h
    · rw [yx_To H h, yx_Po H h, yx_isT]
      show _ ∧ ((ya_tg _ 3 (-1) (yT A s) = -1 ∧ _) ∨ (_ ∧ _ = ya_tg _ 3 (-1) (yT A s) ∧ ya_tg _ 3 (-1) (yT A s) ≠ -1))
      rw [yx_tg (by decide)]
      obtain ⟨g1, g2⟩ := hG.1 s h
      refine ⟨g1, g2.imp id (fun g => ⟨(yx_l H _).mpr (Or.inl g.1), by rw [yx_To H g.1]; exact g.2.1, g.2.2⟩)⟩
    · rw [h, yx_TZ H, yx_PZ H, yx_isT]
      show _ ∧ ((ya_tg _ 3 (-1) ty = -1 ∧ _) ∨ (_ ∧ _ = ya_tg _ 3 (-1) ty ∧ ya_tg _ 3 (-1) ty ≠ -1))
      rw [yx_tg (by decide)]
      exact ⟨H.2.1.1, H.2.1.2.1.imp (fun g => ⟨g.2, g.1⟩) (fun g => ⟨(yx_l H _).mpr (Or.inl g.1), by rw [yx_To H g.1]; exact g.2.1, g.2.2⟩)⟩
  · rw [yx_14]
    by_cases e : i = 3 * ya_fr A
    · rw [e, upd_at]
      exact H.2.1.2.2.1
    · rw [upd_ne e]
      by_cases e2 : i = 3 * ya_fr A + 2
      · rw [e2, upd_at]; decide
      · rw [upd_ne e2]
        by_cases e3 : i = 3 * ya_fr A + 1
        · rw [e3, upd_at]; decide
        · rw [upd_ne e3, upd_ne (by omega)]
          exact hG.2 i hi
theorem yb_mx (hK : yn_K t A) (ht : t < 10000) : ∀ n, n ≤ 60 → 0 ≤ (ya_mx A ty p n).toInt ∧ (ya_mx A ty p n).toInt ≤ 8 * t + 1 ∧ ∀ j, j < n → ya_tw A (nI j) ty p = true → (A 13 j).toInt < (ya_mx A ty p n).toInt
  | 0, _ => ⟨by rw [show ya_mx A ty p 0 = 0 from rfl, yl_c0]; omega, by rw [show ya_mx A ty p 0 = 0 from rfl, yl_c0]; omega, fun j hj => absurd hj (by omega)⟩
  | n + 1, hn => by
    obtain ⟨h1, h2, h3⟩ := yb_mx hK ht n (by omega)
    have hk := hK n (by omega)
    have e1 : (A 13 n + 1).toInt = (A 13 n).toInt + 1 := by rw [yl_add (by omega) (by omega) (by decide) (by decide)]; rfl
    rw [show ya_mx A ty p (n + 1) = if ya_tw A (nI n) ty p = true then (if ya_mx A ty p n < A 13 n + 1 then A 13 n + 1 else ya_mx A ty p n) else ya_mx A ty p n from rfl]
    by_cases hw : ya_tw A (nI n) ty p = true
    · rw [if_pos hw]
      by_cases hq : ya_mx A ty p n < A 13 n + 1
      · rw [if_pos hq]
        rw [Int32.lt_iff_toInt_lt, e1] at hq
        refine ⟨by omega, by omega, fun j hj hjt => ?_⟩
        by_cases e : j = n
        · rw [e, e1]; omega
        · have := h3 j (by omega) hjt
          omega
      · rw [if_neg hq]
        rw [Int32.lt_iff_toInt_lt, e1] at hq
        refine ⟨h1, h2, fun j hj hjt => ?_⟩
        by_cases e : j = n
        · rw [e]; omega
        · exact h3 j (by omega) hjt
    · rw [if_neg hw]
      refine ⟨h1, h2, fun j hj hjt => ?_⟩
      by_cases e : j = n
      · rw [e] at hjt
        exact absurd hjt hw
      · exact h3 j (by omega) hjt
/-- the ranks behind addSegment -/
theorem yx_R (H : yx_H t A ty p key here) (ht : t < 10000) {s : Int32} (hs : yl A s) : (ya_sg (ya_add A ty p key here) 13 s).toInt = if ya_twin A ty p key here ≠ -1 ∧ yT A s = ty ∧ yP A s = p ∧ (ya_sg A 13 (ya_twin A ty p key here)).toInt ≤ (ya_sg A 13 s).toInt then (ya_sg A 13 s).toInt + 1 else (ya_sg A 13 s).toInt := by
  have hin := yl_in hs
  have hn : s.toNatClampNeg ≠ ya_fr A := fun e => yx_lne H hs (by rw [← e]; exact yi_nat (yi_pos.mpr hin.1))
  have hty := ya_isT_ne H.2.1.1
  have hs60 : s.toNatClampNeg < 60 := by rw [yi_clampInt]; omega
  have hk := H.1.2.2.2.2.1 s.toNatClampNeg hs60
  rw [ya_sg_in hin, yx_13, upd_ne hn, ya_sg_in hin]
  unfold ya_rks
  by_cases hw : ya_twin A ty p key here = -1
  · rw [hw, if_neg (by decide), if_neg (fun z => z.1 rfl)]
  · have hwl := ((yb_twin H.1 H.2.1).1.resolve_left hw).1
    have hwin := yl_in hwl
    rw [if_pos (yl_isS.mpr hwin), ya_sg_in hwin]
    unfold ya_rkf
    have e0 : nI s.toNatClampNeg = s := (yi_nat (yi_pos.mpr hin.1)).symm
    rw [e0]
    by_cases q : yT A s = ty ∧ yP A s = p ∧ (A 13 (ya_twin A ty p key here).toNatClampNeg).toInt ≤ (A 13 s.toNatClampNeg).toInt
    · rw [if_pos ⟨hs60, by rw [(yb_tw hty).mpr ⟨hs, q.1, q.2.1⟩, Bool.true_and, yl_ge]; exact q.2.2⟩, if_pos ⟨hw, q⟩, yl_add (by omega) (by omega) (by decide) (by decide)]
      rfl
    · rw [if_neg (fun z => q (by
        have z2 := z.2
        rw [Bool.and_eq_true, yb_tw hty, yl_ge] at z2
        exact ⟨z2.1.2.1, z2.1.2.2, z2.2⟩)), if_neg (fun z => q z.2)]
theorem yx_RZ (H : yx_H t A ty p key here) : ya_sg (ya_add A ty p key here) 13 (nI (ya_fr A)) = if ya_twin A ty p key here = -1 then ya_mx A ty p 60 else ya_sg A 13 (ya_twin A ty p key here) := by
  rw [ya_sgn H.2.2.1, yx_13, upd_at]
  unfold ya_rank
  by_cases hw : ya_twin A ty p key here = -1
  · rw [if_pos hw, hw, if_neg (by decide)]
  · have hwl := ((yb_twin H.1 H.2.1).1.resolve_left hw).1
    rw [if_neg hw, if_pos (yl_isS.mpr (yl_in hwl)), ya_sg_in (yl_in hwl)]
theorem yx_K (H : yx_H t A ty p key here) (ht : t < 10000) : yn_K (t + 1) (ya_add A ty p key here) := by
  have hK := H.1.2.2.2.2.1
  intro i hi
  rw [yx_13]
  by_cases e : i = ya_fr A
  · rw [e, upd_at]
    unfold ya_rank
    by_cases hw : (decide (0 ≤ ya_twin A ty p key here) && decide (ya_twin A ty p key here < 60)) = true
    · rw [if_pos hw]
      have h := yl_isS.mp hw
      have := hK (ya_twin A ty p key here).toNatClampNeg (by rw [yi_clampInt]; omega)
      omega
    · rw [if_neg hw]
      have := yb_mx (ty := ty) (p := p) hK ht 60 (by omega)
      omega
  · rw [upd_ne e]
    unfold ya_rks
    have h0 := hK i hi
    by_cases hw : (decide (0 ≤ ya_twin A ty p key here) && decide (ya_twin A ty p key here < 60)) = true
    · rw [if_pos hw]
      unfold ya_rkf
      by_cases q : i < 60 ∧ (ya_tw A (nI i) ty p && decide (A 13 (ya_twin A ty p key here).toNatClampNeg ≤ A 13 i)) = true
      · rw [if_pos q, yl_add (by omega) (by omega) (by decide) (by decide), yl_c1]
        omega
      · rw [if_neg q]
        omega
    · rw [if_neg hw]
      omega
theorem yx_O (H : yx_H t A ty p key here) (ht : t < 10000) (hu : tK A ty = 0 → ∀ r, yl A r → yT A r = ty → yP A r = p → ya_N A r 0 ≠ key) : yn_O (ya_add A ty p key here) := by
  have I := H.1
  have hK := I.2.2.2.2.1
  obtain ⟨o1, o2, o3, o4, o5, o6⟩ := I.2.2.2.1
  have hty := ya_isT_ne H.2.1.1
  have hDof : ∀ {r : Int32}, yT A r = ty → sD A r = tD A ty := fun h => by show tD A (yT A _) = _; rw [h]
  have hsib : ∀ {r : Int32}, yl A r → yT A r = ty → yP A r = p → ya_beh A ty p key here r = ya_lies A ty key here r := fun h1 h2 h3 => by rw [yb_sib I H.2.1 h1 h3, if_pos h2]
  refine ⟨fun s hs hp => ?_, yx_O2 H, fun s r hs hr hd hp hT => ?_, fun s r hs hr hT hp hk hlt => ?_, fun s r hs hr hT hp hk hN => ?_, fun s r hs hr hT hp => ?_⟩
  · rcases (yx_l H s).mp hs with h | h
    · rw [yx_Po H h] at hp ⊢
      obtain ⟨g1, g2, _⟩ := yl_par I.1 I.2.1 h hp
      rw [yx_Llt H g1 h g2]
      exact o1 s h hp
    · rw [h, yx_PZ H] at hp ⊢
      obtain ⟨p1, p2, p3⟩ := yb_pD I H.2.1 hp
      exact (yx_LZlt H p1 p2).1.mpr (yb_self I hp)
  · rcases (yx_l H s).mp hs with h | h
    · rcases (yx_l H r).mp hr with g | g
      · rw [yx_Do H h, yx_Do H g] at hd
        rw [yx_Po H h, yx_Po H g] at hp
        rw [yx_To H h, yx_To H g] at hT
        rw [yx_Llt H h g hd]
        exact o3 s r h g hd hp hT
      · rw [g] at hd hp hT ⊢
        rw [yx_Do H h, yx_DZ H] at hd
        rw [yx_Po H h, yx_PZ H] at hp
        rw [yx_To H h, yx_TZ H] at hT
        refine (yx_LZlt H h hd).1.mpr ?_
        rw [yb_sib I H.2.1 h hp, if_neg (fun e => by rw [e] at hT; omega), decide_eq_true_eq, Int32.lt_iff_toInt_lt]
        exact hT
    · rw [h] at hd hp hT ⊢
      rcases (yx_l H r).mp hr with g | g
      · rw [yx_Do H g, yx_DZ H] at hd
        rw [yx_Po H g, yx_PZ H] at hp
        rw [yx_To H g, yx_TZ H] at hT
        refine (yx_LZlt H g hd.symm).2.mpr ?_
        rw [yb_sib I H.2.1 g hp.symm, if_neg (fun e => by rw [e] at hT; omega), decide_eq_false_iff_not, Int32.lt_iff_toInt_lt]
        omega
      · rw [g] at hT
        omega
  · rcases (yx_l H s).mp hs with h | h
    · rcases (yx_l H r).mp hr with g | g
      · rw [yx_To H h, yx_To H g] at hT
        rw [yx_Po H h, yx_Po H g] at hp
        rw [yx_To H h] at hk
        have hk : tK A (yT A s) ≠ 2 := fun e => hk ((yx_tg (by decide) (-1) _).trans e)
        have hd : sD A s = sD A r := by show tD A (yT A s) = tD A (yT A r); rw [hT]
        rw [yx_Llt H h g hd] at hlt
        rw [yx_N H h, yx_N H g]
        exact o4 s r h g hT hp hk hlt
      · rw [g] at hT hp hlt ⊢
        rw [yx_To H h, yx_TZ H] at hT
        rw [yx_Po H h, yx_PZ H] at hp
        rw [yx_To H h, hT] at hk
        have hk : tK A ty ≠ 2 := fun e => hk ((yx_tg (by decide) (-1) _).trans e)
        have hb := (yx_LZlt H h (hDof hT)).1.mp hlt
        rw [hsib h hT hp] at hb
        rw [yx_N H h, yx_NZ H]
        by_cases e : ya_N A s 0 = key
        · rw [e]; omega
        · unfold ya_lies at hb
          rw [decide_eq_false hk, decide_eq_false e, if_pos (by decide), decide_eq_true_eq, Int32.lt_iff_toInt_lt] at hb
          omega
    · rw [h] at hT hp hk hlt ⊢
      rcases (yx_l H r).mp hr with g | g
      · rw [yx_To H g, yx_TZ H] at hT
        rw [yx_Po H g, yx_PZ H] at hp
        rw [yx_TZ H] at hk
        have hk : tK A ty ≠ 2 := fun e => hk ((yx_tg (by decide) (-1) _).trans e)
        have hb := (yx_LZlt H g (hDof hT.symm)).2.mp hlt
        rw [hsib g hT.symm hp.symm] at hb
        rw [yx_N H g, yx_NZ H]
        by_cases e : ya_N A r 0 = key
        · rw [e]; omega
        · unfold ya_lies at hb
          rw [decide_eq_false hk, decide_eq_false e, if_pos (by decide), decide_eq_false_iff_not, Int32.lt_iff_toInt_lt] at hb
          omega
      · rw [g] at hlt
        omega
  · have hk' : tK A (yT (ya_add A ty p key here) s) = 0 := (yx_tg (by decide) (-1) _).symm.trans hk
    rcases (yx_l H s).mp hs with h | h
    · rcases (yx_l H r).mp hr with g | g
      · rw [yx_To H h, yx_To H g] at hT
        rw [yx_Po H h, yx_Po H g] at hp
        rw [yx_To H h] at hk'
        rw [yx_N H h, yx_N H g] at hN
        exact o5 s r h g hT hp hk' hN
      · rw [g] at hT hp hN
        rw [yx_To H h, yx_TZ H] at hT
        rw [yx_Po H h, yx_PZ H] at hp
        rw [yx_To H h, hT] at hk'
        rw [yx_N H h, yx_NZ H] at hN
        exact absurd hN (hu hk' s h hT hp)
    · rw [h] at hT hp hN hk'
      rcases (yx_l H r).mp hr with g | g
      · rw [yx_To H g, yx_TZ H] at hT
        rw [yx_Po H g, yx_PZ H] at hp
        rw [yx_TZ H] at hk'
        rw [yx_N H g, yx_NZ H] at hN
        exact absurd hN.symm (hu hk' r g hT.symm hp.symm)
      · exact h.trans g.symm
  · -- ranks
    have hmx := yb_mx (ty := ty) (p := p) hK ht 60 (by omega)
    have hold : ∀ {x : Int32}, yl A x → ya_sg A 13 x = A 13 x.toNatClampNeg ∧ x.toNatClampNeg < 60 ∧ nI x.toNatClampNeg = x := fun hx => by
      have := yl_in hx
      exact ⟨ya_sg_in this, by rw [yi_clampInt]; omega, (yi_nat (yi_pos.mpr this.1)).symm⟩
    have hmxr : ∀ {x : Int32}, yl A x → yT A x = ty → yP A x = p → (ya_sg A 13 x).toInt < (ya_mx A ty p 60).toInt := fun hx h1 h2 => by
      obtain ⟨a1, a2, a3⟩ := hold hx
      rw [a1]
      exact hmx.2.2 _ a2 (by rw [a3]; exact (yb_tw hty).mpr ⟨hx, h1, h2⟩)
    obtain ⟨k1, k2⟩ := yb_twin I H.2.1
    rcases (yx_l H s).mp hs with h | h
    · rcases (yx_l H r).mp hr with g | g
      · rw [yx_To H h, yx_To H g] at hT
        rw [yx_Po H h, yx_Po H g] at hp
        have hd : sD A s = sD A r := by show tD A (yT A s) = tD A (yT A r); rw [hT]
        rw [yx_Llt H h g hd, o6 s r h g hT hp, yx_R H ht h, yx_R H ht g]
        by_cases a : ya_twin A ty p key here ≠ -1 ∧ yT A s = ty ∧ yP A s = p ∧ (ya_sg A 13 (ya_twin A ty p key here)).toInt ≤ (ya_sg A 13 s).toInt
        · rw [if_pos a]
          by_cases b : ya_twin A ty p key here ≠ -1 ∧ yT A r = ty ∧ yP A r = p ∧ (ya_sg A 13 (ya_twin A ty p key here)).toInt ≤ (ya_sg A 13 r).toInt
          · rw [if_pos b]; omega
          · rw [if_neg b]
            have : ¬ (ya_sg A 13 (ya_twin A ty p key here)).toInt ≤ (ya_sg A 13 r).toInt := fun z => b ⟨a.1, hT.symm.trans a.2.1, hp.symm.trans a.2.2.1, z⟩
            omega
        · rw [if_neg a]
          by_cases b : ya_twin A ty p key here ≠ -1 ∧ yT A r = ty ∧ yP A r = p ∧ (ya_sg A 13 (ya_twin A ty p key here)).toInt ≤ (ya_sg A 13 r).toInt
          · rw [if_pos b]
            have : ¬ (ya_sg A 13 (ya_twin A ty p key here)).toInt ≤ (ya_sg A 13 s).toInt := fun z => a ⟨b.1, hT.trans b.2.1, hp.trans b.2.2.1, z⟩
            omega
          · rw [if_neg b]
      · rw [g] at hT hp ⊢
        rw [yx_To H h, yx_TZ H] at hT
        rw [yx_Po H h, yx_PZ H] at hp
        rw [(yx_LZlt H h (hDof hT)).1, hsib h hT hp, k2 s h hT hp, yx_RZ H, yx_R H ht h]
        by_cases hw : ya_twin A ty p key here = -1
        · rw [if_pos hw, if_neg (fun z => z.1 hw)]
          have := hmxr h hT hp
          exact ⟨fun _ => this, fun _ => Or.inl hw⟩
        · obtain ⟨w1, w2, w3⟩ := k1.resolve_left hw
          rw [if_neg hw]
          have e6 := o6 s _ h w1 (hT.trans w2.symm) (hp.trans w3.symm)
          by_cases a : ya_twin A ty p key here ≠ -1 ∧ yT A s = ty ∧ yP A s = p ∧ (ya_sg A 13 (ya_twin A ty p key here)).toInt ≤ (ya_sg A 13 s).toInt
          · rw [if_pos a]
            have a4 := a.2.2.2
            constructor
            · intro z
              have := e6.mp (z.resolve_left hw)
              omega
            · intro z; omega
          · rw [if_neg a]
            have : ¬ (ya_sg A 13 (ya_twin A ty p key here)).toInt ≤ (ya_sg A 13 s).toInt := fun z => a ⟨hw, hT, hp, z⟩
            constructor
            · intro z; omega
            · intro z; exact Or.inr (e6.mpr (by omega))
    · rw [h] at hT hp ⊢
      rcases (yx_l H r).mp hr with g | g
      · rw [yx_To H g, yx_TZ H] at hT
        rw [yx_Po H g, yx_PZ H] at hp
        rw [(yx_LZlt H g (hDof hT.symm)).2, hsib g hT.symm hp.symm, ← Bool.not_eq_true, k2 r g hT.symm hp.symm, yx_RZ H, yx_R H ht g]
        by_cases hw : ya_twin A ty p key here = -1
        · rw [if_pos hw, if_neg (fun z => z.1 hw)]
          have := hmxr g hT.symm hp.symm
          constructor
          · intro z; exact absurd (Or.inl hw) z
          · intro z; omega
        · obtain ⟨w1, w2, w3⟩ := k1.resolve_left hw
          rw [if_neg hw]
          have e6 := o6 r _ g w1 (hT.symm.trans w2.symm) (hp.symm.trans w3.symm)
          by_cases a : ya_twin A ty p key here ≠ -1 ∧ yT A r = ty ∧ yP A r = p ∧ (ya_sg A 13 (ya_twin A ty p key here)).toInt ≤ (ya_sg A 13 r).toInt
          · rw [if_pos a]
            have a4 := a.2.2.2
            constructor
            · intro _; omega
            · intro _ z
              have := e6.mp (z.resolve_left hw)
              omega
          · rw [if_neg a]
            have : ¬ (ya_sg A 13 (ya_twin A ty p key here)).toInt ≤ (ya_sg A 13 r).toInt := fun z => a ⟨hw, hT.symm, hp.symm, z⟩
            constructor
            · intro z; exact absurd (Or.inr (e6.mpr (by omega))) z
            · intro z; omega
      · rw [g]
        exact ⟨fun z => by omega, fun z => by omega⟩
/-- all that holds, for the memory behind addSegment -/
theorem yx_I (H : yx_H t A ty p key here) (ht : t < 10000) (h60t : (A 10 9).toInt < 60) (hu : tK A ty = 0 → ∀ r, yl A r → yT A r = ty → yP A r = p → ya_N A r 0 ≠ key) : yn_I (t + 1) (ya_add A ty p key here) := by
  refine ⟨yx_S H, yx_G H, yx_W H h60t, yx_O H ht hu, yx_K H ht, fun v hv => ?_, yn_A_c (yx_lo (by decide)) (fun k h1 h2 => yx_hi (by omega)) (by rw [yx_hi (by decide)]; exact H.1.2.2.2.2.2.2.2.2.1) H.1.2.2.2.2.2.2⟩
  have hb := yv_lt hv
  obtain ⟨h0, h1, h2, h3, h4, h5, h6, h7⟩ := H.1.2.2.2.2.2.1 v hv
  unfold yn_v
  rw [yx_hi (by omega), yx_hi (by omega), yx_hi (by omega)]
  exact ⟨h0, h1, h2.imp id (fun g => ⟨(yx_l H _).mpr (Or.inl g.1), by rw [yx_Do H g.1]; exact g.2⟩), h3, h4, h5.imp id (fun g => ⟨(yx_l H _).mpr (Or.inl g.1), by rw [yx_Do H g.1]; exact g.2⟩), h6, fun i hi => ⟨(yx_l H _).mpr (Or.inl (h7 i hi).1), (h7 i hi).2⟩⟩
end YX4
