section LA39
variable {A B K σ τ : sy_Mem} {t v d f n j : Nat} {ty key p here : Int32}
theorem plc_child (I : yn_I t A) (H : yb_ok A ty p key here) (hd : d < 3) (hD : tD A ty = nI d) {pp : Nat} (p1 : pp < cn A d) (p2 : p = sg A d pp) (hno : ∀ r, yl A r → yP A r ≠ p) : ya_plc A ty p key here = pp + 1 := by
  have p3 : yL A p = nI pp := by
    rw [p2]
    exact (sg_ok I hd p1).2.2
  obtain ⟨c1, c2, c3, c4, c5, c6⟩ := comes_math I H hd hD (st := pp + 1) (la := yE A d pp) (Or.inr ⟨pp, p1, p2, p3, rfl, rfl⟩)
  have hla : yE A d pp = pp + 1 := by
    refine Classical.byContradiction fun e => ?_
    have h : pp + 1 < yE A d pp := by omega
    exact hno _ (sg_ok I hd (by omega)).1 (c3 h)
  exact c6 (pp + 1) (by omega) c4 (Or.inl hla.symm)
theorem shift_is (H : yx_H t A ty p key here) (hd : d < 3) {x : Int32} (hx : x = -1 ∨ (yl A x ∧ sD A x = nI d)) :
    yL (ya_add A ty p key here) x = if tD A ty = nI d then yL A x + (if decide (nI (ya_plc A ty p key here) ≤ yL A x) = true then 1 else 0) else yL A x := by
  have I := H.1
  have hP : ya_plc A ty p key here < 1000 := by
    have := (yx_c H).2
    have := H.2.2.2
    omega
  rcases hx with hx | ⟨h1, h2⟩
  · rw [hx]
    have e : decide (nI (ya_plc A ty p key here) ≤ yL A (-1)) = false := by
      refine decide_eq_false ?_
      rw [yL_m1, Int32.le_iff_toInt_le, nI_toInt (by omega)]
      show ¬ (_ : Int) ≤ -1
      omega
    rw [e, yL_m1, yL_m1]
    split <;> rfl
  · obtain ⟨q, q1, q2, q3⟩ := sg_of I h1 hd h2
    have h60 := cn_le I hd
    have hL := yx_L H h1
    rw [h2, q3, nI_toInt (by omega)] at hL
    rw [q3]
    by_cases e : tD A ty = nI d
    · rw [if_pos e]
      by_cases e2 : ya_plc A ty p key here ≤ q
      · rw [if_pos ⟨e.symm, by omega⟩] at hL
        have e3 : decide (nI (ya_plc A ty p key here) ≤ nI q) = true := decide_eq_true (by rw [Int32.le_iff_toInt_le, nI_toInt (by omega), nI_toInt (by omega)]; omega)
        rw [e3, if_pos rfl, show nI q + 1 = nI (q + 1) from nadd (b := 1)]
        exact yi_ext (by rw [hL, nI_toInt (by omega)]; omega)
      · rw [if_neg (fun h => e2 (by have := h.2; omega))] at hL
        have e3 : decide (nI (ya_plc A ty p key here) ≤ nI q) = false := decide_eq_false (by rw [Int32.le_iff_toInt_le, nI_toInt (by omega), nI_toInt (by omega)]; omega)
        rw [e3, if_neg (by decide), show nI q + 0 = nI q from nadd (b := 0)]
        exact yi_ext (by rw [hL, nI_toInt (by omega)])
    · rw [if_neg e]
      rw [if_neg (fun h => e h.1.symm)] at hL
      exact yi_ext (by rw [hL, nI_toInt (by omega)])
theorem fil_N {z : Nat} (hz : z < 60) : (∀ f : Nat, f < 3 → ya_N (ya_fil σ z j 3) (nI z) (nI f) = ya_slot σ (nI j) (nI f)) ∧ ∀ s, yl σ s → s ≠ nI z → ∀ f : Nat, f < 3 → ya_N (ya_fil σ z j 3) s (nI f) = ya_N σ s (nI f) := by
  have hfr : ∀ f : Nat, f < 3 → 0 ≤ (nI f).toInt ∧ (nI f).toInt < 3 := fun f hf => by rw [nI_toInt (by omega)]; omega
  refine ⟨fun f hf => ?_, fun s hs hne f hf => ?_⟩
  · have hin : 0 ≤ (nI z).toInt ∧ (nI z).toInt < 60 := by rw [nI_toInt (by omega)]; omega
    rw [ya_N_in hin (hfr f hf), nI_clamp (by omega), nI_clamp (by omega), ya_fil_14]
    rcases (show f = 0 ∨ f = 1 ∨ f = 2 by omega) with rfl | rfl | rfl
    · rw [upd_ne (by omega), upd_ne (by omega), upd_at]
    · rw [upd_ne (by omega), upd_at]
    · rw [upd_at]
  · obtain ⟨i, i1, rfl⟩ := sg_nI hs
    have hin : 0 ≤ (nI i).toInt ∧ (nI i).toInt < 60 := by rw [nI_toInt (by omega)]; omega
    have hiz : i ≠ z := fun e => hne (by rw [e])
    rw [ya_N_in hin (hfr f hf), ya_N_in hin (hfr f hf), nI_clamp (by omega), nI_clamp (by omega), ya_fil_14, upd_ne (by omega), upd_ne (by omega), upd_ne (by omega)]
abbrev W1 (K : sy_Mem) (v f : Nat) (p : Int32) (j : Nat) : sy_Mem := (ya_inw K f p (ya_here K v) j).1
abbrev W2 (K : sy_Mem) (v f : Nat) (p : Int32) (j : Nat) : Int32 := (ya_inw K f p (ya_here K v) j).2
abbrev WP (K : sy_Mem) (v f : Nat) (p : Int32) (j : Nat) : Nat := ya_plc (W1 K v f p j) (K 20 (f + j)) (W2 K v f p j) (ya_slot K (nI j) 0) (ya_here K v)
theorem inw_H (I : yn_I t K) (hv : v < 4) (O : yi_ok K v f p) (ht : t + 60 < 10000) (hj : f + j < lsN K) : yx_H (t + j) (W1 K v f p j) (K 20 (f + j)) (W2 K v f p j) (ya_slot K (nI j) 0) (ya_here K v) := by
  obtain ⟨n1, n2, n3, n4⟩ := lsN_is I
  have := (ci_H I hv O (n := j) (by omega) (ci_in I hv O ht j (by omega))).1
  rw [ag_nI I hj] at this
  exact this
theorem inw_D (I : yn_I t K) (hv : v < 4) (O : yi_ok K v f p) (ht : t + 60 < 10000) (hD : K (sy_vw v) 0 = nI d) (hj : f + j < lsN K) {i : Nat} (hi : f + i ≤ lsN K) : tD (W1 K v f p i) (K 20 (f + j)) = nI d := by
  obtain ⟨n1, n2, n3, n4⟩ := lsN_is I
  have g := (ci_in I hv O ht i (by omega)).2.2.1
  have e : tD (W1 K v f p i) (K 20 (f + j)) = tD K (K 20 (f + j)) := ya_tg_c (g 1 (by decide)) (g 2 (by decide)) _ _
  have := O.2.2.1 (f + j) (by omega) (by omega)
  rw [ag_nI I hj] at this
  rw [e, this, hD]
theorem inw_L (I : yn_I t K) (hv : v < 4) (O : yi_ok K v f p) (ht : t + 60 < 10000) (hj : f + j < lsN K) : yL (W1 K v f p (j + 1)) (W2 K v f p (j + 1)) = nI (WP K v f p j) := by
  have H := inw_H I hv O ht hj
  obtain ⟨n1, n2, n3, n4⟩ := lsN_is I
  have eag := ag_nI (A := K) I (k := 20) (d := -1) hj
  have e : yL (W1 K v f p (j + 1)) (W2 K v f p (j + 1)) = yL (ya_add (W1 K v f p j) (ya_ag K 20 (-1) (nI (f + j))) (W2 K v f p j) (ya_slot K (nI j) 0) (ya_here K v)) (nI (ya_fr (W1 K v f p j))) := ya_sg_c (ya_fil_ne (by decide) 3) _
  rw [e, eag, yx_LZ H]
theorem inw_pl (I : yn_I t K) (hv : v < 4) (O : yi_ok K v f p) (ht : t + 60 < 10000) (hd : d < 3) (hD : K (sy_vw v) 0 = nI d) : ∀ j, f + j < lsN K → WP K v f p j = ya_plc K (K 20 f) p (ya_slot K 0 0) (ya_here K v) + j
  | 0, _ => rfl
  | j + 1, hj => by
    obtain ⟨n1, n2, n3, n4⟩ := lsN_is I
    have ih := inw_pl I hv O ht hd hD j (by omega)
    have H1 := inw_H I hv O ht (j := j + 1) hj
    have I1 := H1.1
    obtain ⟨-, -, g4, g6⟩ := ci_in I hv O ht (j + 1) (by omega)
    obtain ⟨k1, k2, k3⟩ := g6 (by omega)
    rw [show f + (j + 1) - 1 = f + j by omega, ag_nI I (show f + j < lsN K by omega)] at k2
    have hs : sD (W1 K v f p (j + 1)) (W2 K v f p (j + 1)) = nI d := by
      show tD _ (yT _ _) = _
      rw [k2]
      exact inw_D I hv O ht hD (show f + j < lsN K by omega) (by omega)
    obtain ⟨pp, p1, p2, p3⟩ := sg_of I1 k1 hd hs
    have h60 := cn_le I1 hd
    have hLj := inw_L I hv O ht (show f + j < lsN K by omega)
    rw [p3, ih] at hLj
    have hb : WP K v f p j ≤ 60 := by
      have H0 := inw_H I hv O ht (show f + j < lsN K by omega)
      exact Nat.le_trans (yx_c H0).2 (by have := H0.2.2.2; omega)
    have hpp : pp = ya_plc K (K 20 f) p (ya_slot K 0 0) (ya_here K v) + j := by
      have := congrArg Int32.toInt hLj
      rw [nI_toInt (by omega), nI_toInt (by omega)] at this
      omega
    have := plc_child I1 H1.2.1 hd (inw_D I hv O ht hD hj (by omega)) p1 p2 k3
    show ya_plc _ _ _ _ _ = _
    rw [this, hpp]
    omega
/-- one more of the new ones, in the row -/
theorem inw_RW (I : yn_I t K) (hv : v < 4) (O : yi_ok K v f p) (ht : t + 60 < 10000) (hd : d < 3) (hD : K (sy_vw v) 0 = nI d) (hj : f + j < lsN K) (R : RW (W1 K v f p j) σ) :
    cn (W1 K v f p j) d < 60 ∧ WP K v f p j ≤ cn (W1 K v f p j) d ∧
    RW (W1 K v f p (j + 1)) (pM σ d (cn (W1 K v f p j) d) (WP K v f p j) (pL (pk (K 20 (f + j)).toInt.toNat (ya_slot K (nI j) (nI 0)).toInt.toNat (ya_slot K (nI j) (nI 1)).toInt.toNat (ya_slot K (nI j) (nI 2)).toInt.toNat))) := by
  have H := inw_H I hv O ht hj
  have I1 := H.1
  obtain ⟨n1, n2, n3, n4⟩ := lsN_is I
  have hDj := inw_D I hv O ht hD hj (show f + j ≤ lsN K by omega)
  have eag := ag_nI (A := K) I (k := 20) (d := -1) hj
  have h60 := cn_le I1 hd
  have g := (ci_in I hv O ht j (by omega)).2.2.1
  have hcl : (ya_cnt (W1 K v f p j) (tD (W1 K v f p j) (K 20 (f + j)))).toNatClampNeg = cn (W1 K v f p j) d := by
    rw [hDj, (cnt_nI I1 hd).1, nI_clamp (by omega)]
  have hP := (yx_c H).2
  have hc := H.2.2.2
  rw [hcl] at hP hc
  have hz := H.2.2.1
  have eB : W1 K v f p (j + 1) = ya_fil (ya_add (W1 K v f p j) (K 20 (f + j)) (W2 K v f p j) (ya_slot K (nI j) 0) (ya_here K v)) (ya_fr (W1 K v f p j)) j 3 := by
    show ya_fil (ya_add _ (ya_ag K 20 (-1) (nI (f + j))) _ _ _) _ _ _ = _
    rw [eag]
  obtain ⟨m1, m2⟩ := fil_N (σ := ya_add (W1 K v f p j) (K 20 (f + j)) (W2 K v f p j) (ya_slot K (nI j) 0) (ya_here K v)) (j := j) hz
  have hne : ∀ k, k ≠ 14 → W1 K v f p (j + 1) k = ya_add (W1 K v f p j) (K 20 (f + j)) (W2 K v f p j) (ya_slot K (nI j) 0) (ya_here K v) k := fun k hk => by
    rw [eB]
    exact ya_fil_ne hk 3
  have key := put_RW (B := W1 K v f p (j + 1)) H (fun k hk => hne k (by omega)) (fun s hs f hf => by
    rw [eB, m2 s ((yx_l H s).mpr (Or.inl hs)) (yx_lne H hs) f hf]
    exact yx_N H hs _) R hd hDj
  have es : ∀ a b : Int32, ya_slot (ya_add (W1 K v f p j) (K 20 (f + j)) (W2 K v f p j) (ya_slot K (nI j) 0) (ya_here K v)) a b = ya_slot K a b := fun a b => ya_slot_c ((yx_hi (by decide)).trans (g 31 (by decide))) a b
  have ez : sk (W1 K v f p (j + 1)) (nI (ya_fr (W1 K v f p j))) = pk (K 20 (f + j)).toInt.toNat (ya_slot K (nI j) (nI 0)).toInt.toNat (ya_slot K (nI j) (nI 1)).toInt.toNat (ya_slot K (nI j) (nI 2)).toInt.toNat := by
    have eT : yT (W1 K v f p (j + 1)) (nI (ya_fr (W1 K v f p j))) = K 20 (f + j) := by
      rw [show yT (W1 K v f p (j + 1)) (nI (ya_fr (W1 K v f p j))) = yT (ya_add (W1 K v f p j) (K 20 (f + j)) (W2 K v f p j) (ya_slot K (nI j) 0) (ya_here K v)) (nI (ya_fr (W1 K v f p j))) from ya_sg_c (hne 11 (by decide)) _, yx_TZ H]
    have eN : ∀ f' : Nat, f' < 3 → ya_N (W1 K v f p (j + 1)) (nI (ya_fr (W1 K v f p j))) (nI f') = ya_slot K (nI j) (nI f') := fun f' hf' => by
      rw [eB, m1 f' hf', es]
    have e0 := eN 0 (by omega)
    have e1 := eN 1 (by omega)
    have e2 := eN 2 (by omega)
    show pk (yT (W1 K v f p (j + 1)) (nI (ya_fr (W1 K v f p j)))).toInt.toNat (ya_N (W1 K v f p (j + 1)) (nI (ya_fr (W1 K v f p j))) (nI 0)).toInt.toNat (ya_N (W1 K v f p (j + 1)) (nI (ya_fr (W1 K v f p j))) (nI 1)).toInt.toNat (ya_N (W1 K v f p (j + 1)) (nI (ya_fr (W1 K v f p j))) (nI 2)).toInt.toNat = _
    rw [eT, e0, e1, e2]
  rw [ez] at key
  exact ⟨hc, hP, key⟩
end LA39
