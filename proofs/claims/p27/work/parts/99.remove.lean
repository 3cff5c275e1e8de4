/-! the component's removeDoomed -/
section YRo
variable {X Z : sy_Mem} {t d : Nat} {D : Nat → Bool} {a b c e : Nat → Int32}
theorem upd_upd {f : Nat → Int32} {i : Nat} {x y : Int32} : upd (upd f i x) i y = upd f i y := by
  funext j
  by_cases h : j = i
  · rw [h, upd_at, upd_at]
  · rw [upd_ne h, upd_ne h, upd_ne h]
theorem yt_rm1 (I : yn_I t X) (hX : ∀ i, i < 60 → X 18 i = ya_b (D i)) (hd : d < 3) (k' : List Value → sy_MM (Option Value)) :
    (sy_sQ (sy_sB 2 (sy_sQ (sy_sSI 2 (sy_iK 0)) (sy_sQ (sy_sB 3 (sy_sQ (sy_sSI 3 (sy_iK 0)) (sy_wh (sy_clt (sy_iL 3) (sy_iM (sy_cv 3 1 sf_X3_countOf) (sy_aR (sy_rL 0) (sy_aI (sy_iL 1) sy_aN)))) (sy_sQ (sy_sB 4 (sy_sQ (sy_sSI 4 (sy_iM (sy_cv 3 2 sf_X3_segmentAt) (sy_aR (sy_rL 0) (sy_aI (sy_iL 1) (sy_aI (sy_iL 3) sy_aN))))) (sy_sI (sy_cN (sy_cI (sy_iM (sy_cv 3 1 sf_X3_isDoomed) (sy_aR (sy_rL 0) (sy_aI (sy_iL 4) sy_aN))))) (sy_sQ (sy_sW (sy_rF 3 5 (sy_rL 0)) (sy_iAdd (sy_iMul (sy_iL 1) (sy_iK 60)) (sy_iL 2)) (sy_iL 4)) (sy_sIn 2 1)) sy_sN))) (sy_sIn 3 1)) 1000))) (sy_sQ (sy_sF (fun x y => x - y) 3 9 (sy_rL 0) (sy_iSub (sy_iA 0 (sy_rF 3 6 (sy_rL 0)) (sy_iL 1)) (sy_iL 2))) (sy_sQ (sy_sW (sy_rF 3 6 (sy_rL 0)) (sy_iL 1) (sy_iL 2)) (sy_sC (sy_cv 3 1 sf_X3_numberPlaces) (sy_aR (sy_rL 0) (sy_aI (sy_iL 1) sy_aN)))))))) (sy_sIn 1 1)) [.ref 10, .int (nI d)] k' (ya_rd X D d) = k' [.ref 10, .int (nI (d + 1))] (ya_rd X D (d + 1)) := by
  have hm := yg_m I
  have hmd := hm d hd
  have hsp := yp_sp (f := X 15) (D := D) hm (d := d) (by omega)
  have hdI : 0 ≤ (nI d).toInt ∧ (nI d).toInt < 3 := by rw [nI_toInt (by omega)]; omega
  have hdi : sy_inb (nI d) 3 = true := yi_inbN hd (by omega)
  have hdc : (nI d).toNatClampNeg = d := nI_clamp (by omega)
  have hcw : ∀ i, ya_cw (ya_sp (X 15) D d) i ≤ i := yp_le
  have hx16 : X 16 d = nI (X 16 d).toNatClampNeg := yi_nat (yi_pos.mpr (I.2.2.1.1 d hd).1)
  have hrc : ya_rc (X 15) (X 16) D d d = X 16 d := yp_rc (Nat.le_refl _)
  have hW : ∀ (a c e : Nat → Int32), ya_W (ya_m4 X a (ya_rc (X 15) (X 16) D d) c e) := fun a c e => m4_W I (ya_rcb I d (by omega))
  refine es_Q (es_B (es_Q (es_SI ee_K0 (es_Q (es_B (es_Q (es_SI ee_K0 ?_)))))))
  refine es_loop (E := fun i => [.ref 10, .int (nI d), .int (nI (ya_cw (ya_sp (X 15) D d) i)), .int (nI i)]) (S := fun i => ya_m4 X (ya_pk (ya_rr (X 15) (X 16) D d) D d i) (ya_rc (X 15) (X 16) D d) (ya_rp X D d) (upd (X 10) 9 (ya_rt X D d))) (X 16 d).toNatClampNeg 0 1000 (by omega) (fun i _ hi => ?_) ?_ (fun i _ hi k2 => ?_) ?_
  · exact (es_cB (B := X 16 d) rfl ((ee_M (ee_aR (ee_R rfl) (ee_aI (ee_L rfl) ee_aN)) (ee_cv (yt_X3_countOf _ _) rfl)).trans (by rw [ya_cnt_n hd, m4_16, hrc])) (by omega)).trans (by rw [decide_eq_true (by omega)])
  · exact (es_cB (B := X 16 d) rfl ((ee_M (ee_aR (ee_R rfl) (ee_aI (ee_L rfl) ee_aN)) (ee_cv (yt_X3_countOf _ _) rfl)).trans (by rw [ya_cnt_n hd, m4_16, hrc])) (by omega)).trans (by rw [decide_eq_false (by omega)])
  · have hi' : i < (X 16 d).toNatClampNeg := by omega
    obtain ⟨hl, _, _⟩ := yg_row I hd hi'
    have hin := yl_in hl
    have hat : ya_at (ya_m4 X (ya_pk (ya_rr (X 15) (X 16) D d) D d i) (ya_rc (X 15) (X 16) D d) (ya_rp X D d) (upd (X 10) 9 (ya_rt X D d))) (nI d) (nI i) = X 15 (60 * d + i) := by
      have hcn : ya_cnt (ya_m4 X (ya_pk (ya_rr (X 15) (X 16) D d) D d i) (ya_rc (X 15) (X 16) D d) (ya_rp X D d) (upd (X 10) 9 (ya_rt X D d))) (nI d) = X 16 d := by rw [ya_cnt_n hd, m4_16, hrc]
      rw [ya_at_in hdI (by rw [hcn, nI_toInt (by omega), hx16, nI_toInt (by omega)]; omega) (by rw [hcn]; exact (I.2.2.1.1 d hd).2), hdc, nI_clamp (by omega), m4_15, yp_fr (Or.inr (by rw [hsp]; have := hcw i; omega)), yp_rr hm (by omega) (by omega)]
    have hP : ya_sp (X 15) D d i = !ya_dmd D (X 15 (60 * d + i)) := by rw [ya_dmd_in hin]; rfl
    have hcs : ya_cw (ya_sp (X 15) D d) (i + 1) = ya_cw (ya_sp (X 15) D d) i + (if ya_sp (X 15) D d i then 1 else 0) := rfl
    refine es_Q (es_B (es_Q (es_SI (x := X 15 (60 * d + i)) (σ1 := ya_m4 X (ya_pk (ya_rr (X 15) (X 16) D d) D d i) (ya_rc (X 15) (X 16) D d) (ya_rp X D d) (upd (X 10) 9 (ya_rt X D d))) ((ee_M (ee_aR (ee_R rfl) (ee_aI (ee_L rfl) (ee_aI (ee_L rfl) ee_aN))) (ee_cv (yt_X3_segmentAt (hW _ _ _) _ _) rfl)).trans (by rw [hat])) ?_)))
    have hc : sy_cN (sy_cI (sy_iM (sy_cv 3 1 sf_X3_isDoomed) (sy_aR (sy_rL 0) (sy_aI (sy_iL 4) sy_aN)))) [.ref 10, .int (nI d), .int (nI (ya_cw (ya_sp (X 15) D d) i)), .int (nI i), .int (X 15 (60 * d + i))] (ya_m4 X (ya_pk (ya_rr (X 15) (X 16) D d) D d i) (ya_rc (X 15) (X 16) D d) (ya_rp X D d) (upd (X 10) 9 (ya_rt X D d))) = some (.inl (ya_sp (X 15) D d i), ya_m4 X (ya_pk (ya_rr (X 15) (X 16) D d) D d i) (ya_rc (X 15) (X 16) D d) (ya_rp X D d) (upd (X 10) 9 (ya_rt X D d))) := (ee_cN (ee_cb (ee_M (ee_aR (ee_R rfl) (ee_aI (ee_L rfl) ee_aN)) (ee_cv (yt_X3_isDoomed (hW _ _ _) _) rfl)))).trans (by rw [yd_isD (D := D) (fun j hj => by rw [m4_ne (by decide) (by decide) (by decide) (by decide)]; exact hX j hj), hP])
    have hpk : ya_pk (ya_rr (X 15) (X 16) D d) D d (i + 1) = if ya_sp (X 15) D d i = true then upd (ya_pk (ya_rr (X 15) (X 16) D d) D d i) (60 * d + ya_cw (ya_sp (X 15) D d) i) (X 15 (60 * d + i)) else ya_pk (ya_rr (X 15) (X 16) D d) D d i := by
      rw [show ya_pk (ya_rr (X 15) (X 16) D d) D d (i + 1) = if ya_sp (ya_rr (X 15) (X 16) D d) D d i = true then upd (ya_pk (ya_rr (X 15) (X 16) D d) D d i) (60 * d + ya_cw (ya_sp (ya_rr (X 15) (X 16) D d) D d) i) (ya_rr (X 15) (X 16) D d (60 * d + i)) else ya_pk (ya_rr (X 15) (X 16) D d) D d i from rfl, hsp, yp_rr hm (by omega) (by omega)]
    rw [hpk, hcs]
    cases hp : ya_sp (X 15) D d i with
    | false =>
      rw [hp] at hc
      exact es_If hc (es_N (es_In1 rfl rfl))
    | true =>
      rw [hp] at hc
      have e1 := yl_ix (x := nI d) (y := nI (ya_cw (ya_sp (X 15) D d) i)) (c := 60) (n := 3) (m := 60) yl_c60 hdI.1 hdI.2 (by omega) (by rw [nI_toInt (by have := hcw i; omega)]; omega) (by have := hcw i; rw [nI_toInt (by omega)]; omega)
      rw [hdc, nI_clamp (by have := hcw i; omega)] at e1
      refine es_It hc (es_Q (es_W (ee_rF (ee_R rfl) rfl) (ee_B (ee_B (ee_L rfl) ee_K) (ee_L rfl)) (ee_L rfl) e1.2.2 ?_))
      rw [e1.2.1, m4_u15]
      exact es_In1 rfl (es_In1 rfl rfl)
  · rw [Nat.zero_add]
    have hdc60 : ya_nc X D d ≤ 60 := by unfold ya_nc; have := hcw (X 16 d).toNatClampNeg; omega
    show sy_sQ _ _ [.ref 10, .int (nI d), .int (nI (ya_nc X D d))] _ _ = _
    refine es_Q (es_F (ee_R rfl) (ee_B ((ee_An (kd := 0) (a := 16) (ee_rF (ee_R rfl) rfl) (ee_L rfl) (show d < 3 by omega) (by decide)).trans (by rw [m4_16, hrc])) (ee_L rfl)) rfl ?_)
    rw [m4_u10, m4_10, upd_at, upd_upd]
    refine es_Q (es_W (ee_rF (ee_R rfl) rfl) (ee_L rfl) (ee_L rfl) hdi ?_)
    rw [hdc, m4_u16]
    have hrc1 : upd (ya_rc (X 15) (X 16) D d) d (nI (ya_nc X D d)) = ya_rc (X 15) (X 16) D (d + 1) := by
      show _ = upd (ya_rc (X 15) (X 16) D d) d (nI (ya_cw (ya_sp (ya_rr (X 15) (X 16) D d) D d) (X 16 d).toNatClampNeg))
      rw [hsp]
      rfl
    rw [hrc1]
    refine es_C (ee_aR (ee_R rfl) (ee_aI (ee_L rfl) ee_aN)) (ee_cv (yt_X3_numberPlaces (m4_W I (ya_rcb I (d + 1) (by omega))) (nI d)) rfl) ?_
    rw [ya_cnt_n hd, m4_16, show ya_rc (X 15) (X 16) D (d + 1) d = nI (ya_nc X D d) from yp_rcat hm (by omega) (by omega), nI_clamp (by omega), m4_c17]
    refine es_In1 rfl ?_
    have hpl : ∀ (e1 e2 : Nat → Int32) (n : Nat), ya_pls (ya_m4 X (ya_pk (ya_rr (X 15) (X 16) D d) D d (X 16 d).toNatClampNeg) (ya_rc (X 15) (X 16) D (d + 1)) (ya_rp X D d) e1) (nI d) n = ya_pls (ya_m4 X (ya_rr (X 15) (X 16) D (d + 1)) (ya_rc (X 15) (X 16) D (d + 1)) (ya_rp X D d) e2) (nI d) n := fun e1 e2 n => ya_pls_c (B := ya_m4 X (ya_pk (ya_rr (X 15) (X 16) D d) D d (X 16 d).toNatClampNeg) (ya_rc (X 15) (X 16) D (d + 1)) (ya_rp X D d) e1) (A := ya_m4 X (ya_rr (X 15) (X 16) D (d + 1)) (ya_rc (X 15) (X 16) D (d + 1)) (ya_rp X D d) e2) (d := nI d) (fun q => rfl) rfl n
    rw [hpl _ (X 10)]
    rfl
/-- the dead ones -/
def ya_kl (Z : sy_Mem) (D : Nat → Bool) (i : Nat) : sy_Mem := ya_cell (ya_cell (ya_cell Z 11 (ya_rw (fun j => if D j = true then -1 else Z 11 j) (Z 11) i)) 12 (ya_rw (fun j => if D j = true then -1 else Z 12 j) (Z 12) i)) 17 (ya_rw (fun j => if D j = true then -1 else Z 17 j) (Z 17) i)
theorem ya_kl_0 : ya_kl Z D 0 = Z := by
  unfold ya_kl
  rw [ya_rw_0, ya_rw_0, ya_rw_0, yd_self, yd_self, yd_self]
theorem ya_kl_ne {i k : Nat} (h1 : k ≠ 11) (h2 : k ≠ 12) (h3 : k ≠ 17) : ya_kl Z D i k = Z k := by
  unfold ya_kl
  rw [yd_ne h3, yd_ne h2, yd_ne h1]
theorem ya_kl_up {i : Nat} (h : D i = true) : sy_up (sy_up (sy_up (ya_kl Z D i) 11 i (-1)) 12 i (-1)) 17 i (-1) = ya_kl Z D (i + 1) := by
  have hu : ∀ f : Nat → Int32, upd (ya_rw (fun j => if D j = true then -1 else f j) f i) i (-1) = ya_rw (fun j => if D j = true then -1 else f j) f (i + 1) := fun f => by
    rw [← ya_rw_up (F := fun j => if D j = true then -1 else f j), if_pos h]
  unfold ya_kl
  rw [yd_upc (show 11 ≠ 17 by decide), yd_upc (show 11 ≠ 12 by decide), yd_up, yd_upc (show 12 ≠ 17 by decide), yd_up, yd_up, hu, hu, hu]
theorem ya_kl_st {i : Nat} (h : ¬ D i = true) : ya_kl Z D (i + 1) = ya_kl Z D i := by
  unfold ya_kl
  rw [ya_rw_st (show (if D i = true then -1 else Z 11 i) = Z 11 i from if_neg h), ya_rw_st (show (if D i = true then -1 else Z 12 i) = Z 12 i from if_neg h), ya_rw_st (show (if D i = true then -1 else Z 17 i) = Z 17 i from if_neg h)]
def ya_del (X : sy_Mem) (D : Nat → Bool) : sy_Mem := ya_cell (ya_kl (ya_rd X D 3) D 60) 18 (ya_rw (fun _ => 0) (X 18) 60)
theorem yt_X3_removeDoomed (I : yn_I t X) (hX : ∀ i, i < 60 → X 18 i = ya_b (D i)) : sf_X3_removeDoomed [.ref 10] X = some (.inl none, ya_del X D) := by
  have h18 : ∀ i, (ya_kl (ya_rd X D 3) D i) 18 = X 18 := fun i => (ya_kl_ne (by decide) (by decide) (by decide)).trans (m4_ne (by decide) (by decide) (by decide) (by decide))
  refine ee_meth ?_ rfl
  unfold sm_X3_removeDoomed
  refine es_Q (es_Q (es_B (es_Q (es_SI ee_K0 ?_))))
  refine Eq.trans (congrArg (fun Z => sy_wh _ _ _ _ _ Z) (ya_rd_0 (X := X) (D := D)).symm) ?_
  refine es_loop (E := fun d => [.ref 10, .int (nI d)]) (S := fun d => ya_rd X D d) 3 0 1000 (by omega) (fun d _ hd => (es_cB rfl ee_K (by omega)).trans (by rw [decide_eq_true (show d < Int32.toNatClampNeg 3 from (by show d < 3; omega))])) rfl (fun d _ hd k' => yt_rm1 I hX (by omega) k') ?_
  show sy_sQ _ _ [.ref 10] _ (ya_rd X D 3) = _
  refine es_Q (es_B (es_Q (es_SI ee_K0 ?_)))
  refine Eq.trans (congrArg (fun Z => sy_wh _ _ _ _ _ Z) (ya_kl_0 (Z := ya_rd X D 3) (D := D)).symm) ?_
  refine es_loop (E := fun i => [.ref 10, .int (nI i)]) (S := fun i => ya_kl (ya_rd X D 3) D i) 60 0 1000 (by omega) (fun i _ hi => (es_c60 rfl (by omega)).trans (by rw [decide_eq_true (by omega)])) ((es_c60 rfl (by omega)).trans (by rw [decide_eq_false (by omega)])) (fun i _ hi k' => ?_) ?_
  · have hib : sy_inb (nI i) 60 = true := yi_inbN (by omega) (by omega)
    have hic : (nI i).toNatClampNeg = i := nI_clamp (by omega)
    have hc : sy_cI (sy_iA 1 (sy_rF 3 8 (sy_rL 0)) (sy_iL 1)) [.ref 10, .int (nI i)] (ya_kl (ya_rd X D 3) D i) = some (.inl (D i), ya_kl (ya_rd X D 3) D i) := ee_cb ((ee_An (kd := 1) (a := 18) (ee_rF (ee_R rfl) rfl) (ee_L rfl) (show i < 60 by omega) (by decide)).trans (by rw [h18, hX i (by omega)]))
    by_cases h : D i = true
    · refine es_Q (es_It (hc.trans (by rw [h])) (es_Q (es_W (ee_rF (ee_R rfl) rfl) (ee_L rfl) ee_K hib (es_Q (es_W (ee_rF (ee_R rfl) rfl) (ee_L rfl) ee_K hib (es_W (ee_rF (ee_R rfl) rfl) (ee_L rfl) ee_K hib ?_))))))
      rw [hic, ya_kl_up h]
      exact es_In1 rfl rfl
    · rw [ya_kl_st h]
      exact es_Q (es_If (hc.trans (by rw [show D i = false by simpa using h])) (es_N (es_In1 rfl rfl)))
  · rw [Nat.zero_add]
    show sy_sC _ _ [.ref 10] _ _ = _
    refine es_C (ee_aR (ee_R rfl) ee_aN) (ee_cv yt_X3_spareAll rfl) ?_
    rw [h18]
    rfl
end YRo
