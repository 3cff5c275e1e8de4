/-! the model's removes -/
section YRq
variable {X τ : sy_Mem} {t d : Nat} {D : Nat → Bool}
def ym_rd (τ X : sy_Mem) (D : Nat → Bool) (d : Nat) : sy_Mem := ya_cell (ya_cell τ 58 (ya_rr (X 15) (X 16) D d)) 57 (ya_rc (X 15) (X 16) D d)
theorem ym_rd_0 (M : yr_M X τ) : ym_rd τ X D 0 = τ := by
  unfold ym_rd
  show ya_cell (ya_cell τ 58 (X 15)) 57 (X 16) = τ
  have h1 : X 15 = τ 58 := M.2.1.2.2.2.2.symm
  have h2 : X 16 = τ 57 := M.2.1.2.2.2.1.symm
  rw [h1, h2, yd_self, yd_self]
theorem ym_rm1 (I : yn_I t X) (hτ : ∀ i, i < 60 → τ 56 i = ya_b (D i)) (hd : d < 3) (k' : List Value → sy_MM (Option Value)) :
    (sy_sQ (sy_sB 2 (sy_sQ (sy_sSI 2 (sy_iK 0)) (sy_sQ (sy_sB 3 (sy_sQ (sy_sSI 3 (sy_iK 0)) (sy_wh (sy_clt (sy_iL 3) (sy_iA 0 (sy_rF 6 13 (sy_rL 0)) (sy_iL 1))) (sy_sQ (sy_sB 4 (sy_sQ (sy_sSI 4 (sy_iM (sy_cv 6 2 sf_X6_segmentAt) (sy_aR (sy_rL 0) (sy_aI (sy_iL 1) (sy_aI (sy_iL 3) sy_aN))))) (sy_sI (sy_cN (sy_cI (sy_iA 1 (sy_rF 6 12 (sy_rL 0)) (sy_iL 4)))) (sy_sQ (sy_sW (sy_rF 6 14 (sy_rL 0)) (sy_iAdd (sy_iMul (sy_iK 60) (sy_iL 1)) (sy_iL 2)) (sy_iL 4)) (sy_sIn 2 1)) sy_sN))) (sy_sIn 3 1)) 1000))) (sy_sW (sy_rF 6 13 (sy_rL 0)) (sy_iL 1) (sy_iL 2))))) (sy_sIn 1 1)) [.ref 44, .int (nI d)] k' (ym_rd τ X D d) = k' [.ref 44, .int (nI (d + 1))] (ym_rd τ X D (d + 1)) := by
  have hm := yg_m I
  have hmd := hm d hd
  have hsp := yp_sp (f := X 15) (D := D) hm (d := d) (by omega)
  have hdI : 0 ≤ (nI d).toInt ∧ (nI d).toInt < 3 := by rw [nI_toInt (by omega)]; omega
  have hdi : sy_inb (nI d) 3 = true := yi_inbN hd (by omega)
  have hdc : (nI d).toNatClampNeg = d := nI_clamp (by omega)
  have hcw : ∀ i, ya_cw (ya_sp (X 15) D d) i ≤ i := yp_le
  have hrc : ya_rc (X 15) (X 16) D d d = X 16 d := yp_rc (Nat.le_refl _)
  refine es_Q (es_B (es_Q (es_SI ee_K0 (es_Q (es_B (es_Q (es_SI ee_K0 ?_)))))))
  refine es_loop (E := fun i => [.ref 44, .int (nI d), .int (nI (ya_cw (ya_sp (X 15) D d) i)), .int (nI i)]) (S := fun i => ya_cell (ya_cell τ 58 (ya_pk (ya_rr (X 15) (X 16) D d) D d i)) 57 (ya_rc (X 15) (X 16) D d)) (X 16 d).toNatClampNeg 0 1000 (by omega) (fun i _ hi => ?_) ?_ (fun i _ hi k2 => ?_) ?_
  · exact (es_cB (B := X 16 d) rfl ((ee_An (kd := 0) (a := 57) (ee_rF (ee_R rfl) rfl) (ee_L rfl) (show d < 3 by omega) (by decide)).trans (by rw [yd_at, hrc])) (by omega)).trans (by rw [decide_eq_true (by omega)])
  · exact (es_cB (B := X 16 d) rfl ((ee_An (kd := 0) (a := 57) (ee_rF (ee_R rfl) rfl) (ee_L rfl) (show d < 3 by omega) (by decide)).trans (by rw [yd_at, hrc])) (by omega)).trans (by rw [decide_eq_false (by omega)])
  · have hi' : i < (X 16 d).toNatClampNeg := by omega
    obtain ⟨hl, _, _⟩ := yg_row I hd hi'
    have hin := yl_in hl
    have hat : (ya_cell (ya_cell τ 58 (ya_pk (ya_rr (X 15) (X 16) D d) D d i)) 57 (ya_rc (X 15) (X 16) D d)) 58 (60 * d + i) = X 15 (60 * d + i) := by
      rw [yd_ne (by decide), yd_at, yp_fr (Or.inr (by rw [hsp]; have := hcw i; omega)), yp_rr hm (by omega) (by omega)]
    have hcs : ya_cw (ya_sp (X 15) D d) (i + 1) = ya_cw (ya_sp (X 15) D d) i + (if ya_sp (X 15) D d i then 1 else 0) := rfl
    refine es_Q (es_B (es_Q (es_SI (x := X 15 (60 * d + i)) (σ1 := ya_cell (ya_cell τ 58 (ya_pk (ya_rr (X 15) (X 16) D d) D d i)) 57 (ya_rc (X 15) (X 16) D d)) ((ee_M (ee_aR (ee_R rfl) (ee_aI (ee_L rfl) (ee_aI (ee_L rfl) ee_aN))) (ee_cv (ym_segR hdI (by rw [nI_toInt (by omega)]; omega)) rfl)).trans (by rw [hdc, nI_clamp (by omega), hat])) ?_)))
    have hc : sy_cN (sy_cI (sy_iA 1 (sy_rF 6 12 (sy_rL 0)) (sy_iL 4))) [.ref 44, .int (nI d), .int (nI (ya_cw (ya_sp (X 15) D d) i)), .int (nI i), .int (X 15 (60 * d + i))] (ya_cell (ya_cell τ 58 (ya_pk (ya_rr (X 15) (X 16) D d) D d i)) 57 (ya_rc (X 15) (X 16) D d)) = some (.inl (ya_sp (X 15) D d i), ya_cell (ya_cell τ 58 (ya_pk (ya_rr (X 15) (X 16) D d) D d i)) 57 (ya_rc (X 15) (X 16) D d)) :=
      ee_cN (ee_cb ((ee_A (kd := 1) (a := 56) (ee_rF (ee_R rfl) rfl) (ee_L rfl) (yi_inb.mpr hin)).trans (by rw [yd_ne (by decide), yd_ne (by decide), hτ _ (by rw [yi_clampInt]; omega)])))
    have hpk : ya_pk (ya_rr (X 15) (X 16) D d) D d (i + 1) = if ya_sp (X 15) D d i = true then upd (ya_pk (ya_rr (X 15) (X 16) D d) D d i) (60 * d + ya_cw (ya_sp (X 15) D d) i) (X 15 (60 * d + i)) else ya_pk (ya_rr (X 15) (X 16) D d) D d i := by
      rw [show ya_pk (ya_rr (X 15) (X 16) D d) D d (i + 1) = if ya_sp (ya_rr (X 15) (X 16) D d) D d i = true then upd (ya_pk (ya_rr (X 15) (X 16) D d) D d i) (60 * d + ya_cw (ya_sp (ya_rr (X 15) (X 16) D d) D d) i) (ya_rr (X 15) (X 16) D d (60 * d + i)) else ya_pk (ya_rr (X 15) (X 16) D d) D d i from rfl, hsp, yp_rr hm (by omega) (by omega)]
    rw [hpk, hcs]
    cases hp : ya_sp (X 15) D d i with
    | false =>
      rw [hp] at hc
      exact es_If hc (es_N (es_In1 rfl rfl))
    | true =>
      rw [hp] at hc
      have e1 := yl_ix (x := nI d) (y := nI (ya_cw (ya_sp (X 15) D d) i)) (c := 60) (n := 3) (m := 60) yl_c60 hdI.1 hdI.2 (by omega) (by rw [nI_toInt (by have := hcw i; omega)]; omega) (by have := hcw i; rw [nI_toInt (by omega)]; omega)
      rw [hdc, nI_clamp (by have := hcw i; omega), Int32.mul_comm] at e1
      refine es_It hc (es_Q (es_W (ee_rF (ee_R rfl) rfl) (ee_B (ee_B ee_K (ee_L rfl)) (ee_L rfl)) (ee_L rfl) e1.2.2 ?_))
      rw [e1.2.1, yd_upc (show 58 ≠ 57 by decide), yd_up]
      exact es_In1 rfl (es_In1 rfl rfl)
  · rw [Nat.zero_add]
    show sy_sW _ _ _ [.ref 44, .int (nI d), .int (nI (ya_cw (ya_sp (X 15) D d) (X 16 d).toNatClampNeg))] _ _ = _
    refine es_W (ee_rF (ee_R rfl) rfl) (ee_L rfl) (ee_L rfl) hdi ?_
    have hrc1 : upd (ya_rc (X 15) (X 16) D d) d (nI (ya_cw (ya_sp (X 15) D d) (X 16 d).toNatClampNeg)) = ya_rc (X 15) (X 16) D (d + 1) := by
      show _ = upd (ya_rc (X 15) (X 16) D d) d (nI (ya_cw (ya_sp (ya_rr (X 15) (X 16) D d) D d) (X 16 d).toNatClampNeg))
      rw [hsp]
    rw [hdc, yd_up, hrc1]
    exact es_In1 rfl rfl
def ym_del (τ X : sy_Mem) (D : Nat → Bool) : sy_Mem := ya_cell (ym_rd τ X D 3) 53 (ya_rw (fun j => if D j = true then -1 else τ 53 j) (τ 53) 60)
theorem ym_removes (I : yn_I t X) (M : yr_M X τ) (hτ : ∀ i, i < 60 → τ 56 i = ya_b (D i)) : sf_X6_removes [.ref 44] τ = some (.inl none, ym_del τ X D) := by
  have h53 : ym_rd τ X D 3 53 = τ 53 := by unfold ym_rd; rw [yd_ne (by decide), yd_ne (by decide)]
  have h56 : ∀ g, (ya_cell (ym_rd τ X D 3) 53 g) 56 = τ 56 := fun g => by unfold ym_rd; rw [yd_ne (by decide), yd_ne (by decide), yd_ne (by decide)]
  refine ee_meth ?_ rfl
  unfold sm_X6_removes
  refine es_Q (es_Q (es_B (es_Q (es_SI ee_K0 ?_))))
  refine Eq.trans (congrArg (fun Z => sy_wh _ _ _ _ _ Z) (ym_rd_0 (D := D) M).symm) ?_
  refine es_loop (E := fun d => [.ref 44, .int (nI d)]) (S := fun d => ym_rd τ X D d) 3 0 1000 (by omega) (fun d _ hd => (es_cB rfl ee_K (by omega)).trans (by rw [decide_eq_true (show d < Int32.toNatClampNeg 3 from (by show d < 3; omega))])) rfl (fun d _ hd k' => ym_rm1 I hτ (by omega) k') ?_
  show sy_sB _ _ [.ref 44] _ (ym_rd τ X D 3) = _
  refine es_B (es_Q (es_SI ee_K0 ?_))
  have h0 : ym_rd τ X D 3 = ya_cell (ym_rd τ X D 3) 53 (ya_rw (fun j => if D j = true then -1 else τ 53 j) (τ 53) 0) := by rw [ya_rw_0, ← h53, yd_self]
  refine Eq.trans (congrArg (fun Z => sy_wh _ _ _ _ _ Z) h0) ?_
  refine es_loop (E := fun i => [.ref 44, .int (nI i)]) (S := fun i => ya_cell (ym_rd τ X D 3) 53 (ya_rw (fun j => if D j = true then -1 else τ 53 j) (τ 53) i)) 60 0 1000 (by omega) (fun i _ hi => (es_c60 rfl (by omega)).trans (by rw [decide_eq_true (by omega)])) ((es_c60 rfl (by omega)).trans (by rw [decide_eq_false (by omega)])) (fun i _ hi k' => ?_) ?_
  · have hib : sy_inb (nI i) 60 = true := yi_inbN (by omega) (by omega)
    have hic : (nI i).toNatClampNeg = i := nI_clamp (by omega)
    have hg : sy_cI (sy_iA 1 (sy_rF 6 12 (sy_rL 0)) (sy_iL 1)) [.ref 44, .int (nI i)] (ya_cell (ym_rd τ X D 3) 53 (ya_rw (fun j => if D j = true then -1 else τ 53 j) (τ 53) i)) = some (.inl (D i), ya_cell (ym_rd τ X D 3) 53 (ya_rw (fun j => if D j = true then -1 else τ 53 j) (τ 53) i)) := ee_cb ((ee_An (kd := 1) (a := 56) (ee_rF (ee_R rfl) rfl) (ee_L rfl) (show i < 60 by omega) (by decide)).trans (by rw [h56, hτ i (by omega)]))
    refine es_Q (es_W (v := if D i = true then -1 else τ 53 i) (ee_rF (ee_R rfl) rfl) (ee_L rfl) (ee_iQ hg (fun _ => ee_K) (fun _ => (ee_An (kd := 0) (a := 53) (ee_rF (ee_R rfl) rfl) (ee_L rfl) (show i < 60 by omega) (by decide)).trans (by
      rw [yd_at]
      unfold ya_rw
      rw [if_neg (show ¬ i < i by omega)]))) hib ?_)
    rw [hic, yd_up, ya_rw_up (F := fun j => if D j = true then -1 else τ 53 j)]
    exact es_In1 rfl rfl
  · rw [Nat.zero_add]
    rfl
end YRq
