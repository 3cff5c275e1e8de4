/-! the turn of delete -/
section YWd
variable {A B σ τ : sy_Mem} {t v : Nat} {got : Int32} {D : Nat → Bool}
def ya_re18 (σ : sy_Mem) : sy_Mem := fun k => if k = 18 then fun _ => 0 else σ k
theorem ya_re18_c (h : ∀ k, k ≠ 18 → B k = A k) : ya_re18 B = ya_re18 A := by
  funext k
  unfold ya_re18
  by_cases hk : k = 18
  · rw [if_pos hk, if_pos hk]
  · rw [if_neg hk, if_neg hk, h k hk]
theorem yn_G_re18 : yn_G (ya_re18 A) = yn_G A := rfl
theorem yn_W_re18 : yn_W (ya_re18 A) = yn_W A := rfl
theorem yn_O_re18 : yn_O (ya_re18 A) = yn_O A := rfl
theorem yn_A_re18 : yn_A (ya_re18 A) = yn_A A := rfl
theorem yr_S_re18 : yr_S (ya_re18 A) τ = yr_S A τ := rfl
theorem yr_G_re18 : yr_G (ya_re18 A) τ = yr_G A τ := rfl
theorem yr_A_re18 : yr_A (ya_re18 A) τ = yr_A A τ := rfl
theorem yn_I_18 (I : yn_I t A) (h : ∀ k, k ≠ 18 → B k = A k) : yn_I t B := by
  obtain ⟨iS, iG, iW, iO, iK, iV, iA⟩ := I
  have e := ya_re18_c h
  have el : ∀ s, yl B s = yl A s := fun s => yl_c (h 11 (by decide)) s
  have eD : ∀ s, sD B s = sD A s := fun s => sD_c (h 1 (by decide)) (h 2 (by decide)) (h 11 (by decide)) s
  refine ⟨by rw [yn_S_9 (fun k hk => h k (by omega))]; exact iS, by rw [← yn_G_re18, e, yn_G_re18]; exact iG, by rw [← yn_W_re18, e, yn_W_re18]; exact iW, by rw [← yn_O_re18, e, yn_O_re18]; exact iO, fun i hi => by rw [h 13 (by decide)]; exact iK i hi, fun v hv => ?_, by rw [← yn_A_re18, e, yn_A_re18]; exact iA⟩
  have hb := yv_lt hv
  obtain ⟨h0, h1, h2, h3, h4, h5, h6, h7⟩ := iV v hv
  unfold yn_v
  rw [h _ (by omega), h _ (by omega), h _ (by omega)]
  refine ⟨h0, h1, h2.imp id (fun g => ⟨?_, (eD _).trans g.2⟩), h3, h4, h5.imp id (fun g => ⟨?_, (eD _).trans g.2⟩), h6, fun i hi => ⟨?_, (h7 i hi).2⟩⟩
  · rw [el]; exact g.1
  · rw [el]; exact g.1
  · rw [el]; exact (h7 i hi).1
theorem yr_M_18 (M : yr_M A τ) (h : ∀ k, k ≠ 18 → B k = A k) : yr_M B τ := by
  obtain ⟨mS, mG, mV, mA⟩ := M
  have e := ya_re18_c h
  refine ⟨by rw [← yr_S_re18, e, yr_S_re18]; exact mS, by rw [← yr_G_re18, e, yr_G_re18]; exact mG, fun v hv => ?_, by rw [← yr_A_re18, e, yr_A_re18]; exact mA⟩
  have hb := yv_lt hv
  obtain ⟨b0, b1, b2, b3, b4, b5, b6⟩ := mV v hv
  have hm : ya_mode B v = ya_mode A v := ya_mode_c (v := v) (h _ (by omega))
  unfold yr_v
  rw [h _ (by omega), h _ (by omega), h _ (by omega), hm]
  exact ⟨b0, b1, b2, b3, b4, b5, b6⟩
theorem ee_iQf {env : List Value} {c : sy_CE} {a b : sy_IE} {y : Int32} {σ1 σ2 : sy_Mem} (hc : c env σ = some (.inl false, σ1)) (hb : b env σ1 = some (.inl y, σ2)) : sy_iQ c a b env σ = some (.inl y, σ2) := by
  unfold sy_iQ; rw [sy_bnd_at hc]; exact hb
theorem yw_delF (I : yn_I t A) (M : yr_M A τ) (hg : yl A got) (hv : v < 4) {h : Nat} (hh : 1 ≤ h ∧ h ≤ 4) (h23 : τ 44 23 = nI h) (h65 : τ 65 (4 * v + (h - 1)) = got) : ∃ st A' τ',
    sf_X5_deleteFrom [.ref 0, .int got] A = some (.inl (some (.int st)), A') ∧ sf_X6_deletes [.ref 44, .int (nI v)] τ = some (.inl (some (.int st)), τ') ∧
    yn_I t A' ∧ yr_M A' τ' ∧ (∀ k, 44 ≤ k → A' k = A k) ∧ ym_fw τ τ' ∧ τ' 44 36 = τ 44 36 := by
  have W := yn_Wo I
  have hx18 : ∀ k, k ≠ 18 → yd A (ya_dm A got 60) k = A k := fun k hk => yd_ne hk
  have I0 : yn_I t (yd A (ya_dm A got 60)) := yn_I_18 I hx18
  have M0 : yr_M (yd A (ya_dm A got 60)) (ye τ (ya_dm A got 60)) := yr_M_18 (ye_M M) hx18
  have hX0 : ∀ i, i < 60 → yd A (ya_dm A got 60) 18 i = ya_b (ya_dm A got 60 i) := fun i hi => by unfold yd; rw [yd_at, ya_rw_lt hi]
  have hτ0 : ∀ i, i < 60 → ye τ (ya_dm A got 60) 56 i = ya_b (ya_dm A got 60 i) := fun i hi => by unfold ye; rw [yd_at, ya_rw_lt hi]
  have W0 := yn_Wo I0
  have hne0 : decide (nI h = 0) = false := decide_eq_false (fun e => by
    have := congrArg Int32.toInt e
    rw [nI_toInt (by omega), yl_c0] at this
    omega)
  -- the model, up to its check
  have e1 := yl_ix (x := nI v) (y := nI (h - 1)) (c := 4) (n := 4) (m := 4) yl_c4 (by rw [nI_toInt (by omega)]; omega) (by rw [nI_toInt (by omega)]; omega) (by omega) (by rw [nI_toInt (by omega)]; omega) (by rw [nI_toInt (by omega)]; omega)
  rw [Int32.mul_comm, nI_clamp (by omega), nI_clamp (by omega)] at e1
  have hmA : sy_cN (sy_cI (sy_iM (sy_cv 6 1 sf_X6_marksAll) (sy_aR (sy_rL 0) (sy_aI (sy_iA 0 (sy_rF 6 21 (sy_rL 0)) (sy_iSub (sy_iAdd (sy_iMul (sy_iK 4) (sy_iL 1)) (sy_iF 6 23 (sy_rL 0))) (sy_iK 1))) sy_aN)))) [.ref 44, .int (nI v)] τ = some (.inl (ya_bnd A (ya_dm A got 60) got), ye τ (ya_dm A got 60)) := by
    have hs : 4 * nI v + nI h - 1 = 4 * nI v + nI (h - 1) := by
      rw [← nI_sub1 hh.1 (by omega), Int32.sub_eq_add_neg, Int32.sub_eq_add_neg, Int32.add_assoc]
    have hix : sy_iSub (sy_iAdd (sy_iMul (sy_iK 4) (sy_iL 1)) (sy_iF 6 23 (sy_rL 0))) (sy_iK 1) [.ref 44, .int (nI v)] τ = some (.inl (4 * nI v + nI (h - 1)), τ) := (ee_B (ee_B (ee_B ee_K (ee_L rfl)) (ee_F (ee_R rfl) rfl)) ee_K).trans (by rw [h23, hs])
    have hgt : sy_iA 0 (sy_rF 6 21 (sy_rL 0)) (sy_iSub (sy_iAdd (sy_iMul (sy_iK 4) (sy_iL 1)) (sy_iF 6 23 (sy_rL 0))) (sy_iK 1)) [.ref 44, .int (nI v)] τ = some (.inl got, τ) := (ee_A (kd := 0) (a := 65) (ee_rF (ee_R rfl) rfl) hix e1.2.2).trans (by rw [e1.2.1, h65])
    exact (ee_cN (ee_cb (ee_M (ee_aR (ee_R rfl) (ee_aI hgt ee_aN)) (ee_cv (ym_marksAll M I hg) rfl)))).trans (by rw [Bool.not_not])
  have hm0 : sy_ceq (sy_iF 6 23 (sy_rL 0)) (sy_iK 0) [.ref 44, .int (nI v)] τ = some (.inl false, τ) := (ee_cB (ee_F (ee_R rfl) rfl) ee_K).trans (by rw [h23, hne0])
  have hbC : sy_cI (sy_iM (sy_cv 5 1 sf_X5_isBound) (sy_aR (sy_rL 0) (sy_aI (sy_iL 1) sy_aN))) [.ref 0, .int got] (yd A (ya_dm A got 60)) = some (.inl (ya_bnd A (ya_dm A got 60) got), yd A (ya_dm A got 60)) := (ee_cb (ee_M (ee_aR (ee_R rfl) (ee_aI (ee_L rfl) ee_aN)) (ee_cv (yt_X5_isBound W0 _) rfl))).trans (by rw [yd_bnd])
  cases hbd : ya_bnd A (ya_dm A got 60) got with
  | true =>
    rw [hbd] at hmA hbC
    refine ⟨12, _, _, ?_, ?_, I0, M0, fun k hk => hx18 k (by omega), fun k hk => yd_ne (by omega), by unfold ye; rw [yd_ne (by decide)]⟩
    · refine ee_meth ?_ rfl
      unfold sm_X5_deleteFrom
      exact yt_marks W (es_Q (es_It hbC (es_eI ee_K)))
    · refine ee_meth ?_ rfl
      unfold sm_X6_deletes
      exact es_Q (es_If hm0 (es_N (es_Q (es_It hmA (es_eI ee_K)))))
  | false =>
    rw [hbd] at hmA hbC
    obtain ⟨Xf, τf, cf, mf, If, Mf, ff, gf, pf⟩ := yw_leaves 4 0 _ _ rfl I0 M0 hX0 hτ0 (fun w hw => absurd hw (by omega)) got (nI v)
    have hXf : ∀ i, i < 60 → Xf 18 i = ya_b (ya_dm A got 60 i) := fun i hi => by rw [ff 18 (by omega)]; exact hX0 i hi
    have hτf : ∀ i, i < 60 → τf 56 i = ya_b (ya_dm A got 60 i) := fun i hi => by rw [gf 56 (by omega)]; exact hτ0 i hi
    have e11 : Xf 11 = A 11 := by rw [ff 11 (by omega), hx18 11 (by decide)]
    have e12 : Xf 12 = A 12 := by rw [ff 12 (by omega), hx18 12 (by decide)]
    have ok : yd_ok Xf (ya_dm A got 60) := fun s hs hp hd => by
      have eP : yP Xf s = yP A s := ya_sg_c e12 s
      rw [yl_c e11] at hs
      rw [eP] at hp hd
      exact yd_dm I got 60 s hs hp hd
    refine ⟨0, _, _, ?_, ?_, yn_del If ok pf, yr_del Mf, fun k hk => by rw [ya_del_ne (by omega), ff k (by omega), hx18 k (by omega)], fun k hk => ?_, ?_⟩
    · refine ee_meth ?_ rfl
      unfold sm_X5_deleteFrom
      exact yt_marks W (es_Q (es_If hbC (es_N (es_Q (es_B (es_Q (es_SI ee_K0 ((cf _ 1000 (by omega)).trans (es_Q (es_C (ee_aR (ee_rF (ee_R rfl) rfl) ee_aN) (ee_cv (yt_X3_removeDoomed If hXf) rfl) (es_eI ee_K)))))))))))
    · refine ee_meth ?_ rfl
      unfold sm_X6_deletes
      exact es_Q (es_If hm0 (es_N (es_Q (es_If hmA (es_N (es_Q (es_B (es_Q (es_SI ee_K0 ((mf _ 1000 (by omega)).trans (es_Q (es_C (ee_aR (ee_R rfl) ee_aN) (ee_cv (ym_removes If Mf hτf) rfl) (es_eI ee_K)))))))))))))
    · rw [ym_del_ne (by omega) (by omega) (by omega), gf k (by omega)]
      exact yd_ne (by omega)
    · rw [ym_del_ne (by decide) (by decide) (by decide), gf 44 (by omega)]
      unfold ye
      rw [yd_ne (by decide)]
end YWd
