section LA50
variable {A B X M τ σ : sy_Mem} {t v d : Nat} {s got st : Int32} {D : Nat → Bool}
/-- where a view's mark is, once what is doomed is left -/
def MK (D : Nat → Bool) (X Y : sy_Mem) (v : Nat) : Prop := (Y (sy_vw v) 0 = X (sy_vw v) 0 ∧ Y (sy_vw v) 1 = X (sy_vw v) 1) ∧
  (ya_dmd D (X (sy_vw v) 2) = false → Y (sy_vw v) 2 = X (sy_vw v) 2 ∧ Y (sy_vw v) 3 = X (sy_vw v) 3 ∧ Y (sy_vw v) 4 = X (sy_vw v) 4) ∧
  (ya_dmd D (X (sy_vw v) 2) = true → Y (sy_vw v) 2 = ya_spb X D (X (sy_vw v) 2) ∧ Y (sy_vw v) 3 = 0 ∧ Y (sy_vw v) 4 = ya_b (decide (ya_spb X D (X (sy_vw v) 2) = -1))) ∧
  (Y (sy_vw v) 6 = X (sy_vw v) 6 ∨ Y (sy_vw v) 6 = 0)
theorem ct_s1 (I : yn_I t X) (hv : v < 4) (hX : ∀ i, i < 60 → X 18 i = ya_b (D i)) : ∃ X1,
    (∀ k : List Value → sy_MM (Option Value), sy_sI (sy_cI (sy_iM (sy_cv 3 1 sf_X3_isDoomed) (sy_aR (sy_rF 5 1 (sy_rL 0)) (sy_aI (sy_iM (sy_cv 4 0 sf_X4_mark) (sy_aR (sy_rL 1) sy_aN)) sy_aN)))) (sy_sC (sy_cv 4 1 sf_X4_standAheadOf) (sy_aR (sy_rL 1) (sy_aI (sy_iM (sy_cv 3 1 sf_X3_sparedBehind) (sy_aR (sy_rF 5 1 (sy_rL 0)) (sy_aI (sy_iM (sy_cv 4 0 sf_X4_mark) (sy_aR (sy_rL 1) sy_aN)) sy_aN))) sy_aN))) sy_sN [.ref 0, .ref (sy_vw v)] k X = k [.ref 0, .ref (sy_vw v)] X1) ∧ yn_I t X1 ∧ (∀ k, k ≠ sy_vw v → X1 k = X k) ∧ ya_dmd D (X1 (sy_vw v) 2) = false ∧ X1 (sy_vw v) 5 = X (sy_vw v) 5 ∧ X1 (sy_vw v) 6 = X (sy_vw v) 6 ∧ MK D X X1 v := by
  have W := yn_Wo I
  have hb := yv_lt hv
  have hm0 := (I.2.2.2.2.2.1 v hv).2.2.1
  have hc : sy_cI (sy_iM (sy_cv 3 1 sf_X3_isDoomed) (sy_aR (sy_rF 5 1 (sy_rL 0)) (sy_aI (sy_iM (sy_cv 4 0 sf_X4_mark) (sy_aR (sy_rL 1) sy_aN)) sy_aN))) [.ref 0, .ref (sy_vw v)] X = some (.inl (ya_dmd D (X (sy_vw v) 2)), X) := (ee_cb (ee_M (ee_aR (ee_rF (ee_R rfl) rfl) (ee_aI (ee_M (ee_aR (ee_R rfl) ee_aN) (ee_cv (yt_X4_mark _ hv) (yv_rc hv rfl))) ee_aN)) (ee_cv (yt_X3_isDoomed W _) rfl))).trans (by rw [yd_isD hX])
  cases hd : ya_dmd D (X (sy_vw v) 2) with
  | false =>
    rw [hd] at hc
    exact ⟨X, fun k => es_If hc rfl, I, fun _ _ => rfl, hd, rfl, rfl, ⟨rfl, rfl⟩, fun _ => ⟨rfl, rfl, rfl⟩, (fun h => by rw [hd] at h; cases h), Or.inl rfl⟩
  | true =>
    rw [hd] at hc
    obtain ⟨hs, hsD⟩ : yl X (X (sy_vw v) 2) ∧ sD X (X (sy_vw v) 2) = X (sy_vw v) 0 := by
      rcases hm0 with e | e
      · rw [e] at hd
        cases hd
      · exact e
    obtain ⟨f1, f2, f3, f4, f5⟩ := ya_fsp_eq I hs hd
    have hp := yg_pl I hs
    have hD := yl_sD I.1 I.2.1 hs
    have hcn := yg_cnt I hD
    have hcl : ((ya_cnt X (sD X (X (sy_vw v) 2))).toNatClampNeg : Int) = (ya_cnt X (sD X (X (sy_vw v) 2))).toInt := by rw [yi_clampInt]; omega
    have hatl : ∀ i, i < (ya_cnt X (sD X (X (sy_vw v) 2))).toNatClampNeg → yl X (ya_at X (sD X (X (sy_vw v) 2)) (nI i)) ∧ sD X (ya_at X (sD X (X (sy_vw v) 2)) (nI i)) = X (sy_vw v) 0 := fun i hi => by
      have g := yg_at I hD (yg_pn I hD hi)
      exact ⟨g.1, g.2.1.trans hsD⟩
    have hspl : ya_spb X D (X (sy_vw v) 2) = -1 ∨ (yl X (ya_spb X D (X (sy_vw v) 2)) ∧ sD X (ya_spb X D (X (sy_vw v) 2)) = X (sy_vw v) 0) := by
      rw [f5]
      by_cases e : ya_fsp X D (X (sy_vw v) 2) < (ya_cnt X (sD X (X (sy_vw v) 2))).toNatClampNeg
      · rw [if_pos e]; exact Or.inr (hatl _ e)
      · rw [if_neg e]; exact Or.inl rfl
    have hspd : ya_dmd D (ya_spb X D (X (sy_vw v) 2)) = false := by
      rw [f5]
      by_cases e : ya_fsp X D (X (sy_vw v) 2) < (ya_cnt X (sD X (X (sy_vw v) 2))).toNatClampNeg
      · rw [if_pos e]; exact f4 e
      · rw [if_neg e]; rfl
    have at_ : ∀ i, ya_stand X v (ya_spb X D (X (sy_vw v) 2)) 0 (ya_b (decide (ya_spb X D (X (sy_vw v) 2) = -1))) (sy_vw v) i = if i = 4 then ya_b (decide (ya_spb X D (X (sy_vw v) 2) = -1)) else if i = 3 then 0 else if i = 2 then ya_spb X D (X (sy_vw v) 2) else X (sy_vw v) i := fun i => ya_stand_at
    refine ⟨ya_stand X v (ya_spb X D (X (sy_vw v) 2)) 0 (ya_b (decide (ya_spb X D (X (sy_vw v) 2) = -1))), fun k => ?_, ?_, fun k hk => ya_stand_ne hk, ?_, at_ 5, at_ 6, ⟨at_ 0, at_ 1⟩, (fun h => by rw [hd] at h; cases h), fun _ => ⟨at_ 2, at_ 3, at_ 4⟩, Or.inl (at_ 6)⟩
    · exact es_It hc (es_C (ee_aR (ee_R rfl) (ee_aI (ee_M (ee_aR (ee_rF (ee_R rfl) rfl) (ee_aI (ee_M (ee_aR (ee_R rfl) ee_aN) (ee_cv (yt_X4_mark _ hv) (yv_rc hv rfl))) ee_aN)) (ee_cv (yt_X3_sparedBehind I hX hs) rfl)) ee_aN)) (ee_cv (yt_X4_standAheadOf _ hv _) (yv_rc hv rfl)) rfl)
    · refine yn_stand I hv hspl (Or.inl rfl) ?_
      by_cases e : ya_spb X D (X (sy_vw v) 2) = -1
      · rw [decide_eq_true e]; exact Or.inr ⟨rfl, e⟩
      · rw [decide_eq_false e]; exact Or.inl rfl
    · rw [at_ 2]
      exact hspd
theorem ct_s2 (I : yn_I t X) (hv : v < 4) (hX : ∀ i, i < 60 → X 18 i = ya_b (D i)) : ∃ X1,
    (∀ k : List Value → sy_MM (Option Value), sy_sI (sy_cI (sy_iM (sy_cv 3 1 sf_X3_isDoomed) (sy_aR (sy_rF 5 1 (sy_rL 0)) (sy_aI (sy_iM (sy_cv 4 0 sf_X4_parentSegment) (sy_aR (sy_rL 1) sy_aN)) sy_aN)))) (sy_sC (sy_cv 4 1 sf_X4_setParent) (sy_aR (sy_rL 1) (sy_aI (sy_iK (-1)) sy_aN))) sy_sN [.ref 0, .ref (sy_vw v)] k X = k [.ref 0, .ref (sy_vw v)] X1) ∧ yn_I t X1 ∧ (∀ k, k ≠ sy_vw v → X1 k = X k) ∧ ya_dmd D (X1 (sy_vw v) 5) = false ∧ ∀ i, i ≠ 5 → X1 (sy_vw v) i = X (sy_vw v) i := by
  have W := yn_Wo I
  have hb := yv_lt hv
  have h5 := (I.2.2.2.2.2.1 v hv).2.2.2.2.2.1
  have hc : sy_cI (sy_iM (sy_cv 3 1 sf_X3_isDoomed) (sy_aR (sy_rF 5 1 (sy_rL 0)) (sy_aI (sy_iM (sy_cv 4 0 sf_X4_parentSegment) (sy_aR (sy_rL 1) sy_aN)) sy_aN))) [.ref 0, .ref (sy_vw v)] X = some (.inl (ya_dmd D (X (sy_vw v) 5)), X) := (ee_cb (ee_M (ee_aR (ee_rF (ee_R rfl) rfl) (ee_aI (ee_M (ee_aR (ee_R rfl) ee_aN) (ee_cv (yt_X4_parentSegment _ hv) (yv_rc hv rfl))) ee_aN)) (ee_cv (yt_X3_isDoomed W _) rfl))).trans (by rw [yd_isD hX])
  cases hd : ya_dmd D (X (sy_vw v) 5) with
  | false =>
    rw [hd] at hc
    exact ⟨X, fun k => es_If hc rfl, I, fun _ _ => rfl, hd, fun _ _ => rfl⟩
  | true =>
    rw [hd] at hc
    exact ⟨sy_up X (sy_vw v) 5 (-1), fun k => es_It hc (es_C (ee_aR (ee_R rfl) (ee_aI ee_K ee_aN)) (ee_cv (yt_X4_setParent _ hv _) (yv_rc hv rfl)) rfl), yn_setpar I hv (Or.inl rfl), fun k hk => yu_ne hk, by rw [yu_at]; rfl, fun i hi => yu_an hi⟩
theorem ct_s3 (I : yn_I t X) (hv : v < 4) (hX : ∀ i, i < 60 → X 18 i = ya_b (D i)) {kC : List Value → sy_MM (Option Value)} (hkC : ∀ i ρ, kC [.ref 0, .ref (sy_vw v), .int (nI i)] ρ = some (.inl none, ρ)) : ∃ X1,
    sy_wh (sy_clt (sy_iL 2) (sy_iM (sy_cv 4 0 sf_X4_heldCount) (sy_aR (sy_rL 1) sy_aN))) (sy_sQ (sy_sI (sy_cI (sy_iM (sy_cv 3 1 sf_X3_isDoomed) (sy_aR (sy_rF 5 1 (sy_rL 0)) (sy_aI (sy_iM (sy_cv 4 1 sf_X4_heldAt) (sy_aR (sy_rL 1) (sy_aI (sy_iL 2) sy_aN))) sy_aN)))) (sy_sC (sy_cv 4 0 sf_X4_release) (sy_aR (sy_rL 1) sy_aN)) sy_sN) (sy_sIn 2 1)) 1000 [.ref 0, .ref (sy_vw v), .int (nI 0)] kC X = some (.inl none, X1) ∧ yn_I t X1 ∧ (∀ k, k ≠ sy_vw v → X1 k = X k) ∧ (∀ i, i ≠ 6 → X1 (sy_vw v) i = X (sy_vw v) i) ∧ (X1 (sy_vw v) 6 = X (sy_vw v) 6 ∨ X1 (sy_vw v) 6 = 0) ∧ ∀ i : Nat, (i : Int) < (X1 (sy_vw v) 6).toInt → ya_dmd D (X1 (sy_vw v + 1) i) = false := by
  have W := yn_Wo I
  have hb := yv_lt hv
  obtain ⟨q1, q4, q6⟩ := yv_hold I hv
  have hvi : sy_inb (nI v) 4 = true := yi_inbN hv (by omega)
  have hvc : (nI v).toNatClampNeg = v := nI_clamp (by omega)
  have hC := es_hit (c := sy_clt (sy_iL 2) (sy_iM (sy_cv 4 0 sf_X4_heldCount) (sy_aR (sy_rL 1) sy_aN))) (s := sy_sQ (sy_sI (sy_cI (sy_iM (sy_cv 3 1 sf_X3_isDoomed) (sy_aR (sy_rF 5 1 (sy_rL 0)) (sy_aI (sy_iM (sy_cv 4 1 sf_X4_heldAt) (sy_aR (sy_rL 1) (sy_aI (sy_iL 2) sy_aN))) sy_aN)))) (sy_sC (sy_cv 4 0 sf_X4_release) (sy_aR (sy_rL 1) sy_aN)) sy_sN) (sy_sIn 2 1)) (E := fun i => [.ref 0, .ref (sy_vw v), .int (nI i)]) (P := fun i => ya_dmd D (ya_held X v (nI i))) (σ := X) (σ' := sy_up X (sy_vw v) 6 0) (k := kC) (N := (X (sy_vw v) 6).toNatClampNeg)
    (fun i hi => (es_cB (B := X (sy_vw v) 6) rfl (ee_M (ee_aR (ee_R rfl) ee_aN) (ee_cv (yt_X4_heldCount _ hv) (yv_rc hv rfl))) (by omega)).trans (by rw [decide_eq_true (by omega)]))
    ((es_cB (B := X (sy_vw v) 6) rfl (ee_M (ee_aR (ee_R rfl) ee_aN) (ee_cv (yt_X4_heldCount _ hv) (yv_rc hv rfl))) (by omega)).trans (by rw [decide_eq_false (by omega)]))
    (fun i hi => (es_cB (B := 0) rfl ((ee_M (ee_aR (ee_R rfl) ee_aN) (ee_cv (yt_X4_heldCount _ hv) (yv_rc hv rfl))).trans (by rw [yu_at])) (by omega)).trans (by rw [show Int32.toNatClampNeg 0 = 0 from rfl, decide_eq_false (by omega)]))
    (fun i hi k' => by
      have hc : sy_cI (sy_iM (sy_cv 3 1 sf_X3_isDoomed) (sy_aR (sy_rF 5 1 (sy_rL 0)) (sy_aI (sy_iM (sy_cv 4 1 sf_X4_heldAt) (sy_aR (sy_rL 1) (sy_aI (sy_iL 2) sy_aN))) sy_aN))) [.ref 0, .ref (sy_vw v), .int (nI i)] X = some (.inl (ya_dmd D (ya_held X v (nI i))), X) := (ee_cb (ee_M (ee_aR (ee_rF (ee_R rfl) rfl) (ee_aI (ee_M (ee_aR (ee_R rfl) (ee_aI (ee_L rfl) ee_aN)) (ee_cv (yt_X4_heldAt _ hv _) (yv_rc hv rfl))) ee_aN)) (ee_cv (yt_X3_isDoomed W _) rfl))).trans (by rw [yd_isD hX])
      cases hd : ya_dmd D (ya_held X v (nI i)) with
      | false =>
        rw [if_neg (by decide)]
        exact es_Q (es_If (hc.trans (by rw [hd])) (es_N (es_In1 rfl rfl)))
      | true =>
        rw [if_pos rfl]
        exact es_Q (es_It (hc.trans (by rw [hd])) (es_C (ee_aR (ee_R rfl) ee_aN) (ee_cv (yt_X4_release _ hv) (yv_rc hv rfl)) (es_In1 rfl rfl))))
    hkC (X (sy_vw v) 6).toNatClampNeg 0 1000 (by omega) (by omega)
  cases hff : ya_ff (fun i => ya_dmd D (ya_held X v (nI i))) (X (sy_vw v) 6).toNatClampNeg 0 with
  | none =>
    rw [hff] at hC
    refine ⟨X, hC, I, fun _ _ => rfl, fun _ _ => rfl, Or.inl rfl, fun i hi => ?_⟩
    have := ya_ff_none.mp hff i (by omega) (by omega)
    rw [(yv_held I hv hi).1] at this
    exact this
  | some j =>
    rw [hff] at hC
    refine ⟨sy_up X (sy_vw v) 6 0, hC, yn_release I hv, fun k hk => yu_ne hk, fun i hi => yu_an hi, Or.inr yu_at, fun i hi => ?_⟩
    rw [show (sy_up X (sy_vw v) 6 0) (sy_vw v) 6 = 0 from yu_at, yl_c0] at hi
    omega
theorem ct_leave (I : yn_I t X) (hv : v < 4) (hX : ∀ i, i < 60 → X 18 i = ya_b (D i)) : ∃ X1, sf_X5_leaveDoomed [.ref 0, .ref (sy_vw v)] X = some (.inl none, X1) ∧ yn_I t X1 ∧ (∀ k, k ≠ sy_vw v → X1 k = X k) ∧ yv_sp D X1 v ∧ MK D X X1 v := by
  have hb := yv_lt hv
  obtain ⟨X1, c1, I1, f1, p1, p2, p3, mk⟩ := ct_s1 I hv hX
  have hX1 : ∀ i, i < 60 → X1 18 i = ya_b (D i) := fun i hi => by rw [f1 18 (by omega)]; exact hX i hi
  obtain ⟨X2, c2, I2, f2, q2, q3⟩ := ct_s2 I1 hv hX1
  have hX2 : ∀ i, i < 60 → X2 18 i = ya_b (D i) := fun i hi => by rw [f2 18 (by omega)]; exact hX1 i hi
  obtain ⟨X3, c3, I3, f3, r1, r2, r3⟩ := ct_s3 (kC := fun env' => sy_eV (env'.take 2) (fun _ => sy_fail)) I2 hv hX2 (fun _ _ => rfl)
  refine ⟨X3, ?_, I3, fun k hk => by rw [f3 k hk, f2 k hk, f1 k hk], ⟨by rw [r1 2 (by decide), q3 2 (by decide)]; exact p1, by rw [r1 5 (by decide)]; exact q2, r3⟩, ?_⟩
  · refine ee_meth ?_ rfl
    unfold sm_X5_leaveDoomed
    refine es_Q (es_Q (es_If (ee_c0 (ee_R rfl)) (es_N (es_Q ((c1 _).trans (es_Q ((c2 _).trans (es_B (es_Q (es_SI ee_K0 c3))))))))))
  · obtain ⟨⟨m0, m1⟩, m2, m3, m4⟩ := mk
    have e : ∀ i, i ≠ 5 → i ≠ 6 → X3 (sy_vw v) i = X1 (sy_vw v) i := fun i h1 h2 => (r1 i h2).trans (q3 i h1)
    refine ⟨⟨by rw [e 0 (by decide) (by decide)]; exact m0, by rw [e 1 (by decide) (by decide)]; exact m1⟩, fun h => ?_, fun h => ?_, ?_⟩
    · rw [e 2 (by decide) (by decide), e 3 (by decide) (by decide), e 4 (by decide) (by decide)]
      exact m2 h
    · rw [e 2 (by decide) (by decide), e 3 (by decide) (by decide), e 4 (by decide) (by decide)]
      exact m3 h
    · rcases r2 with r2 | r2
      · rw [r2, q3 6 (by decide)]
        exact m4
      · exact Or.inr r2
theorem spb_c {Y : sy_Mem} (h : ∀ k, k < 18 → Y k = X k) (s : Int32) : ya_spb Y D s = ya_spb X D s := by
  have eD : sD Y s = sD X s := by
    show tD Y (yT Y s) = tD X (yT X s)
    rw [show yT Y s = yT X s from ya_sg_c (h 11 (by omega)) s]
    exact ya_tg_c (h 1 (by omega)) (h 2 (by omega)) _ _
  have eL : yL Y s = yL X s := ya_sg_c (h 17 (by omega)) s
  have eC : ∀ a, ya_cnt Y a = ya_cnt X a := fun a => by
    unfold ya_cnt
    rw [h 16 (by omega)]
  have eA : ∀ a b, ya_at Y a b = ya_at X a b := fun a b => by
    unfold ya_at
    rw [h 15 (by omega), h 16 (by omega)]
  unfold ya_spb
  rw [eD, eL, eC]
  have e1 : (fun i : Nat => !ya_dmd D (ya_at Y (sD X s) (nI i))) = (fun i : Nat => !ya_dmd D (ya_at X (sD X s) (nI i))) := funext fun i => by rw [eA]
  have e2 : (fun i : Nat => ya_at Y (sD X s) (nI i)) = (fun i : Nat => ya_at X (sD X s) (nI i)) := funext fun i => eA _ _
  rw [e1, e2]
theorem MK_c {Y Z : sy_Mem} (h : ∀ k, k < 18 → Y k = X k) (hv : Y (sy_vw v) = X (sy_vw v)) (m : MK D Y Z v) : MK D X Z v := by
  unfold MK at m ⊢
  rw [hv, spb_c h] at m
  exact m
theorem ct_leaves : ∀ (n v : Nat) (X : sy_Mem), v + n = 4 → yn_I t X → (∀ i, i < 60 → X 18 i = ya_b (D i)) → (∀ w, w < v → yv_sp D X w) → ∀ a : Int32, ∃ Xf,
    (∀ (k : List Value → sy_MM (Option Value)) (m : Nat), n < m → sy_wh (sy_clt (sy_iL 2) (sy_iN (sy_rF 5 4 (sy_rL 0)))) (sy_sQ (sy_sC (sy_cv 5 1 sf_X5_leaveDoomed) (sy_aR (sy_rL 0) (sy_aR (sy_rV (sy_rF 5 4 (sy_rL 0)) (sy_iL 2)) sy_aN))) (sy_sIn 2 1)) m [.ref 0, .int a, .int (nI v)] k X = k [.ref 0, .int a, .int (nI 4)] Xf) ∧
    yn_I t Xf ∧ (∀ k, k < 32 ∨ 44 ≤ k → Xf k = X k) ∧ (∀ w, w < 4 → yv_sp D Xf w) ∧ (∀ w, w < v → Xf (sy_vw w) = X (sy_vw w)) ∧ ∀ w, w < 4 → v ≤ w → MK D X Xf w
  | 0, v, X, h, I, hX, hs, a => by
    have e : v = 4 := by omega
    subst e
    refine ⟨X, fun k m hm => ?_, I, fun _ _ => rfl, hs, fun _ _ => rfl, fun w h1 h2 => absurd h1 (by omega)⟩
    obtain ⟨m, rfl⟩ : ∃ z, m = z + 1 := ⟨m - 1, by omega⟩
    unfold sy_wh
    rw [sy_bnd_at (show sy_clt (sy_iL 2) (sy_iN (sy_rF 5 4 (sy_rL 0))) [.ref 0, .int a, .int (nI 4)] X = some (.inl false, X) from rfl)]
    rfl
  | n + 1, v, X, h, I, hX, hs, a => by
    have hv : v < 4 := by omega
    have hb := yv_lt hv
    obtain ⟨X1, c1, I1, f1, p1, mk⟩ := ct_leave I hv hX
    have hvw : ∀ w, w ≠ v → sy_vw w ≠ sy_vw v ∧ sy_vw w + 1 ≠ sy_vw v := fun w hw => by unfold sy_vw; omega
    obtain ⟨Xf, cf, If, ff, pf, gf, mf⟩ := ct_leaves n (v + 1) X1 (by omega) I1 (fun i hi => by rw [f1 18 (by omega)]; exact hX i hi) (fun w hw => by
      by_cases e : w = v
      · rw [e]; exact p1
      · have q := hs w (by omega)
        unfold yv_sp
        rw [f1 _ (hvw w e).1, f1 _ (hvw w e).2]
        exact q) a
    have hvb : (nI v).toNatClampNeg = v := nI_clamp (by omega)
    refine ⟨Xf, fun k m hm => ?_, If, fun k hk => by rw [ff k hk, f1 k (by omega)], pf, fun w hw => by rw [gf w (by omega), f1 _ (hvw w (by omega)).1], fun w h1 h2 => ?_⟩
    · obtain ⟨m, rfl⟩ : ∃ z, m = z + 1 := ⟨m - 1, by omega⟩
      unfold sy_wh
      have hlt : sy_clt (sy_iL 2) (sy_iN (sy_rF 5 4 (sy_rL 0))) [.ref 0, .int a, .int (nI v)] X = some (.inl true, X) := by
        rcases (show v = 0 ∨ v = 1 ∨ v = 2 ∨ v = 3 by omega) with rfl | rfl | rfl | rfl <;> rfl
      rw [sy_bnd_at hlt]
      rw [if_pos rfl]
      refine es_Q (es_C (ee_aR (ee_R rfl) (ee_aR (x := sy_vw v) ((ee_V (ee_rF (ee_R rfl) rfl) (ee_L rfl) (yi_inbN hv (by omega))).trans (by rw [hvb])) ee_aN)) (ee_cv c1 rfl) (es_In1 rfl (cf k m (by omega))))
    · by_cases e : w = v
      · subst e
        unfold MK at mk ⊢
        rw [gf w (by omega)]
        exact mk
      · exact MK_c (fun k hk => f1 k (by omega)) (f1 _ (hvw w e).1) (mf w h1 (by omega))
/-- what a delete comes to -/
theorem ct_delF (I : yn_I t A) (hg : yl A got) (hD : ya_dm A got 60 = D) :
    (ya_bnd A D got = true → sf_X5_deleteFrom [.ref 0, .int got] A = some (.inl (some (.int 12)), yd A D) ∧ yn_I t (yd A D)) ∧
    (ya_bnd A D got = false → ∃ Xf, sf_X5_deleteFrom [.ref 0, .int got] A = some (.inl (some (.int 0)), ya_del Xf D) ∧ yn_I t (ya_del Xf D) ∧ yn_I t Xf ∧ (∀ k, (k < 32 ∨ 44 ≤ k) → k ≠ 18 → Xf k = A k) ∧ ∀ w, w < 4 → MK D A Xf w) := by
  have W := yn_Wo I
  have hx18 : ∀ k, k ≠ 18 → yd A D k = A k := fun k hk => yd_ne hk
  have I0 : yn_I t (yd A D) := yn_I_18 I hx18
  have hX0 : ∀ i, i < 60 → yd A D 18 i = ya_b (D i) := fun i hi => by unfold yd; rw [yd_at, ya_rw_lt hi]
  have W0 := yn_Wo I0
  have hbC : sy_cI (sy_iM (sy_cv 5 1 sf_X5_isBound) (sy_aR (sy_rL 0) (sy_aI (sy_iL 1) sy_aN))) [.ref 0, .int got] (yd A D) = some (.inl (ya_bnd A D got), yd A D) := (ee_cb (ee_M (ee_aR (ee_R rfl) (ee_aI (ee_L rfl) ee_aN)) (ee_cv (yt_X5_isBound W0 _) rfl))).trans (by rw [yd_bnd])
  subst hD
  refine ⟨fun hbd => ⟨?_, I0⟩, fun hbd => ?_⟩
  · rw [hbd] at hbC
    refine ee_meth ?_ rfl
    unfold sm_X5_deleteFrom
    exact yt_marks W (es_Q (es_It hbC (es_eI ee_K)))
  · rw [hbd] at hbC
    obtain ⟨Xf, cf, If, ff, pf, -, mf⟩ := ct_leaves 4 0 (yd A (ya_dm A got 60)) rfl I0 hX0 (fun w hw => absurd hw (by omega)) got
    have hXf : ∀ i, i < 60 → Xf 18 i = ya_b (ya_dm A got 60 i) := fun i hi => by rw [ff 18 (by omega)]; exact hX0 i hi
    have e11 : Xf 11 = A 11 := by rw [ff 11 (by omega), hx18 11 (by decide)]
    have e12 : Xf 12 = A 12 := by rw [ff 12 (by omega), hx18 12 (by decide)]
    have ok : yd_ok Xf (ya_dm A got 60) := fun s hs hp hd => by
      have eP : yP Xf s = yP A s := ya_sg_c e12 s
      rw [yl_c e11] at hs
      rw [eP] at hp hd
      exact yd_dm I got 60 s hs hp hd
    refine ⟨Xf, ?_, yn_del If ok pf, If, fun k hk h18 => (ff k hk).trans (hx18 k h18), fun w hw => ?_⟩
    · refine ee_meth ?_ rfl
      unfold sm_X5_deleteFrom
      exact yt_marks W (es_Q (es_If hbC (es_N (es_Q (es_B (es_Q (es_SI ee_K0 ((cf _ 1000 (by omega)).trans (es_Q (es_C (ee_aR (ee_rF (ee_R rfl) rfl) ee_aN) (ee_cv (yt_X3_removeDoomed If hXf) rfl) (es_eI ee_K)))))))))))
    · have hb := yv_lt hw
      exact MK_c (fun k hk => hx18 k (by omega)) (hx18 _ (by omega)) (mf w hw (by omega))
theorem h_delete (hv : v < 4) (W : ya_W τ) (hl : ya_X4_lastHeld τ v ≠ -1) (h : sf_X5_deleteFrom [.ref 0, .int (ya_X4_lastHeld τ v)] (sy_up τ (sy_vw v) 6 0) = some (.inl (some (.int st)), M)) : sf_L_delete [.ref 0, .int (nI v)] τ = some (.inl (some (.int st)), sy_up M 19 0 0) := by
  have hc : sf_X5_delete [.ref 0, .int (nI v)] τ = some (.inl (some (.int st)), sy_up M 19 0 0) := by
    have e := (vw4 hv).2
    have hvo := yt_X5_viewOf τ (nI v)
    rw [e] at hvo
    refine ee_meth ?_ rfl
    unfold sm_X5_delete
    refine es_Q ((es_SRx (ee_aR (ee_R rfl) (ee_aI (ee_L rfl) ee_aN)) (ee_cv hvo rfl) (r := some (.inl (some (.int st)), sy_up M 19 0 0)) (fun hx => ?_)).trans (by rw [if_pos (vw4 hv).1]))
    refine es_Q (es_SI (ee_M (ee_aR (ee_R rfl) ee_aN) (ee_cv (yt_X4_lastHeld W hv) (yv_rc hv rfl))) (es_Q (es_C (ee_aR (ee_R rfl) ee_aN) (ee_cv (yt_X4_release τ hv) (yv_rc hv rfl)) ?_)))
    refine es_Q (es_SI (ee_iQ2 ((ee_cB (ee_L rfl) ee_K).trans (by rw [decide_eq_false hl])) (ee_M (ee_aR (ee_R rfl) (ee_aI (ee_L rfl) ee_aN)) (ee_cv h rfl))) ?_)
    exact es_Q (es_E (ee_M (ee_aR (ee_rF (ee_R rfl) rfl) ee_aN) (ee_cv (yt_X0_drop _) rfl)) (es_eI (ee_L rfl)))
  exact ke_meth (kh_I (ee_aR (ee_R rfl) (ee_aI (ee_L rfl) ee_aN)) (ee_cv hc rfl)) (Nat.le_of_ble_eq_true rfl)
theorem h_delete6 (hv : v < 4) (W : ya_W τ) (hl : ya_X4_lastHeld τ v = -1) : sf_L_delete [.ref 0, .int (nI v)] τ = some (.inl (some (.int 6)), sy_up (sy_up τ (sy_vw v) 6 0) 19 0 0) := by
  have hc : sf_X5_delete [.ref 0, .int (nI v)] τ = some (.inl (some (.int 6)), sy_up (sy_up τ (sy_vw v) 6 0) 19 0 0) := by
    have e := (vw4 hv).2
    have hvo := yt_X5_viewOf τ (nI v)
    rw [e] at hvo
    refine ee_meth ?_ rfl
    unfold sm_X5_delete
    refine es_Q ((es_SRx (ee_aR (ee_R rfl) (ee_aI (ee_L rfl) ee_aN)) (ee_cv hvo rfl) (r := some (.inl (some (.int 6)), sy_up (sy_up τ (sy_vw v) 6 0) 19 0 0)) (fun hx => ?_)).trans (by rw [if_pos (vw4 hv).1]))
    refine es_Q (es_SI (ee_M (ee_aR (ee_R rfl) ee_aN) (ee_cv (yt_X4_lastHeld W hv) (yv_rc hv rfl))) (es_Q (es_C (ee_aR (ee_R rfl) ee_aN) (ee_cv (yt_X4_release τ hv) (yv_rc hv rfl)) ?_)))
    refine es_Q (es_SI (ee_iQ1 ((ee_cB (ee_L rfl) ee_K).trans (by rw [decide_eq_true hl])) ee_K) ?_)
    exact es_Q (es_E (ee_M (ee_aR (ee_rF (ee_R rfl) rfl) ee_aN) (ee_cv (yt_X0_drop _) rfl)) (es_eI (ee_L rfl)))
  exact ke_meth (kh_I (ee_aR (ee_R rfl) (ee_aI (ee_L rfl) ee_aN)) (ee_cv hc rfl)) (Nat.le_of_ble_eq_true rfl)
end LA50
