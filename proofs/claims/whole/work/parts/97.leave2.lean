section YLw
variable {X τ : sy_Mem} {t v : Nat} {s : Int32} {D : Nat → Bool}
theorem es_hit {c : sy_CE} {s : sy_S} {E : Nat → List Value} {P : Nat → Bool} {σ σ' : sy_Mem} {k : List Value → sy_MM (Option Value)} {N : Nat} (hc : ∀ i, i < N → c (E i) σ = some (.inl true, σ)) (he : c (E N) σ = some (.inl false, σ)) (hc' : ∀ i, i ≤ N → c (E i) σ' = some (.inl false, σ')) (hs : ∀ i, i < N → ∀ k', s (E i) k' σ = k' (E (i + 1)) (if P i = true then σ' else σ)) (hk : ∀ i ρ, k (E i) ρ = some (.inl none, ρ)) :
    ∀ n i m : Nat, i + n = N → n < m → sy_wh c s m (E i) k σ = some (.inl none, if (ya_ff P n i).isSome = true then σ' else σ)
  | 0, i, m + 1, hi, _ => by
    rw [Nat.add_zero] at hi
    subst hi
    unfold sy_wh
    rw [sy_bnd_at he]
    exact hk _ _
  | n + 1, i, m + 1, hi, hm => by
    unfold sy_wh
    rw [sy_bnd_at (hc i (by omega))]
    show s (E i) _ σ = _
    rw [hs i (by omega), show ya_ff P (n + 1) i = if P i then some i else ya_ff P n (i + 1) from rfl]
    cases hP : P i with
    | false =>
      show sy_wh c s m (E (i + 1)) k σ = some (Sum.inl none, if (ya_ff P n (i + 1)).isSome = true then σ' else σ)
      exact es_hit hc he hc' hs hk n (i + 1) m (by omega) (by omega)
    | true =>
      obtain ⟨m, rfl⟩ : ∃ z, m = z + 1 := ⟨m - 1, by omega⟩
      show sy_wh c s (m + 1) (E (i + 1)) k σ' = some (Sum.inl none, σ')
      unfold sy_wh
      rw [sy_bnd_at (hc' (i + 1) (by omega))]
      exact hk _ _
  | _, _, 0, _, hm => absurd hm (by omega)
def yv_sp (D : Nat → Bool) (X : sy_Mem) (v : Nat) : Prop := ya_dmd D (X (sy_vw v) 2) = false ∧ ya_dmd D (X (sy_vw v) 5) = false ∧ ∀ i : Nat, (i : Int) < (X (sy_vw v) 6).toInt → ya_dmd D (X (sy_vw v + 1) i) = false
theorem yl_gone {env : List Value} {e : sy_IE} {ρ : sy_Mem} (I : yn_I t X) (hρ : ∀ i, i < 60 → ρ 56 i = ya_b (D i)) (h0 : env[0]? = some (.ref 44)) (he : e env ρ = some (.inl s, ρ)) (hs : yl X s) : sy_cI (sy_iA 1 (sy_rF 6 12 (sy_rL 0)) e) env ρ = some (.inl (ya_dmd D s), ρ) := by
  have hin := yl_in hs
  refine ee_cb ((ee_A (kd := 1) (a := 56) (ee_rF (ee_R h0) rfl) he (yi_inb.mpr hin)).trans ?_)
  rw [hρ _ (by rw [yi_clampInt]; omega), ya_dmd_in hin]
theorem yl_s2 (I : yn_I t X) (M : yr_M X τ) (hv : v < 4) (hX : ∀ i, i < 60 → X 18 i = ya_b (D i)) (hτ : ∀ i, i < 60 → τ 56 i = ya_b (D i)) : ∃ X1 τ1,
    (∀ k : List Value → sy_MM (Option Value), sy_sI (sy_cI (sy_iM (sy_cv 3 1 sf_X3_isDoomed) (sy_aR (sy_rF 5 1 (sy_rL 0)) (sy_aI (sy_iM (sy_cv 4 0 sf_X4_parentSegment) (sy_aR (sy_rL 1) sy_aN)) sy_aN)))) (sy_sC (sy_cv 4 1 sf_X4_setParent) (sy_aR (sy_rL 1) (sy_aI (sy_iK (-1)) sy_aN))) sy_sN [.ref 0, .ref (sy_vw v)] k X = k [.ref 0, .ref (sy_vw v)] X1) ∧
    (∀ k : List Value → sy_MM (Option Value), sy_sW (sy_rF 6 19 (sy_rL 0)) (sy_iL 1) (sy_iQ (sy_cA (sy_cne (sy_iA 0 (sy_rF 6 19 (sy_rL 0)) (sy_iL 1)) (sy_iK (-1))) (sy_cI (sy_iA 1 (sy_rF 6 12 (sy_rL 0)) (sy_iA 0 (sy_rF 6 19 (sy_rL 0)) (sy_iL 1))))) (sy_iK (-1)) (sy_iA 0 (sy_rF 6 19 (sy_rL 0)) (sy_iL 1))) [.ref 44, .int (nI v)] k τ = k [.ref 44, .int (nI v)] τ1) ∧
    yn_I t X1 ∧ yr_M X1 τ1 ∧ (∀ k, k ≠ sy_vw v → X1 k = X k) ∧ (∀ k, k ≠ 63 → τ1 k = τ k) ∧ X1 (sy_vw v) 2 = X (sy_vw v) 2 ∧ ya_dmd D (X1 (sy_vw v) 5) = false ∧ X1 (sy_vw v) 6 = X (sy_vw v) 6 := by
  have W := yn_Wo I
  have hb := yv_lt hv
  have h5 := (I.2.2.2.2.2.1 v hv).2.2.2.2.2.1
  have hvi : sy_inb (nI v) 4 = true := yi_inbN hv (by omega)
  have hvc : (nI v).toNatClampNeg = v := nI_clamp (by omega)
  have hc : sy_cI (sy_iM (sy_cv 3 1 sf_X3_isDoomed) (sy_aR (sy_rF 5 1 (sy_rL 0)) (sy_aI (sy_iM (sy_cv 4 0 sf_X4_parentSegment) (sy_aR (sy_rL 1) sy_aN)) sy_aN))) [.ref 0, .ref (sy_vw v)] X = some (.inl (ya_dmd D (X (sy_vw v) 5)), X) := (ee_cb (ee_M (ee_aR (ee_rF (ee_R rfl) rfl) (ee_aI (ee_M (ee_aR (ee_R rfl) ee_aN) (ee_cv (yt_X4_parentSegment _ hv) (yv_rc hv rfl))) ee_aN)) (ee_cv (yt_X3_isDoomed W _) rfl))).trans (by rw [yd_isD hX])
  have h63 : sy_iA 0 (sy_rF 6 19 (sy_rL 0)) (sy_iL 1) [.ref 44, .int (nI v)] τ = some (.inl (X (sy_vw v) 5), τ) := em_63 M hv (ee_rF (ee_R rfl) rfl) (ee_L rfl)
  have hcm : sy_cA (sy_cne (sy_iA 0 (sy_rF 6 19 (sy_rL 0)) (sy_iL 1)) (sy_iK (-1))) (sy_cI (sy_iA 1 (sy_rF 6 12 (sy_rL 0)) (sy_iA 0 (sy_rF 6 19 (sy_rL 0)) (sy_iL 1)))) [.ref 44, .int (nI v)] τ = some (.inl (ya_dmd D (X (sy_vw v) 5)), τ) := by
    have h1 : sy_cne (sy_iA 0 (sy_rF 6 19 (sy_rL 0)) (sy_iL 1)) (sy_iK (-1)) [.ref 44, .int (nI v)] τ = some (.inl (!decide (X (sy_vw v) 5 = -1)), τ) := ee_cB h63 ee_K
    rcases h5 with e | e
    · rw [e] at h1 ⊢
      exact ee_cA (x := false) (y := true) h1 (fun h => by cases h)
    · rw [decide_eq_false (yl_ne e.1)] at h1
      exact ee_cAt h1 (yl_gone I hτ rfl h63 e.1)
  cases hd : ya_dmd D (X (sy_vw v) 5) with
  | false =>
    rw [hd] at hc hcm
    refine ⟨X, τ, fun k => es_If hc rfl, fun k => ?_, I, M, fun _ _ => rfl, fun _ _ => rfl, rfl, hd, rfl⟩
    refine es_W (v := X (sy_vw v) 5) (ee_rF (ee_R rfl) rfl) (ee_L rfl) ((ee_iQ hcm (fun _ => ee_K) (fun _ => h63)).trans rfl) hvi ?_
    rw [hvc, ← (M.2.2.1 v hv).2.2.2.2.1]
    show k _ (sy_up τ 63 v (τ 63 v)) = _
    rw [yu_same]
  | true =>
    rw [hd] at hc hcm
    refine ⟨sy_up X (sy_vw v) 5 (-1), sy_up τ 63 v (-1), fun k => es_It hc (es_C (ee_aR (ee_R rfl) (ee_aI ee_K ee_aN)) (ee_cv (yt_X4_setParent _ hv _) (yv_rc hv rfl)) rfl), fun k => ?_, yn_setpar I hv (Or.inl rfl), yr_setpar M I hv (-1), fun k hk => yu_ne hk, fun k hk => yu_ne hk, yu_an (by decide), by rw [yu_at]; rfl, yu_an (by decide)⟩
    refine es_W (v := -1) (ee_rF (ee_R rfl) rfl) (ee_L rfl) ((ee_iQ hcm (fun _ => ee_K) (fun _ => h63)).trans rfl) hvi ?_
    rw [hvc]
theorem yl_s3 (I : yn_I t X) (M : yr_M X τ) (hv : v < 4) (hX : ∀ i, i < 60 → X 18 i = ya_b (D i)) (hτ : ∀ i, i < 60 → τ 56 i = ya_b (D i)) {kC kM : List Value → sy_MM (Option Value)} (hkC : ∀ i ρ, kC [.ref 0, .ref (sy_vw v), .int (nI i)] ρ = some (.inl none, ρ)) (hkM : ∀ i ρ, kM [.ref 44, .int (nI v), .int (nI i)] ρ = some (.inl none, ρ)) : ∃ X1 τ1,
    sy_wh (sy_clt (sy_iL 2) (sy_iM (sy_cv 4 0 sf_X4_heldCount) (sy_aR (sy_rL 1) sy_aN))) (sy_sQ (sy_sI (sy_cI (sy_iM (sy_cv 3 1 sf_X3_isDoomed) (sy_aR (sy_rF 5 1 (sy_rL 0)) (sy_aI (sy_iM (sy_cv 4 1 sf_X4_heldAt) (sy_aR (sy_rL 1) (sy_aI (sy_iL 2) sy_aN))) sy_aN)))) (sy_sC (sy_cv 4 0 sf_X4_release) (sy_aR (sy_rL 1) sy_aN)) sy_sN) (sy_sIn 2 1)) 1000 [.ref 0, .ref (sy_vw v), .int (nI 0)] kC X = some (.inl none, X1) ∧
    sy_wh (sy_clt (sy_iL 2) (sy_iA 0 (sy_rF 6 20 (sy_rL 0)) (sy_iL 1))) (sy_sQ (sy_sI (sy_cI (sy_iA 1 (sy_rF 6 12 (sy_rL 0)) (sy_iA 0 (sy_rF 6 21 (sy_rL 0)) (sy_iAdd (sy_iMul (sy_iK 4) (sy_iL 1)) (sy_iL 2))))) (sy_sW (sy_rF 6 20 (sy_rL 0)) (sy_iL 1) (sy_iK 0)) sy_sN) (sy_sIn 2 1)) 1000 [.ref 44, .int (nI v), .int (nI 0)] kM τ = some (.inl none, τ1) ∧
    yn_I t X1 ∧ yr_M X1 τ1 ∧ (∀ k, k ≠ sy_vw v → X1 k = X k) ∧ (∀ k, k ≠ 64 → τ1 k = τ k) ∧ X1 (sy_vw v) 2 = X (sy_vw v) 2 ∧ X1 (sy_vw v) 5 = X (sy_vw v) 5 ∧ ∀ i : Nat, (i : Int) < (X1 (sy_vw v) 6).toInt → ya_dmd D (X1 (sy_vw v + 1) i) = false := by
  have W := yn_Wo I
  have hb := yv_lt hv
  obtain ⟨q1, q4, q6⟩ := yv_hold I hv
  have hvi : sy_inb (nI v) 4 = true := yi_inbN hv (by omega)
  have hvc : (nI v).toNatClampNeg = v := nI_clamp (by omega)
  have hC := es_hit (c := sy_clt (sy_iL 2) (sy_iM (sy_cv 4 0 sf_X4_heldCount) (sy_aR (sy_rL 1) sy_aN))) (s := sy_sQ (sy_sI (sy_cI (sy_iM (sy_cv 3 1 sf_X3_isDoomed) (sy_aR (sy_rF 5 1 (sy_rL 0)) (sy_aI (sy_iM (sy_cv 4 1 sf_X4_heldAt) (sy_aR (sy_rL 1) (sy_aI (sy_iL 2) sy_aN))) sy_aN)))) (sy_sC (sy_cv 4 0 sf_X4_release) (sy_aR (sy_rL 1) sy_aN)) sy_sN) (sy_sIn 2 1)) (E := fun i => [.ref 0, .ref (sy_vw v), .int (nI i)]) (P := fun i => ya_dmd D (ya_held X v (nI i))) (σ := X) (σ' := sy_up X (sy_vw v) 6 0) (k := kC) (N := (X (sy_vw v) 6).toNatClampNeg)
    (fun i hi => (es_cB (B := X (sy_vw v) 6) rfl (ee_M (ee_aR (ee_R rfl) ee_aN) (ee_cv (yt_X4_heldCount _ hv) (yv_rc hv rfl))) (by omega)).trans (by rw [decide_eq_true (by omega)]))
    ((es_cB (B := X (sy_vw v) 6) rfl (ee_M (ee_aR (ee_R rfl) ee_aN) (ee_cv (yt_X4_heldCount _ hv) (yv_rc hv rfl))) (by omega)).trans (by rw [decide_eq_false (by omega)]))
    (fun i hi => (es_cB (B := 0) rfl ((ee_M (ee_aR (ee_R rfl) ee_aN) (ee_cv (yt_X4_heldCount _ hv) (yv_rc hv rfl))).trans (by rw [yu_at])) (by omega)).trans (by rw [show Int32.toNatClampNeg 0 = 0 from rfl, decide_eq_false (by omega)]))
    (fun i hi k' => by
      have hc : sy_cI (sy_iM (sy_cv 3 1 sf_X3_isDoomed) (sy_aR (sy_rF 5 1 (sy_rL 0)) (sy_aI (sy_iM (sy_cv 4 1 sf_X4_heldAt) (sy_aR (sy_rL 1) (sy_aI (sy_iL 2) sy_aN))) sy_aN))) [.ref 0, .ref (sy_vw v), .int (nI i)] X = some (.inl (ya_dmd D (ya_held X v (nI i))), X) := (ee_cb (ee_M (ee_aR (ee_rF (ee_R rfl) rfl) (ee_aI (ee_M (ee_aR (ee_R rfl) (ee_aI (ee_L rfl) ee_aN)) (ee_cv (yt_X4_heldAt _ hv _) (yv_rc hv rfl))) ee_aN)) (ee_cv (yt_X3_isDoomed W _) rfl))).trans (by rw [yd_isD hX])
      cases hd : ya_dmd D (ya_held X v (nI i)) with
      | false =>
        rw [if_neg (by decide)]
        exact es_Q (es_If (hc.trans (by rw [hd])) (es_N (es_In1 rfl rfl)))
      | true =>
        rw [if_pos rfl]
        exact es_Q (es_It (hc.trans (by rw [hd])) (es_C (ee_aR (ee_R rfl) ee_aN) (ee_cv (yt_X4_release _ hv) (yv_rc hv rfl)) (es_In1 rfl rfl))))
    hkC (X (sy_vw v) 6).toNatClampNeg 0 1000 (by omega) (by omega)
  have h64 : τ 64 v = X (sy_vw v) 6 := (M.2.2.1 v hv).2.2.2.2.2.1
  have hM := es_hit (c := sy_clt (sy_iL 2) (sy_iA 0 (sy_rF 6 20 (sy_rL 0)) (sy_iL 1))) (s := sy_sQ (sy_sI (sy_cI (sy_iA 1 (sy_rF 6 12 (sy_rL 0)) (sy_iA 0 (sy_rF 6 21 (sy_rL 0)) (sy_iAdd (sy_iMul (sy_iK 4) (sy_iL 1)) (sy_iL 2))))) (sy_sW (sy_rF 6 20 (sy_rL 0)) (sy_iL 1) (sy_iK 0)) sy_sN) (sy_sIn 2 1)) (E := fun i => [.ref 44, .int (nI v), .int (nI i)]) (P := fun i => ya_dmd D (ya_held X v (nI i))) (σ := τ) (σ' := sy_up τ 64 v 0) (k := kM) (N := (X (sy_vw v) 6).toNatClampNeg)
    (fun i hi => (es_cB (B := X (sy_vw v) 6) rfl ((em_v rfl (ee_rF (ee_R rfl) rfl) (ee_L rfl) hv).trans (by rw [h64])) (by omega)).trans (by rw [decide_eq_true (by omega)]))
    ((es_cB (B := X (sy_vw v) 6) rfl ((em_v rfl (ee_rF (ee_R rfl) rfl) (ee_L rfl) hv).trans (by rw [h64])) (by omega)).trans (by rw [decide_eq_false (by omega)]))
    (fun i hi => (es_cB (B := 0) rfl ((em_v rfl (ee_rF (ee_R rfl) rfl) (ee_L rfl) hv).trans (by rw [yu_at])) (by omega)).trans (by rw [show Int32.toNatClampNeg 0 = 0 from rfl, decide_eq_false (by omega)]))
    (fun i hi k' => by
      obtain ⟨h1, _, hl⟩ := yv_held I hv (i := i) (by omega)
      have hc : sy_cI (sy_iA 1 (sy_rF 6 12 (sy_rL 0)) (sy_iA 0 (sy_rF 6 21 (sy_rL 0)) (sy_iAdd (sy_iMul (sy_iK 4) (sy_iL 1)) (sy_iL 2)))) [.ref 44, .int (nI v), .int (nI i)] τ = some (.inl (ya_dmd D (ya_held X v (nI i))), τ) := yl_gone I hτ rfl ((em_65 M I hv (ee_rF (ee_R rfl) rfl) (ee_L rfl) (ee_L rfl) (by omega)).trans (by rw [← h1])) hl
      cases hd : ya_dmd D (ya_held X v (nI i)) with
      | false =>
        rw [if_neg (by decide)]
        exact es_Q (es_If (hc.trans (by rw [hd])) (es_N (es_In1 rfl rfl)))
      | true =>
        rw [if_pos rfl]
        refine es_Q (es_It (hc.trans (by rw [hd])) (es_W (ee_rF (ee_R rfl) rfl) (ee_L rfl) ee_K hvi ?_))
        rw [hvc]
        exact es_In1 rfl rfl)
    hkM (X (sy_vw v) 6).toNatClampNeg 0 1000 (by omega) (by omega)
  cases hff : ya_ff (fun i => ya_dmd D (ya_held X v (nI i))) (X (sy_vw v) 6).toNatClampNeg 0 with
  | none =>
    rw [hff] at hC hM
    refine ⟨X, τ, hC, hM, I, M, fun _ _ => rfl, fun _ _ => rfl, rfl, rfl, fun i hi => ?_⟩
    have := ya_ff_none.mp hff i (by omega) (by omega)
    rw [(yv_held I hv hi).1] at this
    exact this
  | some j =>
    rw [hff] at hC hM
    refine ⟨sy_up X (sy_vw v) 6 0, sy_up τ 64 v 0, hC, hM, yn_release I hv, ?_, fun k hk => yu_ne hk, fun k hk => yu_ne hk, yu_an (by decide), yu_an (by decide), fun i hi => ?_⟩
    · have := yr_loses M I hv (x := τ 44 23)
      rw [yu_same] at this
      exact this
    · rw [show (sy_up X (sy_vw v) 6 0) (sy_vw v) 6 = 0 from yu_at, yl_c0] at hi
      omega
theorem yw_leave (I : yn_I t X) (M : yr_M X τ) (hv : v < 4) (hX : ∀ i, i < 60 → X 18 i = ya_b (D i)) (hτ : ∀ i, i < 60 → τ 56 i = ya_b (D i)) : ∃ X1 τ1, sf_X5_leaveDoomed [.ref 0, .ref (sy_vw v)] X = some (.inl none, X1) ∧ sf_X6_leaves [.ref 44, .int (nI v)] τ = some (.inl none, τ1) ∧
    yn_I t X1 ∧ yr_M X1 τ1 ∧ (∀ k, k ≠ sy_vw v → X1 k = X k) ∧ (∀ k, (k < 61 ∨ 64 < k) → τ1 k = τ k) ∧ yv_sp D X1 v := by
  have hb := yv_lt hv
  obtain ⟨X1, τ1, c1, m1, I1, M1, f1, g1, p1, p2, p3⟩ := yl_s1 I M hv hX hτ
  have hX1 : ∀ i, i < 60 → X1 18 i = ya_b (D i) := fun i hi => by rw [f1 18 (by omega)]; exact hX i hi
  have hτ1 : ∀ i, i < 60 → τ1 56 i = ya_b (D i) := fun i hi => by rw [g1 56 (by decide) (by decide)]; exact hτ i hi
  obtain ⟨X2, τ2, c2, m2, I2, M2, f2, g2, q1, q2, q3⟩ := yl_s2 I1 M1 hv hX1 hτ1
  have hX2 : ∀ i, i < 60 → X2 18 i = ya_b (D i) := fun i hi => by rw [f2 18 (by omega)]; exact hX1 i hi
  have hτ2 : ∀ i, i < 60 → τ2 56 i = ya_b (D i) := fun i hi => by rw [g2 56 (by decide)]; exact hτ1 i hi
  obtain ⟨X3, τ3, c3, m3, I3, M3, f3, g3, r1, r2, r3⟩ := yl_s3 (kC := fun env' => sy_eV (env'.take 2) (fun _ => sy_fail)) (kM := fun env' => sy_eV (env'.take 2) (fun _ => sy_fail)) I2 M2 hv hX2 hτ2 (fun _ _ => rfl) (fun _ _ => rfl)
  refine ⟨X3, τ3, ?_, ?_, I3, M3, fun k hk => by rw [f3 k hk, f2 k hk, f1 k hk], fun k hk => by rw [g3 k (by omega), g2 k (by omega), g1 k (by omega) (by omega)], ⟨by rw [r1, q1]; exact p1, by rw [r2]; exact q2, r3⟩⟩
  · refine ee_meth ?_ rfl
    unfold sm_X5_leaveDoomed
    refine es_Q (es_Q (es_If (ee_c0 (ee_R rfl)) (es_N (es_Q ((c1 _).trans (es_Q ((c2 _).trans (es_B (es_Q (es_SI ee_K0 c3))))))))))
  · refine ee_meth ?_ rfl
    unfold sm_X6_leaves
    exact es_Q (es_Q ((m1 _).trans (es_Q ((m2 _).trans (es_B (es_Q (es_SI ee_K0 m3)))))))
end YLw
