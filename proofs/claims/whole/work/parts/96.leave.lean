/-! a view leaves what is deleted -/
section YLv
variable {X τ : sy_Mem} {t v : Nat} {s : Int32} {D : Nat → Bool}
def ya_dmd (D : Nat → Bool) (s : Int32) : Bool := (decide (0 ≤ s) && decide (s < 60)) && D s.toNatClampNeg
theorem yd_isD (hX : ∀ i, i < 60 → X 18 i = ya_b (D i)) (s : Int32) : ya_X3_isDoomed X s = ya_dmd D s := by
  unfold ya_X3_isDoomed ya_dmd
  cases h : (decide (0 ≤ s) && decide (s < 60)) with
  | false => rfl
  | true =>
    have := yl_isS.mp h
    rw [hX _ (by rw [yi_clampInt]; omega), ya_b0]
theorem ya_dmd_m : ya_dmd D (-1) = false := rfl
theorem ya_dmd_in (h : 0 ≤ s.toInt ∧ s.toInt < 60) : ya_dmd D s = D s.toNatClampNeg := by
  unfold ya_dmd
  rw [yl_isS.mpr h, Bool.true_and]
def ya_spb (X : sy_Mem) (D : Nat → Bool) (s : Int32) : Int32 := (ya_ff (fun i => !ya_dmd D (ya_at X (sD X s) (nI i))) ((ya_cnt X (sD X s)).toNatClampNeg - ((yL X s).toNatClampNeg + 1)) ((yL X s).toNatClampNeg + 1)).elim (-1) (fun i => ya_at X (sD X s) (nI i))
theorem yt_X3_sparedBehind (I : yn_I t X) (hX : ∀ i, i < 60 → X 18 i = ya_b (D i)) (hs : yl X s) : sf_X3_sparedBehind [.ref 10, .int s] X = some (.inl (some (.int (ya_spb X D s))), X) := by
  have W := yn_Wo I
  have hp := yg_pl I hs
  have hD := yl_sD I.1 I.2.1 hs
  have hc := yg_cnt I hD
  have hL : yL X s = nI (yL X s).toNatClampNeg := yi_nat (yi_pos.mpr hp.1)
  refine ee_meth ?_ rfl
  unfold sm_X3_sparedBehind ya_spb
  refine es_Q (es_SI (ee_M (ee_aR (ee_R rfl) (ee_aI (ee_L rfl) ee_aN)) (ee_cv (yt_X3_databaseOf W s) rfl)) (es_Q (es_B (es_Q (es_SI (x := nI ((yL X s).toNatClampNeg + 1)) (σ1 := X) ((ee_B (ee_M (ee_aR (ee_R rfl) (ee_aI (ee_L rfl) ee_aN)) (ee_cv (yt_X3_placeOf X s) rfl)) ee_K).trans (by rw [← nI_1, ← hL])) ?_)))))
  refine es_forPL (E := fun i => [.ref 10, .int s, .int (sD X s), .int (nI i)]) (j := 3) (a := (yL X s).toNatClampNeg + 1) (B := ya_cnt X (sD X s)) (R := fun i => ya_at X (sD X s) (nI i)) (fun _ => rfl) (fun i => ee_M (ee_aR (ee_R rfl) (ee_aI (ee_L rfl) ee_aN)) (ee_cv (yt_X3_countOf X _) rfl)) (by rw [yi_clampInt]; omega) (by rw [yi_clampInt]; omega) (fun i g1 g2 k' => ?_) (fun _ => es_eI ee_K)
  have hsg : ∀ {env : List Value}, env[0]? = some (.ref 10) → env[2]? = some (.int (sD X s)) → env[3]? = some (.int (nI i)) → sy_iM (sy_cv 3 2 sf_X3_segmentAt) (sy_aR (sy_rL 0) (sy_aI (sy_iL 2) (sy_aI (sy_iL 3) sy_aN))) env X = some (.inl (ya_at X (sD X s) (nI i)), X) := fun h0 h2 h3 => ee_M (ee_aR (ee_R h0) (ee_aI (ee_L h2) (ee_aI (ee_L h3) ee_aN))) (ee_cv (yt_X3_segmentAt W _ _) rfl)
  refine es_Q (es_I ((ee_cN (ee_cb (ee_M (ee_aR (ee_R rfl) (ee_aI (hsg rfl rfl rfl) ee_aN)) (ee_cv (yt_X3_isDoomed W _) rfl)))).trans (by rw [yd_isD hX])) (fun _ => es_eI (hsg rfl rfl rfl)) (fun _ => es_N (es_In1 rfl rfl)))
/-- the place of the first spared one from the segment on, in the model's loop -/
def ya_fsp (X : sy_Mem) (D : Nat → Bool) (s : Int32) : Nat := (ya_ff (fun i => !ya_dmd D (ya_at X (sD X s) (nI i))) ((ya_cnt X (sD X s)).toNatClampNeg - (yL X s).toNatClampNeg) (yL X s).toNatClampNeg).elim (ya_cnt X (sD X s)).toNatClampNeg (fun i => i)
theorem ya_fsp_eq (I : yn_I t X) (hs : yl X s) (hd : ya_dmd D s = true) : (yL X s).toNatClampNeg ≤ ya_fsp X D s ∧ ya_fsp X D s ≤ (ya_cnt X (sD X s)).toNatClampNeg ∧ (∀ i, (yL X s).toNatClampNeg ≤ i → i < ya_fsp X D s → ya_dmd D (ya_at X (sD X s) (nI i)) = true) ∧ (ya_fsp X D s < (ya_cnt X (sD X s)).toNatClampNeg → ya_dmd D (ya_at X (sD X s) (nI (ya_fsp X D s))) = false) ∧
    ya_spb X D s = if ya_fsp X D s < (ya_cnt X (sD X s)).toNatClampNeg then ya_at X (sD X s) (nI (ya_fsp X D s)) else -1 := by
  have hp := yg_pl I hs
  have hD := yl_sD I.1 I.2.1 hs
  have hc := yg_cnt I hD
  have hL : yL X s = nI (yL X s).toNatClampNeg := yi_nat (yi_pos.mpr hp.1)
  have hLc : (yL X s).toNatClampNeg < (ya_cnt X (sD X s)).toNatClampNeg := by rw [yi_clampInt, yi_clampInt]; omega
  have hat : ya_at X (sD X s) (nI (yL X s).toNatClampNeg) = s := by rw [← hL]; exact (I.2.2.1.2.2.1 s hs).2.2
  have hff : ya_ff (fun i => !ya_dmd D (ya_at X (sD X s) (nI i))) ((ya_cnt X (sD X s)).toNatClampNeg - (yL X s).toNatClampNeg) (yL X s).toNatClampNeg = ya_ff (fun i => !ya_dmd D (ya_at X (sD X s) (nI i))) ((ya_cnt X (sD X s)).toNatClampNeg - ((yL X s).toNatClampNeg + 1)) ((yL X s).toNatClampNeg + 1) := by
    rw [show (ya_cnt X (sD X s)).toNatClampNeg - (yL X s).toNatClampNeg = (ya_cnt X (sD X s)).toNatClampNeg - ((yL X s).toNatClampNeg + 1) + 1 by omega]
    show (if (!ya_dmd D (ya_at X (sD X s) (nI (yL X s).toNatClampNeg))) = true then _ else _) = _
    rw [hat, hd]
    rfl
  unfold ya_fsp ya_spb
  rw [hff]
  cases h : ya_ff (fun i => !ya_dmd D (ya_at X (sD X s) (nI i))) ((ya_cnt X (sD X s)).toNatClampNeg - ((yL X s).toNatClampNeg + 1)) ((yL X s).toNatClampNeg + 1) with
  | none =>
    have hn := ya_ff_none.mp h
    refine ⟨by show (yL X s).toNatClampNeg ≤ (ya_cnt X (sD X s)).toNatClampNeg; omega, Nat.le_refl _, fun i h1 h2 => ?_, fun h => absurd h (by show ¬ (ya_cnt X (sD X s)).toNatClampNeg < _; omega), ?_⟩
    · have h2 : i < (ya_cnt X (sD X s)).toNatClampNeg := h2
      by_cases e : i = (yL X s).toNatClampNeg
      · rw [e, hat]; exact hd
      · have := hn i (by omega) (by omega)
        simpa using this
    · show (-1 : Int32) = if (ya_cnt X (sD X s)).toNatClampNeg < (ya_cnt X (sD X s)).toNatClampNeg then _ else _
      rw [if_neg (by omega)]
  | some j =>
    obtain ⟨h1, h2, h3, h4⟩ := ya_ff_some.mp h
    refine ⟨by show (yL X s).toNatClampNeg ≤ j; omega, by show j ≤ _; omega, fun i g1 g2 => ?_, fun _ => by simpa using h3, ?_⟩
    · have g2 : i < j := g2
      by_cases e : i = (yL X s).toNatClampNeg
      · rw [e, hat]; exact hd
      · have := h4 i (by omega) g2
        simpa using this
    · show ya_at X (sD X s) (nI j) = if j < (ya_cnt X (sD X s)).toNatClampNeg then ya_at X (sD X s) (nI j) else -1
      rw [if_pos (by omega)]
theorem ym_segR {d p : Int32} (hd : 0 ≤ d.toInt ∧ d.toInt < 3) (hp : 0 ≤ p.toInt ∧ p.toInt < 60) {ρ : sy_Mem} : sf_X6_segmentAt [.ref 44, .int d, .int p] ρ = some (.inl (some (.int (ρ 58 (60 * d.toNatClampNeg + p.toNatClampNeg)))), ρ) := by
  have e1 := yl_ix (x := d) (y := p) (c := 60) (n := 3) (m := 60) yl_c60 hd.1 hd.2 (by omega) hp.1 hp.2
  rw [Int32.mul_comm] at e1
  refine ee_meth ?_ rfl
  unfold sm_X6_segmentAt
  refine es_eI ((ee_A (kd := 0) (a := 58) (ee_rF (ee_R rfl) rfl) (ee_B (ee_B ee_K (ee_L rfl)) (ee_L rfl)) e1.2.2).trans ?_)
  rw [e1.2.1]
theorem yl_s1 (I : yn_I t X) (M : yr_M X τ) (hv : v < 4) (hX : ∀ i, i < 60 → X 18 i = ya_b (D i)) (hτ : ∀ i, i < 60 → τ 56 i = ya_b (D i)) : ∃ X1 τ1,
    (∀ k : List Value → sy_MM (Option Value), sy_sI (sy_cI (sy_iM (sy_cv 3 1 sf_X3_isDoomed) (sy_aR (sy_rF 5 1 (sy_rL 0)) (sy_aI (sy_iM (sy_cv 4 0 sf_X4_mark) (sy_aR (sy_rL 1) sy_aN)) sy_aN)))) (sy_sC (sy_cv 4 1 sf_X4_standAheadOf) (sy_aR (sy_rL 1) (sy_aI (sy_iM (sy_cv 3 1 sf_X3_sparedBehind) (sy_aR (sy_rF 5 1 (sy_rL 0)) (sy_aI (sy_iM (sy_cv 4 0 sf_X4_mark) (sy_aR (sy_rL 1) sy_aN)) sy_aN))) sy_aN))) sy_sN [.ref 0, .ref (sy_vw v)] k X = k [.ref 0, .ref (sy_vw v)] X1) ∧
    (∀ k : List Value → sy_MM (Option Value), sy_sI (sy_cA (sy_cle (sy_iA 0 (sy_rF 6 17 (sy_rL 0)) (sy_iL 1)) (sy_iK 1)) (sy_cI (sy_iA 1 (sy_rF 6 12 (sy_rL 0)) (sy_iA 0 (sy_rF 6 18 (sy_rL 0)) (sy_iL 1))))) (sy_sB 2 (sy_sQ (sy_sSI 2 (sy_iM (sy_cv 6 1 sf_X6_placeOf) (sy_aR (sy_rL 0) (sy_aI (sy_iA 0 (sy_rF 6 18 (sy_rL 0)) (sy_iL 1)) sy_aN)))) (sy_sQ (sy_wh (sy_cA (sy_clt (sy_iL 2) (sy_iA 0 (sy_rF 6 13 (sy_rL 0)) (sy_iA 0 (sy_rF 6 15 (sy_rL 0)) (sy_iL 1)))) (sy_cI (sy_iA 1 (sy_rF 6 12 (sy_rL 0)) (sy_iM (sy_cv 6 2 sf_X6_segmentAt) (sy_aR (sy_rL 0) (sy_aI (sy_iA 0 (sy_rF 6 15 (sy_rL 0)) (sy_iL 1)) (sy_aI (sy_iL 2) sy_aN))))))) (sy_sIn 2 1) 1000) (sy_sQ (sy_sW (sy_rF 6 17 (sy_rL 0)) (sy_iL 1) (sy_iQ (sy_clt (sy_iL 2) (sy_iA 0 (sy_rF 6 13 (sy_rL 0)) (sy_iA 0 (sy_rF 6 15 (sy_rL 0)) (sy_iL 1)))) (sy_iK 1) (sy_iK 3))) (sy_sW (sy_rF 6 18 (sy_rL 0)) (sy_iL 1) (sy_iQ (sy_clt (sy_iL 2) (sy_iA 0 (sy_rF 6 13 (sy_rL 0)) (sy_iA 0 (sy_rF 6 15 (sy_rL 0)) (sy_iL 1)))) (sy_iM (sy_cv 6 2 sf_X6_segmentAt) (sy_aR (sy_rL 0) (sy_aI (sy_iA 0 (sy_rF 6 15 (sy_rL 0)) (sy_iL 1)) (sy_aI (sy_iL 2) sy_aN)))) (sy_iK (-1)))))))) sy_sN [.ref 44, .int (nI v)] k τ = k [.ref 44, .int (nI v)] τ1) ∧
    yn_I t X1 ∧ yr_M X1 τ1 ∧ (∀ k, k ≠ sy_vw v → X1 k = X k) ∧ (∀ k, k ≠ 61 → k ≠ 62 → τ1 k = τ k) ∧ ya_dmd D (X1 (sy_vw v) 2) = false ∧ X1 (sy_vw v) 5 = X (sy_vw v) 5 ∧ X1 (sy_vw v) 6 = X (sy_vw v) 6 := by
  have W := yn_Wo I
  have hb := yv_lt hv
  have hm0 := (I.2.2.2.2.2.1 v hv).2.2.1
  have hc : sy_cI (sy_iM (sy_cv 3 1 sf_X3_isDoomed) (sy_aR (sy_rF 5 1 (sy_rL 0)) (sy_aI (sy_iM (sy_cv 4 0 sf_X4_mark) (sy_aR (sy_rL 1) sy_aN)) sy_aN))) [.ref 0, .ref (sy_vw v)] X = some (.inl (ya_dmd D (X (sy_vw v) 2)), X) := (ee_cb (ee_M (ee_aR (ee_rF (ee_R rfl) rfl) (ee_aI (ee_M (ee_aR (ee_R rfl) ee_aN) (ee_cv (yt_X4_mark _ hv) (yv_rc hv rfl))) ee_aN)) (ee_cv (yt_X3_isDoomed W _) rfl))).trans (by rw [yd_isD hX])
  have hgn : ∀ {env : List Value} {e : sy_IE} {s : Int32} {ρ : sy_Mem}, (∀ i, i < 60 → ρ 56 i = ya_b (D i)) → env[0]? = some (.ref 44) → e env ρ = some (.inl s, ρ) → yl X s → sy_cI (sy_iA 1 (sy_rF 6 12 (sy_rL 0)) e) env ρ = some (.inl (ya_dmd D s), ρ) := fun {env e s ρ} hρ h0 he hs => by
    have hin := yl_in hs
    refine ee_cb ((ee_A (kd := 1) (a := 56) (ee_rF (ee_R h0) rfl) he (yi_inb.mpr hin)).trans ?_)
    rw [hρ _ (by rw [yi_clampInt]; omega), ya_dmd_in hin]
  have hcm : sy_cA (sy_cle (sy_iA 0 (sy_rF 6 17 (sy_rL 0)) (sy_iL 1)) (sy_iK 1)) (sy_cI (sy_iA 1 (sy_rF 6 12 (sy_rL 0)) (sy_iA 0 (sy_rF 6 18 (sy_rL 0)) (sy_iL 1)))) [.ref 44, .int (nI v)] τ = some (.inl (ya_dmd D (X (sy_vw v) 2)), τ) := by
    have h61 : sy_cle (sy_iA 0 (sy_rF 6 17 (sy_rL 0)) (sy_iL 1)) (sy_iK 1) [.ref 44, .int (nI v)] τ = some (.inl (decide (ya_mode X v ≤ 1)), τ) := ee_cB (em_61 M hv (ee_rF (ee_R rfl) rfl) (ee_L rfl)) ee_K
    rcases yg_modes I hv with ⟨_, _, hl, _, hm, _⟩ | ⟨_, _, hl, _, hm, _⟩ | ⟨_, _, hl, hm, _⟩ | ⟨_, _, hl, hm, _⟩
    · rw [hm] at h61
      exact ee_cAt h61 (hgn hτ rfl (em_62 M hv (ee_rF (ee_R rfl) rfl) (ee_L rfl)) hl)
    · rw [hm] at h61
      exact ee_cAt h61 (hgn hτ rfl (em_62 M hv (ee_rF (ee_R rfl) rfl) (ee_L rfl)) hl)
    · rw [hm] at h61
      rw [hl]
      exact ee_cA (y := true) h61 (fun h => by cases h)
    · rw [hm] at h61
      rw [hl]
      exact ee_cA (y := true) h61 (fun h => by cases h)
  cases hd : ya_dmd D (X (sy_vw v) 2) with
  | false =>
    rw [hd] at hc hcm
    exact ⟨X, τ, fun k => es_If hc rfl, fun k => es_If hcm rfl, I, M, fun _ _ => rfl, fun _ _ _ => rfl, hd, rfl, rfl⟩
  | true =>
    rw [hd] at hc hcm
    obtain ⟨hs, hsD⟩ : yl X (X (sy_vw v) 2) ∧ sD X (X (sy_vw v) 2) = X (sy_vw v) 0 := by
      rcases hm0 with e | e
      · rw [e] at hd
        cases hd
      · exact e
    obtain ⟨f1, f2, f3, f4, f5⟩ := ya_fsp_eq I hs hd
    have hp := yg_pl I hs
    have hD := yl_sD I.1 I.2.1 hs
    have hcn := yg_cnt I hD
    have hcl : ((ya_cnt X (sD X (X (sy_vw v) 2))).toNatClampNeg : Int) = (ya_cnt X (sD X (X (sy_vw v) 2))).toInt := by rw [yi_clampInt]; omega
    have hL : yL X (X (sy_vw v) 2) = nI (yL X (X (sy_vw v) 2)).toNatClampNeg := yi_nat (yi_pos.mpr hp.1)
    have hatl : ∀ i, i < (ya_cnt X (sD X (X (sy_vw v) 2))).toNatClampNeg → yl X (ya_at X (sD X (X (sy_vw v) 2)) (nI i)) ∧ sD X (ya_at X (sD X (X (sy_vw v) 2)) (nI i)) = X (sy_vw v) 0 := fun i hi => by
      have g := yg_at I hD (yg_pn I hD hi)
      exact ⟨g.1, g.2.1.trans hsD⟩
    have hspl : ya_spb X D (X (sy_vw v) 2) = -1 ∨ (yl X (ya_spb X D (X (sy_vw v) 2)) ∧ sD X (ya_spb X D (X (sy_vw v) 2)) = X (sy_vw v) 0) := by
      rw [f5]
      by_cases e : ya_fsp X D (X (sy_vw v) 2) < (ya_cnt X (sD X (X (sy_vw v) 2))).toNatClampNeg
      · rw [if_pos e]; exact Or.inr (hatl _ e)
      · rw [if_neg e]; exact Or.inl rfl
    have hspd : ya_dmd D (ya_spb X D (X (sy_vw v) 2)) = false := by
      rw [f5]
      by_cases e : ya_fsp X D (X (sy_vw v) 2) < (ya_cnt X (sD X (X (sy_vw v) 2))).toNatClampNeg
      · rw [if_pos e]; exact f4 e
      · rw [if_neg e]; rfl
    have hmd : ∀ c, ya_mode (ya_stand X v c 0 (ya_b (decide (c = -1)))) v = if c = -1 then 3 else 1 := fun c => by
      unfold ya_mode
      rw [ya_stand_at, ya_stand_at, ya_stand_at, if_neg (show ¬ (3 = 4) by decide), if_pos (show 3 = 3 from rfl), if_neg (show ¬ (0 : Int32) ≠ 0 by decide), if_neg (show ¬ (2 = 4) by decide), if_neg (show ¬ (2 = 3) by decide), if_pos (show 2 = 2 from rfl), if_pos (show 4 = 4 from rfl)]
      by_cases e : c = -1
      · rw [if_neg (by simpa using e), decide_eq_true e, if_pos e]
        rfl
      · rw [if_pos e, if_neg e]
    refine ⟨ya_stand X v (ya_spb X D (X (sy_vw v) 2)) 0 (ya_b (decide (ya_spb X D (X (sy_vw v) 2) = -1))), sy_up (sy_up τ 61 v (if ya_spb X D (X (sy_vw v) 2) = -1 then 3 else 1)) 62 v (ya_spb X D (X (sy_vw v) 2)), fun k => ?_, fun k => ?_, ?_, yr_stand M I hv _ _ _ _ (hmd _).symm, fun k hk => ya_stand_ne hk, fun k h1 h2 => by rw [yu_ne h2, yu_ne h1], ?_, ?_, ?_⟩
    · exact es_It hc (es_C (ee_aR (ee_R rfl) (ee_aI (ee_M (ee_aR (ee_rF (ee_R rfl) rfl) (ee_aI (ee_M (ee_aR (ee_R rfl) ee_aN) (ee_cv (yt_X4_mark _ hv) (yv_rc hv rfl))) ee_aN)) (ee_cv (yt_X3_sparedBehind I hX hs) rfl)) ee_aN)) (ee_cv (yt_X4_standAheadOf _ hv _) (yv_rc hv rfl)) rfl)
    · refine es_It hcm (es_B (es_Q (es_SI (x := nI (yL X (X (sy_vw v) 2)).toNatClampNeg) (σ1 := τ) ((ee_M (ee_aR (ee_R rfl) (ee_aI (em_62 M hv (ee_rF (ee_R rfl) rfl) (ee_L rfl)) ee_aN)) (ee_cv (ym_placeOf M I _ hs) rfl)).trans (by rw [← hL])) (es_Q ?_))))
      have hDi : sy_inb (sD X (X (sy_vw v) 2)) 3 = true := yi_inb.mpr (by omega)
      have hof : ∀ {env : List Value} {ρ : sy_Mem}, ρ 59 = τ 59 → env[0]? = some (.ref 44) → env[1]? = some (.int (nI v)) → sy_iA 0 (sy_rF 6 15 (sy_rL 0)) (sy_iL 1) env ρ = some (.inl (sD X (X (sy_vw v) 2)), ρ) := fun hρ h0 h1 => (em_v rfl (ee_rF (ee_R h0) rfl) (ee_L h1) hv).trans (by rw [hρ, (M.2.2.1 v hv).1, hsD])
      have hlt : ∀ {env : List Value} {i : Nat} {ρ : sy_Mem}, ρ 59 = τ 59 → ρ 57 = τ 57 → i < 2000 → env[0]? = some (.ref 44) → env[1]? = some (.int (nI v)) → env[2]? = some (.int (nI i)) → sy_clt (sy_iL 2) (sy_iA 0 (sy_rF 6 13 (sy_rL 0)) (sy_iA 0 (sy_rF 6 15 (sy_rL 0)) (sy_iL 1))) env ρ = some (.inl (decide (i < (ya_cnt X (sD X (X (sy_vw v) 2))).toNatClampNeg)), ρ) := fun hρ h57 hi h0 h1 h2 => es_cB h2 ((ee_A (kd := 0) (a := 57) (ee_rF (ee_R h0) rfl) (hof hρ h0 h1) hDi).trans (by rw [h57, M.2.1.2.2.2.1, ya_cnt_in hD])) hi
      have hsg : ∀ {env : List Value} {i : Nat} {ρ : sy_Mem}, ρ 59 = τ 59 → ρ 58 = τ 58 → i < (ya_cnt X (sD X (X (sy_vw v) 2))).toNatClampNeg → env[0]? = some (.ref 44) → env[1]? = some (.int (nI v)) → env[2]? = some (.int (nI i)) → sy_iM (sy_cv 6 2 sf_X6_segmentAt) (sy_aR (sy_rL 0) (sy_aI (sy_iA 0 (sy_rF 6 15 (sy_rL 0)) (sy_iL 1)) (sy_aI (sy_iL 2) sy_aN))) env ρ = some (.inl (ya_at X (sD X (X (sy_vw v) 2)) (nI i)), ρ) := fun hρ h58 hi h0 h1 h2 => by
        have hpi := yg_pn I hD hi
        exact ee_M (ee_aR (ee_R h0) (ee_aI (hof hρ h0 h1) (ee_aI (ee_L h2) ee_aN))) (ee_cv ((ym_segR hD (by omega)).trans (by rw [h58, M.2.1.2.2.2.2, ya_at_in hD hpi hcn.2])) rfl)
      refine es_loop (E := fun i => [.ref 44, .int (nI v), .int (nI i)]) (S := fun _ => τ) (ya_fsp X D (X (sy_vw v) 2) - (yL X (X (sy_vw v) 2)).toNatClampNeg) (yL X (X (sy_vw v) 2)).toNatClampNeg 1000 (by omega) (fun i h1 h2 => ?_) ?_ (fun i _ hi k' => es_In1 rfl rfl) ?_
      · have hi : i < (ya_cnt X (sD X (X (sy_vw v) 2))).toNatClampNeg := by omega
        refine ee_cAt ((hlt rfl rfl (show _ < 2000 by omega) rfl rfl rfl).trans (by rw [decide_eq_true hi])) ((hgn hτ rfl (hsg rfl rfl hi rfl rfl rfl) (hatl i hi).1).trans (by rw [f3 i h1 (by omega)]))
      · rw [show (yL X (X (sy_vw v) 2)).toNatClampNeg + (ya_fsp X D (X (sy_vw v) 2) - (yL X (X (sy_vw v) 2)).toNatClampNeg) = ya_fsp X D (X (sy_vw v) 2) by omega]
        by_cases e : ya_fsp X D (X (sy_vw v) 2) < (ya_cnt X (sD X (X (sy_vw v) 2))).toNatClampNeg
        · exact ee_cAt ((hlt rfl rfl (show _ < 2000 by omega) rfl rfl rfl).trans (by rw [decide_eq_true e])) ((hgn hτ rfl (hsg rfl rfl e rfl rfl rfl) (hatl _ e).1).trans (by rw [f4 e]))
        · exact ee_cA (x := false) (y := true) ((hlt rfl rfl (show ya_fsp X D (X (sy_vw v) 2) < 2000 by omega) rfl rfl rfl).trans (by rw [decide_eq_false e])) (fun h => by cases h)
      · rw [show (yL X (X (sy_vw v) 2)).toNatClampNeg + (ya_fsp X D (X (sy_vw v) 2) - (yL X (X (sy_vw v) 2)).toNatClampNeg) = ya_fsp X D (X (sy_vw v) 2) by omega]
        have hvi : sy_inb (nI v) 4 = true := yi_inbN hv (by omega)
        have hvc : (nI v).toNatClampNeg = v := nI_clamp (by omega)
        have e3 : (if decide (ya_fsp X D (X (sy_vw v) 2) < (ya_cnt X (sD X (X (sy_vw v) 2))).toNatClampNeg) = true then (1 : Int32) else 3) = if ya_spb X D (X (sy_vw v) 2) = -1 then 3 else 1 := by
          by_cases e : ya_fsp X D (X (sy_vw v) 2) < (ya_cnt X (sD X (X (sy_vw v) 2))).toNatClampNeg
          · rw [decide_eq_true e, if_pos rfl, f5, if_pos e, if_neg (yl_ne (hatl _ e).1)]
          · rw [decide_eq_false e, if_neg (by decide), f5, if_neg e, if_pos rfl]
        refine es_Q (es_W (ee_rF (ee_R rfl) rfl) (ee_L rfl) ((ee_iQ (hlt rfl rfl (show _ < 2000 by omega) rfl rfl rfl) (fun _ => ee_K) (fun _ => ee_K)).trans (by rw [e3])) hvi ?_)
        rw [hvc]
        refine es_W (v := ya_spb X D (X (sy_vw v) 2)) (ee_rF (ee_R rfl) rfl) (ee_L rfl) ?_ hvi (by rw [hvc]; rfl)
        by_cases e : ya_fsp X D (X (sy_vw v) 2) < (ya_cnt X (sD X (X (sy_vw v) 2))).toNatClampNeg
        · exact (ee_iQ (y := -1) (hlt (yu_ne (by decide)) (yu_ne (by decide)) (show ya_fsp X D (X (sy_vw v) 2) < 2000 by omega) rfl rfl rfl) (fun _ => hsg (yu_ne (by decide)) (yu_ne (by decide)) e rfl rfl rfl) (fun h => absurd e (of_decide_eq_false h))).trans (by rw [decide_eq_true e, if_pos rfl, f5, if_pos e])
        · exact (ee_iQ (x := -1) (hlt (yu_ne (by decide)) (yu_ne (by decide)) (show ya_fsp X D (X (sy_vw v) 2) < 2000 by omega) rfl rfl rfl) (fun h => absurd (of_decide_eq_true h) e) (fun _ => ee_K)).trans (by rw [decide_eq_false e, if_neg (by decide), f5, if_neg e])
    · refine yn_stand I hv hspl (Or.inl rfl) ?_
      by_cases e : ya_spb X D (X (sy_vw v) 2) = -1
      · rw [decide_eq_true e]; exact Or.inr ⟨rfl, e⟩
      · rw [decide_eq_false e]; exact Or.inl rfl
    · rw [ya_stand_at, if_neg (by decide), if_neg (by decide), if_pos rfl]
      exact hspd
    · rw [ya_stand_at, if_neg (by decide), if_neg (by decide), if_neg (by decide)]
    · rw [ya_stand_at, if_neg (by decide), if_neg (by decide), if_neg (by decide)]
end YLv
