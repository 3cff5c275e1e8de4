/-! a view leaves what is deleted -/
section YLv
variable {X τ : sy_Mem} {t v : Nat} {s : Int32} {D : Nat → Bool}
def ya_dmd (D : Nat → Bool) (s : Int32) : Bool := (decide (0 ≤ s) && decide (s < 60)) && D s.toNatClampNeg
theorem yd_isD (hX : ∀ i, i < 60 → X 18 i = ya_b (D i)) (s : Int32) : ya_X3_isDoomed X s = ya_dmd D s := by
  unfold ya_X3_isDoomed ya_dmd
  cases h : (decide (0 ≤ s) && decide (s < 60)) with
  | false => rfl
  | true =>
    have := yl_isS.mp h
    rw [hX _ (by rw [yi_clampInt]; omega), ya_b0]
theorem ya_dmd_m : ya_dmd D (-1) = false := rfl
theorem ya_dmd_in (h : 0 ≤ s.toInt ∧ s.toInt < 60) : ya_dmd D s = D s.toNatClampNeg := by
  unfold ya_dmd
  rw [yl_isS.mpr h, Bool.true_and]
def ya_spb (X : sy_Mem) (D : Nat → Bool) (s : Int32) : Int32 := (ya_ff (fun i => !ya_dmd D (ya_at X (sD X s) (nI i))) ((ya_cnt X (sD X s)).toNatClampNeg - ((yL X s).toNatClampNeg + 1)) ((yL X s).toNatClampNeg + 1)).elim (-1) (fun i => ya_at X (sD X s) (nI i))
theorem yt_X3_sparedBehind (I : yn_I t X) (hX : ∀ i, i < 60 → X 18 i = ya_b (D i)) (hs : yl X s) : sf_X3_sparedBehind [.ref 10, .int s] X = some (.inl (some (.int (ya_spb X D s))), X) := by
  have W := yn_Wo I
  have hp := yg_pl I hs
  have hD := yl_sD I.1 I.2.1 hs
  have hc := yg_cnt I hD
  have hL : yL X s = nI (yL X s).toNatClampNeg := yi_nat (yi_pos.mpr hp.1)
  refine ee_meth ?_ rfl
  unfold sm_X3_sparedBehind ya_spb
  refine es_Q (es_SI (ee_M (ee_aR (ee_R rfl) (ee_aI (ee_L rfl) ee_aN)) (ee_cv (yt_X3_databaseOf W s) rfl)) (es_Q (es_B (es_Q (es_SI (x := nI ((yL X s).toNatClampNeg + 1)) (σ1 := X) ((ee_B (ee_M (ee_aR (ee_R rfl) (ee_aI (ee_L rfl) ee_aN)) (ee_cv (yt_X3_placeOf X s) rfl)) ee_K).trans (by rw [← nI_1, ← hL])) ?_)))))
  refine es_forPL (E := fun i => [.ref 10, .int s, .int (sD X s), .int (nI i)]) (j := 3) (a := (yL X s).toNatClampNeg + 1) (B := ya_cnt X (sD X s)) (R := fun i => ya_at X (sD X s) (nI i)) (fun _ => rfl) (fun i => ee_M (ee_aR (ee_R rfl) (ee_aI (ee_L rfl) ee_aN)) (ee_cv (yt_X3_countOf X _) rfl)) (by rw [yi_clampInt]; omega) (by rw [yi_clampInt]; omega) (fun i g1 g2 k' => ?_) (fun _ => es_eI ee_K)
  have hsg : ∀ {env : List Value}, env[0]? = some (.ref 10) → env[2]? = some (.int (sD X s)) → env[3]? = some (.int (nI i)) → sy_iM (sy_cv 3 2 sf_X3_segmentAt) (sy_aR (sy_rL 0) (sy_aI (sy_iL 2) (sy_aI (sy_iL 3) sy_aN))) env X = some (.inl (ya_at X (sD X s) (nI i)), X) := fun h0 h2 h3 => ee_M (ee_aR (ee_R h0) (ee_aI (ee_L h2) (ee_aI (ee_L h3) ee_aN))) (ee_cv (yt_X3_segmentAt W _ _) rfl)
  refine es_Q (es_I ((ee_cN (ee_cb (ee_M (ee_aR (ee_R rfl) (ee_aI (hsg rfl rfl rfl) ee_aN)) (ee_cv (yt_X3_isDoomed W _) rfl)))).trans (by rw [yd_isD hX])) (fun _ => es_eI (hsg rfl rfl rfl)) (fun _ => es_N (es_In1 rfl rfl)))
/-- the place of the first spared one from the segment on, in the model's loop -/
def ya_fsp (X : sy_Mem) (D : Nat → Bool) (s : Int32) : Nat := (ya_ff (fun i => !ya_dmd D (ya_at X (sD X s) (nI i))) ((ya_cnt X (sD X s)).toNatClampNeg - (yL X s).toNatClampNeg) (yL X s).toNatClampNeg).elim (ya_cnt X (sD X s)).toNatClampNeg (fun i => i)
theorem ya_fsp_eq (I : yn_I t X) (hs : yl X s) (hd : ya_dmd D s = true) : (yL X s).toNatClampNeg ≤ ya_fsp X D s ∧ ya_fsp X D s ≤ (ya_cnt X (sD X s)).toNatClampNeg ∧ (∀ i, (yL X s).toNatClampNeg ≤ i → i < ya_fsp X D s → ya_dmd D (ya_at X (sD X s) (nI i)) = true) ∧ (ya_fsp X D s < (ya_cnt X (sD X s)).toNatClampNeg → ya_dmd D (ya_at X (sD X s) (nI (ya_fsp X D s))) = false) ∧
    ya_spb X D s = if ya_fsp X D s < (ya_cnt X (sD X s)).toNatClampNeg then ya_at X (sD X s) (nI (ya_fsp X D s)) else -1 := by
  have hp := yg_pl I hs
  have hD := yl_sD I.1 I.2.1 hs
  have hc := yg_cnt I hD
  have hL : yL X s = nI (yL X s).toNatClampNeg := yi_nat (yi_pos.mpr hp.1)
  have hLc : (yL X s).toNatClampNeg < (ya_cnt X (sD X s)).toNatClampNeg := by rw [yi_clampInt, yi_clampInt]; omega
  have hat : ya_at X (sD X s) (nI (yL X s).toNatClampNeg) = s := by rw [← hL]; exact (I.2.2.1.2.2.1 s hs).2.2
  have hff : ya_ff (fun i => !ya_dmd D (ya_at X (sD X s) (nI i))) ((ya_cnt X (sD X s)).toNatClampNeg - (yL X s).toNatClampNeg) (yL X s).toNatClampNeg = ya_ff (fun i => !ya_dmd D (ya_at X (sD X s) (nI i))) ((ya_cnt X (sD X s)).toNatClampNeg - ((yL X s).toNatClampNeg + 1)) ((yL X s).toNatClampNeg + 1) := by
    rw [show (ya_cnt X (sD X s)).toNatClampNeg - (yL X s).toNatClampNeg = (ya_cnt X (sD X s)).toNatClampNeg - ((yL X s).toNatClampNeg + 1) + 1 by omega]
    show (if (!ya_dmd D (ya_at X (sD X s) (nI (yL X s).toNatClampNeg))) = true then _ else _) = _
    rw [hat, hd]
    rfl
  unfold ya_fsp ya_spb
  rw [hff]
  cases h : ya_ff (fun i => !ya_dmd D (ya_at X (sD X s) (nI i))) ((ya_cnt X (sD X s)).toNatClampNeg - ((yL X s).toNatClampNeg + 1)) ((yL X s).toNatClampNeg + 1) with
  | none =>
    have hn := ya_ff_none.mp h
    refine ⟨by show (yL X s).toNatClampNeg ≤ (ya_cnt X (sD X s)).toNatClampNeg; omega, Nat.le_refl _, fun i h1 h2 => ?_, fun h => absurd h (by show ¬ (ya_cnt X (sD X s)).toNatClampNeg < _; omega), ?_⟩
    · have h2 : i < (ya_cnt X (sD X s)).toNatClampNeg := h2
      by_cases e : i = (yL X s).toNatClampNeg
      · rw [e, hat]; exact hd
      · have := hn i (by omega) (by omega)
        simpa using this
    · show (-1 : Int32) = if (ya_cnt X (sD X s)).toNatClampNeg < (ya_cnt X (sD X s)).toNatClampNeg then _ else _
      rw [if_neg (by omega)]
  | some j =>
    obtain ⟨h1, h2, h3, h4⟩ := ya_ff_some.mp h
    refine ⟨by show (yL X s).toNatClampNeg ≤ j; omega, by show j ≤ _; omega, fun i g1 g2 => ?_, fun _ => by simpa using h3, ?_⟩
    · have g2 : i < j := g2
      by_cases e : i = (yL X s).toNatClampNeg
      · rw [e, hat]; exact hd
      · have := h4 i (by omega) g2
        simpa using this
    · show ya_at X (sD X s) (nI j) = if j < (ya_cnt X (sD X s)).toNatClampNeg then ya_at X (sD X s) (nI j) else -1
      rw [if_pos (by omega)]
end YLv
