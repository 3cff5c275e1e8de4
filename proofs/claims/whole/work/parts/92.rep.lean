/-! replaceHeld and replaces, and the turn of replace -/
section YRp
variable {A B X Y τ τ0 σ : sy_Mem} {t v : Nat}
/-- released, it is the other memory -/
theorem yo_rel (hv : v < 4) (h : yo_lo X Y) (hX : ∀ k, 32 ≤ k → X k = A k) (hY : ∀ k, 32 ≤ k → Y k = sy_up A (sy_vw v) 6 0 k) : sy_up X (sy_vw v) 6 0 = Y := by
  have hb := yv_lt hv
  funext k
  by_cases e : k = sy_vw v
  · rw [e, yu_eq, hX _ (by omega), hY _ (by omega), yu_eq]
  · rw [yu_ne e]
    by_cases h32 : k < 32
    · exact (h k h32).symm
    · rw [hX k (by omega), hY k (by omega), yu_ne e]
theorem yw_repL (I : yn_I t A) (M0 : yr_M A τ0) (hv : v < 4) (ht : t + 70 < 10000) (M : yr_M (sy_up A (sy_vw v) 6 0) τ) (h23 : τ 44 23 = A (sy_vw v) 6) (hH : ∀ i : Nat, (i : Int) < (A (sy_vw v) 6).toInt → τ 65 (4 * v + i) = A (sy_vw v + 1) i ∧ τ 66 (4 * v + i) = A (sy_vw v + 2) i) :
    ∃ st A' τ', sf_X5_replaceHeld [.ref 0, .ref (sy_vw v)] A = some (.inl (some (.int st)), A') ∧ sf_X6_replaces [.ref 44, .int (nI v)] τ = some (.inl (some (.int st)), τ') ∧
    yn_I (t + 8) (sy_up A' (sy_vw v) 6 0) ∧ yr_M (sy_up A' (sy_vw v) 6 0) τ' ∧ (∀ k, 44 ≤ k → A' k = A k) ∧ ym_fw τ τ' ∧ τ' 44 36 = τ 44 36 := by
  have W := yn_Wo I
  have hb := yv_lt hv
  have IB := yn_release I hv
  obtain ⟨q1, q4, q6⟩ := yv_hold I hv
  have hlo : yo_lo A (sy_up A (sy_vw v) 6 0) := fun k hk => yu_ne (by omega)
  have hwk := ya_sk_wck I hv
  have hlv : ∀ i, i < (A (sy_vw v) 6).toNatClampNeg → yl A ((fun i => ya_held A v (nI i)) i) := fun i hi => (yv_held I hv (by omega)).2.2
  have hlvB : ∀ i, i < (A (sy_vw v) 6).toNatClampNeg → yl (sy_up A (sy_vw v) 6 0) ((fun i => ya_held A v (nI i)) i) := fun i hi => by
    rw [yl_c (hlo 11 (by decide))]
    exact hlv i hi
  have hH' : ∀ i, i < (A (sy_vw v) 6).toNatClampNeg → τ 65 (4 * v + i) = (fun i => ya_held A v (nI i)) i ∧ decide (τ 66 (4 * v + i) = 0) = !(fun i => ya_kept A v (nI i)) i := fun i hi => by
    obtain ⟨a1, a2, _⟩ := yv_held I hv (i := i) (by omega)
    obtain ⟨b1, b2⟩ := hH i (by omega)
    refine ⟨by rw [b1]; exact a1.symm, ?_⟩
    show _ = !ya_kept A v (nI i)
    rw [b2, a2, Bool.not_not]
  have hcC : ∀ {env : List Value}, env[1]? = some (.ref (sy_vw v)) → sy_ceq (sy_iM (sy_cv 4 0 sf_X4_heldCount) (sy_aR (sy_rL 1) sy_aN)) (sy_iK 0) env A = some (.inl (decide (A (sy_vw v) 6 = 0)), A) := fun h1 => ee_cB (ee_M (ee_aR (ee_R h1) ee_aN) (ee_cv (yt_X4_heldCount _ hv) (yv_rc hv rfl))) ee_K
  have hcM : ∀ {env : List Value}, env[0]? = some (.ref 44) → sy_ceq (sy_iF 6 23 (sy_rL 0)) (sy_iK 0) env τ = some (.inl (decide (A (sy_vw v) 6 = 0)), τ) := fun h0 => (ee_cB (ee_F (ee_R h0) rfl) ee_K).trans (by rw [h23])
  by_cases h0 : A (sy_vw v) 6 = 0
  · refine ⟨6, A, τ, ?_, ?_, yn_I_to IB (by omega), M, fun _ _ => rfl, fun _ _ => rfl, rfl⟩
    · refine ee_meth ?_ rfl
      unfold sm_X5_replaceHeld
      exact es_Q (es_It ((hcC rfl).trans (by rw [decide_eq_true h0])) (es_eI ee_K))
    · refine ee_meth ?_ rfl
      unfold sm_X6_replaces
      exact es_Q (es_It ((hcM rfl).trans (by rw [decide_eq_true h0])) (es_eI ee_K))
  have hwC : ∀ {env : List Value}, env[0]? = some (.ref 0) → env[1]? = some (.ref (sy_vw v)) → sy_cI (sy_iM (sy_cv 5 1 sf_X5_wouldChangeKey) (sy_aR (sy_rL 0) (sy_aR (sy_rL 1) sy_aN))) env A = some (.inl (ya_X5_wouldChangeKey A v), A) := fun h0 h1 => ee_cb (ee_M (ee_aR (ee_R h0) (ee_aR (ee_R h1) ee_aN)) (ee_cv (yt_X5_wouldChangeKey W hv) rfl))
  generalize hN : (A (sy_vw v) 6).toNatClampNeg = N at q1 q4 q6 hwk hlv hlvB hH'
  have h23' : τ 44 23 = nI N := by rw [h23, q6]
  generalize hhl : (fun i => ya_held A v (nI i)) = hl at hwk hlv hlvB hH'
  generalize hkp : (fun i => ya_kept A v (nI i)) = kp at hwk hH'
  -- the same key check in both
  have hskB : ya_sk (sy_up A (sy_vw v) 6 0) hl kp N = ya_sk A hl kp N := by
    have e1 : ∀ u, tK (sy_up A (sy_vw v) 6 0) u = tK A u := fun u => ya_tg_c (hlo 1 (by decide)) (hlo 5 (by decide)) _ _
    have e2 : ∀ s, yT (sy_up A (sy_vw v) 6 0) s = yT A s := fun s => ya_sg_c (hlo 11 (by decide)) _
    have e3 : ∀ s f, ya_N (sy_up A (sy_vw v) 6 0) s f = ya_N A s f := fun s f => by unfold ya_N; rw [hlo 14 (by decide)]
    have e4 : ∀ s f, ya_slot (sy_up A (sy_vw v) 6 0) s f = ya_slot A s f := fun s f => ya_slot_c (hlo 31 (by decide)) _ _
    rw [Bool.eq_iff_iff, ya_sk_iff, ya_sk_iff]
    simp only [e1, e2, e3, e4]
  obtain ⟨a1, a2, a3, a4, a5, a7⟩ := yq_gh (kp := kp) I M0 q4 hlv N (Nat.le_refl _)
  obtain ⟨b1, b2, b3, b4, b5, b7⟩ := yq_gh (kp := kp) IB M q4 hlvB N (Nat.le_refl _)
  have hgl := ya_gh_lo (hl := hl) (kp := kp) hlo N
  have hgC := yt_X5_gatherNeedsOfHeld I M0 hv
  rw [hN, hhl, hkp] at hgC
  -- the model, up to its check
  have hmM : ∀ {r : Option (((Option Value) ⊕ Nat) × sy_Mem)}, (sy_sQ (sy_sI (sy_cO (sy_cN (sy_cI (sy_iL 2))) (sy_cN (sy_cI (sy_iL 3)))) (sy_eI (sy_iQ (sy_cI (sy_iL 2)) (sy_iK 10) (sy_iK 8))) sy_sN) (sy_sQ (sy_sI (sy_cgt (sy_iAdd (sy_iM (sy_cv 6 0 sf_X6_all) (sy_aR (sy_rL 0) sy_aN)) (sy_iF 6 33 (sy_rL 0))) (sy_iK 60)) (sy_eI (sy_iK 11)) sy_sN) (sy_sQ (sy_sC (sy_cv 6 0 sf_X6_makes) (sy_aR (sy_rL 0) sy_aN)) (sy_sQ (sy_sB 4 (sy_sQ (sy_sSI 4 (sy_iK 0)) (sy_wh (sy_clt (sy_iL 4) (sy_iMul (sy_iK 3) (sy_iF 6 23 (sy_rL 0)))) (sy_sQ (sy_sI (sy_ceq (sy_iA 0 (sy_rF 6 22 (sy_rL 0)) (sy_iAdd (sy_iMul (sy_iK 4) (sy_iL 1)) (sy_iDv true (sy_iL 4) (sy_iK 3)))) (sy_iK 0)) (sy_sW (sy_rF 6 11 (sy_rL 0)) (sy_iAdd (sy_iMul (sy_iK 3) (sy_iA 0 (sy_rF 6 21 (sy_rL 0)) (sy_iAdd (sy_iMul (sy_iK 4) (sy_iL 1)) (sy_iDv true (sy_iL 4) (sy_iK 3))))) (sy_iDv false (sy_iL 4) (sy_iK 3))) (sy_iA 0 (sy_rF 6 32 (sy_rL 0)) (sy_iL 4))) sy_sN) (sy_sIn 4 1)) 1000))) (sy_eI (sy_iK 0)))))) [.ref 44, .int (nI v), .int (ya_b (ya_sk A hl kp N)), .int (ya_b (decide (ya_gh A hl kp N 27 1 = 0)))] (fun _ => sy_fail) (ym_gh τ (sy_up A (sy_vw v) 6 0) hl kp N) = r → sf_X6_replaces [.ref 44, .int (nI v)] τ = r := fun h => by
    refine ee_meth ?_ rfl
    unfold sm_X6_replaces
    refine es_Q (es_If ((hcM rfl).trans (by rw [decide_eq_false h0])) (es_N ?_))
    refine ym_gatherHeld (hl := hl) (kp := kp) IB M hv h23' q4 hlvB hH' ?_
    rw [hskB, hgl 27 (by decide)]
    exact h
  have gfr : (∀ k, 44 ≤ k → ya_gh A hl kp N k = A k) ∧ ym_fw τ (ym_gh τ (sy_up A (sy_vw v) 6 0) hl kp N) ∧ ym_gh τ (sy_up A (sy_vw v) 6 0) hl kp N 44 36 = τ 44 36 := ⟨fun k hk => a4 k (by omega), fun k hk => b5.1 k (by omega) (by omega) (by omega), b5.2 36 (by decide)⟩
  have hrelG : sy_up (ya_gh A hl kp N) (sy_vw v) 6 0 = ya_gh (sy_up A (sy_vw v) 6 0) hl kp N := yo_rel hv hgl (fun k hk => a4 k (by omega)) (fun k hk => b4 k (by omega))
  cases hsk : ya_sk A hl kp N with
  | false =>
    rw [hsk] at hwk hmM
    refine ⟨8, A, ym_gh τ (sy_up A (sy_vw v) 6 0) hl kp N, ?_, hmM (es_Q (es_It (ee_cOt ((ee_cN (ee_cb (c := false) (ee_L rfl))).trans rfl)) (es_eI ((ee_iQ (ee_cb (c := false) (ee_L rfl)) (fun _ => ee_K) (fun _ => ee_K)).trans rfl)))), yn_I_to IB (by omega), yq_g_M M b5, fun _ _ => rfl, gfr.2⟩
    refine ee_meth ?_ rfl
    unfold sm_X5_replaceHeld
    exact es_Q (es_If ((hcC rfl).trans (by rw [decide_eq_false h0])) (es_N (es_Q (es_It ((hwC rfl rfl).trans (by rw [hwk]; rfl)) (es_eI ee_K)))))
  | true =>
  rw [hsk] at hwk hmM
  have hC : ∀ {r : Option (((Option Value) ⊕ Nat) × sy_Mem)}, (sy_sQ (sy_sI (sy_ceq (sy_iL 2) (sy_iK 0)) (sy_sQ (sy_sC (sy_cv 5 0 sf_X5_makeNeeded) (sy_aR (sy_rL 0) sy_aN)) (sy_sC (sy_cv 5 1 sf_X5_fillHeld) (sy_aR (sy_rL 0) (sy_aR (sy_rL 1) sy_aN)))) sy_sN) (sy_eI (sy_iL 2))) [.ref 0, .ref (sy_vw v), .int (if ya_gh A hl kp N 27 1 = 0 then (if decide (60 < ya_gh A hl kp N 10 9 + 0 + ya_gh A hl kp N 27 0) = true then 11 else 0) else 10)] (fun _ => sy_fail) (ya_gh A hl kp N) = r → sf_X5_replaceHeld [.ref 0, .ref (sy_vw v)] A = r := fun h => by
    refine ee_meth ?_ rfl
    unfold sm_X5_replaceHeld
    refine es_Q (es_If ((hcC rfl).trans (by rw [decide_eq_false h0])) (es_N (es_Q (es_If ((hwC rfl rfl).trans (by rw [hwk]; rfl)) (es_N (es_Q ?_))))))
    exact es_C (ee_aR (ee_R rfl) (ee_aR (ee_R rfl) ee_aN)) (ee_cv hgC rfl) (es_Q (es_SI (σ1 := ya_gh A hl kp N) (ee_M (ee_aR (ee_R rfl) (ee_aI ee_K ee_aN)) (ee_cv (yt_X5_statusOfNeeds a7 _) rfl)) h))
  have e10 := hgl 10 (by decide)
  have e27 := hgl 27 (by decide)
  by_cases h27 : ya_gh A hl kp N 27 1 = 0
  · rw [if_pos h27] at hC
    rw [decide_eq_true h27] at hmM
    have hck : ∀ {b : sy_S} {r : Option (((Option Value) ⊕ Nat) × sy_Mem)} {k : List Value → sy_MM (Option Value)}, b [.ref 44, .int (nI v), .int (ya_b true), .int (ya_b true)] k (ym_gh τ (sy_up A (sy_vw v) 6 0) hl kp N) = r → (sy_sQ (sy_sI (sy_cO (sy_cN (sy_cI (sy_iL 2))) (sy_cN (sy_cI (sy_iL 3)))) (sy_eI (sy_iQ (sy_cI (sy_iL 2)) (sy_iK 10) (sy_iK 8))) sy_sN) b) [.ref 44, .int (nI v), .int (ya_b true), .int (ya_b true)] k (ym_gh τ (sy_up A (sy_vw v) 6 0) hl kp N) = r := fun h => es_Q (es_If ((ee_cO (ee_cN (ee_cb (c := true) (ee_L rfl))) (fun _ => ee_cN (ee_cb (c := true) (ee_L rfl)))).trans rfl) (es_N h))
    have htot : ya_gh A hl kp N 10 9 = A 10 9 := by rw [a4 10 (by omega)]
    have hw := I.2.2.1.1
    have hw2 := I.2.2.1.2.1
    have w0 := hw 0 (by decide)
    have w1 := hw 1 (by decide)
    have w2 := hw 2 (by decide)
    have h270 := a1.2.2.2.2.2.2.2.2.2.1
    have hsumI : (ya_gh A hl kp N 10 9 + 0 + ya_gh A hl kp N 27 0).toInt = (ya_gh A hl kp N 10 9).toInt + (ya_gh A hl kp N 27 0).toInt := by
      rw [Int32.add_zero, yl_add (by rw [htot]; omega) (by rw [htot]; omega) (by omega) (by omega)]
    have hMf : sy_cgt (sy_iAdd (sy_iM (sy_cv 6 0 sf_X6_all) (sy_aR (sy_rL 0) sy_aN)) (sy_iF 6 33 (sy_rL 0))) (sy_iK 60) [.ref 44, .int (nI v), .int (ya_b true), .int (ya_b true)] (ym_gh τ (sy_up A (sy_vw v) 6 0) hl kp N) = some (.inl (decide (60 < ya_gh A hl kp N 10 9 + 0 + ya_gh A hl kp N 27 0)), ym_gh τ (sy_up A (sy_vw v) 6 0) hl kp N) :=
      (ee_cB (ee_B (ee_M (ee_aR (ee_R rfl) ee_aN) (ee_cv (ym_all b2 b1) rfl)) ((ee_F (ee_R rfl) rfl).trans (by rw [b3.1]))) ee_K).trans (by rw [e10, e27, Int32.add_zero])
    cases hfull : decide (60 < ya_gh A hl kp N 10 9 + 0 + ya_gh A hl kp N 27 0) with
    | true =>
      rw [hfull, if_pos rfl] at hC
      refine ⟨11, _, _, hC (es_Q (es_If ((ee_cB (ee_L rfl) ee_K).trans rfl) (es_N (es_eI (ee_L rfl))))), hmM (hck (es_Q (es_It (hMf.trans (by rw [hfull])) (es_eI ee_K)))), ?_, ?_, gfr⟩
      · rw [hrelG]; exact yn_I_to b1 (by omega)
      · rw [hrelG]; exact b2
    | false =>
      rw [hfull, if_neg (by decide)] at hC
      have hsA : (ya_gh A hl kp N 10 9).toInt + (ya_gh A hl kp N 27 0).toInt ≤ 60 := by
        have := of_decide_eq_false hfull
        rw [Int32.lt_iff_toInt_lt, hsumI, yl_c60] at this
        omega
      have hsB : (ya_gh (sy_up A (sy_vw v) 6 0) hl kp N 10 9).toInt + (ya_gh (sy_up A (sy_vw v) 6 0) hl kp N 27 0).toInt ≤ 60 := by rw [e10, e27]; exact hsA
      have mC := yt_X5_makeNeeded a1 a2 a3 hsA (by omega)
      have mM := ym_makes b1 b2 b3 hsB (by omega)
      rw [e27] at mM
      have hcl : ((ya_gh A hl kp N 27 0).toNatClampNeg : Int) = (ya_gh A hl kp N 27 0).toInt := by rw [yi_clampInt]; omega
      have kA := yq_mk a1 a2 a3 hsA (by omega) (ya_gh A hl kp N 27 0).toNatClampNeg (by omega)
      have kB := yq_mk b1 b2 b3 hsB (by omega) (ya_gh A hl kp N 27 0).toNatClampNeg (by rw [e27]; omega)
      have hkl := ya_mk_lo hgl (ya_gh A hl kp N 27 0).toNatClampNeg
      unfold yo_mk at kA kB
      generalize ya_mk (ya_gh A hl kp N) (ya_gh A hl kp N 27 0).toNatClampNeg = KA at mC kA hkl
      generalize ya_mk (ya_gh (sy_up A (sy_vw v) 6 0) hl kp N) (ya_gh A hl kp N 27 0).toNatClampNeg = KB at kB hkl
      generalize ym_mk (ym_gh τ (sy_up A (sy_vw v) 6 0) hl kp N) (ya_gh (sy_up A (sy_vw v) 6 0) hl kp N) (ya_gh A hl kp N 27 0).toNatClampNeg = τK at mM kB
      obtain ⟨_, _, _, kA4, _, kA6, _⟩ := kA
      obtain ⟨kB1, kB2, _, kB4, kB5, kB6, _⟩ := kB
      have hvA : ∀ k, 32 ≤ k → KA k = A k := fun k hk => by rw [kA4 k (by omega), a4 k (by omega)]
      have hvB : ∀ k, 32 ≤ k → KB k = sy_up A (sy_vw v) 6 0 k := fun k hk => by rw [kB4 k (by omega), b4 k (by omega)]
      have hlG : ∀ s, yl (ya_gh A hl kp N) s = yl A s := fun s => yl_c (a4 11 (by omega)) s
      have hlGB : ∀ s, yl (ya_gh (sy_up A (sy_vw v) 6 0) hl kp N) s = yl A s := fun s => by rw [yl_c (b4 11 (by omega)), yl_c (hlo 11 (by omega))]
      have e1 : (fun i : Nat => ya_held KA v (nI i)) = hl := by
        rw [← hhl]
        funext i
        exact ya_held_c (hvA _ (by omega)) (hvA _ (by omega)) _
      have e2 : (fun i : Nat => ya_kept KA v (nI i)) = kp := by
        rw [← hkp]
        funext i
        exact ya_kept_c (hvA _ (by omega)) (hvA _ (by omega)) _
      have hlKA : ∀ i, i < N → yl KA (hl i) := fun i hi => (kA6 _ (by rw [hlG]; exact hlv i hi)).1
      have hlKB : ∀ i, i < N → yl KB (hl i) := fun i hi => (kB6 _ (by rw [hlGB]; exact hlv i hi)).1
      have fC := yt_X5_fillHeld (K := KA) hv (N := N) (by rw [hvA _ (by omega), q6]) q4 (fun i hi => by
        have := congrFun e1 i
        rw [show ya_held KA v (nI i) = hl i from this]
        exact hlKA i hi)
      rw [e1, e2] at fC
      have fM := ym_fillHeld (K := KB) (ρ := τK) (hl := hl) (kp := kp) (N := N) (x2 := ya_b true) (x3 := ya_b true) (k := fun _ => sy_fail) kB2 hv (by rw [kB5 44 (by omega), b5.2 23 (by decide)]; exact h23') q4 hlKB (fun i hi => by
        rw [kB5 65 (by omega), kB5 66 (by omega), b5.1 65 (by decide) (by decide) (by decide), b5.1 66 (by decide) (by decide) (by decide)]
        exact hH' i hi)
      have hrel := yo_rel hv (ya_fk_lo (hl := hl) (kp := kp) hkl (3 * N)) (fun k hk => by rw [ya_fk_ne (by omega), hvA k hk]) (fun k hk => by rw [ya_fk_ne (by omega), hvB k hk])
      refine ⟨0, _, _, hC (es_Q (es_It ((ee_cB (ee_L rfl) ee_K).trans rfl) (es_Q (es_C (ee_aR (ee_R rfl) ee_aN) (ee_cv mC rfl) (es_C (ee_aR (ee_R rfl) (ee_aR (ee_R rfl) ee_aN)) (ee_cv fC rfl) (es_eI (ee_L rfl))))))), hmM (hck (es_Q (es_If (hMf.trans (by rw [hfull])) (es_N (es_Q (es_C (ee_aR (ee_R rfl) ee_aN) (ee_cv mM rfl) fM)))))), ?_, ?_, fun k hk => by rw [ya_fk_ne (by omega), hvA k (by omega)], fun k hk => by rw [ym_fk_ne (by omega), kB5 k (by omega), b5.1 k (by omega) (by omega) (by omega)], by rw [ym_fk_ne (by decide), kB5 44 (by omega), b5.2 36 (by decide)]⟩
      · rw [hrel]
        refine yn_I_to (yn_fk kB1 q4 hlKB (fun j hj hkj h2 => ?_)) (by have := b3.2.1.2; rw [e27] at this; omega)
        have hlj := hlv j hj
        have hin := yl_in hlj
        obtain ⟨_, c2, _, _, c5⟩ := kB6 (hl j) (by rw [hlGB]; exact hlj)
        have eT : yT KB (hl j) = yT A (hl j) := by
          rw [c2]
          exact (ya_sg_c (b4 11 (by omega)) _).trans (ya_sg_c (hlo 11 (by omega)) _)
        have eK : ∀ u, tK KB u = tK A u := fun u => ya_tg_c (by rw [kB4 1 (by omega), b4 1 (by omega), hlo 1 (by omega)]) (by rw [kB4 5 (by omega), b4 5 (by omega), hlo 5 (by omega)]) _ _
        rw [eT, eK] at h2
        have hs := (ya_sk_iff.mp hsk j hj hkj).resolve_left h2
        have e14 : ya_N KB (hl j) 0 = ya_N A (hl j) 0 := by
          rw [c5, ya_N_nd b4]
          unfold ya_N
          rw [hlo 14 (by omega)]
        rw [ya_N_in hin (by decide)] at e14
        rw [ya_slot_in (by rw [nI_toInt (by omega)]; omega) (by decide), nI_clamp (by omega)] at hs
        rw [kB4 31 (by omega), b4 31 (by omega), hlo 31 (by omega)]
        exact hs.symm.trans e14.symm
      · rw [hrel]
        exact yr_fk kB2
  · rw [if_neg h27] at hC
    rw [decide_eq_false h27] at hmM
    refine ⟨10, _, _, hC (es_Q (es_If ((ee_cB (ee_L rfl) ee_K).trans rfl) (es_N (es_eI (ee_L rfl))))), hmM (es_Q (es_It ((ee_cO (ee_cN (ee_cb (c := true) (ee_L rfl))) (fun _ => ee_cN (ee_cb (c := false) (ee_L rfl)))).trans rfl) (es_eI ((ee_iQ (ee_cb (c := true) (ee_L rfl)) (fun _ => ee_K) (fun _ => ee_K)).trans rfl)))), ?_, ?_, gfr⟩
    · rw [hrelG]; exact yn_I_to b1 (by omega)
    · rw [hrelG]; exact b2
end YRp
