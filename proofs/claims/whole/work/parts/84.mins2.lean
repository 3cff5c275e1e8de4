/-! the model's readers for insert -/
section YMr
variable {A τ : sy_Mem} {t n f v : Nat}
theorem es_forAndG {σ : sy_Mem} {k : List Value → sy_MM (Option Value)} {r : Option (((Option Value) ⊕ Nat) × sy_Mem)} {c : sy_CE} {s : sy_S} {E : Nat → Bool → List Value} {P : Nat → Bool} {N a : Nat} (hc : ∀ i b, a ≤ i → i < N → c (E i b) σ = some (.inl true, σ)) (he : ∀ b, c (E N b) σ = some (.inl false, σ)) (hs : ∀ i b, a ≤ i → i < N → ∀ k', s (E i b) k' σ = k' (E (i + 1) (b && P i)) σ) :
    ∀ (n i m : Nat) (b : Bool), a ≤ i → i + n = N → n < m → k (E N (b && (ya_ff (fun i => !P i) n i).isNone)) σ = r → sy_wh c s m (E i b) k σ = r
  | 0, i, m + 1, b, _, hi, _, hk => by
    rw [Nat.add_zero] at hi
    subst hi
    unfold sy_wh
    rw [sy_bnd_at (he b)]
    rw [show (b && (ya_ff (fun i => !P i) 0 i).isNone) = b by unfold ya_ff; cases b <;> rfl] at hk
    exact hk
  | n + 1, i, m + 1, b, ha, hi, hm, hk => by
    unfold sy_wh
    rw [sy_bnd_at (hc i b ha (by omega))]
    show s (E i b) _ σ = _
    rw [hs i b ha (by omega)]
    refine es_forAndG hc he hs n (i + 1) m _ (by omega) (by omega) (by omega) ?_
    rw [← hk]
    have e : ((b && P i) && (ya_ff (fun i => !P i) n (i + 1)).isNone) = (b && (ya_ff (fun i => !P i) (n + 1) i).isNone) := by
      rw [show ya_ff (fun i => !P i) (n + 1) i = if !P i then some i else ya_ff (fun i => !P i) n (i + 1) from rfl]
      cases P i <;> cases b <;> rfl
    rw [e]
  | _, _, 0, _, _, _, hm, _ => absurd hm (by omega)
theorem nI_sub1 {i : Nat} (h : 1 ≤ i) (hi : i < 10000) : nI i - 1 = nI (i - 1) := nI_subn h hi
def ya_first (A : sy_Mem) : Nat := (ya_ff (fun i => ya_code A (nI i) 1) (A 19 0).toNatClampNeg 0).elim ((A 19 0).toNatClampNeg - 1) (fun i => i)
theorem ya_first_lt (h : 0 < (A 19 0).toNatClampNeg) : ya_first A < (A 19 0).toNatClampNeg := by
  unfold ya_first
  cases hf : ya_ff (fun i => ya_code A (nI i) 1) (A 19 0).toNatClampNeg 0 with
  | none => show (A 19 0).toNatClampNeg - 1 < _; omega
  | some i =>
    have := (ya_ff_some.mp hf).2.1
    show i < _
    omega
theorem ya_first_eq (I : yn_I t A) (h : 0 < (A 19 0).toNatClampNeg) : ya_X0_firstNew A = nI (ya_first A) := by
  have h4 := yg_n19 I
  unfold ya_X0_firstNew ya_first
  cases hf : ya_ff (fun i => ya_code A (nI i) 1) (A 19 0).toNatClampNeg 0 with
  | none =>
    show A 19 0 - 1 = nI ((A 19 0).toNatClampNeg - 1)
    have e := nI_sub1 (i := (A 19 0).toNatClampNeg) (by omega) (by omega)
    rw [← yg_n19e I] at e
    exact e
  | some i => rfl
theorem ya_first_0 (I : yn_I t A) (h : (A 19 0).toNatClampNeg = 0) : ya_X0_firstNew A = -1 := by
  have e := yg_n19e I
  unfold ya_X0_firstNew
  rw [h]
  show A 19 0 - 1 = -1
  rw [e, h]
  rfl
theorem ym_firstNew (M : yr_M A τ) (I : yn_I t A) (h : 0 < (A 19 0).toNatClampNeg) : sf_X6_firstNew [.ref 44] τ = some (.inl (some (.int (nI (ya_first A)))), τ) := by
  obtain ⟨n, hn⟩ : ∃ n, (A 19 0).toNatClampNeg = n := ⟨_, rfl⟩
  have h4 := yg_n19 I
  have e19 := yg_n19e I
  rw [hn] at h4 e19 h
  have en : nI n - 1 = nI (n - 1) := nI_sub1 (by omega) (by omega)
  have ef : ya_first A = (ya_ff (fun i => ya_code A (nI i) 1) n 0).elim (n - 1) (fun i => i) := by unfold ya_first; rw [hn]
  refine ee_meth ?_ rfl
  unfold sm_X6_firstNew
  refine es_Q (es_SI (x := nI n - 1) ((ee_B (em_F24 M (ee_R rfl)) ee_K).trans (by rw [e19])) (es_Q (es_B (es_Q (es_SI (x := nI n - 1) (σ1 := τ) ((ee_B (em_F24 M (ee_R rfl)) ee_K).trans (by rw [e19])) ?_)))))
  refine es_loop (E := fun i => [.ref 44, .int ((ya_ff (fun i => ya_code A (nI i) 1) i (n - i)).elim (nI n - 1) (fun i => nI i)), .int (nI (n - i) - 1)]) (S := fun _ => τ) n 0 1000 (by omega) (fun i _ hi => ?_) ?_ (fun i _ hi k' => ?_) ?_
  · refine (ee_cB (ee_L rfl) ee_K).trans ?_
    have e := nI_sub1 (i := n - i) (by omega) (by omega)
    rw [e, show decide ((0 : Int32) ≤ nI (n - i - 1)) = true from decide_eq_true (by rw [yi_pos, nI_toInt (by omega)]; omega)]
  · refine (ee_cB (ee_L rfl) ee_K).trans ?_
    rw [show n - (0 + n) = 0 by omega]
    rfl
  · have e := nI_sub1 (i := n - i) (by omega) (by omega)
    have eff : ya_ff (fun i => ya_code A (nI i) 1) (i + 1) (n - (i + 1)) = if ya_code A (nI (n - i - 1)) 1 = true then some (n - i - 1) else ya_ff (fun i => ya_code A (nI i) 1) i (n - i) := by
      rw [show n - (i + 1) = n - i - 1 by omega]
      show (if ya_code A (nI (n - i - 1)) 1 = true then some (n - i - 1) else ya_ff (fun i => ya_code A (nI i) 1) i (n - i - 1 + 1)) = _
      rw [show n - i - 1 + 1 = n - i by omega]
    rw [eff, e, show n - (i + 1) = n - i - 1 by omega]
    refine es_Q (es_SI (x := if ya_code A (nI (n - i - 1)) 1 = true then nI (n - i - 1) else (ya_ff (fun i => ya_code A (nI i) 1) i (n - i)).elim (nI n - 1) (fun i => nI i)) (ee_iQ (ee_cb (ee_M (ee_aR (ee_R rfl) (ee_aI (ee_L rfl) (ee_aI ee_K ee_aN))) (ee_cv (ym_hasCode M I (j := n - i - 1) (by omega) 1) rfl))) (fun _ => ee_L rfl) (fun _ => ee_L rfl)) (es_In (x := nI (n - i - 1)) rfl ?_))
    rw [show nI (n - i - 1) + -1 = nI (n - i - 1) - 1 from (Int32.sub_eq_add_neg ..).symm]
    cases ya_code A (nI (n - i - 1)) 1 <;> rfl
  · rw [Nat.zero_add, Nat.sub_self]
    show sy_eI _ _ _ _ = _
    refine es_eI (ee_L ?_)
    rw [ef]
    show some (Value.int ((ya_ff (fun i => ya_code A (nI i) 1) n 0).elim (nI n - 1) (fun i => nI i))) = _
    cases ya_ff (fun i => ya_code A (nI i) 1) n 0 with
    | none =>
      show some (Value.int (nI n - 1)) = some (Value.int (nI (n - 1)))
      rw [en]
    | some i => rfl
/-- the new ones are as they should be -/
theorem ya_areNew (I : yn_I t A) (hf : (f : Int) < (A 19 0).toInt) : ya_X5_areNewOnesOrdered A f = true ↔ ∀ i : Nat, f ≤ i → (i : Int) < (A 19 0).toInt → ya_ag A 22 0 (nI i) = 0 ∧ (i = 0 ∨ tP A (ya_ag A 20 (-1) (nI i)) = ya_ag A 20 (-1) (nI (i - 1))) := by
  have h4 := yg_n19 I
  have hb : ∀ i : Nat, (i : Int) < (A 19 0).toInt → ((0 < ya_ag A 22 0 (nI i)) ↔ ya_ag A 22 0 (nI i) ≠ 0) := fun i hi => by
    have hc := (I.2.2.2.2.2.2.2.1 i hi).2.2.1
    rw [ya_ag_in (yl_An hi (by omega)), nI_clamp (by omega), Int32.lt_iff_toInt_lt, yl_c0]
    constructor
    · intro h e
      rw [e, yl_c0] at h
      omega
    · intro h
      have : (A 22 i).toInt ≠ 0 := fun e => h (yi_ext (by rw [e, yl_c0]))
      omega
  unfold ya_X5_areNewOnesOrdered
  have hs : ∀ i : Nat, 1 ≤ i → i < 1000 → nI i - 1 = nI (i - 1) := fun i h1 h2 => nI_sub1 h1 (by omega)
  cases hff : ya_ff (fun i => ((decide (0 < (ya_ag A 22 0 (nI i)))) || ((decide (0 < (nI i))) && (!decide ((ya_tg A 3 (-1) (ya_ag A 20 (-1) (nI i))) = (ya_ag A 20 (-1) ((nI i) - 1))))))) ((A 19 0).toNatClampNeg - f) f with
  | none =>
    refine ⟨fun _ i h1 h2 => ?_, fun _ => rfl⟩
    have hp := ya_ff_none.mp hff i h1 (by omega)
    rw [Bool.or_eq_false_iff, Bool.and_eq_false_iff] at hp
    refine ⟨Classical.byContradiction fun e => absurd ((hb i h2).mpr e) (of_decide_eq_false hp.1), ?_⟩
    rcases hp.2 with q | q
    · left
      have := of_decide_eq_false q
      rw [Int32.lt_iff_toInt_lt, nI_toInt (by omega), yl_c0] at this
      omega
    · by_cases e0 : i = 0
      · exact Or.inl e0
      · right
        rw [hs i (by omega) (by omega)] at q
        show ya_tg A 3 (-1) _ = _
        simpa using q
  | some j =>
    obtain ⟨h1, h2, h3, _⟩ := ya_ff_some.mp hff
    refine ⟨fun h => (by cases h), fun h => ?_⟩
    exfalso
    obtain ⟨g1, g2⟩ := h j h1 (by omega)
    rw [Bool.or_eq_true, Bool.and_eq_true] at h3
    rcases h3 with q | ⟨q1, q2⟩
    · exact (hb j (by omega)).mp (of_decide_eq_true q) g1
    · have q1 := of_decide_eq_true q1
      rw [Int32.lt_iff_toInt_lt, nI_toInt (by omega), yl_c0] at q1
      rcases g2 with g2 | g2
      · omega
      · rw [hs j (by omega) (by omega), show ya_tg A 3 (-1) (ya_ag A 20 (-1) (nI j)) = ya_ag A 20 (-1) (nI (j - 1)) from g2, decide_eq_true rfl] at q2
        cases q2
theorem ym_areNew (M : yr_M A τ) (I : yn_I t A) (hf : (f : Int) < (A 19 0).toInt) : sf_X6_areNew [.ref 44, .int (nI f)] τ = some (.inl (some (.int (ya_b (ya_X5_areNewOnesOrdered A f)))), τ) := by
  have h4 := yg_n19 I
  have hs : ∀ i : Nat, 1 ≤ i → i < 1000 → nI i - 1 = nI (i - 1) := fun i h1 h2 => nI_sub1 h1 (by omega)
  have hup : ∀ {env : List Value} {e : sy_IE} {i : Nat}, env[0]? = some (.ref 44) → e env τ = some (.inl (nI i), τ) → 1 ≤ i → (i : Int) < (A 19 0).toInt → sy_ceq (sy_iA 0 (sy_rF 6 2 (sy_rL 0)) (sy_iA 0 (sy_rF 6 25 (sy_rL 0)) e)) (sy_iA 0 (sy_rF 6 25 (sy_rL 0)) (sy_iSub e (sy_iK 1))) env τ = some (.inl (decide (tP A (ya_ag A 20 (-1) (nI i)) = ya_ag A 20 (-1) (nI (i - 1)))), τ) := fun {env e i} h0 he h1 hi =>
    ee_cB (em_46 M I (ee_rF (ee_R h0) rfl) (em_67 M I (ee_rF (ee_R h0) rfl) he hi) (yg_arg I hi)) (em_67 M I (ee_rF (ee_R h0) rfl) ((ee_B he ee_K).trans (by rw [hs i h1 (by omega)])) (by omega))
  refine ee_meth ?_ rfl
  unfold sm_X6_areNew
  refine es_Q (es_SI (x := ya_b (decide (f = 0) || decide (tP A (ya_ag A 20 (-1) (nI f)) = ya_ag A 20 (-1) (nI (f - 1))))) (ee_iC (ee_cO ((ee_cB (ee_L rfl) ee_K).trans (by rw [show decide (nI f = 0) = decide (f = 0) from decide_eq_decide.mpr ⟨fun h => by have := congrArg Int32.toInt h; rw [nI_toInt (by omega), yl_c0] at this; omega, fun h => by rw [h]; rfl⟩])) (fun h => hup rfl (ee_L rfl) (by have := of_decide_eq_false h; omega) hf))) (es_Q (es_B (es_Q (es_SI (ee_L rfl) ?_)))))
  refine es_forAndG (E := fun i b => [.ref 44, .int (nI f), .int (ya_b b), .int (nI i)]) (P := fun i => decide (ya_ag A 22 0 (nI i) = 0) && (decide (i = f) || decide (tP A (ya_ag A 20 (-1) (nI i)) = ya_ag A 20 (-1) (nI (i - 1))))) (N := (A 19 0).toNatClampNeg) (a := f) (fun i b _ hi => ?_) (fun b => ?_) (fun i b hfi hi k' => ?_) ((A 19 0).toNatClampNeg - f) f 1000 (decide (f = 0) || decide (tP A (ya_ag A 20 (-1) (nI f)) = ya_ag A 20 (-1) (nI (f - 1)))) (by omega) (by omega) (by omega) ?_
  · exact (es_cB (B := A 19 0) rfl (em_F24 M (ee_R rfl)) (by omega)).trans (by rw [decide_eq_true (by omega)])
  · exact (es_cB (B := A 19 0) rfl (em_F24 M (ee_R rfl)) (by omega)).trans (by rw [decide_eq_false (by omega)])
  · have hif : decide (nI i = nI f) = decide (i = f) := decide_eq_decide.mpr ⟨fun h => by have := congrArg Int32.toInt h; rw [nI_toInt (by omega), nI_toInt (by omega)] at this; omega, fun h => by rw [h]⟩
    refine es_Q (es_SI (ee_iC (ee_cA (ee_cA (ee_cb (ee_L rfl)) (fun _ => ee_cB (em_69 M I (ee_rF (ee_R rfl) rfl) (ee_L rfl) (by omega)) ee_K)) (fun _ => ee_cO ((ee_cB (ee_L rfl) (ee_L rfl)).trans (by rw [hif])) (fun h => hup rfl (ee_L rfl) (by have := of_decide_eq_false h; omega) (by omega))))) (es_In1 rfl ?_))
    rw [Bool.and_assoc]
    rfl
  · show sy_eZ _ _ _ _ = _
    rw [← show ((decide (f = 0) || decide (tP A (ya_ag A 20 (-1) (nI f)) = ya_ag A 20 (-1) (nI (f - 1)))) && (ya_ff (fun i => !(decide (ya_ag A 22 0 (nI i) = 0) && (decide (i = f) || decide (tP A (ya_ag A 20 (-1) (nI i)) = ya_ag A 20 (-1) (nI (i - 1)))))) ((A 19 0).toNatClampNeg - f) f).isNone) = ya_X5_areNewOnesOrdered A f from ?_]
    · exact es_eZb (ee_L rfl)
    · rw [Bool.eq_iff_iff, ya_areNew I hf, Bool.and_eq_true, Option.isNone_iff_eq_none, ya_ff_none, Bool.or_eq_true, decide_eq_true_eq, decide_eq_true_eq]
      constructor
      · rintro ⟨h0, h1⟩ i g1 g2
        have := h1 i g1 (by omega)
        rw [Bool.not_eq_false', Bool.and_eq_true, Bool.or_eq_true, decide_eq_true_eq, decide_eq_true_eq, decide_eq_true_eq] at this
        refine ⟨this.1, ?_⟩
        rcases this.2 with e | e
        · rw [e]; exact h0
        · exact Or.inr e
      · intro h
        refine ⟨(h f (Nat.le_refl _) hf).2, fun i g1 g2 => ?_⟩
        have := h i g1 (by omega)
        rw [Bool.not_eq_false', Bool.and_eq_true, Bool.or_eq_true, decide_eq_true_eq, decide_eq_true_eq, decide_eq_true_eq]
        refine ⟨this.1, ?_⟩
        rcases this.2 with e | e
        · exact Or.inl (by omega)
        · exact Or.inr e
theorem ym_isDouble (M : yr_M A τ) (I : yn_I t A) {ty : Int32} (hty : ya_isT A ty = true) (p key : Int32) : sf_X6_isDouble [.ref 44, .int ty, .int p, .int key] τ = some (.inl (some (.int (ya_b (ya_X3_hasTwin A ty p key && decide (tK A ty = 0))))), τ) := by
  have hne := ya_isT_ne hty
  refine ee_meth ?_ rfl
  unfold sm_X6_isDouble
  refine es_Q (es_SI (x := ya_b false) ee_K (es_Q (es_B (es_Q (es_SI ee_K0 ?_)))))
  refine es_forOr0 (E := fun i b => [.ref 44, .int ty, .int p, .int key, .int (ya_b b), .int (nI i)]) (P := fun i => ya_tw A (nI i) ty p && decide (ya_N A (nI i) 0 = key)) (N := 60) (b := false) (by omega) (fun i b hi => (es_c60 rfl (by omega)).trans (by rw [decide_eq_true hi])) (fun b => (es_c60 rfl (by omega)).trans (by rw [decide_eq_false (by omega)])) (fun i b hi k' => ?_) ?_
  · have h60 := yg_60 hi
    have etw : ya_tw A (nI i) ty p = (decide (ya_sg A 11 (nI i) = ty) && decide (ya_sg A 12 (nI i) = p)) := by
      unfold ya_tw
      rw [yl_isS.mpr h60, Bool.true_and]
    rw [etw]
    refine es_Q (es_SI (ee_iC (ee_cO (ee_cb (ee_L rfl)) (fun _ => ee_cA (ee_cA (ee_cB (em_53 M (ee_rF (ee_R rfl) rfl) (ee_L rfl) h60) (ee_L rfl)) (fun h => ee_cB (em_54 M (ee_rF (ee_R rfl) rfl) (ee_L rfl) (by
      show ya_sg A 11 (nI i) ≠ -1
      rw [of_decide_eq_true h]
      exact hne)) (ee_L rfl))) (fun _ => ee_cB (ee_M (ee_aR (ee_R rfl) (ee_aI (ee_L rfl) ee_aN)) (ee_cv (ym_key M _ h60) rfl)) (ee_L rfl))))) (es_In1 rfl rfl))
  · show sy_eZ _ _ _ _ = _
    refine es_eZb (ee_iC ((ee_cA (ee_cb (ee_L rfl)) (fun _ => ee_cB (em_47 M I (ee_rF (ee_R rfl) rfl) (ee_L rfl) hty) ee_K)).trans ?_))
    unfold ya_X3_hasTwin
    cases ya_ff (fun i => ya_tw A (nI i) ty p && decide (ya_N A (nI i) 0 = key)) 60 0 <;> rfl
/-- the parent of what is inserted -/
def ya_par0 (A : sy_Mem) (v f : Nat) : Int32 := if 0 < f then ya_X5_firstRight A v f 0 (-1) else ya_X3_upward A (ya_here A v) (tP A (ya_ag A 20 (-1) (nI f)))
theorem ym_parentFor (M : yr_M A τ) (I : yn_I t A) (hv : v < 4) (hf : (f : Int) < (A 19 0).toInt) (hL : ya_X5_isListOrdered A v = true) : sf_X6_parentFor [.ref 44, .int (nI v), .int (nI f)] τ = some (.inl (some (.int (ya_par0 A v f))), τ) := by
  have h4 := yg_n19 I
  have hd := (I.2.2.2.2.2.1 v hv).1
  have hcn := yg_cnt I hd
  have hc : ((ya_cnt A (A (sy_vw v) 0)).toNatClampNeg : Int) = (ya_cnt A (A (sy_vw v) 0)).toInt := by rw [yi_clampInt]; omega
  refine ee_meth ?_ rfl
  unfold sm_X6_parentFor
  refine es_Q (es_SI (em_59 M hv (ee_rF (ee_R rfl) rfl) (ee_L rfl)) (es_Q (es_B (es_Q (es_SI ee_K0 ?_)))))
  have hgt : ∀ {env : List Value}, env[2]? = some (.int (nI f)) → sy_cgt (sy_iL 2) (sy_iK 0) env τ = some (.inl (decide (0 < f)), τ) := fun h2 => (ee_cB (ee_L h2) ee_K).trans (by rw [show decide ((0 : Int32) < nI f) = decide (0 < f) from decide_eq_decide.mpr (by rw [Int32.lt_iff_toInt_lt, nI_toInt (by omega), yl_c0]; omega)])
  have hlt : ∀ {env : List Value} {i : Nat}, i < 2000 → env[0]? = some (.ref 44) → env[3]? = some (.int (A (sy_vw v) 0)) → env[4]? = some (.int (nI i)) → sy_clt (sy_iL 4) (sy_iA 0 (sy_rF 6 13 (sy_rL 0)) (sy_iL 3)) env τ = some (.inl (decide (i < (ya_cnt A (A (sy_vw v) 0)).toNatClampNeg)), τ) := fun hi h0 h3 h4 => es_cB h4 (em_57 M (ee_rF (ee_R h0) rfl) (ee_L h3) hd) hi
  have hsg : ∀ {env : List Value} {i : Nat}, i < (ya_cnt A (A (sy_vw v) 0)).toNatClampNeg → env[0]? = some (.ref 44) → env[3]? = some (.int (A (sy_vw v) 0)) → env[4]? = some (.int (nI i)) → sy_iM (sy_cv 6 2 sf_X6_segmentAt) (sy_aR (sy_rL 0) (sy_aI (sy_iL 3) (sy_aI (sy_iL 4) sy_aN))) env τ = some (.inl (ya_at A (A (sy_vw v) 0) (nI i)), τ) := fun hi h0 h3 h4 => ee_M (ee_aR (ee_R h0) (ee_aI (ee_L h3) (ee_aI (ee_L h4) ee_aN))) (ee_cv (ym_segmentAt M I _ _ hd (yg_pn I hd hi)) rfl)
  by_cases h0 : 0 < f
  · rw [show ya_par0 A v f = ya_X5_firstRight A v f 0 (-1) from if_pos h0]
    unfold ya_X5_firstRight
    refine es_forP (E := fun i => [.ref 44, .int (nI v), .int (nI f), .int (A (sy_vw v) 0), .int (nI i)]) (P := fun i => ((decide ((-1 : Int32) = (-1))) || (ya_X3_isBelow A (ya_at A (A (sy_vw v) 0) (nI i)) (-1))) && (ya_X5_isRight A v (ya_at A (A (sy_vw v) 0) (nI i)) f)) (R := fun i => ya_at A (A (sy_vw v) 0) (nI i)) (n := (ya_cnt A (A (sy_vw v) 0)).toNatClampNeg - 0) (a := 0) (by omega) (fun i _ hi => ?_) ?_ (fun i _ hi k' => ?_) (fun _ => ?_)
    · exact (ee_cA (hlt (by omega) rfl rfl rfl) (fun _ => hgt rfl)).trans (by rw [decide_eq_true (by omega), decide_eq_true h0]; rfl)
    · exact (ee_cA (hlt (by omega) rfl rfl rfl) (fun _ => hgt rfl)).trans (by rw [decide_eq_false (by omega)]; rfl)
    · have hi' : i < (ya_cnt A (A (sy_vw v) 0)).toNatClampNeg := by omega
      have hl := (yg_at I hd (yg_pn I hd hi')).1
      refine es_Q (es_I (ee_cb (ee_M (ee_aR (ee_R rfl) (ee_aI (ee_L rfl) (ee_aI (hsg hi' rfl rfl rfl) (ee_aI (ee_L rfl) ee_aN)))) (ee_cv (ym_isRight M I hv _ f hl (by omega) hL) rfl))) (fun _ => es_eI (hsg hi' rfl rfl rfl)) (fun _ => es_N (es_In1 rfl rfl)))
    · show sy_eI _ _ _ _ = _
      exact es_eI ((ee_iQ (z := true) (y := -1) ((ee_cO (y := true) (hgt rfl) (fun h => absurd h0 (of_decide_eq_false h))).trans (by rw [decide_eq_true h0]; rfl)) (fun _ => ee_K) (fun h => by cases h)))
  · have e0 : f = 0 := by omega
    rw [show ya_par0 A v f = ya_X3_upward A (ya_here A v) (tP A (ya_ag A 20 (-1) (nI f))) from if_neg h0]
    refine es_forP (E := fun i => [.ref 44, .int (nI v), .int (nI f), .int (A (sy_vw v) 0), .int (nI i)]) (P := fun _ => false) (R := fun i => ya_at A (A (sy_vw v) 0) (nI i)) (n := 0) (a := 0) (v := ya_X3_upward A (ya_here A v) (tP A (ya_ag A 20 (-1) (nI f)))) (by omega) (fun i _ hi => absurd hi (by omega)) ?_ (fun i _ hi => absurd hi (by omega)) (fun _ => ?_)
    · refine (ee_cA (hlt (by omega) rfl rfl rfl) (fun _ => hgt rfl)).trans ?_
      rw [decide_eq_false h0, Bool.and_false]
    · show sy_eI _ _ _ _ = _
      have hh := yg_here I hv
      by_cases em : A (sy_vw v) 3 = 0
      · obtain ⟨q1, q2⟩ := hh.1 em
        rw [q1]
        exact es_eI ((ee_iQ (z := true) (y := -1) ((ee_cO (hgt rfl) (fun _ => ee_cB (em_61 M hv (ee_rF (ee_R rfl) rfl) (ee_L rfl)) ee_K)).trans (by rw [decide_eq_false q2]; cases decide (0 < f) <;> rfl)) (fun _ => ee_K) (fun h => by cases h)))
      · obtain ⟨q1, q2, q3⟩ := hh.2 em
        rw [q1]
        exact es_eI ((ee_iQ (z := false) (x := -1) ((ee_cO (hgt rfl) (fun _ => ee_cB (em_61 M hv (ee_rF (ee_R rfl) rfl) (ee_L rfl)) ee_K)).trans (by rw [q2, decide_eq_false h0]; rfl)) (fun h => by cases h) (fun _ => ee_M (ee_aR (ee_R rfl) (ee_aI (em_62 M hv (ee_rF (ee_R rfl) rfl) (ee_L rfl)) (ee_aI (em_46 M I (ee_rF (ee_R rfl) rfl) (em_67 M I (ee_rF (ee_R rfl) rfl) (ee_L rfl) hf) (yg_arg I hf)) ee_aN))) (ee_cv (ym_among M I _ _ (Or.inr q3)) rfl))))
end YMr
