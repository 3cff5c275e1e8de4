/-! a turn of the law: both calls, and what holds behind it -/
section YW1
variable {σ τ A A' τ' : sy_Mem} {t : Nat}
/-- what holds ahead of each turn -/
def yw_R (t : Nat) (σ : sy_Mem) : Prop := yn_I t σ ∧ yr_M σ σ
theorem yn_K_up (h : yn_K t σ) : yn_K (t + 1) σ := fun i hi => ⟨(h i hi).1, by have := (h i hi).2; omega⟩
theorem yn_I_up (I : yn_I t σ) : yn_I (t + 1) σ := by
  obtain ⟨a, b, c, d, e, f, g⟩ := I
  exact ⟨a, b, c, d, yn_K_up e, f, g⟩
theorem yn_I_lt (I : yn_I t σ) (h : ∀ k, k < 44 → τ k = σ k) : yn_I t τ := by
  obtain ⟨iS, iG, iW, iO, iK, iV, iA⟩ := I
  have hb : yc_base σ τ := fun k hk => h k (by omega)
  refine ⟨by rw [yn_S_c hb]; exact iS, by rw [yn_G_c hb]; exact iG, by rw [yn_W_c hb]; exact iW, by rw [yn_O_c hb]; exact iO, by rw [yn_K_c hb]; exact iK, fun w hw => ?_, yn_A_c (h 1 (by decide)) (fun k h1 h2 => h k (by omega)) (by rw [h 31 (by decide)]; exact iA.2.2.1) iA⟩
  have hb' := yv_lt hw
  rw [yn_v_c hb (h _ (by omega)) (h _ (by omega)) (h _ (by omega))]
  exact iV w hw
theorem yr_M_lt (M : yr_M A τ) (h : ∀ k, k < 44 → A' k = A k) : yr_M A' τ := by
  obtain ⟨mS, mG, mV, mA⟩ := M
  have hb : yc_base A A' := fun k hk => h k (by omega)
  refine ⟨yr_S_c mS hb rfl (fun _ _ _ => rfl), yr_G_c mG hb (fun _ _ _ => rfl), fun w hw => ?_, yr_A_c mA (fun k h1 h2 => h k (by omega)) rfl (fun _ _ _ => rfl) (by rw [h 31 (by decide)]; exact mA.2.2.2.2.2.2.2.2)⟩
  have hb' := yv_lt hw
  obtain ⟨m0, m1, m2, m3, m4, m5, m6⟩ := mV w hw
  refine ⟨?_, ?_, ?_, ?_, ?_, ?_, ?_⟩
  · rw [h _ (by omega)]; exact m0
  · rw [h _ (by omega)]; exact m1
  · rw [ya_mode_c (v := w) (h _ (by omega))]; exact m2
  · rw [h _ (by omega)]; exact m3
  · rw [h _ (by omega)]; exact m4
  · rw [h _ (by omega)]; exact m5
  · rw [h _ (by omega), h _ (by omega), h _ (by omega)]; exact m6
theorem yr_M_ge (M : yr_M A τ) (h : ∀ k, 44 ≤ k → k ≤ 76 → τ' k = τ k) : yr_M A τ' := by
  exact yr_M_own M ⟨congrFun (h 44 (by decide) (by decide)) 0, congrFun (h 44 (by decide) (by decide)) 24⟩ (fun k h1 h2 h3 => h k (by omega) (by omega))
theorem sy_note_ne {r : Int32 ⊕ Nat} {k : Nat} (h : k ≠ 77) : sy_note r τ k = τ k := by
  cases r with
  | inl x =>
    show sy_up (sy_up τ 77 0 _) 77 1 _ k = _
    rw [yu_ne h, yu_ne h]
  | inr E => rfl
theorem yw_alike {r : Int32 ⊕ Nat} {y : Int32} {σ1 τ2 : sy_Mem} (hf : ym_fw (sy_note r σ1) τ2) (h36 : τ2 44 36 = sy_code r) (hy : ∀ x, r = .inl x → y = x) : sy_alike r y τ2 := by
  refine ⟨h36, fun x hr => ⟨hy x hr, ?_⟩⟩
  subst hr
  rw [hf 77 (by decide)]
  show sy_jn (sy_up (sy_up σ1 77 0 (sy_hi x.toInt64)) 77 1 (sy_lo x.toInt64) 77 0) (sy_up (sy_up σ1 77 0 (sy_hi x.toInt64)) 77 1 (sy_lo x.toInt64) 77 1) = _
  rw [yu_an (by decide), yu_at, yu_at]
  exact sy_jn_hl _
theorem yw_next {r : Int32 ⊕ Nat} {σ1 τ2 : sy_Mem} (I1 : yn_I t σ1) (M1 : yr_M σ1 τ2) (hf : ym_fw (sy_note r σ1) τ2) : yw_R t τ2 := by
  have h : ∀ k, k < 44 → τ2 k = σ1 k := fun k hk => by rw [hf k (Or.inl hk), sy_note_ne (by omega)]
  exact ⟨yn_I_lt I1 h, yr_M_lt M1 h⟩
section
variable {env : List Value} {k : List Value → sy_MM (Option Value)}
theorem ee_goes {as : sy_AE} {a b c : Bool} (ha : as env τ = some (.inl [.ref 44, .int (ya_b a), .int (ya_b b), .int (ya_b c)], τ)) : sy_cI (sy_iM (sy_cv 6 3 sf_X6_goes) as) env τ = some (.inl ((a && b) && c), sy_up τ 44 36 (ya_thr a b c)) :=
  ee_cb (ee_M ha (ee_cv (ym_goes τ a b c) rfl))
theorem es_goes {as : sy_AE} {a b c : Bool} (ha : as env τ = some (.inl [.ref 44, .int (ya_b a), .int (ya_b b), .int (ya_b c)], τ)) : sy_sI (sy_cN (sy_cI (sy_iM (sy_cv 6 3 sf_X6_goes) as))) (sy_eI (sy_iK 0)) sy_sN env k τ = if (a && b) && c then k env (sy_up τ 44 36 0) else some (.inl (some (.int 0)), sy_up τ 44 36 (ya_thr a b c)) := by
  have h := ee_cN (ee_goes ha)
  cases h1 : (a && b) && c
  · rw [if_neg (by decide)]
    exact es_It (h.trans (by rw [h1]; rfl)) (es_eI ee_K)
  · rw [if_pos rfl]
    have : ya_thr a b c = 0 := by
      cases a <;> cases b <;> cases c <;> first | rfl | (exact absurd h1 (by decide))
    rw [this] at h
    exact es_If (h.trans (by rw [h1]; rfl)) rfl
end
theorem yr_loses (M : yr_M A τ) (I : yn_I t A) {v : Nat} (hv : v < 4) {x : Int32} : yr_M (sy_up A (sy_vw v) 6 0) (sy_up (sy_up τ 44 23 x) 64 v 0) := by
  have hb := yv_lt hv
  have hk : ∀ k, k ≠ sy_vw v → sy_up A (sy_vw v) 6 0 k = A k := fun k h => yu_ne h
  have hj : ∀ k, k ≠ 44 → k ≠ 64 → sy_up (sy_up τ 44 23 x) 64 v 0 k = τ k := fun k h1 h2 => by rw [yu_ne h2, yu_ne h1]
  have hj0 : ∀ i, i ≠ 23 → sy_up (sy_up τ 44 23 x) 64 v 0 44 i = τ 44 i := fun i hi => by rw [yu_ne (by decide), yu_an hi]
  refine yr_M_v M I (v := v) (fun k h => hk k (by omega)) (hj0 0 (by decide)) (fun k h1 h2 => hj k (by omega) (by omega)) (fun w hw hwv => ?_) ?_ (yr_A_c M.2.2.2 (fun k h1 h2 => hk k (by omega)) (hj0 24 (by decide)) (fun k h1 h2 => hj k (by omega) (by omega)) (by rw [hj 74 (by decide) (by decide), hk 31 (by omega)]; exact M.2.2.2.2.2.2.2.2.2.2.2))
  · have hvn := yv_ne hwv
    refine ⟨⟨hk _ hvn.1, hk _ hvn.2.2.2.1, hk _ hvn.2.2.2.2.2.2.1⟩, fun k h1 h2 => ?_, fun i hi => by rw [hj 65 (by decide) (by decide), hj 66 (by decide) (by decide)]; exact ⟨rfl, rfl⟩⟩
    by_cases e : k = 64
    · rw [e, yu_an hwv, yu_ne (by decide)]
    · rw [hj k (by omega) e]
  · obtain ⟨m0, m1, m2, m3, m4, m5, m6⟩ := M.2.2.1 v hv
    have hmode : ya_mode (sy_up A (sy_vw v) 6 0) v = ya_mode A v := by
      unfold ya_mode
      rw [yu_an (by decide), yu_an (by decide), yu_an (by decide)]
    have s6 : sy_up A (sy_vw v) 6 0 (sy_vw v) 6 = 0 := yu_at
    refine ⟨?_, ?_, ?_, ?_, ?_, ?_, ?_⟩
    · rw [hj 59 (by decide) (by decide), yu_an (by decide)]; exact m0
    · rw [hj 60 (by decide) (by decide), yu_an (by decide)]; exact m1
    · rw [hj 61 (by decide) (by decide), hmode]; exact m2
    · rw [hj 62 (by decide) (by decide), yu_an (by decide)]; exact m3
    · rw [hj 63 (by decide) (by decide), yu_an (by decide)]; exact m4
    · rw [yu_at, s6]
    · rw [s6]
      intro i hi
      rw [yl_c0] at hi
      omega
theorem yr_drop (M : yr_M A τ) (I : yn_I t A) : yr_M (sy_up A 19 0 0) (sy_up τ 44 24 0) := by
  have hk : ∀ k, k ≠ 19 → sy_up A 19 0 0 k = A k := fun k h => yu_ne h
  have hj : ∀ k, k ≠ 44 → sy_up τ 44 24 0 k = τ k := fun k h => yu_ne h
  obtain ⟨mS, mG, mV, a0, a1, a2, a3, a4, a5, a6, a7, a8⟩ := M
  refine ⟨yr_S_c mS (fun k h => hk k (by omega)) (yu_an (by decide)) (fun k h1 h2 => hj k (by omega)), yr_G_c mG (fun k h => hk k (by omega)) (fun k h1 h2 => hj k (by omega)), fun w hw => ?_, ?_⟩
  · have hb := yv_lt hw
    obtain ⟨m0, m1, m2, m3, m4, m5, m6⟩ := mV w hw
    refine ⟨?_, ?_, ?_, ?_, ?_, ?_, ?_⟩
    · rw [hj 59 (by decide), hk _ (by omega)]; exact m0
    · rw [hj 60 (by decide), hk _ (by omega)]; exact m1
    · rw [hj 61 (by decide), ya_mode_c (v := w) (hk _ (by omega))]; exact m2
    · rw [hj 62 (by decide), hk _ (by omega)]; exact m3
    · rw [hj 63 (by decide), hk _ (by omega)]; exact m4
    · rw [hj 64 (by decide), hk _ (by omega)]; exact m5
    · rw [hj 65 (by decide), hj 66 (by decide), hk _ (by omega), hk _ (by omega), hk _ (by omega)]; exact m6
  · refine ⟨by rw [yu_at, yu_at], ?_, ?_, ?_, ?_, ?_, ?_, ?_, ?_⟩
    · rw [hj 67 (by decide), hk 20 (by decide)]; exact a1
    · rw [hj 68 (by decide), hk 21 (by decide)]; exact a2
    · rw [hj 69 (by decide), hk 22 (by decide)]; exact a3
    · rw [hj 70 (by decide), hk 23 (by decide)]; exact a4
    · rw [hj 71 (by decide), hk 24 (by decide)]; exact a5
    · rw [hj 72 (by decide), hk 25 (by decide)]; exact a6
    · rw [hj 73 (by decide), hk 26 (by decide)]; exact a7
    · rw [hj 74 (by decide), hk 31 (by decide)]; exact a8
theorem ym_loses (M : yr_M A τ) {v : Nat} (hv : v < 4) : sf_X6_loses [.ref 44, .int (nI v)] τ = some (.inl none, sy_up (sy_up τ 44 23 (A (sy_vw v) 6)) 64 v 0) := by
  refine ee_meth ?_ rfl
  unfold sm_X6_loses
  refine es_Q (es_Q (es_P (ee_R rfl) (em_64 M hv (ee_rF (ee_R rfl) rfl) (ee_L rfl)) rfl (es_W (ee_rF (ee_R rfl) rfl) (ee_L rfl) ee_K (yi_inbN (n := 4) hv (by omega)) ?_)))
  rw [nI_clamp (by omega)]
  exact es_eV
theorem ym_clears (M : yr_M A τ) : sf_X6_clears [.ref 44] τ = some (.inl (some (.int (A 19 0))), sy_up τ 44 24 0) := by
  rw [f_X6_clears, M.2.2.2.1]
theorem ym_gets (M : yr_M A τ) (I : yn_I t A) {v : Nat} (hv : v < 4) (how : Int32) (h : Bool) (h6 : A (sy_vw v) 6 = 0) :
    ∃ τ', sf_X6_gets [.ref 44, .int (nI v), .int how, .int (ya_b h)] τ = some (.inl (some (.int (ya_seek A v how h).1)), τ') ∧ yr_M (ya_seek A v how h).2 τ' ∧ yn_I t (ya_seek A v how h).2 ∧ ym_fr τ τ' := by
  have hc1 : sy_cN (sy_cI (sy_iM (sy_cv 6 1 sf_X6_isList) (sy_aR (sy_rL 0) (sy_aI (sy_iL 1) sy_aN)))) [.ref 44, .int (nI v), .int how, .int (ya_b h)] τ = some (.inl (!ya_X5_isListOrdered A v), τ) := ee_cN (ee_cb (ee_M (ee_aR (ee_R rfl) (ee_aI (ee_L rfl) ee_aN)) (ee_cv (ym_isList M I hv) rfl)))
  have hc2 : sy_cA (sy_ceq (sy_iL 2) (sy_iK 2)) (sy_ceq (sy_iA 0 (sy_rF 6 19 (sy_rL 0)) (sy_iL 1)) (sy_iK (-1))) [.ref 44, .int (nI v), .int how, .int (ya_b h)] τ = some (.inl (decide (how = 2) && decide (A (sy_vw v) 5 = -1)), τ) := ee_cA (ee_cB (ee_L rfl) ee_K) (fun _ => ee_cB (em_63 M hv (ee_rF (ee_R rfl) rfl) (ee_L rfl)) ee_K)
  unfold ya_seek
  cases hL : ya_X5_isListOrdered A v with
  | false =>
    rw [if_pos rfl]
    refine ⟨τ, ?_, M, I, ym_fr_refl⟩
    refine ee_meth ?_ rfl
    unfold sm_X6_gets
    exact es_Q (es_It (hc1.trans (by rw [hL]; rfl)) (es_eI ee_K))
  | true =>
    rw [if_neg (by decide)]
    by_cases h2 : how = 2 ∧ A (sy_vw v) 5 = -1
    · rw [if_pos h2]
      refine ⟨τ, ?_, M, I, ym_fr_refl⟩
      refine ee_meth ?_ rfl
      unfold sm_X6_gets
      exact es_Q (es_If (hc1.trans (by rw [hL]; rfl)) (es_N (es_Q (es_It (hc2.trans (by rw [decide_eq_true h2.1, decide_eq_true h2.2]; rfl)) (es_eI ee_K)))))
    · rw [if_neg h2]
      have h2' : (decide (how = 2) && decide (A (sy_vw v) 5 = -1)) = false := by
        rw [Bool.and_eq_false_iff]
        by_cases e : how = 2
        · exact Or.inr (decide_eq_false (fun q => h2 ⟨e, q⟩))
        · exact Or.inl (decide_eq_false e)
      have hw : how = 2 → A (sy_vw v) 5 ≠ -1 := fun e q => h2 ⟨e, q⟩
      have hf := ym_finds M I hv how hL hw
      by_cases hx : ya_finds A v how = -1
      · rw [if_pos hx]
        have hc3 : sy_cO (sy_cne (sy_iL 2) (sy_iK 1)) (sy_cgt (sy_iF 6 24 (sy_rL 0)) (sy_iK 0)) [.ref 44, .int (nI v), .int how, .int (ya_b h), .int (ya_finds A v how)] τ = some (.inl (!decide (how = 1) || decide (0 < A 19 0)), τ) := ee_cO (ee_cB (ee_L rfl) ee_K) (fun _ => ee_cB (em_F24 M (ee_R rfl)) ee_K)
        cases hq : (!decide (how = 1) || decide (0 < A 19 0)) with
        | true =>
          rw [if_pos rfl]
          refine ⟨τ, ?_, M, I, ym_fr_refl⟩
          refine ee_meth ?_ rfl
          unfold sm_X6_gets
          exact es_Q (es_If (hc1.trans (by rw [hL]; rfl)) (es_N (es_Q (es_If (hc2.trans (by rw [h2'])) (es_N (es_Q (es_SI (ee_M (ee_aR (ee_R rfl) (ee_aI (ee_L rfl) (ee_aI (ee_L rfl) ee_aN))) (ee_cv hf rfl)) (es_Q (es_If ((ee_cB (ee_L rfl) ee_K).trans (by rw [decide_eq_true hx]; rfl)) (es_N (es_Q (es_It (hc3.trans (by rw [hq])) (es_eI ee_K)))))))))))))
        | false =>
          rw [if_neg (by decide)]
          have M5 := yr_stand M I hv (-1) 0 0 2 (by
            unfold ya_mode
            rw [show ya_stand A v (-1) 0 0 (sy_vw v) 3 = 0 from ya_stand_at, show ya_stand A v (-1) 0 0 (sy_vw v) 2 = -1 from ya_stand_at, show ya_stand A v (-1) 0 0 (sy_vw v) 4 = 0 from ya_stand_at]
            rfl)
          refine ⟨_, ?_, M5, yn_stand I hv (Or.inl rfl) (Or.inl rfl) (Or.inl rfl), ym_fr_trans (ym_fr_up ⟨by decide, by decide⟩) (ym_fr_up ⟨by decide, by decide⟩)⟩
          refine ee_meth ?_ rfl
          unfold sm_X6_gets
          refine es_Q (es_If (hc1.trans (by rw [hL]; rfl)) (es_N (es_Q (es_If (hc2.trans (by rw [h2'])) (es_N (es_Q (es_SI (ee_M (ee_aR (ee_R rfl) (ee_aI (ee_L rfl) (ee_aI (ee_L rfl) ee_aN))) (ee_cv hf rfl)) (es_Q (es_If ((ee_cB (ee_L rfl) ee_K).trans (by rw [decide_eq_true hx]; rfl)) (es_N (es_Q (es_If (hc3.trans (by rw [hq])) (es_N (es_Q (es_W (ee_rF (ee_R rfl) rfl) (ee_L rfl) ee_K (yi_inbN (n := 4) hv (by omega)) (es_Q (es_W (ee_rF (ee_R rfl) rfl) (ee_L rfl) ee_K (yi_inbN (n := 4) hv (by omega)) ?_)))))))))))))))))
          rw [nI_clamp (by omega)]
          exact es_eI ee_K
      · rw [if_neg hx]
        obtain ⟨g1, g2, g3⟩ := yg_finds I hv hx
        obtain ⟨τ', e1, e2, e3⟩ := ym_comesTo M I hv (ya_finds A v how) how h h6 hL g1 g2 g3
        refine ⟨τ', ?_, e2, yn_got I hv _ how h h6 hL g1 g2 g3, e3⟩
        refine ee_meth ?_ rfl
        unfold sm_X6_gets
        exact es_Q (es_If (hc1.trans (by rw [hL]; rfl)) (es_N (es_Q (es_If (hc2.trans (by rw [h2'])) (es_N (es_Q (es_SI (ee_M (ee_aR (ee_R rfl) (ee_aI (ee_L rfl) (ee_aI (ee_L rfl) ee_aN))) (ee_cv hf rfl)) (es_Q (es_It ((ee_cB (ee_L rfl) ee_K).trans (by rw [decide_eq_false hx]; rfl)) (es_eI (ee_M (ee_aR (ee_R rfl) (ee_aI (ee_L rfl) (ee_aI (ee_L rfl) (ee_aI (ee_L rfl) (ee_aI (ee_L rfl) ee_aN))))) (ee_cv e1 rfl))))))))))))
end YW1
