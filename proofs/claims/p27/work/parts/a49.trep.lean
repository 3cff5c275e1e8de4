section LA49
variable {A B M F σ τ σ1 : sy_Mem} {t u v d j : Nat} {st : Int32} {env : List Value}
theorem sQ_a5 {a b c d e : sy_S} {k : List Value → sy_MM (Option Value)} : sy_sQ a (sy_sQ b (sy_sQ c (sy_sQ d e))) env k σ = sy_sQ a (sy_sQ b (sy_sQ c d)) env (fun env' => e env' k) σ := rfl
theorem rep_eq : sm_L_replaces = sy_sQ LRp (sy_sNew 53 15 (sy_sQ (sy_sSI 16 (sy_iQ (sy_ceq (sy_iL 14) (sy_iM (sy_cr 2 sf_L_fieldOf) (sy_aL (sy_lA (sy_rL 10) (sy_iL 11)) (sy_aI (sy_iK 2) sy_aN)))) (sy_iK 0) (sy_iM (sy_cr 8 sf_L_needs) (sy_aR (sy_rL 1) (sy_aR (sy_rL 2) (sy_aR (sy_rL 3) (sy_aR (sy_rL 4) (sy_aR (sy_rL 5) (sy_aR (sy_rL 15) (sy_aI (sy_iL 13) (sy_aI (sy_iL 14) sy_aN))))))))))) (sy_sQ (sy_sSI 17 (sy_iC (sy_cA (sy_clt (sy_iDv false (sy_iDv true (sy_iA 0 (sy_rL 1) (sy_iL 13)) (sy_iK 64)) (sy_iK 4)) (sy_iK 2)) (sy_cne (sy_iM (sy_cr 3 sf_L_area) (sy_aR (sy_rL 0) (sy_aI (sy_iK 0) (sy_aI (sy_iK 0) sy_aN)))) (sy_iM (sy_cr 2 sf_L_fieldOf) (sy_aL (sy_lA (sy_rL 10) (sy_iL 11)) (sy_aI (sy_iK 0) sy_aN))))))) (sy_sQ (sy_sSI 18 (sy_iQ (sy_cI (sy_iL 17)) (sy_iK 8) (sy_iQ (sy_cgt (sy_iL 16) (sy_iK 0)) (sy_iK 10) (sy_iQ (sy_cgt (sy_iAdd (sy_iAdd (sy_iAdd (sy_iA 0 (sy_rL 5) (sy_iK 0)) (sy_iA 0 (sy_rL 5) (sy_iK 1))) (sy_iA 0 (sy_rL 5) (sy_iK 2))) (sy_iT (sy_rL 15) (sy_iK 0))) (sy_iK 60)) (sy_iK 11) (sy_iK 0))))) (sy_sQ (sy_sI (sy_ceq (sy_iL 18) (sy_iK 0)) (sy_sQ (sy_sWL (sy_rL 10) (sy_iL 11) (sy_lM (sy_cr 3 sf_L_slot) (sy_aR (sy_rL 0) (sy_aI (sy_iK 0) (sy_aI (sy_iL 13) sy_aN))))) (sy_sC (sy_cr 6 sf_L_makes) (sy_aR (sy_rL 1) (sy_aR (sy_rL 2) (sy_aR (sy_rL 3) (sy_aR (sy_rL 4) (sy_aR (sy_rL 5) (sy_aR (sy_rL 15) sy_aN)))))))) sy_sN) LRz))))) := rfl
theorem t_replaces (I : yn_I t σ) (T : TT σ σ) (R : RW σ σ) (hv : v < 4) (V : σ 51 v = nI (vn σ v)) (g0 : gd σ) (ht : t + 70 < 10000) (hg : σ 52 1 = 0) (h6 : σ (sy_vw v) 6 = 1) (hl1 : σ (sy_vw v + 1) 0 = sg σ d j) (hl2 : σ (sy_vw v + 2) 0 = 0) (hd : d < 3) (hvd : vn σ v % 4 = d) (hj : j < cn σ d) (hh : ya_here σ v = sg σ d j) (y : Int32) :
    ∃ F, sf_L_replaces (eRp v y) σ = rOK F ∧ yn_I (t + 8) F ∧ AF σ F := by
  obtain ⟨e0, σ1, ⟨he0, I1, F1⟩, k0⟩ := rep_pre I R hv hd V hvd hj hh y
  have hvw := fun w (hw : w < 4) => yv_lt hw
  have hvv := hvw v hv
  obtain ⟨ty, hty⟩ : ∃ ty, yT σ (sg σ d j) = ty := ⟨_, rfl⟩
  obtain ⟨w, hw⟩ : ∃ w, ya_slot σ1 (nI 0) (nI 2) = w := ⟨_, rfl⟩
  rw [hty, hw] at he0
  obtain ⟨σn, hσn⟩ : ∃ σn, σn = sy_new 53 σ1 := ⟨_, rfl⟩
  have kn : ∀ k, k ≠ 53 → k ≠ 58 → σn k = σ1 k := fun k h1 h2 => by
    rw [hσn]
    exact new_ne h1 h2
  have hall : ∀ A, (∃ L, A = mg σ1 L) → SX LRx (eR2 v y d j ty w ++ [.ref 53]) σn (POSTR t v y d j ty w A σn) := fun A hA => by
    obtain ⟨L, rfl⟩ := hA
    have hm : ∀ k, k < 44 → mg σ1 L k = σ1 k := fun k hk => if_pos hk
    have hb : yc_base σ (mg σ1 L) := fun k hk => (hm k (by omega)).trans (F1 k (by omega))
    have esg : sg (mg σ1 L) d j = sg σ d j := by
      show ya_at (mg σ1 L) (nI d) (nI j) = ya_at σ (nI d) (nI j)
      unfold ya_at
      rw [hb 15 (by omega), hb 16 (by omega)]
    have hmv : ∀ i, i ≤ 2 → mg σ1 L (sy_vw v + i) = σ (sy_vw v + i) := fun i hi => (hm _ (by omega)).trans (F1 _ (by omega))
    refine rep_law ⟨⟨yn_I_mg I1, TT_b hb (by rw [kn 44 (by omega) (by omega), F1 44 (by omega)]) T, RW_b hb (fun k h1 h2 => by rw [kn k (by omega) (by omega), F1 k (by omega)]) R⟩, ⟨hv, hd, ?_⟩, ⟨?_, ?_, ?_⟩, fun s f => ?_⟩ ⟨by rw [hσn]; show upd (σ1 58) 53 1 53 = 1; exact upd_at, fun i => by rw [hσn, new_at, if_pos rfl]⟩ ht y ?_ ?_
    · show j < (mg σ1 L 16 d).toInt.toNat
      rw [hb 16 (by omega)]
      exact hj
    · rw [show mg σ1 L (sy_vw v) = σ (sy_vw v) from hmv 0 (by omega)]
      exact h6
    · rw [hmv 1 (by omega), esg]
      exact hl1
    · rw [hmv 2 (by omega)]
      exact hl2
    · exact (ya_slot_c ((kn 31 (by omega) (by omega)).trans (hm 31 (by omega)).symm) s f)
    · rw [esg, ← hty]
      exact ya_sg_c (hb 11 (by omega)) _
    · rw [← hw]
      exact ya_slot_c (hm 31 (by omega)) _ _
  obtain ⟨e2, τ2, q2, k2⟩ := sx_all (H := fun A => ∃ L, A = mg σ1 L) (mg σ1 σ1) ⟨σ1, rfl⟩ hall
  obtain ⟨l', ch', st', M', B', u', e', -, -, -, -, F2⟩ := q2 (mg σ1 σ1) ⟨σ1, rfl⟩
  obtain ⟨τ4, hτ4⟩ : ∃ τ4, τ4 = sy_drp 53 τ2 := ⟨_, rfl⟩
  have k4 : ∀ k, k ≠ 58 → τ4 k = τ2 k := fun k h2 => by
    rw [hτ4]
    unfold sy_drp
    rw [up_ne h2]
  have F58 : τ2 58 = upd (σ1 58) 53 1 := by
    rw [F2 58 (by omega), hσn]
    rfl
  have hCP : CP σ1 τ4 := fun k hk => by rw [k4 k (by omega), F2 k (by omega), kn k (by omega) (by omega)]
  obtain ⟨l, ch, st, M, B, u, e, hc, IM, ⟨IB, RB, hE⟩, M1, -⟩ := q2 τ4 (CP_mg hCP)
  obtain ⟨FF, hF⟩ : ∃ FF, FF = sy_up (sy_up M (sy_vw v) 6 0) 19 0 0 := ⟨_, rfl⟩
  have kF : ∀ k, k ≠ 19 → k ≠ sy_vw v → FF k = M k := fun k h1 h2 => by
    rw [hF, yu_ne h1, yu_ne h2]
  have IF : yn_I (t + 8) FF := by
    rw [hF]
    exact yn_drop (yn_release IM hv)
  have F6 : FF (sy_vw v) 6 = 0 := by
    rw [hF, yu_ne (by omega), yu_at]
  obtain ⟨F', hF'⟩ : ∃ F', F' = sy_up (sy_up FF (sy_vw v) 6 0) 19 0 0 := ⟨_, rfl⟩
  have IF' : yn_I (t + 8) F' := by
    rw [hF']
    exact yn_drop (yn_release IF hv)
  have kF' : ∀ k, k ≠ 19 → k ≠ sy_vw v → F' k = M k := fun k h1 h2 => by
    rw [hF', yu_ne h1, yu_ne h2]
    exact kF k h1 h2
  have M4 : ∀ k, k < 10 ∨ 29 < k → k ≠ 58 → k ≠ 53 → (k < 45 ∨ 48 < k) → M k = σ1 k := fun k h1 h2 h3 h4 => by
    rw [M1 k h1, k4 k h2, F2 k (by omega), kn k h3 h2]
  have f58 : ∀ i, F' 58 i = if i = 53 then 0 else σ 58 i := fun i => by
    rw [kF' 58 (by omega) (by omega), M1 58 (by omega), hτ4]
    unfold sy_drp
    rw [up_at, F58]
    by_cases q : i = 53
    · rw [if_pos q, if_pos q]
    · rw [if_neg q, if_neg q, upd_ne q, F1 58 (by omega)]
  have gF : gd F' := fun i h1 h2 => by
    rw [f58]
    by_cases q : i = 53
    · rw [if_pos q]
    · rw [if_neg q]
      exact g0 i h1 h2
  have AFF : AF σ F' := by
    refine ⟨fun k hk => ?_, ?_, fun w' hw' i hi => ?_, ?_, ?_, gF⟩
    · rw [kF' k (by omega) (by omega), M4 k (by omega) (by omega) (by omega) (by omega)]
      exact F1 k (by omega)
    · rw [kF' 52 (by omega) (by omega), M4 52 (by omega) (by omega) (by omega) (by omega), F1 52 (by omega)]
    · have := hvw w' hw'
      by_cases q : sy_vw w' = sy_vw v
      · rw [q, hF', yu_ne (by omega), yu_an (by omega), hF, yu_ne (by omega), yu_an (by omega), M4 (sy_vw v) (by omega) (by omega) (by omega) (by omega), F1 (sy_vw v) (by omega)]
      · rw [kF' (sy_vw w') (by omega) q, M4 (sy_vw w') (by omega) (by omega) (by omega) (by omega), F1 (sy_vw w') (by omega)]
    · rw [kF' 52 (by omega) (by omega), M4 52 (by omega) (by omega) (by omega) (by omega), F1 52 (by omega)]
      exact hg
    · rw [hF']
      exact yu_at
  have hE2 : eqR FF B := by
    have e1 := eqR_c (A := FF) (B := M) (fun k hk => (kF k (by omega) (by omega)).symm)
    exact fun d' hd' => ⟨(e1 d' hd').1.trans (hE d' hd').1, fun q hq => ⟨((e1 d' hd').2 q hq).1.trans ((hE d' hd').2 q (by rw [← (e1 d' hd').1]; exact hq)).1, fun f hf => (((e1 d' hd').2 q hq).2 f hf).trans (((hE d' hd').2 q (by rw [← (e1 d' hd').1]; exact hq)).2 f hf)⟩⟩
  have RF : RW B FF := RW_b (A := B) (B := B) (σ := τ2) (fun _ _ => rfl) (fun k h1 h2 => by rw [kF k (by omega) (by omega), M1 k (by omega), k4 k (by omega)]) RB
  have hsame := t_same IF CP_self IB RF hE2
  have hrep := h_replace hv hc
  rw [← hF] at hrep
  have hrep2 := h_replace hv (ct_rep6 hv F6)
  rw [← hF'] at hrep2
  have hend : ∀ kk, LRz e2 kk τ2 = rOK F' := fun kk => by
    rw [e]
    unfold LRz
    refine es_Q (es_Drp ?_ ?_)
    · rw [Bool.and_eq_true]
      refine ⟨?_, ?_⟩
      · rw [F58, upd_at]
        rfl
      · unfold sy_top
        rw [F58, F1 58 (by omega)]
        have z1 := g0 54 (by omega) (by omega)
        have z2 := g0 55 (by omega) (by omega)
        have z3 := g0 56 (by omega) (by omega)
        have z4 := g0 57 (by omega) (by omega)
        simp [upd, z1, z2, z3, z4]
    · rw [← hτ4]
      have cho : ∀ env : List Value, env[0]? = some (.ref 0) → env[7]? = some (.int (nI v)) → sy_iM (sy_cr 2 sf_L_holds) (sy_aR (sy_rL 0) (sy_aI (sy_iL 7) sy_aN)) env FF = some (.inl 0, FF) := fun env h1 h2 => ee_eq (c_holds CP_self hv (ee_R h1) (ee_L h2)) F6
      exact es_eZb (c := true) (ee_iC (ee_cAt (ee_cAt (ee_cAt (ee_cAt (ee_cb (c := true) (ee_L rfl)) (ee_eq (ee_cB (ee_M (ee_aR (ee_R rfl) (ee_aI (ee_L rfl) ee_aN)) (ee_cr hrep rfl)) (ee_L rfl)) (decide_eq_true rfl))) (ee_cb (c := true) (ee_M (ee_aR (ee_R rfl) (ee_aR (ee_R rfl) (ee_aR (ee_R rfl) (ee_aR (ee_R rfl) (ee_aR (ee_R rfl) ee_aN))))) (ee_cr hsame rfl)))) (ee_eq (ee_cB (cho _ rfl rfl) ee_K) (decide_eq_true rfl))) (ee_eq (ee_cB (ee_M (ee_aR (ee_R rfl) (ee_aI (ee_L rfl) ee_aN)) (ee_cr hrep2 rfl)) ee_K) (decide_eq_true rfl))))
  refine ⟨F', ke_meth ?_ (Nat.le_of_ble_eq_true rfl), IF', AFF⟩
  have hnor : sy_nor 53 e0 = true := by
    rw [he0]
    repeat' refine nor_cons ?_ ?_
    all_goals first | rfl | exact nor_45 (by omega) hd
  have g1 : gd σ1 := fun i h1 h2 => by
    rw [F1 58 (by omega)]
    exact g0 i h1 h2
  have hnew : sy_sNew 53 15 (sy_sQ (sy_sSI 16 (sy_iQ (sy_ceq (sy_iL 14) (sy_iM (sy_cr 2 sf_L_fieldOf) (sy_aL (sy_lA (sy_rL 10) (sy_iL 11)) (sy_aI (sy_iK 2) sy_aN)))) (sy_iK 0) (sy_iM (sy_cr 8 sf_L_needs) (sy_aR (sy_rL 1) (sy_aR (sy_rL 2) (sy_aR (sy_rL 3) (sy_aR (sy_rL 4) (sy_aR (sy_rL 5) (sy_aR (sy_rL 15) (sy_aI (sy_iL 13) (sy_aI (sy_iL 14) sy_aN))))))))))) (sy_sQ (sy_sSI 17 (sy_iC (sy_cA (sy_clt (sy_iDv false (sy_iDv true (sy_iA 0 (sy_rL 1) (sy_iL 13)) (sy_iK 64)) (sy_iK 4)) (sy_iK 2)) (sy_cne (sy_iM (sy_cr 3 sf_L_area) (sy_aR (sy_rL 0) (sy_aI (sy_iK 0) (sy_aI (sy_iK 0) sy_aN)))) (sy_iM (sy_cr 2 sf_L_fieldOf) (sy_aL (sy_lA (sy_rL 10) (sy_iL 11)) (sy_aI (sy_iK 0) sy_aN))))))) (sy_sQ (sy_sSI 18 (sy_iQ (sy_cI (sy_iL 17)) (sy_iK 8) (sy_iQ (sy_cgt (sy_iL 16) (sy_iK 0)) (sy_iK 10) (sy_iQ (sy_cgt (sy_iAdd (sy_iAdd (sy_iAdd (sy_iA 0 (sy_rL 5) (sy_iK 0)) (sy_iA 0 (sy_rL 5) (sy_iK 1))) (sy_iA 0 (sy_rL 5) (sy_iK 2))) (sy_iT (sy_rL 15) (sy_iK 0))) (sy_iK 60)) (sy_iK 11) (sy_iK 0))))) (sy_sQ (sy_sI (sy_ceq (sy_iL 18) (sy_iK 0)) (sy_sQ (sy_sWL (sy_rL 10) (sy_iL 11) (sy_lM (sy_cr 3 sf_L_slot) (sy_aR (sy_rL 0) (sy_aI (sy_iK 0) (sy_aI (sy_iL 13) sy_aN))))) (sy_sC (sy_cr 6 sf_L_makes) (sy_aR (sy_rL 1) (sy_aR (sy_rL 2) (sy_aR (sy_rL 3) (sy_aR (sy_rL 4) (sy_aR (sy_rL 5) (sy_aR (sy_rL 15) sy_aN)))))))) sy_sN) LRz)))) e0 (fun _ => sy_fail) σ1 = rOK F' := by
    have h1 : (sy_top 53 σ1 && sy_nor 53 e0) = true := by rw [gd_top g1, hnor]; rfl
    have hx : ∀ kk, (sy_sQ (sy_sSI 16 (sy_iQ (sy_ceq (sy_iL 14) (sy_iM (sy_cr 2 sf_L_fieldOf) (sy_aL (sy_lA (sy_rL 10) (sy_iL 11)) (sy_aI (sy_iK 2) sy_aN)))) (sy_iK 0) (sy_iM (sy_cr 8 sf_L_needs) (sy_aR (sy_rL 1) (sy_aR (sy_rL 2) (sy_aR (sy_rL 3) (sy_aR (sy_rL 4) (sy_aR (sy_rL 5) (sy_aR (sy_rL 15) (sy_aI (sy_iL 13) (sy_aI (sy_iL 14) sy_aN))))))))))) (sy_sQ (sy_sSI 17 (sy_iC (sy_cA (sy_clt (sy_iDv false (sy_iDv true (sy_iA 0 (sy_rL 1) (sy_iL 13)) (sy_iK 64)) (sy_iK 4)) (sy_iK 2)) (sy_cne (sy_iM (sy_cr 3 sf_L_area) (sy_aR (sy_rL 0) (sy_aI (sy_iK 0) (sy_aI (sy_iK 0) sy_aN)))) (sy_iM (sy_cr 2 sf_L_fieldOf) (sy_aL (sy_lA (sy_rL 10) (sy_iL 11)) (sy_aI (sy_iK 0) sy_aN))))))) (sy_sQ (sy_sSI 18 (sy_iQ (sy_cI (sy_iL 17)) (sy_iK 8) (sy_iQ (sy_cgt (sy_iL 16) (sy_iK 0)) (sy_iK 10) (sy_iQ (sy_cgt (sy_iAdd (sy_iAdd (sy_iAdd (sy_iA 0 (sy_rL 5) (sy_iK 0)) (sy_iA 0 (sy_rL 5) (sy_iK 1))) (sy_iA 0 (sy_rL 5) (sy_iK 2))) (sy_iT (sy_rL 15) (sy_iK 0))) (sy_iK 60)) (sy_iK 11) (sy_iK 0))))) (sy_sQ (sy_sI (sy_ceq (sy_iL 18) (sy_iK 0)) (sy_sQ (sy_sWL (sy_rL 10) (sy_iL 11) (sy_lM (sy_cr 3 sf_L_slot) (sy_aR (sy_rL 0) (sy_aI (sy_iK 0) (sy_aI (sy_iL 13) sy_aN))))) (sy_sC (sy_cr 6 sf_L_makes) (sy_aR (sy_rL 1) (sy_aR (sy_rL 2) (sy_aR (sy_rL 3) (sy_aR (sy_rL 4) (sy_aR (sy_rL 5) (sy_aR (sy_rL 15) sy_aN)))))))) sy_sN) LRz)))) (sy_set e0 15 (.ref 53)) kk (sy_new 53 σ1) = rOK F' := fun kk => by
      rw [he0, ← hσn]
      exact sQ_a5.trans ((k2 (fun env' => LRz env' kk)).trans (hend kk))
    refine es_New h1 (hx _) ?_
    rw [gF 53 (by omega) (by omega)]
    rfl
  rw [rep_eq]
  exact es_Q ((k0 _).trans hnew)
end LA49
