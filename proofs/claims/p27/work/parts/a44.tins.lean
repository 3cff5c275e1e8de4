section LA44
variable {A B M F σ τ σ1 : sy_Mem} {t u v d : Nat} {st : Int32} {env : List Value}
/-- what an act leaves as it was -/
def AF (σ F : sy_Mem) : Prop := (∀ k, k < 10 ∨ k = 44 ∨ k = 51 → F k = σ k) ∧ F 52 0 = σ 52 0 ∧ (∀ w, w < 4 → ∀ i, i < 2 → F (sy_vw w) i = σ (sy_vw w) i) ∧ F 52 1 = 0 ∧ F 19 0 = 0 ∧ gd F
theorem h_insert (hv : v < 4) (h : sf_X5_insertListed [.ref 0, .ref (sy_vw v)] (sy_up τ (sy_vw v) 6 0) = some (.inl (some (.int st)), M)) : sf_L_insert [.ref 0, .int (nI v)] τ = some (.inl (some (.int st)), sy_up M 19 0 0) := by
  have hc : sf_X5_insert [.ref 0, .int (nI v)] τ = some (.inl (some (.int st)), sy_up M 19 0 0) := by
    have e := (vw4 hv).2
    have hvo := yt_X5_viewOf τ (nI v)
    rw [e] at hvo
    refine ee_meth ?_ rfl
    unfold sm_X5_insert
    refine es_Q ((es_SRx (ee_aR (ee_R rfl) (ee_aI (ee_L rfl) ee_aN)) (ee_cv hvo rfl) (r := some (.inl (some (.int st)), sy_up M 19 0 0)) (fun hx => ?_)).trans (by rw [if_pos (vw4 hv).1]))
    refine es_Q (es_C (ee_aR (ee_R rfl) ee_aN) (ee_cv (yt_X4_release τ hv) (yv_rc hv rfl)) ?_)
    refine es_Q (es_SI (ee_M (ee_aR (ee_R rfl) (ee_aR (ee_R rfl) ee_aN)) (ee_cv h rfl)) ?_)
    exact es_Q (es_E (ee_M (ee_aR (ee_rF (ee_R rfl) rfl) ee_aN) (ee_cv (yt_X0_drop _) rfl)) (es_eI (ee_L rfl)))
  exact ke_meth (kh_I (ee_aR (ee_R rfl) (ee_aI (ee_L rfl) ee_aN)) (ee_cv hc rfl)) (Nat.le_of_ble_eq_true rfl)
theorem QQ_c (h : ∀ k, 19 ≤ k → k ≤ 26 → A k = B k) (Q : QQ B σ) : QQ A σ := by
  obtain ⟨q1, q2⟩ := Q
  have e19 : lsN A = lsN B := by
    show (A 19 0).toInt.toNat = _
    rw [h 19 (by omega) (by omega)]
  refine ⟨by rw [e19]; exact q1, fun i hi => ?_⟩
  rw [e19] at hi
  obtain ⟨r1, r2, r3⟩ := q2 i hi
  obtain ⟨s1, s2⟩ := qi_c (τ := A) (σ := B) (i := i) (by rw [h 22 (by omega) (by omega)]) (fun m _ k a b => by rw [h k (by omega) (by omega)]) r3
  exact ⟨by rw [h 20 (by omega) (by omega), h 21 (by omega) (by omega)]; exact r1, by rw [s1]; exact r2, s2⟩
theorem sQ_a3 {a b c : sy_S} {k : List Value → sy_MM (Option Value)} : sy_sQ a (sy_sQ b c) env k σ = sy_sQ a b env (fun env' => c env' k) σ := rfl
def LRe : sy_S := (sy_sQ (sy_sW (sy_rL 9) (sy_iK 1) (sy_iK 0)) (sy_sQ (sy_sDrp 53 19) (sy_eZ (sy_iC (sy_cA (sy_cA (sy_cA (sy_ceq (sy_iM (sy_cr 2 sf_L_insert) (sy_aR (sy_rL 0) (sy_aI (sy_iL 10) sy_aN))) (sy_iL 16)) (sy_cI (sy_iM (sy_cr 5 sf_L_same) (sy_aR (sy_rL 0) (sy_aR (sy_rL 2) (sy_aR (sy_rL 3) (sy_aR (sy_rL 4) (sy_aR (sy_rL 5) sy_aN)))))))) (sy_ceq (sy_iM (sy_cr 2 sf_L_holds) (sy_aR (sy_rL 0) (sy_aI (sy_iL 10) sy_aN))) (sy_iK 0))) (sy_cQ (sy_cgt (sy_iL 16) (sy_iK 0)) (sy_ceq (sy_iM (sy_cr 2 sf_L_place) (sy_aR (sy_rL 0) (sy_aI (sy_iL 10) sy_aN))) (sy_iL 13)) (sy_cA (sy_ceq (sy_iM (sy_cr 2 sf_L_place) (sy_aR (sy_rL 0) (sy_aI (sy_iL 10) sy_aN))) (sy_iL 13)) (sy_ceq (sy_iM (sy_cr 2 sf_L_parent) (sy_aR (sy_rL 0) (sy_aI (sy_iL 10) sy_aN))) (sy_iL 13)))))))))
theorem ins_eq : sm_L_inserts = sy_sQ LIs (sy_sNew 53 19 (sy_sQ LX1 (sy_sQ LX2 LRe))) := rfl
/-- the memories that a released view's call can begin with -/
def HA (v : Nat) (σ A : sy_Mem) : Prop := ∃ L, A = sy_up (mg σ L) (sy_vw v) 6 0
theorem HA_IH (I : yn_I t σ) (T : TT σ σ) (R : RW σ σ) (Q : QQ σ σ) (hv : v < 4) (V : σ 51 v = nI (vn σ v)) (h : HA v σ A) : IH t v (vn σ v % 4) A σ ∧ A (sy_vw v) 6 = 0 := by
  obtain ⟨L, rfl⟩ := h
  obtain ⟨d1, d2, d3⟩ := vd_is I hv
  have hvw := yv_lt hv
  have hm : ∀ k, k < 44 → mg σ L k = σ k := fun k hk => if_pos hk
  have hA : ∀ k, k < 44 → k ≠ sy_vw v → sy_up (mg σ L) (sy_vw v) 6 0 k = σ k := fun k h1 h2 => (yu_ne h2).trans (hm k h1)
  have hAv : ∀ i, i ≠ 6 → sy_up (mg σ L) (sy_vw v) 6 0 (sy_vw v) i = σ (sy_vw v) i := fun i hi => by
    rw [yu_an hi, hm _ (by omega)]
  have hb : yc_base σ (sy_up (mg σ L) (sy_vw v) 6 0) := fun k hk => hA k (by omega) (by omega)
  have hvn : vn (sy_up (mg σ L) (sy_vw v) 6 0) v = vn σ v := by
    unfold vn
    rw [hAv 0 (by decide), hAv 1 (by decide)]
  refine ⟨⟨⟨yn_release (yn_I_mg I) hv, TT_b hb rfl T, RW_b hb (fun _ _ _ => rfl) R, QQ_c (fun k h1 h2 => hA k (by omega) (by omega)) Q⟩, ⟨hv, d2⟩, by rw [hvn]; exact V, by rw [hvn], by rw [hAv 0 (by decide)]; exact d3, ?_, fun s f => (ya_slot_c (hA 31 (by omega) (by omega)) s f).symm⟩, yu_at⟩
  rw [show ya_here (sy_up (mg σ L) (sy_vw v) 6 0) v = ya_here σ v from by unfold ya_here; rw [hAv 3 (by decide), hAv 2 (by decide)]]
  exact (ya_sg_c (hA 17 (by omega) (by omega)) _).symm
theorem t_inserts (I : yn_I t σ) (T : TT σ σ) (R : RW σ σ) (Q : QQ σ σ) (hv : v < 4) (V : σ 51 v = nI (vn σ v)) (g0 : gd σ) (ht : t + 70 < 10000) : ∃ F, sf_L_inserts (eIn v) σ = rOK F ∧ yn_I (t + 8) F ∧ AF σ F := by
  obtain ⟨d, hd⟩ : ∃ d, d = vn σ v % 4 := ⟨_, rfl⟩
  have hall : ∀ A, HA v σ A → IH t v d A σ ∧ A (sy_vw v) 6 = 0 := fun A h => by
    rw [hd]
    exact HA_IH I T R Q hv V h
  have a0 : HA v σ (sy_up (mg σ σ) (sy_vw v) 6 0) := ⟨σ, rfl⟩
  have hd3 : d < 3 := (hall _ a0).1.2.1.2
  obtain ⟨e0, τ0, q0, k0⟩ := sx_all (H := HA v σ) _ a0 (fun A hA => ins_law (hall A hA).1 g0 ht (hall A hA).2)
  obtain ⟨hτ, hnor, -⟩ := q0 _ a0
  subst hτ
  obtain ⟨e2, τ2, q2, k2⟩ := sr_all (H := HA v τ0) _ a0 (fun A hA => (q0 A hA).2.2)
  have hvw := fun w (hw : w < 4) => yv_lt hw
  have hvv := hvw v hv
  -- the frame
  obtain ⟨h', x', g', st', ty', pl', M', B', u', e', -, -, -, -, -, -, F1, F58⟩ := q2 _ a0
  obtain ⟨τ4, hτ4⟩ : ∃ τ4, τ4 = sy_drp 53 (sy_up τ2 52 1 0) := ⟨_, rfl⟩
  have k4 : ∀ k, k ≠ 52 → k ≠ 58 → τ4 k = τ2 k := fun k h1 h2 => by
    rw [hτ4]
    unfold sy_drp
    rw [up_ne h2, up_ne h1]
  have hCP : CP τ0 τ4 := fun k hk => (k4 k (by omega) (by omega)).trans (F1 k (by omega))
  have hHA : HA v τ0 (sy_up τ4 (sy_vw v) 6 0) := by
    obtain ⟨L, hL⟩ := CP_mg hCP
    exact ⟨L, by rw [hL]⟩
  obtain ⟨h, x, g, st, ty, pl, M, B, u, e, hc, IM, ⟨IB, RB, hE⟩, ⟨p1, p2, p3⟩, h6, ⟨M1, M2⟩, -, -⟩ := q2 _ hHA
  obtain ⟨FF, hF⟩ : ∃ FF, FF = sy_up M 19 0 0 := ⟨_, rfl⟩
  have kF : ∀ k, k ≠ 19 → FF k = M k := fun k hk => by
    rw [hF]
    exact yu_ne hk
  have IF : yn_I (t + 8) FF := by
    rw [hF]
    exact yn_drop IM
  have M4 : ∀ k, k < 10 ∨ 44 ≤ k → M k = τ4 k := fun k hk => (M1 k hk).trans (yu_ne (by omega))
  have t58 : τ2 58 53 = 1 := by rw [F58, upd_at]
  have f58 : ∀ j, FF 58 j = if j = 53 then 0 else τ0 58 j := fun j => by
    rw [kF 58 (by omega), M4 58 (by omega), hτ4]
    unfold sy_drp
    rw [up_at, up_ne (by decide), F58]
    by_cases q : j = 53
    · rw [if_pos q, if_pos q]
    · rw [if_neg q, if_neg q, upd_ne q]
  have gF : gd FF := fun j h1 h2 => by
    rw [f58]
    by_cases q : j = 53
    · rw [if_pos q]
    · rw [if_neg q]
      exact g0 j h1 h2
  have hhere : ya_here FF v = ya_here M v := by
    unfold ya_here
    rw [kF (sy_vw v) (by omega)]
  have hyL : ∀ y, yL FF y = yL M y := fun y => ya_sg_c (kF 17 (by omega)) y
  have AFF : AF τ0 FF := by
    refine ⟨fun k hk => ?_, ?_, fun w hw i hi => ?_, ?_, ?_, gF⟩
    · rw [kF k (by omega), M4 k (by omega), k4 k (by omega) (by omega)]
      exact F1 k (by omega)
    · rw [kF 52 (by omega), M4 52 (by omega), hτ4]
      unfold sy_drp
      rw [up_ne (by decide), up_at, if_neg (by decide), F1 52 (by omega)]
    · have := hvw w hw
      have h4 : τ4 (sy_vw w) i = τ0 (sy_vw w) i := by rw [hCP (sy_vw w) (by omega)]
      rw [kF (sy_vw w) (by omega), M2 w hw i hi, ← h4]
      by_cases q : sy_vw w = sy_vw v
      · rw [q]
        exact yu_an (by omega)
      · exact congrFun (yu_ne q) i
    · rw [kF 52 (by omega), M4 52 (by omega), hτ4]
      unfold sy_drp
      rw [up_ne (by decide), up_at, if_pos rfl]
    · rw [hF]
      exact yu_at
  -- the end
  have hE2 : eqR FF B := by
    have e1 := eqR_c (A := FF) (B := M) (fun k hk => (kF k (by omega)).symm)
    exact fun d' hd' => ⟨(e1 d' hd').1.trans (hE d' hd').1, fun q hq => ⟨((e1 d' hd').2 q hq).1.trans ((hE d' hd').2 q (by rw [← (e1 d' hd').1]; exact hq)).1, fun f hf => (((e1 d' hd').2 q hq).2 f hf).trans (((hE d' hd').2 q (by rw [← (e1 d' hd').1]; exact hq)).2 f hf)⟩⟩
  have RF : RW B FF := RW_b (A := B) (B := B) (σ := τ2) (fun _ _ => rfl) (fun k h1 h2 => by rw [kF k (by omega), M4 k (by omega), k4 k (by omega) (by omega)]) RB
  have hsame := t_same IF CP_self IB RF hE2
  have hins := h_insert hv hc
  rw [← hF] at hins
  have hend : ∀ kk, LRe e2 kk τ2 = rOK FF := fun kk => by
    rw [e]
    unfold LRe
    refine es_Q (es_Wn (j := 1) (ee_R rfl) ee_K ee_K (by decide) (by decide) ?_)
    refine es_Q (es_Drp ?_ ?_)
    · rw [Bool.and_eq_true]
      refine ⟨?_, ?_⟩
      · rw [up_ne (by decide), t58]
        rfl
      · unfold sy_top
        rw [up_ne (by decide), F58]
        have z1 := g0 54 (by omega) (by omega)
        have z2 := g0 55 (by omega) (by omega)
        have z3 := g0 56 (by omega) (by omega)
        have z4 := g0 57 (by omega) (by omega)
        simp [upd, z1, z2, z3, z4]
    · rw [← hτ4]
      have cpl : ∀ env : List Value, env[0]? = some (.ref 0) → env[10]? = some (.int (nI v)) → sy_iM (sy_cr 2 sf_L_place) (sy_aR (sy_rL 0) (sy_aI (sy_iL 10) sy_aN)) env FF = some (.inl h, FF) := fun env h1 h2 => ee_eq (c_place CP_self hv (ee_R h1) (ee_L h2)) (by rw [hhere, hyL]; exact p1)
      have cho : ∀ env : List Value, env[0]? = some (.ref 0) → env[10]? = some (.int (nI v)) → sy_iM (sy_cr 2 sf_L_holds) (sy_aR (sy_rL 0) (sy_aI (sy_iL 10) sy_aN)) env FF = some (.inl 0, FF) := fun env h1 h2 => ee_eq (c_holds CP_self hv (ee_R h1) (ee_L h2)) (by rw [kF (sy_vw v) (by omega)]; exact h6)
      have cpa : ∀ env : List Value, env[0]? = some (.ref 0) → env[10]? = some (.int (nI v)) → sy_iM (sy_cr 2 sf_L_parent) (sy_aR (sy_rL 0) (sy_aI (sy_iL 10) sy_aN)) env FF = some (.inl (yL M (M (sy_vw v) 5)), FF) := fun env h1 h2 => ee_eq (c_parent CP_self hv (ee_R h1) (ee_L h2)) (by rw [kF (sy_vw v) (by omega), hyL])
      refine es_eZb (c := true) (ee_iC (ee_cAt (ee_cAt (ee_cAt (ee_eq (ee_cB (ee_M (ee_aR (ee_R rfl) (ee_aI (ee_L rfl) ee_aN)) (ee_cr hins rfl)) (ee_L rfl)) (decide_eq_true rfl)) (ee_cb (c := true) (ee_M (ee_aR (ee_R rfl) (ee_aR (ee_R rfl) (ee_aR (ee_R rfl) (ee_aR (ee_R rfl) (ee_aR (ee_R rfl) ee_aN))))) (ee_cr hsame rfl)))) (ee_eq (ee_cB (cho _ rfl rfl) ee_K) (decide_eq_true rfl))) (ee_eq (ee_cQ (x := true) (y := true) (ee_cB (ee_L rfl) ee_K) (fun _ => ee_eq (ee_cB (cpl _ rfl rfl) (ee_L rfl)) (decide_eq_true rfl)) (fun hz => ee_cAt (ee_eq (ee_cB (cpl _ rfl rfl) (ee_L rfl)) (decide_eq_true rfl)) (ee_eq (ee_cB (cpa _ rfl rfl) (ee_L rfl)) (decide_eq_true (p2 ?_))))) ?_)))
      · have hz : decide (0 < st) = false := hz
        rw [p3] at hz
        by_cases q : st = 0
        · exact q
        · rw [decide_eq_false q] at hz
          cases hz
      · show (if _ then true else true) = true
        split <;> rfl
  refine ⟨FF, ke_meth ?_ (Nat.le_of_ble_eq_true rfl), IF, AFF⟩
  have hnew : sy_sNew 53 19 (sy_sQ LX1 (sy_sQ LX2 LRe)) e0 (fun _ => sy_fail) τ0 = rOK FF := by
    have h1 : (sy_top 53 τ0 && sy_nor 53 e0) = true := by rw [gd_top g0, hnor]; rfl
    refine es_New h1 (sQ_a3.trans (k2 _ FF gF (hend _))) ?_
    rw [gF 53 (by omega) (by omega)]
    rfl
  rw [ins_eq]
  exact es_Q ((k0 _).trans hnew)
end LA44
