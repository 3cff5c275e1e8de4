section LA55
variable {A B M F σ τ σ1 : sy_Mem} {t u v d j w : Nat} {st : Int32} {env : List Value}
def LDp : sy_S := (sy_sQ (sy_sSI 8 (sy_iDv false (sy_iA 0 (sy_rL 6) (sy_iL 7)) (sy_iK 4))) (sy_sQ (sy_sSI 9 (sy_iM (sy_cr 2 sf_L_place) (sy_aR (sy_rL 0) (sy_aI (sy_iL 7) sy_aN)))) (sy_sQ (sy_sSR 10 (sy_rM (sy_cr 4 sf_L_row) (sy_aI (sy_iL 8) (sy_aR (sy_rL 2) (sy_aR (sy_rL 3) (sy_aR (sy_rL 4) sy_aN)))))) (sy_sQ (sy_sSI 11 (sy_iM (sy_cr 1 sf_L_typeOf) (sy_aL (sy_lA (sy_rL 10) (sy_iL 9)) sy_aN))) (sy_sQ (sy_sSI 12 (sy_iM (sy_cr 2 sf_L_fieldOf) (sy_aL (sy_lA (sy_rL 10) (sy_iL 9)) (sy_aI (sy_iK 0) sy_aN)))) (sy_sSI 13 (sy_iK 0)))))))
def LDl : sy_S := (sy_sB 16 (sy_sQ (sy_sSI 16 (sy_iK 0)) (sy_wh (sy_clt (sy_iL 16) (sy_iK 4)) (sy_sQ (sy_sWT (sy_rL 15) (sy_iL 16) (sy_iM (sy_cr 2 sf_L_ahead) (sy_aR (sy_rL 0) (sy_aI (sy_iL 16) sy_aN)))) (sy_sIn 16 1)) 5)))
def LDs : sy_S := (sy_sSI 17 (sy_iC (sy_cA (sy_cA (sy_cA (sy_ceq (sy_iM (sy_cr 2 sf_L_delete) (sy_aR (sy_rL 0) (sy_aI (sy_iL 7) sy_aN))) (sy_iQ (sy_cI (sy_iL 13)) (sy_iK 12) (sy_iK 0))) (sy_cI (sy_iM (sy_cr 5 sf_L_same) (sy_aR (sy_rL 0) (sy_aR (sy_rL 2) (sy_aR (sy_rL 3) (sy_aR (sy_rL 4) (sy_aR (sy_rL 5) sy_aN)))))))) (sy_ceq (sy_iM (sy_cr 2 sf_L_holds) (sy_aR (sy_rL 0) (sy_aI (sy_iL 7) sy_aN))) (sy_iK 0))) (sy_ceq (sy_iM (sy_cr 2 sf_L_delete) (sy_aR (sy_rL 0) (sy_aI (sy_iL 7) sy_aN))) (sy_iK 6)))))
def LDa : sy_S := (sy_sB 18 (sy_sQ (sy_sSI 18 (sy_iK 0)) (sy_wh (sy_clt (sy_iL 18) (sy_iK 4)) (sy_sQ (sy_sSI 17 (sy_iC (sy_cA (sy_cI (sy_iL 17)) (sy_ceq (sy_iM (sy_cr 2 sf_L_ahead) (sy_aR (sy_rL 0) (sy_aI (sy_iL 18) sy_aN))) (sy_iSub (sy_iT (sy_rL 15) (sy_iL 18)) (sy_iT (sy_rL 16) (sy_iL 18))))))) (sy_sIn 18 1)) 5)))
def LDz : sy_S := (sy_sQ (sy_sDrp 57 16) (sy_sQ (sy_sDrp 56 15) (sy_sQ (sy_sDrp 55 14) (sy_eZ (sy_iC (sy_cA (sy_cI (sy_iL 17)) (sy_cO (sy_cI (sy_iL 13)) (sy_ceq (sy_iM (sy_cr 2 sf_L_place) (sy_aR (sy_rL 0) (sy_aI (sy_iL 7) sy_aN))) (sy_iK (-1))))))))))
theorem del_eq : sm_L_deletes = sy_sQ LDp (sy_sNew 55 14 (sy_sNew 56 15 (sy_sQ LDl (sy_sNew 57 16 (sy_sQ LD1 (sy_sQ LD2 (sy_sQ LDs (sy_sQ LDa LDz)))))))) := rfl
theorem ca_c {Y Z : sy_Mem} (h16 : Y 16 = Z 16) (h17 : Y 17 = Z 17) (h2 : Y (sy_vw w) 2 = Z (sy_vw w) 2) (h4 : Y (sy_vw w) 4 = Z (sy_vw w) 4) (h0 : Y (sy_vw w) 0 = Z (sy_vw w) 0) : ya_X5_countAhead Y w = ya_X5_countAhead Z w := by
  unfold ya_X5_countAhead ya_cnt
  rw [h16, h2, h4, h0, ya_sg_c h17]
abbrev eD0 (v d j : Nat) (ty key : Int32) : List Value := eDl v ++ [.int (nI d), .int (nI j), .ref (45 + d), .int ty, .int key, .int 0]
theorem del_pre (I : yn_I t σ) (R : RW σ σ) (hv : v < 4) (hd : d < 3) (V : σ 51 v = nI (vn σ v)) (hvd : vn σ v % 4 = d) (hj : j < cn σ d) (hh : ya_here σ v = sg σ d j) (k : List Value → sy_MM (Option Value)) : LDp (eDl v) k σ = k (eD0 v d j (yT σ (sg σ d j)) (ya_N σ (sg σ d j) 0)) σ := by
  have hvb := (vn_is I hv).1
  unfold LDp
  refine es_Q (es_SI (ee_eq (ee_Dv (ee_eq (ee_An (j := v) (ee_R rfl) (ee_L rfl) (show v < 4 from hv) (by decide)) V) ee_K (by decide)) (show _ = nI d by rw [← hvd]; exact nmod (a := vn σ v) (b := 4) (by omega) (by omega))) ?_)
  refine es_Q (es_SI (x := nI j) (ee_eq (c_place CP_self hv (ee_R rfl) (ee_L rfl)) (by rw [hh]; exact (sg_ok I hd hj).2.2)) ?_)
  refine es_Q (es_SR (ee_rM (ee_aI (ee_L rfl) (ee_aR (ee_R rfl) (ee_aR (ee_R rfl) (ee_aR (ee_R rfl) ee_aN)))) (ee_cr (t_row hd) rfl)) ?_)
  refine es_Q (es_SI (ev_t I R hd hj (ee_R rfl) (ee_L rfl)) ?_)
  exact es_Q (es_SI (ev_f I R (f := 0) hd hj (by omega) (ee_R rfl) (ee_L rfl) ee_K) (es_SI ee_K rfl))
theorem del_aheads (I : yn_I t σ) {ty key : Int32} (hc : CP σ τ) (hT : τ 58 56 = 1) : SX LDl (eD0 v d j ty key ++ [.ref 55, .ref 56]) τ (fun e ρ => e = eD0 v d j ty key ++ [.ref 55, .ref 56] ∧ (∀ k, k ≠ 56 → ρ k = τ k) ∧ ∀ w, w < 4 → ρ 56 w = ya_X5_countAhead σ w) := by
  unfold LDl
  refine sx_B (sx_SIQ ee_K ?_)
  refine sx_wh (N := 4) (Inv := fun m e ρ => e = eD0 v d j ty key ++ [.ref 55, .ref 56, .int (nI m)] ∧ (∀ k, k ≠ 56 → ρ k = τ k) ∧ ∀ w, w < m → ρ 56 w = ya_X5_countAhead σ w) (fun m e ρ hm hI => ?_) 4 0 5 _ _ (by omega) (by omega) ⟨rfl, fun _ _ => rfl, fun w hw => absurd hw (by omega)⟩
  obtain ⟨rfl, F, L⟩ := hI
  refine ⟨decide (m < 4), ee_eq (ee_cB (ee_L rfl) ee_K) (nI_ltd (q := 4) (by omega) (by omega)), fun hx => ?_, fun hx => ?_⟩
  · have hm4 := of_decide_eq_true hx
    refine ⟨hm4, ?_⟩
    have hTm : sy_isT 56 ρ = true := by
      unfold sy_isT
      rw [F 58 (by decide), hT]
      rfl
    have hcp : CP σ ρ := fun k hk => (F k (by omega)).trans (hc k hk)
    refine ⟨_, sy_up ρ 56 m (ya_X5_countAhead σ m), ⟨rfl, fun k hk => by rw [up_ne hk]; exact F k hk, fun w hw => ?_⟩, fun k => es_Q (es_WT (j := m) (ee_R rfl) (ee_L rfl) (c_ahead I hcp hm4 (ee_R rfl) (ee_L rfl)) hTm (show m < 4 from hm4) (es_In rfl ?_))⟩
    · rw [up_at]
      by_cases q : w = m
      · rw [if_pos q, q]
      · rw [if_neg q]
        exact L w (by omega)
    · exact congrArg (fun z => k (eD0 v d j ty key ++ [.ref 55, .ref 56, .int z]) (sy_up ρ 56 m (ya_X5_countAhead σ m))) (nadd (a := m) (b := 1))
  · have : m = 4 := by
      have := of_decide_eq_false hx
      omega
    subst this
    exact ⟨rfl, F, L⟩
theorem t_deletes (I : yn_I t σ) (T : TT σ σ) (R : RW σ σ) (hv : v < 4) (V : ∀ w, w < 4 → σ 51 w = nI (vn σ w)) (g0 : gd σ) (hg : σ 52 1 = 0) (h19 : σ 19 0 = 0) (h6 : σ (sy_vw v) 6 = 1) (hl1 : σ (sy_vw v + 1) 0 = sg σ d j) (hd : d < 3) (hvd : vn σ v % 4 = d) (hj : j < cn σ d) (hh : ya_here σ v = sg σ d j) :
    ∃ F, sf_L_deletes (eDl v) σ = rOK F ∧ yn_I (t + 8) F ∧ AF σ F := by
  obtain ⟨x, hx⟩ : ∃ x, x = sg σ d j := ⟨_, rfl⟩
  obtain ⟨x1, x2, x3⟩ := sg_ok I hd hj
  rw [← hx] at x1 x2 x3 hh hl1
  obtain ⟨ty, hty⟩ : ∃ ty, yT σ x = ty := ⟨_, rfl⟩
  obtain ⟨key, hkey⟩ : ∃ key, ya_N σ x 0 = key := ⟨_, rfl⟩
  have hvw := fun w (hw : w < 4) => yv_lt hw
  have hvv := hvw v hv
  have hxne : x ≠ -1 := yl_ne x1
  have hmark : σ (sy_vw v) 2 = x := by
    unfold ya_here at hh
    cases h3 : decide (σ (sy_vw v) 3 = 0) with
    | true =>
      rw [h3, if_neg (by decide)] at hh
      exact absurd hh.symm hxne
    | false =>
      rw [h3, if_pos (by decide)] at hh
      exact hh
  have QQ0 : QQ σ σ := by
    have e : lsN σ = 0 := by
      show (σ 19 0).toInt.toNat = 0
      rw [h19]
      rfl
    refine ⟨by rw [e, hg]; rfl, fun i hi => ?_⟩
    rw [e] at hi
    omega
  obtain ⟨pv, hpv⟩ : ∃ pv : Nat → Nat, ∀ w, pv w = (ya_X5_countAhead σ w).toInt.toNat := ⟨_, fun _ => rfl⟩
  have hdb : ∀ w, w < 4 → vn σ w < 2 ^ 20 ∧ vn σ w % 4 < 3 ∧ σ (sy_vw w) 0 = nI (vn σ w % 4) := fun w hw => vd_is I hw
  have hpa : ∀ w, w < 4 → ya_X5_countAhead σ w = nI (pv w) ∧ pv w ≤ cn σ (vn σ w % 4) := fun w hw => by
    obtain ⟨-, b2, b3⟩ := hdb w hw
    obtain ⟨a, a1, a2, -⟩ := start_is I hw b2 b3
    have := cn_le I b2
    have e : pv w = a := by
      rw [hpv, a1, nI_toInt (by omega)]
      omega
    rw [e]
    exact ⟨a1, a2⟩
  -- the rows of its own
  obtain ⟨σ5, h5⟩ : ∃ σ5, σ5 = sy_new 55 σ := ⟨_, rfl⟩
  obtain ⟨σ6, h6'⟩ : ∃ σ6, σ6 = sy_new 56 σ5 := ⟨_, rfl⟩
  have k6 : ∀ k, k ≠ 55 → k ≠ 56 → k ≠ 58 → σ6 k = σ k := fun k a b c => by rw [h6', new_ne b c, h5, new_ne a c]
  have k658 : σ6 58 = upd (upd (σ 58) 55 1) 56 1 := by
    rw [h6', h5]
    rfl
  obtain ⟨e7, σ7, ⟨he7, F7, L7⟩, c7⟩ := del_aheads (v := v) (d := d) (j := j) (ty := ty) (key := key) I (τ := σ6) (fun k hk => k6 k (by omega) (by omega) (by omega)) (by rw [k658, upd_at])
  obtain ⟨σ8, h8⟩ : ∃ σ8, σ8 = sy_new 57 σ7 := ⟨_, rfl⟩
  have k8 : ∀ k, k < 53 ∨ 58 < k → σ8 k = σ k := fun k hk => by rw [h8, new_ne (by omega) (by omega), F7 k (by omega), k6 k (by omega) (by omega) (by omega)]
  have k758 : σ7 58 = upd (upd (σ 58) 55 1) 56 1 := (F7 58 (by decide)).trans k658
  have k858 : σ8 58 = upd (upd (upd (σ 58) 55 1) 56 1) 57 1 := by
    rw [h8, ← k758]
    rfl
  have k855 : ∀ d, σ8 55 d = 0 := fun d => by
    rw [h8, new_ne (by decide) (by decide), F7 55 (by decide), h6', new_ne (by decide) (by decide), h5, new_at, if_pos rfl]
  have k857 : ∀ w, σ8 57 w = 0 := fun w => by
    rw [h8, new_at, if_pos rfl]
  have k856 : ∀ w, w < 4 → σ8 56 w = nI (pv w) := fun w hw => by
    rw [h8, new_ne (by decide) (by decide), L7 w hw, (hpa w hw).1]
  have hvn : ∀ A, HA v σ A → ∀ w, w < 4 → vn A w = vn σ w ∧ A (sy_vw w) 0 = σ (sy_vw w) 0 := fun A hA w hw => by
    obtain ⟨L, rfl⟩ := hA
    have hb := hvw w hw
    have e : ∀ i, i ≠ 6 → sy_up (mg σ L) (sy_vw v) 6 0 (sy_vw w) i = σ (sy_vw w) i := fun i hi => by
      by_cases q : sy_vw w = sy_vw v
      · rw [q, yu_an hi]
        exact congrFun (if_pos (by omega)) i
      · rw [yu_ne q]
        exact congrFun (if_pos (by omega)) i
    unfold vn
    rw [e 0 (by decide), e 1 (by decide)]
    exact ⟨rfl, rfl⟩
  have hbase : ∀ A, HA v σ A → ∀ k, k ≤ 31 → A k = σ k := fun A hA k hk => by
    obtain ⟨L, rfl⟩ := hA
    rw [yu_ne (by omega)]
    exact if_pos (by omega)
  have hall : ∀ A, HA v σ A → DH t d j x ty key (ya_dm A x 60) A ∧ yl A x := fun A hA => by
    have hb := hbase A hA
    have HI := (HA_IH I T R QQ0 hv (V v hv) hA).1.1.1
    have e1 : sg A d j = sg σ d j := by
      show ya_at A (nI d) (nI j) = ya_at σ (nI d) (nI j)
      unfold ya_at
      rw [hb 15 (by omega), hb 16 (by omega)]
    refine ⟨⟨HI, ⟨hd, ?_⟩, by rw [e1]; exact hx, ?_, ?_, rfl⟩, ?_⟩
    · show j < (A 16 d).toInt.toNat
      rw [hb 16 (by omega)]
      exact hj
    · rw [← hty]
      exact ya_sg_c (hb 11 (by omega)) _
    · rw [← hkey]
      unfold ya_N
      rw [hb 14 (by omega)]
    · rw [yl_c (hb 11 (by omega))]
      exact x1
  have hlaw : ∀ A, HA v σ A → SX (sy_sQ LD1 LD2) (eD v d j ty key 0) σ8 (fun e τ => e = eD v d j ty key (ya_b (ya_bnd A (ya_dm A x 60) x)) ∧ PIv A (ya_dm A x 60) (ya_bnd A (ya_dm A x 60) x) pv σ8 3 0 τ) := fun A hA => by
    have hb := hbase A hA
    have hyb : yc_base σ A := fun k hk => hb k (by omega)
    refine del_law (hall A hA).1 (TT_b hyb (k8 44 (by omega)) T) (RW_b hyb (fun k a b => k8 k (by omega)) R) (fun w hw => ?_) (fun w hw => ⟨k856 w hw, ?_⟩) ?_ (fun d _ => k855 d) (fun w _ => k857 w)
    · obtain ⟨a1, a2⟩ := hvn A hA w hw
      unfold dvP
      rw [a1, k8 51 (by omega)]
      exact ⟨V w hw, (hdb w hw).1, (hdb w hw).2.1⟩
    · have := (hpa w hw).2
      have := cn_le I (hdb w hw).2.1
      omega
    · rw [k858]
      exact ⟨by rw [upd_ne (by omega), upd_ne (by omega), upd_at], by rw [upd_ne (by omega), upd_at], by rw [upd_at]⟩
  obtain ⟨e9, τ9, q9, c9⟩ := sx_all (H := HA v σ) (sy_up (mg σ σ) (sy_vw v) 6 0) ⟨σ, rfl⟩ hlaw
  obtain ⟨-, -, -, -, -, F9⟩ := q9 _ ⟨σ, rfl⟩
  have hCP : CP σ τ9 := fun k hk => (F9 k (by omega)).trans (k8 k (by omega))
  have hHA : HA v σ (sy_up τ9 (sy_vw v) 6 0) := by
    obtain ⟨L, hL⟩ := CP_mg hCP
    exact ⟨L, by rw [hL]⟩
  obtain ⟨A, hA⟩ : ∃ A, A = sy_up τ9 (sy_vw v) 6 0 := ⟨_, rfl⟩
  rw [← hA] at hHA
  obtain ⟨he9, P⟩ := q9 A hHA
  have IA := (hall A hHA).1.1
  have hbA := hbase A hHA
  obtain ⟨D, hD⟩ : ∃ D, ya_dm A x 60 = D := ⟨_, rfl⟩
  obtain ⟨CT, CN⟩ := ct_delF IA (hall A hHA).2 hD
  rw [hD] at he9 P
  have hls : ∀ w, w < 4 → τ9 57 w = nI (lsP A D (ya_bnd A D x) pv w 3 0) := P.2.2.2.1
  have hp9 : ∀ w, w < 4 → τ9 56 w = nI (pv w) := fun w hw => by rw [F9 56 (by omega)]; exact k856 w hw
  have hAk : ∀ k, k < 10 ∨ 44 ≤ k → A k = τ9 k := fun k hk => by
    rw [hA]
    exact yu_ne (by omega)
  have hA6 : A (sy_vw v) 6 = 0 := by
    rw [hA]
    exact yu_at
  have hAca : ∀ w, w < 4 → ya_X5_countAhead A w = nI (pv w) := fun w hw => by
    have hb := hvw w hw
    have e : ∀ i, i ≠ 6 → A (sy_vw w) i = σ (sy_vw w) i := fun i hi => by
      rw [hA]
      by_cases q : sy_vw w = sy_vw v
      · rw [q, yu_an hi, hCP _ (by omega)]
      · rw [yu_ne q, hCP _ (by omega)]
    rw [← (hpa w hw).1]
    exact ca_c (hbA 16 (by omega)) (hbA 17 (by omega)) (e 2 (by decide)) (e 4 (by decide)) (e 0 (by decide))
  -- what the component comes to
  obtain ⟨st, M, hdel, hst, IM, RM, Mk, Mv, M6, Mca, Mh⟩ : ∃ (st : Int32) (M : sy_Mem), sf_X5_deleteFrom [.ref 0, .int x] A = some (.inl (some (.int st)), M) ∧ st = (if ya_bnd A D x = true then 12 else 0) ∧ yn_I t M ∧ RW M τ9 ∧ (∀ k, k < 10 ∨ 44 ≤ k → M k = A k) ∧ (∀ w, w < 4 → ∀ i, i < 2 → M (sy_vw w) i = A (sy_vw w) i) ∧ M (sy_vw v) 6 = 0 ∧ (∀ w, w < 4 → lsP A D (ya_bnd A D x) pv w 3 0 ≤ pv w ∧ ya_X5_countAhead M w = nI (pv w - lsP A D (ya_bnd A D x) pv w 3 0)) ∧ (ya_bnd A D x = false → ya_here M v = -1) := by
    cases hb : ya_bnd A D x with
    | true =>
      obtain ⟨c1, c2⟩ := CT hb
      rw [hb] at P
      have hx18 : ∀ k, k ≠ 18 → yd A D k = A k := fun k hk => yd_ne hk
      refine ⟨12, yd A D, c1, rfl, c2, ns_RW (fun k hk => hx18 k (by omega)) (tied_RW P), fun k hk => hx18 k (by omega), fun w hw i _ => by rw [hx18 (sy_vw w) (by have := hvw w hw; omega)], by rw [hx18 (sy_vw v) (by omega)]; exact hA6, fun w hw => ⟨Nat.zero_le _, ?_⟩, fun h => by cases h⟩
      have hbw := hvw w hw
      rw [ca_c (hx18 16 (by omega)) (hx18 17 (by omega)) (by rw [hx18 (sy_vw w) (by omega)]) (by rw [hx18 (sy_vw w) (by omega)]) (by rw [hx18 (sy_vw w) (by omega)])]
      exact hAca w hw
    | false =>
      obtain ⟨Xf, c1, c2, c3, c4, c5⟩ := CN hb
      rw [hb] at P
      have ns : ns18 A Xf := fun k hk => c4 k (by omega) (by omega)
      have hX : ∀ k, k < 10 ∨ 18 < k → ya_del Xf D k = Xf k := fun k hk => ya_del_ne (by omega)
      have hMv : ∀ w, w < 4 → ya_del Xf D (sy_vw w) = Xf (sy_vw w) := fun w hw => hX _ (by have := hvw w hw; omega)
      have hdmx : ya_dmd D x = true := by
        have hs := (hall A hHA).1.2.2.1
        rw [hs]
        have hjA := (hall A hHA).1.2.1.2
        refine (dm_is IA (hall A hHA).2 hD hd hjA).mpr ⟨j, Nat.le_refl _, ?_, (yE_is IA hd hjA).1⟩
        unfold trg
        rw [← hs, decide_eq_true rfl]
        rfl
      refine ⟨0, ya_del Xf D, c1, rfl, c2, del_RW IA c3 ns P, fun k hk => (hX k (by omega)).trans (c4 k (by omega) (by omega)), fun w hw i hi => ?_, ?_, fun w hw => ?_, fun _ => ?_⟩
      · rw [hMv w hw]
        have := (c5 w hw).1
        rcases (show i = 0 ∨ i = 1 by omega) with rfl | rfl
        · exact this.1
        · exact this.2
      · rw [hMv v hv]
        rcases (c5 v hv).2.2.2 with e | e
        · rw [e]; exact hA6
        · exact e
      · obtain ⟨a1, a2⟩ := hvn A hHA w hw
        obtain ⟨b1, b2, b3⟩ := hdb w hw
        obtain ⟨a, p1, p2, p3, p4⟩ := del_ahead IA c3 ns hw b2 (a2.trans b3) (c5 w hw)
        have ea : a = pv w := by
          have h1 := hAca w hw
          rw [p1] at h1
          have h2 := congrArg Int32.toInt h1
          have := cn_le IA b2
          have := (hpa w hw).2
          have := cn_le I b2
          rw [nI_toInt (by omega), nI_toInt (by omega)] at h2
          omega
        have el : lsP A D false pv w 3 0 = ya_cw (fun p => ya_dmd D (sg A (vn σ w % 4) p) && decide (p < a)) (cn A (vn σ w % 4)) := by
          unfold lsP cqP dvP
          rw [if_neg (by decide), a1, if_pos (by omega), ea]
        rw [el, ← ea]
        exact ⟨p4, p3⟩
      · have e2 : A (sy_vw v) 2 = x := by
          rw [hA, yu_an (by decide), hCP _ (by omega)]
          exact hmark
        have := ((c5 v hv).2.2.1 (by rw [e2]; exact hdmx)).2.1
        unfold ya_here
        rw [hMv v hv, this]
        rfl
  -- the calls
  have I9 : yn_I t τ9 := by
    obtain ⟨L, hL⟩ := CP_mg hCP
    rw [hL]
    exact yn_I_mg I
  have hlast : ya_X4_lastHeld τ9 v = x := by
    unfold ya_X4_lastHeld
    have e6 : τ9 (sy_vw v) 6 = 1 := by rw [hCP _ (by omega)]; exact h6
    have := (yv_held I9 hv (i := 0) (by rw [e6]; decide)).1
    rw [e6]
    rw [show (1 : Int32) - 1 = nI 0 from rfl, this, hCP _ (by omega)]
    exact hl1
  have hd1 := h_delete (τ := τ9) hv (yn_Wo I9) (by rw [hlast]; exact hxne) (by rw [hlast, ← hA]; exact hdel)
  obtain ⟨FF, hF⟩ : ∃ FF, FF = sy_up M 19 0 0 := ⟨_, rfl⟩
  rw [← hF] at hd1
  have kF : ∀ k, k ≠ 19 → FF k = M k := fun k hk => by
    rw [hF]
    exact yu_ne hk
  have IF : yn_I t FF := by
    rw [hF]
    exact yn_drop IM
  have F6 : FF (sy_vw v) 6 = 0 := by
    rw [kF _ (by omega)]
    exact M6
  have hd2 := h_delete6 (τ := FF) hv (yn_Wo IF) (by
    unfold ya_X4_lastHeld
    rw [F6]
    rfl)
  obtain ⟨F2, hF2⟩ : ∃ F2, F2 = sy_up (sy_up FF (sy_vw v) 6 0) 19 0 0 := ⟨_, rfl⟩
  rw [← hF2] at hd2
  have IF2 : yn_I t F2 := by
    rw [hF2]
    exact yn_drop (yn_release IF hv)
  have kF2 : ∀ k, k ≠ 19 → k ≠ sy_vw v → F2 k = M k := fun k h1 h2 => by
    rw [hF2, yu_ne h1, yu_ne h2]
    exact kF k h1
  have kF2v : ∀ i, i ≠ 6 → F2 (sy_vw v) i = M (sy_vw v) i := fun i hi => by
    rw [hF2, yu_ne (by omega), yu_an hi, kF _ (by omega)]
  have kF2w : ∀ w, w < 4 → ∀ i, i ≠ 6 → F2 (sy_vw w) i = M (sy_vw w) i := fun w hw i hi => by
    by_cases q : sy_vw w = sy_vw v
    · rw [q]; exact kF2v i hi
    · rw [kF2 _ (by have := hvw w hw; omega) q]
  have hsame := t_same (B := M) IF CP_self IM (RW_b (A := M) (B := M) (σ := τ9) (fun _ _ => rfl) (fun k a b => by rw [kF k (by omega), Mk k (by omega), hAk k (by omega)]) RM) (eqR_c (A := FF) (B := M) (fun k hk => (kF k (by omega)).symm))
  have F58 : F2 58 = upd (upd (upd (σ 58) 55 1) 56 1) 57 1 := by
    rw [kF2 58 (by omega) (by omega), Mk 58 (by omega), hAk 58 (by omega), F9 58 (by omega), k858]
  obtain ⟨F3, hF3⟩ : ∃ F3, F3 = sy_drp 55 (sy_drp 56 (sy_drp 57 F2)) := ⟨_, rfl⟩
  have kF3 : ∀ k, k ≠ 58 → F3 k = F2 k := fun k hk => by
    rw [hF3]
    unfold sy_drp
    rw [up_ne hk, up_ne hk, up_ne hk]
  have gF : gd F3 := fun i h1 h2 => by
    rw [hF3]
    unfold sy_drp
    rw [up_at, up_at, up_at, F58]
    by_cases q1 : i = 55
    · rw [if_pos q1]
    · rw [if_neg q1]
      by_cases q2 : i = 56
      · rw [if_pos q2]
      · rw [if_neg q2]
        by_cases q3 : i = 57
        · rw [if_pos q3]
        · rw [if_neg q3, upd_ne q3, upd_ne q2, upd_ne q1]
          exact g0 i h1 h2
  have IF3 : yn_I (t + 8) F3 := by
    obtain ⟨L, hL⟩ := CP_mg (A := F2) (σ := F3) (fun k hk => kF3 k (by omega))
    rw [hL]
    exact yn_I_to (yn_I_mg IF2) (by omega)
  have hlo : ∀ k, (k < 10 ∨ 44 ≤ k) → k ≠ 58 → (k < 45 ∨ 48 < k ∧ k ≠ 55 ∧ k ≠ 57) → (k < 53 ∨ 58 < k) → F3 k = σ k := fun k a b c e => by
    rw [kF3 k b, kF2 k (by omega) (by omega), Mk k a, hAk k a, F9 k c, k8 k e]
  have AFF : AF σ F3 := by
    refine ⟨fun k hk => hlo k (by omega) (by omega) (by omega) (by omega), by rw [hlo 52 (by omega) (by omega) (by omega) (by omega)], fun w hw i hi => ?_, by rw [hlo 52 (by omega) (by omega) (by omega) (by omega)]; exact hg, ?_, gF⟩
    · have := hvw w hw
      rw [kF3 _ (by omega), kF2w w hw i (by omega), Mv w hw i hi, hA]
      by_cases q : sy_vw w = sy_vw v
      · rw [q, yu_an (by omega), hCP _ (by omega)]
      · rw [yu_ne q, hCP _ (by omega)]
    · rw [kF3 19 (by decide), hF2]
      exact yu_at
  have hca2 : ∀ w, w < 4 → ya_X5_countAhead F2 w = nI (pv w - lsP A D (ya_bnd A D x) pv w 3 0) := fun w hw => by
    rw [← (Mca w hw).2]
    exact ca_c (kF2 16 (by omega) (by omega)) (kF2 17 (by omega) (by omega)) (kF2w w hw 2 (by decide)) (kF2w w hw 4 (by decide)) (kF2w w hw 0 (by decide))
  -- the end
  have hend : ∀ kk, LDz (eD v d j ty key (ya_b (ya_bnd A D x)) ++ [.int (ya_b true)]) kk F2 = rOK F3 := fun kk => by
    unfold LDz
    have z1 : ∀ i, F2 58 i = if i = 57 then 1 else if i = 56 then 1 else if i = 55 then 1 else σ 58 i := fun i => by
      rw [F58]
      unfold upd
      rfl
    have g53 := g0 53 (by omega) (by omega)
    have g54 := g0 54 (by omega) (by omega)
    refine es_Q (es_Drp ?_ (es_Q (es_Drp ?_ (es_Q (es_Drp ?_ ?_)))))
    · rw [z1]
      rfl
    · unfold sy_drp sy_top
      rw [up_at, z1]
      simp [up_at, z1]
    · unfold sy_drp sy_top
      rw [up_at, up_at, z1]
      simp [up_at, z1]
    · rw [← hF3]
      refine es_eZb (c := true) (ee_iC (ee_eq (ee_cA (ee_cb (c := true) (ee_L rfl)) (fun _ => ee_cO (y := true) (ee_cb (c := ya_bnd A D x) (ee_L rfl)) (fun hb => ee_eq (ee_cB (c_place CP_self hv (ee_R rfl) (ee_L rfl)) ee_K) ?_))) (by rw [Bool.or_true]; rfl)))
      have hh3 : ya_here F3 v = -1 := by
        have := Mh hb
        unfold ya_here at this ⊢
        rw [kF3 _ (by omega), kF2v 3 (by decide), kF2v 2 (by decide)]
        exact this
      rw [hh3]
      rfl
  have hAHx : SX LDa (eD v d j ty key (ya_b (ya_bnd A D x)) ++ [.int (ya_b true)]) F2 (fun e τ => e = eD v d j ty key (ya_b (ya_bnd A D x)) ++ [.int (ya_b true)] ∧ F2 = τ) := by
    unfold LDa
    refine sx_B (sx_SIQ ee_K ?_)
    refine sx_wh (N := 4) (Inv := fun m e τ => e = eD v d j ty key (ya_b (ya_bnd A D x)) ++ [.int (ya_b true), .int (nI m)] ∧ F2 = τ) (fun m e τ hm hI => ?_) 4 0 5 _ _ (by omega) (by omega) ⟨rfl, rfl⟩
    obtain ⟨rfl, rfl⟩ := hI
    refine ⟨decide (m < 4), ee_eq (ee_cB (ee_L rfl) ee_K) (nI_ltd (q := 4) (by omega) (by omega)), fun hx => ?_, fun hx => ?_⟩
    · have hm4 := of_decide_eq_true hx
      refine ⟨hm4, ?_⟩
      have hT2 : sy_isT 56 F2 = true ∧ sy_isT 57 F2 = true := by
        unfold sy_isT
        rw [F58]
        exact ⟨by rw [upd_ne (by omega), upd_at]; rfl, by rw [upd_at]; rfl⟩
      have v56 : F2 56 m = nI (pv m) := by rw [kF2 56 (by omega) (by omega), Mk 56 (by omega), hAk 56 (by omega)]; exact hp9 m hm4
      have v57 : F2 57 m = nI (lsP A D (ya_bnd A D x) pv m 3 0) := by rw [kF2 57 (by omega) (by omega), Mk 57 (by omega), hAk 57 (by omega)]; exact hls m hm4
      have heq : decide (ya_X5_countAhead F2 m = nI (pv m) - nI (lsP A D (ya_bnd A D x) pv m 3 0)) = true := decide_eq_true (by rw [hca2 m hm4, nsub (Mca m hm4).1])
      refine ⟨_, F2, ⟨rfl, rfl⟩, fun k => es_Q (es_SI (x := ya_b true) (σ1 := F2) (ee_iC (ee_eq (ee_cA (ee_cb (c := true) (ee_L rfl)) (fun _ => ee_cB (c_ahead IF2 CP_self hm4 (ee_R rfl) (ee_L rfl)) (ee_B (ee_eq (ee_T (j := m) (ee_R rfl) (ee_L rfl) hT2.1 (show m < 4 from hm4)) v56) (ee_eq (ee_T (j := m) (ee_R rfl) (ee_L rfl) hT2.2 (show m < 4 from hm4)) v57)))) (by rw [Bool.true_and]; exact heq))) (es_In rfl ?_))⟩
      exact congrArg (fun z => k (eD v d j ty key (ya_b (ya_bnd A D x)) ++ [.int (ya_b true), .int z]) F2) (nadd (a := m) (b := 1))
    · have : m = 4 := by
        have := of_decide_eq_false hx
        omega
      subst this
      exact ⟨rfl, rfl⟩
  have hS17 : ∀ kk, LDs (eD v d j ty key (ya_b (ya_bnd A D x))) kk τ9 = kk (eD v d j ty key (ya_b (ya_bnd A D x)) ++ [.int (ya_b true)]) F2 := fun kk => by
    unfold LDs
    refine es_SI (x := ya_b true) (σ1 := F2) (ee_iC (ee_cAt (ee_cAt (ee_cAt (ee_eq (ee_cB (ee_M (ee_aR (ee_R rfl) (ee_aI (ee_L rfl) ee_aN)) (ee_cr hd1 rfl)) (ee_iQ (ee_cb (c := ya_bnd A D x) (ee_L rfl)) (fun _ => ee_K) (fun _ => ee_K))) (decide_eq_true hst)) (ee_cb (c := true) (ee_M (ee_aR (ee_R rfl) (ee_aR (ee_R rfl) (ee_aR (ee_R rfl) (ee_aR (ee_R rfl) (ee_aR (ee_R rfl) ee_aN))))) (ee_cr hsame rfl)))) (ee_eq (ee_cB (ee_eq (c_holds CP_self hv (ee_R rfl) (ee_L rfl)) F6) ee_K) (decide_eq_true rfl))) (ee_eq (ee_cB (ee_M (ee_aR (ee_R rfl) (ee_aI (ee_L rfl) ee_aN)) (ee_cr hd2 rfl)) ee_K) (decide_eq_true rfl)))) rfl
  obtain ⟨ea, τa, ⟨hea, hτa⟩, ca⟩ := hAHx
  subst hτa
  rw [hea] at ca
  have hbody : ∀ kk, sy_sQ LD1 (sy_sQ LD2 (sy_sQ LDs (sy_sQ LDa LDz))) (eD v d j ty key 0) kk σ8 = rOK F3 := fun kk => by
    refine sQ_a3.trans ((c9 _).trans ?_)
    rw [he9]
    exact es_Q ((hS17 _).trans (es_Q ((ca _).trans (hend kk))))
  have hF358 := fun i h1 h2 => gF i h1 h2
  have hn1 : sy_nor 55 (eD0 v d j ty key) = true := by
    repeat' refine nor_cons ?_ ?_
    all_goals first | rfl | exact nor_45 (by omega) hd
  have hn2 : sy_nor 56 (eD0 v d j ty key ++ [.ref 55]) = true := by
    repeat' refine nor_cons ?_ ?_
    all_goals first | rfl | exact nor_45 (by omega) hd
  have hn3 : sy_nor 57 (eD0 v d j ty key ++ [.ref 55, .ref 56]) = true := by
    repeat' refine nor_cons ?_ ?_
    all_goals first | rfl | exact nor_45 (by omega) hd
  have hz : ∀ kk, 53 ≤ kk → kk ≤ 57 → ((F3 58 kk == 1) || sy_rk kk (some (.int 1))) = false := fun kk h1 h2 => by
    rw [gF kk h1 h2]
    rfl
  have ht6 : sy_top 56 σ5 = true := by
    unfold sy_top
    rw [h5]
    have z2 := g0 56 (by omega) (by omega)
    have z3 := g0 57 (by omega) (by omega)
    simp [new_at, upd, z2, z3]
  have ht7 : sy_top 57 σ7 = true := by
    unfold sy_top
    rw [k758]
    have z3 := g0 57 (by omega) (by omega)
    simp [upd, z3]
  refine ⟨F3, ke_meth ?_ (Nat.le_of_ble_eq_true rfl), IF3, AFF⟩
  rw [del_eq]
  refine es_Q ((del_pre I R hv hd (V v hv) hvd hj (by rw [hh, hx]) _).trans ?_)
  rw [← hx, hty, hkey]
  refine es_New (by rw [gd_top g0, hn1]; rfl) ?_ (hz 55 (by omega) (by omega))
  rw [← h5]
  refine es_New (by rw [ht6]; exact hn2) ?_ (hz 56 (by omega) (by omega))
  rw [← h6']
  refine es_Q ((c7 _).trans ?_)
  rw [he7]
  refine es_New (by rw [ht7]; exact hn3) ?_ (hz 57 (by omega) (by omega))
  rw [← h8]
  exact hbody _
end LA55
