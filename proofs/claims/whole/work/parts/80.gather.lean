/-! what new ones need, gathered -/
section YGa
variable {A τ τ' σ σ1 σ2 : sy_Mem} {t n f : Nat} {ty key : Int32} {env : List Value}
theorem ee_cOt {a b : sy_CE} (ha : a env σ = some (.inl true, σ1)) : sy_cO a b env σ = some (.inl true, σ1) := by
  unfold sy_cO; rw [sy_bnd_at ha]; rfl
theorem ee_cOf {a b : sy_CE} {y : Bool} (ha : a env σ = some (.inl false, σ1)) (hb : b env σ1 = some (.inl y, σ2)) : sy_cO a b env σ = some (.inl y, σ2) := by
  unfold sy_cO; rw [sy_bnd_at ha]; exact hb
theorem ee_cAt {a b : sy_CE} {y : Bool} (ha : a env σ = some (.inl true, σ1)) (hb : b env σ1 = some (.inl y, σ2)) : sy_cA a b env σ = some (.inl y, σ2) := by
  unfold sy_cA; rw [sy_bnd_at ha]; exact hb
theorem nI_subn {i j : Nat} (h : j ≤ i) (hi : i < 10000) : nI i - nI j = nI (i - j) := by
  apply yi_ext
  rw [yl_sub (by rw [nI_toInt (by omega)]; omega) (by rw [nI_toInt (by omega)]; omega) (by rw [nI_toInt (by omega)]; omega) (by rw [nI_toInt (by omega)]; omega), nI_toInt (by omega), nI_toInt (by omega), nI_toInt (by omega)]
  omega
theorem ya_slot_c (h : τ 31 = σ 31) (s f : Int32) : ya_slot τ s f = ya_slot σ s f := by
  unfold ya_slot
  rw [h]
/-- the needed root is the first new one itself -/
def ya_own (A : sy_Mem) (f n : Nat) : Bool := decide (tG A (ya_ag A 20 (-1) (nI (f + n))) = ya_ag A 20 (-1) (nI f)) && decide (ya_slot A (nI n) 2 = ya_slot A 0 0)
def ya_gn (A : sy_Mem) (f : Nat) : Nat → sy_Mem
  | 0 => sy_up (sy_up A 27 0 0) 27 1 0
  | n + 1 => if ya_own A f n = true then ya_gn A f n else ya_nr (ya_gn A f n) (ya_ag A 20 (-1) (nI (f + n))) (ya_slot A (nI n) 2)
def ym_gn (τ A : sy_Mem) (f : Nat) : Nat → sy_Mem
  | 0 => sy_up τ 44 33 0
  | n + 1 => if ya_own A f n = true then ym_gn τ A f n else ym_nr (ym_gn τ A f n) (ya_gn A f n) (ya_ag A 20 (-1) (nI (f + n))) (ya_slot A (nI n) 2)
/-- what holds of every need -/
def yq_x (A : sy_Mem) (P : Int32 → Int32 → Prop) : Prop := ∀ i : Nat, (i : Int) < (A 27 0).toInt → P (A 28 i) (A 29 i)
theorem yq_x_nr {P : Int32 → Int32 → Prop} (h0 : 0 ≤ (A 27 0).toInt ∧ (A 27 0).toInt < 4) (h : yq_x A P) (hp : P (tG A ty) key) : yq_x (ya_nr A ty key) P := by
  unfold ya_nr
  by_cases e0 : ya_nc0 A ty key = true
  · rw [if_pos e0]; exact h
  · rw [if_neg e0]
    by_cases e1 : tC A ty = 0
    · rw [if_pos e1]
      intro i hi
      rw [yu_an (by decide)] at hi
      rw [yu_ne (by decide), yu_ne (by decide)]
      exact h i hi
    · rw [if_neg e1]
      unfold ya_ndd
      cases ya_nf A (tG A ty) key with
      | some i => exact h
      | none =>
        show yq_x (sy_up (sy_up (sy_up A 28 (A 27 0).toNatClampNeg (tG A ty)) 29 (A 27 0).toNatClampNeg key) 27 0 (A 27 0 + 1)) P
        intro i hi
        rw [yu_at, yl_add (by omega) (by omega) (by decide) (by decide), yl_c1] at hi
        have e28 : sy_up (sy_up (sy_up A 28 (A 27 0).toNatClampNeg (tG A ty)) 29 (A 27 0).toNatClampNeg key) 27 0 (A 27 0 + 1) 28 = upd (A 28) (A 27 0).toNatClampNeg (tG A ty) := by rw [yu_ne (by decide), yu_ne (by decide), yu_eq]
        have e29 : sy_up (sy_up (sy_up A 28 (A 27 0).toNatClampNeg (tG A ty)) 29 (A 27 0).toNatClampNeg key) 27 0 (A 27 0 + 1) 29 = upd (A 29) (A 27 0).toNatClampNeg key := by rw [yu_ne (by decide), yu_eq, yu_ne (by decide)]
        rw [e28, e29]
        have hcl : (A 27 0).toNatClampNeg = (A 27 0).toInt.toNat := yi_clampInt _
        by_cases ei : i = (A 27 0).toNatClampNeg
        · rw [ei, upd_at, upd_at]; exact hp
        · rw [upd_ne ei, upd_ne ei]
          exact h i (by omega)
theorem yq_start (I : yn_I t A) (M : yr_M A τ) {P : Int32 → Int32 → Prop} : yn_I t (sy_up (sy_up A 27 0 0) 27 1 0) ∧ yr_M (sy_up (sy_up A 27 0 0) 27 1 0) (sy_up τ 44 33 0) ∧ yq (sy_up (sy_up A 27 0 0) 27 1 0) (sy_up τ 44 33 0) 0 ∧ yq_f A (sy_up (sy_up A 27 0 0) 27 1 0) ∧ yq_g τ (sy_up τ 44 33 0) ∧ yq_x (sy_up (sy_up A 27 0 0) 27 1 0) P ∧ sy_up (sy_up A 27 0 0) 27 1 0 27 1 = 0 := by
  have hf : yq_f A (sy_up (sy_up A 27 0 0) 27 1 0) := fun k hk => by rw [yu_ne (by omega), yu_ne (by omega)]
  have hg : yq_g τ (sy_up τ 44 33 0) := ⟨fun k a b c => yu_ne a, fun i hi => yu_an hi⟩
  have h0 : sy_up (sy_up A 27 0 0) 27 1 0 27 0 = 0 := by rw [yu_an (by decide), yu_at]
  have hz : ∀ i : Nat, ¬ (i : Int) < (sy_up (sy_up A 27 0 0) 27 1 0 27 0).toInt := fun i => by rw [h0, yl_c0]; omega
  refine ⟨yn_I_nd I hf (by rw [h0]; decide) (Or.inl yu_at), yq_g_M (yr_M_nd M hf) hg, ⟨?_, by rw [h0]; decide, fun i hi => absurd hi (hz i), fun i j hi => absurd hi (hz i)⟩, hf, hg, fun i hi => absurd hi (hz i), yu_at⟩
  rw [h0, yu_at]
theorem yq_gn (I : yn_I t A) (M : yr_M A τ) (f : Nat) : ∀ n : Nat, ((f + n : Nat) : Int) ≤ (A 19 0).toInt → yn_I t (ya_gn A f n) ∧ yr_M (ya_gn A f n) (ym_gn τ A f n) ∧ yq (ya_gn A f n) (ym_gn τ A f n) n ∧ yq_f A (ya_gn A f n) ∧ yq_g τ (ym_gn τ A f n) ∧ yq_x (ya_gn A f n) (fun u k => ¬ (u = ya_ag A 20 (-1) (nI f) ∧ k = ya_slot A 0 0)) ∧ (ya_gn A f n 27 1 = 0 ∨ ya_gn A f n 27 1 = 1)
  | 0, _ => by
    obtain ⟨g1, g2, g3, g4, g5, g6, g7⟩ := yq_start I M (P := fun u k => ¬ (u = ya_ag A 20 (-1) (nI f) ∧ k = ya_slot A 0 0))
    exact ⟨g1, g2, g3, g4, g5, g6, Or.inl g7⟩
  | n + 1, h => by
    obtain ⟨g1, g2, g3, g4, g5, g6, g7⟩ := yq_gn I M f n (by omega)
    have h4 := (yg_n19 I)
    by_cases ho : ya_own A f n = true
    · rw [show ya_gn A f (n + 1) = ya_gn A f n from if_pos ho, show ym_gn τ A f (n + 1) = ym_gn τ A f n from if_pos ho]
      obtain ⟨q1, q2, q3, q4⟩ := g3
      exact ⟨g1, g2, ⟨q1, ⟨q2.1, by omega⟩, q3, q4⟩, g4, g5, g6, g7⟩
    · rw [show ya_gn A f (n + 1) = ya_nr (ya_gn A f n) (ya_ag A 20 (-1) (nI (f + n))) (ya_slot A (nI n) 2) from if_neg ho, show ym_gn τ A f (n + 1) = ym_nr (ym_gn τ A f n) (ya_gn A f n) (ya_ag A 20 (-1) (nI (f + n))) (ya_slot A (nI n) 2) from if_neg ho]
      have hty : ya_isT (ya_gn A f n) (ya_ag A 20 (-1) (nI (f + n))) = true := by
        rw [ya_isT_c (g4 1 (by decide))]
        exact yg_arg I (by omega)
      have hk := ya_slot_rng I (nI n) 2
      have hI := yn_I_nr g1 g3 (by omega) hty hk
      refine ⟨hI, yq_g_M (yr_M_nd g2 ya_nr_f) ym_nr_g, yq_nr g1 g3 (by omega) hty hk, yq_f_trans g4 ya_nr_f, yq_g_trans g5 ym_nr_g, yq_x_nr ⟨g3.2.1.1, by have := g3.2.1.2; omega⟩ g6 (fun e => ho ?_), hI.2.2.2.2.2.2.2.2.2.2⟩
      unfold ya_own
      have : tG (ya_gn A f n) (ya_ag A 20 (-1) (nI (f + n))) = tG A (ya_ag A 20 (-1) (nI (f + n))) := ya_tg_c (g4 1 (by decide)) (g4 7 (by decide)) _ _
      rw [this] at e
      rw [decide_eq_true e.1, decide_eq_true e.2]
      rfl
theorem yt_X5_gatherNeedsOfNew (I : yn_I t A) (M : yr_M A τ) (hf : (f : Int) ≤ (A 19 0).toInt) : sf_X5_gatherNeedsOfNew [.ref 0, .int (nI f)] A = some (.inl none, ya_gn A f ((A 19 0).toNatClampNeg - f)) := by
  have h4 := yg_n19 I
  refine ee_meth ?_ rfl
  unfold sm_X5_gatherNeedsOfNew
  refine es_Q (es_Q (es_C (σ2 := ya_gn A f 0) (ee_aR (ee_rF (ee_R rfl) rfl) ee_aN) rfl (es_B (es_Q (es_SI (ee_L rfl) ?_)))))
  refine es_loop (E := fun n => [.ref 0, .int (nI f), .int (nI (f + n))]) (S := fun n => ya_gn A f n) ((A 19 0).toNatClampNeg - f) 0 1000 (by omega) (fun n _ h2 => ?_) ?_ (fun n _ h2 k' => ?_) ?_
  · have g := yq_gn I M f n (by omega)
    refine (es_cB (B := A 19 0) rfl ((ee_M (ee_aR (ee_rF (ee_R rfl) rfl) ee_aN) (ee_cv (yt_X0_size _) rfl)).trans (by rw [g.2.2.2.1 19 (by decide)])) (by omega)).trans (by rw [decide_eq_true (by omega)])
  · have g := yq_gn I M f (0 + ((A 19 0).toNatClampNeg - f)) (by omega)
    refine (es_cB (B := A 19 0) rfl ((ee_M (ee_aR (ee_rF (ee_R rfl) rfl) ee_aN) (ee_cv (yt_X0_size _) rfl)).trans (by rw [g.2.2.2.1 19 (by decide)])) (by omega)).trans (by rw [decide_eq_false (by omega)])
  · obtain ⟨g1, g2, g3, g4, g5, g6, g7⟩ := yq_gn I M f n (by omega)
    have W := yn_Wo g1
    have eu : ∀ j : Nat, ya_ag (ya_gn A f n) 20 (-1) (nI j) = ya_ag A 20 (-1) (nI j) := fun j => ya_ag_c (g4 19 (by decide)) (g4 20 (by decide)) _ _
    have es : ∀ a b : Int32, ya_slot (ya_gn A f n) a b = ya_slot A a b := fun a b => ya_slot_c (g4 31 (by decide)) a b
    have eG : ∀ u : Int32, ya_tg (ya_gn A f n) 7 (-1) u = tG A u := fun u => ya_tg_c (g4 1 (by decide)) (g4 7 (by decide)) _ _
    have hsub : nI (f + n) - nI f = nI n := by rw [nI_subn (by omega) (by omega), Nat.add_sub_cancel_left]
    refine es_Q (es_B (es_Q (es_SI (σ1 := ya_gn A f n) (x := ya_ag A 20 (-1) (nI (f + n))) ((ee_M (ee_aR (ee_rF (ee_R rfl) rfl) (ee_aI (ee_L rfl) ee_aN)) (ee_cv (yt_X0_typeOf _ _) rfl)).trans (by rw [eu])) (es_Q (es_SI (σ1 := ya_gn A f n) (x := ya_slot A (nI n) 2) ((ee_M (ee_aR (ee_R rfl) (ee_aI (ee_B (ee_L rfl) (ee_L rfl)) (ee_aI ee_K ee_aN))) (ee_cv (yt_X5_slotNumber _ _ _) rfl)).trans (by rw [es, hsub])) (es_Q (es_SI (σ1 := ya_gn A f n) (x := ya_b (ya_own A f n)) ((ee_iC (ee_cA (ee_cB (ee_M (ee_aR (ee_rF (ee_R rfl) rfl) (ee_aI (ee_L rfl) ee_aN)) (ee_cv (yt_X2_targetOf W _) rfl)) (ee_M (ee_aR (ee_rF (ee_R rfl) rfl) (ee_aI (ee_L rfl) ee_aN)) (ee_cv (yt_X0_typeOf _ _) rfl))) (fun _ => ee_cB (ee_L rfl) (ee_M (ee_aR (ee_R rfl) (ee_aI ee_K (ee_aI ee_K ee_aN))) (ee_cv (yt_X5_slotNumber _ _ _) rfl))))).trans (by rw [eG, eu, es]; rfl)) ?_)))))))
    by_cases ho : ya_own A f n = true
    · rw [show ya_gn A f (n + 1) = ya_gn A f n from if_pos ho]
      exact es_If ((ee_cN (ee_cb (ee_L rfl))).trans (by rw [ho]; rfl)) (es_N (es_In1 rfl rfl))
    · rw [show ya_gn A f (n + 1) = ya_nr (ya_gn A f n) (ya_ag A 20 (-1) (nI (f + n))) (ya_slot A (nI n) 2) from if_neg ho]
      exact es_It ((ee_cN (ee_cb (ee_L rfl))).trans (by rw [show ya_own A f n = false by simpa using ho]; rfl)) (es_C (ee_aR (ee_R rfl) (ee_aI (ee_L rfl) (ee_aI (ee_L rfl) ee_aN))) (ee_cv (yt_X5_needRoot W g3.2.1.1 (by have := g3.2.1.2; omega) _ _) rfl) (es_In1 rfl rfl))
  · rw [Nat.zero_add]
    rfl
theorem ym_needsAll (I : yn_I t A) (M : yr_M A τ) (hf : (f : Int) < (A 19 0).toInt) : sf_X6_needsAll [.ref 44, .int (nI f)] τ = some (.inl (some (.int (ya_b (decide (ya_gn A f ((A 19 0).toNatClampNeg - f) 27 1 = 0))))), ym_gn τ A f ((A 19 0).toNatClampNeg - f)) := by
  have h4 := yg_n19 I
  refine ee_meth ?_ rfl
  unfold sm_X6_needsAll
  have e01 : ya_gn A f 0 27 1 = 0 := yu_at
  refine es_Q (es_P (ee_R rfl) ee_K rfl (es_Q (es_SI (x := ya_b (decide (ya_gn A f 0 27 1 = 0))) (σ1 := ym_gn τ A f 0) (by rw [e01]; rfl) (es_Q (es_B (es_Q (es_SI (ee_L rfl) ?_)))))))
  refine es_loop (E := fun n => [.ref 44, .int (nI f), .int (ya_b (decide (ya_gn A f n 27 1 = 0))), .int (nI (f + n))]) (S := fun n => ym_gn τ A f n) ((A 19 0).toNatClampNeg - f) 0 1000 (by omega) (fun n _ h2 => ?_) ?_ (fun n _ h2 k' => ?_) ?_
  · have g := yq_gn I M f n (by omega)
    refine (es_cB (B := A 19 0) rfl ((em_F24 g.2.1 (ee_R rfl)).trans (by rw [g.2.2.2.1 19 (by decide)])) (by omega)).trans (by rw [decide_eq_true (by omega)])
  · have g := yq_gn I M f (0 + ((A 19 0).toNatClampNeg - f)) (by omega)
    refine (es_cB (B := A 19 0) rfl ((em_F24 g.2.1 (ee_R rfl)).trans (by rw [g.2.2.2.1 19 (by decide)])) (by omega)).trans (by rw [decide_eq_false (by omega)])
  · obtain ⟨g1, g2, g3, g4, g5, g6, g7⟩ := yq_gn I M f n (by omega)
    have eu : ∀ j : Nat, ya_ag (ya_gn A f n) 20 (-1) (nI j) = ya_ag A 20 (-1) (nI j) := fun j => ya_ag_c (g4 19 (by decide)) (g4 20 (by decide)) _ _
    have es : ∀ a b : Int32, ya_slot (ya_gn A f n) a b = ya_slot A a b := fun a b => ya_slot_c (g4 31 (by decide)) a b
    have eG : ∀ u : Int32, ya_tg (ya_gn A f n) 7 (-1) u = tG A u := fun u => ya_tg_c (g4 1 (by decide)) (g4 7 (by decide)) _ _
    have hsub : nI (f + n) - nI f = nI n := by rw [nI_subn (by omega) (by omega), Nat.add_sub_cancel_left]
    have e19 : (ya_gn A f n) 19 0 = A 19 0 := by rw [g4 19 (by decide)]
    have hwi : ∀ {env : List Value} {e : sy_IE} {j : Nat}, env[0]? = some (.ref 44) → e env (ym_gn τ A f n) = some (.inl (nI j), ym_gn τ A f n) → (j : Int) < (A 19 0).toInt → sy_iA 0 (sy_rF 6 25 (sy_rL 0)) e env (ym_gn τ A f n) = some (.inl (ya_ag A 20 (-1) (nI j)), ym_gn τ A f n) := fun h0 he hj => (em_67 g2 g1 (ee_rF (ee_R h0) rfl) he (by rw [e19]; exact hj)).trans (by rw [eu])
    have hty : ya_isT (ya_gn A f n) (ya_ag A 20 (-1) (nI (f + n))) = true := by
      rw [ya_isT_c (g4 1 (by decide))]
      exact yg_arg I (by omega)
    have hs : ∀ {env : List Value}, env[0]? = some (.ref 44) → env[1]? = some (.int (nI f)) → env[3]? = some (.int (nI (f + n))) → sy_iA 0 (sy_rF 6 32 (sy_rL 0)) (sy_iAdd (sy_iMul (sy_iK 3) (sy_iSub (sy_iL 3) (sy_iL 1))) (sy_iK 2)) env (ym_gn τ A f n) = some (.inl (ya_slot A (nI n) 2), ym_gn τ A f n) := fun h0 h1' h3 => (em_74 (x := nI n) g2 (ee_rF (ee_R h0) rfl) ((ee_B (ee_L h3) (ee_L h1')).trans (by rw [hsub])) ee_K (by rw [nI_toInt (by omega)]; omega) (by decide)).trans (by rw [es])
    have hs0 : ∀ {env : List Value}, env[0]? = some (.ref 44) → sy_iA 0 (sy_rF 6 32 (sy_rL 0)) (sy_iK 0) env (ym_gn τ A f n) = some (.inl (ya_slot A 0 0), ym_gn τ A f n) := fun h0 => (ee_A (kd := 0) (a := 74) (x := 0) (ee_rF (ee_R h0) rfl) ee_K rfl).trans (by
      rw [g2.2.2.2.2.2.2.2.2.2.2.2, g4 31 (by decide)]
      rfl)
    refine es_Q (es_B (es_Q (es_SI (σ1 := ym_gn τ A f n) (x := tG A (ya_ag A 20 (-1) (nI (f + n)))) ((em_50 g2 g1 (ee_rF (ee_R rfl) rfl) (hwi rfl (ee_L rfl) (by omega)) hty).trans (by rw [eG])) (es_Q (es_SI (σ1 := ym_gn τ A f n) (x := ya_b (ya_own A f n)) ?_ ?_)))))
    · refine (ee_iC (x := ya_own A f n) ?_)
      refine (ee_cA (x := decide (tG A (ya_ag A 20 (-1) (nI (f + n))) = ya_ag A 20 (-1) (nI f))) (y := decide (ya_slot A (nI n) 2 = ya_slot A 0 0)) ?_ (fun _ => (ee_cB (hs0 rfl) (hs rfl rfl rfl)).trans (by rw [show decide (ya_slot A 0 0 = ya_slot A (nI n) 2) = decide (ya_slot A (nI n) 2 = ya_slot A 0 0) from decide_eq_decide.mpr eq_comm])))
      refine (ee_cA (ee_cB (ee_L rfl) ee_K) (fun _ => ee_cB (ee_L rfl) (hwi rfl (ee_L rfl) (by omega)))).trans ?_
      have hne : ya_ag A 20 (-1) (nI f) ≠ -1 := ya_isT_ne (yg_arg I hf)
      by_cases e : tG A (ya_ag A 20 (-1) (nI (f + n))) = ya_ag A 20 (-1) (nI f)
      · rw [e, decide_eq_false hne, decide_eq_true rfl]
        rfl
      · rw [decide_eq_false e, Bool.and_false]
    · refine (es_SI (x := ya_b (decide (ya_gn A f (n + 1) 27 1 = 0))) (σ1 := ym_gn τ A f (n + 1)) ?_ (es_In1 rfl rfl))
      by_cases ho : ya_own A f n = true
      · rw [show ya_gn A f (n + 1) = ya_gn A f n from if_pos ho, show ym_gn τ A f (n + 1) = ym_gn τ A f n from if_pos ho]
        exact ee_iC (ee_cAt (ee_cOt ((ee_cb (ee_L rfl)).trans (by rw [ho]))) (ee_cb (ee_L rfl)))
      · rw [show ya_gn A f (n + 1) = ya_nr (ya_gn A f n) (ya_ag A 20 (-1) (nI (f + n))) (ya_slot A (nI n) 2) from if_neg ho, show ym_gn τ A f (n + 1) = ym_nr (ym_gn τ A f n) (ya_gn A f n) (ya_ag A 20 (-1) (nI (f + n))) (ya_slot A (nI n) 2) from if_neg ho, yq_27 g3.2.1.1]
        refine (ee_iC (ee_cA (ee_cOf ((ee_cb (ee_L rfl)).trans (by rw [show ya_own A f n = false by simpa using ho])) (ee_cb (ee_M (ee_aR (ee_R rfl) (ee_aI (hwi rfl (ee_L rfl) (by omega)) (ee_aI (hs rfl rfl rfl) ee_aN))) (ee_cv (ym_needs g2 g1 g3 (by omega) hty _) rfl)))) (fun _ => ee_cb (ee_L rfl)))).trans ?_
        cases (ya_nc0 (ya_gn A f n) (ya_ag A 20 (-1) (nI (f + n))) (ya_slot A (nI n) 2) || !decide (tC (ya_gn A f n) (ya_ag A 20 (-1) (nI (f + n))) = 0))
        · rfl
        · rfl
  · rw [Nat.zero_add]
    show sy_eZ _ _ _ _ = _
    exact es_eZb (ee_L rfl)
end YGa
