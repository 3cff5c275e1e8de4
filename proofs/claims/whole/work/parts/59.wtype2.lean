section YW8
variable {σ τ A : sy_Mem} {t : Nat}
/-- the tests of type: there is such a one; it is in range; it may be now -/
def ya_ty1 (σ : sy_Mem) (d p : Int32) : Bool := (decide (0 ≤ d) && decide (d < 3)) && (decide (p = -1) || ya_isT σ p)
def ya_ty2 (σ : sy_Mem) (d p k r : Int32) : Bool := ((decide (p = -1) || decide (tD σ p = d)) && ((decide (0 ≤ k) && decide (k < 3)) && (decide (0 ≤ r) && decide (r < 3)))) && (!decide (p = -1) || decide (k = 0))
def ya_ty3 (σ : sy_Mem) (d p : Int32) : Bool := (decide (ya_cnt σ d = 0) && (!decide (p = -1) || !ya_X2_hasRootType σ d)) && (decide (ya_X2_levelBelow σ p ≤ 4) && decide (σ 1 0 < 12))
theorem yg_nT (I : yn_I t σ) : (σ 1 0).toInt = ((σ 1 0).toNatClampNeg : Int) ∧ (σ 1 0).toNatClampNeg ≤ 12 ∧ σ 1 0 = nI (σ 1 0).toNatClampNeg := by
  have := I.1.1
  refine ⟨by rw [yi_clampInt]; omega, by rw [yi_clampInt]; omega, yi_nat (yi_pos.mpr this.1)⟩
theorem yb_ty (c1 c2 c3 c4 c5 c6 c7 : Bool) (r r1 r2 r3 : Option (((Option Value) ⊕ Nat) × sy_Mem)) : (if c1 then (if c2 then (if c3 then (if c4 then (if c5 then (if c6 then (if c7 then r else r3) else r3) else r3) else r2) else r2) else r2) else r1) = if c1 then (if ((c2 && c3) && c4) then (if ((c5 && c6) && c7) then r else r3) else r2) else r1 := by
  cases c1 <;> cases c2 <;> cases c3 <;> cases c4 <;> cases c5 <;> cases c6 <;> cases c7 <;> rfl
theorem yt_X5_type (I : yn_I t σ) (d p k r : Int32) : sf_X5_type [.ref 0, .int d, .int p, .int k, .int r] σ = if ya_ty1 σ d p then (if ya_ty2 σ d p k r then (if ya_ty3 σ d p then some (.inl (some (.int (σ 1 0))), ya_define σ (σ 1 0).toNatClampNeg d p k r) else some (.inr 3, σ)) else some (.inr 2, σ)) else some (.inr 1, σ) := by
  have W := yn_Wo I
  have hnT := yg_nT I
  refine ee_meth ?_ rfl
  unfold sm_X5_type ya_ty1 ya_ty2 ya_ty3
  rw [← yb_ty]
  refine es_Q (es_need (ee_aI (ee_iC (ee_cA (ee_cb (ee_M (ee_aI (ee_L rfl) (ee_aI ee_K ee_aN)) (ee_cs (yt_X5_isIn σ d 3) rfl))) (fun _ => ee_cO (ee_cB (ee_L rfl) ee_K) (fun _ => ee_cb (ee_M (ee_aR (ee_rF (ee_R rfl) rfl) (ee_aI (ee_L rfl) ee_aN)) (ee_cv (yt_X2_isType σ p) rfl)))))) ee_aN) (ee_cs (yt_X5_needIndex σ _) rfl) (fun _ => ?_))
  refine es_Q (es_need (ee_aI (ee_iC (ee_cO (ee_cB (ee_L rfl) ee_K) (fun _ => ee_cB (ee_M (ee_aR (ee_rF (ee_R rfl) rfl) (ee_aI (ee_L rfl) ee_aN)) (ee_cv (yt_X2_databaseOf W p) rfl)) (ee_L rfl)))) ee_aN) (ee_cs (yt_X5_needRange σ _) rfl) (fun _ => ?_))
  refine es_Q (es_need (ee_aI (ee_iC (ee_cA (ee_cb (ee_M (ee_aI (ee_L rfl) (ee_aI ee_K ee_aN)) (ee_cs (yt_X5_isIn σ k 3) rfl))) (fun _ => ee_cb (ee_M (ee_aI (ee_L rfl) (ee_aI ee_K ee_aN)) (ee_cs (yt_X5_isIn σ r 3) rfl))))) ee_aN) (ee_cs (yt_X5_needRange σ _) rfl) (fun _ => ?_))
  refine es_Q (es_need (ee_aI (ee_iC (ee_cO (ee_cB (ee_L rfl) ee_K) (fun _ => ee_cB (ee_L rfl) ee_K))) ee_aN) (ee_cs (yt_X5_needRange σ _) rfl) (fun _ => ?_))
  refine es_Q (es_need (ee_aI (ee_iC (ee_cB (ee_M (ee_aR (ee_rF (ee_R rfl) rfl) (ee_aI (ee_L rfl) ee_aN)) (ee_cv (yt_X3_countOf σ d) rfl)) ee_K)) ee_aN) (ee_cs (yt_X5_needState σ _) rfl) (fun _ => ?_))
  refine es_Q (es_need (ee_aI (ee_iC (ee_cO (ee_cB (ee_L rfl) ee_K) (fun _ => ee_cN (ee_cb (ee_M (ee_aR (ee_rF (ee_R rfl) rfl) (ee_aI (ee_L rfl) ee_aN)) (ee_cv (yt_X2_hasRootType W d) rfl)))))) ee_aN) (ee_cs (yt_X5_needState σ _) rfl) (fun _ => ?_))
  refine es_Q (es_need (x := decide (ya_X2_levelBelow σ p ≤ 4) && decide (σ 1 0 < 12)) (ee_aI (ee_iC (ee_cA (ee_cB (ee_M (ee_aR (ee_rF (ee_R rfl) rfl) (ee_aI (ee_L rfl) ee_aN)) (ee_cv (yt_X2_levelBelow W p) rfl)) ee_K) (fun _ => ee_cB (ee_M (ee_aR (ee_rF (ee_R rfl) rfl) ee_aN) (ee_cv (yt_X2_size σ) rfl)) ee_K))) ee_aN) (ee_cs (yt_X5_needState σ _) rfl) (fun h => ?_))
  rw [Bool.and_eq_true, yl_lt, yl_c12] at h
  have hd := yt_X2_define W d p k r hnT.2.2 (by omega)
  rw [← hnT.2.2] at hd
  exact es_eI (ee_M (ee_aR (ee_rF (ee_R rfl) rfl) (ee_aI (ee_L rfl) (ee_aI (ee_L rfl) (ee_aI (ee_L rfl) (ee_aI (ee_L rfl) ee_aN))))) (ee_cv hd rfl))
def ym_define (τ : sy_Mem) (n : Nat) (d p k r lv : Int32) : sy_Mem := sy_up (sy_up (sy_up (sy_up (sy_up (sy_up (sy_up τ 45 n d) 46 n p) 47 n k) 48 n r) 49 n lv) 50 n (-1)) 44 0 (nI (n + 1))
theorem yg_tym {p : Int32} (h : p = -1) : tV σ p = 0 := by
  rw [h]
  show ya_tg σ 4 0 (-1) = 0
  unfold ya_tg
  rw [ya_isT_m]
  rfl
theorem yw_ok_type (H : yw_R t σ) (d p k r : Int32) : yw_OK t σ 3 sf_X5_type sf_X6_type [.int d, .int p, .int k, .int r] := by
  have I := H.1
  obtain ⟨hn1, hn2, hn3⟩ := yg_nT I
  have hlev : ya_isT σ p = true → decide (ya_X2_levelBelow σ p ≤ 4) = decide (tV σ p < 4) := fun h => by
    have h4 := (I.1.2.1 p h).2.2.2.2.2.1
    unfold ya_X2_levelBelow
    rw [decide_eq_decide, Int32.le_iff_toInt_le, Int32.lt_iff_toInt_lt, yl_add (by show -1000000000 ≤ (tV σ p).toInt; omega) (by show (tV σ p).toInt ≤ 1000000000; omega) (by decide) (by decide), yl_c1, yl_c4]
    show (tV σ p).toInt + 1 ≤ 4 ↔ _
    omega
  refine yw_writer H (nc := 3) ⟨by decide, fun _ _ => by decide, fun _ _ _ => by decide⟩ (yt_X5_type I d p k r) (fun h1 h2 h3 => ?_) (fun τ M => ?_)
  · unfold ya_ty1 at h1
    unfold ya_ty2 at h2
    unfold ya_ty3 at h3
    simp only [Bool.and_eq_true] at h1 h2 h3
    have hd := yl_isD.mp (by rw [Bool.and_eq_true]; exact h1.1)
    have hk := yl_isD.mp (by rw [Bool.and_eq_true]; exact h2.1.2.1)
    have hr := yl_isD.mp (by rw [Bool.and_eq_true]; exact h2.1.2.2)
    have h12 := h3.2.2
    rw [yl_lt, yl_c12] at h12
    refine ⟨yn_I_up (yn_define I hn3 (by omega) hd (by omega) (by omega) ?_), fun j h1 _ => ya_define_ne (by omega)⟩
    by_cases e : p = -1
    · left
      rw [decide_eq_true e] at h2 h3
      refine ⟨e, of_decide_eq_true (by simpa using h2.2), by simpa using h3.1.2⟩
    · right
      rw [decide_eq_false e] at h1 h2 h3
      have hT : ya_isT σ p = true := by simpa using h1.2
      refine ⟨hT, of_decide_eq_true (by simpa using h2.1.1), ?_⟩
      have := h3.2.1
      rw [hlev hT, yl_lt, yl_c4] at this
      exact this
  · -- the model
    have hc1 : sy_iC (sy_cA (sy_cI (sy_iM (sy_cs 1 sf_X6_isDatabase) (sy_aI (sy_iL 1) sy_aN))) (sy_cO (sy_ceq (sy_iL 2) (sy_iK (-1))) (sy_cI (sy_iM (sy_cv 6 1 sf_X6_isType) (sy_aR (sy_rL 0) (sy_aI (sy_iL 2) sy_aN)))))) [.ref 44, .int d, .int p, .int k, .int r] τ = some (.inl (ya_b (ya_ty1 σ d p)), τ) :=
      ee_iC (ee_cA (ee_cb (ee_M (ee_aI (ee_L rfl) ee_aN) (ee_cs (ym_isDatabase τ d) rfl))) (fun _ => ee_cO (ee_cB (ee_L rfl) ee_K) (fun _ => ee_cb (ee_M (ee_aR (ee_R rfl) (ee_aI (ee_L rfl) ee_aN)) (ee_cv (ym_isType M I p) rfl)))))
    have hT : ya_ty1 σ d p = true → p ≠ -1 → ya_isT σ p = true := fun h e => by
      unfold ya_ty1 at h
      rw [decide_eq_false e, Bool.and_eq_true] at h
      simpa using h.2
    have hD : ya_ty1 σ d p = true → 0 ≤ d.toInt ∧ d.toInt < 3 := fun h => by
      unfold ya_ty1 at h
      rw [Bool.and_eq_true] at h
      exact yl_isD.mp h.1
    have hc2 : sy_iC (sy_cA (sy_cA (sy_cA (sy_cI (sy_iL 5)) (sy_cQ (sy_ceq (sy_iL 2) (sy_iK (-1))) (sy_ceq (sy_iL 3) (sy_iK 0)) (sy_ceq (sy_iA 0 (sy_rF 6 1 (sy_rL 0)) (sy_iL 2)) (sy_iL 1)))) (sy_cI (sy_iM (sy_cs 3 sf_X6_in) (sy_aI (sy_iL 3) (sy_aI (sy_iK 0) (sy_aI (sy_iK 2) sy_aN)))))) (sy_cI (sy_iM (sy_cs 3 sf_X6_in) (sy_aI (sy_iL 4) (sy_aI (sy_iK 0) (sy_aI (sy_iK 2) sy_aN)))))) [.ref 44, .int d, .int p, .int k, .int r, .int (ya_b (ya_ty1 σ d p))] τ = some (.inl (ya_b (ya_ty1 σ d p && ya_ty2 σ d p k r)), τ) := by
      refine (ee_iC (ee_cA (ee_cA (ee_cA (ee_cb (ee_L rfl)) (fun h => ee_cQ (ee_cB (ee_L rfl) ee_K) (fun _ => ee_cB (ee_L rfl) ee_K) (fun h0 => ee_cB (em_45 M I (ee_rF (ee_R rfl) rfl) (ee_L rfl) (hT h (of_decide_eq_false h0))) (ee_L rfl)))) (fun _ => ee_cb (ee_M (ee_aI (ee_L rfl) (ee_aI ee_K (ee_aI ee_K ee_aN))) (ee_cs (ym_in τ k 0 2) rfl)))) (fun _ => ee_cb (ee_M (ee_aI (ee_L rfl) (ee_aI ee_K (ee_aI ee_K ee_aN))) (ee_cs (ym_in τ r 0 2) rfl))))).trans ?_
      rw [yl_le1 (x := k) (n := 2) (m := 3) rfl, yl_le1 (x := r) (n := 2) (m := 3) rfl]
      unfold ya_ty2
      show some (Sum.inl (ya_b _), τ) = some (Sum.inl (ya_b (ya_ty1 σ d p && (((decide (p = -1) || decide (ya_tg σ 2 (-1) p = d)) && ((decide (0 ≤ k) && decide (k < 3)) && (decide (0 ≤ r) && decide (r < 3)))) && (!decide (p = -1) || decide (k = 0))))), τ)
      cases ya_ty1 σ d p <;> cases decide (p = -1) <;> cases decide (k = 0) <;> cases decide (ya_tg σ 2 (-1) p = d) <;> cases (decide (0 ≤ k) && decide (k < 3)) <;> cases (decide (0 ≤ r) && decide (r < 3)) <;> rfl
    have hc3 : sy_iC (sy_cA (sy_cA (sy_cA (sy_cI (sy_iL 6)) (sy_ceq (sy_iA 0 (sy_rF 6 13 (sy_rL 0)) (sy_iL 1)) (sy_iK 0))) (sy_clt (sy_iF 6 0 (sy_rL 0)) (sy_iK 12))) (sy_cQ (sy_ceq (sy_iL 2) (sy_iK (-1))) (sy_cN (sy_cI (sy_iM (sy_cv 6 1 sf_X6_hasRoot) (sy_aR (sy_rL 0) (sy_aI (sy_iL 1) sy_aN))))) (sy_clt (sy_iA 0 (sy_rF 6 5 (sy_rL 0)) (sy_iL 2)) (sy_iK 4)))) [.ref 44, .int d, .int p, .int k, .int r, .int (ya_b (ya_ty1 σ d p)), .int (ya_b (ya_ty1 σ d p && ya_ty2 σ d p k r))] τ = some (.inl (ya_b ((ya_ty1 σ d p && ya_ty2 σ d p k r) && ya_ty3 σ d p)), τ) := by
      refine (ee_iC (ee_cA (ee_cA (ee_cA (ee_cb (ee_L rfl)) (fun h => ee_cB (em_57 M (ee_rF (ee_R rfl) rfl) (ee_L rfl) (hD (by rw [Bool.and_eq_true] at h; exact h.1))) ee_K)) (fun _ => ee_cB (em_F0 M (ee_R rfl)) ee_K)) (fun h => ee_cQ (ee_cB (ee_L rfl) ee_K) (fun _ => ee_cN (ee_cb (ee_M (ee_aR (ee_R rfl) (ee_aI (ee_L rfl) ee_aN)) (ee_cv (ym_hasRoot M I d) rfl)))) (fun h0 => ee_cB (em_49 M I (ee_rF (ee_R rfl) rfl) (ee_L rfl) (hT (by rw [Bool.and_eq_true, Bool.and_eq_true, Bool.and_eq_true] at h; exact h.1.1.1) (of_decide_eq_false h0))) ee_K)))).trans ?_
      unfold ya_ty3
      cases hq : ya_ty1 σ d p with
      | false => rfl
      | true =>
        by_cases e : p = -1
        · have e1 : decide (ya_X2_levelBelow σ p ≤ 4) = true := by
            unfold ya_X2_levelBelow
            rw [show ya_tg σ 4 0 p = 0 from yg_tym e]
            rfl
          rw [decide_eq_true e, e1]
          cases ya_ty2 σ d p k r <;> cases decide (ya_cnt σ d = 0) <;> cases decide (σ 1 0 < 12) <;> cases ya_X2_hasRootType σ d <;> rfl
        · rw [decide_eq_false e, hlev (hT hq e)]
          show some (Sum.inl (ya_b ((((true && ya_ty2 σ d p k r) && decide (ya_cnt σ d = 0)) && decide (σ 1 0 < 12)) && (if false = true then !ya_X2_hasRootType σ d else decide (tV σ p < 4)))), τ) = _
          cases ya_ty2 σ d p k r <;> cases decide (ya_cnt σ d = 0) <;> cases decide (σ 1 0 < 12) <;> cases ya_X2_hasRootType σ d <;> cases decide (tV σ p < 4) <;> rfl
    have hthr : ∀ a b c : Bool, ya_thr a (a && b) ((a && b) && c) = ya_thr a b c ∧ ((a && (a && b)) && ((a && b) && c)) = ((a && b) && c) := fun a b c => by cases a <;> cases b <;> cases c <;> exact ⟨rfl, rfl⟩
    have hgo := fun kk => es_goes (k := kk) (τ := τ) (env := [.ref 44, .int d, .int p, .int k, .int r, .int (ya_b (ya_ty1 σ d p)), .int (ya_b (ya_ty1 σ d p && ya_ty2 σ d p k r)), .int (ya_b ((ya_ty1 σ d p && ya_ty2 σ d p k r) && ya_ty3 σ d p))]) (as := (sy_aR (sy_rL 0) (sy_aI (sy_iL 5) (sy_aI (sy_iL 6) (sy_aI (sy_iL 7) sy_aN))))) (ee_aR (ee_R rfl) (ee_aI (ee_L rfl) (ee_aI (ee_L rfl) (ee_aI (ee_L rfl) ee_aN))))
    refine ⟨fun h1 h2 h3 => ?_, fun h => ⟨0, ?_⟩⟩
    · have M' := yr_M_44 M (i := 36) (x := 0) ⟨by decide, by decide⟩
      have h12 : (σ 1 0).toNatClampNeg < 12 := by
        have := h3
        unfold ya_ty3 at this
        simp only [Bool.and_eq_true] at this
        have h12 := this.2.2
        rw [yl_lt, yl_c12] at h12
        omega
      generalize hN : (σ 1 0).toNatClampNeg = n at *
      have hi := yi_inbN (n := 12) h12 (show n < 2 ^ 31 by omega)
      have hc := nI_clamp (show n < 2 ^ 31 by omega)
      have hj : ∀ k', k' ≠ 44 → k' < 45 ∨ 50 < k' → ym_define (sy_up τ 44 36 0) n d p k r (ya_X2_levelBelow σ p) k' = sy_up τ 44 36 0 k' := fun k' h1 h2 => by
        unfold ym_define
        rw [yu_ne h1, yu_ne (by omega), yu_ne (by omega), yu_ne (by omega), yu_ne (by omega), yu_ne (by omega), yu_ne (by omega)]
      have hj44 : ∀ i, i ≠ 0 → ym_define (sy_up τ 44 36 0) n d p k r (ya_X2_levelBelow σ p) 44 i = sy_up τ 44 36 0 44 i := fun i h1 => by
        unfold ym_define
        rw [yu_an h1, yu_ne (by decide), yu_ne (by decide), yu_ne (by decide), yu_ne (by decide), yu_ne (by decide), yu_ne (by decide)]
      refine ⟨ym_define (sy_up τ 44 36 0) n d p k r (ya_X2_levelBelow σ p), ?_, ?_, fun k' hk' => by rw [hj k' (by omega) (by omega), yu_ne (by omega)], by rw [hj44 36 (by decide), yu_at]⟩
      · refine ee_meth ?_ rfl
        unfold sm_X6_type ym_define
        refine es_Q (es_SI hc1 (es_Q (es_SI hc2 (es_Q (es_SI hc3 (es_Q ((hgo _).trans ?_)))))))
        rw [(hthr _ _ _).2, h1, h2, h3, if_pos (show ((true && true) && true) = true from rfl)]
        have hF : ∀ {ρ : sy_Mem} {env : List Value}, ρ 44 0 = σ 1 0 → env[0]? = some (.ref 44) → sy_iF 6 0 (sy_rL 0) env ρ = some (.inl (nI n), ρ) := fun {ρ env} h h0 => by rw [ee_F (ee_R h0) rfl, h, hn3]
        have q0 : sy_up τ 44 36 0 44 0 = σ 1 0 := M'.1.1
        have hlv : ∀ {ρ : sy_Mem}, ρ 49 = σ 4 → sy_iQ (sy_ceq (sy_iL 2) (sy_iK (-1))) (sy_iK 1) (sy_iAdd (sy_iA 0 (sy_rF 6 5 (sy_rL 0)) (sy_iL 2)) (sy_iK 1)) [.ref 44, .int d, .int p, .int k, .int r, .int (ya_b true), .int (ya_b (true && true)), .int (ya_b ((true && true) && true))] ρ = some (.inl (ya_X2_levelBelow σ p), ρ) := fun {ρ} h49 => by
          refine (ee_iQ (ee_cB (ee_L rfl) ee_K) (fun _ => ee_K) (fun h0 => ee_B (em_tg (d := 0) h49 rfl I (ee_rF (ee_R rfl) rfl) (ee_L rfl) (hT h1 (of_decide_eq_false h0))) ee_K)).trans ?_
          unfold ya_X2_levelBelow
          by_cases e : p = -1
          · rw [decide_eq_true e, if_pos rfl, show ya_tg σ 4 0 p = 0 from yg_tym e]
            rfl
          · rw [decide_eq_false e, if_neg (by decide)]
        have q49 : sy_up τ 44 36 0 49 = σ 4 := M'.1.2.2.2.2.2.1
        refine es_Q (es_W (ee_rF (ee_R rfl) rfl) (hF q0 rfl) (ee_L rfl) hi ?_)
        refine es_Q (es_W (ee_rF (ee_R rfl) rfl) (hF (by rw [yu_ne (by decide)]; exact q0) rfl) (ee_L rfl) hi ?_)
        refine es_Q (es_W (ee_rF (ee_R rfl) rfl) (hF (by rw [yu_ne (by decide), yu_ne (k := 45) (by decide)]; exact q0) rfl) (ee_L rfl) hi ?_)
        refine es_Q (es_W (ee_rF (ee_R rfl) rfl) (hF (by rw [yu_ne (by decide), yu_ne (k := 46) (by decide), yu_ne (k := 45) (by decide)]; exact q0) rfl) (ee_L rfl) hi ?_)
        refine es_Q (es_W (ee_rF (ee_R rfl) rfl) (hF (by rw [yu_ne (by decide), yu_ne (k := 47) (by decide), yu_ne (k := 46) (by decide), yu_ne (k := 45) (by decide)]; exact q0) rfl) (hlv (by rw [yu_ne (by decide), yu_ne (k := 47) (by decide), yu_ne (k := 46) (by decide), yu_ne (k := 45) (by decide)]; exact q49)) hi ?_)
        refine es_Q (es_W (ee_rF (ee_R rfl) rfl) (hF (by rw [yu_ne (by decide), yu_ne (k := 48) (by decide), yu_ne (k := 47) (by decide), yu_ne (k := 46) (by decide), yu_ne (k := 45) (by decide)]; exact q0) rfl) ee_K hi ?_)
        rw [hc]
        refine es_Q (es_F (ee_R rfl) ee_K rfl ?_)
        rw [show sy_up (sy_up (sy_up (sy_up (sy_up (sy_up (sy_up τ 44 36 0) 45 n d) 46 n p) 47 n k) 48 n r) 49 n (ya_X2_levelBelow σ p)) 50 n (-1) 44 0 = nI n by rw [yu_ne (k := 50) (by decide), yu_ne (k := 49) (by decide), yu_ne (k := 48) (by decide), yu_ne (k := 47) (by decide), yu_ne (k := 46) (by decide), yu_ne (k := 45) (by decide), q0, hn3], nI_1]
        refine (es_eI (k := fun _ => sy_fail) (ee_B (ee_F (ee_R rfl) rfl) ee_K)).trans ?_
        rw [yu_at, nI_pred, hn3]
      · obtain ⟨⟨s0, s1, s2, s3, s4, s5, s6, s7, s8⟩, mG, mV, mA⟩ := M'
        have hk : ∀ j, j ≠ 1 ∧ j ≠ 2 ∧ j ≠ 3 ∧ j ≠ 4 ∧ j ≠ 5 ∧ j ≠ 6 ∧ j ≠ 7 → ya_define σ n d p k r j = σ j := fun j h => ya_define_ne h
        obtain ⟨g0, g1, g2, g3, g4⟩ := mG
        obtain ⟨a0, a1, a2, a3, a4, a5, a6, a7, a8⟩ := mA
        refine ⟨⟨?_, ?_, ?_, ?_, ?_, ?_, ?_, ?_, ?_⟩, ⟨?_, ?_, ?_, ?_, ?_⟩, yr_V_n mV (fun k' h1 h2 => hk k' (by omega)) (fun k' h1 h2 => hj k' (by omega) (by omega)), ⟨?_, ?_, ?_, ?_, ?_, ?_, ?_, ?_, ?_⟩⟩
        · unfold ym_define ya_define; rw [yu_at, yu_at]
        · unfold ym_define ya_define; rw [yu_ne (k := 44) (i := 0) (by decide), yu_ne (k := 50) (by decide), yu_ne (k := 49) (by decide), yu_ne (k := 48) (by decide), yu_ne (k := 47) (by decide), yu_ne (k := 46) (by decide), yu_eq, yu_ne (k := 1) (by decide), yu_ne (k := 7) (by decide), yu_ne (k := 6) (by decide), yu_ne (k := 5) (by decide), yu_ne (k := 3) (by decide), yu_eq, yu_ne (k := 4) (by decide), s1]
        · unfold ym_define ya_define; rw [yu_ne (k := 44) (i := 0) (by decide), yu_ne (k := 50) (by decide), yu_ne (k := 49) (by decide), yu_ne (k := 48) (by decide), yu_ne (k := 47) (by decide), yu_eq, yu_ne (k := 45) (by decide), yu_ne (k := 1) (by decide), yu_ne (k := 7) (by decide), yu_ne (k := 6) (by decide), yu_ne (k := 5) (by decide), yu_eq, yu_ne (k := 2) (by decide), yu_ne (k := 4) (by decide), s2]
        · unfold ym_define ya_define; rw [yu_ne (k := 44) (i := 0) (by decide), yu_ne (k := 50) (by decide), yu_ne (k := 49) (by decide), yu_ne (k := 48) (by decide), yu_eq, yu_ne (k := 46) (by decide), yu_ne (k := 45) (by decide), yu_ne (k := 1) (by decide), yu_ne (k := 7) (by decide), yu_ne (k := 6) (by decide), yu_eq, yu_ne (k := 3) (by decide), yu_ne (k := 2) (by decide), yu_ne (k := 4) (by decide), s3]
        · unfold ym_define ya_define; rw [yu_ne (k := 44) (i := 0) (by decide), yu_ne (k := 50) (by decide), yu_ne (k := 49) (by decide), yu_eq, yu_ne (k := 47) (by decide), yu_ne (k := 46) (by decide), yu_ne (k := 45) (by decide), yu_ne (k := 1) (by decide), yu_ne (k := 7) (by decide), yu_eq, yu_ne (k := 5) (by decide), yu_ne (k := 3) (by decide), yu_ne (k := 2) (by decide), yu_ne (k := 4) (by decide), s4]
        · unfold ym_define ya_define; rw [yu_ne (k := 44) (i := 0) (by decide), yu_ne (k := 50) (by decide), yu_eq, yu_ne (k := 48) (by decide), yu_ne (k := 47) (by decide), yu_ne (k := 46) (by decide), yu_ne (k := 45) (by decide), yu_ne (k := 1) (by decide), yu_ne (k := 7) (by decide), yu_ne (k := 6) (by decide), yu_ne (k := 5) (by decide), yu_ne (k := 3) (by decide), yu_ne (k := 2) (by decide), yu_eq, s5]
        · unfold ym_define ya_define; rw [yu_ne (k := 44) (i := 0) (by decide), yu_eq, yu_ne (k := 49) (by decide), yu_ne (k := 48) (by decide), yu_ne (k := 47) (by decide), yu_ne (k := 46) (by decide), yu_ne (k := 45) (by decide), yu_ne (k := 1) (by decide), yu_eq, yu_ne (k := 6) (by decide), yu_ne (k := 5) (by decide), yu_ne (k := 3) (by decide), yu_ne (k := 2) (by decide), yu_ne (k := 4) (by decide), s6]
        · rw [hj 51 (by decide) (by decide), hk 8 (by decide)]; exact s7
        · rw [hj 52 (by decide) (by decide), hk 9 (by decide)]; exact s8
        · rw [hj 53 (by decide) (by decide), hk 11 (by decide)]; exact g0
        · rw [hj 54 (by decide) (by decide), hk 11 (by decide), hk 12 (by decide)]; exact g1
        · rw [hj 55 (by decide) (by decide), hk 14 (by decide)]; exact g2
        · rw [hj 57 (by decide) (by decide), hk 16 (by decide)]; exact g3
        · rw [hj 58 (by decide) (by decide), hk 15 (by decide)]; exact g4
        · rw [hj44 24 (by decide), hk 19 (by decide)]; exact a0
        · rw [hj 67 (by decide) (by decide), hk 20 (by decide)]; exact a1
        · rw [hj 68 (by decide) (by decide), hk 21 (by decide)]; exact a2
        · rw [hj 69 (by decide) (by decide), hk 22 (by decide)]; exact a3
        · rw [hj 70 (by decide) (by decide), hk 23 (by decide)]; exact a4
        · rw [hj 71 (by decide) (by decide), hk 24 (by decide)]; exact a5
        · rw [hj 72 (by decide) (by decide), hk 25 (by decide)]; exact a6
        · rw [hj 73 (by decide) (by decide), hk 26 (by decide)]; exact a7
        · rw [hj 74 (by decide) (by decide), hk 31 (by decide)]; exact a8
    · refine ee_meth ?_ rfl
      unfold sm_X6_type
      refine es_Q (es_SI hc1 (es_Q (es_SI hc2 (es_Q (es_SI hc3 (es_Q ((hgo _).trans ?_)))))))
      rw [(hthr _ _ _).1, (hthr _ _ _).2, h, if_neg (by decide)]
end YW8
