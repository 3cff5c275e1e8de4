section YB3
variable {σ τ A : sy_Mem} {t : Nat}
theorem yt_X5_twinBehindNew (W : ya_W σ) (ty p key here : Int32) : sf_X5_twinBehindNew [.ref 0, .int ty, .int p, .int key, .int here] σ = some (.inl (some (.int (ya_twin σ ty p key here))), σ) := by
  refine ee_meth ?_ rfl
  unfold sm_X5_twinBehindNew ya_twin
  refine es_Q (es_SI (x := ya_b (!decide (tK σ ty = 2))) (ee_iC (ee_cB (ee_M (ee_aR (ee_rF (ee_R rfl) rfl) (ee_aI (ee_L rfl) ee_aN)) (ee_cv (yt_X2_keysOf W ty) rfl)) ee_K)) ?_)
  refine es_Q (es_SI (ee_M (ee_aR (ee_rF (ee_R rfl) rfl) (ee_aI (ee_L rfl) ee_aN)) (ee_cv (yt_X2_ruleOf W ty) rfl)) ?_)
  have c1 : (sy_cA (sy_cA (sy_ceq (sy_iL 6) (sy_iK 2)) (sy_cI (sy_iM (sy_cv 3 3 sf_X3_isTwin) (sy_aR (sy_rF 5 1 (sy_rL 0)) (sy_aI (sy_iL 4) (sy_aI (sy_iL 1) (sy_aI (sy_iL 2) sy_aN))))))) (sy_cO (sy_cN (sy_cI (sy_iL 5))) (sy_ceq (sy_iM (sy_cv 3 2 sf_X3_numberOf) (sy_aR (sy_rF 5 1 (sy_rL 0)) (sy_aI (sy_iL 4) (sy_aI (sy_iK 0) sy_aN)))) (sy_iL 3)))) [.ref 0, .int ty, .int p, .int key, .int here, .int (ya_b (!decide (tK σ ty = 2))), .int (tR σ ty)] σ = some (.inl ((decide (tR σ ty = 2) && ya_tw σ here ty p) && ((!(!decide (tK σ ty = 2))) || decide (ya_N σ here 0 = key))), σ) :=
    ee_cA (ee_cA (ee_cB (ee_L rfl) ee_K) (fun _ => ee_cb (ee_M (ee_aR (ee_rF (ee_R rfl) rfl) (ee_aI (ee_L rfl) (ee_aI (ee_L rfl) (ee_aI (ee_L rfl) ee_aN)))) (ee_cv (yt_X3_isTwin σ here ty p) rfl)))) (fun _ => ee_cO (ee_cN (ee_cb (ee_L rfl))) (fun _ => ee_cB (ee_M (ee_aR (ee_rF (ee_R rfl) rfl) (ee_aI (ee_L rfl) (ee_aI ee_K ee_aN))) (ee_cv (yt_X3_numberOf σ here 0) rfl)) (ee_L rfl)))
  by_cases h1 : ((decide (tR σ ty = 2) && ya_tw σ here ty p) && ((!(!decide (tK σ ty = 2))) || decide (ya_N σ here 0 = key))) = true
  · rw [if_pos h1]
    exact es_Q (es_It (c1.trans (by rw [h1])) (es_eI (ee_L rfl)))
  · rw [if_neg h1]
    refine es_Q (es_If (c1.trans (by rw [Bool.eq_false_iff.mpr h1])) (es_N ?_))
    have c2 : (sy_cA (sy_ceq (sy_iL 6) (sy_iK 1)) (sy_cN (sy_cI (sy_iL 5)))) [.ref 0, .int ty, .int p, .int key, .int here, .int (ya_b (!decide (tK σ ty = 2))), .int (tR σ ty)] σ = some (.inl (decide (tR σ ty = 1) && (!(!decide (tK σ ty = 2)))), σ) :=
      ee_cA (ee_cB (ee_L rfl) ee_K) (fun _ => ee_cN (ee_cb (ee_L rfl)))
    by_cases h2 : (decide (tR σ ty = 1) && (!(!decide (tK σ ty = 2)))) = true
    · rw [if_pos h2]
      exact es_Q (es_It (c2.trans (by rw [h2])) (es_eI ee_K))
    · rw [if_neg h2]
      refine es_Q (es_If (c2.trans (by rw [Bool.eq_false_iff.mpr h2])) (es_N ?_))
      refine es_Q (es_SI (x := ya_least σ ty key) (ee_iQ (ee_cN (ee_cb (ee_L rfl))) (fun _ => ee_K) (fun _ => ee_iQ (ee_cB (ee_L rfl) ee_K) (fun _ => ee_B (ee_L rfl) ee_K) (fun _ => ee_L rfl))) ?_)
      refine es_Q (es_SI (ee_M (ee_aR (ee_rF (ee_R rfl) rfl) (ee_aI (ee_L rfl) ee_aN)) (ee_cv (yt_X2_databaseOf W ty) rfl)) ?_)
      refine es_Q (es_B (es_Q (es_SI ee_K0 ?_)))
      exact es_forPL (R := fun i => ya_at σ (tD σ ty) (nI i)) (E := fun i => [.ref 0, .int ty, .int p, .int key, .int here, .int (ya_b (!decide (tK σ ty = 2))), .int (tR σ ty), .int (ya_least σ ty key), .int (tD σ ty), .int (nI i)]) (P := fun i => ya_tw σ (ya_at σ (tD σ ty) (nI i)) ty p && decide (ya_least σ ty key ≤ ya_N σ (ya_at σ (tD σ ty) (nI i)) 0)) (j := 9) (a := 0) (fun _ => rfl) (fun i => (ee_M (ee_aR (ee_rF (ee_R rfl) rfl) (ee_aI (ee_L rfl) ee_aN)) (ee_cv (yt_X3_countOf σ (tD σ ty)) rfl))) (Nat.le_trans (yl_cnt W _) (by decide)) (by decide) (fun i g1 g2 k' => es_Q (es_B (es_Q (es_SI (ee_M (ee_aR (ee_rF (ee_R rfl) rfl) (ee_aI (ee_L rfl) (ee_aI (ee_L rfl) ee_aN))) (ee_cv (yt_X3_segmentAt W (tD σ ty) (nI i)) rfl)) (es_I (ee_cA (ee_cb (ee_M (ee_aR (ee_rF (ee_R rfl) rfl) (ee_aI (ee_L rfl) (ee_aI (ee_L rfl) (ee_aI (ee_L rfl) ee_aN)))) (ee_cv (yt_X3_isTwin σ _ ty p) rfl))) (fun _ => ee_cB (ee_M (ee_aR (ee_rF (ee_R rfl) rfl) (ee_aI (ee_L rfl) (ee_aI ee_K ee_aN))) (ee_cv (yt_X3_numberOf σ _ 0) rfl)) (ee_L rfl))) (fun h1 => (es_eI (ee_L rfl))) (fun h1 => (es_N (es_In1 rfl rfl)))))))) (fun _ => es_eI ee_K)
theorem yt_X3_endOfTwins (I : yn_I t σ) {ty p key here : Int32} (h : yb_ok σ ty p key here) : sf_X3_endOfTwins [.ref 10, .int ty, .int p] σ = some (.inl (some (.int (nI (if p = -1 then (ya_cnt σ (tD σ ty)).toNatClampNeg else (yL σ p).toNatClampNeg + 1 + ya_steps σ ty p)))), σ) := by
  have W := yn_Wo I
  refine ee_meth ?_ rfl
  unfold sm_X3_endOfTwins
  refine es_Q (es_SI (ee_M (ee_aR (ee_rF (ee_R rfl) rfl) (ee_aI (ee_L rfl) ee_aN)) (ee_cv (yt_X2_databaseOf W ty) rfl)) ?_)
  by_cases hp : p = -1
  · rw [if_pos hp, ← yi_nat (yi_pos.mpr (yg_cnt I (yb_D I h)).1)]
    exact es_Q (es_It ((ee_cB (ee_L rfl) ee_K).trans (by rw [decide_eq_true hp])) (es_eI (ee_M (ee_aR (ee_R rfl) (ee_aI (ee_L rfl) ee_aN)) (ee_cv (yt_X3_countOf σ _) rfl))))
  · rw [if_neg hp]
    obtain ⟨q, q1, q2, q3, q4, q5, q6, q7⟩ := yb_steps I h hp
    refine es_Q (es_If ((ee_cB (ee_L rfl) ee_K).trans (by rw [decide_eq_false hp])) (es_N ?_))
    rw [q2]
    refine es_Q (es_SI (x := nI (q + 1)) ((ee_B (ee_M (ee_aR (ee_R rfl) (ee_aI (ee_L rfl) ee_aN)) (ee_cv (yt_X3_placeOf σ _) rfl)) ee_K).trans (by rw [show ya_sg σ 17 p = nI q from q3, nI_1])) ?_)
    refine es_Q (es_B (es_Q (es_SI ee_K0 ?_)))
    have hc : ∀ j : Nat, j < 60 → (sy_cA (sy_clt (sy_iL 5) (sy_iK 60)) (sy_cI (sy_iM (sy_cv 3 3 sf_X3_liesUpTo) (sy_aR (sy_rL 0) (sy_aI (sy_iM (sy_cv 3 2 sf_X3_segmentAt) (sy_aR (sy_rL 0) (sy_aI (sy_iL 3) (sy_aI (sy_iL 4) sy_aN)))) (sy_aI (sy_iL 2) (sy_aI (sy_iL 1) sy_aN))))))) [.ref 10, .int ty, .int p, .int (tD σ ty), .int (nI (q + 1 + j)), .int (nI j)] σ = some (.inl (ya_X3_liesUpTo σ (ya_at σ (tD σ ty) (nI (q + 1 + j))) p ty), σ) := fun j hj => by
      refine (ee_cA (es_c60 rfl (by omega)) (fun _ => ee_cb (ee_M (ee_aR (ee_R rfl) (ee_aI (ee_M (ee_aR (ee_R rfl) (ee_aI (ee_L rfl) (ee_aI (ee_L rfl) ee_aN))) (ee_cv (yt_X3_segmentAt W _ _) rfl)) (ee_aI (ee_L rfl) (ee_aI (ee_L rfl) ee_aN)))) (ee_cv (yt_X3_liesUpTo W _ p ty) rfl)))).trans ?_
      rw [decide_eq_true hj, Bool.true_and]
    refine es_loop (E := fun j => [.ref 10, .int ty, .int p, .int (tD σ ty), .int (nI (q + 1 + j)), .int (nI j)]) (S := fun _ => σ) (ya_steps σ ty p) 0 1000 (by omega) (fun j _ hj => (hc j (by omega)).trans (by rw [q6 j (by omega)])) ((hc _ (by omega)).trans (by rw [Nat.zero_add, q7])) (fun j _ hj k' => ?_) ?_
    · exact es_Q (es_In1 (i := q + 1 + j) rfl (es_In1 rfl rfl))
    · refine (es_eI (k := fun _ => sy_fail) (ee_L rfl)).trans ?_
      rw [Nat.zero_add]
/-- the view that a new segment is inserted by, and where it is -/
def ya_vh (A : sy_Mem) (view here : Int32) : Prop := (view = -1 ∧ here = -1) ∨ ∃ v : Nat, v < 4 ∧ view = nI v ∧ here = ya_here A v
theorem yb_here (I : yn_I t A) {view here : Int32} (h : ya_vh A view here) : here = -1 ∨ yl A here := by
  rcases h with ⟨_, e⟩ | ⟨v, hv, _, e⟩
  · exact Or.inl e
  · rw [e]
    by_cases q : A (sy_vw v) 3 = 0
    · exact Or.inl ((yg_here I hv).1 q).1
    · right
      rw [((yg_here I hv).2 q).1]
      exact ((yg_here I hv).2 q).2.2
section
variable {k : List Value → sy_MM (Option Value)}
end
end YB3
