section YB3
variable {σ τ A : sy_Mem} {t : Nat}
theorem yt_X5_twinBehindNew (W : ya_W σ) (ty p key here : Int32) : sf_X5_twinBehindNew [.ref 0, .int ty, .int p, .int key, .int here] σ = some (.inl (some (.int (ya_twin σ ty p key here))), σ) := by
  refine ee_meth ?_ rfl
  unfold sm_X5_twinBehindNew ya_twin
  refine es_Q (es_SI (x := ya_b (!decide (tK σ ty = 2))) (ee_iC (ee_cB (ee_M (ee_aR (ee_rF (ee_R rfl) rfl) (ee_aI (ee_L rfl) ee_aN)) (ee_cv (yt_X2_keysOf W ty) rfl)) ee_K)) ?_)
  refine es_Q (es_SI (ee_M (ee_aR (ee_rF (ee_R rfl) rfl) (ee_aI (ee_L rfl) ee_aN)) (ee_cv (yt_X2_ruleOf W ty) rfl)) ?_)
  have c1 : (sy_cA (sy_cA (sy_ceq (sy_iL 6) (sy_iK 2)) (sy_cI (sy_iM (sy_cv 3 3 sf_X3_isTwin) (sy_aR (sy_rF 5 1 (sy_rL 0)) (sy_aI (sy_iL 4) (sy_aI (sy_iL 1) (sy_aI (sy_iL 2) sy_aN))))))) (sy_cO (sy_cN (sy_cI (sy_iL 5))) (sy_ceq (sy_iM (sy_cv 3 2 sf_X3_numberOf) (sy_aR (sy_rF 5 1 (sy_rL 0)) (sy_aI (sy_iL 4) (sy_aI (sy_iK 0) sy_aN)))) (sy_iL 3)))) [.ref 0, .int ty, .int p, .int key, .int here, .int (ya_b (!decide (tK σ ty = 2))), .int (tR σ ty)] σ = some (.inl ((decide (tR σ ty = 2) && ya_tw σ here ty p) && ((!(!decide (tK σ ty = 2))) || decide (ya_N σ here 0 = key))), σ) :=
    ee_cA (ee_cA (ee_cB (ee_L rfl) ee_K) (fun _ => ee_cb (ee_M (ee_aR (ee_rF (ee_R rfl) rfl) (ee_aI (ee_L rfl) (ee_aI (ee_L rfl) (ee_aI (ee_L rfl) ee_aN)))) (ee_cv (yt_X3_isTwin σ here ty p) rfl)))) (fun _ => ee_cO (ee_cN (ee_cb (ee_L rfl))) (fun _ => ee_cB (ee_M (ee_aR (ee_rF (ee_R rfl) rfl) (ee_aI (ee_L rfl) (ee_aI ee_K ee_aN))) (ee_cv (yt_X3_numberOf σ here 0) rfl)) (ee_L rfl)))
  by_cases h1 : ((decide (tR σ ty = 2) && ya_tw σ here ty p) && ((!(!decide (tK σ ty = 2))) || decide (ya_N σ here 0 = key))) = true
  · rw [if_pos h1]
    exact es_Q (es_It (c1.trans (by rw [h1])) (es_eI (ee_L rfl)))
  · rw [if_neg h1]
    refine es_Q (es_If (c1.trans (by rw [Bool.eq_false_iff.mpr h1])) (es_N ?_))
    have c2 : (sy_cA (sy_ceq (sy_iL 6) (sy_iK 1)) (sy_cN (sy_cI (sy_iL 5)))) [.ref 0, .int ty, .int p, .int key, .int here, .int (ya_b (!decide (tK σ ty = 2))), .int (tR σ ty)] σ = some (.inl (decide (tR σ ty = 1) && (!(!decide (tK σ ty = 2)))), σ) :=
      ee_cA (ee_cB (ee_L rfl) ee_K) (fun _ => ee_cN (ee_cb (ee_L rfl)))
    by_cases h2 : (decide (tR σ ty = 1) && (!(!decide (tK σ ty = 2)))) = true
    · rw [if_pos h2]
      exact es_Q (es_It (c2.trans (by rw [h2])) (es_eI ee_K))
    · rw [if_neg h2]
      refine es_Q (es_If (c2.trans (by rw [Bool.eq_false_iff.mpr h2])) (es_N ?_))
      refine es_Q (es_SI (x := ya_least σ ty key) (ee_iQ (ee_cN (ee_cb (ee_L rfl))) (fun _ => ee_K) (fun _ => ee_iQ (ee_cB (ee_L rfl) ee_K) (fun _ => ee_B (ee_L rfl) ee_K) (fun _ => ee_L rfl))) ?_)
      refine es_Q (es_SI (ee_M (ee_aR (ee_rF (ee_R rfl) rfl) (ee_aI (ee_L rfl) ee_aN)) (ee_cv (yt_X2_databaseOf W ty) rfl)) ?_)
      refine es_Q (es_B (es_Q (es_SI ee_K0 ?_)))
      exact es_forPL (R := fun i => ya_at σ (tD σ ty) (nI i)) (E := fun i => [.ref 0, .int ty, .int p, .int key, .int here, .int (ya_b (!decide (tK σ ty = 2))), .int (tR σ ty), .int (ya_least σ ty key), .int (tD σ ty), .int (nI i)]) (P := fun i => ya_tw σ (ya_at σ (tD σ ty) (nI i)) ty p && decide (ya_least σ ty key ≤ ya_N σ (ya_at σ (tD σ ty) (nI i)) 0)) (j := 9) (a := 0) (fun _ => rfl) (fun i => (ee_M (ee_aR (ee_rF (ee_R rfl) rfl) (ee_aI (ee_L rfl) ee_aN)) (ee_cv (yt_X3_countOf σ (tD σ ty)) rfl))) (Nat.le_trans (yl_cnt W _) (by decide)) (by decide) (fun i g1 g2 k' => es_Q (es_B (es_Q (es_SI (ee_M (ee_aR (ee_rF (ee_R rfl) rfl) (ee_aI (ee_L rfl) (ee_aI (ee_L rfl) ee_aN))) (ee_cv (yt_X3_segmentAt W (tD σ ty) (nI i)) rfl)) (es_I (ee_cA (ee_cb (ee_M (ee_aR (ee_rF (ee_R rfl) rfl) (ee_aI (ee_L rfl) (ee_aI (ee_L rfl) (ee_aI (ee_L rfl) ee_aN)))) (ee_cv (yt_X3_isTwin σ _ ty p) rfl))) (fun _ => ee_cB (ee_M (ee_aR (ee_rF (ee_R rfl) rfl) (ee_aI (ee_L rfl) (ee_aI ee_K ee_aN))) (ee_cv (yt_X3_numberOf σ _ 0) rfl)) (ee_L rfl))) (fun h1 => (es_eI (ee_L rfl))) (fun h1 => (es_N (es_In1 rfl rfl)))))))) (fun _ => es_eI ee_K)
theorem yt_X3_endOfTwins (I : yn_I t σ) {ty p key here : Int32} (h : yb_ok σ ty p key here) : sf_X3_endOfTwins [.ref 10, .int ty, .int p] σ = some (.inl (some (.int (nI (if p = -1 then (ya_cnt σ (tD σ ty)).toNatClampNeg else (yL σ p).toNatClampNeg + 1 + ya_steps σ ty p)))), σ) := by
  have W := yn_Wo I
  refine ee_meth ?_ rfl
  unfold sm_X3_endOfTwins
  refine es_Q (es_SI (ee_M (ee_aR (ee_rF (ee_R rfl) rfl) (ee_aI (ee_L rfl) ee_aN)) (ee_cv (yt_X2_databaseOf W ty) rfl)) ?_)
  by_cases hp : p = -1
  · rw [if_pos hp, ← yi_nat (yi_pos.mpr (yg_cnt I (yb_D I h)).1)]
    exact es_Q (es_It ((ee_cB (ee_L rfl) ee_K).trans (by rw [decide_eq_true hp])) (es_eI (ee_M (ee_aR (ee_R rfl) (ee_aI (ee_L rfl) ee_aN)) (ee_cv (yt_X3_countOf σ _) rfl))))
  · rw [if_neg hp]
    obtain ⟨q, q1, q2, q3, q4, q5, q6, q7⟩ := yb_steps I h hp
    refine es_Q (es_If ((ee_cB (ee_L rfl) ee_K).trans (by rw [decide_eq_false hp])) (es_N ?_))
    rw [q2]
    refine es_Q (es_SI (x := nI (q + 1)) ((ee_B (ee_M (ee_aR (ee_R rfl) (ee_aI (ee_L rfl) ee_aN)) (ee_cv (yt_X3_placeOf σ _) rfl)) ee_K).trans (by rw [show ya_sg σ 17 p = nI q from q3, nI_1])) ?_)
    refine es_Q (es_B (es_Q (es_SI ee_K0 ?_)))
    have hc : ∀ j : Nat, j < 60 → (sy_cA (sy_clt (sy_iL 5) (sy_iK 60)) (sy_cI (sy_iM (sy_cv 3 3 sf_X3_liesUpTo) (sy_aR (sy_rL 0) (sy_aI (sy_iM (sy_cv 3 2 sf_X3_segmentAt) (sy_aR (sy_rL 0) (sy_aI (sy_iL 3) (sy_aI (sy_iL 4) sy_aN)))) (sy_aI (sy_iL 2) (sy_aI (sy_iL 1) sy_aN))))))) [.ref 10, .int ty, .int p, .int (tD σ ty), .int (nI (q + 1 + j)), .int (nI j)] σ = some (.inl (ya_X3_liesUpTo σ (ya_at σ (tD σ ty) (nI (q + 1 + j))) p ty), σ) := fun j hj => by
      refine (ee_cA (es_c60 rfl (by omega)) (fun _ => ee_cb (ee_M (ee_aR (ee_R rfl) (ee_aI (ee_M (ee_aR (ee_R rfl) (ee_aI (ee_L rfl) (ee_aI (ee_L rfl) ee_aN))) (ee_cv (yt_X3_segmentAt W _ _) rfl)) (ee_aI (ee_L rfl) (ee_aI (ee_L rfl) ee_aN)))) (ee_cv (yt_X3_liesUpTo W _ p ty) rfl)))).trans ?_
      rw [decide_eq_true hj, Bool.true_and]
    refine es_loop (E := fun j => [.ref 10, .int ty, .int p, .int (tD σ ty), .int (nI (q + 1 + j)), .int (nI j)]) (S := fun _ => σ) (ya_steps σ ty p) 0 1000 (by omega) (fun j _ hj => (hc j (by omega)).trans (by rw [q6 j (by omega)])) ((hc _ (by omega)).trans (by rw [Nat.zero_add, q7])) (fun j _ hj k' => ?_) ?_
    · exact es_Q (es_In1 (i := q + 1 + j) rfl (es_In1 rfl rfl))
    · refine (es_eI (k := fun _ => sy_fail) (ee_L rfl)).trans ?_
      rw [Nat.zero_add]
/-- the view that a new segment is inserted by, and where it is -/
def ya_vh (A : sy_Mem) (view here : Int32) : Prop := (view = -1 ∧ here = -1) ∨ ∃ v : Nat, v < 4 ∧ view = nI v ∧ here = ya_here A v
theorem yb_here (I : yn_I t A) {view here : Int32} (h : ya_vh A view here) : here = -1 ∨ yl A here := by
  rcases h with ⟨_, e⟩ | ⟨v, hv, _, e⟩
  · exact Or.inl e
  · rw [e]
    by_cases q : A (sy_vw v) 3 = 0
    · exact Or.inl ((yg_here I hv).1 q).1
    · right
      rw [((yg_here I hv).2 q).1]
      exact ((yg_here I hv).2 q).2.2
theorem ym_liesAhead (M : yr_M A τ) (I : yn_I t A) {r its key view here : Int32} (hr : yl A r) (hT : ya_isT A its = true) (hv : ya_vh A view here) : sf_X6_liesAhead [.ref 44, .int r, .int its, .int key, .int view] τ = some (.inl (some (.int (ya_b (ya_lies A its key here r)))), τ) := by
  have hh := yb_here I hv
  refine ee_meth ?_ rfl
  unfold sm_X6_liesAhead ya_lies
  have hk : ∀ {E : List Value} {i : Nat} {x : Int32}, E[0]? = some (.ref 44) → E[i]? = some (.int x) → yl A x → sy_iM (sy_cv 6 1 sf_X6_key) (sy_aR (sy_rL 0) (sy_aI (sy_iL i) sy_aN)) E τ = some (.inl (ya_N A x 0), τ) := fun h0 h1 hx => ee_M (ee_aR (ee_R h0) (ee_aI (ee_L h1) ee_aN)) (ee_cv (ym_key M _ (yl_in hx)) rfl)
  have c1 : (sy_cA (sy_cne (sy_iA 0 (sy_rF 6 3 (sy_rL 0)) (sy_iL 2)) (sy_iK 2)) (sy_cne (sy_iM (sy_cv 6 1 sf_X6_key) (sy_aR (sy_rL 0) (sy_aI (sy_iL 1) sy_aN))) (sy_iL 3))) [.ref 44, .int r, .int its, .int key, .int view] τ = some (.inl ((!decide (tK A its = 2)) && (!decide (ya_N A r 0 = key))), τ) :=
    ee_cA (ee_cB (em_47 M I (ee_rF (ee_R rfl) rfl) (ee_L rfl) hT) ee_K) (fun _ => ee_cB (hk rfl rfl hr) (ee_L rfl))
  by_cases h1 : ((!decide (tK A its = 2)) && (!decide (ya_N A r 0 = key))) = true
  · rw [if_pos h1]
    exact es_Q (es_It (c1.trans (by rw [h1])) (es_eZb (ee_iC (ee_cB (hk rfl rfl hr) (ee_L rfl)))))
  · rw [if_neg h1]
    refine es_Q (es_If (c1.trans (by rw [Bool.eq_false_iff.mpr h1])) (es_N ?_))
    have hR : sy_iA 0 (sy_rF 6 4 (sy_rL 0)) (sy_iL 2) [.ref 44, .int r, .int its, .int key, .int view] τ = some (.inl (tR A its), τ) := em_48 M I (ee_rF (ee_R rfl) rfl) (ee_L rfl) hT
    by_cases h2 : (!decide (tR A its = 2)) = true
    · rw [if_pos h2]
      exact es_Q (es_It ((ee_cB hR ee_K).trans (by rw [h2])) (es_eZb (ee_iC (ee_cB hR ee_K))))
    · rw [if_neg h2]
      refine es_Q (es_If ((ee_cB hR ee_K).trans (by rw [Bool.eq_false_iff.mpr h2])) (es_N ?_))
      have h5 : sy_iQ (sy_cA (sy_cne (sy_iL 4) (sy_iK (-1))) (sy_ceq (sy_iA 0 (sy_rF 6 17 (sy_rL 0)) (sy_iL 4)) (sy_iK 0))) (sy_iA 0 (sy_rF 6 18 (sy_rL 0)) (sy_iL 4)) (sy_iK (-1)) [.ref 44, .int r, .int its, .int key, .int view] τ = some (.inl here, τ) := by
        rcases hv with ⟨e1, e2⟩ | ⟨v, v4, e1, e2⟩
        · refine (ee_iQ (z := false) (x := 0) (y := -1) ((ee_cA (x := false) (y := false) ((ee_cB (ee_L rfl) ee_K).trans (by rw [decide_eq_true e1]; rfl)) (fun q => absurd q (by decide))).trans rfl) (fun q => absurd q (by decide)) (fun _ => ee_K)).trans ?_
          rw [e2]
          rfl
        · have en : some (Value.int view) = some (.int (nI v)) := by rw [e1]
          have nm : view ≠ -1 := fun q => by
            have : view.toInt = (v : Int) := by rw [e1, nI_toInt (by omega)]
            rw [q, yl_cm] at this
            omega
          have c : (sy_cA (sy_cne (sy_iL 4) (sy_iK (-1))) (sy_ceq (sy_iA 0 (sy_rF 6 17 (sy_rL 0)) (sy_iL 4)) (sy_iK 0))) [.ref 44, .int r, .int its, .int key, .int view] τ = some (.inl (decide (ya_mode A v = 0)), τ) := (ee_cA (ee_cB (ee_L rfl) ee_K) (fun _ => ee_cB (em_61 M v4 (ee_rF (ee_R rfl) rfl) (ee_L en)) ee_K)).trans (by rw [decide_eq_false nm]; rfl)
          refine (ee_iQ c (fun _ => em_62 M v4 (ee_rF (ee_R rfl) rfl) (ee_L en)) (fun _ => ee_K)).trans ?_
          rw [e2]
          by_cases q : A (sy_vw v) 3 = 0
          · have g := (yg_here I v4).1 q
            rw [decide_eq_false g.2, if_neg (by decide), g.1]
          · have g := (yg_here I v4).2 q
            rw [decide_eq_true g.2.1, if_pos rfl, g.1]
      have hx : ∀ {p : Bool}, ((!decide (here = -1)) && p) = true → yl A here := fun q => hh.resolve_left (by
        rw [Bool.and_eq_true] at q
        simpa using q.1)
      have hx2 : ∀ {p q : Bool}, (((!decide (here = -1)) && p) && q) = true → yl A here := fun q => hx (Bool.and_eq_true _ _ ▸ q).1
      refine es_Q (es_SI h5 (es_Q (es_SI (x := ya_b (((!decide (here = -1)) && (decide (yT A here = yT A r) && decide (yP A here = yP A r))) && (decide (tK A its = 2) || decide (ya_N A here 0 = key)))) (ee_iC (ee_cA (ee_cA (ee_cB (ee_L rfl) ee_K) (fun q => ee_cb (ee_M (ee_aR (ee_R rfl) (ee_aI (ee_L rfl) (ee_aI (ee_L rfl) ee_aN))) (ee_cv (ym_areTwins M here r (hh.resolve_left (by simpa using q)) hr) rfl)))) (fun q => ee_cO (ee_cB (em_47 M I (ee_rF (ee_R rfl) rfl) (ee_L rfl) hT) ee_K) (fun _ => ee_cB (hk rfl rfl (hx q)) (ee_L rfl))))) ?_)))
      exact es_eZb (ee_iC (ee_cA (ee_cb (ee_L rfl)) (fun q => ee_cB (ee_M (ee_aR (ee_R rfl) (ee_aI (ee_L rfl) ee_aN)) (ee_cv (ym_placeOf M I r hr) rfl)) (ee_M (ee_aR (ee_R rfl) (ee_aI (ee_L rfl) ee_aN)) (ee_cv (ym_placeOf M I here (hx2 q)) rfl)))))
section
variable {k : List Value → sy_MM (Option Value)}
theorem yh_child (M : yr_M A τ) {s its p key view c : Int32} : ∀ (n m : Nat) {x : Int32}, n < m → (∀ y, yl A y → yP A y ≠ -1 → yl A (yP A y)) → (x = -1 ∨ yl A x) → ya_walk (yP A) (fun x => decide (yP A x = p)) n x = some c →
    sy_wh (sy_cne (sy_iA 0 (sy_rF 6 10 (sy_rL 0)) (sy_iL 6)) (sy_iL 3)) (sy_sSI 6 (sy_iA 0 (sy_rF 6 10 (sy_rL 0)) (sy_iL 6))) m [.ref 44, .int s, .int its, .int p, .int key, .int view, .int x] k τ = k [.ref 44, .int s, .int its, .int p, .int key, .int view, .int c] τ
  | 0, _, _, _, _, _, h => by unfold ya_walk at h; cases h
  | n + 1, m + 1, x, hm, hP, hx, h => by
    unfold ya_walk at h
    by_cases e : x = -1
    · rw [if_pos e] at h
      cases h
    · rw [if_neg e] at h
      have hl := hx.resolve_left e
      unfold sy_wh
      have hc : (sy_cne (sy_iA 0 (sy_rF 6 10 (sy_rL 0)) (sy_iL 6)) (sy_iL 3)) [.ref 44, .int s, .int its, .int p, .int key, .int view, .int x] τ = some (.inl (!decide (yP A x = p)), τ) := ee_cB (em_54 M (ee_rF (ee_R rfl) rfl) (ee_L rfl) hl) (ee_L rfl)
      rw [sy_bnd_at hc]
      by_cases q : yP A x = p
      · rw [if_pos (decide_eq_true q)] at h
        cases h
        rw [decide_eq_true q]
        rfl
      · rw [if_neg (by rw [decide_eq_true_eq]; exact q)] at h
        rw [decide_eq_false q, if_pos (show (!false) = true from rfl)]
        refine es_SI (em_54 M (ee_rF (ee_R rfl) rfl) (ee_L rfl) hl) ?_
        refine yh_child M n m (by omega) hP ?_ h
        by_cases z : yP A x = -1
        · exact Or.inl z
        · exact Or.inr (hP x hl z)
  | _, 0, _, hm, _, _, _ => absurd hm (by omega)
end
theorem ym_isBehind (M : yr_M A τ) (I : yn_I t A) {s its p key view here : Int32} (hs : yl A s) (h : yb_ok A its p key here) (hv : ya_vh A view here) : sf_X6_isBehind [.ref 44, .int s, .int its, .int p, .int key, .int view] τ = some (.inl (some (.int (ya_b (ya_beh A its p key here s)))), τ) := by
  refine ee_meth ?_ rfl
  unfold sm_X6_isBehind ya_beh
  have hpl : p ≠ -1 → yl A p := fun q => (yb_pD I h q).1
  have c1 : (sy_cA (sy_cne (sy_iL 3) (sy_iK (-1))) (sy_cN (sy_cI (sy_iM (sy_cv 6 2 sf_X6_isUnder) (sy_aR (sy_rL 0) (sy_aI (sy_iL 1) (sy_aI (sy_iL 3) sy_aN))))))) [.ref 44, .int s, .int its, .int p, .int key, .int view] τ = some (.inl ((!decide (p = -1)) && (!ya_under A s p)), τ) :=
    ee_cA (ee_cB (ee_L rfl) ee_K) (fun q => ee_cN (ee_cb (ee_M (ee_aR (ee_R rfl) (ee_aI (ee_L rfl) (ee_aI (ee_L rfl) ee_aN))) (ee_cv (ym_isUnder M I s p hs (by simpa using q)) rfl))))
  by_cases h1 : ((!decide (p = -1)) && (!ya_under A s p)) = true
  · rw [if_pos h1]
    have hp : p ≠ -1 := by
      rw [Bool.and_eq_true] at h1
      simpa using h1.1
    exact es_Q (es_It (c1.trans (by rw [h1])) (es_eZb (ee_iC (ee_cB (ee_M (ee_aR (ee_R rfl) (ee_aI (ee_L rfl) ee_aN)) (ee_cv (ym_placeOf M I s hs) rfl)) (ee_M (ee_aR (ee_R rfl) (ee_aI (ee_L rfl) ee_aN)) (ee_cv (ym_placeOf M I p (hpl hp)) rfl))))))
  · rw [if_neg h1]
    refine es_Q (es_If (c1.trans (by rw [Bool.eq_false_iff.mpr h1])) (es_N ?_))
    by_cases h2 : s = p
    · rw [decide_eq_true h2, if_pos rfl]
      exact es_Q (es_It ((ee_cB (ee_L rfl) (ee_L rfl)).trans (by rw [decide_eq_true h2])) es_eZ1)
    · rw [decide_eq_false h2, if_neg (by decide)]
      refine es_Q (es_If ((ee_cB (ee_L rfl) (ee_L rfl)).trans (by rw [decide_eq_false h2])) (es_N ?_))
      have hb : p = -1 ∨ ya_X3_isBelow A s p = true := by
        by_cases q : p = -1
        · exact Or.inl q
        · right
          have : ya_under A s p = true := by
            cases z : ya_under A s p with
            | true => rfl
            | false => exact absurd (show ((!decide (p = -1)) && (!ya_under A s p)) = true by rw [decide_eq_false q, z]; rfl) h1
          exact (yU_under.mp this).resolve_left h2
      obtain ⟨d1, d2, d3, d4⟩ := yo_ch I hs hb
      refine es_Q (es_SI (ee_L rfl) (es_Q ((yh_child M 4 1000 (by omega) (fun y hy hz => (yl_par I.1 I.2.1 hy hz).1) (Or.inr hs) d1).trans ?_)))
      have hT : sy_iA 0 (sy_rF 6 9 (sy_rL 0)) (sy_iL 6) [.ref 44, .int s, .int its, .int p, .int key, .int view, .int (ya_ch A p s)] τ = some (.inl (yT A (ya_ch A p s)), τ) := em_53 M (ee_rF (ee_R rfl) rfl) (ee_L rfl) (yl_in d2)
      by_cases h3 : yT A (ya_ch A p s) = its
      · rw [decide_eq_true h3, if_pos rfl]
        refine es_eZb ((ee_iQ (x := ya_b (ya_lies A its key here (ya_ch A p s))) (y := 0) ((ee_cB hT (ee_L rfl)).trans (by rw [decide_eq_true h3])) (fun _ => ee_M (ee_aR (ee_R rfl) (ee_aI (ee_L rfl) (ee_aI (ee_L rfl) (ee_aI (ee_L rfl) (ee_aI (ee_L rfl) ee_aN))))) (ee_cv (ym_liesAhead M I d2 h.1 hv) rfl)) (fun q => absurd q (by decide))).trans ?_)
        rw [if_pos rfl]
      · rw [decide_eq_false h3, if_neg (by decide)]
        refine es_eZb ((ee_iQ (x := 0) (y := ya_b (decide (yT A (ya_ch A p s) < its))) ((ee_cB hT (ee_L rfl)).trans (by rw [decide_eq_false h3])) (fun q => absurd q (by decide)) (fun _ => ee_iC (ee_cB hT (ee_L rfl)))).trans ?_)
        rw [if_neg (by decide)]
end YB3
