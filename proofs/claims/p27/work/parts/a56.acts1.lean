section LA56
variable {A B M F σ τ : sy_Mem} {t u n v d : Nat} {st : Int32} {env : List Value}
theorem LI_to (L : LI t n σ) (h : t ≤ u) : LI u n σ := ⟨yn_I_to L.1 h, L.2⟩
theorem LI_AF (L : LI t 7 σ) (I : yn_I u F) (h : AF σ F) : LI u 7 F := by
  obtain ⟨-, T, ⟨s1, s2, s3, s4, s5, s6, -⟩, -, -, V, -⟩ := L
  obtain ⟨f1, f2, f3, f4, f5, f6⟩ := h
  have e : ∀ k, k < 10 → F k = σ k := fun k hk => f1 k (Or.inl hk)
  refine ⟨I, add_TT T e (f1 44 (by omega)), ⟨?_, ?_, s3, fun i hi => ?_, fun h => ?_, fun h => ?_, fun h => absurd h (by omega)⟩, f5, f4, fun w hw => ?_, f6⟩
  · rw [e 1 (by omega)]; exact s1
  · rw [f2]; exact s2
  · rw [e 8 (by omega), e 9 (by omega)]; exact s4 i hi
  · rw [e 2 (by omega), e 3 (by omega)]; exact s5 h
  · rw [e 2 (by omega), e 3 (by omega)]; exact s6 h
  · unfold vn
    rw [f3 w hw 0 (by omega), f3 w hw 1 (by omega), f1 51 (by omega)]
    exact V w hw
-- calls that throw
theorem h_insertE {a : Int32} (h : (decide (0 ≤ a) && decide (a < 4)) = false) : sf_L_insert [.ref 0, .int a] σ = some (.inl (some (.int (-1000001))), σ) := by
  have hc : sf_X5_insert [.ref 0, .int a] σ = some (.inr 1, σ) := by
    refine ee_meth ?_ rfl
    unfold sm_X5_insert
    refine es_Q ((es_SRx (ee_aR (ee_R rfl) (ee_aI (ee_L rfl) ee_aN)) (ee_cv (yt_X5_viewOf σ a) rfl) (r := some (.inr 1, σ)) (fun hx => absurd hx (by rw [h]; decide))).trans ?_)
    rw [h]
    rfl
  rw [← xE1]
  exact ke_meth (kh_IE (ee_aR (ee_R rfl) (ee_aI (ee_L rfl) ee_aN)) (ee_cv hc rfl) (by omega)) (Nat.le_of_ble_eq_true rfl)
theorem h_replaceE {a : Int32} (h : (decide (0 ≤ a) && decide (a < 4)) = false) : sf_L_replace [.ref 0, .int a] σ = some (.inl (some (.int (-1000001))), σ) := by
  have hc : sf_X5_replace [.ref 0, .int a] σ = some (.inr 1, σ) := by
    refine ee_meth ?_ rfl
    unfold sm_X5_replace
    refine es_Q ((es_SRx (ee_aR (ee_R rfl) (ee_aI (ee_L rfl) ee_aN)) (ee_cv (yt_X5_viewOf σ a) rfl) (r := some (.inr 1, σ)) (fun hx => absurd hx (by rw [h]; decide))).trans ?_)
    rw [h]
    rfl
  rw [← xE1]
  exact ke_meth (kh_IE (ee_aR (ee_R rfl) (ee_aI (ee_L rfl) ee_aN)) (ee_cv hc rfl) (by omega)) (Nat.le_of_ble_eq_true rfl)
theorem h_deleteE {a : Int32} (h : (decide (0 ≤ a) && decide (a < 4)) = false) : sf_L_delete [.ref 0, .int a] σ = some (.inl (some (.int (-1000001))), σ) := by
  have hc : sf_X5_delete [.ref 0, .int a] σ = some (.inr 1, σ) := by
    refine ee_meth ?_ rfl
    unfold sm_X5_delete
    refine es_Q ((es_SRx (ee_aR (ee_R rfl) (ee_aI (ee_L rfl) ee_aN)) (ee_cv (yt_X5_viewOf σ a) rfl) (r := some (.inr 1, σ)) (fun hx => absurd hx (by rw [h]; decide))).trans ?_)
    rw [h]
    rfl
  rw [← xE1]
  exact ke_meth (kh_IE (ee_aR (ee_R rfl) (ee_aI (ee_L rfl) ee_aN)) (ee_cv hc rfl) (by omega)) (Nat.le_of_ble_eq_true rfl)
theorem h_getE1 (I : yn_I t σ) {a how : Int32} (h : (decide (0 ≤ a) && decide (a < 4)) = false) (b : Bool) : sf_L_get [.ref 0, .int a, .int how, .int (ya_b b)] σ = some (.inl (some (.int (-1000001))), σ) := by
  have hc := yt_X5_get I a how b
  rw [h, if_neg (by decide)] at hc
  rw [← xE1]
  exact ke_meth (kh_IE (ee_aR (ee_R rfl) (ee_aI (ee_L rfl) (ee_aI (ee_L rfl) (ee_aI (ee_L rfl) ee_aN)))) (ee_cv hc rfl) (by omega)) (Nat.le_of_ble_eq_true rfl)
theorem h_getE2 (I : yn_I t σ) {a how : Int32} (h : (decide (0 ≤ a) && decide (a < 4)) = true) (h2 : (decide (0 ≤ how) && decide (how < 3)) = false) (b : Bool) : sf_L_get [.ref 0, .int a, .int how, .int (ya_b b)] σ = some (.inl (some (.int (-1000002))), σ) := by
  have hc := yt_X5_get I a how b
  rw [h, if_pos rfl, h2, if_neg (by decide)] at hc
  rw [← xE2]
  exact ke_meth (kh_IE (ee_aR (ee_R rfl) (ee_aI (ee_L rfl) (ee_aI (ee_L rfl) (ee_aI (ee_L rfl) ee_aN)))) (ee_cv hc rfl) (by omega)) (Nat.le_of_ble_eq_true rfl)
theorem h_putE {a b x : Int32} {E : Nat} (hE : (E = 1 ∧ ((decide (0 ≤ a) && decide (a < 4)) && (decide (0 ≤ b) && decide (b < 3))) = false) ∨ (E = 2 ∧ ((decide (0 ≤ a) && decide (a < 4)) && (decide (0 ≤ b) && decide (b < 3))) = true ∧ (decide (0 ≤ x) && decide (x < 1000)) = false)) : sf_L_put [.ref 0, .int a, .int b, .int x] σ = some (.inl (some (.int (sy_xE E))), σ) := by
  have hc := yt_X5_put σ a b x
  rcases hE with ⟨rfl, h⟩ | ⟨rfl, h, h2⟩
  · rw [h, if_neg (by decide)] at hc
    exact ke_meth (nL := 5) (s := sm_L_put) (kh_IE (env := [.ref 0, .int a, .int b, .int x]) (k := fun _ => sy_fail) (nc := 2) (E := 1) (ee_aR (ee_R rfl) (ee_aI (ee_L rfl) (ee_aI (ee_L rfl) (ee_aI (ee_L rfl) ee_aN)))) (ee_cv (ci := 5) (m := 3) hc rfl) (by omega)) (Nat.le_of_ble_eq_true rfl)
  · rw [h, if_pos rfl, h2, if_neg (by decide)] at hc
    exact ke_meth (nL := 5) (s := sm_L_put) (kh_IE (env := [.ref 0, .int a, .int b, .int x]) (k := fun _ => sy_fail) (nc := 2) (E := 2) (ee_aR (ee_R rfl) (ee_aI (ee_L rfl) (ee_aI (ee_L rfl) (ee_aI (ee_L rfl) ee_aN)))) (ee_cv (ci := 5) (m := 3) hc rfl) (by omega)) (Nat.le_of_ble_eq_true rfl)
theorem h_openE {a d s : Int32} {E : Nat} (hE : (E = 1 ∧ ((decide (0 ≤ a) && decide (a < 4)) && (decide (0 ≤ d) && decide (d < 3))) = false) ∨ (E = 2 ∧ ((decide (0 ≤ a) && decide (a < 4)) && (decide (0 ≤ d) && decide (d < 3))) = true ∧ (decide (0 ≤ s) && decide (s < 4096)) = false)) : sf_L_open [.ref 0, .int a, .int d, .int s] σ = some (.inl (some (.int (sy_xE E))), σ) := by
  have hc := yt_X5_open σ a d s
  rcases hE with ⟨rfl, h⟩ | ⟨rfl, h, h2⟩
  · rw [h, if_neg (by decide)] at hc
    exact ke_meth (nL := 5) (s := sm_L_open) (kh_VE (env := [.ref 0, .int a, .int d, .int s]) (k := fun _ => sy_fail) (nc := 2) (E := 1) (ee_aR (ee_R rfl) (ee_aI (ee_L rfl) (ee_aI (ee_L rfl) (ee_aI (ee_L rfl) ee_aN)))) (ee_cv (ci := 5) (m := 3) hc rfl) (by omega)) (Nat.le_of_ble_eq_true rfl)
  · rw [h, if_pos rfl, h2, if_neg (by decide)] at hc
    exact ke_meth (nL := 5) (s := sm_L_open) (kh_VE (env := [.ref 0, .int a, .int d, .int s]) (k := fun _ => sy_fail) (nc := 2) (E := 2) (ee_aR (ee_R rfl) (ee_aI (ee_L rfl) (ee_aI (ee_L rfl) (ee_aI (ee_L rfl) ee_aN)))) (ee_cv (ci := 5) (m := 3) hc rfl) (by omega)) (Nat.le_of_ble_eq_true rfl)
theorem h_open {v d s : Nat} (hv : v < 4) (hd : d < 3) (hs : s < 4096) : sf_L_open [.ref 0, .int (nI v), .int (nI d), .int (nI s)] σ = some (.inl (some (.int 0)), ya_reopen σ v (nI d) (nI s)) := by
  have hc := yt_X5_open σ (nI v) (nI d) (nI s)
  have h1 : (decide ((0 : Int32) ≤ nI d) && decide (nI d < 3)) = true := by rcases (show d = 0 ∨ d = 1 ∨ d = 2 by omega) with rfl | rfl | rfl <;> rfl
  have h2 : (decide ((0 : Int32) ≤ nI s) && decide (nI s < 4096)) = true := by
    rw [ge0 (by omega), show (4096 : Int32) = nI 4096 from rfl, Bool.true_and]
    refine decide_eq_true ?_
    rw [Int32.lt_iff_toInt_lt, nI_toInt (by omega), nI_toInt (by omega)]
    omega
  rw [(vw4 hv).1, h1, h2, Bool.and_true, if_pos rfl, if_pos rfl, if_pos rfl, (vw4 hv).2] at hc
  exact ke_meth (kh_V (ee_aR (ee_R rfl) (ee_aI (ee_L rfl) (ee_aI (ee_L rfl) (ee_aI (ee_L rfl) ee_aN)))) (ee_cv hc rfl)) (Nat.le_of_ble_eq_true rfl)
/-- a get that holds, with no arguments: what it holds -/
theorem got_hold (I : yn_I t σ) (hv : v < 4) (h19 : σ 19 0 = 0) (how : Int32) : ya_get σ v how true (sy_vw v) 6 = 0 ∨ ∃ x, yl σ x ∧ sD σ x = σ (sy_vw v) 0 ∧ ya_get σ v how true (sy_vw v) 6 = 1 ∧ ya_get σ v how true (sy_vw v + 1) 0 = x ∧ ya_get σ v how true (sy_vw v + 2) 0 = 0 ∧ ya_here (ya_get σ v how true) v = x := by
  have hb := yv_lt hv
  obtain ⟨g1, g2, g3, g4, g5⟩ := get_is (σ := σ) hv how true
  cases hL : ya_X5_isListOrdered σ v with
  | false =>
    rw [(g1 hL).2]
    exact Or.inl (gQ_is hv).2.2.2.2.1
  | true =>
    by_cases h2 : how = 2 ∧ σ (sy_vw v) 5 = -1
    · rw [(g2 hL h2).2]
      exact Or.inl (gQ_is hv).2.2.2.2.1
    · by_cases h3 : ya_finds σ v how = -1
      · by_cases h4 : how ≠ 1 ∨ 0 < σ 19 0
        · rw [(g3 hL h2 h3 h4).2]
          exact Or.inl (gQ_is hv).2.2.2.2.1
        · rw [(g4 hL h2 h3 h4).2]
          exact Or.inl (gE_is hv).2.2.2.2.1
      · rw [(g5 hL h2 h3).2]
        obtain ⟨x, hx⟩ : ∃ x, x = ya_finds σ v how := ⟨_, rfl⟩
        obtain ⟨f1, f2, -⟩ := yg_finds I hv h3
        obtain ⟨i1, -, -, i4, -, i6, -⟩ := got_is I hv how true (ya_finds σ v how)
        rw [← hx] at f1 f2 i1 i4 i6 ⊢
        have e0 : lsN σ = 0 := by
          show (σ 19 0).toInt.toNat = 0
          rw [h19]
          rfl
        have hcl : (σ 19 0).toNatClampNeg = 0 := by
          rw [h19]
          rfl
        right
        refine ⟨x, f1, f2, ?_, ?_, ?_, i1⟩
        · rw [i6, e0]
          rfl
        · have e1 : gG σ v how true x (sy_vw v + 1) = ya_deliver (sy_up σ (sy_vw v) 6 0) v x true (sy_vw v + 1) := by
            unfold gG ya_got
            rw [yu_ne (by omega), ya_stand_ne (by omega)]
            cases decide (how = 2) with
            | true => rfl
            | false => exact yu_ne (by omega)
          rw [e1]
          unfold ya_deliver
          rw [yu_ne (show 19 ≠ sy_vw v by omega), hcl]
          show ya_one (sy_up σ (sy_vw v) 6 0) v (ya_sl (sy_up σ (sy_vw v) 6 0) 0) x true _ (sy_vw v + 1) 0 = x
          unfold ya_one ya_hold
          show sy_up (sy_up (sy_up (ya_fillN (sy_up σ (sy_vw v) 6 0) 0 x 3) (sy_vw v + 1) 0 x) (sy_vw v + 2) 0 _) (sy_vw v) 6 _ (sy_vw v + 1) 0 = x
          rw [yu_ne (by omega), yu_ne (by omega), yu_at]
        · have e1 : gG σ v how true x (sy_vw v + 2) = ya_deliver (sy_up σ (sy_vw v) 6 0) v x true (sy_vw v + 2) := by
            unfold gG ya_got
            rw [yu_ne (by omega), ya_stand_ne (by omega)]
            cases decide (how = 2) with
            | true => rfl
            | false => exact yu_ne (by omega)
          rw [e1]
          unfold ya_deliver
          rw [yu_ne (show 19 ≠ sy_vw v by omega), hcl]
          have ec : ya_code (sy_up σ (sy_vw v) 6 0) (σ 19 0 - 1) 32 = false := by
            rw [h19]
            rfl
          rw [ec]
          show ya_one (sy_up σ (sy_vw v) 6 0) v (ya_sl (sy_up σ (sy_vw v) 6 0) 0) x true false (sy_vw v + 2) 0 = 0
          unfold ya_one ya_hold
          show sy_up (sy_up (sy_up (ya_fillN (sy_up σ (sy_vw v) 6 0) 0 x 3) (sy_vw v + 1) 0 x) (sy_vw v + 2) 0 _) (sy_vw v) 6 _ (sy_vw v + 2) 0 = 0
          rw [yu_ne (by omega), yu_at]
          rfl
end LA56
