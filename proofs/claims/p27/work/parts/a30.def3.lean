section LA30
variable {A σ τ : sy_Mem} {t n : Nat}
abbrev eDf (x y : Int32) : List Value := [.ref 0, .ref 44, .ref 52, .int x, .int y]
theorem defines_end (L : LI t (n + 1) τ) {x y b p : Int32} {l1 l2 l3 l4 : List Value} {k r : Int32} (h3 : τ 3 n = p) (hp : p = -1 ∨ ∃ pp, p = nI pp ∧ pp < 7) :
    (sy_eZ (sy_iC (sy_cA (sy_cA (sy_cA (sy_cI (sy_iL 10)) (sy_ceq (sy_iM (sy_cr 5 sf_L_tie) (sy_aR (sy_rL 0) (sy_aI (sy_iL 5) (sy_aI (sy_iA 0 (sy_rL 2) (sy_iK 0)) (sy_aI (sy_iK 0) (sy_aI (sy_iK 0) sy_aN)))))) (sy_iK (-1000001)))) (sy_ceq (sy_iM (sy_cr 5 sf_L_tie) (sy_aR (sy_rL 0) (sy_aI (sy_iK 0) (sy_aI (sy_iK 0) (sy_aI (sy_iK 0) (sy_aI (sy_iK 0) sy_aN)))))) (sy_iK (-1000002)))) (sy_cO (sy_clt (sy_iL 7) (sy_iK 0)) (sy_cA (sy_cA (sy_ceq (sy_iM (sy_cr 5 sf_L_tie) (sy_aR (sy_rL 0) (sy_aI (sy_iL 5) (sy_aI (sy_iL 5) (sy_aI (sy_iK 0) (sy_aI (sy_iK 0) sy_aN)))))) (sy_iK (-1000002))) (sy_ceq (sy_iM (sy_cr 5 sf_L_tie) (sy_aR (sy_rL 0) (sy_aI (sy_iL 5) (sy_aI (sy_iK 0) (sy_aI (sy_iK 2) (sy_aI (sy_iK 0) sy_aN)))))) (sy_iK (-1000002)))) (sy_ceq (sy_iM (sy_cr 5 sf_L_tie) (sy_aR (sy_rL 0) (sy_aI (sy_iL 5) (sy_aI (sy_iK 0) (sy_aI (sy_iK 0) (sy_aI (sy_iK 3) sy_aN)))))) (sy_iK (-1000002)))))))) (eDf x y ++ [.int (nI n), .int b, .int p, .int k, .int r, .int 1]) (fun _ => sy_fail) τ = some (.inl (some (.int 1)), τ) := by
  have I := L.1
  have hn := L.2.2.1.2.2.1
  have h1 := L.2.2.1.1
  have hg0 : ∀ env : List Value, env[2]? = some (.ref 52) → sy_iA 0 (sy_rL 2) (sy_iK 0) env τ = some (.inl (nI (n + 1)), τ) := fun env h => by
    rw [← L.2.2.1.2.1]
    exact ee_An (j := 0) (ee_R h) ee_K (by decide) (by decide)
  have hT0 := li_T L (show 0 < n + 1 by omega)
  have hTn := li_T L (show n < n + 1 by omega)
  have r0 : ya_X2_isRootType τ (nI 0) = true := by
    rw [rootT_is L (by omega)]
    exact decide_eq_true (L.2.2.1.2.2.2.2.1 (by omega)).2
  have b1 : ya_ti1 τ (nI n) (nI (n + 1)) = false := by
    unfold ya_ti1
    rw [li_N h1 hn (Nat.le_refl _) (by omega), Bool.and_false]
  have b2 : ya_ti2 τ (nI 0) (nI 0) 0 0 = false := by
    unfold ya_ti2
    rw [r0]
    rfl
  refine es_eZb (c := true) (ee_iC (ee_eq (ee_cA (x := true) (y := true) (ee_eq (ee_cA (x := true) (y := true) (ee_eq (ee_cA (x := true) (y := true) (ee_cb (c := true) (ee_L rfl)) (fun _ => ee_eq (ee_cB (ee_M (ee_aR (ee_R rfl) (ee_aI (ee_L rfl) (ee_aI (hg0 _ rfl) (ee_aI ee_K (ee_aI ee_K ee_aN))))) (ee_cr (h_tieE I (nI n) (nI (n + 1)) 0 0 (E := 1) (by decide) (by rw [b1]; rfl)) rfl)) ee_K) (by rw [xE1]; rfl))) rfl) (fun _ => ee_eq (ee_cB (ee_M (ee_aR (ee_R rfl) (ee_aI ee_K (ee_aI ee_K (ee_aI ee_K (ee_aI ee_K ee_aN))))) (ee_cr (h_tieE I (nI 0) (nI 0) 0 0 (E := 2) (by decide) (by rw [show ya_ti1 τ (nI 0) (nI 0) = true by unfold ya_ti1; rw [hT0]; rfl, b2]; rfl)) rfl)) ee_K) (by rw [xE2]; rfl))) rfl) (fun _ => ?_)) rfl))
  rcases hp with rfl | ⟨pp, hpp, hp7⟩
  · exact ee_cO (x := true) (y := true) (ee_eq (ee_cB (ee_L rfl) ee_K) rfl) (fun e => by cases e)
  · have hne : ¬ τ 3 n = -1 := by
      rw [h3, hpp]
      intro e
      have := congrArg Int32.toInt e
      rw [nI_toInt (by omega), yl_cm] at this
      omega
    have c1 : ya_ti2 τ (nI n) (nI n) 0 0 = false := by
      unfold ya_ti2
      rw [rootT_is L (by omega), decide_eq_false hne]
      rfl
    have c2 : ya_ti2 τ (nI n) (nI 0) 2 0 = false := by
      unfold ya_ti2
      rw [show ((decide ((0 : Int32) ≤ 2) && decide ((2 : Int32) < 2)) && (decide ((0 : Int32) ≤ 0) && decide ((0 : Int32) < 3))) = false from rfl, Bool.and_false]
    have c3 : ya_ti2 τ (nI n) (nI 0) 0 3 = false := by
      unfold ya_ti2
      rw [show ((decide ((0 : Int32) ≤ 0) && decide ((0 : Int32) < 2)) && (decide ((0 : Int32) ≤ 3) && decide ((3 : Int32) < 3))) = false from rfl, Bool.and_false]
    refine ee_cO (x := false) (y := true) (ee_eq (ee_cB (ee_L rfl) ee_K) ?_) (fun _ => ee_eq (ee_cA (x := true) (y := true) (ee_eq (ee_cA (x := true) (y := true) (ee_eq (ee_cB (ee_M (ee_aR (ee_R rfl) (ee_aI (ee_L rfl) (ee_aI (ee_L rfl) (ee_aI ee_K (ee_aI ee_K ee_aN))))) (ee_cr (h_tieE I (nI n) (nI n) 0 0 (E := 2) (by decide) (by rw [show ya_ti1 τ (nI n) (nI n) = true by unfold ya_ti1; rw [hTn]; rfl, c1]; rfl)) rfl)) ee_K) (by rw [xE2]; rfl)) (fun _ => ee_eq (ee_cB (ee_M (ee_aR (ee_R rfl) (ee_aI (ee_L rfl) (ee_aI ee_K (ee_aI ee_K (ee_aI ee_K ee_aN))))) (ee_cr (h_tieE I (nI n) (nI 0) 2 0 (E := 2) (by decide) (by rw [show ya_ti1 τ (nI n) (nI 0) = true by unfold ya_ti1; rw [hTn, hT0]; rfl, c2]; rfl)) rfl)) ee_K) (by rw [xE2]; rfl))) rfl) (fun _ => ee_eq (ee_cB (ee_M (ee_aR (ee_R rfl) (ee_aI (ee_L rfl) (ee_aI ee_K (ee_aI ee_K (ee_aI ee_K ee_aN))))) (ee_cr (h_tieE I (nI n) (nI 0) 0 3 (E := 2) (by decide) (by rw [show ya_ti1 τ (nI n) (nI 0) = true by unfold ya_ti1; rw [hTn, hT0]; rfl, c3]; rfl)) rfl)) ee_K) (by rw [xE2]; rfl))) rfl)
    rw [hpp]
    refine decide_eq_false ?_
    rw [Int32.lt_iff_toInt_lt, nI_toInt (by omega)]
    show ¬ (pp : Int) < 0
    omega
theorem t_defines (L : LI t n σ) (hn : n < 7) (x y : Int32) : ∃ τ, sf_L_defines (eDf x y) σ = some (.inl (some (.int 1)), τ) ∧ LI t (n + 1) τ := by
  have L0 := L
  obtain ⟨I, T, ⟨s1, s2, s3, s4, s5, s6, s7⟩, h19, h521, hV, hN⟩ := L
  have kT : ∀ i, i < n → ya_isT σ (nI i) = true := fun i hi => li_T L0 hi
  refine ex_m ?_ (Nat.le_of_ble_eq_true rfl)
  refine ex_SI (ee_eq (ee_An (j := 0) (ee_R rfl) ee_K (by decide) (by decide)) s2) ?_
  obtain ⟨c1, -, c2⟩ := c_low (e := sy_iL 3) (σ := σ) (env := eDf x y ++ [.int (nI n)]) (n := 3) (by omega) (by omega) (ee_L rfl) ee_K
  obtain ⟨b, hb, hbn, hbv⟩ : ∃ b, b < 2 ∧ (n < 2 → b = n) ∧ (if decide (nI n < 2) then nI n else (if decide (nI c1 = 0) then 1 else 0)) = nI b := by
    rw [show decide (nI n < 2) = decide (n < 2) from nI_ltd (q := 2) (by omega) (by omega)]
    by_cases h : n < 2
    · exact ⟨n, h, fun _ => rfl, by rw [if_pos (decide_eq_true h)]⟩
    · rw [if_neg (by simpa using h)]
      cases decide (nI c1 = 0)
      · exact ⟨0, by omega, fun q => absurd q h, rfl⟩
      · exact ⟨1, by omega, fun q => absurd q h, rfl⟩
  refine ex_SI (ee_eq (ee_iQ (ee_cB (ee_L rfl) ee_K) (fun _ => ee_L rfl) (fun _ => ee_iQ (ee_cB c2 ee_K) (fun _ => ee_K) (fun _ => ee_K))) hbv) ?_
  refine ex_SI ee_K ?_
  -- the parent
  refine ex_Q (R := fun e τ' => τ' = σ ∧ ∃ p, e = eDf x y ++ [.int (nI n), .int (nI b), .int p] ∧ ((p = -1 ∧ n < 2) ∨ (∃ pp l, p = nI pp ∧ pp < n ∧ tD σ (nI pp) = nI b ∧ tV σ (nI pp) = nI l ∧ l < 4 ∧ 2 ≤ n))) ?_ ?_
  · refine sx_I (ee_cB (ee_L rfl) ee_K) (fun hx => ?_) (fun hx => sx_N ⟨rfl, -1, rfl, Or.inl ⟨rfl, ?_⟩⟩)
    · have hx2 : 2 ≤ n := by
        have : decide ((1 : Int32) < nI n) = decide (1 < n) := nI_ltd (p := 1) (by omega) (by omega)
        rw [this, decide_eq_true_eq] at hx
        omega
      obtain ⟨p0, d1, d2⟩ := c_low (e := sy_iShr (sy_iL 3) (sy_iK 2)) (g := sy_iL 5) (σ := σ) (env := eDf x y ++ [.int (nI n), .int (nI b), .int (-1)]) (n := n) (by omega) (by omega) (ee_B (ee_L rfl) ee_K) (ee_L rfl)
      refine sx_SIQ d2 (sx_B (sx_SIQ ee_K ?_))
      have hgood : tD σ (nI b) = nI b ∧ tV σ (nI b) = 1 := by
        obtain ⟨-, -, -, -, -, -, g, -⟩ := I.1.2.1 _ (kT b (by omega))
        have e3 : tP σ (nI b) = -1 := by
          show ya_tg σ 3 (-1) (nI b) = -1
          rw [li_tg L0 (by omega)]
          rcases (show b = 0 ∨ b = 1 by omega) with rfl | rfl
          · exact (s5 (by omega)).2
          · exact (s6 (by omega)).2
        have e2 : tD σ (nI b) = nI b := by
          show ya_tg σ 2 (-1) (nI b) = nI b
          rw [li_tg L0 (by omega)]
          rcases (show b = 0 ∨ b = 1 by omega) with rfl | rfl
          · exact (s5 (by omega)).1
          · exact (s6 (by omega)).1
        refine ⟨e2, ?_⟩
        rcases g with ⟨-, g, -⟩ | ⟨g, -⟩
        · exact yi_ext (by rw [g]; rfl)
        · rw [e3, ya_isT_m] at g
          cases g
      refine sx_wh (N := n) (Inv := fun i env τ' => env = eDf x y ++ [.int (nI n), .int (nI b), .int (nI ((p0 + i) % n)), .int (nI i)] ∧ σ = τ' ∧ ∀ j, j < i → (p0 + j) % n ≠ b) (fun i env τ' hi hI => ?_) n 0 1000 _ _ (by omega) (by omega) ⟨?_, rfl, fun j hj => absurd hj (by omega)⟩
      · obtain ⟨rfl, rfl, hj⟩ := hI
        have hmod : (p0 + i) % n < n := Nat.mod_lt _ (by omega)
        refine ⟨_, ee_cA (ee_cB (ee_L rfl) (ee_L rfl)) (fun _ => ee_cO (ee_cB (ev_b I T (kT _ hmod) (ee_R rfl) (ee_L rfl)) (ee_L rfl)) (fun _ => ee_cB (ev_v I T (kT _ hmod) (ee_R rfl) (ee_L rfl)) ee_K)), fun hx => ?_, fun hx => ⟨rfl, _, rfl, Or.inr ?_⟩⟩
        · rw [Bool.and_eq_true, nI_ltd (by omega) (by omega), decide_eq_true_eq] at hx
          refine ⟨hx.1, ?_⟩
          have hne : (p0 + i) % n ≠ b := fun e => by
            have h2 := hx.2
            rw [e, hgood.1, hgood.2, decide_eq_true (rfl : nI b = nI b)] at h2
            exact absurd h2 (by decide)
          refine sx_SIQ (x := nI ((p0 + (i + 1)) % n)) (ee_eq (ee_Dv (ee_B (ee_L rfl) ee_K) (ee_L rfl) ?_) ?_) (sx_D (fun k => es_In rfl rfl) ⟨?_, rfl, fun j hji => ?_⟩)
          · intro e
            have := congrArg Int32.toInt e
            rw [nI_toInt (by omega), yl_c0] at this
            omega
          · show (nI _ + nI 1) - (nI _ + nI 1) / nI n * nI n = _
            rw [nadd, nmod (by omega) (by omega), Nat.mod_add_mod]
            rfl
          · exact congrArg (fun z => eDf x y ++ [.int (nI n), .int (nI b), .int (nI ((p0 + (i + 1)) % n)), .int z]) (nadd (a := i) (b := 1))
          · by_cases e : j = i
            · rw [e]; exact hne
            · exact hj j (by omega)
        · by_cases hin : i < n
          · rw [nI_ltd (by omega) (by omega), decide_eq_true hin, Bool.true_and, Bool.or_eq_false_iff] at hx
            obtain ⟨h1, h2⟩ := hx
            have h1 : tD σ (nI ((p0 + i) % n)) = nI b := by simpa using h1
            have h2 : ¬ tV σ (nI ((p0 + i) % n)) = 4 := of_decide_eq_false h2
            obtain ⟨-, -, -, -, -, g, -, -⟩ := I.1.2.1 _ (kT _ hmod)
            refine ⟨_, (tV σ (nI ((p0 + i) % n))).toInt.toNat, rfl, hmod, h1, (ntI (by omega) (by omega)).symm, ?_, hx2⟩
            have : (tV σ (nI ((p0 + i) % n))).toInt ≠ 4 := fun e => h2 (yi_ext e)
            omega
          · exfalso
            have hi' : i = n := by omega
            refine hj ((b + n - p0) % n) ?_ ?_
            · rw [hi']
              exact Nat.mod_lt _ (by omega)
            · rw [Nat.add_mod_mod, show p0 + (b + n - p0) = b + n by omega, Nat.add_mod_right, Nat.mod_eq_of_lt (by omega)]
      · rw [Nat.add_zero, Nat.mod_eq_of_lt d1]
        rfl
    · have : decide ((1 : Int32) < nI n) = decide (1 < n) := nI_ltd (p := 1) (by omega) (by omega)
      rw [this, decide_eq_false_iff_not] at hx
      omega
  rintro e τ' ⟨ht, p, rfl, hp⟩
  rw [ht]
  clear ht τ'
  have hp0 : ∃ q lv, p + 1 = nI q ∧ (if decide (p < 0) then nI 1 else tV σ p + 1) = nI lv ∧ ((p = -1 ∧ q = 0 ∧ lv = 1 ∧ decide (p < 0) = true) ∨ (∃ pp l, p = nI pp ∧ pp < n ∧ q = pp + 1 ∧ tD σ (nI pp) = nI b ∧ tV σ (nI pp) = nI l ∧ l < 4 ∧ lv = l + 1 ∧ 2 ≤ n ∧ decide (p < 0) = false)) := by
    rcases hp with ⟨rfl, -⟩ | ⟨pp, l, rfl, q2, q3, q4, q5, q6⟩
    · exact ⟨0, 1, rfl, rfl, Or.inl ⟨rfl, rfl, rfl, rfl⟩⟩
    · have hd : decide (nI pp < 0) = false := by
        refine decide_eq_false ?_
        rw [Int32.lt_iff_toInt_lt, nI_toInt (by omega)]
        show ¬ (pp : Int) < 0
        omega
      exact ⟨pp + 1, l + 1, nadd (b := 1), by rw [hd, if_neg (by decide), q4]; exact nadd (b := 1), Or.inr ⟨pp, l, rfl, q2, rfl, q3, q4, q5, rfl, q6, hd⟩⟩
  obtain ⟨q, lv, hq, hlv, hcase⟩ := hp0
  obtain ⟨k0, k1, k2⟩ := c_low (e := sy_iL 4) (σ := σ) (env := eDf x y ++ [.int (nI n), .int (nI b), .int p]) (n := 3) (by omega) (by omega) (ee_L rfl) ee_K
  obtain ⟨k, hk3, hk0, hkv⟩ : ∃ k, k < 3 ∧ (decide (p < 0) = true → k = 0) ∧ (if decide (p < 0) then 0 else nI k0) = nI k := by
    cases decide (p < 0)
    · exact ⟨k0, k1, (fun e => by cases e), rfl⟩
    · exact ⟨0, by omega, fun _ => rfl, rfl⟩
  refine ex_SI (ee_eq (ee_iQ (ee_cB (ee_L rfl) ee_K) (fun _ => ee_K) (fun _ => k2)) hkv) ?_
  obtain ⟨r, r1, r2⟩ := c_low (e := sy_iShr (sy_iL 4) (sy_iK 2)) (σ := σ) (env := eDf x y ++ [.int (nI n), .int (nI b), .int p, .int (nI k)]) (n := 3) (by omega) (by omega) (ee_B (ee_L rfl) ee_K) ee_K
  refine ex_SI r2 ?_
  have hWv : (sy_iAdd (sy_iAdd (sy_iAdd (sy_iAdd (sy_iL 6) (sy_iMul (sy_iK 4) (sy_iAdd (sy_iL 7) (sy_iK 1)))) (sy_iMul (sy_iK 64) (sy_iL 8))) (sy_iMul (sy_iK 256) (sy_iL 9))) (sy_iMul (sy_iK 1024) (sy_iQ (sy_clt (sy_iL 7) (sy_iK 0)) (sy_iK 1) (sy_iAdd (sy_iM (sy_cr 2 sf_L_level) (sy_aR (sy_rL 1) (sy_aI (sy_iL 7) sy_aN))) (sy_iK 1))))) (eDf x y ++ [.int (nI n), .int (nI b), .int p, .int (nI k), .int (nI r)]) σ = some (.inl (nI (b + 4 * q + 64 * k + 256 * r + 1024 * lv)), σ) := by
    refine ee_eq (ee_B (ee_B (ee_B (ee_B (ee_L rfl) (ee_B ee_K (ee_eq (ee_B (ee_L rfl) ee_K) hq))) (ee_B ee_K (ee_L rfl))) (ee_B ee_K (ee_L rfl))) (ee_B ee_K (ee_eq (ee_iQ (y := tV σ p + 1) (ee_cB (ee_L rfl) ee_K) (fun _ => ee_K) (fun h => ?_)) hlv))) ?_
    · rcases hcase with ⟨-, -, -, e⟩ | ⟨pp, l, e, e2, -⟩
      · rw [e] at h; cases h
      · exact ee_B (ev_v I T (by rw [e]; exact kT _ e2) (ee_R rfl) (ee_L rfl)) ee_K
    · show nI b + nI 4 * nI q + nI 64 * nI k + nI 256 * nI r + nI 1024 * nI lv = _
      rw [nmul, nmul, nmul, nmul, nadd, nadd, nadd, nadd]
  refine ex_D (fun kk => es_Wn (ee_R rfl) (ee_L rfl) hWv (show n < 12 by omega) (by decide) rfl) ?_
  refine ex_D (fun kk => es_An (j := 0) (ee_R rfl) ee_K ee_K (by decide) (by decide) rfl) ?_
  have hg : sy_up σ 44 n (nI (b + 4 * q + 64 * k + 256 * r + 1024 * lv)) 52 0 + 1 = nI (n + 1) := by
    rw [up_ne (by omega), s2]
    exact nadd (b := 1)
  rw [hg]
  obtain ⟨D1, D2, D3, D4, D5⟩ := li_define L0 hn (b := b) (q := q) (k := k) (r := r) (lv := lv) (p := p) (by omega) hk3 r1 (by
    rcases hcase with ⟨e1, e2, e3, e4⟩ | ⟨pp, l, e1, e2, e3, e4, e5, e6, e7, e8, -⟩
    · have hn2 : n < 2 := by
        rcases hp with ⟨-, h⟩ | ⟨pp, l, e, e2, -⟩
        · exact h
        · rw [e1] at e
          have := congrArg Int32.toInt e
          rw [nI_toInt (by omega), yl_cm] at this
          omega
      refine Or.inl ⟨e1, e2, hk0 e4, e3, ?_, (hbn hn2).symm⟩
      cases hR : ya_X2_hasRootType σ (nI b) with
      | false => rfl
      | true =>
        obtain ⟨i, i1, -, i3⟩ := (hasRoot_is L0 _).mp hR
        obtain rfl : i = 0 := by omega
        rw [(s5 (by omega)).1] at i3
        have := congrArg Int32.toInt i3
        rw [nI_toInt (by omega), yl_c0, hbn hn2] at this
        omega
    · exact Or.inr ⟨pp, l, e1, e2, e3, e4, e5, e6, e7, e8⟩)
  have e16 : ∀ d, ya_cnt (ya_define (mT σ n (b + 4 * q + 64 * k + 256 * r + 1024 * lv)) n (nI b) p (nI k) (nI r)) d = 0 := fun d => by
    have := cnt0 L0 hn d
    unfold ya_cnt at this ⊢
    rw [ya_define_ne (by decide)]
    exact this
  have e89 : ya_define (mT σ n (b + 4 * q + 64 * k + 256 * r + 1024 * lv)) n (nI b) p (nI k) (nI r) 8 n = 0 ∧ ya_define (mT σ n (b + 4 * q + 64 * k + 256 * r + 1024 * lv)) n (nI b) p (nI k) (nI r) 9 n = 0 := by
    rw [ya_define_ne (by decide), ya_define_ne (by decide)]
    exact s4 n (Nat.le_refl _)
  show EX _ _ (mT σ n (b + 4 * q + 64 * k + 256 * r + 1024 * lv)) _ _
  generalize hσ2 : ya_define (mT σ n (b + 4 * q + 64 * k + 256 * r + 1024 * lv)) n (nI b) p (nI k) (nI r) = σ2 at *
  generalize mT σ n (b + 4 * q + 64 * k + 256 * r + 1024 * lv) = σ1 at *
  have I2 := D2.1
  have hT0 := li_T D2 (show 0 < n + 1 by omega)
  have hbn1 : b < n + 1 := by
    by_cases h : n < 2
    · have := hbn h; omega
    · omega
  have hTb := li_T D2 hbn1
  have hN1 := li_N D2.2.2.1.1 (show n + 1 ≤ 7 by omega) (Nat.le_refl _) (by omega)
  have htD0 : tD σ2 (nI 0) = 0 := by
    show ya_tg σ2 2 (-1) (nI 0) = 0
    rw [li_tg D2 (by omega)]
    exact (D2.2.2.1.2.2.2.2.1 (by omega)).1
  have hib : (decide ((0 : Int32) ≤ nI b) && decide (nI b < 3)) = true := yl_isD.mpr (by rw [nI_toInt (by omega)]; omega)
  have hroot : ya_X2_hasRootType σ2 (nI b) = true := (hasRoot_is D2 _).mpr (by
    rcases (show b = 0 ∨ b = 1 by omega) with rfl | rfl
    · exact ⟨0, hbn1, (D2.2.2.1.2.2.2.2.1 (by omega)).2, (D2.2.2.1.2.2.2.2.1 (by omega)).1⟩
    · exact ⟨1, hbn1, (D2.2.2.1.2.2.2.2.2.1 (by omega)).2, (D2.2.2.1.2.2.2.2.2.1 (by omega)).1⟩)
  have y1 := h_typeE I2 3 (-2) 3 3 (E := 1) (by decide) rfl
  have hne1 : ∀ m : Nat, m < 100 → ¬ nI m = -1 := fun m hm e => by
    have := congrArg Int32.toInt e
    rw [nI_toInt (by omega), yl_cm] at this
    omega
  have y2 := h_typeE I2 0 (nI (n + 1)) 0 0 (E := 1) (by decide) (by
    rw [show ya_ty1 σ2 0 (nI (n + 1)) = false by
      unfold ya_ty1
      rw [hN1, decide_eq_false (hne1 (n + 1) (by omega))]
      rfl]
    rfl)
  have y3 := h_typeE I2 0 (-1) 1 0 (E := 2) (by decide) rfl
  have y4 := h_typeE I2 0 (-1) 0 3 (E := 2) (by decide) rfl
  have y5 := h_typeE I2 (nI b) (nI b) 3 0 (E := 2) (by decide) (by
    rw [show ya_ty1 σ2 (nI b) (nI b) = true by unfold ya_ty1; rw [hib, hTb, Bool.or_true]; rfl, show ya_ty2 σ2 (nI b) (nI b) 3 0 = false by
      unfold ya_ty2
      rw [show ((decide ((0 : Int32) ≤ 3) && decide ((3 : Int32) < 3)) && (decide ((0 : Int32) ≤ 0) && decide ((0 : Int32) < 3))) = false from rfl, Bool.and_false, Bool.false_and]]
    rfl)
  have y6 := h_typeE I2 2 (nI 0) 0 0 (E := 2) (by decide) (by
    rw [show ya_ty1 σ2 2 (nI 0) = true by unfold ya_ty1; rw [hT0, Bool.or_true]; rfl, show ya_ty2 σ2 2 (nI 0) 0 0 = false by
      unfold ya_ty2
      rw [htD0]
      rfl]
    rfl)
  have y7 := h_typeE I2 (nI b) (-1) 0 0 (E := 3) (by decide) (by
    rw [show ya_ty1 σ2 (nI b) (-1) = true by unfold ya_ty1; rw [hib]; rfl, show ya_ty2 σ2 (nI b) (-1) 0 0 = true from rfl, show ya_ty3 σ2 (nI b) (-1) = false by
      unfold ya_ty3
      rw [hroot, show (!decide ((-1 : Int32) = -1) || !true) = false from rfl, Bool.and_false, Bool.false_and]]
    rfl)
  have y0 : sf_L_type [.ref 0, .int (nI b), .int p, .int (nI k), .int (nI r)] σ1 = some (.inl (some (.int (nI n))), σ2) := ke_meth (kh_I (ee_aR (ee_R rfl) (ee_aI (ee_L rfl) (ee_aI (ee_L rfl) (ee_aI (ee_L rfl) (ee_aI (ee_L rfl) ee_aN))))) (ee_cv D1 rfl)) (Nat.le_of_ble_eq_true rfl)
  refine ex_SI (x := 1) (σ1 := σ2) (ee_iC (x := true) (ee_eq (ee_cA (x := true) (y := true) (ee_eq (ee_cA (x := true) (y := true) (ee_eq (ee_cA (x := true) (y := true) (ee_eq (ee_cA (x := true) (y := true) (ee_eq (ee_cA (x := true) (y := true) (ee_eq (ee_cA (x := true) (y := true) (ee_eq (ee_cA (x := true) (y := true) (ee_eq (ee_cB (ee_M (ee_aR (ee_R rfl) (ee_aI (ee_L rfl) (ee_aI (ee_L rfl) (ee_aI (ee_L rfl) (ee_aI (ee_L rfl) ee_aN))))) (ee_cr y0 rfl)) (ee_L rfl)) (decide_eq_true rfl))
    (fun _ => ee_eq (ee_cB (ee_M (ee_aR (ee_R rfl) (ee_aI ee_K (ee_aI ee_K (ee_aI ee_K (ee_aI ee_K ee_aN))))) (ee_cr (y1) rfl)) ee_K) (by rw [xE1]; rfl))) rfl)
    (fun _ => ee_eq (ee_cB (ee_M (ee_aR (ee_R rfl) (ee_aI ee_K (ee_aI (ee_eq (ee_B (ee_L rfl) ee_K) (nadd (b := 1))) (ee_aI ee_K (ee_aI ee_K ee_aN))))) (ee_cr (y2) rfl)) ee_K) (by rw [xE1]; rfl))) rfl)
    (fun _ => ee_eq (ee_cB (ee_M (ee_aR (ee_R rfl) (ee_aI ee_K (ee_aI ee_K (ee_aI ee_K (ee_aI ee_K ee_aN))))) (ee_cr (y3) rfl)) ee_K) (by rw [xE2]; rfl))) rfl)
    (fun _ => ee_eq (ee_cB (ee_M (ee_aR (ee_R rfl) (ee_aI ee_K (ee_aI ee_K (ee_aI ee_K (ee_aI ee_K ee_aN))))) (ee_cr (y4) rfl)) ee_K) (by rw [xE2]; rfl))) rfl)
    (fun _ => ee_eq (ee_cB (ee_M (ee_aR (ee_R rfl) (ee_aI (ee_L rfl) (ee_aI (ee_L rfl) (ee_aI ee_K (ee_aI ee_K ee_aN))))) (ee_cr (y5) rfl)) ee_K) (by rw [xE2]; rfl))) rfl)
    (fun _ => ee_eq (ee_cB (ee_M (ee_aR (ee_R rfl) (ee_aI ee_K (ee_aI ee_K (ee_aI ee_K (ee_aI ee_K ee_aN))))) (ee_cr (y6) rfl)) ee_K) (by rw [xE2]; rfl))) rfl)
    (fun _ => ee_eq (ee_cB (ee_M (ee_aR (ee_R rfl) (ee_aI (ee_L rfl) (ee_aI ee_K (ee_aI ee_K (ee_aI ee_K ee_aN))))) (ee_cr (y7) rfl)) ee_K) (by rw [xE3]; rfl))) rfl)) ?_
  have hgp : ∀ pp : Nat, pp < n → decide ((0 : Int32) ≤ nI pp) = true := fun pp h => ge0 (by omega)
  obtain ⟨w0, -, w2⟩ := c_low (e := sy_iShr (sy_iL 4) (sy_iK 4)) (σ := σ2) (env := eDf x y ++ [.int (nI n), .int (nI b), .int p, .int (nI k), .int (nI r), .int 1]) (n := 3) (by omega) (by omega) (ee_B (ee_L rfl) ee_K) ee_K
  have hpr : p = -1 ∨ ∃ pp, p = nI pp ∧ pp < 7 := by
    rcases hcase with ⟨e1, -⟩ | ⟨pp, l, e1, e2, -⟩
    · exact Or.inl e1
    · exact Or.inr ⟨pp, e1, by omega⟩
  refine ex_Q (R := fun e τ => e = eDf x y ++ [.int (nI n), .int (nI b), .int p, .int (nI k), .int (nI r), .int 1] ∧ LI t (n + 1) τ ∧ τ 3 n = p) ?_ ?_
  · refine sx_I (ee_cA (ee_cB (ee_L rfl) ee_K) (fun _ => ee_cB w2 ee_K)) (fun hx => ?_) (fun _ => sx_N ⟨rfl, D2, D4⟩)
    rw [Bool.and_eq_true] at hx
    rcases hcase with ⟨e1, -⟩ | ⟨pp, l, e1, e2, e3, e4, e5, e6, e7, e8, -⟩
    · rw [e1] at hx
      exact absurd hx.1 (by decide)
    · have hne : σ2 3 n ≠ -1 := by
        rw [D4, e1]
        intro e
        have := congrArg Int32.toInt e
        rw [nI_toInt (by omega), yl_cm] at this
        omega
      refine sx_B ?_
      obtain ⟨u, u1, u2⟩ := c_low (e := sy_iShr (sy_iL 4) (sy_iK 6)) (σ := σ2) (env := eDf x y ++ [.int (nI n), .int (nI b), .int p, .int (nI k), .int (nI r), .int 1]) (n := 2) (by omega) (by omega) (ee_B (ee_L rfl) ee_K) ee_K
      refine sx_SIQ u2 ?_
      obtain ⟨v0, -, v2⟩ := c_low (e := sy_iShr (sy_iL 4) (sy_iK 7)) (σ := σ2) (env := eDf x y ++ [.int (nI n), .int (nI b), .int p, .int (nI k), .int (nI r), .int 1, .int (nI u)]) (n := 3) (by omega) (by omega) (ee_B (ee_L rfl) ee_K) ee_K
      obtain ⟨c, c3, cv⟩ : ∃ c, c < 2 ∧ (if decide ((0 : Int32) < nI v0) then 1 else 0) = nI c := by
        cases decide ((0 : Int32) < nI v0)
        · exact ⟨0, by omega, rfl⟩
        · exact ⟨1, by omega, rfl⟩
      refine sx_SIQ (ee_eq (ee_iQ (ee_cB v2 ee_K) (fun _ => ee_K) (fun _ => ee_K)) cv) ?_
      obtain ⟨g, g1, g2⟩ := c_low (e := sy_iShr (sy_iL 4) (sy_iK 9)) (σ := σ2) (env := eDf x y ++ [.int (nI n), .int (nI b), .int p, .int (nI k), .int (nI r), .int 1, .int (nI u), .int (nI c)]) (n := 3) (by omega) (by omega) (ee_B (ee_L rfl) ee_K) ee_K
      refine sx_SIQ g2 ?_
      obtain ⟨E1, E2, E3, E4⟩ := li_tie D2 (show n < n + 1 by omega) D3 hne e89.1 e89.2 e16 (by omega) u1 c3 g1
      have hWt : (sy_iAdd (sy_iAdd (sy_iMul (sy_iK 8192) (sy_iAdd (sy_iL 11) (sy_iK 1))) (sy_iMul (sy_iK 131072) (sy_iL 12))) (sy_iMul (sy_iK 262144) (sy_iL 13))) (eDf x y ++ [.int (nI n), .int (nI b), .int p, .int (nI k), .int (nI r), .int 1, .int (nI u), .int (nI c), .int (nI g)]) σ2 = some (.inl (nI (8192 * (u + 1) + 131072 * c + 262144 * g)), σ2) := by
        refine ee_eq (ee_B (ee_B (ee_B ee_K (ee_B (ee_L rfl) ee_K)) (ee_B ee_K (ee_L rfl))) (ee_B ee_K (ee_L rfl))) ?_
        show nI 8192 * (nI u + nI 1) + nI 131072 * nI c + nI 262144 * nI g = _
        rw [nadd, nmul, nmul, nmul, nadd, nadd]
      refine sx_DQ (fun kk => es_An (ee_R rfl) (ee_L rfl) hWt (show n < 12 by omega) (by decide) rfl) ?_
      show SX _ _ (mB σ2 n (8192 * (u + 1) + 131072 * c + 262144 * g)) _
      have hTn := li_T E2 (show n < n + 1 by omega)
      have hTu := li_T E2 (show u < n + 1 by omega)
      have E43 : ya_bind (mB σ2 n (8192 * (u + 1) + 131072 * c + 262144 * g)) n (nI u) (nI c) (nI g) 3 n = p := by
        rw [E4 3 (by omega) (by omega) (by omega) (by omega)]
        exact D4
      generalize ya_bind (mB σ2 n (8192 * (u + 1) + 131072 * c + 262144 * g)) n (nI u) (nI c) (nI g) = σ4 at *
      have hru : σ4 3 u = -1 := by
        rcases (show u = 0 ∨ u = 1 by omega) with rfl | rfl
        · exact (E2.2.2.1.2.2.2.2.1 (by omega)).2
        · exact (E2.2.2.1.2.2.2.2.2.1 (by omega)).2
      have hn3 : σ4 3 n ≠ -1 := by
        rw [E43, ← D4]
        exact hne
      have z1 := h_tieE E2.1 (nI n) (nI u) (nI c) (nI g) (E := 3) (by decide) (by
        rw [show ya_ti1 σ4 (nI n) (nI u) = true by unfold ya_ti1; rw [hTn, hTu]; rfl, show ya_ti2 σ4 (nI n) (nI u) (nI c) (nI g) = true by
          unfold ya_ti2
          rw [rootT_is E2 (show n < n + 1 by omega), rootT_is E2 (show u < n + 1 by omega), decide_eq_true hru, decide_eq_false hn3, show (decide ((0 : Int32) ≤ nI g) && decide (nI g < 3)) = true from yl_isD.mpr (by rw [nI_toInt (by omega)]; omega)]
          rcases (show c = 0 ∨ c = 1 by omega) with rfl | rfl <;> rfl, show ya_ti3 σ4 (nI n) = false by
          unfold ya_ti3
          rw [show tG σ4 (nI n) = nI u by
            show ya_tg σ4 7 (-1) (nI n) = nI u
            rw [li_tg E2 (by omega)]
            exact E3, decide_eq_false (hne1 u (by omega)), Bool.and_false]]
        rfl)
      exact sx_SI (ee_iC (x := true) (ee_eq (ee_cA (x := true) (y := true) (ee_cAt (ee_cb (c := true) (ee_L rfl)) (ee_eq (ee_cB (ee_M (ee_aR (ee_R rfl) (ee_aI (ee_L rfl) (ee_aI (ee_L rfl) (ee_aI (ee_L rfl) (ee_aI (ee_L rfl) ee_aN))))) (ee_cr E1 rfl)) ee_K) (decide_eq_true rfl))) (fun _ => ee_eq (ee_cB (ee_M (ee_aR (ee_R rfl) (ee_aI (ee_L rfl) (ee_aI (ee_L rfl) (ee_aI (ee_L rfl) (ee_aI (ee_L rfl) ee_aN))))) (ee_cr z1 rfl)) ee_K) (by rw [xE3]; rfl))) rfl)) ⟨rfl, E2, E43⟩
  · rintro e τ ⟨rfl, L2, h3⟩
    exact ex_E (defines_end L2 (l1 := []) (l2 := []) (l3 := []) (l4 := []) h3 hpr) L2
end LA30
