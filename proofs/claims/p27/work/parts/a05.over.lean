section LA5
theorem ee_eq {α : Type} {m : sy_MM α} {σ σ1 : sy_Mem} {x y : α} (h : m σ = some (.inl x, σ1)) (e : x = y) : m σ = some (.inl y, σ1) := e ▸ h
theorem ndec {j : Nat} (h : 1 ≤ j) : nI j + -1 = nI (j - 1) := by
  rw [← nsub h, Int32.sub_eq_add_neg]
  rfl
variable {A σ : sy_Mem} {t : Nat}
theorem ge0 {j : Nat} (hj : j < 2 ^ 31) : decide ((0 : Int32) ≤ nI j) = true := decide_eq_true (by rw [Int32.le_iff_toInt_le, nI_toInt hj]; show (0 : Int) ≤ _; omega)
theorem sg_ok (I : yn_I t A) {d p : Nat} (hd : d < 3) (hp : p < cn A d) : yl A (sg A d p) ∧ sD A (sg A d p) = nI d ∧ yL A (sg A d p) = nI p := by
  have hW := I.2.2.1
  have h60 := hW.1 d hd
  have hp2 : p < (A 16 d).toInt.toNat := hp
  have hdI : 0 ≤ (nI d).toInt ∧ (nI d).toInt < 3 := by rw [nI_toInt (by omega)]; omega
  have hc : ya_cnt A (nI d) = A 16 d := by rw [ya_cnt_in hdI, nI_clamp (by omega)]
  exact hW.2.2.2 (nI d) (nI p) hdI.1 hdI.2 (by rw [nI_toInt (by omega)]; omega) (by rw [nI_toInt (by omega), hc]; omega)
theorem cn_le (I : yn_I t A) {d : Nat} (hd : d < 3) : cn A d ≤ 60 := by
  have := I.2.2.1.1 d hd
  show (A 16 d).toInt.toNat ≤ 60
  omega
/-- each segment that there is lies at a place of its database -/
theorem sg_of (I : yn_I t A) {s : Int32} (h : yl A s) {d : Nat} (hd : d < 3) (hs : sD A s = nI d) : ∃ p, p < cn A d ∧ s = sg A d p ∧ yL A s = nI p := by
  obtain ⟨q, q1, q2, q3, q4⟩ := yo_row I h
  have hdI : 0 ≤ (nI d).toInt ∧ (nI d).toInt < 3 := by rw [nI_toInt (by omega)]; omega
  have hc : ya_cnt A (nI d) = A 16 d := by rw [ya_cnt_in hdI, nI_clamp (by omega)]
  rw [hs, hc] at q1
  rw [hs] at q3
  exact ⟨q, q1, q3.symm, q2⟩
theorem sg_inj (I : yn_I t A) {d p q : Nat} (hd : d < 3) (hp : p < cn A d) (hq : q < cn A d) (h : sg A d p = sg A d q) : p = q := by
  have h1 := (sg_ok I hd hp).2.2
  have h2 := (sg_ok I hd hq).2.2
  have := cn_le I hd
  rw [h, h2] at h1
  have := congrArg Int32.toInt h1
  rw [nI_toInt (by omega), nI_toInt (by omega)] at this
  omega
theorem yL_m1 : yL A (-1) = -1 := rfl
theorem nI_lt2 {p q : Nat} (hp : p < 1000) (hq : q < 1000) : ((nI p).toInt < (nI q).toInt ↔ p < q) ∧ ((nI p).toInt ≤ (nI q).toInt ↔ p ≤ q) := by
  rw [nI_toInt (by omega), nI_toInt (by omega)]
  omega
/-- what lies from a segment on up to one below it is below it -/
theorem sg_between (I : yn_I t A) {d p q r : Nat} (hd : d < 3) (hr : r < cn A d) (hpq : p ≤ q) (hqr : q ≤ r) (h : yU A (sg A d r) (sg A d p)) : yU A (sg A d q) (sg A d p) := by
  have h60 := cn_le I hd
  obtain ⟨a1, a2, a3⟩ := sg_ok I hd (show p < cn A d by omega)
  obtain ⟨b1, b2, b3⟩ := sg_ok I hd (show q < cn A d by omega)
  obtain ⟨c1, c2, c3⟩ := sg_ok I hd hr
  refine I.2.2.2.1.2.1 _ _ _ c1 a1 b1 (by rw [a2, c2]) (by rw [b2, c2]) h ?_ ?_
  · rw [a3, b3]; exact (nI_lt2 (by omega) (by omega)).2.mpr hpq
  · rw [b3, c3]; exact (nI_lt2 (by omega) (by omega)).2.mpr hqr
theorem lv_pos (I : yn_I t A) {s : Int32} (h : yl A s) : 1 ≤ ya_lv A s ∧ ya_lv A s ≤ 4 ∧ ((ya_lv A s : Nat) : Int) = (tV A (yT A s)).toInt := by
  have := (I.1.2.1 _ (I.2.1.1 s h).1).2.2.2.2.2.1
  unfold ya_lv
  omega
theorem t_over0 (I : yn_I t A) (T : TT A σ) {d p : Nat} (hd : d < 3) (hp : p < cn A d) (R : ∀ j, j ≤ p → lg σ (45 + d) j = pL (sk A (sg A d j))) : sf_L_over [.ref 44, .ref (45 + d), .int (nI p)] σ = some (.inl (some (.int (yL A (yP A (sg A d p))))), σ) := by
  have S := I.1
  have G := I.2.1
  have h60 := cn_le I hd
  obtain ⟨a1, a2, a3⟩ := sg_ok I hd hp
  have hT := (G.1 _ a1).1
  have hlen : sy_len 3 (45 + d) = 64 := by rcases (show d = 0 ∨ d = 1 ∨ d = 2 by omega) with rfl | rfl | rfl <;> rfl
  have hk : ∀ j, j ≤ p → sf_L_typeOf [.long (lg σ (45 + d) j)] σ = some (.inl (some (.int (yT A (sg A d j)))), σ) := fun j hj => by
    rw [R j hj]
    exact t_typeOf S G (sg_ok I hd (by omega)).1
  have ev : ∀ (env : List Value) (i j : Nat), env[1]? = some (.ref (45 + d)) → env[i]? = some (.int (nI j)) → j ≤ p → sy_iM (sy_cr 1 sf_L_typeOf) (sy_aL (sy_lA (sy_rL 1) (sy_iL i)) sy_aN) env σ = some (.inl (yT A (sg A d j)), σ) := fun env i j h1 h2 hj =>
    ee_M (ee_aL (ee_lA (ee_R h1) (ee_L h2) (by rw [hlen]; omega) (by rw [hlen]; omega)) ee_aN) (ee_cr (hk j hj) rfl)
  refine ke_meth ?_ (Nat.le_of_ble_eq_true rfl)
  refine es_Q (es_SI (ee_M (ee_aR (ee_R rfl) (ee_aI (ev _ 2 p rfl rfl (Nat.le_refl _)) ee_aN)) (ee_cr (t_above S T hT) rfl)) ?_)
  by_cases hr : yP A (sg A d p) = -1
  · have htP : tP A (yT A (sg A d p)) = -1 := by
      rcases (G.1 _ a1).2 with ⟨q, -⟩ | ⟨q, -⟩
      · exact q
      · exact absurd hr (yl_ne q)
    rw [htP, hr, yL_m1]
    refine es_Q (es_SI (x := -1) ((ee_iQ (x := -1) (y := 0) (z := true) ((ee_cB (ee_L rfl) ee_K).trans rfl) (fun _ => ee_K) (fun h => by cases h)).trans rfl) ?_)
    refine es_Q ?_
    unfold sy_wh
    rw [sy_bnd_at (ee_cA (x := false) (y := false) ((ee_cB (ee_L rfl) ee_K).trans rfl) (fun h => by cases h))]
    exact es_eI (k := fun _ => sy_fail) (ee_L rfl)
  · obtain ⟨b1, b2, b3, -⟩ := yl_par S G a1 hr
    obtain ⟨pq, c1, c2, c3⟩ := sg_of I b1 hd (b2.trans a2)
    have hU : yU A (sg A d p) (sg A d pq) := by
      rw [← c2]
      exact yU_up I a1 hr (Or.inl rfl)
    have hlt : pq < p := by
      have := I.2.2.2.1.1 _ a1 hr
      rw [c3, a3] at this
      exact (nI_lt2 (by omega) (by omega)).1.mp this
    have htP : tP A (yT A (sg A d p)) = yT A (sg A d pq) := by
      rcases (G.1 _ a1).2 with ⟨-, q⟩ | ⟨-, q, -⟩
      · exact absurd q hr
      · rw [← c2]; exact q.symm
    have hT2 := T_lt S G (sg_ok I hd c1).1
    rw [htP, c3]
    have e1 : nI p - 1 = nI (p - 1) := nsub (b := 1) (by omega)
    refine es_Q (es_SI (x := nI (p - 1)) (ee_eq (ee_iQ (x := -1) (y := nI p - 1) (z := false) (ee_eq (ee_cB (ee_L rfl) ee_K) (decide_eq_false (by rw [Int32.lt_iff_toInt_lt]; show ¬ _ < (0 : Int); omega))) (fun h => by cases h) (fun _ => ee_B (ee_L rfl) ee_K)) e1) ?_)
    refine es_Q ?_
    have key := ks_wh (c := sy_cA (sy_cge (sy_iL 4) (sy_iK 0)) (sy_cne (sy_iM (sy_cr 1 sf_L_typeOf) (sy_aL (sy_lA (sy_rL 1) (sy_iL 4)) sy_aN)) (sy_iL 3))) (s := sy_sIn 4 (-1)) (E := fun i => [.ref 44, .ref (45 + d), .int (nI p), .int (yT A (sg A d pq)), .int (nI (p - 1 - i))]) (S := fun _ => σ) (N := p - 1 - pq) (k := fun env => sy_eI (sy_iL 4) env (fun _ => sy_fail)) ?_ ?_ (p - 1 - pq) 0 1000 (by omega) (by omega)
    · refine key.trans ?_
      have : p - 1 - (p - 1 - pq) = pq := by omega
      rw [this]
      exact es_eI (ee_L rfl)
    · intro i hi
      have hj : p - 1 - i < cn A d := by omega
      have hb := sg_between I hd hp (show pq ≤ p - 1 - i by omega) (show p - 1 - i ≤ p by omega) hU
      have hne : ¬ yT A (sg A d (p - 1 - i)) = yT A (sg A d pq) := by
        intro e
        obtain ⟨-, -, -, q⟩ := yU_l I (sg_ok I hd hj).1 hb
        rcases q with q | ⟨q, -⟩
        · have := sg_inj I hd c1 hj q
          omega
        · unfold ya_lv at q
          rw [e] at q
          omega
      refine ⟨ee_cA (x := true) (y := true) (ee_eq (ee_cB (ee_L rfl) ee_K) (ge0 (by omega))) (fun _ => ee_eq (ee_cB (ev _ 4 _ rfl rfl (by omega)) (ee_L rfl)) (by rw [decide_eq_false hne]; rfl)), fun k' => es_In rfl ?_⟩
      · exact congrArg (fun z => k' [.ref 44, .ref (45 + d), .int (nI p), .int (yT A (sg A d pq)), .int z] σ) (ndec (by omega))
    · have e : p - 1 - (p - 1 - pq) = pq := by omega
      show _ = _
      rw [e]
      exact ee_cA (x := true) (y := false) (ee_eq (ee_cB (ee_L rfl) ee_K) (ge0 (by omega))) (fun _ => ee_eq (ee_cB (ev _ 4 _ rfl rfl (by omega)) (ee_L rfl)) (by rw [decide_eq_true rfl]; rfl))
theorem t_over (I : yn_I t A) (T : TT A σ) (R : RW A σ) {d p : Nat} (hd : d < 3) (hp : p < cn A d) : sf_L_over [.ref 44, .ref (45 + d), .int (nI p)] σ = some (.inl (some (.int (yL A (yP A (sg A d p))))), σ) := t_over0 I T hd hp (fun j hj => (R d hd).2 j (by omega))
end LA5
