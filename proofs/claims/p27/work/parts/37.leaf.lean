/-! leaf readers of the component, as functions of the memory -/
section YL
def ya_W (σ : sy_Mem) : Prop := (σ 1 0).toInt ≤ 12 ∧ (σ 19 0).toInt ≤ 4 ∧ (σ 27 0).toInt ≤ 4 ∧ (∀ d, d < 3 → (σ 16 d).toInt ≤ 60) ∧ ∀ v, v < 4 → (σ (sy_vw v) 6).toInt ≤ 4 ∧ (σ (sy_vw v) 4 = 0 ∨ σ (sy_vw v) 4 = 1) ∧ (σ (sy_vw v) 3 = 0 ∨ σ (sy_vw v) 3 = 1)
def ya_isT (σ : sy_Mem) (t : Int32) : Bool := decide (0 ≤ t) && decide (t < σ 1 0)
def ya_tg (σ : sy_Mem) (k : Nat) (d t : Int32) : Int32 := if ya_isT σ t then σ k t.toNatClampNeg else d
def ya_sg (σ : sy_Mem) (k : Nat) (s : Int32) : Int32 := if (decide (0 ≤ s) && decide (s < 60)) = true then σ k s.toNatClampNeg else -1
def ya_N (σ : sy_Mem) (s f : Int32) : Int32 := if (((decide (0 ≤ s) && decide (s < 60)) && decide (0 ≤ f)) && decide (f < 3)) = true then σ 14 (3 * s.toNatClampNeg + f.toNatClampNeg) else -1
def ya_cnt (σ : sy_Mem) (d : Int32) : Int32 := if (decide (0 ≤ d) && decide (d < 3)) = true then σ 16 d.toNatClampNeg else 0
def ya_at (σ : sy_Mem) (d p : Int32) : Int32 := if ((((decide (0 ≤ d) && decide (d < 3)) && decide (0 ≤ p)) && decide (p < 60)) && decide (p < σ 16 d.toNatClampNeg)) = true then σ 15 (60 * d.toNatClampNeg + p.toNatClampNeg) else -1
def ya_isA (σ : sy_Mem) (a : Int32) : Bool := (decide (0 ≤ a) && decide (a < σ 19 0)) && decide (a < 4)
def ya_ag (σ : sy_Mem) (k : Nat) (d a : Int32) : Int32 := if ya_isA σ a then σ k a.toNatClampNeg else d
def ya_slot (σ : sy_Mem) (s f : Int32) : Int32 := if ((decide (0 ≤ s) && decide (s < 4)) && (decide (0 ≤ f) && decide (f < 3))) = true then σ 31 (3 * s.toNatClampNeg + f.toNatClampNeg) else 0
def ya_held (σ : sy_Mem) (v : Nat) (i : Int32) : Int32 := if ((decide (0 ≤ i) && decide (i < σ (sy_vw v) 6)) && decide (i < 4)) = true then σ (sy_vw v + 1) i.toNatClampNeg else -1
def ya_nd (σ : sy_Mem) (k : Nat) (i : Int32) : Int32 := if (decide (0 ≤ i) && decide (i < σ 27 0)) = true then σ k i.toNatClampNeg else -1
variable {σ : sy_Mem}
theorem yl_c0 : (0 : Int32).toInt = 0 := rfl
theorem yl_c1 : (1 : Int32).toInt = 1 := rfl
theorem yl_c2 : (2 : Int32).toInt = 2 := rfl
theorem yl_c3 : (3 : Int32).toInt = 3 := rfl
theorem yl_c4 : (4 : Int32).toInt = 4 := rfl
theorem yl_c12 : (12 : Int32).toInt = 12 := rfl
theorem yl_c60 : (60 : Int32).toInt = 60 := rfl
theorem yl_cm : (-1 : Int32).toInt = -1 := rfl
theorem yl_ge {x y : Int32} : (decide (x ≤ y) = true) = (x.toInt ≤ y.toInt) := by rw [decide_eq_true_eq, Int32.le_iff_toInt_le]
theorem yl_lt {x y : Int32} : (decide (x < y) = true) = (x.toInt < y.toInt) := by rw [decide_eq_true_eq, Int32.lt_iff_toInt_lt]
theorem yl_mul {x c : Int32} {n m : Nat} (hc : c.toInt = m) (h0 : 0 ≤ x.toInt) (h1 : x.toInt < n) (hm : m * n < 100000) : (x * c).toInt = x.toInt * m := by
  rw [Int32.toInt_mul, hc]
  have : x.toInt * (m : Int) ≤ n * m := Int.mul_le_mul_of_nonneg_right (by omega) (by omega)
  have h3 : 0 ≤ x.toInt * (m : Int) := Int.mul_nonneg h0 (by omega)
  have h4 : (n : Int) * m = ((m * n : Nat) : Int) := by rw [Int.natCast_mul, Int.mul_comm]
  exact Int.bmod_eq_of_le (by omega) (by omega)
theorem yl_add {x y : Int32} (h0 : -1000000000 ≤ x.toInt) (h1 : x.toInt ≤ 1000000000) (h2 : -1000000000 ≤ y.toInt) (h3 : y.toInt ≤ 1000000000) : (x + y).toInt = x.toInt + y.toInt := by
  rw [Int32.toInt_add]
  exact Int.bmod_eq_of_le (by omega) (by omega)
theorem yl_sub {x y : Int32} (h0 : -1000000000 ≤ x.toInt) (h1 : x.toInt ≤ 1000000000) (h2 : -1000000000 ≤ y.toInt) (h3 : y.toInt ≤ 1000000000) : (x - y).toInt = x.toInt - y.toInt := by
  rw [Int32.toInt_sub]
  exact Int.bmod_eq_of_le (by omega) (by omega)
/-- an index made of two -/
theorem yl_ix {x y : Int32} {c : Int32} {n m : Nat} (hc : c.toInt = m) (h0 : 0 ≤ x.toInt) (h1 : x.toInt < n) (hm : m * n < 100000) (h2 : 0 ≤ y.toInt) (h3 : y.toInt < m) : (x * c + y).toInt = m * x.toInt + y.toInt ∧ (x * c + y).toNatClampNeg = m * x.toNatClampNeg + y.toNatClampNeg ∧ sy_inb (x * c + y) (m * n) = true := by
  have a := yl_mul hc h0 h1 hm
  have b1 : x.toInt * (m : Int) ≤ (n - 1 : Int) * m := Int.mul_le_mul_of_nonneg_right (by omega) (by omega)
  have b2 : 0 ≤ x.toInt * (m : Int) := Int.mul_nonneg h0 (by omega)
  have b3 : ((n : Int) - 1) * m = ((m * n : Nat) : Int) - m := by rw [Int.sub_mul, Int.natCast_mul, Int.mul_comm, Int.one_mul]
  have c1 : (x * c + y).toInt = m * x.toInt + y.toInt := by rw [yl_add (by omega) (by omega) (by omega) (by omega), a, Int.mul_comm]
  have c2 : (m : Int) * x.toInt = x.toInt * m := Int.mul_comm _ _
  have c3 : (m * x.toNatClampNeg : Nat) = (x.toInt * m).toNat := by
    rw [yi_clampInt, Int.toNat_mul h0 (by omega), Int.toNat_natCast, Nat.mul_comm]
  refine ⟨c1, ?_, ?_⟩
  · rw [c3, yi_clampInt, yi_clampInt, c1]
    omega
  · rw [yi_inb, c1]
    omega
theorem yl_isT {t : Int32} : ya_isT σ t = true ↔ 0 ≤ t.toInt ∧ t.toInt < (σ 1 0).toInt := by
  unfold ya_isT
  rw [Bool.and_eq_true, yl_ge, yl_lt, yl_c0]
theorem yl_isTi (W : ya_W σ) {t : Int32} {k : Nat} (h : ya_isT σ t = true) (hk : sy_len 0 k = 12) : sy_inb t (sy_len 0 k) = true := by
  rw [hk, yi_inb]
  have := yl_isT.mp h
  have := W.1
  omega
theorem yl_isS {s : Int32} : ((decide (0 ≤ s) && decide (s < 60)) = true) = (0 ≤ s.toInt ∧ s.toInt < 60) := by
  rw [Bool.and_eq_true, yl_ge, yl_lt, yl_c0, yl_c60]
theorem yl_isD {s : Int32} : ((decide (0 ≤ s) && decide (s < 3)) = true) = (0 ≤ s.toInt ∧ s.toInt < 3) := by
  rw [Bool.and_eq_true, yl_ge, yl_lt, yl_c0, yl_c3]
theorem yl_isL {s : Int32} : ((decide (0 ≤ s) && decide (s < 4)) = true) = (0 ≤ s.toInt ∧ s.toInt < 4) := by
  rw [Bool.and_eq_true, yl_ge, yl_lt, yl_c0, yl_c4]
theorem yt_X2_isType (σ : sy_Mem) (t : Int32) : sf_X2_isType [.ref 1, .int t] σ = some (.inl (some (.int (ya_b (ya_isT σ t)))), σ) := by
  refine ee_meth ?_ rfl
  unfold sm_X2_isType ya_isT
  exact es_eZb (ee_iC (ee_cA (ee_cB (ee_L rfl) ee_K) (fun _ => ee_cB (ee_L rfl) (ee_F (ee_R rfl) rfl))))
theorem yt_X2_databaseOf (W : ya_W σ) (t : Int32) : sf_X2_databaseOf [.ref 1, .int t] σ = some (.inl (some (.int (ya_tg σ 2 (-1) t))), σ) := by
  refine ee_meth ?_ rfl
  unfold sm_X2_databaseOf ya_tg
  exact es_eI (ee_iQ (ee_cb (ee_M (ee_aR (ee_R rfl) (ee_aI (ee_L rfl) ee_aN)) (ee_cv (yt_X2_isType σ t) rfl))) (fun h => ee_A (ee_rF (ee_R rfl) rfl) (ee_L rfl) (yl_isTi W h rfl)) (fun _ => ee_K))
theorem yt_X2_parentOf (W : ya_W σ) (t : Int32) : sf_X2_parentOf [.ref 1, .int t] σ = some (.inl (some (.int (ya_tg σ 3 (-1) t))), σ) := by
  refine ee_meth ?_ rfl
  unfold sm_X2_parentOf ya_tg
  exact es_eI (ee_iQ (ee_cb (ee_M (ee_aR (ee_R rfl) (ee_aI (ee_L rfl) ee_aN)) (ee_cv (yt_X2_isType σ t) rfl))) (fun h => ee_A (ee_rF (ee_R rfl) rfl) (ee_L rfl) (yl_isTi W h rfl)) (fun _ => ee_K))
theorem yt_X2_levelOf (W : ya_W σ) (t : Int32) : sf_X2_levelOf [.ref 1, .int t] σ = some (.inl (some (.int (ya_tg σ 4 0 t))), σ) := by
  refine ee_meth ?_ rfl
  unfold sm_X2_levelOf ya_tg
  exact es_eI (ee_iQ (ee_cb (ee_M (ee_aR (ee_R rfl) (ee_aI (ee_L rfl) ee_aN)) (ee_cv (yt_X2_isType σ t) rfl))) (fun h => ee_A (ee_rF (ee_R rfl) rfl) (ee_L rfl) (yl_isTi W h rfl)) (fun _ => ee_K))
theorem yt_X2_keysOf (W : ya_W σ) (t : Int32) : sf_X2_keysOf [.ref 1, .int t] σ = some (.inl (some (.int (ya_tg σ 5 (-1) t))), σ) := by
  refine ee_meth ?_ rfl
  unfold sm_X2_keysOf ya_tg
  exact es_eI (ee_iQ (ee_cb (ee_M (ee_aR (ee_R rfl) (ee_aI (ee_L rfl) ee_aN)) (ee_cv (yt_X2_isType σ t) rfl))) (fun h => ee_A (ee_rF (ee_R rfl) rfl) (ee_L rfl) (yl_isTi W h rfl)) (fun _ => ee_K))
theorem yt_X2_ruleOf (W : ya_W σ) (t : Int32) : sf_X2_ruleOf [.ref 1, .int t] σ = some (.inl (some (.int (ya_tg σ 6 (-1) t))), σ) := by
  refine ee_meth ?_ rfl
  unfold sm_X2_ruleOf ya_tg
  exact es_eI (ee_iQ (ee_cb (ee_M (ee_aR (ee_R rfl) (ee_aI (ee_L rfl) ee_aN)) (ee_cv (yt_X2_isType σ t) rfl))) (fun h => ee_A (ee_rF (ee_R rfl) rfl) (ee_L rfl) (yl_isTi W h rfl)) (fun _ => ee_K))
theorem yt_X2_targetOf (W : ya_W σ) (t : Int32) : sf_X2_targetOf [.ref 1, .int t] σ = some (.inl (some (.int (ya_tg σ 7 (-1) t))), σ) := by
  refine ee_meth ?_ rfl
  unfold sm_X2_targetOf ya_tg
  exact es_eI (ee_iQ (ee_cb (ee_M (ee_aR (ee_R rfl) (ee_aI (ee_L rfl) ee_aN)) (ee_cv (yt_X2_isType σ t) rfl))) (fun h => ee_A (ee_rF (ee_R rfl) rfl) (ee_L rfl) (yl_isTi W h rfl)) (fun _ => ee_K))
theorem yt_X2_comingOf (W : ya_W σ) (t : Int32) : sf_X2_comingOf [.ref 1, .int t] σ = some (.inl (some (.int (ya_tg σ 8 (-1) t))), σ) := by
  refine ee_meth ?_ rfl
  unfold sm_X2_comingOf ya_tg
  exact es_eI (ee_iQ (ee_cb (ee_M (ee_aR (ee_R rfl) (ee_aI (ee_L rfl) ee_aN)) (ee_cv (yt_X2_isType σ t) rfl))) (fun h => ee_A (ee_rF (ee_R rfl) rfl) (ee_L rfl) (yl_isTi W h rfl)) (fun _ => ee_K))
theorem yt_X2_goingOf (W : ya_W σ) (t : Int32) : sf_X2_goingOf [.ref 1, .int t] σ = some (.inl (some (.int (ya_tg σ 9 (-1) t))), σ) := by
  refine ee_meth ?_ rfl
  unfold sm_X2_goingOf ya_tg
  exact es_eI (ee_iQ (ee_cb (ee_M (ee_aR (ee_R rfl) (ee_aI (ee_L rfl) ee_aN)) (ee_cv (yt_X2_isType σ t) rfl))) (fun h => ee_A (ee_rF (ee_R rfl) rfl) (ee_L rfl) (yl_isTi W h rfl)) (fun _ => ee_K))
theorem yt_X3_typeOf (σ : sy_Mem) (s : Int32) : sf_X3_typeOf [.ref 10, .int s] σ = some (.inl (some (.int (ya_sg σ 11 s))), σ) := by
  refine ee_meth ?_ rfl
  unfold sm_X3_typeOf ya_sg
  exact es_eI (ee_iQ (ee_cA (ee_cB (ee_L rfl) ee_K) (fun _ => ee_cB (ee_L rfl) ee_K)) (fun h => ee_A (ee_rF (ee_R rfl) rfl) (ee_L rfl) (yi_inb.mpr (yl_isS.mp h))) (fun _ => ee_K))
theorem yt_X3_parentOf (σ : sy_Mem) (s : Int32) : sf_X3_parentOf [.ref 10, .int s] σ = some (.inl (some (.int (ya_sg σ 12 s))), σ) := by
  refine ee_meth ?_ rfl
  unfold sm_X3_parentOf ya_sg
  exact es_eI (ee_iQ (ee_cA (ee_cB (ee_L rfl) ee_K) (fun _ => ee_cB (ee_L rfl) ee_K)) (fun h => ee_A (ee_rF (ee_R rfl) rfl) (ee_L rfl) (yi_inb.mpr (yl_isS.mp h))) (fun _ => ee_K))
theorem yt_X3_placeOf (σ : sy_Mem) (s : Int32) : sf_X3_placeOf [.ref 10, .int s] σ = some (.inl (some (.int (ya_sg σ 17 s))), σ) := by
  refine ee_meth ?_ rfl
  unfold sm_X3_placeOf ya_sg
  exact es_eI (ee_iQ (ee_cA (ee_cB (ee_L rfl) ee_K) (fun _ => ee_cB (ee_L rfl) ee_K)) (fun h => ee_A (ee_rF (ee_R rfl) rfl) (ee_L rfl) (yi_inb.mpr (yl_isS.mp h))) (fun _ => ee_K))
theorem yt_X3_countOf (σ : sy_Mem) (s : Int32) : sf_X3_countOf [.ref 10, .int s] σ = some (.inl (some (.int (ya_cnt σ s))), σ) := by
  refine ee_meth ?_ rfl
  unfold sm_X3_countOf ya_cnt
  exact es_eI (ee_iQ (ee_cA (ee_cB (ee_L rfl) ee_K) (fun _ => ee_cB (ee_L rfl) ee_K)) (fun h => ee_A (ee_rF (ee_R rfl) rfl) (ee_L rfl) (yi_inb.mpr (yl_isD.mp h))) (fun _ => ee_K))
theorem yt_X3_numberOf (σ : sy_Mem) (s f : Int32) : sf_X3_numberOf [.ref 10, .int s, .int f] σ = some (.inl (some (.int (ya_N σ s f))), σ) := by
  refine ee_meth ?_ rfl
  unfold sm_X3_numberOf
  refine es_Q (es_SI (ee_iC (ee_cA (ee_cA (ee_cA (ee_cB (ee_L rfl) ee_K) (fun _ => ee_cB (ee_L rfl) ee_K)) (fun _ => ee_cB (ee_L rfl) ee_K)) (fun _ => ee_cB (ee_L rfl) ee_K))) ?_)
  unfold ya_N
  by_cases hc : (((decide (0 ≤ s) && decide (s < 60)) && decide (0 ≤ f)) && decide (f < 3)) = true
  · have hd := hc
    rw [Bool.and_eq_true, Bool.and_eq_true, yl_isS, yl_ge, yl_lt, yl_c0, yl_c3] at hd
    obtain ⟨⟨⟨h1, h2⟩, h3⟩, h4⟩ := hd
    have e := yl_ix (n := 60) (m := 3) yl_c3 h1 h2 (by omega) h3 h4
    rw [if_pos hc, ← e.2.1]
    exact (es_eI (ee_iQ (ee_cb (ee_L rfl)) (fun h => ee_A (ee_rF (ee_R rfl) rfl) (ee_B (ee_B (ee_L rfl) ee_K) (ee_L rfl)) e.2.2) (fun _ => ee_K))).trans (by rw [if_pos hc])
  · rw [if_neg hc]
    exact (es_eI (ee_iQ (y := -1) (x := 0) (ee_cb (ee_L rfl)) (fun h => absurd h hc) (fun _ => ee_K))).trans (by rw [if_neg hc])
theorem yt_X3_segmentAt (W : ya_W σ) (d p : Int32) : sf_X3_segmentAt [.ref 10, .int d, .int p] σ = some (.inl (some (.int (ya_at σ d p))), σ) := by
  refine ee_meth ?_ rfl
  unfold sm_X3_segmentAt
  refine es_Q (es_SI (ee_iC (ee_cA (ee_cA (ee_cA (ee_cB (ee_L rfl) ee_K) (fun _ => ee_cB (ee_L rfl) ee_K)) (fun _ => ee_cB (ee_L rfl) ee_K)) (fun _ => ee_cB (ee_L rfl) ee_K))) ?_)
  unfold ya_at
  by_cases hc : (((decide (0 ≤ d) && decide (d < 3)) && decide (0 ≤ p)) && decide (p < 60)) = true
  · have hd := hc
    rw [Bool.and_eq_true, Bool.and_eq_true, yl_isD, yl_ge, yl_lt, yl_c0, yl_c60] at hd
    obtain ⟨⟨⟨h1, h2⟩, h3⟩, h4⟩ := hd
    have e := yl_ix (n := 3) (m := 60) yl_c60 h1 h2 (by omega) h3 h4
    rw [← e.2.1]
    exact es_eI (ee_iQ (ee_cA (ee_cb (ee_L rfl)) (fun _ => ee_cB (ee_L rfl) (ee_A (ee_rF (ee_R rfl) rfl) (ee_L rfl) (yi_inb.mpr ⟨h1, h2⟩)))) (fun h => ee_A (ee_rF (ee_R rfl) rfl) (ee_B (ee_B (ee_L rfl) ee_K) (ee_L rfl)) e.2.2) (fun _ => ee_K))
  · have hx : ¬ ((((decide (0 ≤ d) && decide (d < 3)) && decide (0 ≤ p)) && decide (p < 60)) && decide (p < σ 16 d.toNatClampNeg)) = true := by
      rw [Bool.and_eq_true]
      exact fun h => hc h.1
    rw [if_neg hx]
    exact (es_eI (ee_iQ (z := false) (y := -1) (x := 0) ((ee_cA (y := false) (ee_cb (ee_L rfl)) (fun h => absurd h hc)).trans (by rw [Bool.and_false])) (fun h => absurd h (by decide)) (fun _ => ee_K)))
theorem yt_X3_isNumber (σ : sy_Mem) (s : Int32) : sf_X3_isNumber [.int s] σ = some (.inl (some (.int (ya_b (decide (0 ≤ s) && decide (s < 60))))), σ) := by
  refine ee_meth ?_ rfl
  unfold sm_X3_isNumber
  exact es_eZb (ee_iC (ee_cA (ee_cB (ee_L rfl) ee_K) (fun _ => ee_cB (ee_L rfl) ee_K)))
/-- a twin: of the type, with the parent -/
def ya_tw (σ : sy_Mem) (s t p : Int32) : Bool := ((decide (0 ≤ s) && decide (s < 60)) && decide (ya_sg σ 11 s = t)) && decide (ya_sg σ 12 s = p)
theorem yt_X3_isTwin (σ : sy_Mem) (s t p : Int32) : sf_X3_isTwin [.ref 10, .int s, .int t, .int p] σ = some (.inl (some (.int (ya_b (ya_tw σ s t p)))), σ) := by
  refine ee_meth ?_ rfl
  unfold sm_X3_isTwin
  refine es_Q (es_SI (ee_iC (ee_cA (ee_cB (ee_L rfl) ee_K) (fun _ => ee_cB (ee_L rfl) ee_K))) ?_)
  unfold ya_tw ya_sg
  by_cases hc : (decide (0 ≤ s) && decide (s < 60)) = true
  · rw [if_pos hc, if_pos hc]
    exact es_eZb (ee_iC (ee_cA (ee_cA (ee_cb (ee_L rfl)) (fun _ => ee_cB (ee_A (ee_rF (ee_R rfl) rfl) (ee_L rfl) (yi_inb.mpr (yl_isS.mp hc))) (ee_L rfl))) (fun _ => ee_cB (ee_A (ee_rF (ee_R rfl) rfl) (ee_L rfl) (yi_inb.mpr (yl_isS.mp hc))) (ee_L rfl))))
  · have hx : (decide (0 ≤ s) && decide (s < 60)) = false := by simpa using hc
    refine (es_eZb (c := false) (ee_iC ?_)).trans (by rw [hx]; rfl)
    refine (ee_cA (x := false) (y := false) ?_ (fun h => absurd h (by decide)))
    refine (ee_cA (y := false) (ee_cb (ee_L rfl)) (fun h => absurd h hc)).trans (by rw [Bool.and_false])
theorem yt_X0_isListed (σ : sy_Mem) (a : Int32) : sf_X0_isListed [.ref 19, .int a] σ = some (.inl (some (.int (ya_b (ya_isA σ a)))), σ) := by
  refine ee_meth ?_ rfl
  unfold sm_X0_isListed ya_isA
  exact es_eZb (ee_iC (ee_cA (ee_cA (ee_cB (ee_L rfl) ee_K) (fun _ => ee_cB (ee_L rfl) (ee_F (ee_R rfl) rfl))) (fun _ => ee_cB (ee_L rfl) ee_K)))
theorem yl_isA {a : Int32} : ya_isA σ a = true ↔ 0 ≤ a.toInt ∧ a.toInt < (σ 19 0).toInt ∧ a.toInt < 4 := by
  unfold ya_isA
  rw [Bool.and_eq_true, Bool.and_eq_true, yl_ge, yl_lt, yl_lt, yl_c0, yl_c4, and_assoc]
theorem yl_isAi {a : Int32} {n : Nat} (h : ya_isA σ a = true) (hn : n = 4) : sy_inb a n = true := by
  rw [hn, yi_inb]
  have := yl_isA.mp h
  omega
theorem yt_X0_size (σ : sy_Mem) : sf_X0_size [.ref 19] σ = some (.inl (some (.int (σ 19 0))), σ) := rfl
theorem yt_X0_typeOf (σ : sy_Mem) (a : Int32) : sf_X0_typeOf [.ref 19, .int a] σ = some (.inl (some (.int (ya_ag σ 20 (-1) a))), σ) := by
  refine ee_meth ?_ rfl
  unfold sm_X0_typeOf ya_ag
  exact es_eI (ee_iQ (ee_cb (ee_M (ee_aR (ee_R rfl) (ee_aI (ee_L rfl) ee_aN)) (ee_cv (yt_X0_isListed σ a) rfl))) (fun h => ee_A (ee_rF (ee_R rfl) rfl) (ee_L rfl) (yl_isAi h rfl)) (fun _ => ee_K))
theorem yt_X0_conditionsOf (σ : sy_Mem) (a : Int32) : sf_X0_conditionsOf [.ref 19, .int a] σ = some (.inl (some (.int (ya_ag σ 22 0 a))), σ) := by
  refine ee_meth ?_ rfl
  unfold sm_X0_conditionsOf ya_ag
  exact es_eI (ee_iQ (ee_cA (ee_cA (ee_cB (ee_L rfl) ee_K) (fun _ => ee_cB (ee_L rfl) (ee_F (ee_R rfl) rfl))) (fun _ => ee_cB (ee_L rfl) ee_K)) (fun h => ee_A (ee_rF (ee_R rfl) rfl) (ee_L rfl) (yl_isAi (σ := σ) h rfl)) (fun _ => ee_K))
def ya_code (σ : sy_Mem) (a c : Int32) : Bool := ya_isA σ a && !decide (ya_ag σ 21 0 a &&& c = 0)
theorem yt_X0_hasCode (σ : sy_Mem) (a c : Int32) : sf_X0_hasCode [.ref 19, .int a, .int c] σ = some (.inl (some (.int (ya_b (ya_code σ a c)))), σ) := by
  refine ee_meth ?_ rfl
  unfold sm_X0_hasCode ya_code ya_ag
  exact es_eZb (ee_iC (ee_cA (ee_cb (ee_M (ee_aR (ee_R rfl) (ee_aI (ee_L rfl) ee_aN)) (ee_cv (yt_X0_isListed σ a) rfl))) (fun h => by rw [if_pos h]; exact ee_cB (ee_B (ee_A (ee_rF (ee_R rfl) rfl) (ee_L rfl) (yl_isAi h rfl)) (ee_L rfl)) ee_K)))
theorem yt_X5_isIn (σ : sy_Mem) (x y : Int32) : sf_X5_isIn [.int x, .int y] σ = some (.inl (some (.int (ya_b (decide (0 ≤ x) && decide (x < y))))), σ) := by
  refine ee_meth ?_ rfl
  unfold sm_X5_isIn
  exact es_eZb (ee_iC (ee_cA (ee_cB (ee_L rfl) ee_K) (fun _ => ee_cB (ee_L rfl) (ee_L rfl))))
theorem yt_X5_slotNumber (σ : sy_Mem) (s f : Int32) : sf_X5_slotNumber [.ref 0, .int s, .int f] σ = some (.inl (some (.int (ya_slot σ s f))), σ) := by
  refine ee_meth ?_ rfl
  unfold sm_X5_slotNumber ya_slot
  by_cases hc : ((decide (0 ≤ s) && decide (s < 4)) && (decide (0 ≤ f) && decide (f < 3))) = true
  · have hd := hc
    rw [Bool.and_eq_true, yl_isL, yl_isD] at hd
    have e := yl_ix (n := 4) (m := 3) yl_c3 hd.1.1 hd.1.2 (by omega) hd.2.1 hd.2.2
    rw [← e.2.1]
    exact es_eI (ee_iQ (ee_cA (ee_cb (ee_M (ee_aI (ee_L rfl) (ee_aI ee_K ee_aN)) (ee_cs (yt_X5_isIn σ s 4) rfl))) (fun _ => ee_cb (ee_M (ee_aI (ee_L rfl) (ee_aI ee_K ee_aN)) (ee_cs (yt_X5_isIn σ f 3) rfl)))) (fun h => ee_A (ee_rF (ee_R rfl) rfl) (ee_B (ee_B (ee_L rfl) ee_K) (ee_L rfl)) e.2.2) (fun _ => ee_K))
  · rw [if_neg hc]
    exact (es_eI (ee_iQ (y := 0) (x := 0) (ee_cA (ee_cb (ee_M (ee_aI (ee_L rfl) (ee_aI ee_K ee_aN)) (ee_cs (yt_X5_isIn σ s 4) rfl))) (fun _ => ee_cb (ee_M (ee_aI (ee_L rfl) (ee_aI ee_K ee_aN)) (ee_cs (yt_X5_isIn σ f 3) rfl)))) (fun h => absurd h hc) (fun _ => ee_K))).trans (by rw [if_neg hc])
theorem yt_X1_isRefused (σ : sy_Mem) (h : σ 27 1 = 0 ∨ σ 27 1 = 1) : sf_X1_isRefused [.ref 27] σ = some (.inl (some (.int (σ 27 1))), σ) := by
  refine ee_meth ?_ rfl
  unfold sm_X1_isRefused
  exact es_eZ (ee_F (ee_R rfl) rfl) h
theorem yt_X1_size (σ : sy_Mem) : sf_X1_size [.ref 27] σ = some (.inl (some (.int (σ 27 0))), σ) := rfl
theorem yt_X2_size (σ : sy_Mem) : sf_X2_size [.ref 1] σ = some (.inl (some (.int (σ 1 0))), σ) := rfl
theorem yt_X3_size (σ : sy_Mem) : sf_X3_size [.ref 10] σ = some (.inl (some (.int (σ 10 9))), σ) := rfl
theorem yl_nd (W : ya_W σ) {a : Int32} {n : Nat} (h : (decide (0 ≤ a) && decide (a < σ 27 0)) = true) (hn : n = 4) : sy_inb a n = true := by
  rw [Bool.and_eq_true, yl_ge, yl_lt, yl_c0] at h
  rw [hn, yi_inb]
  have := W.2.2.1
  omega
theorem yt_X1_typeOf (W : ya_W σ) (a : Int32) : sf_X1_typeOf [.ref 27, .int a] σ = some (.inl (some (.int (ya_nd σ 28 a))), σ) := by
  refine ee_meth ?_ rfl
  unfold sm_X1_typeOf ya_nd
  exact es_eI (ee_iQ (ee_cA (ee_cB (ee_L rfl) ee_K) (fun _ => ee_cB (ee_L rfl) (ee_F (ee_R rfl) rfl))) (fun h => ee_A (ee_rF (ee_R rfl) rfl) (ee_L rfl) (yl_nd W h rfl)) (fun _ => ee_K))
theorem yt_X1_keyOf (W : ya_W σ) (a : Int32) : sf_X1_keyOf [.ref 27, .int a] σ = some (.inl (some (.int (ya_nd σ 29 a))), σ) := by
  refine ee_meth ?_ rfl
  unfold sm_X1_keyOf ya_nd
  exact es_eI (ee_iQ (ee_cA (ee_cB (ee_L rfl) ee_K) (fun _ => ee_cB (ee_L rfl) (ee_F (ee_R rfl) rfl))) (fun h => ee_A (ee_rF (ee_R rfl) rfl) (ee_L rfl) (yl_nd W h rfl)) (fun _ => ee_K))
theorem yt_X4_parentSegment (σ : sy_Mem) {v : Nat} (hv : v < 4) : sf_X4_parentSegment [.ref (sy_vw v)] σ = some (.inl (some (.int (σ (sy_vw v) 5))), σ) := by
  refine ee_meth ?_ rfl
  unfold sm_X4_parentSegment
  exact es_eI (ee_F (ee_R rfl) (yv_I hv (by decide)))
theorem yt_X4_database (σ : sy_Mem) {v : Nat} (hv : v < 4) : sf_X4_database [.ref (sy_vw v)] σ = some (.inl (some (.int (σ (sy_vw v) 0))), σ) := by
  refine ee_meth ?_ rfl
  unfold sm_X4_database
  exact es_eI (ee_F (ee_R rfl) (yv_I hv (by decide)))
theorem yt_X4_mark (σ : sy_Mem) {v : Nat} (hv : v < 4) : sf_X4_mark [.ref (sy_vw v)] σ = some (.inl (some (.int (σ (sy_vw v) 2))), σ) := by
  refine ee_meth ?_ rfl
  unfold sm_X4_mark
  exact es_eI (ee_F (ee_R rfl) (yv_I hv (by decide)))
theorem yt_X4_heldCount (σ : sy_Mem) {v : Nat} (hv : v < 4) : sf_X4_heldCount [.ref (sy_vw v)] σ = some (.inl (some (.int (σ (sy_vw v) 6))), σ) := by
  refine ee_meth ?_ rfl
  unfold sm_X4_heldCount
  exact es_eI (ee_F (ee_R rfl) (yv_I hv (by decide)))
theorem yt_X4_isBehindAll (σ : sy_Mem) {v : Nat} (hv : v < 4) (h : σ (sy_vw v) 4 = 0 ∨ σ (sy_vw v) 4 = 1) : sf_X4_isBehindAll [.ref (sy_vw v)] σ = some (.inl (some (.int (σ (sy_vw v) 4))), σ) := by
  refine ee_meth ?_ rfl
  unfold sm_X4_isBehindAll
  exact es_eZ (ee_F (ee_R rfl) (yv_I hv (by decide))) h
/-- the segment at which a view is -/
def ya_here (σ : sy_Mem) (v : Nat) : Int32 := if !decide (σ (sy_vw v) 3 = 0) then σ (sy_vw v) 2 else -1
theorem yt_X4_segmentAt (σ : sy_Mem) {v : Nat} (hv : v < 4) : sf_X4_segmentAt [.ref (sy_vw v)] σ = some (.inl (some (.int (ya_here σ v))), σ) := by
  refine ee_meth ?_ rfl
  unfold sm_X4_segmentAt ya_here
  exact es_eI (ee_iQ (ee_cI (ee_F (ee_R rfl) (yv_I hv (by decide)))) (fun _ => ee_F (ee_R rfl) (yv_I hv (by decide))) (fun _ => ee_K))
theorem yt_X4_heldAt (σ : sy_Mem) {v : Nat} (hv : v < 4) (i : Int32) : sf_X4_heldAt [.ref (sy_vw v), .int i] σ = some (.inl (some (.int (ya_held σ v i))), σ) := by
  refine ee_meth ?_ rfl
  unfold sm_X4_heldAt ya_held
  refine es_eI (ee_iQ (ee_cA (ee_cA (ee_cB (ee_L rfl) ee_K) (fun _ => ee_cB (ee_L rfl) (ee_F (ee_R rfl) (yv_I hv (by decide))))) (fun _ => ee_cB (ee_L rfl) ee_K)) (fun h => ee_A (ee_rF (ee_R rfl) (yv_F7 hv)) (ee_L rfl) ?_) (fun _ => ee_K))
  rw [yv_L7 hv, yi_inb]
  rw [Bool.and_eq_true, Bool.and_eq_true, yl_ge, yl_lt, yl_lt, yl_c0, yl_c4] at h
  omega
def ya_kept (σ : sy_Mem) (v : Nat) (i : Int32) : Bool := (((decide (0 ≤ i) && decide (i < σ (sy_vw v) 6)) && decide (i < 4)) && !decide (σ (sy_vw v + 2) i.toNatClampNeg = 0))
theorem yt_X4_isKept (σ : sy_Mem) {v : Nat} (hv : v < 4) (i : Int32) : sf_X4_isKept [.ref (sy_vw v), .int i] σ = some (.inl (some (.int (ya_b (ya_kept σ v i)))), σ) := by
  refine ee_meth ?_ rfl
  unfold sm_X4_isKept ya_kept
  refine es_eZb (ee_iC (ee_cA (ee_cA (ee_cA (ee_cB (ee_L rfl) ee_K) (fun _ => ee_cB (ee_L rfl) (ee_F (ee_R rfl) (yv_I hv (by decide))))) (fun _ => ee_cB (ee_L rfl) ee_K)) (fun h => ee_cI (ee_A (ee_rF (ee_R rfl) (yv_F8 hv)) (ee_L rfl) ?_))))
  rw [yv_L8 hv, yi_inb]
  rw [Bool.and_eq_true, Bool.and_eq_true, yl_ge, yl_lt, yl_lt, yl_c0, yl_c4] at h
  omega
theorem yt_X5_viewOf (σ : sy_Mem) (v : Int32) : sf_X5_viewOf [.ref 0, .int v] σ = if (decide (0 ≤ v) && decide (v < 4)) then some (.inl (some (.ref (sy_vw v.toNatClampNeg))), σ) else some (.inr 1, σ) := by
  refine ee_meth ?_ rfl
  unfold sm_X5_viewOf
  by_cases hc : (decide (0 ≤ v) && decide (v < 4)) = true
  · rw [if_pos hc]
    have hd := yl_isL.mp hc
    have hi : sy_inb v (sy_len 2 30) = true := yi_inb.mpr hd
    have h1 : decide (v < 0) = false := by rw [decide_eq_false_iff_not, Int32.lt_iff_toInt_lt, yl_c0]; omega
    have h2 : decide ((Int32.ofNat 4) ≤ v) = false := by rw [decide_eq_false_iff_not, Int32.le_iff_toInt_le]; have : (Int32.ofNat 4).toInt = 4 := rfl; omega
    refine es_Q ((es_I (x := false) ((ee_cO (x := false) (y := false) ((ee_cO (x := false) (y := false) ((ee_cB (ee_L rfl) ee_K).trans (by rw [h1])) (fun _ => (ee_cB (ee_L rfl) (ee_N (ee_rF (ee_R rfl) rfl) rfl)).trans (by rw [h2])))) (fun _ => ee_c0 (ee_V (ee_rF (ee_R rfl) rfl) (ee_L rfl) hi)))) (r1 := none) (fun h => absurd h (by decide)) (fun _ => es_N (es_eR (ee_V (ee_rF (ee_R rfl) rfl) (ee_L rfl) hi)))).trans (if_neg (by decide)))
  · rw [if_neg hc]
    refine es_Q ((es_I (x := true) (ee_cO (x := true) (y := true) ?_ (fun h => absurd h (by decide))) (fun _ => es_eT) (r2 := none) (fun h => absurd h (by decide))).trans (if_pos rfl))
    rcases Int32.lt_or_le v 0 with q | q
    · exact (ee_cO (y := true) ((ee_cB (ee_L rfl) ee_K).trans (by rw [decide_eq_true q])) (fun h => absurd h (by decide))).trans (by rfl)
    · refine (ee_cO (x := false) (y := true) ((ee_cB (ee_L rfl) ee_K).trans (by rw [decide_eq_false (Int32.not_lt.mpr q)])) (fun _ => (ee_cB (ee_L rfl) (ee_N (ee_rF (ee_R rfl) rfl) rfl)).trans (congrArg (fun q => some (Sum.inl q, σ)) (decide_eq_true ?_)))).trans (by rfl)
      rw [yl_isL] at hc
      rw [Int32.le_iff_toInt_le] at q ⊢
      have : (Int32.ofNat 4).toInt = 4 := rfl
      rw [yl_c0] at q
      omega
theorem yt_X5_needIndex (σ : sy_Mem) (c : Bool) : sf_X5_needIndex [.int (ya_b c)] σ = if c then some (.inl none, σ) else some (.inr 1, σ) := by
  cases c <;> rfl
theorem yt_X5_needRange (σ : sy_Mem) (c : Bool) : sf_X5_needRange [.int (ya_b c)] σ = if c then some (.inl none, σ) else some (.inr 2, σ) := by
  cases c <;> rfl
theorem yt_X5_needState (σ : sy_Mem) (c : Bool) : sf_X5_needState [.int (ya_b c)] σ = if c then some (.inl none, σ) else some (.inr 3, σ) := by
  cases c <;> rfl
theorem yl_tgle {k : Nat} {d t : Int32} {n : Int} (h : ∀ i, i < 12 → (σ k i).toInt ≤ n) (W : ya_W σ) (hd : d.toInt ≤ n) : (ya_tg σ k d t).toInt ≤ n := by
  unfold ya_tg
  by_cases hc : ya_isT σ t = true
  · rw [if_pos hc]
    have h1 := yl_isT.mp hc
    have h2 := W.1
    exact h _ (by rw [yi_clampInt]; omega)
  · rw [if_neg hc]
    exact hd
theorem yl_cnt (W : ya_W σ) (d : Int32) : (ya_cnt σ d).toNatClampNeg ≤ 60 := by
  unfold ya_cnt
  by_cases hc : (decide (0 ≤ d) && decide (d < 3)) = true
  · rw [if_pos hc]
    have h1 := yl_isD.mp hc
    have h2 := W.2.2.2.1 d.toNatClampNeg (by rw [yi_clampInt]; omega)
    rw [yi_clampInt]
    omega
  · rw [if_neg hc]
    decide
end YL
