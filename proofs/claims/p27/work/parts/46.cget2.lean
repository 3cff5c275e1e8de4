section YG2
variable {σ : sy_Mem} {t : Nat}
/-- how many of the first i arguments have PATH -/
def ya_sl (σ : sy_Mem) : Nat → Nat
  | 0 => 0
  | i + 1 => ya_sl σ i + (if ya_code σ (nI i) 1 then 1 else 0)
theorem ya_sl_le (σ : sy_Mem) : ∀ i, ya_sl σ i ≤ i
  | 0 => Nat.le_refl _
  | i + 1 => by
    have := ya_sl_le σ i
    unfold ya_sl
    split <;> omega
/-- behind the first i arguments -/
def ya_dl (σ : sy_Mem) (v : Nat) (x : Int32) (h : Bool) : Nat → sy_Mem
  | 0 => σ
  | i + 1 => if ya_code σ (nI i) 1 then ya_one (ya_dl σ v x h i) v (ya_sl σ i) (ya_X3_upward σ x (ya_ag σ 20 (-1) (nI i))) h (ya_code σ (nI i) 32) else ya_dl σ v x h i
theorem ya_one_ne (σ : sy_Mem) {v n : Nat} {x : Int32} {h q : Bool} {k : Nat} (hk : k ≠ 31) (h0 : k ≠ sy_vw v) (h1 : k ≠ sy_vw v + 1) (h2 : k ≠ sy_vw v + 2) : ya_one σ v n x h q k = σ k := by
  unfold ya_one ya_hold
  cases h
  · exact ya_fillN_ne σ n x hk 3
  · show sy_up (sy_up (sy_up _ _ _ _) _ _ _) _ _ _ k = _
    rw [yu_ne h0, yu_ne h2, yu_ne h1, ya_fillN_ne σ n x hk 3]
theorem ya_one_vw (σ : sy_Mem) {v n : Nat} {x : Int32} {h q : Bool} (hv : v < 4) {i : Nat} (hi : i ≠ 6) : ya_one σ v n x h q (sy_vw v) i = σ (sy_vw v) i := by
  have hb := yv_lt hv
  unfold ya_one ya_hold
  cases h
  · show ya_fillN σ n x 3 (sy_vw v) i = _
    rw [ya_fillN_ne σ n x (by omega) 3]
  · show sy_up (sy_up (sy_up _ _ _ _) _ _ _) _ _ _ (sy_vw v) i = _
    rw [yu_an hi, yu_ne (by omega), yu_ne (by omega), ya_fillN_ne σ n x (by omega) 3]
theorem ya_one_6 (σ : sy_Mem) {v n : Nat} {x : Int32} {h q : Bool} (hv : v < 4) : ya_one σ v n x h q (sy_vw v) 6 = if h then nI (n + 1) else σ (sy_vw v) 6 := by
  have hb := yv_lt hv
  unfold ya_one ya_hold
  cases h
  · show ya_fillN σ n x 3 (sy_vw v) 6 = _
    rw [ya_fillN_ne σ n x (by omega) 3]
    rfl
  · show sy_up (sy_up (sy_up _ _ _ _) _ _ _) _ _ _ (sy_vw v) 6 = _
    rw [yu_at]
    rfl
theorem ya_dl_ne (σ : sy_Mem) {v : Nat} {x : Int32} {h : Bool} {k : Nat} (hk : k ≠ 31) (h0 : k ≠ sy_vw v) (h1 : k ≠ sy_vw v + 1) (h2 : k ≠ sy_vw v + 2) : ∀ i, ya_dl σ v x h i k = σ k
  | 0 => rfl
  | i + 1 => by
    unfold ya_dl
    split
    · rw [ya_one_ne _ hk h0 h1 h2, ya_dl_ne σ hk h0 h1 h2 i]
    · exact ya_dl_ne σ hk h0 h1 h2 i
theorem ya_dl_vw (σ : sy_Mem) {v : Nat} {x : Int32} {h : Bool} (hv : v < 4) {j : Nat} (hj : j ≠ 6) : ∀ i, ya_dl σ v x h i (sy_vw v) j = σ (sy_vw v) j
  | 0 => rfl
  | i + 1 => by
    unfold ya_dl
    split
    · rw [ya_one_vw _ hv hj, ya_dl_vw σ hv hj i]
    · exact ya_dl_vw σ hv hj i
theorem ya_dl_6 (σ : sy_Mem) {v : Nat} {x : Int32} {h : Bool} (hv : v < 4) (h6 : σ (sy_vw v) 6 = 0) : ∀ i, ya_dl σ v x h i (sy_vw v) 6 = if h then nI (ya_sl σ i) else 0
  | 0 => by
    show σ (sy_vw v) 6 = _
    rw [h6]
    cases h
    · rfl
    · show 0 = nI 0
      rw [nI_0]
  | i + 1 => by
    have ih := ya_dl_6 σ (x := x) (h := h) hv h6 i
    rw [show ya_sl σ (i + 1) = ya_sl σ i + (if ya_code σ (nI i) 1 then 1 else 0) from rfl]
    unfold ya_dl
    by_cases hc : ya_code σ (nI i) 1 = true
    · rw [if_pos hc, if_pos hc, ya_one_6 _ hv]
      cases h
      · exact ih
      · rfl
    · rw [if_neg hc, if_neg hc]
      exact ih
theorem ya_W_c {σ τ : sy_Mem} (W : ya_W σ) (h1 : τ 1 = σ 1) (h19 : τ 19 = σ 19) (h27 : τ 27 = σ 27) (h16 : τ 16 = σ 16) (hv : ∀ v, v < 4 → (τ (sy_vw v) 6).toInt ≤ 4 ∧ τ (sy_vw v) 4 = σ (sy_vw v) 4 ∧ τ (sy_vw v) 3 = σ (sy_vw v) 3) : ya_W τ := by
  refine ⟨by rw [h1]; exact W.1, by rw [h19]; exact W.2.1, by rw [h27]; exact W.2.2.1, fun d hd => by rw [h16]; exact W.2.2.2.1 d hd, fun v hv' => ?_⟩
  obtain ⟨g1, g2, g3⟩ := hv v hv'
  rw [g2, g3]
  exact ⟨g1, (W.2.2.2.2 v hv').2⟩
theorem ya_dl_W (W : ya_W σ) {v : Nat} {x : Int32} {h : Bool} (hv : v < 4) (h6 : σ (sy_vw v) 6 = 0) {i : Nat} (hi : i ≤ 4) : ya_W (ya_dl σ v x h i) := by
  have hb := yv_lt hv
  refine ya_W_c W (ya_dl_ne σ (by decide) (by omega) (by omega) (by omega) i) (ya_dl_ne σ (by decide) (by omega) (by omega) (by omega) i) (ya_dl_ne σ (by decide) (by omega) (by omega) (by omega) i) (ya_dl_ne σ (by decide) (by omega) (by omega) (by omega) i) (fun w hw => ?_)
  by_cases hvw : w = v
  · subst hvw
    refine ⟨?_, ya_dl_vw σ hw (by decide) i, ya_dl_vw σ hw (by decide) i⟩
    rw [ya_dl_6 σ hw h6]
    have := ya_sl_le σ i
    cases h
    · show (0 : Int32).toInt ≤ 4
      decide
    · show (nI _).toInt ≤ 4
      rw [nI_toInt (by omega)]
      omega
  · have e : ya_dl σ v x h i (sy_vw w) = σ (sy_vw w) := ya_dl_ne σ (by have := yv_lt hw; omega) (by unfold sy_vw; omega) (by unfold sy_vw; omega) (by unfold sy_vw; omega) i
    rw [e]
    exact ⟨(W.2.2.2.2 w hw).1, rfl, rfl⟩
def ya_deliver (σ : sy_Mem) (v : Nat) (x : Int32) (h : Bool) : sy_Mem := ya_one (ya_dl σ v x h ((σ 19 0).toNatClampNeg - 1)) v (ya_sl σ ((σ 19 0).toNatClampNeg - 1)) x h (ya_code σ (σ 19 0 - 1) 32)
theorem ya_code_c {σ τ : sy_Mem} (h19 : τ 19 = σ 19) (h21 : τ 21 = σ 21) (a c : Int32) : ya_code τ a c = ya_code σ a c := by
  unfold ya_code ya_ag ya_isA
  rw [h19, h21]
theorem ya_ag_c {σ τ : sy_Mem} {k : Nat} (h19 : τ 19 = σ 19) (h21 : τ k = σ k) (d a : Int32) : ya_ag τ k d a = ya_ag σ k d a := by
  unfold ya_ag ya_isA
  rw [h19, h21]
theorem ya_sg_c {σ τ : sy_Mem} {k : Nat} (h : τ k = σ k) (s : Int32) : ya_sg τ k s = ya_sg σ k s := by
  unfold ya_sg
  rw [h]
theorem ya_upward_c {σ τ : sy_Mem} (h11 : τ 11 = σ 11) (h12 : τ 12 = σ 12) (s u : Int32) : ya_X3_upward τ s u = ya_X3_upward σ s u := by
  unfold ya_X3_upward ya_sg
  rw [h11, h12]
theorem yt_X5_deliver (I : yn_I t σ) {v : Nat} (hv : v < 4) (x : Int32) (h : Bool) (h6 : σ (sy_vw v) 6 = 0) : sf_X5_deliver [.ref 0, .ref (sy_vw v), .int x, .int (ya_b h)] σ = some (.inl none, ya_deliver σ v x h) := by
  have hb := yv_lt hv
  have W := yn_Wo I
  have h19 := yg_n19 I
  have e19 := yg_n19e I
  refine ee_meth ?_ rfl
  unfold sm_X5_deliver
  refine es_Q (es_Q (es_SI ee_K0 (es_Q (es_SI (ee_B (ee_M (ee_aR (ee_rF (ee_R rfl) rfl) ee_aN) (ee_cv (yt_X0_size σ) rfl)) ee_K) (es_Q (es_B (es_Q (es_SI ee_K0 ?_))))))))
  have hlt : ∀ i : Nat, i ≤ 4 → decide (nI i < σ 19 0 - 1) = decide (i < (σ 19 0).toNatClampNeg - 1) := fun i hi => by
    rw [decide_eq_decide, Int32.lt_iff_toInt_lt, nI_toInt (by omega), yl_sub (by omega) (by omega) (by decide) (by decide), yl_c1]
    omega
  have hD : ∀ {k : Nat}, k ≠ 31 → k ≤ 31 → ∀ i, ya_dl σ v x h i k = σ k := fun h1 h2 i => ya_dl_ne σ h1 (by omega) (by omega) (by omega) i
  refine es_loop (E := fun i => [.ref 0, .ref (sy_vw v), .int x, .int (ya_b h), .int (nI (ya_sl σ i)), .int (σ 19 0 - 1), .int (nI i)]) (S := fun i => ya_dl σ v x h i) ((σ 19 0).toNatClampNeg - 1) 0 1000 (by omega) (fun i _ hi => ?_) ?_ (fun i _ hi k' => ?_) ?_
  · refine (ee_cB (ee_L rfl) (ee_L rfl)).trans ?_
    rw [hlt i (by omega), decide_eq_true (by omega)]
  · refine (ee_cB (ee_L rfl) (ee_L rfl)).trans ?_
    rw [hlt _ (by omega), decide_eq_false (by omega)]
  · have Wi := ya_dl_W W (x := x) (h := h) hv h6 (show i ≤ 4 by omega)
    have hsl := ya_sl_le σ i
    have hcode : ∀ c, ya_code (ya_dl σ v x h i) (nI i) c = ya_code σ (nI i) c := fun c => ya_code_c (hD (by decide) (by decide) i) (hD (by decide) (by decide) i) _ _
    have hup : ya_X3_upward (ya_dl σ v x h i) x (ya_ag (ya_dl σ v x h i) 20 (-1) (nI i)) = ya_X3_upward σ x (ya_ag σ 20 (-1) (nI i)) := by
      rw [ya_upward_c (hD (by decide) (by decide) i) (hD (by decide) (by decide) i), ya_ag_c (hD (by decide) (by decide) i) (hD (by decide) (by decide) i)]
    have h1 : ∀ hh : Bool, hh = ya_code σ (nI i) 1 → (sy_sI (sy_cI (sy_iM (sy_cv 0 2 sf_X0_hasCode) (sy_aR (sy_rF 5 2 (sy_rL 0)) (sy_aI (sy_iL 6) (sy_aI (sy_iK 1) sy_aN))))) (sy_sQ (sy_sC (sy_cv 5 5 sf_X5_deliverOne) (sy_aR (sy_rL 0) (sy_aR (sy_rL 1) (sy_aI (sy_iM (sy_cv 3 2 sf_X3_upward) (sy_aR (sy_rF 5 1 (sy_rL 0)) (sy_aI (sy_iL 2) (sy_aI (sy_iM (sy_cv 0 1 sf_X0_typeOf) (sy_aR (sy_rF 5 2 (sy_rL 0)) (sy_aI (sy_iL 6) sy_aN))) sy_aN)))) (sy_aI (sy_iL 4) (sy_aI (sy_iL 6) (sy_aI (sy_iL 3) sy_aN))))))) (sy_sIn 4 1)) sy_sN) [.ref 0, .ref (sy_vw v), .int x, .int (ya_b h), .int (nI (ya_sl σ i)), .int (σ 19 0 - 1), .int (nI i)] (fun env' => sy_sIn 6 1 env' k') (ya_dl σ v x h i) = k' [.ref 0, .ref (sy_vw v), .int x, .int (ya_b h), .int (nI (ya_sl σ (i + 1))), .int (σ 19 0 - 1), .int (nI (i + 1))] (ya_dl σ v x h (i + 1)) := by
      intro hh he
      unfold sy_sI
      refine (sy_bnd_at (ee_cb (ee_M (ee_aR (ee_rF (ee_R rfl) rfl) (ee_aI (ee_L rfl) (ee_aI ee_K ee_aN))) (ee_cv (yt_X0_hasCode _ (nI i) 1) rfl)))).trans ?_
      rw [hcode, ← he]
      have e1 : ya_sl σ (i + 1) = ya_sl σ i + (if hh then 1 else 0) := by rw [he]; rfl
      have e2 : ya_dl σ v x h (i + 1) = if hh then ya_one (ya_dl σ v x h i) v (ya_sl σ i) (ya_X3_upward σ x (ya_ag σ 20 (-1) (nI i))) h (ya_code σ (nI i) 32) else ya_dl σ v x h i := by rw [he]; rfl
      rw [e1, e2]
      cases hh
      · exact (es_In1 (j := 6) (env := [.ref 0, .ref (sy_vw v), .int x, .int (ya_b h), .int (nI (ya_sl σ i)), .int (σ 19 0 - 1), .int (nI i)]) (k := k') rfl rfl : sy_sIn 6 1 _ k' _ = _)
      · refine es_Q (es_C (ee_aR (ee_R rfl) (ee_aR (ee_R rfl) (ee_aI (ee_M (ee_aR (ee_rF (ee_R rfl) rfl) (ee_aI (ee_L rfl) (ee_aI (ee_M (ee_aR (ee_rF (ee_R rfl) rfl) (ee_aI (ee_L rfl) ee_aN)) (ee_cv (yt_X0_typeOf _ (nI i)) rfl)) ee_aN))) (ee_cv (yt_X3_upward Wi x _) rfl)) (ee_aI (ee_L rfl) (ee_aI (ee_L rfl) (ee_aI (ee_L rfl) ee_aN)))))) (ee_cv (yt_X5_deliverOne _ hv _ (nI i) h (fun e => by rw [ya_dl_6 σ hv h6, e]; rfl) (by omega)) rfl) (es_In1 rfl (es_In1 rfl ?_)))
        rw [hup, hcode]
        rfl
    exact es_Q (h1 _ rfl)
  · have Wi := ya_dl_W W (x := x) (h := h) hv h6 (show (σ 19 0).toNatClampNeg - 1 ≤ 4 by omega)
    have hsl := ya_sl_le σ ((σ 19 0).toNatClampNeg - 1)
    rw [Nat.zero_add]
    refine es_C (ee_aR (ee_R rfl) (ee_aR (ee_R rfl) (ee_aI (ee_L rfl) (ee_aI (ee_L rfl) (ee_aI (ee_L rfl) (ee_aI (ee_L rfl) ee_aN)))))) (ee_cv (yt_X5_deliverOne _ hv _ _ h (fun e => by rw [ya_dl_6 σ hv h6, e]; rfl) (by omega)) rfl) ?_
    rw [ya_code_c (hD (by decide) (by decide) _) (hD (by decide) (by decide) _)]
    exact es_eV
/-- the last of the first n arguments with PARENTAGE -/
def ya_par (σ : sy_Mem) (x : Int32) : Nat → Int32
  | 0 => x
  | n + 1 => if ya_code σ (nI n) 16 then ya_X3_upward σ x (ya_ag σ 20 (-1) (nI n)) else ya_par σ x n
theorem ya_par_c {σ τ : sy_Mem} (h : ∀ k, k = 11 ∨ k = 12 ∨ k = 19 ∨ k = 20 ∨ k = 21 → τ k = σ k) (x : Int32) : ∀ n, ya_par τ x n = ya_par σ x n
  | 0 => rfl
  | n + 1 => by
    unfold ya_par
    rw [ya_code_c (h 19 (by omega)) (h 21 (by omega)), ya_upward_c (h 11 (by omega)) (h 12 (by omega)), ya_ag_c (h 19 (by omega)) (h 20 (by omega)), ya_par_c h x n]
theorem yt_X5_parentageOf (W : ya_W σ) (x : Int32) (h0 : 0 ≤ (σ 19 0).toInt) : sf_X5_parentageOf [.ref 0, .int x] σ = some (.inl (some (.int (ya_par σ x (σ 19 0).toNatClampNeg))), σ) := by
  have h4 := W.2.1
  refine ee_meth ?_ rfl
  unfold sm_X5_parentageOf
  refine es_Q (es_B (es_Q (es_SI (x := nI (σ 19 0).toNatClampNeg - 1) ((ee_B (ee_M (ee_aR (ee_rF (ee_R rfl) rfl) ee_aN) (ee_cv (yt_X0_size σ) rfl)) ee_K).trans (by rw [← yi_nat (yi_pos.mpr h0)])) ?_)))
  have key : ∀ (n m : Nat), n ≤ 4 → n < m → sy_wh (sy_cge (sy_iL 2) (sy_iK 0)) (sy_sQ (sy_sI (sy_cI (sy_iM (sy_cv 0 2 sf_X0_hasCode) (sy_aR (sy_rF 5 2 (sy_rL 0)) (sy_aI (sy_iL 2) (sy_aI (sy_iK 16) sy_aN))))) (sy_eI (sy_iM (sy_cv 3 2 sf_X3_upward) (sy_aR (sy_rF 5 1 (sy_rL 0)) (sy_aI (sy_iL 1) (sy_aI (sy_iM (sy_cv 0 1 sf_X0_typeOf) (sy_aR (sy_rF 5 2 (sy_rL 0)) (sy_aI (sy_iL 2) sy_aN))) sy_aN))))) sy_sN) (sy_sIn 2 (-1))) m [.ref 0, .int x, .int (nI n - 1)] (fun env' => sy_eI (sy_iL 1) (env'.take 2) (fun _ => sy_fail)) σ = some (.inl (some (.int (ya_par σ x n))), σ) := by
    intro n
    induction n with
    | zero =>
      intro m _ hm
      obtain ⟨m, rfl⟩ : ∃ z, m = z + 1 := ⟨m - 1, by omega⟩
      unfold sy_wh
      rw [sy_bnd_at ((ee_cB (ee_L rfl) ee_K).trans (by rw [show decide ((0 : Int32) ≤ nI 0 - 1) = false by rw [nI_0]; decide]))]
      exact es_eI (k := fun _ => sy_fail) (ee_L rfl)
    | succ n ih =>
      intro m hn hm
      obtain ⟨m, rfl⟩ : ∃ z, m = z + 1 := ⟨m - 1, by omega⟩
      unfold sy_wh ya_par
      rw [nI_pred]
      rw [sy_bnd_at ((ee_cB (ee_L rfl) ee_K).trans (by rw [decide_eq_true (nI_pos' (by omega))]))]
      refine es_Q (es_IP (ee_cb (ee_M (ee_aR (ee_rF (ee_R rfl) rfl) (ee_aI (ee_L rfl) (ee_aI ee_K ee_aN))) (ee_cv (yt_X0_hasCode _ (nI n) 16) rfl))) (fun _ => es_eI (ee_M (ee_aR (ee_rF (ee_R rfl) rfl) (ee_aI (ee_L rfl) (ee_aI (ee_M (ee_aR (ee_rF (ee_R rfl) rfl) (ee_aI (ee_L rfl) ee_aN)) (ee_cv (yt_X0_typeOf _ (nI n)) rfl)) ee_aN))) (ee_cv (yt_X3_upward W x _) rfl))) (fun _ => es_N (es_In rfl ?_)))
      rw [← Int32.sub_eq_add_neg]
      exact ih m (by omega) (by omega)
  exact key _ 1000 (by rw [yi_clampInt]; omega) (by rw [yi_clampInt]; omega)
end YG2
