section SYV9
def sy_fl (x : Int32) : Int32 := if !decide (x = 0) then 1 else 0
theorem e_flag {env : List Value} {bs L t j : Nat} {xs : Nat → Int32} {c : Int32} (hc : c = nI j) (h0 : env[0]? = some (.retAddr bs)) (h4 : env[4]? = some (.int (nI (5 * t)))) (hj : j < 5) (h : 5 * t + 5 ≤ L) (hL : L ≤ 2560) :
    sy_iC (sy_cne (sy_iS bs L xs (sy_iAdd (sy_iL 4) (sy_iK c))) (sy_iK 0)) env = sy_ret (sy_fl (xs (5 * t + j))) := by
  show sy_bnd (sy_bnd (sy_iS bs L xs (sy_iAdd (sy_iL 4) (sy_iK c)) env) fun x => sy_bnd (sy_ret 0) fun y => sy_ret (!decide (x = y))) (fun b => sy_ret (if b then 1 else 0)) = _
  rw [e_script hc h0 h4 hj h hL]
  rfl
theorem h_L_condition {a1 a2 a3 a4 : Int32} {σ τ : sy_Mem} {r : Int32 ⊕ Nat} (h : sf_X5_condition [.ref 0, .int a1, .int a2, .int a3, .int a4] σ = some (sy_rI r, τ)) (hE : ∀ E, r = .inr E → 1 ≤ E ∧ E ≤ 3) :
    sf_L_condition [.ref 0, .int a1, .int a2, .int a3, .int a4, .ref 77] σ = some (.inl (some (.int (sy_code r))), sy_note r τ) := by
  have e : sf_L_condition [.ref 0, .int a1, .int a2, .int a3, .int a4, .ref 77] σ = sy_nx (fun _ => sy_tr (sf_X5_condition [.ref 0, .int a1, .int a2, .int a3, .int a4]) (fun r => sy_bnd (sy_toI r) fun x => sy_bnd (sy_mL 77 x.toInt64) fun _ => sy_ret (some (.int 0))) (sy_hx 3)) [] σ := rfl
  rw [e]
  exact sy_nx_of (sy_tr_I h hE)
theorem case_4 {bs L t : Nat} {xs : Nat → Int32} {σ σ1 σ2 : sy_Mem} {r : Int32 ⊕ Nat} {y : Int32} (ht : 5 * t + 5 ≤ L) (hL : L ≤ 2560) (h5 : sf_X5_condition [.ref 0, .int (sy_fl (xs (5 * t + 1))), .int (xs (5 * t + 2)), .int (xs (5 * t + 3)), .int (xs (5 * t + 4))] σ = some (sy_rI r, σ1)) (hE : ∀ E, r = .inr E → 1 ≤ E ∧ E ≤ 3)
    (h6 : sf_X6_condition [.ref 44, .int (sy_fl (xs (5 * t + 1))), .int (xs (5 * t + 2)), .int (xs (5 * t + 3)), .int (xs (5 * t + 4))] (sy_note r σ1) = some (.inl (some (.int y)), σ2)) (ha : sy_alike r y σ2) (k : List Value → sy_MM (Option Value)) : sm_L_4 bs L xs (sy_env5 bs t) k σ = k (sy_env5 bs t) σ2 := by
  have a1 : (sy_aR (sy_rL 1) (sy_aI (sy_iC (sy_cne (sy_iS bs L xs (sy_iAdd (sy_iL 4) (sy_iK 1))) (sy_iK 0))) (sy_aI (sy_iS bs L xs (sy_iAdd (sy_iL 4) (sy_iK 2))) (sy_aI (sy_iS bs L xs (sy_iAdd (sy_iL 4) (sy_iK 3))) (sy_aI (sy_iS bs L xs (sy_iAdd (sy_iL 4) (sy_iK 4))) (sy_aR (sy_rL 3) sy_aN)))))) (sy_env5 bs t) = sy_ret [.ref 0, .int (sy_fl (xs (5 * t + 1))), .int (xs (5 * t + 2)), .int (xs (5 * t + 3)), .int (xs (5 * t + 4)), .ref 77] := by
    unfold sy_aR sy_aI
    simp only [e_flag (c := 1) (env := sy_env5 bs t) (bs := bs) (xs := xs) (j := 1) (t := t) rfl rfl rfl (by decide) ht hL, e_script (c := 2) (env := sy_env5 bs t) (bs := bs) (xs := xs) (j := 2) (t := t) rfl rfl rfl (by decide) ht hL, e_script (c := 3) (env := sy_env5 bs t) (bs := bs) (xs := xs) (j := 3) (t := t) rfl rfl rfl (by decide) ht hL, e_script (c := 4) (env := sy_env5 bs t) (bs := bs) (xs := xs) (j := 4) (t := t) rfl rfl rfl (by decide) ht hL]
    rfl
  have a2 : (sy_aR (sy_rL 2) (sy_aI (sy_iC (sy_cne (sy_iS bs L xs (sy_iAdd (sy_iL 4) (sy_iK 1))) (sy_iK 0))) (sy_aI (sy_iS bs L xs (sy_iAdd (sy_iL 4) (sy_iK 2))) (sy_aI (sy_iS bs L xs (sy_iAdd (sy_iL 4) (sy_iK 3))) (sy_aI (sy_iS bs L xs (sy_iAdd (sy_iL 4) (sy_iK 4))) sy_aN))))) (sy_env5 bs t ++ [.int (sy_code r)]) = sy_ret [.ref 44, .int (sy_fl (xs (5 * t + 1))), .int (xs (5 * t + 2)), .int (xs (5 * t + 3)), .int (xs (5 * t + 4))] := by
    unfold sy_aR sy_aI
    simp only [e_flag (c := 1) (env := sy_env5 bs t ++ [Value.int (sy_code r)]) (bs := bs) (xs := xs) (j := 1) (t := t) rfl rfl rfl (by decide) ht hL, e_script (c := 2) (env := sy_env5 bs t ++ [Value.int (sy_code r)]) (bs := bs) (xs := xs) (j := 2) (t := t) rfl rfl rfl (by decide) ht hL, e_script (c := 3) (env := sy_env5 bs t ++ [Value.int (sy_code r)]) (bs := bs) (xs := xs) (j := 3) (t := t) rfl rfl rfl (by decide) ht hL, e_script (c := 4) (env := sy_env5 bs t ++ [Value.int (sy_code r)]) (bs := bs) (xs := xs) (j := 4) (t := t) rfl rfl rfl (by decide) ht hL]
    rfl
  show sy_sSI 5 (sy_iM (sy_cs 6 sf_L_condition) _) (sy_env5 bs t) (fun env => sy_sSI 6 (sy_iM (sy_cv 6 4 sf_X6_condition) (sy_aR (sy_rL 2) (sy_aI (sy_iC (sy_cne (sy_iS bs L xs (sy_iAdd (sy_iL 4) (sy_iK 1))) (sy_iK 0))) (sy_aI (sy_iS bs L xs (sy_iAdd (sy_iL 4) (sy_iK 2))) (sy_aI (sy_iS bs L xs (sy_iAdd (sy_iL 4) (sy_iK 3))) (sy_aI (sy_iS bs L xs (sy_iAdd (sy_iL 4) (sy_iK 4))) sy_aN)))))) env (fun env => sy_cmpI env (fun env' => k (env'.take 5)))) σ = _
  rw [e_sSI (e_iM a1 (show sy_cs 6 sf_L_condition _ σ = _ from h_L_condition h5 hE))]
  show sy_sSI 6 _ (sy_env5 bs t ++ [.int (sy_code r)]) _ _ = _
  rw [e_sSI (e_iM a2 (show sy_cv 6 4 sf_X6_condition _ _ = _ from h6))]
  exact sy_cmpI_ok (fun E h => ⟨(hE E h).1, by have := (hE E h).2; omega⟩) ha (fun env' => k (env'.take 5))
theorem h_L_get {a1 a2 a3 : Int32} {σ τ : sy_Mem} {r : Int32 ⊕ Nat} (h : sf_X5_get [.ref 0, .int a1, .int a2, .int a3] σ = some (sy_rI r, τ)) (hE : ∀ E, r = .inr E → 1 ≤ E ∧ E ≤ 2) :
    sf_L_get [.ref 0, .int a1, .int a2, .int a3, .ref 77] σ = some (.inl (some (.int (sy_code r))), sy_note r τ) := by
  have e : sf_L_get [.ref 0, .int a1, .int a2, .int a3, .ref 77] σ = sy_nx (fun _ => sy_tr (sf_X5_get [.ref 0, .int a1, .int a2, .int a3]) (fun r => sy_bnd (sy_toI r) fun x => sy_bnd (sy_mL 77 x.toInt64) fun _ => sy_ret (some (.int 0))) (sy_hx 2)) [] σ := rfl
  rw [e]
  exact sy_nx_of (sy_tr_I h hE)
theorem case_8 {bs L t : Nat} {xs : Nat → Int32} {σ σ1 σ2 : sy_Mem} {r : Int32 ⊕ Nat} {y : Int32} (ht : 5 * t + 5 ≤ L) (hL : L ≤ 2560) (h5 : sf_X5_get [.ref 0, .int (xs (5 * t + 1)), .int (xs (5 * t + 2)), .int (sy_fl (xs (5 * t + 3)))] σ = some (sy_rI r, σ1)) (hE : ∀ E, r = .inr E → 1 ≤ E ∧ E ≤ 2)
    (h6 : sf_X6_get [.ref 44, .int (xs (5 * t + 1)), .int (xs (5 * t + 2)), .int (sy_fl (xs (5 * t + 3)))] (sy_note r σ1) = some (.inl (some (.int y)), σ2)) (ha : sy_alike r y σ2) (k : List Value → sy_MM (Option Value)) : sm_L_8 bs L xs (sy_env5 bs t) k σ = k (sy_env5 bs t) σ2 := by
  have a1 : (sy_aR (sy_rL 1) (sy_aI (sy_iS bs L xs (sy_iAdd (sy_iL 4) (sy_iK 1))) (sy_aI (sy_iS bs L xs (sy_iAdd (sy_iL 4) (sy_iK 2))) (sy_aI (sy_iC (sy_cne (sy_iS bs L xs (sy_iAdd (sy_iL 4) (sy_iK 3))) (sy_iK 0))) (sy_aR (sy_rL 3) sy_aN))))) (sy_env5 bs t) = sy_ret [.ref 0, .int (xs (5 * t + 1)), .int (xs (5 * t + 2)), .int (sy_fl (xs (5 * t + 3))), .ref 77] := by
    unfold sy_aR sy_aI
    simp only [e_script (c := 1) (env := sy_env5 bs t) (bs := bs) (xs := xs) (j := 1) (t := t) rfl rfl rfl (by decide) ht hL, e_script (c := 2) (env := sy_env5 bs t) (bs := bs) (xs := xs) (j := 2) (t := t) rfl rfl rfl (by decide) ht hL, e_flag (c := 3) (env := sy_env5 bs t) (bs := bs) (xs := xs) (j := 3) (t := t) rfl rfl rfl (by decide) ht hL]
    rfl
  have a2 : (sy_aR (sy_rL 2) (sy_aI (sy_iS bs L xs (sy_iAdd (sy_iL 4) (sy_iK 1))) (sy_aI (sy_iS bs L xs (sy_iAdd (sy_iL 4) (sy_iK 2))) (sy_aI (sy_iC (sy_cne (sy_iS bs L xs (sy_iAdd (sy_iL 4) (sy_iK 3))) (sy_iK 0))) sy_aN)))) (sy_env5 bs t ++ [.int (sy_code r)]) = sy_ret [.ref 44, .int (xs (5 * t + 1)), .int (xs (5 * t + 2)), .int (sy_fl (xs (5 * t + 3)))] := by
    unfold sy_aR sy_aI
    simp only [e_script (c := 1) (env := sy_env5 bs t ++ [Value.int (sy_code r)]) (bs := bs) (xs := xs) (j := 1) (t := t) rfl rfl rfl (by decide) ht hL, e_script (c := 2) (env := sy_env5 bs t ++ [Value.int (sy_code r)]) (bs := bs) (xs := xs) (j := 2) (t := t) rfl rfl rfl (by decide) ht hL, e_flag (c := 3) (env := sy_env5 bs t ++ [Value.int (sy_code r)]) (bs := bs) (xs := xs) (j := 3) (t := t) rfl rfl rfl (by decide) ht hL]
    rfl
  show sy_sSI 5 (sy_iM (sy_cs 5 sf_L_get) _) (sy_env5 bs t) (fun env => sy_sSI 6 (sy_iM (sy_cv 6 3 sf_X6_get) (sy_aR (sy_rL 2) (sy_aI (sy_iS bs L xs (sy_iAdd (sy_iL 4) (sy_iK 1))) (sy_aI (sy_iS bs L xs (sy_iAdd (sy_iL 4) (sy_iK 2))) (sy_aI (sy_iC (sy_cne (sy_iS bs L xs (sy_iAdd (sy_iL 4) (sy_iK 3))) (sy_iK 0))) sy_aN))))) env (fun env => sy_cmpI env (fun env' => k (env'.take 5)))) σ = _
  rw [e_sSI (e_iM a1 (show sy_cs 5 sf_L_get _ σ = _ from h_L_get h5 hE))]
  show sy_sSI 6 _ (sy_env5 bs t ++ [.int (sy_code r)]) _ _ = _
  rw [e_sSI (e_iM a2 (show sy_cv 6 3 sf_X6_get _ _ = _ from h6))]
  exact sy_cmpI_ok (fun E h => ⟨(hE E h).1, by have := (hE E h).2; omega⟩) ha (fun env' => k (env'.take 5))
end SYV9
