section SYV7
theorem h_L_type {a1 a2 a3 a4 : Int32} {σ τ : sy_Mem} {r : Int32 ⊕ Nat} (h : sf_X5_type [.ref 0, .int a1, .int a2, .int a3, .int a4] σ = some (sy_rI r, τ)) (hE : ∀ E, r = .inr E → 1 ≤ E ∧ E ≤ 3) :
    sf_L_type [.ref 0, .int a1, .int a2, .int a3, .int a4, .ref 77] σ = some (.inl (some (.int (sy_code r))), sy_note r τ) := by
  have e : sf_L_type [.ref 0, .int a1, .int a2, .int a3, .int a4, .ref 77] σ = sy_nx (fun _ => sy_tr (sf_X5_type [.ref 0, .int a1, .int a2, .int a3, .int a4]) (fun r => sy_bnd (sy_toI r) fun x => sy_bnd (sy_mL 77 x.toInt64) fun _ => sy_ret (some (.int 0))) (sy_hx 3)) [] σ := rfl
  rw [e]
  exact sy_nx_of (sy_tr_I h hE)
theorem case_0 {bs L t : Nat} {xs : Nat → Int32} {σ σ1 σ2 : sy_Mem} {r : Int32 ⊕ Nat} {y : Int32} (ht : 5 * t + 5 ≤ L) (hL : L ≤ 2560) (h5 : sf_X5_type [.ref 0, .int (xs (5 * t + 1)), .int (xs (5 * t + 2)), .int (xs (5 * t + 3)), .int (xs (5 * t + 4))] σ = some (sy_rI r, σ1)) (hE : ∀ E, r = .inr E → 1 ≤ E ∧ E ≤ 3)
    (h6 : sf_X6_type [.ref 44, .int (xs (5 * t + 1)), .int (xs (5 * t + 2)), .int (xs (5 * t + 3)), .int (xs (5 * t + 4))] (sy_note r σ1) = some (.inl (some (.int y)), σ2)) (ha : sy_alike r y σ2) (k : List Value → sy_MM (Option Value)) : sm_L_0 bs L xs (sy_env5 bs t) k σ = k (sy_env5 bs t) σ2 := by
  have a1 : (sy_aR (sy_rL 1) (sy_aI (sy_iS bs L xs (sy_iAdd (sy_iL 4) (sy_iK 1))) (sy_aI (sy_iS bs L xs (sy_iAdd (sy_iL 4) (sy_iK 2))) (sy_aI (sy_iS bs L xs (sy_iAdd (sy_iL 4) (sy_iK 3))) (sy_aI (sy_iS bs L xs (sy_iAdd (sy_iL 4) (sy_iK 4))) (sy_aR (sy_rL 3) sy_aN)))))) (sy_env5 bs t) = sy_ret [.ref 0, .int (xs (5 * t + 1)), .int (xs (5 * t + 2)), .int (xs (5 * t + 3)), .int (xs (5 * t + 4)), .ref 77] := by
    unfold sy_aR sy_aI
    simp only [e_script (c := 1) (env := sy_env5 bs t) (bs := bs) (xs := xs) (j := 1) (t := t) rfl rfl rfl (by decide) ht hL, e_script (c := 2) (env := sy_env5 bs t) (bs := bs) (xs := xs) (j := 2) (t := t) rfl rfl rfl (by decide) ht hL, e_script (c := 3) (env := sy_env5 bs t) (bs := bs) (xs := xs) (j := 3) (t := t) rfl rfl rfl (by decide) ht hL, e_script (c := 4) (env := sy_env5 bs t) (bs := bs) (xs := xs) (j := 4) (t := t) rfl rfl rfl (by decide) ht hL]
    rfl
  have a2 : (sy_aR (sy_rL 2) (sy_aI (sy_iS bs L xs (sy_iAdd (sy_iL 4) (sy_iK 1))) (sy_aI (sy_iS bs L xs (sy_iAdd (sy_iL 4) (sy_iK 2))) (sy_aI (sy_iS bs L xs (sy_iAdd (sy_iL 4) (sy_iK 3))) (sy_aI (sy_iS bs L xs (sy_iAdd (sy_iL 4) (sy_iK 4))) sy_aN))))) (sy_env5 bs t ++ [.int (sy_code r)]) = sy_ret [.ref 44, .int (xs (5 * t + 1)), .int (xs (5 * t + 2)), .int (xs (5 * t + 3)), .int (xs (5 * t + 4))] := by
    unfold sy_aR sy_aI
    simp only [e_script (c := 1) (env := sy_env5 bs t ++ [Value.int (sy_code r)]) (bs := bs) (xs := xs) (j := 1) (t := t) rfl rfl rfl (by decide) ht hL, e_script (c := 2) (env := sy_env5 bs t ++ [Value.int (sy_code r)]) (bs := bs) (xs := xs) (j := 2) (t := t) rfl rfl rfl (by decide) ht hL, e_script (c := 3) (env := sy_env5 bs t ++ [Value.int (sy_code r)]) (bs := bs) (xs := xs) (j := 3) (t := t) rfl rfl rfl (by decide) ht hL, e_script (c := 4) (env := sy_env5 bs t ++ [Value.int (sy_code r)]) (bs := bs) (xs := xs) (j := 4) (t := t) rfl rfl rfl (by decide) ht hL]
    rfl
  show sy_sSI 5 (sy_iM (sy_cs 6 sf_L_type) _) (sy_env5 bs t) (fun env => sy_sSI 6 (sy_iM (sy_cv 6 4 sf_X6_type) (sy_aR (sy_rL 2) (sy_aI (sy_iS bs L xs (sy_iAdd (sy_iL 4) (sy_iK 1))) (sy_aI (sy_iS bs L xs (sy_iAdd (sy_iL 4) (sy_iK 2))) (sy_aI (sy_iS bs L xs (sy_iAdd (sy_iL 4) (sy_iK 3))) (sy_aI (sy_iS bs L xs (sy_iAdd (sy_iL 4) (sy_iK 4))) sy_aN)))))) env (fun env => sy_cmpI env (fun env' => k (env'.take 5)))) σ = _
  rw [e_sSI (e_iM a1 (show sy_cs 6 sf_L_type _ σ = _ from h_L_type h5 hE))]
  show sy_sSI 6 _ (sy_env5 bs t ++ [.int (sy_code r)]) _ _ = _
  rw [e_sSI (e_iM a2 (show sy_cv 6 4 sf_X6_type _ _ = _ from h6))]
  exact sy_cmpI_ok (fun E h => ⟨(hE E h).1, by have := (hE E h).2; omega⟩) ha (fun env' => k (env'.take 5))
theorem h_L_argument {a1 a2 : Int32} {σ τ : sy_Mem} {r : Int32 ⊕ Nat} (h : sf_X5_argument [.ref 0, .int a1, .int a2] σ = some (sy_rI r, τ)) (hE : ∀ E, r = .inr E → 1 ≤ E ∧ E ≤ 3) :
    sf_L_argument [.ref 0, .int a1, .int a2, .ref 77] σ = some (.inl (some (.int (sy_code r))), sy_note r τ) := by
  have e : sf_L_argument [.ref 0, .int a1, .int a2, .ref 77] σ = sy_nx (fun _ => sy_tr (sf_X5_argument [.ref 0, .int a1, .int a2]) (fun r => sy_bnd (sy_toI r) fun x => sy_bnd (sy_mL 77 x.toInt64) fun _ => sy_ret (some (.int 0))) (sy_hx 3)) [] σ := rfl
  rw [e]
  exact sy_nx_of (sy_tr_I h hE)
theorem case_3 {bs L t : Nat} {xs : Nat → Int32} {σ σ1 σ2 : sy_Mem} {r : Int32 ⊕ Nat} {y : Int32} (ht : 5 * t + 5 ≤ L) (hL : L ≤ 2560) (h5 : sf_X5_argument [.ref 0, .int (xs (5 * t + 1)), .int (xs (5 * t + 2))] σ = some (sy_rI r, σ1)) (hE : ∀ E, r = .inr E → 1 ≤ E ∧ E ≤ 3)
    (h6 : sf_X6_argument [.ref 44, .int (xs (5 * t + 1)), .int (xs (5 * t + 2))] (sy_note r σ1) = some (.inl (some (.int y)), σ2)) (ha : sy_alike r y σ2) (k : List Value → sy_MM (Option Value)) : sm_L_3 bs L xs (sy_env5 bs t) k σ = k (sy_env5 bs t) σ2 := by
  have a1 : (sy_aR (sy_rL 1) (sy_aI (sy_iS bs L xs (sy_iAdd (sy_iL 4) (sy_iK 1))) (sy_aI (sy_iS bs L xs (sy_iAdd (sy_iL 4) (sy_iK 2))) (sy_aR (sy_rL 3) sy_aN)))) (sy_env5 bs t) = sy_ret [.ref 0, .int (xs (5 * t + 1)), .int (xs (5 * t + 2)), .ref 77] := by
    unfold sy_aR sy_aI
    simp only [e_script (c := 1) (env := sy_env5 bs t) (bs := bs) (xs := xs) (j := 1) (t := t) rfl rfl rfl (by decide) ht hL, e_script (c := 2) (env := sy_env5 bs t) (bs := bs) (xs := xs) (j := 2) (t := t) rfl rfl rfl (by decide) ht hL]
    rfl
  have a2 : (sy_aR (sy_rL 2) (sy_aI (sy_iS bs L xs (sy_iAdd (sy_iL 4) (sy_iK 1))) (sy_aI (sy_iS bs L xs (sy_iAdd (sy_iL 4) (sy_iK 2))) sy_aN))) (sy_env5 bs t ++ [.int (sy_code r)]) = sy_ret [.ref 44, .int (xs (5 * t + 1)), .int (xs (5 * t + 2))] := by
    unfold sy_aR sy_aI
    simp only [e_script (c := 1) (env := sy_env5 bs t ++ [Value.int (sy_code r)]) (bs := bs) (xs := xs) (j := 1) (t := t) rfl rfl rfl (by decide) ht hL, e_script (c := 2) (env := sy_env5 bs t ++ [Value.int (sy_code r)]) (bs := bs) (xs := xs) (j := 2) (t := t) rfl rfl rfl (by decide) ht hL]
    rfl
  show sy_sSI 5 (sy_iM (sy_cs 4 sf_L_argument) _) (sy_env5 bs t) (fun env => sy_sSI 6 (sy_iM (sy_cv 6 2 sf_X6_argument) (sy_aR (sy_rL 2) (sy_aI (sy_iS bs L xs (sy_iAdd (sy_iL 4) (sy_iK 1))) (sy_aI (sy_iS bs L xs (sy_iAdd (sy_iL 4) (sy_iK 2))) sy_aN)))) env (fun env => sy_cmpI env (fun env' => k (env'.take 5)))) σ = _
  rw [e_sSI (e_iM a1 (show sy_cs 4 sf_L_argument _ σ = _ from h_L_argument h5 hE))]
  show sy_sSI 6 _ (sy_env5 bs t ++ [.int (sy_code r)]) _ _ = _
  rw [e_sSI (e_iM a2 (show sy_cv 6 2 sf_X6_argument _ _ = _ from h6))]
  exact sy_cmpI_ok (fun E h => ⟨(hE E h).1, by have := (hE E h).2; omega⟩) ha (fun env' => k (env'.take 5))
theorem h_L_put {a1 a2 a3 : Int32} {σ τ : sy_Mem} {r : Int32 ⊕ Nat} (h : sf_X5_put [.ref 0, .int a1, .int a2, .int a3] σ = some (sy_rI r, τ)) (hE : ∀ E, r = .inr E → 1 ≤ E ∧ E ≤ 2) :
    sf_L_put [.ref 0, .int a1, .int a2, .int a3, .ref 77] σ = some (.inl (some (.int (sy_code r))), sy_note r τ) := by
  have e : sf_L_put [.ref 0, .int a1, .int a2, .int a3, .ref 77] σ = sy_nx (fun _ => sy_tr (sf_X5_put [.ref 0, .int a1, .int a2, .int a3]) (fun r => sy_bnd (sy_toI r) fun x => sy_bnd (sy_mL 77 x.toInt64) fun _ => sy_ret (some (.int 0))) (sy_hx 2)) [] σ := rfl
  rw [e]
  exact sy_nx_of (sy_tr_I h hE)
theorem case_6 {bs L t : Nat} {xs : Nat → Int32} {σ σ1 σ2 : sy_Mem} {r : Int32 ⊕ Nat} {y : Int32} (ht : 5 * t + 5 ≤ L) (hL : L ≤ 2560) (h5 : sf_X5_put [.ref 0, .int (xs (5 * t + 1)), .int (xs (5 * t + 2)), .int (xs (5 * t + 3))] σ = some (sy_rI r, σ1)) (hE : ∀ E, r = .inr E → 1 ≤ E ∧ E ≤ 2)
    (h6 : sf_X6_put [.ref 44, .int (xs (5 * t + 1)), .int (xs (5 * t + 2)), .int (xs (5 * t + 3))] (sy_note r σ1) = some (.inl (some (.int y)), σ2)) (ha : sy_alike r y σ2) (k : List Value → sy_MM (Option Value)) : sm_L_6 bs L xs (sy_env5 bs t) k σ = k (sy_env5 bs t) σ2 := by
  have a1 : (sy_aR (sy_rL 1) (sy_aI (sy_iS bs L xs (sy_iAdd (sy_iL 4) (sy_iK 1))) (sy_aI (sy_iS bs L xs (sy_iAdd (sy_iL 4) (sy_iK 2))) (sy_aI (sy_iS bs L xs (sy_iAdd (sy_iL 4) (sy_iK 3))) (sy_aR (sy_rL 3) sy_aN))))) (sy_env5 bs t) = sy_ret [.ref 0, .int (xs (5 * t + 1)), .int (xs (5 * t + 2)), .int (xs (5 * t + 3)), .ref 77] := by
    unfold sy_aR sy_aI
    simp only [e_script (c := 1) (env := sy_env5 bs t) (bs := bs) (xs := xs) (j := 1) (t := t) rfl rfl rfl (by decide) ht hL, e_script (c := 2) (env := sy_env5 bs t) (bs := bs) (xs := xs) (j := 2) (t := t) rfl rfl rfl (by decide) ht hL, e_script (c := 3) (env := sy_env5 bs t) (bs := bs) (xs := xs) (j := 3) (t := t) rfl rfl rfl (by decide) ht hL]
    rfl
  have a2 : (sy_aR (sy_rL 2) (sy_aI (sy_iS bs L xs (sy_iAdd (sy_iL 4) (sy_iK 1))) (sy_aI (sy_iS bs L xs (sy_iAdd (sy_iL 4) (sy_iK 2))) (sy_aI (sy_iS bs L xs (sy_iAdd (sy_iL 4) (sy_iK 3))) sy_aN)))) (sy_env5 bs t ++ [.int (sy_code r)]) = sy_ret [.ref 44, .int (xs (5 * t + 1)), .int (xs (5 * t + 2)), .int (xs (5 * t + 3))] := by
    unfold sy_aR sy_aI
    simp only [e_script (c := 1) (env := sy_env5 bs t ++ [Value.int (sy_code r)]) (bs := bs) (xs := xs) (j := 1) (t := t) rfl rfl rfl (by decide) ht hL, e_script (c := 2) (env := sy_env5 bs t ++ [Value.int (sy_code r)]) (bs := bs) (xs := xs) (j := 2) (t := t) rfl rfl rfl (by decide) ht hL, e_script (c := 3) (env := sy_env5 bs t ++ [Value.int (sy_code r)]) (bs := bs) (xs := xs) (j := 3) (t := t) rfl rfl rfl (by decide) ht hL]
    rfl
  show sy_sSI 5 (sy_iM (sy_cs 5 sf_L_put) _) (sy_env5 bs t) (fun env => sy_sSI 6 (sy_iM (sy_cv 6 3 sf_X6_put) (sy_aR (sy_rL 2) (sy_aI (sy_iS bs L xs (sy_iAdd (sy_iL 4) (sy_iK 1))) (sy_aI (sy_iS bs L xs (sy_iAdd (sy_iL 4) (sy_iK 2))) (sy_aI (sy_iS bs L xs (sy_iAdd (sy_iL 4) (sy_iK 3))) sy_aN))))) env (fun env => sy_cmpI env (fun env' => k (env'.take 5)))) σ = _
  rw [e_sSI (e_iM a1 (show sy_cs 5 sf_L_put _ σ = _ from h_L_put h5 hE))]
  show sy_sSI 6 _ (sy_env5 bs t ++ [.int (sy_code r)]) _ _ = _
  rw [e_sSI (e_iM a2 (show sy_cv 6 3 sf_X6_put _ _ = _ from h6))]
  exact sy_cmpI_ok (fun E h => ⟨(hE E h).1, by have := (hE E h).2; omega⟩) ha (fun env' => k (env'.take 5))
theorem h_L_area {a1 a2 : Int32} {σ τ : sy_Mem} {r : Int32 ⊕ Nat} (h : sf_X5_area [.ref 0, .int a1, .int a2] σ = some (sy_rI r, τ)) (hE : ∀ E, r = .inr E → 1 ≤ E ∧ E ≤ 1) :
    sf_L_area [.ref 0, .int a1, .int a2, .ref 77] σ = some (.inl (some (.int (sy_code r))), sy_note r τ) := by
  have e : sf_L_area [.ref 0, .int a1, .int a2, .ref 77] σ = sy_nx (fun _ => sy_tr (sf_X5_area [.ref 0, .int a1, .int a2]) (fun r => sy_bnd (sy_toI r) fun x => sy_bnd (sy_mL 77 x.toInt64) fun _ => sy_ret (some (.int 0))) (sy_hx 1)) [] σ := rfl
  rw [e]
  exact sy_nx_of (sy_tr_I h hE)
theorem case_7 {bs L t : Nat} {xs : Nat → Int32} {σ σ1 σ2 : sy_Mem} {r : Int32 ⊕ Nat} {y : Int32} (ht : 5 * t + 5 ≤ L) (hL : L ≤ 2560) (h5 : sf_X5_area [.ref 0, .int (xs (5 * t + 1)), .int (xs (5 * t + 2))] σ = some (sy_rI r, σ1)) (hE : ∀ E, r = .inr E → 1 ≤ E ∧ E ≤ 1)
    (h6 : sf_X6_area [.ref 44, .int (xs (5 * t + 1)), .int (xs (5 * t + 2))] (sy_note r σ1) = some (.inl (some (.int y)), σ2)) (ha : sy_alike r y σ2) (k : List Value → sy_MM (Option Value)) : sm_L_7 bs L xs (sy_env5 bs t) k σ = k (sy_env5 bs t) σ2 := by
  have a1 : (sy_aR (sy_rL 1) (sy_aI (sy_iS bs L xs (sy_iAdd (sy_iL 4) (sy_iK 1))) (sy_aI (sy_iS bs L xs (sy_iAdd (sy_iL 4) (sy_iK 2))) (sy_aR (sy_rL 3) sy_aN)))) (sy_env5 bs t) = sy_ret [.ref 0, .int (xs (5 * t + 1)), .int (xs (5 * t + 2)), .ref 77] := by
    unfold sy_aR sy_aI
    simp only [e_script (c := 1) (env := sy_env5 bs t) (bs := bs) (xs := xs) (j := 1) (t := t) rfl rfl rfl (by decide) ht hL, e_script (c := 2) (env := sy_env5 bs t) (bs := bs) (xs := xs) (j := 2) (t := t) rfl rfl rfl (by decide) ht hL]
    rfl
  have a2 : (sy_aR (sy_rL 2) (sy_aI (sy_iS bs L xs (sy_iAdd (sy_iL 4) (sy_iK 1))) (sy_aI (sy_iS bs L xs (sy_iAdd (sy_iL 4) (sy_iK 2))) sy_aN))) (sy_env5 bs t ++ [.int (sy_code r)]) = sy_ret [.ref 44, .int (xs (5 * t + 1)), .int (xs (5 * t + 2))] := by
    unfold sy_aR sy_aI
    simp only [e_script (c := 1) (env := sy_env5 bs t ++ [Value.int (sy_code r)]) (bs := bs) (xs := xs) (j := 1) (t := t) rfl rfl rfl (by decide) ht hL, e_script (c := 2) (env := sy_env5 bs t ++ [Value.int (sy_code r)]) (bs := bs) (xs := xs) (j := 2) (t := t) rfl rfl rfl (by decide) ht hL]
    rfl
  show sy_sSI 5 (sy_iM (sy_cs 4 sf_L_area) _) (sy_env5 bs t) (fun env => sy_sSI 6 (sy_iM (sy_cv 6 2 sf_X6_area) (sy_aR (sy_rL 2) (sy_aI (sy_iS bs L xs (sy_iAdd (sy_iL 4) (sy_iK 1))) (sy_aI (sy_iS bs L xs (sy_iAdd (sy_iL 4) (sy_iK 2))) sy_aN)))) env (fun env => sy_cmpI env (fun env' => k (env'.take 5)))) σ = _
  rw [e_sSI (e_iM a1 (show sy_cs 4 sf_L_area _ σ = _ from h_L_area h5 hE))]
  show sy_sSI 6 _ (sy_env5 bs t ++ [.int (sy_code r)]) _ _ = _
  rw [e_sSI (e_iM a2 (show sy_cv 6 2 sf_X6_area _ _ = _ from h6))]
  exact sy_cmpI_ok (fun E h => ⟨(hE E h).1, by have := (hE E h).2; omega⟩) ha (fun env' => k (env'.take 5))
theorem h_L_insert {a1 : Int32} {σ τ : sy_Mem} {r : Int32 ⊕ Nat} (h : sf_X5_insert [.ref 0, .int a1] σ = some (sy_rI r, τ)) (hE : ∀ E, r = .inr E → 1 ≤ E ∧ E ≤ 1) :
    sf_L_insert [.ref 0, .int a1, .ref 77] σ = some (.inl (some (.int (sy_code r))), sy_note r τ) := by
  have e : sf_L_insert [.ref 0, .int a1, .ref 77] σ = sy_nx (fun _ => sy_tr (sf_X5_insert [.ref 0, .int a1]) (fun r => sy_bnd (sy_toI r) fun x => sy_bnd (sy_mL 77 x.toInt64) fun _ => sy_ret (some (.int 0))) (sy_hx 1)) [] σ := rfl
  rw [e]
  exact sy_nx_of (sy_tr_I h hE)
theorem case_9 {bs L t : Nat} {xs : Nat → Int32} {σ σ1 σ2 : sy_Mem} {r : Int32 ⊕ Nat} {y : Int32} (ht : 5 * t + 5 ≤ L) (hL : L ≤ 2560) (h5 : sf_X5_insert [.ref 0, .int (xs (5 * t + 1))] σ = some (sy_rI r, σ1)) (hE : ∀ E, r = .inr E → 1 ≤ E ∧ E ≤ 1)
    (h6 : sf_X6_insert [.ref 44, .int (xs (5 * t + 1))] (sy_note r σ1) = some (.inl (some (.int y)), σ2)) (ha : sy_alike r y σ2) (k : List Value → sy_MM (Option Value)) : sm_L_9 bs L xs (sy_env5 bs t) k σ = k (sy_env5 bs t) σ2 := by
  have a1 : (sy_aR (sy_rL 1) (sy_aI (sy_iS bs L xs (sy_iAdd (sy_iL 4) (sy_iK 1))) (sy_aR (sy_rL 3) sy_aN))) (sy_env5 bs t) = sy_ret [.ref 0, .int (xs (5 * t + 1)), .ref 77] := by
    unfold sy_aR sy_aI
    simp only [e_script (c := 1) (env := sy_env5 bs t) (bs := bs) (xs := xs) (j := 1) (t := t) rfl rfl rfl (by decide) ht hL]
    rfl
  have a2 : (sy_aR (sy_rL 2) (sy_aI (sy_iS bs L xs (sy_iAdd (sy_iL 4) (sy_iK 1))) sy_aN)) (sy_env5 bs t ++ [.int (sy_code r)]) = sy_ret [.ref 44, .int (xs (5 * t + 1))] := by
    unfold sy_aR sy_aI
    simp only [e_script (c := 1) (env := sy_env5 bs t ++ [Value.int (sy_code r)]) (bs := bs) (xs := xs) (j := 1) (t := t) rfl rfl rfl (by decide) ht hL]
    rfl
  show sy_sSI 5 (sy_iM (sy_cs 3 sf_L_insert) _) (sy_env5 bs t) (fun env => sy_sSI 6 (sy_iM (sy_cv 6 1 sf_X6_insert) (sy_aR (sy_rL 2) (sy_aI (sy_iS bs L xs (sy_iAdd (sy_iL 4) (sy_iK 1))) sy_aN))) env (fun env => sy_cmpI env (fun env' => k (env'.take 5)))) σ = _
  rw [e_sSI (e_iM a1 (show sy_cs 3 sf_L_insert _ σ = _ from h_L_insert h5 hE))]
  show sy_sSI 6 _ (sy_env5 bs t ++ [.int (sy_code r)]) _ _ = _
  rw [e_sSI (e_iM a2 (show sy_cv 6 1 sf_X6_insert _ _ = _ from h6))]
  exact sy_cmpI_ok (fun E h => ⟨(hE E h).1, by have := (hE E h).2; omega⟩) ha (fun env' => k (env'.take 5))
theorem h_L_replace {a1 : Int32} {σ τ : sy_Mem} {r : Int32 ⊕ Nat} (h : sf_X5_replace [.ref 0, .int a1] σ = some (sy_rI r, τ)) (hE : ∀ E, r = .inr E → 1 ≤ E ∧ E ≤ 1) :
    sf_L_replace [.ref 0, .int a1, .ref 77] σ = some (.inl (some (.int (sy_code r))), sy_note r τ) := by
  have e : sf_L_replace [.ref 0, .int a1, .ref 77] σ = sy_nx (fun _ => sy_tr (sf_X5_replace [.ref 0, .int a1]) (fun r => sy_bnd (sy_toI r) fun x => sy_bnd (sy_mL 77 x.toInt64) fun _ => sy_ret (some (.int 0))) (sy_hx 1)) [] σ := rfl
  rw [e]
  exact sy_nx_of (sy_tr_I h hE)
theorem case_10 {bs L t : Nat} {xs : Nat → Int32} {σ σ1 σ2 : sy_Mem} {r : Int32 ⊕ Nat} {y : Int32} (ht : 5 * t + 5 ≤ L) (hL : L ≤ 2560) (h5 : sf_X5_replace [.ref 0, .int (xs (5 * t + 1))] σ = some (sy_rI r, σ1)) (hE : ∀ E, r = .inr E → 1 ≤ E ∧ E ≤ 1)
    (h6 : sf_X6_replace [.ref 44, .int (xs (5 * t + 1))] (sy_note r σ1) = some (.inl (some (.int y)), σ2)) (ha : sy_alike r y σ2) (k : List Value → sy_MM (Option Value)) : sm_L_10 bs L xs (sy_env5 bs t) k σ = k (sy_env5 bs t) σ2 := by
  have a1 : (sy_aR (sy_rL 1) (sy_aI (sy_iS bs L xs (sy_iAdd (sy_iL 4) (sy_iK 1))) (sy_aR (sy_rL 3) sy_aN))) (sy_env5 bs t) = sy_ret [.ref 0, .int (xs (5 * t + 1)), .ref 77] := by
    unfold sy_aR sy_aI
    simp only [e_script (c := 1) (env := sy_env5 bs t) (bs := bs) (xs := xs) (j := 1) (t := t) rfl rfl rfl (by decide) ht hL]
    rfl
  have a2 : (sy_aR (sy_rL 2) (sy_aI (sy_iS bs L xs (sy_iAdd (sy_iL 4) (sy_iK 1))) sy_aN)) (sy_env5 bs t ++ [.int (sy_code r)]) = sy_ret [.ref 44, .int (xs (5 * t + 1))] := by
    unfold sy_aR sy_aI
    simp only [e_script (c := 1) (env := sy_env5 bs t ++ [Value.int (sy_code r)]) (bs := bs) (xs := xs) (j := 1) (t := t) rfl rfl rfl (by decide) ht hL]
    rfl
  show sy_sSI 5 (sy_iM (sy_cs 3 sf_L_replace) _) (sy_env5 bs t) (fun env => sy_sSI 6 (sy_iM (sy_cv 6 1 sf_X6_replace) (sy_aR (sy_rL 2) (sy_aI (sy_iS bs L xs (sy_iAdd (sy_iL 4) (sy_iK 1))) sy_aN))) env (fun env => sy_cmpI env (fun env' => k (env'.take 5)))) σ = _
  rw [e_sSI (e_iM a1 (show sy_cs 3 sf_L_replace _ σ = _ from h_L_replace h5 hE))]
  show sy_sSI 6 _ (sy_env5 bs t ++ [.int (sy_code r)]) _ _ = _
  rw [e_sSI (e_iM a2 (show sy_cv 6 1 sf_X6_replace _ _ = _ from h6))]
  exact sy_cmpI_ok (fun E h => ⟨(hE E h).1, by have := (hE E h).2; omega⟩) ha (fun env' => k (env'.take 5))
theorem h_L_delete {a1 : Int32} {σ τ : sy_Mem} {r : Int32 ⊕ Nat} (h : sf_X5_delete [.ref 0, .int a1] σ = some (sy_rI r, τ)) (hE : ∀ E, r = .inr E → 1 ≤ E ∧ E ≤ 1) :
    sf_L_delete [.ref 0, .int a1, .ref 77] σ = some (.inl (some (.int (sy_code r))), sy_note r τ) := by
  have e : sf_L_delete [.ref 0, .int a1, .ref 77] σ = sy_nx (fun _ => sy_tr (sf_X5_delete [.ref 0, .int a1]) (fun r => sy_bnd (sy_toI r) fun x => sy_bnd (sy_mL 77 x.toInt64) fun _ => sy_ret (some (.int 0))) (sy_hx 1)) [] σ := rfl
  rw [e]
  exact sy_nx_of (sy_tr_I h hE)
theorem case_11 {bs L t : Nat} {xs : Nat → Int32} {σ σ1 σ2 : sy_Mem} {r : Int32 ⊕ Nat} {y : Int32} (ht : 5 * t + 5 ≤ L) (hL : L ≤ 2560) (h5 : sf_X5_delete [.ref 0, .int (xs (5 * t + 1))] σ = some (sy_rI r, σ1)) (hE : ∀ E, r = .inr E → 1 ≤ E ∧ E ≤ 1)
    (h6 : sf_X6_delete [.ref 44, .int (xs (5 * t + 1))] (sy_note r σ1) = some (.inl (some (.int y)), σ2)) (ha : sy_alike r y σ2) (k : List Value → sy_MM (Option Value)) : sm_L_11 bs L xs (sy_env5 bs t) k σ = k (sy_env5 bs t) σ2 := by
  have a1 : (sy_aR (sy_rL 1) (sy_aI (sy_iS bs L xs (sy_iAdd (sy_iL 4) (sy_iK 1))) (sy_aR (sy_rL 3) sy_aN))) (sy_env5 bs t) = sy_ret [.ref 0, .int (xs (5 * t + 1)), .ref 77] := by
    unfold sy_aR sy_aI
    simp only [e_script (c := 1) (env := sy_env5 bs t) (bs := bs) (xs := xs) (j := 1) (t := t) rfl rfl rfl (by decide) ht hL]
    rfl
  have a2 : (sy_aR (sy_rL 2) (sy_aI (sy_iS bs L xs (sy_iAdd (sy_iL 4) (sy_iK 1))) sy_aN)) (sy_env5 bs t ++ [.int (sy_code r)]) = sy_ret [.ref 44, .int (xs (5 * t + 1))] := by
    unfold sy_aR sy_aI
    simp only [e_script (c := 1) (env := sy_env5 bs t ++ [Value.int (sy_code r)]) (bs := bs) (xs := xs) (j := 1) (t := t) rfl rfl rfl (by decide) ht hL]
    rfl
  show sy_sSI 5 (sy_iM (sy_cs 3 sf_L_delete) _) (sy_env5 bs t) (fun env => sy_sSI 6 (sy_iM (sy_cv 6 1 sf_X6_delete) (sy_aR (sy_rL 2) (sy_aI (sy_iS bs L xs (sy_iAdd (sy_iL 4) (sy_iK 1))) sy_aN))) env (fun env => sy_cmpI env (fun env' => k (env'.take 5)))) σ = _
  rw [e_sSI (e_iM a1 (show sy_cs 3 sf_L_delete _ σ = _ from h_L_delete h5 hE))]
  show sy_sSI 6 _ (sy_env5 bs t ++ [.int (sy_code r)]) _ _ = _
  rw [e_sSI (e_iM a2 (show sy_cv 6 1 sf_X6_delete _ _ = _ from h6))]
  exact sy_cmpI_ok (fun E h => ⟨(hE E h).1, by have := (hE E h).2; omega⟩) ha (fun env' => k (env'.take 5))
theorem h_L_rowAt {a1 a2 : Int32} {σ τ : sy_Mem} {r : Int32 ⊕ Nat} (h : sf_X5_rowAt [.ref 0, .int a1, .int a2] σ = some (sy_rI r, τ)) (hE : ∀ E, r = .inr E → 1 ≤ E ∧ E ≤ 1) :
    sf_L_rowAt [.ref 0, .int a1, .int a2, .ref 77] σ = some (.inl (some (.int (sy_code r))), sy_note r τ) := by
  have e : sf_L_rowAt [.ref 0, .int a1, .int a2, .ref 77] σ = sy_nx (fun _ => sy_tr (sf_X5_rowAt [.ref 0, .int a1, .int a2]) (fun r => sy_bnd (sy_toI r) fun x => sy_bnd (sy_mL 77 x.toInt64) fun _ => sy_ret (some (.int 0))) (sy_hx 1)) [] σ := rfl
  rw [e]
  exact sy_nx_of (sy_tr_I h hE)
theorem case_14 {bs L t : Nat} {xs : Nat → Int32} {σ σ1 σ2 : sy_Mem} {r : Int32 ⊕ Nat} {y : Int32} (ht : 5 * t + 5 ≤ L) (hL : L ≤ 2560) (h5 : sf_X5_rowAt [.ref 0, .int (xs (5 * t + 1)), .int (xs (5 * t + 2))] σ = some (sy_rI r, σ1)) (hE : ∀ E, r = .inr E → 1 ≤ E ∧ E ≤ 1)
    (h6 : sf_X6_rowAt [.ref 44, .int (xs (5 * t + 1)), .int (xs (5 * t + 2))] (sy_note r σ1) = some (.inl (some (.int y)), σ2)) (ha : sy_alike r y σ2) (k : List Value → sy_MM (Option Value)) : sm_L_14 bs L xs (sy_env5 bs t) k σ = k (sy_env5 bs t) σ2 := by
  have a1 : (sy_aR (sy_rL 1) (sy_aI (sy_iS bs L xs (sy_iAdd (sy_iL 4) (sy_iK 1))) (sy_aI (sy_iS bs L xs (sy_iAdd (sy_iL 4) (sy_iK 2))) (sy_aR (sy_rL 3) sy_aN)))) (sy_env5 bs t) = sy_ret [.ref 0, .int (xs (5 * t + 1)), .int (xs (5 * t + 2)), .ref 77] := by
    unfold sy_aR sy_aI
    simp only [e_script (c := 1) (env := sy_env5 bs t) (bs := bs) (xs := xs) (j := 1) (t := t) rfl rfl rfl (by decide) ht hL, e_script (c := 2) (env := sy_env5 bs t) (bs := bs) (xs := xs) (j := 2) (t := t) rfl rfl rfl (by decide) ht hL]
    rfl
  have a2 : (sy_aR (sy_rL 2) (sy_aI (sy_iS bs L xs (sy_iAdd (sy_iL 4) (sy_iK 1))) (sy_aI (sy_iS bs L xs (sy_iAdd (sy_iL 4) (sy_iK 2))) sy_aN))) (sy_env5 bs t ++ [.int (sy_code r)]) = sy_ret [.ref 44, .int (xs (5 * t + 1)), .int (xs (5 * t + 2))] := by
    unfold sy_aR sy_aI
    simp only [e_script (c := 1) (env := sy_env5 bs t ++ [Value.int (sy_code r)]) (bs := bs) (xs := xs) (j := 1) (t := t) rfl rfl rfl (by decide) ht hL, e_script (c := 2) (env := sy_env5 bs t ++ [Value.int (sy_code r)]) (bs := bs) (xs := xs) (j := 2) (t := t) rfl rfl rfl (by decide) ht hL]
    rfl
  show sy_sSI 5 (sy_iM (sy_cs 4 sf_L_rowAt) _) (sy_env5 bs t) (fun env => sy_sSI 6 (sy_iM (sy_cv 6 2 sf_X6_rowAt) (sy_aR (sy_rL 2) (sy_aI (sy_iS bs L xs (sy_iAdd (sy_iL 4) (sy_iK 1))) (sy_aI (sy_iS bs L xs (sy_iAdd (sy_iL 4) (sy_iK 2))) sy_aN)))) env (fun env => sy_cmpI env (fun env' => k (env'.take 5)))) σ = _
  rw [e_sSI (e_iM a1 (show sy_cs 4 sf_L_rowAt _ σ = _ from h_L_rowAt h5 hE))]
  show sy_sSI 6 _ (sy_env5 bs t ++ [.int (sy_code r)]) _ _ = _
  rw [e_sSI (e_iM a2 (show sy_cv 6 2 sf_X6_rowAt _ _ = _ from h6))]
  exact sy_cmpI_ok (fun E h => ⟨(hE E h).1, by have := (hE E h).2; omega⟩) ha (fun env' => k (env'.take 5))
theorem h_L_rowAnew {a1 a2 : Int32} {σ τ : sy_Mem} {r : Int32 ⊕ Nat} (h : sf_X5_rowAnew [.ref 0, .int a1, .int a2] σ = some (sy_rI r, τ)) (hE : ∀ E, r = .inr E → 1 ≤ E ∧ E ≤ 1) :
    sf_L_rowAnew [.ref 0, .int a1, .int a2, .ref 77] σ = some (.inl (some (.int (sy_code r))), sy_note r τ) := by
  have e : sf_L_rowAnew [.ref 0, .int a1, .int a2, .ref 77] σ = sy_nx (fun _ => sy_tr (sf_X5_rowAnew [.ref 0, .int a1, .int a2]) (fun r => sy_bnd (sy_toI r) fun x => sy_bnd (sy_mL 77 x.toInt64) fun _ => sy_ret (some (.int 0))) (sy_hx 1)) [] σ := rfl
  rw [e]
  exact sy_nx_of (sy_tr_I h hE)
theorem case_15 {bs L t : Nat} {xs : Nat → Int32} {σ σ1 σ2 : sy_Mem} {r : Int32 ⊕ Nat} {y : Int32} (ht : 5 * t + 5 ≤ L) (hL : L ≤ 2560) (h5 : sf_X5_rowAnew [.ref 0, .int (xs (5 * t + 1)), .int (xs (5 * t + 2))] σ = some (sy_rI r, σ1)) (hE : ∀ E, r = .inr E → 1 ≤ E ∧ E ≤ 1)
    (h6 : sf_X6_rowAnew [.ref 44, .int (xs (5 * t + 1)), .int (xs (5 * t + 2))] (sy_note r σ1) = some (.inl (some (.int y)), σ2)) (ha : sy_alike r y σ2) (k : List Value → sy_MM (Option Value)) : sm_L_15 bs L xs (sy_env5 bs t) k σ = k (sy_env5 bs t) σ2 := by
  have a1 : (sy_aR (sy_rL 1) (sy_aI (sy_iS bs L xs (sy_iAdd (sy_iL 4) (sy_iK 1))) (sy_aI (sy_iS bs L xs (sy_iAdd (sy_iL 4) (sy_iK 2))) (sy_aR (sy_rL 3) sy_aN)))) (sy_env5 bs t) = sy_ret [.ref 0, .int (xs (5 * t + 1)), .int (xs (5 * t + 2)), .ref 77] := by
    unfold sy_aR sy_aI
    simp only [e_script (c := 1) (env := sy_env5 bs t) (bs := bs) (xs := xs) (j := 1) (t := t) rfl rfl rfl (by decide) ht hL, e_script (c := 2) (env := sy_env5 bs t) (bs := bs) (xs := xs) (j := 2) (t := t) rfl rfl rfl (by decide) ht hL]
    rfl
  have a2 : (sy_aR (sy_rL 2) (sy_aI (sy_iS bs L xs (sy_iAdd (sy_iL 4) (sy_iK 1))) (sy_aI (sy_iS bs L xs (sy_iAdd (sy_iL 4) (sy_iK 2))) sy_aN))) (sy_env5 bs t ++ [.int (sy_code r)]) = sy_ret [.ref 44, .int (xs (5 * t + 1)), .int (xs (5 * t + 2))] := by
    unfold sy_aR sy_aI
    simp only [e_script (c := 1) (env := sy_env5 bs t ++ [Value.int (sy_code r)]) (bs := bs) (xs := xs) (j := 1) (t := t) rfl rfl rfl (by decide) ht hL, e_script (c := 2) (env := sy_env5 bs t ++ [Value.int (sy_code r)]) (bs := bs) (xs := xs) (j := 2) (t := t) rfl rfl rfl (by decide) ht hL]
    rfl
  show sy_sSI 5 (sy_iM (sy_cs 4 sf_L_rowAnew) _) (sy_env5 bs t) (fun env => sy_sSI 6 (sy_iM (sy_cv 6 2 sf_X6_rowAnew) (sy_aR (sy_rL 2) (sy_aI (sy_iS bs L xs (sy_iAdd (sy_iL 4) (sy_iK 1))) (sy_aI (sy_iS bs L xs (sy_iAdd (sy_iL 4) (sy_iK 2))) sy_aN)))) env (fun env => sy_cmpI env (fun env' => k (env'.take 5)))) σ = _
  rw [e_sSI (e_iM a1 (show sy_cs 4 sf_L_rowAnew _ σ = _ from h_L_rowAnew h5 hE))]
  show sy_sSI 6 _ (sy_env5 bs t ++ [.int (sy_code r)]) _ _ = _
  rw [e_sSI (e_iM a2 (show sy_cv 6 2 sf_X6_rowAnew _ _ = _ from h6))]
  exact sy_cmpI_ok (fun E h => ⟨(hE E h).1, by have := (hE E h).2; omega⟩) ha (fun env' => k (env'.take 5))
theorem h_L_fieldAt {a1 a2 a3 : Int32} {σ τ : sy_Mem} {r : Int32 ⊕ Nat} (h : sf_X5_fieldAt [.ref 0, .int a1, .int a2, .int a3] σ = some (sy_rI r, τ)) (hE : ∀ E, r = .inr E → 1 ≤ E ∧ E ≤ 1) :
    sf_L_fieldAt [.ref 0, .int a1, .int a2, .int a3, .ref 77] σ = some (.inl (some (.int (sy_code r))), sy_note r τ) := by
  have e : sf_L_fieldAt [.ref 0, .int a1, .int a2, .int a3, .ref 77] σ = sy_nx (fun _ => sy_tr (sf_X5_fieldAt [.ref 0, .int a1, .int a2, .int a3]) (fun r => sy_bnd (sy_toI r) fun x => sy_bnd (sy_mL 77 x.toInt64) fun _ => sy_ret (some (.int 0))) (sy_hx 1)) [] σ := rfl
  rw [e]
  exact sy_nx_of (sy_tr_I h hE)
theorem case_16 {bs L t : Nat} {xs : Nat → Int32} {σ σ1 σ2 : sy_Mem} {r : Int32 ⊕ Nat} {y : Int32} (ht : 5 * t + 5 ≤ L) (hL : L ≤ 2560) (h5 : sf_X5_fieldAt [.ref 0, .int (xs (5 * t + 1)), .int (xs (5 * t + 2)), .int (xs (5 * t + 3))] σ = some (sy_rI r, σ1)) (hE : ∀ E, r = .inr E → 1 ≤ E ∧ E ≤ 1)
    (h6 : sf_X6_fieldAt [.ref 44, .int (xs (5 * t + 1)), .int (xs (5 * t + 2)), .int (xs (5 * t + 3))] (sy_note r σ1) = some (.inl (some (.int y)), σ2)) (ha : sy_alike r y σ2) (k : List Value → sy_MM (Option Value)) : sm_L_16 bs L xs (sy_env5 bs t) k σ = k (sy_env5 bs t) σ2 := by
  have a1 : (sy_aR (sy_rL 1) (sy_aI (sy_iS bs L xs (sy_iAdd (sy_iL 4) (sy_iK 1))) (sy_aI (sy_iS bs L xs (sy_iAdd (sy_iL 4) (sy_iK 2))) (sy_aI (sy_iS bs L xs (sy_iAdd (sy_iL 4) (sy_iK 3))) (sy_aR (sy_rL 3) sy_aN))))) (sy_env5 bs t) = sy_ret [.ref 0, .int (xs (5 * t + 1)), .int (xs (5 * t + 2)), .int (xs (5 * t + 3)), .ref 77] := by
    unfold sy_aR sy_aI
    simp only [e_script (c := 1) (env := sy_env5 bs t) (bs := bs) (xs := xs) (j := 1) (t := t) rfl rfl rfl (by decide) ht hL, e_script (c := 2) (env := sy_env5 bs t) (bs := bs) (xs := xs) (j := 2) (t := t) rfl rfl rfl (by decide) ht hL, e_script (c := 3) (env := sy_env5 bs t) (bs := bs) (xs := xs) (j := 3) (t := t) rfl rfl rfl (by decide) ht hL]
    rfl
  have a2 : (sy_aR (sy_rL 2) (sy_aI (sy_iS bs L xs (sy_iAdd (sy_iL 4) (sy_iK 1))) (sy_aI (sy_iS bs L xs (sy_iAdd (sy_iL 4) (sy_iK 2))) (sy_aI (sy_iS bs L xs (sy_iAdd (sy_iL 4) (sy_iK 3))) sy_aN)))) (sy_env5 bs t ++ [.int (sy_code r)]) = sy_ret [.ref 44, .int (xs (5 * t + 1)), .int (xs (5 * t + 2)), .int (xs (5 * t + 3))] := by
    unfold sy_aR sy_aI
    simp only [e_script (c := 1) (env := sy_env5 bs t ++ [Value.int (sy_code r)]) (bs := bs) (xs := xs) (j := 1) (t := t) rfl rfl rfl (by decide) ht hL, e_script (c := 2) (env := sy_env5 bs t ++ [Value.int (sy_code r)]) (bs := bs) (xs := xs) (j := 2) (t := t) rfl rfl rfl (by decide) ht hL, e_script (c := 3) (env := sy_env5 bs t ++ [Value.int (sy_code r)]) (bs := bs) (xs := xs) (j := 3) (t := t) rfl rfl rfl (by decide) ht hL]
    rfl
  show sy_sSI 5 (sy_iM (sy_cs 5 sf_L_fieldAt) _) (sy_env5 bs t) (fun env => sy_sSI 6 (sy_iM (sy_cv 6 3 sf_X6_fieldAt) (sy_aR (sy_rL 2) (sy_aI (sy_iS bs L xs (sy_iAdd (sy_iL 4) (sy_iK 1))) (sy_aI (sy_iS bs L xs (sy_iAdd (sy_iL 4) (sy_iK 2))) (sy_aI (sy_iS bs L xs (sy_iAdd (sy_iL 4) (sy_iK 3))) sy_aN))))) env (fun env => sy_cmpI env (fun env' => k (env'.take 5)))) σ = _
  rw [e_sSI (e_iM a1 (show sy_cs 5 sf_L_fieldAt _ σ = _ from h_L_fieldAt h5 hE))]
  show sy_sSI 6 _ (sy_env5 bs t ++ [.int (sy_code r)]) _ _ = _
  rw [e_sSI (e_iM a2 (show sy_cv 6 3 sf_X6_fieldAt _ _ = _ from h6))]
  exact sy_cmpI_ok (fun E h => ⟨(hE E h).1, by have := (hE E h).2; omega⟩) ha (fun env' => k (env'.take 5))
theorem h_L_at {a1 : Int32} {σ τ : sy_Mem} {r : Int32 ⊕ Nat} (h : sf_X5_at [.ref 0, .int a1] σ = some (sy_rI r, τ)) (hE : ∀ E, r = .inr E → 1 ≤ E ∧ E ≤ 1) :
    sf_L_at [.ref 0, .int a1, .ref 77] σ = some (.inl (some (.int (sy_code r))), sy_note r τ) := by
  have e : sf_L_at [.ref 0, .int a1, .ref 77] σ = sy_nx (fun _ => sy_tr (sf_X5_at [.ref 0, .int a1]) (fun r => sy_bnd (sy_toI r) fun x => sy_bnd (sy_mL 77 x.toInt64) fun _ => sy_ret (some (.int 0))) (sy_hx 1)) [] σ := rfl
  rw [e]
  exact sy_nx_of (sy_tr_I h hE)
theorem case_17 {bs L t : Nat} {xs : Nat → Int32} {σ σ1 σ2 : sy_Mem} {r : Int32 ⊕ Nat} {y : Int32} (ht : 5 * t + 5 ≤ L) (hL : L ≤ 2560) (h5 : sf_X5_at [.ref 0, .int (xs (5 * t + 1))] σ = some (sy_rI r, σ1)) (hE : ∀ E, r = .inr E → 1 ≤ E ∧ E ≤ 1)
    (h6 : sf_X6_at [.ref 44, .int (xs (5 * t + 1))] (sy_note r σ1) = some (.inl (some (.int y)), σ2)) (ha : sy_alike r y σ2) (k : List Value → sy_MM (Option Value)) : sm_L_17 bs L xs (sy_env5 bs t) k σ = k (sy_env5 bs t) σ2 := by
  have a1 : (sy_aR (sy_rL 1) (sy_aI (sy_iS bs L xs (sy_iAdd (sy_iL 4) (sy_iK 1))) (sy_aR (sy_rL 3) sy_aN))) (sy_env5 bs t) = sy_ret [.ref 0, .int (xs (5 * t + 1)), .ref 77] := by
    unfold sy_aR sy_aI
    simp only [e_script (c := 1) (env := sy_env5 bs t) (bs := bs) (xs := xs) (j := 1) (t := t) rfl rfl rfl (by decide) ht hL]
    rfl
  have a2 : (sy_aR (sy_rL 2) (sy_aI (sy_iS bs L xs (sy_iAdd (sy_iL 4) (sy_iK 1))) sy_aN)) (sy_env5 bs t ++ [.int (sy_code r)]) = sy_ret [.ref 44, .int (xs (5 * t + 1))] := by
    unfold sy_aR sy_aI
    simp only [e_script (c := 1) (env := sy_env5 bs t ++ [Value.int (sy_code r)]) (bs := bs) (xs := xs) (j := 1) (t := t) rfl rfl rfl (by decide) ht hL]
    rfl
  show sy_sSI 5 (sy_iM (sy_cs 3 sf_L_at) _) (sy_env5 bs t) (fun env => sy_sSI 6 (sy_iM (sy_cv 6 1 sf_X6_at) (sy_aR (sy_rL 2) (sy_aI (sy_iS bs L xs (sy_iAdd (sy_iL 4) (sy_iK 1))) sy_aN))) env (fun env => sy_cmpI env (fun env' => k (env'.take 5)))) σ = _
  rw [e_sSI (e_iM a1 (show sy_cs 3 sf_L_at _ σ = _ from h_L_at h5 hE))]
  show sy_sSI 6 _ (sy_env5 bs t ++ [.int (sy_code r)]) _ _ = _
  rw [e_sSI (e_iM a2 (show sy_cv 6 1 sf_X6_at _ _ = _ from h6))]
  exact sy_cmpI_ok (fun E h => ⟨(hE E h).1, by have := (hE E h).2; omega⟩) ha (fun env' => k (env'.take 5))
theorem h_L_ahead {a1 : Int32} {σ τ : sy_Mem} {r : Int32 ⊕ Nat} (h : sf_X5_ahead [.ref 0, .int a1] σ = some (sy_rI r, τ)) (hE : ∀ E, r = .inr E → 1 ≤ E ∧ E ≤ 1) :
    sf_L_ahead [.ref 0, .int a1, .ref 77] σ = some (.inl (some (.int (sy_code r))), sy_note r τ) := by
  have e : sf_L_ahead [.ref 0, .int a1, .ref 77] σ = sy_nx (fun _ => sy_tr (sf_X5_ahead [.ref 0, .int a1]) (fun r => sy_bnd (sy_toI r) fun x => sy_bnd (sy_mL 77 x.toInt64) fun _ => sy_ret (some (.int 0))) (sy_hx 1)) [] σ := rfl
  rw [e]
  exact sy_nx_of (sy_tr_I h hE)
theorem case_18 {bs L t : Nat} {xs : Nat → Int32} {σ σ1 σ2 : sy_Mem} {r : Int32 ⊕ Nat} {y : Int32} (ht : 5 * t + 5 ≤ L) (hL : L ≤ 2560) (h5 : sf_X5_ahead [.ref 0, .int (xs (5 * t + 1))] σ = some (sy_rI r, σ1)) (hE : ∀ E, r = .inr E → 1 ≤ E ∧ E ≤ 1)
    (h6 : sf_X6_ahead [.ref 44, .int (xs (5 * t + 1))] (sy_note r σ1) = some (.inl (some (.int y)), σ2)) (ha : sy_alike r y σ2) (k : List Value → sy_MM (Option Value)) : sm_L_18 bs L xs (sy_env5 bs t) k σ = k (sy_env5 bs t) σ2 := by
  have a1 : (sy_aR (sy_rL 1) (sy_aI (sy_iS bs L xs (sy_iAdd (sy_iL 4) (sy_iK 1))) (sy_aR (sy_rL 3) sy_aN))) (sy_env5 bs t) = sy_ret [.ref 0, .int (xs (5 * t + 1)), .ref 77] := by
    unfold sy_aR sy_aI
    simp only [e_script (c := 1) (env := sy_env5 bs t) (bs := bs) (xs := xs) (j := 1) (t := t) rfl rfl rfl (by decide) ht hL]
    rfl
  have a2 : (sy_aR (sy_rL 2) (sy_aI (sy_iS bs L xs (sy_iAdd (sy_iL 4) (sy_iK 1))) sy_aN)) (sy_env5 bs t ++ [.int (sy_code r)]) = sy_ret [.ref 44, .int (xs (5 * t + 1))] := by
    unfold sy_aR sy_aI
    simp only [e_script (c := 1) (env := sy_env5 bs t ++ [Value.int (sy_code r)]) (bs := bs) (xs := xs) (j := 1) (t := t) rfl rfl rfl (by decide) ht hL]
    rfl
  show sy_sSI 5 (sy_iM (sy_cs 3 sf_L_ahead) _) (sy_env5 bs t) (fun env => sy_sSI 6 (sy_iM (sy_cv 6 1 sf_X6_ahead) (sy_aR (sy_rL 2) (sy_aI (sy_iS bs L xs (sy_iAdd (sy_iL 4) (sy_iK 1))) sy_aN))) env (fun env => sy_cmpI env (fun env' => k (env'.take 5)))) σ = _
  rw [e_sSI (e_iM a1 (show sy_cs 3 sf_L_ahead _ σ = _ from h_L_ahead h5 hE))]
  show sy_sSI 6 _ (sy_env5 bs t ++ [.int (sy_code r)]) _ _ = _
  rw [e_sSI (e_iM a2 (show sy_cv 6 1 sf_X6_ahead _ _ = _ from h6))]
  exact sy_cmpI_ok (fun E h => ⟨(hE E h).1, by have := (hE E h).2; omega⟩) ha (fun env' => k (env'.take 5))
theorem h_L_parent {a1 : Int32} {σ τ : sy_Mem} {r : Int32 ⊕ Nat} (h : sf_X5_parent [.ref 0, .int a1] σ = some (sy_rI r, τ)) (hE : ∀ E, r = .inr E → 1 ≤ E ∧ E ≤ 1) :
    sf_L_parent [.ref 0, .int a1, .ref 77] σ = some (.inl (some (.int (sy_code r))), sy_note r τ) := by
  have e : sf_L_parent [.ref 0, .int a1, .ref 77] σ = sy_nx (fun _ => sy_tr (sf_X5_parent [.ref 0, .int a1]) (fun r => sy_bnd (sy_toI r) fun x => sy_bnd (sy_mL 77 x.toInt64) fun _ => sy_ret (some (.int 0))) (sy_hx 1)) [] σ := rfl
  rw [e]
  exact sy_nx_of (sy_tr_I h hE)
theorem case_19 {bs L t : Nat} {xs : Nat → Int32} {σ σ1 σ2 : sy_Mem} {r : Int32 ⊕ Nat} {y : Int32} (ht : 5 * t + 5 ≤ L) (hL : L ≤ 2560) (h5 : sf_X5_parent [.ref 0, .int (xs (5 * t + 1))] σ = some (sy_rI r, σ1)) (hE : ∀ E, r = .inr E → 1 ≤ E ∧ E ≤ 1)
    (h6 : sf_X6_parent [.ref 44, .int (xs (5 * t + 1))] (sy_note r σ1) = some (.inl (some (.int y)), σ2)) (ha : sy_alike r y σ2) (k : List Value → sy_MM (Option Value)) : sm_L_19 bs L xs (sy_env5 bs t) k σ = k (sy_env5 bs t) σ2 := by
  have a1 : (sy_aR (sy_rL 1) (sy_aI (sy_iS bs L xs (sy_iAdd (sy_iL 4) (sy_iK 1))) (sy_aR (sy_rL 3) sy_aN))) (sy_env5 bs t) = sy_ret [.ref 0, .int (xs (5 * t + 1)), .ref 77] := by
    unfold sy_aR sy_aI
    simp only [e_script (c := 1) (env := sy_env5 bs t) (bs := bs) (xs := xs) (j := 1) (t := t) rfl rfl rfl (by decide) ht hL]
    rfl
  have a2 : (sy_aR (sy_rL 2) (sy_aI (sy_iS bs L xs (sy_iAdd (sy_iL 4) (sy_iK 1))) sy_aN)) (sy_env5 bs t ++ [.int (sy_code r)]) = sy_ret [.ref 44, .int (xs (5 * t + 1))] := by
    unfold sy_aR sy_aI
    simp only [e_script (c := 1) (env := sy_env5 bs t ++ [Value.int (sy_code r)]) (bs := bs) (xs := xs) (j := 1) (t := t) rfl rfl rfl (by decide) ht hL]
    rfl
  show sy_sSI 5 (sy_iM (sy_cs 3 sf_L_parent) _) (sy_env5 bs t) (fun env => sy_sSI 6 (sy_iM (sy_cv 6 1 sf_X6_parent) (sy_aR (sy_rL 2) (sy_aI (sy_iS bs L xs (sy_iAdd (sy_iL 4) (sy_iK 1))) sy_aN))) env (fun env => sy_cmpI env (fun env' => k (env'.take 5)))) σ = _
  rw [e_sSI (e_iM a1 (show sy_cs 3 sf_L_parent _ σ = _ from h_L_parent h5 hE))]
  show sy_sSI 6 _ (sy_env5 bs t ++ [.int (sy_code r)]) _ _ = _
  rw [e_sSI (e_iM a2 (show sy_cv 6 1 sf_X6_parent _ _ = _ from h6))]
  exact sy_cmpI_ok (fun E h => ⟨(hE E h).1, by have := (hE E h).2; omega⟩) ha (fun env' => k (env'.take 5))
theorem h_L_holds {a1 : Int32} {σ τ : sy_Mem} {r : Int32 ⊕ Nat} (h : sf_X5_holds [.ref 0, .int a1] σ = some (sy_rI r, τ)) (hE : ∀ E, r = .inr E → 1 ≤ E ∧ E ≤ 1) :
    sf_L_holds [.ref 0, .int a1, .ref 77] σ = some (.inl (some (.int (sy_code r))), sy_note r τ) := by
  have e : sf_L_holds [.ref 0, .int a1, .ref 77] σ = sy_nx (fun _ => sy_tr (sf_X5_holds [.ref 0, .int a1]) (fun r => sy_bnd (sy_toI r) fun x => sy_bnd (sy_mL 77 x.toInt64) fun _ => sy_ret (some (.int 0))) (sy_hx 1)) [] σ := rfl
  rw [e]
  exact sy_nx_of (sy_tr_I h hE)
theorem case_20 {bs L t : Nat} {xs : Nat → Int32} {σ σ1 σ2 : sy_Mem} {r : Int32 ⊕ Nat} {y : Int32} (ht : 5 * t + 5 ≤ L) (hL : L ≤ 2560) (h5 : sf_X5_holds [.ref 0, .int (xs (5 * t + 1))] σ = some (sy_rI r, σ1)) (hE : ∀ E, r = .inr E → 1 ≤ E ∧ E ≤ 1)
    (h6 : sf_X6_holds [.ref 44, .int (xs (5 * t + 1))] (sy_note r σ1) = some (.inl (some (.int y)), σ2)) (ha : sy_alike r y σ2) (k : List Value → sy_MM (Option Value)) : sm_L_20 bs L xs (sy_env5 bs t) k σ = k (sy_env5 bs t) σ2 := by
  have a1 : (sy_aR (sy_rL 1) (sy_aI (sy_iS bs L xs (sy_iAdd (sy_iL 4) (sy_iK 1))) (sy_aR (sy_rL 3) sy_aN))) (sy_env5 bs t) = sy_ret [.ref 0, .int (xs (5 * t + 1)), .ref 77] := by
    unfold sy_aR sy_aI
    simp only [e_script (c := 1) (env := sy_env5 bs t) (bs := bs) (xs := xs) (j := 1) (t := t) rfl rfl rfl (by decide) ht hL]
    rfl
  have a2 : (sy_aR (sy_rL 2) (sy_aI (sy_iS bs L xs (sy_iAdd (sy_iL 4) (sy_iK 1))) sy_aN)) (sy_env5 bs t ++ [.int (sy_code r)]) = sy_ret [.ref 44, .int (xs (5 * t + 1))] := by
    unfold sy_aR sy_aI
    simp only [e_script (c := 1) (env := sy_env5 bs t ++ [Value.int (sy_code r)]) (bs := bs) (xs := xs) (j := 1) (t := t) rfl rfl rfl (by decide) ht hL]
    rfl
  show sy_sSI 5 (sy_iM (sy_cs 3 sf_L_holds) _) (sy_env5 bs t) (fun env => sy_sSI 6 (sy_iM (sy_cv 6 1 sf_X6_holds) (sy_aR (sy_rL 2) (sy_aI (sy_iS bs L xs (sy_iAdd (sy_iL 4) (sy_iK 1))) sy_aN))) env (fun env => sy_cmpI env (fun env' => k (env'.take 5)))) σ = _
  rw [e_sSI (e_iM a1 (show sy_cs 3 sf_L_holds _ σ = _ from h_L_holds h5 hE))]
  show sy_sSI 6 _ (sy_env5 bs t ++ [.int (sy_code r)]) _ _ = _
  rw [e_sSI (e_iM a2 (show sy_cv 6 1 sf_X6_holds _ _ = _ from h6))]
  exact sy_cmpI_ok (fun E h => ⟨(hE E h).1, by have := (hE E h).2; omega⟩) ha (fun env' => k (env'.take 5))
theorem h_L_second {a1 : Int32} {σ τ : sy_Mem} {r : Int32 ⊕ Nat} (h : sf_X5_second [.ref 0, .int a1] σ = some (sy_rI r, τ)) (hE : ∀ E, r = .inr E → 1 ≤ E ∧ E ≤ 1) :
    sf_L_second [.ref 0, .int a1, .ref 77] σ = some (.inl (some (.int (sy_code r))), sy_note r τ) := by
  have e : sf_L_second [.ref 0, .int a1, .ref 77] σ = sy_nx (fun _ => sy_tr (sf_X5_second [.ref 0, .int a1]) (fun r => sy_bnd (sy_toI r) fun x => sy_bnd (sy_mL 77 x.toInt64) fun _ => sy_ret (some (.int 0))) (sy_hx 1)) [] σ := rfl
  rw [e]
  exact sy_nx_of (sy_tr_I h hE)
theorem case_22 {bs L t : Nat} {xs : Nat → Int32} {σ σ1 σ2 : sy_Mem} {r : Int32 ⊕ Nat} {y : Int32} (ht : 5 * t + 5 ≤ L) (hL : L ≤ 2560) (h5 : sf_X5_second [.ref 0, .int (xs (5 * t + 1))] σ = some (sy_rI r, σ1)) (hE : ∀ E, r = .inr E → 1 ≤ E ∧ E ≤ 1)
    (h6 : sf_X6_second [.ref 44, .int (xs (5 * t + 1))] (sy_note r σ1) = some (.inl (some (.int y)), σ2)) (ha : sy_alike r y σ2) (k : List Value → sy_MM (Option Value)) : sm_L_22 bs L xs (sy_env5 bs t) k σ = k (sy_env5 bs t) σ2 := by
  have a1 : (sy_aR (sy_rL 1) (sy_aI (sy_iS bs L xs (sy_iAdd (sy_iL 4) (sy_iK 1))) (sy_aR (sy_rL 3) sy_aN))) (sy_env5 bs t) = sy_ret [.ref 0, .int (xs (5 * t + 1)), .ref 77] := by
    unfold sy_aR sy_aI
    simp only [e_script (c := 1) (env := sy_env5 bs t) (bs := bs) (xs := xs) (j := 1) (t := t) rfl rfl rfl (by decide) ht hL]
    rfl
  have a2 : (sy_aR (sy_rL 2) (sy_aI (sy_iS bs L xs (sy_iAdd (sy_iL 4) (sy_iK 1))) sy_aN)) (sy_env5 bs t ++ [.int (sy_code r)]) = sy_ret [.ref 44, .int (xs (5 * t + 1))] := by
    unfold sy_aR sy_aI
    simp only [e_script (c := 1) (env := sy_env5 bs t ++ [Value.int (sy_code r)]) (bs := bs) (xs := xs) (j := 1) (t := t) rfl rfl rfl (by decide) ht hL]
    rfl
  show sy_sSI 5 (sy_iM (sy_cs 3 sf_L_second) _) (sy_env5 bs t) (fun env => sy_sSI 6 (sy_iM (sy_cv 6 1 sf_X6_second) (sy_aR (sy_rL 2) (sy_aI (sy_iS bs L xs (sy_iAdd (sy_iL 4) (sy_iK 1))) sy_aN))) env (fun env => sy_cmpI env (fun env' => k (env'.take 5)))) σ = _
  rw [e_sSI (e_iM a1 (show sy_cs 3 sf_L_second _ σ = _ from h_L_second h5 hE))]
  show sy_sSI 6 _ (sy_env5 bs t ++ [.int (sy_code r)]) _ _ = _
  rw [e_sSI (e_iM a2 (show sy_cv 6 1 sf_X6_second _ _ = _ from h6))]
  exact sy_cmpI_ok (fun E h => ⟨(hE E h).1, by have := (hE E h).2; omega⟩) ha (fun env' => k (env'.take 5))
theorem h_L_tied {a1 : Int32} {σ τ : sy_Mem} {r : Int32 ⊕ Nat} (h : sf_X5_tied [.ref 0, .int a1] σ = some (sy_rI r, τ)) (hE : ∀ E, r = .inr E → 1 ≤ E ∧ E ≤ 1) :
    sf_L_tied [.ref 0, .int a1, .ref 77] σ = some (.inl (some (.int (sy_code r))), sy_note r τ) := by
  have e : sf_L_tied [.ref 0, .int a1, .ref 77] σ = sy_nx (fun _ => sy_tr (sf_X5_tied [.ref 0, .int a1]) (fun r => sy_bnd (sy_toI r) fun x => sy_bnd (sy_mL 77 x.toInt64) fun _ => sy_ret (some (.int 0))) (sy_hx 1)) [] σ := rfl
  rw [e]
  exact sy_nx_of (sy_tr_I h hE)
theorem case_23 {bs L t : Nat} {xs : Nat → Int32} {σ σ1 σ2 : sy_Mem} {r : Int32 ⊕ Nat} {y : Int32} (ht : 5 * t + 5 ≤ L) (hL : L ≤ 2560) (h5 : sf_X5_tied [.ref 0, .int (xs (5 * t + 1))] σ = some (sy_rI r, σ1)) (hE : ∀ E, r = .inr E → 1 ≤ E ∧ E ≤ 1)
    (h6 : sf_X6_tied [.ref 44, .int (xs (5 * t + 1))] (sy_note r σ1) = some (.inl (some (.int y)), σ2)) (ha : sy_alike r y σ2) (k : List Value → sy_MM (Option Value)) : sm_L_23 bs L xs (sy_env5 bs t) k σ = k (sy_env5 bs t) σ2 := by
  have a1 : (sy_aR (sy_rL 1) (sy_aI (sy_iS bs L xs (sy_iAdd (sy_iL 4) (sy_iK 1))) (sy_aR (sy_rL 3) sy_aN))) (sy_env5 bs t) = sy_ret [.ref 0, .int (xs (5 * t + 1)), .ref 77] := by
    unfold sy_aR sy_aI
    simp only [e_script (c := 1) (env := sy_env5 bs t) (bs := bs) (xs := xs) (j := 1) (t := t) rfl rfl rfl (by decide) ht hL]
    rfl
  have a2 : (sy_aR (sy_rL 2) (sy_aI (sy_iS bs L xs (sy_iAdd (sy_iL 4) (sy_iK 1))) sy_aN)) (sy_env5 bs t ++ [.int (sy_code r)]) = sy_ret [.ref 44, .int (xs (5 * t + 1))] := by
    unfold sy_aR sy_aI
    simp only [e_script (c := 1) (env := sy_env5 bs t ++ [Value.int (sy_code r)]) (bs := bs) (xs := xs) (j := 1) (t := t) rfl rfl rfl (by decide) ht hL]
    rfl
  show sy_sSI 5 (sy_iM (sy_cs 3 sf_L_tied) _) (sy_env5 bs t) (fun env => sy_sSI 6 (sy_iM (sy_cv 6 1 sf_X6_tied) (sy_aR (sy_rL 2) (sy_aI (sy_iS bs L xs (sy_iAdd (sy_iL 4) (sy_iK 1))) sy_aN))) env (fun env => sy_cmpI env (fun env' => k (env'.take 5)))) σ = _
  rw [e_sSI (e_iM a1 (show sy_cs 3 sf_L_tied _ σ = _ from h_L_tied h5 hE))]
  show sy_sSI 6 _ (sy_env5 bs t ++ [.int (sy_code r)]) _ _ = _
  rw [e_sSI (e_iM a2 (show sy_cv 6 1 sf_X6_tied _ _ = _ from h6))]
  exact sy_cmpI_ok (fun E h => ⟨(hE E h).1, by have := (hE E h).2; omega⟩) ha (fun env' => k (env'.take 5))
end SYV7
