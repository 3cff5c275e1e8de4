section SYV8
def sy_rU : Unit ⊕ Nat → sy_Rs
  | .inl _ => .inl none
  | .inr E => .inr E
def sy_codU : Unit ⊕ Nat → Int32
  | .inl _ => 0
  | .inr E => Int32.ofNat E
theorem sy_tr_V {m : sy_MM (Option Value)} {nc : Nat} {σ τ : sy_Mem} {r : Unit ⊕ Nat} (h : m σ = some (sy_rU r, τ)) (hE : ∀ E, r = .inr E → 1 ≤ E ∧ E ≤ nc) :
    sy_tr m (fun r => match r with | none => sy_ret (some (.int 0)) | _ => sy_fail) (sy_hx nc) σ = some (.inl (some (.int (sy_codU r))), τ) := by
  unfold sy_tr
  rw [h]
  cases r with
  | inl x => rfl
  | inr E =>
    show sy_hx nc E τ = _
    unfold sy_hx
    rw [if_pos (hE E rfl)]
    rfl
theorem e_sC {c : List Value → sy_MM (Option Value)} {as : sy_AE} {env vs : List Value} {σ τ : sy_Mem} (ha : as env = sy_ret vs) (hc : c vs σ = some (.inl none, τ)) (k : List Value → sy_MM (Option Value)) : sy_sC c as env k σ = k env τ := by
  unfold sy_sC
  rw [ha, sy_bnd_ret, sy_bnd_at hc]
def sy_cmpV : sy_S := sy_sI (sy_cne (sy_iM (sy_cv 6 0 sf_X6_thrown) (sy_aR (sy_rL 2) sy_aN)) (sy_iL 5)) (sy_eZ (sy_iK 0)) sy_sN
theorem sy_cmpV_ok {bs t : Nat} {x : Int32} {τ : sy_Mem} (h : τ 44 36 = x) (k : List Value → sy_MM (Option Value)) : sy_cmpV (sy_env5 bs t ++ [.int x]) k τ = k (sy_env5 bs t ++ [.int x]) τ := by
  have e1 : sy_cne (sy_iM (sy_cv 6 0 sf_X6_thrown) (sy_aR (sy_rL 2) sy_aN)) (sy_iL 5) (sy_env5 bs t ++ [.int x]) τ = some (.inl (!decide (τ 44 36 = x)), τ) := rfl
  unfold sy_cmpV sy_sI
  rw [sy_bnd_at e1, decide_eq_true h]
  rfl
theorem h_L_tie {a1 a2 a3 a4 : Int32} {σ τ : sy_Mem} {r : Unit ⊕ Nat} (h : sf_X5_tie [.ref 0, .int a1, .int a2, .int a3, .int a4] σ = some (sy_rU r, τ)) (hE : ∀ E, r = .inr E → 1 ≤ E ∧ E ≤ 3) :
    sf_L_tie [.ref 0, .int a1, .int a2, .int a3, .int a4] σ = some (.inl (some (.int (sy_codU r))), τ) := by
  have e : sf_L_tie [.ref 0, .int a1, .int a2, .int a3, .int a4] σ = sy_nx (fun _ => sy_tr (sf_X5_tie [.ref 0, .int a1, .int a2, .int a3, .int a4]) (fun r => match r with | none => sy_ret (some (.int 0)) | _ => sy_fail) (sy_hx 3)) [] σ := rfl
  rw [e]
  exact sy_nx_of (sy_tr_V h hE)
theorem case_1 {bs L t : Nat} {xs : Nat → Int32} {σ σ1 σ2 : sy_Mem} {r : Unit ⊕ Nat} (ht : 5 * t + 5 ≤ L) (hL : L ≤ 2560) (h5 : sf_X5_tie [.ref 0, .int (xs (5 * t + 1)), .int (xs (5 * t + 2)), .int (xs (5 * t + 3)), .int (xs (5 * t + 4))] σ = some (sy_rU r, σ1)) (hE : ∀ E, r = .inr E → 1 ≤ E ∧ E ≤ 3)
    (h6 : sf_X6_tie [.ref 44, .int (xs (5 * t + 1)), .int (xs (5 * t + 2)), .int (xs (5 * t + 3)), .int (xs (5 * t + 4))] σ1 = some (.inl none, σ2)) (ha : σ2 44 36 = sy_codU r) (k : List Value → sy_MM (Option Value)) : sm_L_1 bs L xs (sy_env5 bs t) k σ = k (sy_env5 bs t) σ2 := by
  have a1 : (sy_aR (sy_rL 1) (sy_aI (sy_iS bs L xs (sy_iAdd (sy_iL 4) (sy_iK 1))) (sy_aI (sy_iS bs L xs (sy_iAdd (sy_iL 4) (sy_iK 2))) (sy_aI (sy_iS bs L xs (sy_iAdd (sy_iL 4) (sy_iK 3))) (sy_aI (sy_iS bs L xs (sy_iAdd (sy_iL 4) (sy_iK 4))) sy_aN))))) (sy_env5 bs t) = sy_ret [.ref 0, .int (xs (5 * t + 1)), .int (xs (5 * t + 2)), .int (xs (5 * t + 3)), .int (xs (5 * t + 4))] := by
    unfold sy_aR sy_aI
    simp only [e_script (c := 1) (env := sy_env5 bs t) (bs := bs) (xs := xs) (j := 1) (t := t) rfl rfl rfl (by decide) ht hL, e_script (c := 2) (env := sy_env5 bs t) (bs := bs) (xs := xs) (j := 2) (t := t) rfl rfl rfl (by decide) ht hL, e_script (c := 3) (env := sy_env5 bs t) (bs := bs) (xs := xs) (j := 3) (t := t) rfl rfl rfl (by decide) ht hL, e_script (c := 4) (env := sy_env5 bs t) (bs := bs) (xs := xs) (j := 4) (t := t) rfl rfl rfl (by decide) ht hL]
    rfl
  have a2 : (sy_aR (sy_rL 2) (sy_aI (sy_iS bs L xs (sy_iAdd (sy_iL 4) (sy_iK 1))) (sy_aI (sy_iS bs L xs (sy_iAdd (sy_iL 4) (sy_iK 2))) (sy_aI (sy_iS bs L xs (sy_iAdd (sy_iL 4) (sy_iK 3))) (sy_aI (sy_iS bs L xs (sy_iAdd (sy_iL 4) (sy_iK 4))) sy_aN))))) (sy_env5 bs t ++ [.int (sy_codU r)]) = sy_ret [.ref 44, .int (xs (5 * t + 1)), .int (xs (5 * t + 2)), .int (xs (5 * t + 3)), .int (xs (5 * t + 4))] := by
    unfold sy_aR sy_aI
    simp only [e_script (c := 1) (env := sy_env5 bs t ++ [Value.int (sy_codU r)]) (bs := bs) (xs := xs) (j := 1) (t := t) rfl rfl rfl (by decide) ht hL, e_script (c := 2) (env := sy_env5 bs t ++ [Value.int (sy_codU r)]) (bs := bs) (xs := xs) (j := 2) (t := t) rfl rfl rfl (by decide) ht hL, e_script (c := 3) (env := sy_env5 bs t ++ [Value.int (sy_codU r)]) (bs := bs) (xs := xs) (j := 3) (t := t) rfl rfl rfl (by decide) ht hL, e_script (c := 4) (env := sy_env5 bs t ++ [Value.int (sy_codU r)]) (bs := bs) (xs := xs) (j := 4) (t := t) rfl rfl rfl (by decide) ht hL]
    rfl
  show sy_sSI 5 (sy_iM (sy_cs 5 sf_L_tie) _) (sy_env5 bs t) (fun env => sy_sC (sy_cv 6 4 sf_X6_tie) (sy_aR (sy_rL 2) (sy_aI (sy_iS bs L xs (sy_iAdd (sy_iL 4) (sy_iK 1))) (sy_aI (sy_iS bs L xs (sy_iAdd (sy_iL 4) (sy_iK 2))) (sy_aI (sy_iS bs L xs (sy_iAdd (sy_iL 4) (sy_iK 3))) (sy_aI (sy_iS bs L xs (sy_iAdd (sy_iL 4) (sy_iK 4))) sy_aN))))) env (fun env => sy_cmpV env (fun env' => k (env'.take 5)))) σ = _
  rw [e_sSI (e_iM a1 (show sy_cs 5 sf_L_tie _ σ = _ from h_L_tie h5 hE))]
  show sy_sC _ _ (sy_env5 bs t ++ [.int (sy_codU r)]) _ _ = _
  rw [e_sC a2 (show sy_cv 6 4 sf_X6_tie _ _ = _ from h6)]
  exact sy_cmpV_ok ha (fun env' => k (env'.take 5))
theorem h_L_open {a1 a2 a3 : Int32} {σ τ : sy_Mem} {r : Unit ⊕ Nat} (h : sf_X5_open [.ref 0, .int a1, .int a2, .int a3] σ = some (sy_rU r, τ)) (hE : ∀ E, r = .inr E → 1 ≤ E ∧ E ≤ 2) :
    sf_L_open [.ref 0, .int a1, .int a2, .int a3] σ = some (.inl (some (.int (sy_codU r))), τ) := by
  have e : sf_L_open [.ref 0, .int a1, .int a2, .int a3] σ = sy_nx (fun _ => sy_tr (sf_X5_open [.ref 0, .int a1, .int a2, .int a3]) (fun r => match r with | none => sy_ret (some (.int 0)) | _ => sy_fail) (sy_hx 2)) [] σ := rfl
  rw [e]
  exact sy_nx_of (sy_tr_V h hE)
theorem case_2 {bs L t : Nat} {xs : Nat → Int32} {σ σ1 σ2 : sy_Mem} {r : Unit ⊕ Nat} (ht : 5 * t + 5 ≤ L) (hL : L ≤ 2560) (h5 : sf_X5_open [.ref 0, .int (xs (5 * t + 1)), .int (xs (5 * t + 2)), .int (xs (5 * t + 3))] σ = some (sy_rU r, σ1)) (hE : ∀ E, r = .inr E → 1 ≤ E ∧ E ≤ 2)
    (h6 : sf_X6_open [.ref 44, .int (xs (5 * t + 1)), .int (xs (5 * t + 2)), .int (xs (5 * t + 3))] σ1 = some (.inl none, σ2)) (ha : σ2 44 36 = sy_codU r) (k : List Value → sy_MM (Option Value)) : sm_L_2 bs L xs (sy_env5 bs t) k σ = k (sy_env5 bs t) σ2 := by
  have a1 : (sy_aR (sy_rL 1) (sy_aI (sy_iS bs L xs (sy_iAdd (sy_iL 4) (sy_iK 1))) (sy_aI (sy_iS bs L xs (sy_iAdd (sy_iL 4) (sy_iK 2))) (sy_aI (sy_iS bs L xs (sy_iAdd (sy_iL 4) (sy_iK 3))) sy_aN)))) (sy_env5 bs t) = sy_ret [.ref 0, .int (xs (5 * t + 1)), .int (xs (5 * t + 2)), .int (xs (5 * t + 3))] := by
    unfold sy_aR sy_aI
    simp only [e_script (c := 1) (env := sy_env5 bs t) (bs := bs) (xs := xs) (j := 1) (t := t) rfl rfl rfl (by decide) ht hL, e_script (c := 2) (env := sy_env5 bs t) (bs := bs) (xs := xs) (j := 2) (t := t) rfl rfl rfl (by decide) ht hL, e_script (c := 3) (env := sy_env5 bs t) (bs := bs) (xs := xs) (j := 3) (t := t) rfl rfl rfl (by decide) ht hL]
    rfl
  have a2 : (sy_aR (sy_rL 2) (sy_aI (sy_iS bs L xs (sy_iAdd (sy_iL 4) (sy_iK 1))) (sy_aI (sy_iS bs L xs (sy_iAdd (sy_iL 4) (sy_iK 2))) (sy_aI (sy_iS bs L xs (sy_iAdd (sy_iL 4) (sy_iK 3))) sy_aN)))) (sy_env5 bs t ++ [.int (sy_codU r)]) = sy_ret [.ref 44, .int (xs (5 * t + 1)), .int (xs (5 * t + 2)), .int (xs (5 * t + 3))] := by
    unfold sy_aR sy_aI
    simp only [e_script (c := 1) (env := sy_env5 bs t ++ [Value.int (sy_codU r)]) (bs := bs) (xs := xs) (j := 1) (t := t) rfl rfl rfl (by decide) ht hL, e_script (c := 2) (env := sy_env5 bs t ++ [Value.int (sy_codU r)]) (bs := bs) (xs := xs) (j := 2) (t := t) rfl rfl rfl (by decide) ht hL, e_script (c := 3) (env := sy_env5 bs t ++ [Value.int (sy_codU r)]) (bs := bs) (xs := xs) (j := 3) (t := t) rfl rfl rfl (by decide) ht hL]
    rfl
  show sy_sSI 5 (sy_iM (sy_cs 4 sf_L_open) _) (sy_env5 bs t) (fun env => sy_sC (sy_cv 6 3 sf_X6_open) (sy_aR (sy_rL 2) (sy_aI (sy_iS bs L xs (sy_iAdd (sy_iL 4) (sy_iK 1))) (sy_aI (sy_iS bs L xs (sy_iAdd (sy_iL 4) (sy_iK 2))) (sy_aI (sy_iS bs L xs (sy_iAdd (sy_iL 4) (sy_iK 3))) sy_aN)))) env (fun env => sy_cmpV env (fun env' => k (env'.take 5)))) σ = _
  rw [e_sSI (e_iM a1 (show sy_cs 4 sf_L_open _ σ = _ from h_L_open h5 hE))]
  show sy_sC _ _ (sy_env5 bs t ++ [.int (sy_codU r)]) _ _ = _
  rw [e_sC a2 (show sy_cv 6 3 sf_X6_open _ _ = _ from h6)]
  exact sy_cmpV_ok ha (fun env' => k (env'.take 5))
end SYV8
