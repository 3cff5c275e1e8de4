section SYV5
theorem e_sSI {i : Nat} {e : sy_IE} {env : List Value} {σ τ : sy_Mem} {x : Int32} (h : e env σ = some (.inl x, τ)) (k : List Value → sy_MM (Option Value)) : sy_sSI i e env k σ = k (sy_set env i (.int x)) τ := by
  unfold sy_sSI
  rw [sy_bnd_at h]
theorem e_iM {c : List Value → sy_MM (Option Value)} {as : sy_AE} {env vs : List Value} {σ τ : sy_Mem} {x : Int32} (ha : as env = sy_ret vs) (hc : c vs σ = some (.inl (some (.int x)), τ)) : sy_iM c as env σ = some (.inl x, τ) := by
  unfold sy_iM
  rw [ha, sy_bnd_ret, sy_bnd_at hc]
  rfl
theorem case_13 {bs L t : Nat} {xs : Nat → Int32} {σ σ1 σ2 : sy_Mem} {r : Int32 ⊕ Nat} {y : Int32} (ht : 5 * t + 5 ≤ L) (hL : L ≤ 2560) (h5 : sf_X5_count [.ref 0, .int (xs (5 * t + 1))] σ = some (sy_rI r, σ1)) (hE : ∀ E, r = .inr E → 1 ≤ E ∧ E ≤ 1)
    (h6 : sf_X6_count [.ref 44, .int (xs (5 * t + 1))] (sy_note r σ1) = some (.inl (some (.int y)), σ2)) (ha : sy_alike r y σ2) (k : List Value → sy_MM (Option Value)) : sm_L_13 bs L xs (sy_env5 bs t) k σ = k (sy_env5 bs t) σ2 := by
  have a1 : (sy_aR (sy_rL 1) (sy_aI (sy_iS bs L xs (sy_iAdd (sy_iL 4) (sy_iK 1))) (sy_aR (sy_rL 3) sy_aN))) (sy_env5 bs t) = sy_ret [.ref 0, .int (xs (5 * t + 1)), .ref 77] := by
    unfold sy_aR sy_aI
    rw [e_script (c := 1) (env := sy_env5 bs t) (bs := bs) (xs := xs) (j := 1) (t := t) rfl rfl rfl (by decide) ht hL]
    rfl
  have a2 : (sy_aR (sy_rL 2) (sy_aI (sy_iS bs L xs (sy_iAdd (sy_iL 4) (sy_iK 1))) sy_aN)) (sy_env5 bs t ++ [.int (sy_code r)]) = sy_ret [.ref 44, .int (xs (5 * t + 1))] := by
    unfold sy_aR sy_aI
    rw [e_script (c := 1) (env := sy_env5 bs t ++ [Value.int (sy_code r)]) (bs := bs) (xs := xs) (j := 1) (t := t) rfl rfl rfl (by decide) ht hL]
    rfl
  show sy_sSI 5 (sy_iM (sy_cs 3 sf_L_count) _) (sy_env5 bs t) (fun env => sy_sSI 6 (sy_iM (sy_cv 6 1 sf_X6_count) (sy_aR (sy_rL 2) (sy_aI (sy_iS bs L xs (sy_iAdd (sy_iL 4) (sy_iK 1))) sy_aN))) env (fun env => sy_cmpI env (fun env' => k (env'.take 5)))) σ = _
  rw [e_sSI (e_iM a1 (show sy_cs 3 sf_L_count _ σ = _ from h_L_count h5 hE))]
  show sy_sSI 6 _ (sy_env5 bs t ++ [.int (sy_code r)]) _ _ = _
  rw [e_sSI (e_iM a2 (show sy_cv 6 1 sf_X6_count _ _ = _ from h6))]
  exact sy_cmpI_ok (fun E h => ⟨(hE E h).1, by have := (hE E h).2; omega⟩) ha (fun env' => k (env'.take 5))
end SYV5
