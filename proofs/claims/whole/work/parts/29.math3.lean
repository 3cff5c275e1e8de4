section SYV3
/-- the script's int j of the turn -/
theorem e_script {env : List Value} {bs L t j : Nat} {xs : Nat → Int32} {c : Int32} (hc : c = nI j) (h0 : env[0]? = some (.retAddr bs)) (h4 : env[4]? = some (.int (nI (5 * t)))) (hj : j < 5) (h : 5 * t + 5 ≤ L) (hL : L ≤ 2560) :
    sy_iS bs L xs (sy_iAdd (sy_iL 4) (sy_iK c)) env = sy_ret (xs (5 * t + j)) := by
  subst hc
  have h1 : sy_sA1 (.retAddr bs) bs = true := by simp [sy_sA1]
  have h2 : sy_inb (nI (5 * t + j)) L = true := by
    unfold sy_inb
    rw [decide_eq_true (nI_pos' (by omega)), nI_clamp (by omega), decide_eq_true (by omega)]
    rfl
  unfold sy_iS sy_iAdd sy_iB sy_iL sy_iK
  rw [h0]
  simp only [h1, if_true, h4, sy_bnd_ret, nI_add, h2, nI_clamp (show 5 * t + j < 2 ^ 31 by omega)]
/-- what a call of the component comes to, as the law's helper tells it: the number and what the long then holds -/
def sy_code : Int32 ⊕ Nat → Int32
  | .inl _ => 0
  | .inr E => Int32.ofNat E
def sy_note (r : Int32 ⊕ Nat) (τ : sy_Mem) : sy_Mem := match r with
  | .inl x => sy_upL τ 77 x.toInt64
  | .inr _ => τ
def sy_rI : Int32 ⊕ Nat → sy_Rs
  | .inl x => .inl (some (.int x))
  | .inr E => .inr E
theorem sy_tr_I {m : sy_MM (Option Value)} {nc : Nat} {σ τ : sy_Mem} {r : Int32 ⊕ Nat} (h : m σ = some (sy_rI r, τ)) (hE : ∀ E, r = .inr E → 1 ≤ E ∧ E ≤ nc) :
    sy_tr m (fun r => sy_bnd (sy_toI r) fun x => sy_bnd (sy_mL 77 x.toInt64) fun _ => sy_ret (some (.int 0))) (sy_hx nc) σ = some (.inl (some (.int (sy_code r))), sy_note r τ) := by
  unfold sy_tr
  rw [h]
  cases r with
  | inl x => rfl
  | inr E =>
    show sy_hx nc E τ = _
    unfold sy_hx
    rw [if_pos (hE E rfl)]
    rfl
theorem sy_nx_of {f : List Value → sy_MM (Option Value)} {vs : List Value} {σ τ : sy_Mem} {v : Option Value} (h : f vs σ = some (.inl v, τ)) : sy_nx f vs σ = some (.inl v, τ) := by
  unfold sy_nx
  rw [h]
theorem h_L_count {a : Int32} {σ τ : sy_Mem} {r : Int32 ⊕ Nat} (h : sf_X5_count [.ref 0, .int a] σ = some (sy_rI r, τ)) (hE : ∀ E, r = .inr E → 1 ≤ E ∧ E ≤ 1) :
    sf_L_count [.ref 0, .int a, .ref 77] σ = some (.inl (some (.int (sy_code r))), sy_note r τ) := by
  have e : sf_L_count [.ref 0, .int a, .ref 77] σ = sy_nx (fun _ => sy_tr (sf_X5_count [.ref 0, .int a]) (fun r => sy_bnd (sy_toI r) fun x => sy_bnd (sy_mL 77 x.toInt64) fun _ => sy_ret (some (.int 0))) (sy_hx 1)) [] σ := rfl
  rw [e]
  exact sy_nx_of (sy_tr_I h hE)
theorem sy_bnd_at {α β : Type} {m : sy_MM α} {k : α → sy_MM β} {σ τ : sy_Mem} {a : α} (h : m σ = some (.inl a, τ)) : sy_bnd m k σ = k a τ := by
  unfold sy_bnd
  rw [h]
end SYV3
