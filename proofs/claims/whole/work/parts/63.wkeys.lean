/-! keys: the case of the law, and its turn -/
section YWd
variable {σ τ A : sy_Mem} {t : Nat}
def sy_codeJ : Int64 ⊕ Nat → Int32
  | .inl _ => 0
  | .inr E => Int32.ofNat E
def sy_noteJ (r : Int64 ⊕ Nat) (τ : sy_Mem) : sy_Mem := match r with
  | .inl x => sy_upL τ 77 x
  | .inr _ => τ
def sy_rJ : Int64 ⊕ Nat → sy_Rs
  | .inl x => .inl (some (.long x))
  | .inr E => .inr E
def sy_alikeJ (r : Int64 ⊕ Nat) (y : Int64) (τ : sy_Mem) : Prop := τ 44 36 = sy_codeJ r ∧ ∀ x, r = .inl x → y = x ∧ sy_jn (τ 77 0) (τ 77 1) = x
theorem sy_tr_J {m : sy_MM (Option Value)} {nc : Nat} {r : Int64 ⊕ Nat} (h : m σ = some (sy_rJ r, τ)) (hE : ∀ E, r = .inr E → 1 ≤ E ∧ E ≤ nc) :
    sy_tr m (fun r => sy_bnd (sy_toL r) fun x => sy_bnd (sy_mL 77 x) fun _ => sy_ret (some (.int 0))) (sy_hx nc) σ = some (.inl (some (.int (sy_codeJ r))), sy_noteJ r τ) := by
  unfold sy_tr
  rw [h]
  cases r with
  | inl x => rfl
  | inr E =>
    show sy_hx nc E τ = _
    unfold sy_hx
    rw [if_pos (hE E rfl)]
    rfl
theorem h_L_keys {a : Int32} {r : Int64 ⊕ Nat} (h : sf_X5_keys [.ref 0, .int a] σ = some (sy_rJ r, τ)) (hE : ∀ E, r = .inr E → 1 ≤ E ∧ E ≤ 1) :
    sf_L_keys [.ref 0, .int a, .ref 77] σ = some (.inl (some (.int (sy_codeJ r))), sy_noteJ r τ) := by
  have e : sf_L_keys [.ref 0, .int a, .ref 77] σ = sy_nx (fun _ => sy_tr (sf_X5_keys [.ref 0, .int a]) (fun r => sy_bnd (sy_toL r) fun x => sy_bnd (sy_mL 77 x) fun _ => sy_ret (some (.int 0))) (sy_hx 1)) [] σ := rfl
  rw [e]
  exact sy_nx_of (sy_tr_J h hE)
def sy_cmpJ : sy_S := sy_sQ (sy_sI (sy_cne (sy_iM (sy_cv 6 0 sf_X6_thrown) (sy_aR (sy_rL 2) sy_aN)) (sy_iL 5)) (sy_eZ (sy_iK 0)) sy_sN) (sy_sI (sy_cA (sy_ceq (sy_iL 5) (sy_iK 0)) (sy_cLn (sy_lA (sy_rL 3) (sy_iK 0)) (sy_lL 6))) (sy_eZ (sy_iK 0)) sy_sN)
theorem sy_cmpJ_ok {bs t : Nat} {r : Int64 ⊕ Nat} {y : Int64} {τ : sy_Mem} (hE : ∀ E, r = .inr E → 1 ≤ E ∧ E ≤ 3) (h : sy_alikeJ r y τ) (k : List Value → sy_MM (Option Value)) :
    sy_cmpJ (sy_env5 bs t ++ [.int (sy_codeJ r), .long y, .null]) k τ = k (sy_env5 bs t ++ [.int (sy_codeJ r), .long y, .null]) τ := by
  obtain ⟨h1, h2⟩ := h
  have e1 : sy_cne (sy_iM (sy_cv 6 0 sf_X6_thrown) (sy_aR (sy_rL 2) sy_aN)) (sy_iL 5) (sy_env5 bs t ++ [.int (sy_codeJ r), .long y, .null]) τ = some (.inl (!decide (τ 44 36 = sy_codeJ r)), τ) := rfl
  have e2 : sy_cLn (sy_lA (sy_rL 3) (sy_iK 0)) (sy_lL 6) (sy_env5 bs t ++ [.int (sy_codeJ r), .long y, .null]) τ = some (.inl (!decide (sy_jn (τ 77 0) (τ 77 1) = y)), τ) := rfl
  have e3 : sy_ceq (sy_iL 5) (sy_iK 0) (sy_env5 bs t ++ [.int (sy_codeJ r), .long y, .null]) τ = some (.inl (decide (sy_codeJ r = 0)), τ) := rfl
  unfold sy_cmpJ sy_sQ sy_sI
  rw [sy_bnd_at e1, h1]
  simp only [decide_true, Bool.not_true, Bool.false_eq_true, if_false]
  show sy_bnd (sy_cA _ _ _) _ τ = _
  have e4 : sy_cA (sy_ceq (sy_iL 5) (sy_iK 0)) (sy_cLn (sy_lA (sy_rL 3) (sy_iK 0)) (sy_lL 6)) (sy_env5 bs t ++ [.int (sy_codeJ r), .long y, .null]) τ = some (.inl false, τ) := by
    unfold sy_cA
    rw [sy_bnd_at e3]
    cases r with
    | inl x =>
      obtain ⟨rfl, h4⟩ := h2 x rfl
      rw [decide_eq_true (show sy_codeJ (.inl y) = 0 from rfl), if_pos rfl, e2, h4, decide_eq_true rfl]
      rfl
    | inr E =>
      obtain ⟨a, b⟩ := hE E rfl
      have : ¬ sy_codeJ (.inr E) = 0 := by
        rcases (show E = 1 ∨ E = 2 ∨ E = 3 by omega) with rfl | rfl | rfl <;> decide
      rw [decide_eq_false this]
      rfl
  rw [sy_bnd_at e4]
  rfl
theorem e_lM {c : List Value → sy_MM (Option Value)} {as : sy_AE} {env vs : List Value} {σ τ : sy_Mem} {x : Int64} (ha : as env = sy_ret vs) (hc : c vs σ = some (.inl (some (.long x)), τ)) : sy_lM c as env σ = some (.inl x, τ) := by
  unfold sy_lM
  rw [ha, sy_bnd_ret, sy_bnd_at hc]
  rfl
theorem e_sSL {i : Nat} {e : sy_LE} {env : List Value} {σ τ : sy_Mem} {x : Int64} (h : e env σ = some (.inl x, τ)) (k : List Value → sy_MM (Option Value)) : sy_sSL i e env k σ = k (sy_set (sy_set env (i + 1) .null) i (.long x)) τ := by
  unfold sy_sSL
  rw [sy_bnd_at h]
theorem case_21 {bs L t : Nat} {xs : Nat → Int32} {σ σ1 σ2 : sy_Mem} {r : Int64 ⊕ Nat} {y : Int64} (ht : 5 * t + 5 ≤ L) (hL : L ≤ 2560) (h5 : sf_X5_keys [.ref 0, .int (xs (5 * t + 1))] σ = some (sy_rJ r, σ1)) (hE : ∀ E, r = .inr E → 1 ≤ E ∧ E ≤ 1)
    (h6 : sf_X6_keys [.ref 44, .int (xs (5 * t + 1))] (sy_noteJ r σ1) = some (.inl (some (.long y)), σ2)) (ha : sy_alikeJ r y σ2) (k : List Value → sy_MM (Option Value)) : sm_L_21 bs L xs (sy_env5 bs t) k σ = k (sy_env5 bs t) σ2 := by
  have a1 : (sy_aR (sy_rL 1) (sy_aI (sy_iS bs L xs (sy_iAdd (sy_iL 4) (sy_iK 1))) (sy_aR (sy_rL 3) sy_aN))) (sy_env5 bs t) = sy_ret [.ref 0, .int (xs (5 * t + 1)), .ref 77] := by
    unfold sy_aR sy_aI
    rw [e_script (c := 1) (env := sy_env5 bs t) (bs := bs) (xs := xs) (j := 1) (t := t) rfl rfl rfl (by decide) ht hL]
    rfl
  have a2 : (sy_aR (sy_rL 2) (sy_aI (sy_iS bs L xs (sy_iAdd (sy_iL 4) (sy_iK 1))) sy_aN)) (sy_env5 bs t ++ [.int (sy_codeJ r)]) = sy_ret [.ref 44, .int (xs (5 * t + 1))] := by
    unfold sy_aR sy_aI
    rw [e_script (c := 1) (env := sy_env5 bs t ++ [Value.int (sy_codeJ r)]) (bs := bs) (xs := xs) (j := 1) (t := t) rfl rfl rfl (by decide) ht hL]
    rfl
  show sy_sSI 5 (sy_iM (sy_cs 3 sf_L_keys) _) (sy_env5 bs t) (fun env => sy_sSL 6 (sy_lM (sy_cv 6 1 sf_X6_keys) (sy_aR (sy_rL 2) (sy_aI (sy_iS bs L xs (sy_iAdd (sy_iL 4) (sy_iK 1))) sy_aN))) env (fun env => sy_cmpJ env (fun env' => k (env'.take 5)))) σ = _
  rw [e_sSI (e_iM a1 (show sy_cs 3 sf_L_keys _ σ = _ from h_L_keys h5 hE))]
  show sy_sSL 6 _ (sy_env5 bs t ++ [.int (sy_codeJ r)]) _ _ = _
  rw [e_sSL (e_lM a2 (show sy_cv 6 1 sf_X6_keys _ _ = _ from h6))]
  exact sy_cmpJ_ok (fun E h => ⟨(hE E h).1, by have := (hE E h).2; omega⟩) ha (fun env' => k (env'.take 5))
/-- the keys on the way down to a segment at level n -/
def ya_H (A : sy_Mem) : Nat → Int32 → Int64
  | 0, _ => 0
  | n + 1, s => 1000 * ya_H A n (yP A s) + (ya_N A s 0).toInt64
/-- the way up ends after just n segments -/
def ya_len (nx : Int32 → Int32) : Nat → Int32 → Prop
  | 0, s => s = -1
  | n + 1, s => s ≠ -1 ∧ ya_len nx n (nx s)
def ya_anc (nx : Int32 → Int32) : Nat → Int32 → Int32
  | 0, s => s
  | n + 1, s => ya_anc nx n (nx s)
theorem ya_anc_s {nx : Int32 → Int32} : ∀ (n : Nat) (s : Int32), ya_anc nx (n + 1) s = nx (ya_anc nx n s)
  | 0, _ => rfl
  | n + 1, s => ya_anc_s n (nx s)
/-- the level of a segment -/
def ya_lv (A : sy_Mem) (s : Int32) : Nat := (tV A (yT A s)).toInt.toNat
theorem yl_lev (I : yn_I t A) {s : Int32} (h : yl A s) : (tV A (yT A s)).toInt = (ya_lv A s : Int) ∧ 1 ≤ ya_lv A s ∧ ya_lv A s ≤ 4 := by
  have := (I.1.2.1 _ (I.2.1.1 s h).1).2.2.2.2.2.1
  unfold ya_lv
  omega
theorem yl_lev1 (I : yn_I t A) {s : Int32} (h : yl A s) : ya_lv A s = 1 ↔ yP A s = -1 := by
  have h1 := yl_lev I h
  constructor
  · intro e
    rcases (I.2.1.1 s h).2 with ⟨_, g⟩ | ⟨g1, g2, g3⟩
    · exact g
    · rcases (I.1.2.1 _ (I.2.1.1 s h).1).2.2.2.2.2.2.1 with ⟨g, _⟩ | ⟨f1, f2, f3, f4⟩
      · exact absurd g g3
      · have := (I.1.2.1 _ f1).2.2.2.2.2.1
        omega
  · intro e
    rcases (I.2.1.1 s h).2 with ⟨g, _⟩ | ⟨g1, g2, g3⟩
    · rcases (I.1.2.1 _ (I.2.1.1 s h).1).2.2.2.2.2.2.1 with ⟨_, f, _⟩ | ⟨f1, f2, f3, f4⟩
      · omega
      · rw [g, ya_isT_m] at f1; cases f1
    · exact absurd e (yl_ne g1)
theorem yl_levS (I : yn_I t A) {s : Int32} (h : yl A s) (h2 : yP A s ≠ -1) : yl A (yP A s) ∧ ya_lv A s = ya_lv A (yP A s) + 1 := by
  obtain ⟨h1, h2, h3, h4⟩ := yl_par I.1 I.2.1 h h2
  have a := yl_lev I h
  have b := yl_lev I h1
  exact ⟨h1, by omega⟩
theorem ya_len_of (I : yn_I t A) : ∀ (n : Nat) {s : Int32}, yl A s → ya_lv A s = n → ya_len (yP A) n s
  | 0, s, h, hn => by have := yl_lev I h; omega
  | n + 1, s, h, hn => by
    refine ⟨yl_ne h, ?_⟩
    by_cases hp : yP A s = -1
    · have := (yl_lev1 I h).mpr hp
      rw [show n = 0 by omega]
      exact hp
    · obtain ⟨h1, h2⟩ := yl_levS I h hp
      exact ya_len_of I n h1 (by omega)
theorem ya_anc_l (I : yn_I t A) {i : Nat} (hi : 1 ≤ i) : ∀ (d : Nat) {s : Int32}, yl A s → ya_lv A s = i + d → yl A (ya_anc (yP A) d s) ∧ ya_lv A (ya_anc (yP A) d s) = i
  | 0, s, h, hn => ⟨h, hn⟩
  | d + 1, s, h, hn => by
    have hp : yP A s ≠ -1 := fun e => by
      have := (yl_lev1 I h).mpr e
      omega
    obtain ⟨h1, h2⟩ := yl_levS I h hp
    exact ya_anc_l I hi d h1 (by omega)
end YWd
