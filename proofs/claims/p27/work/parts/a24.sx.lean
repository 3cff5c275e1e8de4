/-! STATEMENTS that run to their end, with what holds then -/
section LA24
variable {A σ τ σ1 σ2 : sy_Mem} {t : Nat} {env : List Value} {Q R : List Value → sy_Mem → Prop}
def SX (s : sy_S) (env : List Value) (σ : sy_Mem) (Q : List Value → sy_Mem → Prop) : Prop := ∃ env' τ, Q env' τ ∧ ∀ k, s env k σ = k env' τ
theorem sx_D {s : sy_S} {env' : List Value} (h : ∀ k, s env k σ = k env' τ) (q : Q env' τ) : SX s env σ Q := ⟨env', τ, q, h⟩
theorem sx_Q {a b : sy_S} (h1 : SX a env σ R) (h2 : ∀ e τ, R e τ → SX b e τ Q) : SX (sy_sQ a b) env σ Q := by
  obtain ⟨e1, τ1, r, k1⟩ := h1
  obtain ⟨e2, τ2, q, k2⟩ := h2 e1 τ1 r
  exact ⟨e2, τ2, q, fun k => (k1 _).trans (k2 k)⟩
theorem sx_B {m : Nat} {s : sy_S} (h : SX s env σ (fun e τ => Q (e.take m) τ)) : SX (sy_sB m s) env σ Q := by
  obtain ⟨e1, τ1, r, k1⟩ := h
  exact ⟨_, τ1, r, fun k => k1 _⟩
theorem sx_N (q : Q env σ) : SX sy_sN env σ Q := ⟨env, σ, q, fun _ => rfl⟩
theorem sx_SI {i : Nat} {e : sy_IE} {x : Int32} (h : e env σ = some (.inl x, σ1)) (q : Q (sy_set env i (.int x)) σ1) : SX (sy_sSI i e) env σ Q := ⟨_, σ1, q, fun _ => es_SI h rfl⟩
theorem sx_SIQ {i : Nat} {e : sy_IE} {x : Int32} {b : sy_S} (h : e env σ = some (.inl x, σ1)) (q : SX b (sy_set env i (.int x)) σ1 Q) : SX (sy_sQ (sy_sSI i e) b) env σ Q := sx_Q (R := fun e τ => e = sy_set env i (.int x) ∧ τ = σ1) (sx_SI h ⟨rfl, rfl⟩) (fun e τ h => by rw [h.1, h.2]; exact q)
theorem sx_SRQ {i : Nat} {e : sy_RE} {x : Nat} {b : sy_S} (h : e env σ = some (.inl x, σ1)) (q : SX b (sy_set env i (.ref x)) σ1 Q) : SX (sy_sQ (sy_sSR i e) b) env σ Q := sx_Q (R := fun e τ => e = sy_set env i (.ref x) ∧ τ = σ1) ⟨_, _, ⟨rfl, rfl⟩, fun _ => es_SR h rfl⟩ (fun e τ h => by rw [h.1, h.2]; exact q)
theorem sx_SLQ {i : Nat} {e : sy_LE} {x : Int64} {b : sy_S} (h : e env σ = some (.inl x, σ1)) (q : SX b (sy_set (sy_set env (i + 1) .null) i (.long x)) σ1 Q) : SX (sy_sQ (sy_sSL i e) b) env σ Q := sx_Q (R := fun e τ => e = sy_set (sy_set env (i + 1) .null) i (.long x) ∧ τ = σ1) ⟨_, _, ⟨rfl, rfl⟩, fun _ => es_SL h rfl⟩ (fun e τ h => by rw [h.1, h.2]; exact q)
/-- a statement with one way, then more -/
theorem sx_DQ {a b : sy_S} {env' : List Value} (h : ∀ k, a env k σ = k env' σ1) (q : SX b env' σ1 Q) : SX (sy_sQ a b) env σ Q := sx_Q (R := fun e τ => e = env' ∧ τ = σ1) ⟨_, _, ⟨rfl, rfl⟩, h⟩ (fun e τ h => by rw [h.1, h.2]; exact q)
theorem sx_I {c : sy_CE} {a b : sy_S} {x : Bool} (hc : c env σ = some (.inl x, σ1)) (h1 : x = true → SX a env σ1 Q) (h2 : x = false → SX b env σ1 Q) : SX (sy_sI c a b) env σ Q := by
  cases x with
  | true =>
    obtain ⟨e1, τ1, r, k1⟩ := h1 rfl
    exact ⟨e1, τ1, r, fun k => (es_It hc rfl).trans (k1 k)⟩
  | false =>
    obtain ⟨e1, τ1, r, k1⟩ := h2 rfl
    exact ⟨e1, τ1, r, fun k => (es_If hc rfl).trans (k1 k)⟩
/-- a loop with an invariant, that ends at the latest behind N turns -/
theorem sx_wh {c : sy_CE} {s : sy_S} {Inv : Nat → List Value → sy_Mem → Prop} {N : Nat} (go : ∀ i env σ, i ≤ N → Inv i env σ → ∃ x, c env σ = some (.inl x, σ) ∧ (x = true → i < N ∧ SX s env σ (Inv (i + 1))) ∧ (x = false → Q env σ)) : ∀ (j i m : Nat) (env : List Value) (σ : sy_Mem), i + j = N → j < m → Inv i env σ → SX (sy_wh c s m) env σ Q
  | j, i, m + 1, env, σ, hi, hm, hI => by
    obtain ⟨x, hc, h1, h2⟩ := go i env σ (by omega) hI
    cases x with
    | false =>
      refine ⟨env, σ, h2 rfl, fun k => ?_⟩
      unfold sy_wh
      rw [sy_bnd_at hc]
      rfl
    | true =>
      obtain ⟨hN, e1, τ1, r, k1⟩ := h1 rfl
      obtain ⟨j', rfl⟩ : ∃ j', j = j' + 1 := ⟨j - 1, by omega⟩
      obtain ⟨e2, τ2, q, k2⟩ := sx_wh go j' (i + 1) m e1 τ1 (by omega) (by omega) r
      refine ⟨e2, τ2, q, fun k => ?_⟩
      unfold sy_wh
      rw [sy_bnd_at hc]
      exact (k1 _).trans (k2 k)
  | _, _, 0, _, _, _, hm, _ => absurd hm (by omega)
/-- to the end of a method -/
def EX (s : sy_S) (env : List Value) (σ : sy_Mem) (v : Option Value) (P : sy_Mem → Prop) : Prop := ∃ τ, s env (fun _ => sy_fail) σ = some (.inl v, τ) ∧ P τ
variable {v : Option Value} {P : sy_Mem → Prop}
theorem ex_Q {a b : sy_S} (h1 : SX a env σ R) (h2 : ∀ e τ, R e τ → EX b e τ v P) : EX (sy_sQ a b) env σ v P := by
  obtain ⟨e1, τ1, r, k1⟩ := h1
  obtain ⟨τ2, q, p⟩ := h2 e1 τ1 r
  exact ⟨τ2, (k1 _).trans q, p⟩
theorem ex_D {a b : sy_S} {env' : List Value} (h : ∀ k, a env k σ = k env' σ1) (q : EX b env' σ1 v P) : EX (sy_sQ a b) env σ v P := by
  obtain ⟨τ2, q, p⟩ := q
  exact ⟨τ2, (h _).trans q, p⟩
theorem ex_SI {i : Nat} {e : sy_IE} {x : Int32} {b : sy_S} (h : e env σ = some (.inl x, σ1)) (q : EX b (sy_set env i (.int x)) σ1 v P) : EX (sy_sQ (sy_sSI i e) b) env σ v P := ex_D (fun _ => es_SI h rfl) q
theorem ex_SR {i : Nat} {e : sy_RE} {x : Nat} {b : sy_S} (h : e env σ = some (.inl x, σ1)) (q : EX b (sy_set env i (.ref x)) σ1 v P) : EX (sy_sQ (sy_sSR i e) b) env σ v P := ex_D (fun _ => es_SR h rfl) q
theorem ex_E {s : sy_S} (h : s env (fun _ => sy_fail) σ = some (.inl v, τ)) (p : P τ) : EX s env σ v P := ⟨τ, h, p⟩
theorem ex_m {nL : Nat} {s : sy_S} {vs : List Value} (h : EX s (sy_ea vs) σ v P) (hz : (vs.map (fun v => if v.category = 2 then 2 else 1)).sum ≤ nL) : ∃ τ, sy_mthN nL (sy_bd s) vs σ = some (.inl v, τ) ∧ P τ := by
  obtain ⟨τ, h, p⟩ := h
  exact ⟨τ, ke_meth h hz, p⟩
-- the helpers that draw and list
theorem c_low {e g : sy_IE} {x : Int32} {n : Nat} (hn : 0 < n) (hn2 : n < 2 ^ 31) (he : e env σ = some (.inl x, σ)) (hg : g env σ = some (.inl (nI n), σ)) : ∃ y, y < n ∧ sy_iM (sy_cr 2 sf_L_low) (sy_aI e (sy_aI g sy_aN)) env σ = some (.inl (nI y), σ) := by
  obtain ⟨y, h1, h2⟩ := t_low (σ := σ) (x := x) hn hn2
  exact ⟨y, h1, ee_M (ee_aI he (ee_aI hg ee_aN)) (ee_cr h2 rfl)⟩
theorem h_argument (I : yn_I t σ) {n y c : Nat} (hn : σ 19 0 = nI n) (h4 : n < 4) (h1 : ya_isT σ (nI y) = true) (hc : c < 64) : sf_L_argument [.ref 0, .int (nI y), .int (nI c)] σ = some (.inl (some (.int (nI (n + 1)))), ya_list σ n (nI y) (nI c)) := by
  have h := yt_X5_argument I (nI y) (nI c)
  rw [h1, if_pos rfl, if_pos, if_pos, hn, nI_clamp (by omega)] at h
  · exact ke_meth (kh_I (ee_aR (ee_R rfl) (ee_aI (ee_L rfl) (ee_aI (ee_L rfl) ee_aN))) (ee_cv h rfl)) (Nat.le_of_ble_eq_true rfl)
  · rw [hn]
    rcases v4c h4 with rfl | rfl | rfl | rfl <;> rfl
  · rw [Bool.and_eq_true, yl_ge, yl_lt, yl_c0, show (64 : Int32).toInt = 64 from rfl, nI_toInt (by omega)]
    omega
theorem h_argE (I : yn_I t σ) (a b : Int32) (h : ya_isT σ a = false ∨ (ya_isT σ a = true ∧ b = 64)) : sf_L_argument [.ref 0, .int a, .int b] σ = some (.inl (some (.int (if ya_isT σ a then -1000002 else -1000001))), σ) := by
  have hc := yt_X5_argument I a b
  rcases h with h | ⟨h, rfl⟩
  · rw [h, if_neg (by decide)] at hc
    rw [h]
    exact ke_meth ((kh_IE (E := 1) (ee_aR (ee_R rfl) (ee_aI (ee_L rfl) (ee_aI (ee_L rfl) ee_aN))) (ee_cv hc rfl) (by decide)).trans (by rw [xE1]; rfl)) (Nat.le_of_ble_eq_true rfl)
  · rw [h, if_pos rfl, if_neg (by decide)] at hc
    rw [h]
    exact ke_meth ((kh_IE (E := 2) (ee_aR (ee_R rfl) (ee_aI (ee_L rfl) (ee_aI (ee_L rfl) ee_aN))) (ee_cv hc rfl) (by decide)).trans (by rw [xE2]; rfl)) (Nat.le_of_ble_eq_true rfl)
theorem h_condition (I : yn_I t σ) {l q : Nat} (hl : l < 4) (hq : q < 3) (e19 : σ 19 0 = nI (l + 1)) (h22 : σ 22 l = nI q) (o : Bool) {f c x : Nat} (hf : f < 3) (hc : c < 6) (hx : x < 1000) : sf_L_condition [.ref 0, .int (ya_b o), .int (nI f), .int (nI c), .int (nI x)] σ = some (.inl (some (.int (nI (q + 1)))), ya_cond σ l q (ya_b o) (nI f) (nI c) (nI x)) := by
  have h19 := yg_n19 I
  have h := yt_X5_condition I o (nI f) (nI c) (nI x)
  have hag : ya_ag σ 22 0 (nI l) = nI q := by
    rw [ya_ag_in (by rw [yl_isA, e19, nI_toInt (by omega), nI_toInt (by omega)]; omega), nI_clamp (by omega)]
    exact h22
  have hm : σ 19 0 - 1 = nI l := by rw [e19, nI_pred]
  have e : ya_condR σ (ya_b o) (nI f) (nI c) (nI x) = (nI (q + 1), ya_cond σ l q (ya_b o) (nI f) (nI c) (nI x)) := by
    unfold ya_condR
    rw [hm, hag, nI_clamp (by omega), nI_clamp (by omega), nI_1]
  have hmore : ya_more σ = true := by
    unfold ya_more
    rw [hm, hag, ge0 (by omega), show (3 : Int32) = nI 3 from rfl, nI_ltd (by omega) (by omega)]
    exact decide_eq_true hq
  rw [if_pos, if_pos, hmore, if_pos rfl, e] at h
  · exact ke_meth (kh_I (ee_aR (ee_R rfl) (ee_aI (ee_L rfl) (ee_aI (ee_L rfl) (ee_aI (ee_L rfl) (ee_aI (ee_L rfl) ee_aN))))) (ee_cv h rfl)) (Nat.le_of_ble_eq_true rfl)
  · rw [ge0 (by omega), ge0 (by omega), show (6 : Int32) = nI 6 from rfl, show (1000 : Int32) = nI 1000 from rfl, nI_ltd (by omega) (by omega)]
    rw [decide_eq_true hc]
    show decide (nI x < nI 1000) = true
    refine decide_eq_true ?_
    rw [Int32.lt_iff_toInt_lt, nI_toInt (by omega), nI_toInt (by omega)]
    omega
  · rw [ge0 (by omega), show (3 : Int32) = nI 3 from rfl, nI_ltd (by omega) (by omega)]
    exact decide_eq_true hf
theorem h_condE (I : yn_I t σ) (o : Bool) (f c x : Int32) {E : Nat} (hE : 1 ≤ E ∧ E ≤ 3) (h : (if (decide (0 ≤ f) && decide (f < 3)) then (if ((decide (0 ≤ c) && decide (c < 6)) && (decide (0 ≤ x) && decide (x < 1000))) then (if ya_more σ then 0 else 3) else 2) else 1) = E) : sf_L_condition [.ref 0, .int (ya_b o), .int f, .int c, .int x] σ = some (.inl (some (.int (sy_xE E))), σ) := by
  have hc := yt_X5_condition I o f c x
  have : sf_X5_condition [.ref 0, .int (ya_b o), .int f, .int c, .int x] σ = some (.inr E, σ) := by
    rw [hc, ← h]
    revert h
    by_cases q1 : (decide (0 ≤ f) && decide (f < 3)) = true
    · rw [if_pos q1, if_pos q1]
      by_cases q2 : ((decide (0 ≤ c) && decide (c < 6)) && (decide (0 ≤ x) && decide (x < 1000))) = true
      · rw [if_pos q2, if_pos q2]
        by_cases q3 : ya_more σ = true
        · rw [if_pos q3]
          intro h
          omega
        · rw [if_neg q3, if_neg q3]
          intro _
          rfl
      · rw [if_neg q2, if_neg q2]
        intro _
        rfl
    · rw [if_neg q1, if_neg q1]
      intro _
      rfl
  exact ke_meth (kh_IE (ee_aR (ee_R rfl) (ee_aI (ee_L rfl) (ee_aI (ee_L rfl) (ee_aI (ee_L rfl) (ee_aI (ee_L rfl) ee_aN))))) (ee_cv this rfl) hE) (Nat.le_of_ble_eq_true rfl)
end LA24
