section LA42
variable {A B σ τ σ1 : sy_Mem} {env : List Value} {α : Type} {H : α → Prop} {k : List Value → sy_MM (Option Value)} {R : List Value → sy_Mem → Prop} {P : sy_Mem → Prop} {t v d f : Nat} {p : Int32}
theorem eqR_c (h : yc_base A B) : eqR A B := by
  have e : ∀ X : sy_Mem, eqR X B = eqR (ya_re X) B := fun _ => rfl
  have e2 : ya_re B = ya_re A := ya_re_c h
  have e3 : ∀ X : sy_Mem, eqR X X := fun X d _ => ⟨rfl, fun p _ => ⟨rfl, fun _ _ => rfl⟩⟩
  rw [e, ← e2, ← e]
  exact e3 B
/-- what a statement comes to is one thing: all that is known of it holds together -/
theorem sx_all {s : sy_S} {Q : α → List Value → sy_Mem → Prop} (a0 : α) (h0 : H a0) (h : ∀ a, H a → SX s env σ (Q a)) : SX s env σ (fun e τ => ∀ a, H a → Q a e τ) := by
  obtain ⟨e0, τ0, q0, k0⟩ := h a0 h0
  refine ⟨e0, τ0, fun a ha => ?_, k0⟩
  obtain ⟨e1, τ1, q1, k1⟩ := h a ha
  have hτ : τ0 = τ1 := by
    have h1 := (k0 (fun _ τ => some (.inl none, τ))).symm.trans (k1 (fun _ τ => some (.inl none, τ)))
    injection h1 with h1
    injection h1
  have he : e0 = e1 := by
    classical
    refine Classical.byContradiction fun hne => ?_
    have h1 := (k0 (fun e τ => if e = e0 then some (.inl none, τ) else none)).symm.trans (k1 (fun e τ => if e = e0 then some (.inl none, τ) else none))
    rw [if_pos rfl, if_neg (fun h => hne h.symm)] at h1
    cases h1
  rw [he, hτ]
  exact q1
theorem sr_all {s : sy_S} {Q : α → List Value → sy_Mem → Prop} (a0 : α) (h0 : H a0) (h : ∀ a, H a → SR s env σ (Q a)) : SR s env σ (fun e τ => ∀ a, H a → Q a e τ) := by
  classical
  obtain ⟨e0, τ0, q0, k0⟩ := h a0 h0
  refine ⟨e0, τ0, fun a ha => ?_, k0⟩
  obtain ⟨e1, τ1, q1, k1⟩ := h a ha
  have hE : e0 = e1 ∧ τ0 = τ1 := by
    refine Classical.byContradiction fun hne => ?_
    have g0 : gd (fun _ _ => 0) := fun _ _ _ => rfl
    have g1 : gd (fun _ _ => if (0 : Nat) = 1 then 1 else 0) := fun _ _ _ => rfl
    have gA : gd (sy_up (fun _ _ => 0) 0 0 1) := fun j _ _ => rfl
    have h1 := k0 (fun e τ => if e = e0 ∧ τ = τ0 then rOK (fun _ _ => 0) else rOK (sy_up (fun _ _ => 0) 0 0 1)) (fun _ _ => 0) g0 (by rw [if_pos ⟨rfl, rfl⟩])
    have h2 := k1 (fun e τ => if e = e0 ∧ τ = τ0 then rOK (fun _ _ => 0) else rOK (sy_up (fun _ _ => 0) 0 0 1)) (sy_up (fun _ _ => 0) 0 0 1) gA (by rw [if_neg (fun h => hne ⟨h.1.symm, h.2.symm⟩)])
    have h3 := h1.symm.trans h2
    injection h3 with h3
    injection h3 with _ h3
    have h4 := congrFun (congrFun h3 0) 0
    rw [up_at, if_pos rfl] at h4
    exact absurd h4 (by decide)
  rw [hE.1, hE.2]
  exact q1
def ERk (s : sy_S) (env : List Value) (σ : sy_Mem) (k : List Value → sy_MM (Option Value)) (P : sy_Mem → Prop) : Prop := ∃ τ, s env k σ = rOK τ ∧ gd τ ∧ P τ
theorem erk_Q {a b : sy_S} (h1 : SR a env σ R) (h2 : ∀ e τ, R e τ → ERk b e τ k P) : ERk (sy_sQ a b) env σ k P := by
  obtain ⟨e1, τ1, r, k1⟩ := h1
  obtain ⟨τ2, q, g, p⟩ := h2 e1 τ1 r
  exact ⟨τ2, k1 _ τ2 g q, g, p⟩
theorem erk_D {a b : sy_S} {env' : List Value} (h : ∀ k, a env k σ = k env' σ1) (q : ERk b env' σ1 k P) : ERk (sy_sQ a b) env σ k P := by
  obtain ⟨τ2, q, g, p⟩ := q
  exact ⟨τ2, (h _).trans q, g, p⟩
/-- both steps of what the law does to its own rows -/
def LX1 : sy_S := (sy_sI (sy_ceq (sy_iL 16) (sy_iK 0)) LB1 sy_sN)
def LX2 : sy_S := (sy_sI (sy_ceq (sy_iL 16) (sy_iK 0)) LB2 sy_sN)
end LA42
