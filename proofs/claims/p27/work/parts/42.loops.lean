/-! loops that gather a truth value -/
section YP
variable {σ : sy_Mem} {k : List Value → sy_MM (Option Value)} {r : Option (((Option Value) ⊕ Nat) × sy_Mem)} {c : sy_CE} {s : sy_S}
theorem es_forOrA {E : Nat → Bool → List Value} {P : Nat → Bool} {N : Nat} (hc : ∀ i b, i < N → c (E i b) σ = some (.inl true, σ)) (he : ∀ b, c (E N b) σ = some (.inl false, σ)) (hs : ∀ i b, i < N → ∀ k', s (E i b) k' σ = k' (E (i + 1) (b || P i)) σ) :
    ∀ (n i m : Nat) (b : Bool), i + n = N → n < m → k (E N (b || (ya_ff P n i).isSome)) σ = r → sy_wh c s m (E i b) k σ = r
  | 0, i, m + 1, b, hi, _, hk => by
    rw [Nat.add_zero] at hi
    subst hi
    unfold sy_wh
    rw [sy_bnd_at (he b)]
    rw [show (b || (ya_ff P 0 i).isSome) = b by unfold ya_ff; cases b <;> rfl] at hk
    exact hk
  | n + 1, i, m + 1, b, hi, hm, hk => by
    unfold sy_wh
    rw [sy_bnd_at (hc i b (by omega))]
    show s (E i b) _ σ = _
    rw [hs i b (by omega)]
    refine es_forOrA hc he hs n (i + 1) m _ (by omega) (by omega) ?_
    rw [← hk]
    have e : ((b || P i) || (ya_ff P n (i + 1)).isSome) = (b || (ya_ff P (n + 1) i).isSome) := by
      rw [show ya_ff P (n + 1) i = if P i then some i else ya_ff P n (i + 1) from rfl]
      cases P i <;> cases b <;> rfl
    rw [e]
  | _, _, 0, _, _, hm, _ => absurd hm (by omega)
theorem es_forOr {E : Nat → Bool → List Value} {P : Nat → Bool} {N m a : Nat} {b : Bool} (hm : N < m) (ha : a ≤ N) (hc : ∀ i b, i < N → c (E i b) σ = some (.inl true, σ)) (he : ∀ b, c (E N b) σ = some (.inl false, σ)) (hs : ∀ i b, i < N → ∀ k', s (E i b) k' σ = k' (E (i + 1) (b || P i)) σ)
    (hk : k (E N (b || (ya_ff P (N - a) a).isSome)) σ = r) : sy_wh c s m (E a b) k σ = r := es_forOrA hc he hs (N - a) a m b (by omega) (by omega) hk
theorem es_forAndA {E : Nat → Bool → List Value} {P : Nat → Bool} {N : Nat} (hc : ∀ i b, i < N → c (E i b) σ = some (.inl true, σ)) (he : ∀ b, c (E N b) σ = some (.inl false, σ)) (hs : ∀ i b, i < N → ∀ k', s (E i b) k' σ = k' (E (i + 1) (b && P i)) σ) :
    ∀ (n i m : Nat) (b : Bool), i + n = N → n < m → k (E N (b && (ya_ff (fun i => !P i) n i).isNone)) σ = r → sy_wh c s m (E i b) k σ = r
  | 0, i, m + 1, b, hi, _, hk => by
    rw [Nat.add_zero] at hi
    subst hi
    unfold sy_wh
    rw [sy_bnd_at (he b)]
    rw [show (b && (ya_ff (fun i => !P i) 0 i).isNone) = b by unfold ya_ff; cases b <;> rfl] at hk
    exact hk
  | n + 1, i, m + 1, b, hi, hm, hk => by
    unfold sy_wh
    rw [sy_bnd_at (hc i b (by omega))]
    show s (E i b) _ σ = _
    rw [hs i b (by omega)]
    refine es_forAndA hc he hs n (i + 1) m _ (by omega) (by omega) ?_
    rw [← hk]
    have e : ((b && P i) && (ya_ff (fun i => !P i) n (i + 1)).isNone) = (b && (ya_ff (fun i => !P i) (n + 1) i).isNone) := by
      rw [show ya_ff (fun i => !P i) (n + 1) i = if !P i then some i else ya_ff (fun i => !P i) n (i + 1) from rfl]
      cases P i <;> cases b <;> rfl
    rw [e]
  | _, _, 0, _, _, hm, _ => absurd hm (by omega)
theorem es_forAnd {E : Nat → Bool → List Value} {P : Nat → Bool} {N m a : Nat} {b : Bool} (hm : N < m) (ha : a ≤ N) (hc : ∀ i b, i < N → c (E i b) σ = some (.inl true, σ)) (he : ∀ b, c (E N b) σ = some (.inl false, σ)) (hs : ∀ i b, i < N → ∀ k', s (E i b) k' σ = k' (E (i + 1) (b && P i)) σ)
    (hk : k (E N (b && (ya_ff (fun i => !P i) (N - a) a).isNone)) σ = r) : sy_wh c s m (E a b) k σ = r := es_forAndA hc he hs (N - a) a m b (by omega) (by omega) hk
theorem es_forOr0 {E : Nat → Bool → List Value} {P : Nat → Bool} {N m : Nat} {b : Bool} (hm : N < m) (hc : ∀ i b, i < N → c (E i b) σ = some (.inl true, σ)) (he : ∀ b, c (E N b) σ = some (.inl false, σ)) (hs : ∀ i b, i < N → ∀ k', s (E i b) k' σ = k' (E (i + 1) (b || P i)) σ)
    (hk : k (E N (b || (ya_ff P N 0).isSome)) σ = r) : sy_wh c s m (E 0 b) k σ = r := es_forOrA hc he hs N 0 m b (by omega) (by omega) hk
theorem es_forAnd0 {E : Nat → Bool → List Value} {P : Nat → Bool} {N m : Nat} {b : Bool} (hm : N < m) (hc : ∀ i b, i < N → c (E i b) σ = some (.inl true, σ)) (he : ∀ b, c (E N b) σ = some (.inl false, σ)) (hs : ∀ i b, i < N → ∀ k', s (E i b) k' σ = k' (E (i + 1) (b && P i)) σ)
    (hk : k (E N (b && (ya_ff (fun i => !P i) N 0).isNone)) σ = r) : sy_wh c s m (E 0 b) k σ = r := es_forAndA hc he hs N 0 m b (by omega) (by omega) hk
/-- ends where it is false -/
theorem es_forStopA {E : Nat → Bool → List Value} {P : Nat → Bool} {N : Nat} {B : Bool} (hc : ∀ i b, i ≤ N → c (E i b) σ = some (.inl (decide (i < N) && b), σ)) (hs : ∀ i, i < N → ∀ k', s (E i true) k' σ = k' (E (i + 1) (P i)) σ) (hk : ∀ i, k (E i B) σ = r) :
    ∀ (n i m : Nat) (b : Bool), i + n = N → n < m → B = (b && (ya_ff (fun i => !P i) n i).isNone) → sy_wh c s m (E i b) k σ = r
  | 0, i, m + 1, b, hi, _, hB => by
    rw [Nat.add_zero] at hi
    subst hi
    unfold sy_wh
    rw [sy_bnd_at (hc i b (Nat.le_refl _)), decide_eq_false (by omega)]
    rw [show (b && (ya_ff (fun i => !P i) 0 i).isNone) = b by unfold ya_ff; cases b <;> rfl] at hB
    rw [← hB]
    exact hk i
  | n + 1, i, m + 1, b, hi, hm, hB => by
    unfold sy_wh
    rw [sy_bnd_at (hc i b (by omega)), decide_eq_true (by omega)]
    rw [show ya_ff (fun i => !P i) (n + 1) i = if !P i then some i else ya_ff (fun i => !P i) n (i + 1) from rfl] at hB
    cases b with
    | false =>
      rw [Bool.false_and] at hB
      subst hB
      exact hk i
    | true =>
      show s (E i true) _ σ = _
      rw [hs i (by omega)]
      refine es_forStopA hc hs hk n (i + 1) m _ (by omega) (by omega) ?_
      rw [hB]
      cases P i <;> rfl
  | _, _, 0, _, _, hm, _ => absurd hm (by omega)
theorem es_forStop {E : Nat → Bool → List Value} {P : Nat → Bool} {N m : Nat} {b : Bool} (hm : N < m) (hc : ∀ i b, i ≤ N → c (E i b) σ = some (.inl (decide (i < N) && b), σ)) (hs : b = true → ∀ i, i < N → ∀ k', s (E i true) k' σ = k' (E (i + 1) (P i)) σ)
    (hk : ∀ i, k (E i (b && (ya_ff (fun i => !P i) N 0).isNone)) σ = r) : sy_wh c s m (E 0 b) k σ = r := by
  cases b with
  | true => exact es_forStopA hc (hs rfl) hk N 0 m true (by omega) hm rfl
  | false =>
    obtain ⟨m, rfl⟩ : ∃ z, m = z + 1 := ⟨m - 1, by omega⟩
    unfold sy_wh
    rw [sy_bnd_at (hc 0 false (by omega)), Bool.and_false]
    exact hk 0
theorem ya_ff_isSome {P : Nat → Bool} {n a : Nat} : (ya_ff P n a).isSome = true ↔ ∃ i, a ≤ i ∧ i < a + n ∧ P i = true := by
  cases h : ya_ff P n a with
  | none =>
    have := ya_ff_none.mp h
    constructor
    · intro q; cases q
    · rintro ⟨i, h1, h2, h3⟩
      rw [this i h1 h2] at h3
      cases h3
  | some i =>
    obtain ⟨h1, h2, h3, _⟩ := ya_ff_some.mp h
    exact ⟨fun _ => ⟨i, h1, h2, h3⟩, fun _ => rfl⟩
theorem ya_ff_congr {P Q : Nat → Bool} : ∀ {n a : Nat}, (∀ i, a ≤ i → i < a + n → P i = Q i) → ya_ff P n a = ya_ff Q n a
  | 0, _, _ => rfl
  | n + 1, a, h => by
    unfold ya_ff
    rw [h a (Nat.le_refl _) (by omega), ya_ff_congr (fun i h1 h2 => h i (by omega) (by omega))]
theorem yi_and1 (x : Int32) : decide (x &&& 1 = 1) = !decide (x &&& 1 = 0) := by
  have h : x &&& 1 = 0 ∨ x &&& 1 = 1 := by
    have e : x.toBitVec &&& 1#32 = 0#32 ∨ x.toBitVec &&& 1#32 = 1#32 := by
      rw [BitVec.and_one_eq_setWidth_ofBool_getLsbD]
      cases x.toBitVec.getLsbD 0
      · left; rfl
      · right; rfl
    rcases e with e | e
    · left
      apply Int32.toBitVec_inj.mp
      rw [Int32.toBitVec_and]
      exact e
    · right
      apply Int32.toBitVec_inj.mp
      rw [Int32.toBitVec_and]
      exact e
  rcases h with h | h <;> rw [h] <;> decide
end YP
