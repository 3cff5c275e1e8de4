/-! the model's readers for insert -/
section YMr
variable {A τ : sy_Mem} {t n f v : Nat}
theorem es_forAndG {σ : sy_Mem} {k : List Value → sy_MM (Option Value)} {r : Option (((Option Value) ⊕ Nat) × sy_Mem)} {c : sy_CE} {s : sy_S} {E : Nat → Bool → List Value} {P : Nat → Bool} {N a : Nat} (hc : ∀ i b, a ≤ i → i < N → c (E i b) σ = some (.inl true, σ)) (he : ∀ b, c (E N b) σ = some (.inl false, σ)) (hs : ∀ i b, a ≤ i → i < N → ∀ k', s (E i b) k' σ = k' (E (i + 1) (b && P i)) σ) :
    ∀ (n i m : Nat) (b : Bool), a ≤ i → i + n = N → n < m → k (E N (b && (ya_ff (fun i => !P i) n i).isNone)) σ = r → sy_wh c s m (E i b) k σ = r
  | 0, i, m + 1, b, _, hi, _, hk => by
    rw [Nat.add_zero] at hi
    subst hi
    unfold sy_wh
    rw [sy_bnd_at (he b)]
    rw [show (b && (ya_ff (fun i => !P i) 0 i).isNone) = b by unfold ya_ff; cases b <;> rfl] at hk
    exact hk
  | n + 1, i, m + 1, b, ha, hi, hm, hk => by
    unfold sy_wh
    rw [sy_bnd_at (hc i b ha (by omega))]
    show s (E i b) _ σ = _
    rw [hs i b ha (by omega)]
    refine es_forAndG hc he hs n (i + 1) m _ (by omega) (by omega) (by omega) ?_
    rw [← hk]
    have e : ((b && P i) && (ya_ff (fun i => !P i) n (i + 1)).isNone) = (b && (ya_ff (fun i => !P i) (n + 1) i).isNone) := by
      rw [show ya_ff (fun i => !P i) (n + 1) i = if !P i then some i else ya_ff (fun i => !P i) n (i + 1) from rfl]
      cases P i <;> cases b <;> rfl
    rw [e]
  | _, _, 0, _, _, _, hm, _ => absurd hm (by omega)
theorem nI_sub1 {i : Nat} (h : 1 ≤ i) (hi : i < 10000) : nI i - 1 = nI (i - 1) := nI_subn h hi
def ya_first (A : sy_Mem) : Nat := (ya_ff (fun i => ya_code A (nI i) 1) (A 19 0).toNatClampNeg 0).elim ((A 19 0).toNatClampNeg - 1) (fun i => i)
theorem ya_first_lt (h : 0 < (A 19 0).toNatClampNeg) : ya_first A < (A 19 0).toNatClampNeg := by
  unfold ya_first
  cases hf : ya_ff (fun i => ya_code A (nI i) 1) (A 19 0).toNatClampNeg 0 with
  | none => show (A 19 0).toNatClampNeg - 1 < _; omega
  | some i =>
    have := (ya_ff_some.mp hf).2.1
    show i < _
    omega
theorem ya_first_eq (I : yn_I t A) (h : 0 < (A 19 0).toNatClampNeg) : ya_X0_firstNew A = nI (ya_first A) := by
  have h4 := yg_n19 I
  unfold ya_X0_firstNew ya_first
  cases hf : ya_ff (fun i => ya_code A (nI i) 1) (A 19 0).toNatClampNeg 0 with
  | none =>
    show A 19 0 - 1 = nI ((A 19 0).toNatClampNeg - 1)
    have e := nI_sub1 (i := (A 19 0).toNatClampNeg) (by omega) (by omega)
    rw [← yg_n19e I] at e
    exact e
  | some i => rfl
theorem ya_first_0 (I : yn_I t A) (h : (A 19 0).toNatClampNeg = 0) : ya_X0_firstNew A = -1 := by
  have e := yg_n19e I
  unfold ya_X0_firstNew
  rw [h]
  show A 19 0 - 1 = -1
  rw [e, h]
  rfl
/-- the new ones are as they should be -/
theorem ya_areNew (I : yn_I t A) (hf : (f : Int) < (A 19 0).toInt) : ya_X5_areNewOnesOrdered A f = true ↔ ∀ i : Nat, f ≤ i → (i : Int) < (A 19 0).toInt → ya_ag A 22 0 (nI i) = 0 ∧ (i = 0 ∨ tP A (ya_ag A 20 (-1) (nI i)) = ya_ag A 20 (-1) (nI (i - 1))) := by
  have h4 := yg_n19 I
  have hb : ∀ i : Nat, (i : Int) < (A 19 0).toInt → ((0 < ya_ag A 22 0 (nI i)) ↔ ya_ag A 22 0 (nI i) ≠ 0) := fun i hi => by
    have hc := (I.2.2.2.2.2.2.2.1 i hi).2.2.1
    rw [ya_ag_in (yl_An hi (by omega)), nI_clamp (by omega), Int32.lt_iff_toInt_lt, yl_c0]
    constructor
    · intro h e
      rw [e, yl_c0] at h
      omega
    · intro h
      have : (A 22 i).toInt ≠ 0 := fun e => h (yi_ext (by rw [e, yl_c0]))
      omega
  unfold ya_X5_areNewOnesOrdered
  have hs : ∀ i : Nat, 1 ≤ i → i < 1000 → nI i - 1 = nI (i - 1) := fun i h1 h2 => nI_sub1 h1 (by omega)
  cases hff : ya_ff (fun i => ((decide (0 < (ya_ag A 22 0 (nI i)))) || ((decide (0 < (nI i))) && (!decide ((ya_tg A 3 (-1) (ya_ag A 20 (-1) (nI i))) = (ya_ag A 20 (-1) ((nI i) - 1))))))) ((A 19 0).toNatClampNeg - f) f with
  | none =>
    refine ⟨fun _ i h1 h2 => ?_, fun _ => rfl⟩
    have hp := ya_ff_none.mp hff i h1 (by omega)
    rw [Bool.or_eq_false_iff, Bool.and_eq_false_iff] at hp
    refine ⟨Classical.byContradiction fun e => absurd ((hb i h2).mpr e) (of_decide_eq_false hp.1), ?_⟩
    rcases hp.2 with q | q
    · left
      have := of_decide_eq_false q
      rw [Int32.lt_iff_toInt_lt, nI_toInt (by omega), yl_c0] at this
      omega
    · by_cases e0 : i = 0
      · exact Or.inl e0
      · right
        rw [hs i (by omega) (by omega)] at q
        show ya_tg A 3 (-1) _ = _
        simpa using q
  | some j =>
    obtain ⟨h1, h2, h3, _⟩ := ya_ff_some.mp hff
    refine ⟨fun h => (by cases h), fun h => ?_⟩
    exfalso
    obtain ⟨g1, g2⟩ := h j h1 (by omega)
    rw [Bool.or_eq_true, Bool.and_eq_true] at h3
    rcases h3 with q | ⟨q1, q2⟩
    · exact (hb j (by omega)).mp (of_decide_eq_true q) g1
    · have q1 := of_decide_eq_true q1
      rw [Int32.lt_iff_toInt_lt, nI_toInt (by omega), yl_c0] at q1
      rcases g2 with g2 | g2
      · omega
      · rw [hs j (by omega) (by omega), show ya_tg A 3 (-1) (ya_ag A 20 (-1) (nI j)) = ya_ag A 20 (-1) (nI (j - 1)) from g2, decide_eq_true rfl] at q2
        cases q2
/-- the parent of what is inserted -/
def ya_par0 (A : sy_Mem) (v f : Nat) : Int32 := if 0 < f then ya_X5_firstRight A v f 0 (-1) else ya_X3_upward A (ya_here A v) (tP A (ya_ag A 20 (-1) (nI f)))
end YMr
