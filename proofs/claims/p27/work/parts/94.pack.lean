/-! rows packed -/
section YPk
variable {P : Nat → Bool} {f m : Nat → Int32} {D : Nat → Bool} {d i j n x : Nat}
theorem yp_le : ∀ n, ya_cw P n ≤ n
  | 0 => Nat.le_refl _
  | n + 1 => by
    have := yp_le n
    rw [show ya_cw P (n + 1) = ya_cw P n + (if P n then 1 else 0) from rfl]
    by_cases h : P n = true
    · rw [if_pos h]; omega
    · rw [if_neg h]; omega
theorem yp_mono : ∀ {j i : Nat}, i ≤ j → ya_cw P i ≤ ya_cw P j
  | 0, i, h => by rw [show i = 0 by omega]; exact Nat.le_refl _
  | j + 1, i, h => by
    rcases Nat.lt_or_ge j i with q | q
    · rw [show i = j + 1 by omega]; exact Nat.le_refl _
    · have := yp_mono (j := j) q
      rw [show ya_cw P (j + 1) = ya_cw P j + (if P j then 1 else 0) from rfl]
      omega
theorem yp_lt (h : P i = true) (hij : i < j) : ya_cw P i < ya_cw P j := by
  have h1 : ya_cw P (i + 1) = ya_cw P i + 1 := by rw [show ya_cw P (i + 1) = ya_cw P i + (if P i then 1 else 0) from rfl, if_pos h]
  have := yp_mono (P := P) (i := i + 1) (j := j) hij
  omega
theorem yp_lti (hi : P i = true) (hj : P j = true) : ya_cw P i < ya_cw P j ↔ i < j := by
  constructor
  · intro h
    rcases Nat.lt_or_ge i j with q | q
    · exact q
    · have := yp_mono (P := P) q
      omega
  · exact yp_lt hi
theorem yp_sur : ∀ {n j : Nat}, j < ya_cw P n → ∃ i, i < n ∧ P i = true ∧ ya_cw P i = j
  | 0, j, h => absurd h (by show ¬ j < 0; omega)
  | n + 1, j, h => by
    rw [show ya_cw P (n + 1) = ya_cw P n + (if P n then 1 else 0) from rfl] at h
    rcases Nat.lt_or_ge j (ya_cw P n) with q | q
    · obtain ⟨i, h1, h2, h3⟩ := yp_sur q
      exact ⟨i, by omega, h2, h3⟩
    · by_cases hp : P n = true
      · rw [if_pos hp] at h
        exact ⟨n, by omega, hp, by omega⟩
      · rw [if_neg hp] at h
        omega
/-- spared, at a place of a row -/
def ya_sp (f : Nat → Int32) (D : Nat → Bool) (d : Nat) : Nat → Bool := fun i => !D (f (60 * d + i)).toNatClampNeg
def ya_pk (f : Nat → Int32) (D : Nat → Bool) (d : Nat) : Nat → (Nat → Int32)
  | 0 => f
  | i + 1 => if ya_sp f D d i = true then upd (ya_pk f D d i) (60 * d + ya_cw (ya_sp f D d) i) (f (60 * d + i)) else ya_pk f D d i
theorem yp_fr : ∀ {i x : Nat}, (x < 60 * d ∨ 60 * d + ya_cw (ya_sp f D d) i ≤ x) → ya_pk f D d i x = f x
  | 0, x, _ => rfl
  | i + 1, x, h => by
    have hm := yp_mono (P := ya_sp f D d) (i := i) (j := i + 1) (by omega)
    unfold ya_pk
    by_cases hp : ya_sp f D d i = true
    · rw [if_pos hp]
      have := yp_lt (j := i + 1) hp (by omega)
      rw [upd_ne (by omega)]
      exact yp_fr (by omega)
    · rw [if_neg hp]
      exact yp_fr (by omega)
theorem yp_at : ∀ {i i0 : Nat}, i0 < i → ya_sp f D d i0 = true → ya_pk f D d i (60 * d + ya_cw (ya_sp f D d) i0) = f (60 * d + i0)
  | 0, i0, h, _ => absurd h (by omega)
  | i + 1, i0, h, hs => by
    unfold ya_pk
    rcases Nat.lt_or_ge i0 i with q | q
    · by_cases hp : ya_sp f D d i = true
      · rw [if_pos hp]
        have := yp_lt hs q
        rw [upd_ne (by omega)]
        exact yp_at q hs
      · rw [if_neg hp]
        exact yp_at q hs
    · have e : i0 = i := by omega
      rw [e] at hs ⊢
      rw [if_pos hs, upd_at]
def ya_rr (f m : Nat → Int32) (D : Nat → Bool) : Nat → (Nat → Int32)
  | 0 => f
  | d + 1 => ya_pk (ya_rr f m D d) D d (m d).toNatClampNeg
def ya_rc (f m : Nat → Int32) (D : Nat → Bool) : Nat → (Nat → Int32)
  | 0 => m
  | d + 1 => upd (ya_rc f m D d) d (nI (ya_cw (ya_sp (ya_rr f m D d) D d) (m d).toNatClampNeg))
theorem yp_rr (hm : ∀ e, e < 3 → (m e).toNatClampNeg ≤ 60) : ∀ {d x : Nat}, d ≤ 3 → 60 * d ≤ x → ya_rr f m D d x = f x
  | 0, x, _, _ => rfl
  | d + 1, x, hd, hx => by
    unfold ya_rr
    have h1 := yp_le (P := ya_sp (ya_rr f m D d) D d) (m d).toNatClampNeg
    have h2 := hm d (by omega)
    rw [yp_fr (by omega)]
    exact yp_rr hm (by omega) (by omega)
theorem yp_sp (hm : ∀ e, e < 3 → (m e).toNatClampNeg ≤ 60) (hd : d ≤ 3) : ya_sp (ya_rr f m D d) D d = ya_sp f D d := by
  funext i
  unfold ya_sp
  rw [yp_rr hm hd (by omega)]
theorem yp_rrat (hm : ∀ e, e < 3 → (m e).toNatClampNeg ≤ 60) {i0 : Nat} (hi : i0 < (m d).toNatClampNeg) (hs : ya_sp f D d i0 = true) : ∀ {k : Nat}, d < k → k ≤ 3 → ya_rr f m D k (60 * d + ya_cw (ya_sp f D d) i0) = f (60 * d + i0)
  | 0, h, _ => absurd h (by omega)
  | k + 1, h, hk => by
    rcases Nat.lt_or_ge d k with q | q
    · unfold ya_rr
      have h1 := yp_le (P := ya_sp f D d) i0
      have h2 := hm d (by omega)
      rw [yp_fr (Or.inl (by omega))]
      exact yp_rrat hm hi hs q (by omega)
    · have e : k = d := by omega
      rw [e]
      unfold ya_rr
      have es := yp_sp (f := f) (D := D) hm (d := d) (by omega)
      rw [← es, yp_at hi (by rw [es]; exact hs)]
      exact yp_rr hm (by omega) (by omega)
theorem yp_rc : ∀ {k e : Nat}, k ≤ e → ya_rc f m D k e = m e
  | 0, e, _ => rfl
  | k + 1, e, h => by
    unfold ya_rc
    rw [upd_ne (by omega)]
    exact yp_rc (by omega)
theorem yp_rcat (hm : ∀ e, e < 3 → (m e).toNatClampNeg ≤ 60) : ∀ {k : Nat}, d < k → k ≤ 3 → ya_rc f m D k d = nI (ya_cw (ya_sp f D d) (m d).toNatClampNeg)
  | 0, h, _ => absurd h (by omega)
  | k + 1, h, hk => by
    unfold ya_rc
    rcases Nat.lt_or_ge d k with q | q
    · rw [upd_ne (by omega)]
      exact yp_rcat hm q (by omega)
    · have e : k = d := by omega
      rw [e, upd_at, yp_sp hm (by omega)]
end YPk
