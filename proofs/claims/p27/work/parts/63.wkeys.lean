/-! keys: the case of the law, and its turn -/
section YWd
variable {σ τ A : sy_Mem} {t : Nat}
def sy_codeJ : Int64 ⊕ Nat → Int32
  | .inl _ => 0
  | .inr E => Int32.ofNat E
def sy_rJ : Int64 ⊕ Nat → sy_Rs
  | .inl x => .inl (some (.long x))
  | .inr E => .inr E
theorem e_lM {c : List Value → sy_MM (Option Value)} {as : sy_AE} {env vs : List Value} {σ τ : sy_Mem} {x : Int64} (ha : as env = sy_ret vs) (hc : c vs σ = some (.inl (some (.long x)), τ)) : sy_lM c as env σ = some (.inl x, τ) := by
  unfold sy_lM
  rw [ha, sy_bnd_ret, sy_bnd_at hc]
  rfl
theorem e_sSL {i : Nat} {e : sy_LE} {env : List Value} {σ τ : sy_Mem} {x : Int64} (h : e env σ = some (.inl x, τ)) (k : List Value → sy_MM (Option Value)) : sy_sSL i e env k σ = k (sy_set (sy_set env (i + 1) .null) i (.long x)) τ := by
  unfold sy_sSL
  rw [sy_bnd_at h]
/-- the keys on the way down to a segment at level n -/
def ya_H (A : sy_Mem) : Nat → Int32 → Int64
  | 0, _ => 0
  | n + 1, s => 1000 * ya_H A n (yP A s) + (ya_N A s 0).toInt64
/-- the way up ends after just n segments -/
def ya_len (nx : Int32 → Int32) : Nat → Int32 → Prop
  | 0, s => s = -1
  | n + 1, s => s ≠ -1 ∧ ya_len nx n (nx s)
def ya_anc (nx : Int32 → Int32) : Nat → Int32 → Int32
  | 0, s => s
  | n + 1, s => ya_anc nx n (nx s)
theorem ya_anc_s {nx : Int32 → Int32} : ∀ (n : Nat) (s : Int32), ya_anc nx (n + 1) s = nx (ya_anc nx n s)
  | 0, _ => rfl
  | n + 1, s => ya_anc_s n (nx s)
/-- the level of a segment -/
def ya_lv (A : sy_Mem) (s : Int32) : Nat := (tV A (yT A s)).toInt.toNat
theorem yl_lev (I : yn_I t A) {s : Int32} (h : yl A s) : (tV A (yT A s)).toInt = (ya_lv A s : Int) ∧ 1 ≤ ya_lv A s ∧ ya_lv A s ≤ 4 := by
  have := (I.1.2.1 _ (I.2.1.1 s h).1).2.2.2.2.2.1
  unfold ya_lv
  omega
theorem yl_lev1 (I : yn_I t A) {s : Int32} (h : yl A s) : ya_lv A s = 1 ↔ yP A s = -1 := by
  have h1 := yl_lev I h
  constructor
  · intro e
    rcases (I.2.1.1 s h).2 with ⟨_, g⟩ | ⟨g1, g2, g3⟩
    · exact g
    · rcases (I.1.2.1 _ (I.2.1.1 s h).1).2.2.2.2.2.2.1 with ⟨g, _⟩ | ⟨f1, f2, f3, f4⟩
      · exact absurd g g3
      · have := (I.1.2.1 _ f1).2.2.2.2.2.1
        omega
  · intro e
    rcases (I.2.1.1 s h).2 with ⟨g, _⟩ | ⟨g1, g2, g3⟩
    · rcases (I.1.2.1 _ (I.2.1.1 s h).1).2.2.2.2.2.2.1 with ⟨_, f, _⟩ | ⟨f1, f2, f3, f4⟩
      · omega
      · rw [g, ya_isT_m] at f1; cases f1
    · exact absurd e (yl_ne g1)
theorem yl_levS (I : yn_I t A) {s : Int32} (h : yl A s) (h2 : yP A s ≠ -1) : yl A (yP A s) ∧ ya_lv A s = ya_lv A (yP A s) + 1 := by
  obtain ⟨h1, h2, h3, h4⟩ := yl_par I.1 I.2.1 h h2
  have a := yl_lev I h
  have b := yl_lev I h1
  exact ⟨h1, by omega⟩
theorem ya_len_of (I : yn_I t A) : ∀ (n : Nat) {s : Int32}, yl A s → ya_lv A s = n → ya_len (yP A) n s
  | 0, s, h, hn => by have := yl_lev I h; omega
  | n + 1, s, h, hn => by
    refine ⟨yl_ne h, ?_⟩
    by_cases hp : yP A s = -1
    · have := (yl_lev1 I h).mpr hp
      rw [show n = 0 by omega]
      exact hp
    · obtain ⟨h1, h2⟩ := yl_levS I h hp
      exact ya_len_of I n h1 (by omega)
theorem ya_anc_l (I : yn_I t A) {i : Nat} (hi : 1 ≤ i) : ∀ (d : Nat) {s : Int32}, yl A s → ya_lv A s = i + d → yl A (ya_anc (yP A) d s) ∧ ya_lv A (ya_anc (yP A) d s) = i
  | 0, s, h, hn => ⟨h, hn⟩
  | d + 1, s, h, hn => by
    have hp : yP A s ≠ -1 := fun e => by
      have := (yl_lev1 I h).mpr e
      omega
    obtain ⟨h1, h2⟩ := yl_levS I h hp
    exact ya_anc_l I hi d h1 (by omega)
end YWd
