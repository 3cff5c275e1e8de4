/-! walks upward in both systems -/
section YK
/-- the walk comes to its end within n steps -/
def ya_dp (nx : Int32 → Int32) : Nat → Int32 → Prop
  | 0, s => s = -1
  | n + 1, s => s = -1 ∨ ya_dp nx n (nx s)
theorem yk_dp_up {nx : Int32 → Int32} : ∀ {n : Nat} {s : Int32}, ya_dp nx n s → ya_dp nx (n + 1) s
  | 0, _, h => Or.inl h
  | _ + 1, _, h => h.imp id yk_dp_up
theorem yk_dp_le {nx : Int32 → Int32} {n m : Nat} {s : Int32} (h : ya_dp nx n s) (hm : n ≤ m) : ya_dp nx m s := by
  induction hm with
  | refl => exact h
  | step _ ih => exact yk_dp_up ih
theorem yk_walk_dp {nx : Int32 → Int32} {Q : Int32 → Bool} : ∀ {n : Nat} {s : Int32}, ya_dp nx n s → ya_walk nx Q (n + 1) s = ya_walk nx Q n s
  | 0, s, h => by
    unfold ya_walk
    rw [if_pos (show s = -1 from h)]
  | n + 1, s, h => by
    unfold ya_walk
    by_cases hs : s = -1
    · rw [if_pos hs, if_pos hs]
    · rw [if_neg hs, if_neg hs]
      by_cases hQ : Q s = true
      · rw [if_pos hQ, if_pos hQ]
      · rw [if_neg hQ, if_neg hQ, yk_walk_dp (h.resolve_left hs)]
theorem yk_walk_le {nx : Int32 → Int32} {Q : Int32 → Bool} {n m : Nat} {s : Int32} (h : ya_dp nx n s) (hm : n ≤ m) : ya_walk nx Q m s = ya_walk nx Q n s := by
  induction hm with
  | refl => rfl
  | step hm ih => rw [yk_walk_dp (yk_dp_le h hm), ih]
/-- what is found has Q, and is no end -/
theorem yk_walk_Q {nx : Int32 → Int32} {Q : Int32 → Bool} : ∀ {n : Nat} {s x : Int32}, ya_walk nx Q n s = some x → Q x = true ∧ x ≠ -1
  | 0, s, x, h => by unfold ya_walk at h; cases h
  | n + 1, s, x, h => by
    unfold ya_walk at h
    by_cases hs : s = -1
    · rw [if_pos hs] at h; cases h
    · rw [if_neg hs] at h
      by_cases hQ : Q s = true
      · rw [if_pos hQ] at h
        cases h
        exact ⟨hQ, hs⟩
      · rw [if_neg hQ] at h
        exact yk_walk_Q h
/-- what is found keeps what the walk keeps -/
theorem yk_walk_G {nx : Int32 → Int32} {Q : Int32 → Bool} {G : Int32 → Prop} (hG : ∀ x, G x → nx x = -1 ∨ G (nx x)) : ∀ {n : Nat} {s x : Int32}, (s = -1 ∨ G s) → ya_walk nx Q n s = some x → G x
  | 0, s, x, _, h => by unfold ya_walk at h; cases h
  | n + 1, s, x, hs, h => by
    unfold ya_walk at h
    by_cases he : s = -1
    · rw [if_pos he] at h; cases h
    · rw [if_neg he] at h
      have hs := hs.resolve_left he
      by_cases hQ : Q s = true
      · rw [if_pos hQ] at h
        cases h
        exact hs
      · rw [if_neg hQ] at h
        exact yk_walk_G hG (hG s hs) h
variable {σ : sy_Mem} {k : List Value → sy_MM (Option Value)}
/-- the model's way to walk -/
theorem es_climb {c : sy_CE} {s : sy_S} {E : Int32 → List Value} {nx : Int32 → Int32} {Q : Int32 → Bool} {G : Int32 → Prop} (hG : ∀ x, G x → nx x = -1 ∨ G (nx x))
    (hc : ∀ x, (x = -1 ∨ G x) → c (E x) σ = some (.inl (!decide (x = -1) && !Q x), σ)) (hs : ∀ x, G x → Q x = false → ∀ k', s (E x) k' σ = k' (E (nx x)) σ) :
    ∀ (n m : Nat) (x : Int32), (x = -1 ∨ G x) → ya_dp nx n x → n < m → sy_wh c s m (E x) k σ = k (E ((ya_walk nx Q n x).elim (-1) (fun y => y))) σ
  | 0, m + 1, x, hx, hd, _ => by
    unfold sy_wh
    rw [sy_bnd_at (hc x hx), decide_eq_true (show x = -1 from hd)]
    unfold ya_walk
    rw [show x = -1 from hd]
    rfl
  | n + 1, m + 1, x, hx, hd, hm => by
    unfold sy_wh
    rw [sy_bnd_at (hc x hx)]
    unfold ya_walk
    by_cases he : x = -1
    · rw [decide_eq_true he, if_pos he]
      rw [he]
      rfl
    · rw [decide_eq_false he, if_neg he]
      have hx := hx.resolve_left he
      by_cases hQ : Q x = true
      · rw [hQ, if_pos rfl]
        rfl
      · have hQ' : Q x = false := by simpa using hQ
        rw [hQ', if_neg (show ¬ (false = true) by decide)]
        show s (E x) _ σ = _
        rw [hs x hx hQ']
        exact es_climb hG hc hs n m (nx x) (hG x hx) (hd.resolve_left he) (by omega)
  | _, 0, _, _, _, hm => absurd hm (by omega)
variable {A : sy_Mem}
/-- a segment's way up ends within four steps -/
theorem yk_dpL (hS : yn_S A) (hG : yn_G A) : ∀ (n : Nat) {s : Int32}, yl A s → (tV A (yT A s)).toInt ≤ n → ya_dp (yP A) n s
  | 0, s, h, hn => by
    have := (hS.2.1 _ (hG.1 s h).1).2.2.2.2.2.1.1
    omega
  | n + 1, s, h, hn => by
    right
    by_cases hp : yP A s = -1
    · rw [hp]
      cases n with
      | zero => rfl
      | succ n => exact Or.inl rfl
    · obtain ⟨h1, h2, h3, h4⟩ := yl_par hS hG h hp
      exact yk_dpL hS hG n h1 (by omega)
theorem yk_dp4 (hS : yn_S A) (hG : yn_G A) {s : Int32} (h : yl A s) : ya_dp (yP A) 4 s := yk_dpL hS hG 4 h (hS.2.1 _ (hG.1 s h).1).2.2.2.2.2.1.2
theorem yk_GP (hS : yn_S A) (hG : yn_G A) : ∀ x, yl A x → yP A x = -1 ∨ yl A (yP A x) := fun x h => by
  by_cases hp : yP A x = -1
  · exact Or.inl hp
  · exact Or.inr (yl_par hS hG h hp).1
theorem yk_dpT (hS : yn_S A) : ∀ (n : Nat) {t : Int32}, ya_isT A t = true → (tV A t).toInt ≤ n → ya_dp (tP A) n t
  | 0, t, h, hn => by
    have := (hS.2.1 _ h).2.2.2.2.2.1.1
    omega
  | n + 1, t, h, hn => by
    right
    rcases (hS.2.1 _ h).2.2.2.2.2.2.1 with ⟨g, _⟩ | ⟨g1, g2, g3, g4⟩
    · rw [g]
      cases n with
      | zero => rfl
      | succ n => exact Or.inl rfl
    · exact yk_dpT hS n g1 (by omega)
theorem yk_dpT4 (hS : yn_S A) {t : Int32} (h : ya_isT A t = true) : ya_dp (tP A) 4 t := yk_dpT hS 4 h (hS.2.1 _ h).2.2.2.2.2.1.2
theorem yk_GT (hS : yn_S A) : ∀ t, ya_isT A t = true → tP A t = -1 ∨ ya_isT A (tP A t) = true := fun t h => by
  rcases (hS.2.1 _ h).2.2.2.2.2.2.1 with ⟨g, _⟩ | ⟨g1, _⟩
  · exact Or.inl g
  · exact Or.inr g1
/-- below: by the whole walk from the segment itself -/
theorem yk_below {nx : Int32 → Int32} {s o : Int32} (hs : s ≠ -1) (hd : ya_dp nx 4 s) : (ya_walk nx (fun x => decide (x = o)) 4 s).isSome = (decide (s = o) || (ya_walk nx (fun x => decide (x = o)) 4 (nx s)).isSome) := by
  rw [← yk_walk_le hd (show 4 ≤ 5 by omega), show ya_walk nx (fun x => decide (x = o)) 5 s = if s = -1 then none else if (fun x => decide (x = o)) s then some s else ya_walk nx (fun x => decide (x = o)) 4 (nx s) from rfl, if_neg hs]
  by_cases h : s = o
  · rw [if_pos (decide_eq_true h), decide_eq_true h]
    rfl
  · rw [if_neg (by simpa using h), decide_eq_false h]
    rfl
theorem yk_elimB {o : Option Int32} : o.elim false (fun _ => true) = o.isSome := by cases o <;> rfl
end YK
