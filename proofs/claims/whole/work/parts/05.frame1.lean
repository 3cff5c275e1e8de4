/-! THE FRAME: a Java method of these two classes as a function over the mutable ints of the whole system; what it means that code computes such a function -/
section SYA
abbrev sy_Mem : Type := Nat → Nat → Int32
abbrev sy_MM (α : Type) : Type := sy_Mem → Option ((α ⊕ Nat) × sy_Mem)
def sy_ret {α : Type} (a : α) : sy_MM α := fun σ => some (.inl a, σ)
def sy_fail {α : Type} : sy_MM α := fun _ => none
def sy_bnd {α β : Type} (m : sy_MM α) (k : α → sy_MM β) : sy_MM β := fun σ => match m σ with
  | some (.inl a, t) => k a t
  | some (.inr e, t) => some (.inr e, t)
  | none => none
theorem sy_bnd_ret {α β : Type} (a : α) (k : α → sy_MM β) : sy_bnd (sy_ret a) k = k a := rfl
theorem sy_bnd_fail {α β : Type} (k : α → sy_MM β) : sy_bnd sy_fail k = sy_fail := rfl
theorem sy_bnd_bnd {α β γ : Type} (m : sy_MM α) (k : α → sy_MM β) (k2 : β → sy_MM γ) : sy_bnd (sy_bnd m k) k2 = sy_bnd m (fun a => sy_bnd (k a) k2) := by
  funext σ
  simp only [sy_bnd]
  cases m σ with
  | none => rfl
  | some r =>
    obtain ⟨r, t⟩ := r
    cases r <;> rfl
/-- the cells, in the order in which they are made: an object (its class, its fields: a cell that it points to, or an int), or a row (0 ints, 1 booleans, 2 views, 3 longs) -/
def sy_lay : Nat → (Nat × List (Option Nat)) ⊕ (Nat × Nat)
  | 0 => .inl (5, [some 1, some 10, some 19, some 27, some 30, some 31])
  | 1 => .inl (2, [none, some 2, some 3, some 4, some 5, some 6, some 7, some 8, some 9])
  | 2 => .inr (0, 12)
  | 3 => .inr (0, 12)
  | 4 => .inr (0, 12)
  | 5 => .inr (0, 12)
  | 6 => .inr (0, 12)
  | 7 => .inr (0, 12)
  | 8 => .inr (0, 12)
  | 9 => .inr (0, 12)
  | 10 => .inl (3, [some 1, some 11, some 12, some 13, some 14, some 15, some 16, some 17, some 18, none])
  | 11 => .inr (0, 60)
  | 12 => .inr (0, 60)
  | 13 => .inr (0, 60)
  | 14 => .inr (0, 180)
  | 15 => .inr (0, 180)
  | 16 => .inr (0, 3)
  | 17 => .inr (0, 60)
  | 18 => .inr (1, 60)
  | 19 => .inl (0, [none, some 20, some 21, some 22, some 23, some 24, some 25, some 26])
  | 20 => .inr (0, 4)
  | 21 => .inr (0, 4)
  | 22 => .inr (0, 4)
  | 23 => .inr (1, 12)
  | 24 => .inr (0, 12)
  | 25 => .inr (0, 12)
  | 26 => .inr (0, 12)
  | 27 => .inl (1, [none, none, some 28, some 29])
  | 28 => .inr (0, 4)
  | 29 => .inr (0, 4)
  | 30 => .inr (2, 4)
  | 31 => .inr (0, 12)
  | 32 => .inl (4, [none, none, none, none, none, none, none, some 33, some 34])
  | 33 => .inr (0, 4)
  | 34 => .inr (1, 4)
  | 35 => .inl (4, [none, none, none, none, none, none, none, some 36, some 37])
  | 36 => .inr (0, 4)
  | 37 => .inr (1, 4)
  | 38 => .inl (4, [none, none, none, none, none, none, none, some 39, some 40])
  | 39 => .inr (0, 4)
  | 40 => .inr (1, 4)
  | 41 => .inl (4, [none, none, none, none, none, none, none, some 42, some 43])
  | 42 => .inr (0, 4)
  | 43 => .inr (1, 4)
  | 44 => .inl (6, [none, some 45, some 46, some 47, some 48, some 49, some 50, some 51, some 52, some 53, some 54, some 55, some 56, some 57, some 58, some 59, some 60, some 61, some 62, some 63, some 64, some 65, some 66, none, none, some 67, some 68, some 69, some 70, some 71, some 72, some 73, some 74, none, some 75, some 76, none])
  | 45 => .inr (0, 12)
  | 46 => .inr (0, 12)
  | 47 => .inr (0, 12)
  | 48 => .inr (0, 12)
  | 49 => .inr (0, 12)
  | 50 => .inr (0, 12)
  | 51 => .inr (0, 12)
  | 52 => .inr (0, 12)
  | 53 => .inr (0, 60)
  | 54 => .inr (0, 60)
  | 55 => .inr (0, 180)
  | 56 => .inr (1, 60)
  | 57 => .inr (0, 3)
  | 58 => .inr (0, 180)
  | 59 => .inr (0, 4)
  | 60 => .inr (0, 4)
  | 61 => .inr (0, 4)
  | 62 => .inr (0, 4)
  | 63 => .inr (0, 4)
  | 64 => .inr (0, 4)
  | 65 => .inr (0, 16)
  | 66 => .inr (0, 16)
  | 67 => .inr (0, 4)
  | 68 => .inr (0, 4)
  | 69 => .inr (0, 4)
  | 70 => .inr (1, 12)
  | 71 => .inr (0, 12)
  | 72 => .inr (0, 12)
  | 73 => .inr (0, 12)
  | 74 => .inr (0, 12)
  | 75 => .inr (0, 4)
  | 76 => .inr (0, 4)
  | 77 => .inr (3, 1)
  | _ => .inr (9, 0)
def sy_N : Nat := 78
def sy_jn (a c : Int32) : Int64 := Int64.ofBitVec (a.toBitVec ++ c.toBitVec)
def sy_hi (x : Int64) : Int32 := Int32.ofBitVec (x.toBitVec.extractLsb' 32 32)
def sy_lo (x : Int64) : Int32 := Int32.ofBitVec (x.toBitVec.extractLsb' 0 32)
theorem sy_jn_hl (x : Int64) : sy_jn (sy_hi x) (sy_lo x) = x := by
  unfold sy_jn sy_hi sy_lo
  apply Int64.toBitVec_inj.mp
  show (x.toBitVec.extractLsb' 32 32 ++ x.toBitVec.extractLsb' 0 32 : BitVec 64) = x.toBitVec
  apply BitVec.eq_of_getLsbD_eq
  intro i hi
  rw [BitVec.getLsbD_append, BitVec.getLsbD_extractLsb', BitVec.getLsbD_extractLsb']
  by_cases h : i < 32
  · simp [h]
  · simp [h, show i - 32 < 32 by omega, show 32 + (i - 32) = i by omega]
def sy_vw (i : Nat) : Nat := 32 + 3 * i
def sy_cell (b : Nat) (cA : Nat → ClassId) (σ : sy_Mem) (k : Nat) : va_E := match sy_lay k with
  | .inl (ci, fs) => .inr (ci, fs.mapIdx (fun i f => match f with | some j => Value.ref (b + j) | none => Value.int (σ k i)))
  | .inr (0, n) => .inl (cA 0, n, .inl (σ k))
  | .inr (1, n) => .inl (cA 1, n, .inl (σ k))
  | .inr (2, n) => .inl (cA 2, n, .inr (.inr (.inr (.inr (fun i => some (b + sy_vw i))))))
  | .inr (_, n) => .inl (cA 3, n, .inr (.inl (fun j => if j = 0 then sy_jn (σ k 0) (σ k 1) else 0)))
def sy_wd (b : Nat) (cA : Nat → ClassId) (σ : sy_Mem) : va_W := (List.range sy_N).map (fun k => (b + k, sy_cell b cA σ k))
def sy_up (σ : sy_Mem) (k i : Nat) (v : Int32) : sy_Mem := fun j => if j = k then upd (σ k) i v else σ j
def sy_ab (b : Nat) : Nat → Prop := fun q => b ≤ q
theorem sy_wd_at {b : Nat} {cA : Nat → ClassId} {σ : sy_Mem} {k : Nat} (h : k < sy_N) : (sy_wd b cA σ)[k]? = some (b + k, sy_cell b cA σ k) := by
  simp [sy_wd, h]
theorem sy_wd_set {b : Nat} {cA : Nat → ClassId} {σ τ : sy_Mem} {k : Nat} {e : va_E} (he : e = sy_cell b cA τ k) (hc : ∀ j, j ≠ k → τ j = σ j) : (sy_wd b cA σ).set k (b + k, e) = sy_wd b cA τ := by
  subst he
  apply List.ext_getElem?
  intro i
  by_cases hi : i < sy_N
  · by_cases hk : i = k
    · subst hk
      rw [sy_wd_at hi, List.getElem?_set_self (by simp [sy_wd, hi])]
    · rw [List.getElem?_set_ne (fun h => hk h.symm), sy_wd_at hi, sy_wd_at hi]
      simp only [sy_cell, hc i hk]
  · rw [List.getElem?_eq_none (by simp [sy_wd]; omega), List.getElem?_eq_none (by simp [sy_wd]; omega)]
theorem sy_wd_D (b : Nat) (cA : Nat → ClassId) (σ : sy_Mem) : va_D (sy_ab b) (sy_wd b cA σ) := by
  have ha : ∀ (i : Nat) (p : Nat × va_E), (sy_wd b cA σ)[i]? = some p → p.1 = b + i := by
    intro i p h
    have hi : i < sy_N := by
      have := (List.getElem?_eq_some_iff.mp h).1
      simpa [sy_wd] using this
    rw [sy_wd_at hi] at h
    cases h
    rfl
  exact ⟨fun i j p q hp hq e => by have := ha i p hp; have := ha j q hq; omega, fun k q h => by show b ≤ q.1; have := ha k q h; omega⟩
theorem sy_lay_lt {k : Nat} {x : Nat × List (Option Nat)} (h : sy_lay k = .inl x) : k < sy_N := by
  rcases Nat.lt_or_ge k sy_N with q | q
  · exact q
  · exfalso
    have e : sy_lay k = .inr (9, 0) := by
      unfold sy_lay
      unfold sy_N at q
      split <;> first | rfl | omega
    rw [e] at h
    cases h
theorem sy_lay_ltA {k kd n : Nat} (h : sy_lay k = .inr (kd, n)) (hk : kd < 9) : k < sy_N := by
  rcases Nat.lt_or_ge k sy_N with q | q
  · exact q
  · exfalso
    have e : sy_lay k = .inr (9, 0) := by
      unfold sy_lay
      unfold sy_N at q
      split <;> first | rfl | omega
    rw [e] at h
    cases h
    omega
/-- values and addresses; the locals -/
/- an address below the base, or of a thrown object, is written .retAddr here -/
def sy_sh (b : Nat) : Value → Value
  | .ref a => .ref (b + a)
  | .retAddr a => .ref a
  | v => v
theorem sy_sh_cat (b : Nat) (v : Value) : (sy_sh b v).category = v.category := by cases v <;> rfl
theorem sy_sh_sum (b : Nat) (st : List Value) : ((st.map (sy_sh b)).map fun v => v.category).sum = (st.map fun v => v.category).sum := by
  rw [List.map_map]
  congr 1
  exact List.map_congr_left fun v _ => sy_sh_cat b v
def sy_kl (v : Value) : Value := if v.category = 2 then .null else v
def sy_set : List Value → Nat → Value → List Value
  | [], 0, v => [v]
  | _ :: t, 0, v => v :: t
  | [], i + 1, v => .null :: sy_set [] i v
  | x :: t, i + 1, v => (if i = 0 then sy_kl x else x) :: sy_set t i v
theorem sy_set_get {w : Value} : ∀ {env : List Value} {i j : Nat} {v : Value}, (sy_set env i w)[j]? = some v → v ≠ .null → (j = i ∧ v = w) ∨ (j ≠ i ∧ env[j]? = some v ∧ ¬ (j + 1 = i ∧ v.category = 2))
  | [], 0, j, v, h, hv => by
    cases j with
    | zero => exact Or.inl ⟨rfl, by simpa [sy_set] using h.symm⟩
    | succ j => simp [sy_set] at h
  | x :: t, 0, j, v, h, hv => by
    cases j with
    | zero => exact Or.inl ⟨rfl, by simpa [sy_set] using h.symm⟩
    | succ j => exact Or.inr ⟨by omega, by simpa [sy_set] using h, by omega⟩
  | [], i + 1, j, v, h, hv => by
    cases j with
    | zero => simp [sy_set] at h; exact absurd h.symm hv
    | succ j =>
      have h : (sy_set [] i w)[j]? = some v := by simpa [sy_set] using h
      rcases sy_set_get h hv with ⟨a, c⟩ | ⟨a, c, d⟩
      · exact Or.inl ⟨by omega, c⟩
      · simp at c
  | x :: t, i + 1, j, v, h, hv => by
    cases j with
    | zero =>
      refine Or.inr ⟨by omega, ?_, ?_⟩
      · simp only [sy_set, List.getElem?_cons_zero, Option.some.injEq] at h ⊢
        by_cases hi : i = 0
        · rw [if_pos hi] at h
          unfold sy_kl at h
          by_cases hc : x.category = 2
          · rw [if_pos hc] at h; exact absurd h.symm hv
          · rw [if_neg hc] at h; exact h
        · rw [if_neg hi] at h; exact h
      · rintro ⟨h1, h2⟩
        have hi : i = 0 := by omega
        simp only [sy_set, List.getElem?_cons_zero, Option.some.injEq, if_pos hi] at h
        unfold sy_kl at h
        by_cases hc : x.category = 2
        · rw [if_pos hc] at h; exact hv h.symm
        · rw [if_neg hc] at h; rw [h] at hc; exact hc h2
    | succ j =>
      have h : (sy_set t i w)[j]? = some v := by simpa [sy_set] using h
      rcases sy_set_get h hv with ⟨a, c⟩ | ⟨a, c, d⟩
      · exact Or.inl ⟨by omega, c⟩
      · exact Or.inr ⟨by omega, by simpa using c, by omega⟩
def sy_eok (b : Nat) (ls : Array Slot) (nL : Nat) (env : List Value) : Prop := ls.size = nL ∧ lv_wf ls ∧ ∀ (i : Nat) (v : Value), env[i]? = some v → v ≠ .null → ls[i]? = some (.val (sy_sh b v))
def sy_lv (b : Nat) (env : List Value) : List (Nat × Value) := (List.range env.length).filterMap (fun j => if env.getD j .null = .null then none else some (j, sy_sh b (env.getD j .null)))
theorem sy_lv_mem {b : Nat} {env : List Value} {j : Nat} {v : Value} (h : env[j]? = some v) (hv : v ≠ .null) : (j, sy_sh b v) ∈ sy_lv b env := by
  have e : env.getD j .null = v := by simp [List.getD, h]
  refine List.mem_filterMap.mpr ⟨j, List.mem_range.mpr (List.getElem?_eq_some_iff.mp h).1, ?_⟩
  rw [e, if_neg hv]
theorem sy_lv_of {b : Nat} {env : List Value} {q : Nat × Value} (h : q ∈ sy_lv b env) : ∃ v, env[q.1]? = some v ∧ v ≠ .null ∧ q.2 = sy_sh b v := by
  obtain ⟨j, hj, e⟩ := List.mem_filterMap.mp h
  by_cases hn : env.getD j .null = .null
  · rw [if_pos hn] at e; cases e
  · rw [if_neg hn] at e
    cases e
    have hl := List.mem_range.mp hj
    refine ⟨env.getD j .null, ?_, hn, rfl⟩
    simp [List.getD, List.getElem?_eq_getElem hl]
theorem sy_eok.has {b : Nat} {ls : Array Slot} {nL : Nat} {env : List Value} (h : sy_eok b ls nL env) : lv_has ls nL (sy_lv b env) := by
  refine ⟨h.1, h.2.1, fun q hq => ?_⟩
  obtain ⟨v, h1, h2, h3⟩ := sy_lv_of hq
  rw [h3]
  exact h.2.2 _ _ h1 h2
theorem sy_eok.at {b : Nat} {ls : Array Slot} {nL i : Nat} {env : List Value} {v : Value} (h : sy_eok b ls nL env) (hv : env[i]? = some v) (hn : v ≠ .null) : ls[i]? = some (.val (sy_sh b v)) := h.2.2 i v hv hn
/-- behind a store of one slot -/
theorem sy_eok.st {b : Nat} {ls' : Array Slot} {nL i : Nat} {env : List Value} {w : Value} (h : lv_has ls' nL ((i, sy_sh b w) :: (sy_lv b env).filter (fun q => !(q.1 == i) && !(q.1 + 1 == i && q.2.category == 2)))) : sy_eok b ls' nL (sy_set env i w) := by
  refine ⟨h.1, h.2.1, fun j v hj hv => ?_⟩
  rcases sy_set_get hj hv with ⟨rfl, rfl⟩ | ⟨h1, h2, h3⟩
  · exact h.2.2 _ List.mem_cons_self
  · refine h.2.2 (j, sy_sh b v) (List.mem_cons_of_mem _ (List.mem_filter.mpr ⟨sy_lv_mem h2 hv, ?_⟩))
    simp only [sy_sh_cat, Bool.and_eq_true, Bool.not_eq_true', beq_eq_false_iff_ne, ne_eq, Bool.and_eq_false_imp, beq_iff_eq]
    exact ⟨h1, fun e => by simpa using fun q => h3 ⟨e, q⟩⟩
/-- behind a store of a long -/
theorem sy_eok.stL {b : Nat} {ls' : Array Slot} {nL i : Nat} {env : List Value} {x : Int64} (h : lv_has ls' nL ((i, Value.long x) :: (sy_lv b env).filter (fun q => !(q.1 == i) && (!(q.1 == i + 1) && !(q.1 + 1 == i && q.2.category == 2))))) : sy_eok b ls' nL (sy_set (sy_set env (i + 1) .null) i (.long x)) := by
  refine ⟨h.1, h.2.1, fun j v hj hv => ?_⟩
  rcases sy_set_get hj hv with ⟨rfl, rfl⟩ | ⟨h1, h2, h3⟩
  · exact h.2.2 _ List.mem_cons_self
  · rcases sy_set_get h2 hv with ⟨-, rfl⟩ | ⟨g1, g2, g3⟩
    · exact absurd rfl hv
    · refine h.2.2 (j, sy_sh b v) (List.mem_cons_of_mem _ (List.mem_filter.mpr ⟨sy_lv_mem g2 hv, ?_⟩))
      simp only [sy_sh_cat, Bool.and_eq_true, Bool.not_eq_true', beq_eq_false_iff_ne, ne_eq, Bool.and_eq_false_imp, beq_iff_eq]
      exact ⟨h1, g1, fun e => by simpa using fun q => h3 ⟨e, q⟩⟩
theorem sy_take_get {env : List Value} {m i : Nat} {v : Value} (h : (env.take m)[i]? = some v) : env[i]? = some v := by
  rw [List.getElem?_take] at h
  split at h
  · exact h
  · cases h
theorem sy_eok.take {b : Nat} {ls : Array Slot} {nL : Nat} {env : List Value} (m : Nat) (h : sy_eok b ls nL env) : sy_eok b ls nL (env.take m) := ⟨h.1, h.2.1, fun i v hv hn => h.2.2 i v (sy_take_get hv) hn⟩
end SYA
