/-! THE FRAME: a Java method of these two classes as a function over the mutable ints of the whole system; what it means that code computes such a function -/
section SYA
abbrev sy_Mem : Type := Nat → Nat → Int32
abbrev sy_MM (α : Type) : Type := sy_Mem → Option ((α ⊕ Nat) × sy_Mem)
def sy_ret {α : Type} (a : α) : sy_MM α := fun σ => some (.inl a, σ)
def sy_fail {α : Type} : sy_MM α := fun _ => none
def sy_bnd {α β : Type} (m : sy_MM α) (k : α → sy_MM β) : sy_MM β := fun σ => match m σ with
  | some (.inl a, t) => k a t
  | some (.inr e, t) => some (.inr e, t)
  | none => none
theorem sy_bnd_ret {α β : Type} (a : α) (k : α → sy_MM β) : sy_bnd (sy_ret a) k = k a := rfl
theorem sy_bnd_fail {α β : Type} (k : α → sy_MM β) : sy_bnd sy_fail k = sy_fail := rfl
theorem sy_bnd_bnd {α β γ : Type} (m : sy_MM α) (k : α → sy_MM β) (k2 : β → sy_MM γ) : sy_bnd (sy_bnd m k) k2 = sy_bnd m (fun a => sy_bnd (k a) k2) := by
  funext σ
  simp only [sy_bnd]
  cases m σ with
  | none => rfl
  | some r =>
    obtain ⟨r, t⟩ := r
    cases r <;> rfl
/-- the cells, in the order in which they are made: an object (its class, its fields: a cell that it points to, or an int), or a row (0 ints, 1 booleans, 2 views, 3 longs) -/
def sy_lay : Nat → (Nat × List (Option Nat)) ⊕ (Nat × Nat)
  | 0 => .inl (5, [some 1, some 10, some 19, some 27, some 30, some 31])
  | 1 => .inl (2, [none, some 2, some 3, some 4, some 5, some 6, some 7, some 8, some 9])
  | 2 => .inr (0, 12)
  | 3 => .inr (0, 12)
  | 4 => .inr (0, 12)
  | 5 => .inr (0, 12)
  | 6 => .inr (0, 12)
  | 7 => .inr (0, 12)
  | 8 => .inr (0, 12)
  | 9 => .inr (0, 12)
  | 10 => .inl (3, [some 1, some 11, some 12, some 13, some 14, some 15, some 16, some 17, some 18, none])
  | 11 => .inr (0, 60)
  | 12 => .inr (0, 60)
  | 13 => .inr (0, 60)
  | 14 => .inr (0, 180)
  | 15 => .inr (0, 180)
  | 16 => .inr (0, 3)
  | 17 => .inr (0, 60)
  | 18 => .inr (1, 60)
  | 19 => .inl (0, [none, some 20, some 21, some 22, some 23, some 24, some 25, some 26])
  | 20 => .inr (0, 4)
  | 21 => .inr (0, 4)
  | 22 => .inr (0, 4)
  | 23 => .inr (1, 12)
  | 24 => .inr (0, 12)
  | 25 => .inr (0, 12)
  | 26 => .inr (0, 12)
  | 27 => .inl (1, [none, none, some 28, some 29])
  | 28 => .inr (0, 4)
  | 29 => .inr (0, 4)
  | 30 => .inr (2, 4)
  | 31 => .inr (0, 12)
  | 32 => .inl (4, [none, none, none, none, none, none, none, some 33, some 34])
  | 33 => .inr (0, 4)
  | 34 => .inr (1, 4)
  | 35 => .inl (4, [none, none, none, none, none, none, none, some 36, some 37])
  | 36 => .inr (0, 4)
  | 37 => .inr (1, 4)
  | 38 => .inl (4, [none, none, none, none, none, none, none, some 39, some 40])
  | 39 => .inr (0, 4)
  | 40 => .inr (1, 4)
  | 41 => .inl (4, [none, none, none, none, none, none, none, some 42, some 43])
  | 42 => .inr (0, 4)
  | 43 => .inr (1, 4)
  | 44 => .inr (0, 12)
  | 45 => .inr (3, 64)
  | 46 => .inr (3, 64)
  | 47 => .inr (3, 64)
  | 48 => .inr (0, 3)
  | 49 => .inr (0, 4)
  | 50 => .inr (3, 4)
  | 51 => .inr (0, 4)
  | 52 => .inr (0, 2)
  | _ => .inr (9, 0)
def sy_N : Nat := 53
/-- the base: where the cells from 0 to 52 lie, and where the law's passing rows (53 ..) lie; a passing row is there when cell 58 says so -/
abbrev sy_Bs : Type := Nat × (Nat → Nat)
def sy_ad (b : sy_Bs) (k : Nat) : Nat := if k < 53 then b.1 + k else b.2 k
theorem sy_ad_lt {b : sy_Bs} {k : Nat} (h : k < sy_N) : sy_ad b k = b.1 + k := if_pos h
theorem sy_ad_ge {b : sy_Bs} {k : Nat} (h : 53 ≤ k) : sy_ad b k = b.2 k := if_neg (Nat.not_lt.mpr h)
def sy_tl : Nat → Nat
  | 53 => 5
  | 54 => 2
  | 55 => 3
  | 56 => 4
  | 57 => 4
  | _ => 0
def sy_tp (σ : sy_Mem) : List Nat := [53, 54, 55, 56, 57].filter (fun k => σ 58 k == 1)
def sy_jn (a c : Int32) : Int64 := Int64.ofBitVec (a.toBitVec ++ c.toBitVec)
def sy_hi (x : Int64) : Int32 := Int32.ofBitVec (x.toBitVec.extractLsb' 32 32)
def sy_lo (x : Int64) : Int32 := Int32.ofBitVec (x.toBitVec.extractLsb' 0 32)
theorem sy_jn_hl (x : Int64) : sy_jn (sy_hi x) (sy_lo x) = x := by
  unfold sy_jn sy_hi sy_lo
  apply Int64.toBitVec_inj.mp
  show (x.toBitVec.extractLsb' 32 32 ++ x.toBitVec.extractLsb' 0 32 : BitVec 64) = x.toBitVec
  apply BitVec.eq_of_getLsbD_eq
  intro i hi
  rw [BitVec.getLsbD_append, BitVec.getLsbD_extractLsb', BitVec.getLsbD_extractLsb']
  by_cases h : i < 32
  · simp [h]
  · simp [h, show i - 32 < 32 by omega, show 32 + (i - 32) = i by omega]
def sy_vw (i : Nat) : Nat := 32 + 3 * i
def sy_cell (b : sy_Bs) (cA : Nat → ClassId) (σ : sy_Mem) (k : Nat) : va_E := match sy_lay k with
  | .inl (ci, fs) => .inr (ci, fs.mapIdx (fun i f => match f with | some j => Value.ref (sy_ad b j) | none => Value.int (σ k i)))
  | .inr (0, n) => .inl (cA 0, n, .inl (σ k))
  | .inr (1, n) => .inl (cA 1, n, .inl (σ k))
  | .inr (2, n) => .inl (cA 2, n, .inr (.inr (.inr (.inr (fun i => some (b.1 + sy_vw i))))))
  | .inr (_, n) => .inl (cA 3, n, .inr (.inl (fun j => sy_jn (σ k (2 * j)) (σ k (2 * j + 1)))))
def sy_w0 (b : sy_Bs) (cA : Nat → ClassId) (σ : sy_Mem) : va_W := (List.range sy_N).map (fun k => (sy_ad b k, sy_cell b cA σ k))
def sy_te (b : sy_Bs) (cA : Nat → ClassId) (σ : sy_Mem) (k : Nat) : Nat × va_E := (sy_ad b k, .inl (cA 0, sy_tl k, .inl (σ k)))
def sy_w1 (b : sy_Bs) (cA : Nat → ClassId) (σ : sy_Mem) : va_W := (sy_tp σ).map (sy_te b cA σ)
def sy_wd (b : sy_Bs) (cA : Nat → ClassId) (σ : sy_Mem) : va_W := sy_w0 b cA σ ++ sy_w1 b cA σ
def sy_up (σ : sy_Mem) (k i : Nat) (v : Int32) : sy_Mem := fun j => if j = k then upd (σ k) i v else σ j
def sy_ab (b : Nat) : Nat → Prop := fun q => b ≤ q
theorem sy_w0_len {b : sy_Bs} {cA : Nat → ClassId} {σ : sy_Mem} : (sy_w0 b cA σ).length = sy_N := by simp [sy_w0]
theorem sy_w0_at {b : sy_Bs} {cA : Nat → ClassId} {σ : sy_Mem} {k : Nat} (h : k < sy_N) : (sy_w0 b cA σ)[k]? = some (sy_ad b k, sy_cell b cA σ k) := by
  simp [sy_w0, h]
theorem sy_wd_at {b : sy_Bs} {cA : Nat → ClassId} {σ : sy_Mem} {k : Nat} (h : k < sy_N) : (sy_wd b cA σ)[k]? = some (sy_ad b k, sy_cell b cA σ k) := by
  unfold sy_wd
  rw [List.getElem?_append_left (by rw [sy_w0_len]; exact h), sy_w0_at h]
theorem sy_tp_set {σ τ : sy_Mem} (h : τ 58 = σ 58) : sy_tp τ = sy_tp σ := by
  unfold sy_tp
  rw [h]
theorem sy_tp_ge {σ : sy_Mem} {k : Nat} (h : k ∈ sy_tp σ) : 53 ≤ k ∧ k ≤ 57 ∧ σ 58 k = 1 := by
  obtain ⟨h1, h2⟩ := List.mem_filter.mp h
  refine ⟨?_, ?_, by simpa using h2⟩
  · simp only [List.mem_cons, List.not_mem_nil, or_false] at h1
    omega
  · simp only [List.mem_cons, List.not_mem_nil, or_false] at h1
    omega
theorem sy_tp_of {σ : sy_Mem} {k : Nat} (h1 : 53 ≤ k) (h2 : k ≤ 57) (h : σ 58 k = 1) : k ∈ sy_tp σ := List.mem_filter.mpr ⟨by
  simp only [List.mem_cons, List.not_mem_nil, or_false]
  omega, by simpa using h⟩
theorem sy_tp_nd (σ : sy_Mem) : (sy_tp σ).Nodup := List.Pairwise.filter _ (show [53, 54, 55, 56, 57].Nodup by decide)
theorem sy_wd_set {b : sy_Bs} {cA : Nat → ClassId} {σ τ : sy_Mem} {k : Nat} {e : va_E} (hk : k < sy_N) (he : e = sy_cell b cA τ k) (hc : ∀ j, j ≠ k → τ j = σ j) : (sy_wd b cA σ).set k (sy_ad b k, e) = sy_wd b cA τ := by
  subst he
  have hk' : k < 53 := hk
  have ht : sy_w1 b cA τ = sy_w1 b cA σ := by
    unfold sy_w1
    rw [sy_tp_set (hc 58 (by omega))]
    refine List.map_congr_left fun q hq => ?_
    have := sy_tp_ge hq
    unfold sy_te
    rw [hc q (by omega)]
  unfold sy_wd
  rw [ht, List.set_append_left _ _ (by rw [sy_w0_len]; exact hk)]
  congr 1
  apply List.ext_getElem?
  intro i
  by_cases hi : i < sy_N
  · by_cases hk : i = k
    · subst hk
      rw [sy_w0_at hi, List.getElem?_set_self (by rw [sy_w0_len]; exact hi)]
    · rw [List.getElem?_set_ne (fun h => hk h.symm), sy_w0_at hi, sy_w0_at hi]
      simp only [sy_cell, hc i hk]
  · rw [List.getElem?_eq_none (by rw [List.length_set, sy_w0_len]; omega), List.getElem?_eq_none (by rw [sy_w0_len]; omega)]
/-- a passing row's place in the world -/
theorem sy_wd_t {b : sy_Bs} {cA : Nat → ClassId} {σ : sy_Mem} {k : Nat} (h : k ∈ sy_tp σ) : ∃ j, (sy_tp σ)[j]? = some k ∧ (sy_wd b cA σ)[sy_N + j]? = some (sy_te b cA σ k) := by
  obtain ⟨j, hj⟩ := List.getElem?_of_mem h
  refine ⟨j, hj, ?_⟩
  unfold sy_wd
  rw [List.getElem?_append_right (by rw [sy_w0_len]; omega), sy_w0_len, show sy_N + j - sy_N = j by omega]
  unfold sy_w1
  rw [List.getElem?_map, hj]
  rfl
theorem sy_wd_ts {b : sy_Bs} {cA : Nat → ClassId} {σ τ : sy_Mem} {k j : Nat} (hj : (sy_tp σ)[j]? = some k) (hc : ∀ i, i ≠ k → τ i = σ i) : (sy_wd b cA σ).set (sy_N + j) (sy_te b cA τ k) = sy_wd b cA τ := by
  have hk := sy_tp_ge (List.mem_of_getElem? hj)
  have h0 : sy_w0 b cA τ = sy_w0 b cA σ := by
    unfold sy_w0
    refine List.map_congr_left fun i hi => ?_
    have := List.mem_range.mp hi
    have h53 : i < 53 := this
    simp only [sy_cell, hc i (by omega)]
  have hjl : j < (sy_tp σ).length := (List.getElem?_eq_some_iff.mp hj).1
  unfold sy_wd
  rw [h0, List.set_append_right _ _ (by rw [sy_w0_len]; omega), sy_w0_len, show sy_N + j - sy_N = j by omega]
  congr 1
  unfold sy_w1
  rw [sy_tp_set (hc 58 (by omega))]
  apply List.ext_getElem?
  intro i
  by_cases hi : i = j
  · subst hi
    rw [List.getElem?_set_self (by simpa using hjl), List.getElem?_map, hj]
    rfl
  · rw [List.getElem?_set_ne (fun h => hi h.symm), List.getElem?_map, List.getElem?_map]
    cases hq : (sy_tp σ)[i]? with
    | none => rfl
    | some q =>
      have hne : q ≠ k := by
        intro e
        subst e
        have hil : i < (sy_tp σ).length := (List.getElem?_eq_some_iff.mp hq).1
        exact hi ((List.getElem?_inj hil (sy_tp_nd σ)).mp (hq.trans hj.symm))
      simp only [Option.map_some, sy_te, hc q hne]
theorem sy_lay_lt {k : Nat} {x : Nat × List (Option Nat)} (h : sy_lay k = .inl x) : k < sy_N := by
  rcases Nat.lt_or_ge k sy_N with q | q
  · exact q
  · exfalso
    have e : sy_lay k = .inr (9, 0) := by
      unfold sy_lay
      unfold sy_N at q
      split <;> first | rfl | omega
    rw [e] at h
    cases h
theorem sy_lay_ltA {k kd n : Nat} (h : sy_lay k = .inr (kd, n)) (hk : kd < 9) : k < sy_N := by
  rcases Nat.lt_or_ge k sy_N with q | q
  · exact q
  · exfalso
    have e : sy_lay k = .inr (9, 0) := by
      unfold sy_lay
      unfold sy_N at q
      split <;> first | rfl | omega
    rw [e] at h
    cases h
    omega
/-- values and addresses; the locals -/
/- an address below the base, or of a thrown object, is written .retAddr here -/
def sy_sh (b : sy_Bs) : Value → Value
  | .ref a => .ref (sy_ad b a)
  | .retAddr a => .ref a
  | v => v
theorem sy_sh_cat (b : sy_Bs) (v : Value) : (sy_sh b v).category = v.category := by cases v <;> rfl
theorem sy_sh_sum (b : sy_Bs) (st : List Value) : ((st.map (sy_sh b)).map fun v => v.category).sum = (st.map fun v => v.category).sum := by
  rw [List.map_map]
  congr 1
  exact List.map_congr_left fun v _ => sy_sh_cat b v
def sy_kl (v : Value) : Value := if v.category = 2 then .null else v
def sy_set : List Value → Nat → Value → List Value
  | [], 0, v => [v]
  | _ :: t, 0, v => v :: t
  | [], i + 1, v => .null :: sy_set [] i v
  | x :: t, i + 1, v => (if i = 0 then sy_kl x else x) :: sy_set t i v
theorem sy_set_get {w : Value} : ∀ {env : List Value} {i j : Nat} {v : Value}, (sy_set env i w)[j]? = some v → v ≠ .null → (j = i ∧ v = w) ∨ (j ≠ i ∧ env[j]? = some v ∧ ¬ (j + 1 = i ∧ v.category = 2))
  | [], 0, j, v, h, hv => by
    cases j with
    | zero => exact Or.inl ⟨rfl, by simpa [sy_set] using h.symm⟩
    | succ j => simp [sy_set] at h
  | x :: t, 0, j, v, h, hv => by
    cases j with
    | zero => exact Or.inl ⟨rfl, by simpa [sy_set] using h.symm⟩
    | succ j => exact Or.inr ⟨by omega, by simpa [sy_set] using h, by omega⟩
  | [], i + 1, j, v, h, hv => by
    cases j with
    | zero => simp [sy_set] at h; exact absurd h.symm hv
    | succ j =>
      have h : (sy_set [] i w)[j]? = some v := by simpa [sy_set] using h
      rcases sy_set_get h hv with ⟨a, c⟩ | ⟨a, c, d⟩
      · exact Or.inl ⟨by omega, c⟩
      · simp at c
  | x :: t, i + 1, j, v, h, hv => by
    cases j with
    | zero =>
      refine Or.inr ⟨by omega, ?_, ?_⟩
      · simp only [sy_set, List.getElem?_cons_zero, Option.some.injEq] at h ⊢
        by_cases hi : i = 0
        · rw [if_pos hi] at h
          unfold sy_kl at h
          by_cases hc : x.category = 2
          · rw [if_pos hc] at h; exact absurd h.symm hv
          · rw [if_neg hc] at h; exact h
        · rw [if_neg hi] at h; exact h
      · rintro ⟨h1, h2⟩
        have hi : i = 0 := by omega
        simp only [sy_set, List.getElem?_cons_zero, Option.some.injEq, if_pos hi] at h
        unfold sy_kl at h
        by_cases hc : x.category = 2
        · rw [if_pos hc] at h; exact hv h.symm
        · rw [if_neg hc] at h; rw [h] at hc; exact hc h2
    | succ j =>
      have h : (sy_set t i w)[j]? = some v := by simpa [sy_set] using h
      rcases sy_set_get h hv with ⟨a, c⟩ | ⟨a, c, d⟩
      · exact Or.inl ⟨by omega, c⟩
      · exact Or.inr ⟨by omega, by simpa using c, by omega⟩
def sy_eok (b : sy_Bs) (ls : Array Slot) (nL : Nat) (env : List Value) : Prop := ls.size = nL ∧ lv_wf ls ∧ ∀ (i : Nat) (v : Value), env[i]? = some v → v ≠ .null → ls[i]? = some (.val (sy_sh b v))
def sy_lv (b : sy_Bs) (env : List Value) : List (Nat × Value) := (List.range env.length).filterMap (fun j => if env.getD j .null = .null then none else some (j, sy_sh b (env.getD j .null)))
theorem sy_lv_mem {b : sy_Bs} {env : List Value} {j : Nat} {v : Value} (h : env[j]? = some v) (hv : v ≠ .null) : (j, sy_sh b v) ∈ sy_lv b env := by
  have e : env.getD j .null = v := by simp [List.getD, h]
  refine List.mem_filterMap.mpr ⟨j, List.mem_range.mpr (List.getElem?_eq_some_iff.mp h).1, ?_⟩
  rw [e, if_neg hv]
theorem sy_lv_of {b : sy_Bs} {env : List Value} {q : Nat × Value} (h : q ∈ sy_lv b env) : ∃ v, env[q.1]? = some v ∧ v ≠ .null ∧ q.2 = sy_sh b v := by
  obtain ⟨j, hj, e⟩ := List.mem_filterMap.mp h
  by_cases hn : env.getD j .null = .null
  · rw [if_pos hn] at e; cases e
  · rw [if_neg hn] at e
    cases e
    have hl := List.mem_range.mp hj
    refine ⟨env.getD j .null, ?_, hn, rfl⟩
    simp [List.getD, List.getElem?_eq_getElem hl]
theorem sy_eok.has {b : sy_Bs} {ls : Array Slot} {nL : Nat} {env : List Value} (h : sy_eok b ls nL env) : lv_has ls nL (sy_lv b env) := by
  refine ⟨h.1, h.2.1, fun q hq => ?_⟩
  obtain ⟨v, h1, h2, h3⟩ := sy_lv_of hq
  rw [h3]
  exact h.2.2 _ _ h1 h2
theorem sy_eok.at {b : sy_Bs} {ls : Array Slot} {nL i : Nat} {env : List Value} {v : Value} (h : sy_eok b ls nL env) (hv : env[i]? = some v) (hn : v ≠ .null) : ls[i]? = some (.val (sy_sh b v)) := h.2.2 i v hv hn
/-- behind a store of one slot -/
theorem sy_eok.st {b : sy_Bs} {ls' : Array Slot} {nL i : Nat} {env : List Value} {w : Value} (h : lv_has ls' nL ((i, sy_sh b w) :: (sy_lv b env).filter (fun q => !(q.1 == i) && !(q.1 + 1 == i && q.2.category == 2)))) : sy_eok b ls' nL (sy_set env i w) := by
  refine ⟨h.1, h.2.1, fun j v hj hv => ?_⟩
  rcases sy_set_get hj hv with ⟨rfl, rfl⟩ | ⟨h1, h2, h3⟩
  · exact h.2.2 _ List.mem_cons_self
  · refine h.2.2 (j, sy_sh b v) (List.mem_cons_of_mem _ (List.mem_filter.mpr ⟨sy_lv_mem h2 hv, ?_⟩))
    simp only [sy_sh_cat, Bool.and_eq_true, Bool.not_eq_true', beq_eq_false_iff_ne, ne_eq, Bool.and_eq_false_imp, beq_iff_eq]
    exact ⟨h1, fun e => by simpa using fun q => h3 ⟨e, q⟩⟩
/-- behind a store of a long -/
theorem sy_eok.stL {b : sy_Bs} {ls' : Array Slot} {nL i : Nat} {env : List Value} {x : Int64} (h : lv_has ls' nL ((i, Value.long x) :: (sy_lv b env).filter (fun q => !(q.1 == i) && (!(q.1 == i + 1) && !(q.1 + 1 == i && q.2.category == 2))))) : sy_eok b ls' nL (sy_set (sy_set env (i + 1) .null) i (.long x)) := by
  refine ⟨h.1, h.2.1, fun j v hj hv => ?_⟩
  rcases sy_set_get hj hv with ⟨rfl, rfl⟩ | ⟨h1, h2, h3⟩
  · exact h.2.2 _ List.mem_cons_self
  · rcases sy_set_get h2 hv with ⟨-, rfl⟩ | ⟨g1, g2, g3⟩
    · exact absurd rfl hv
    · refine h.2.2 (j, sy_sh b v) (List.mem_cons_of_mem _ (List.mem_filter.mpr ⟨sy_lv_mem g2 hv, ?_⟩))
      simp only [sy_sh_cat, Bool.and_eq_true, Bool.not_eq_true', beq_eq_false_iff_ne, ne_eq, Bool.and_eq_false_imp, beq_iff_eq]
      exact ⟨h1, g1, fun e => by simpa using fun q => h3 ⟨e, q⟩⟩
theorem sy_take_get {env : List Value} {m i : Nat} {v : Value} (h : (env.take m)[i]? = some v) : env[i]? = some v := by
  rw [List.getElem?_take] at h
  split at h
  · exact h
  · cases h
theorem sy_eok.take {b : sy_Bs} {ls : Array Slot} {nL : Nat} {env : List Value} (m : Nat) (h : sy_eok b ls nL env) : sy_eok b ls nL (env.take m) := ⟨h.1, h.2.1, fun i v hv hn => h.2.2 i v (sy_take_get hv) hn⟩
end SYA
