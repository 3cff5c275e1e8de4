section LA19
variable {A σ : sy_Mem} {t : Nat}
/-- a search: the loop goes on while nothing is found -/
theorem ks_find {c : sy_CE} {s : sy_S} {E : Nat → Int32 → List Value} {P : Nat → Bool} {n : Nat} {k : List Value → sy_MM (Option Value)} {r : Int32 → Option (((Option Value) ⊕ Nat) × sy_Mem)} (hc : ∀ i, i ≤ 70 → c (E i (-1)) σ = some (.inl (decide (i < n)), σ)) (hd : ∀ i j, i ≤ 70 → j ≤ 70 → c (E i (nI j)) σ = some (.inl false, σ)) (hs : ∀ i k', i < n → s (E i (-1)) k' σ = k' (E (i + 1) (if P i then nI i else -1)) σ) (hk : ∀ i x, k (E i x) σ = r x) (hn : n ≤ 60) : ∀ (m a : Nat), a ≤ 70 → 72 ≤ m + a → sy_wh c s m (E a (-1)) k σ = r ((ya_ff P (n - a) a).elim (-1) (fun i => nI i))
  | 0, a, ha, hm => absurd hm (by omega)
  | m + 1, a, ha, hm => by
    unfold sy_wh
    rw [sy_bnd_at (hc a ha)]
    by_cases q : a < n
    · rw [if_pos (decide_eq_true q), hs a _ q, show n - a = (n - (a + 1)) + 1 by omega]
      unfold ya_ff
      cases hP : P a with
      | true =>
        rw [if_pos rfl, if_pos rfl]
        obtain ⟨m', rfl⟩ : ∃ m', m = m' + 1 := ⟨m - 1, by omega⟩
        unfold sy_wh
        rw [sy_bnd_at (hd (a + 1) a (by omega) (by omega)), if_neg (by decide), hk]
        rfl
      | false =>
        rw [if_neg (by decide), if_neg (by decide)]
        exact ks_find hc hd hs hk hn m (a + 1) (by omega) (by omega)
    · rw [if_neg (by simpa using q), hk, show n - a = 0 by omega]
      rfl
theorem at_nI {d p : Nat} : ya_at A (nI d) (nI p) = sg A d p := rfl
/-- what get finds, in the law's words -/
theorem finds_is (I : yn_I t σ) {v d : Nat} (hd : d < 3) (hD : σ (sy_vw v) 0 = nI d) (way : Int32) {a : Nat} (ha : ya_start σ v way = nI a) (ha2 : a ≤ 61) : ya_finds σ v way = ((ya_ff (fun i => (decide (ya_within σ v way = -1) || ya_X3_isBelow σ (sg σ d i) (ya_within σ v way)) && ya_X5_isRight σ v (sg σ d i) (lsN σ)) (cn σ d - a) a).elim (-1) (fun i => sg σ d i)) := by
  have hc : (ya_cnt σ (nI d)).toNatClampNeg = cn σ d := by
    rw [(cnt_nI I hd).1, nI_clamp (by have := cn_le I hd; omega)]
  have e : ∀ W : Int32, ya_X5_firstRight σ v (lsN σ) a W = ((ya_ff (fun i => (decide (W = -1) || ya_X3_isBelow σ (sg σ d i) W) && ya_X5_isRight σ v (sg σ d i) (lsN σ)) (cn σ d - a) a).elim (-1) (fun i => sg σ d i)) := fun W => by
    unfold ya_X5_firstRight
    rw [hD, hc]
  unfold ya_finds
  rw [ha, nI_clamp (by omega)]
  exact e _
theorem start_is (I : yn_I t σ) {v d : Nat} (hv : v < 4) (hd : d < 3) (hD : σ (sy_vw v) 0 = nI d) : ∃ a : Nat, ya_X5_countAhead σ v = nI a ∧ a ≤ cn σ d ∧ ((ya_here σ v = -1 ∧ ya_X5_placeBehind σ v = nI a) ∨ (a < cn σ d ∧ ya_here σ v = sg σ d a ∧ yL σ (ya_here σ v) = nI a ∧ ya_X5_placeBehind σ v = nI (a + 1))) := by
  have h60 := cn_le I hd
  have hm : ∀ x, (yl σ x ∧ sD σ x = σ (sy_vw v) 0) → ∃ a, a < cn σ d ∧ x = sg σ d a ∧ yL σ x = nI a := fun x hx => sg_of I hx.1 hd (hx.2.trans hD)
  obtain ⟨-, -, g2, g3, g4, -, -, -⟩ := I.2.2.2.2.2.1 v hv
  have hB : ∀ a, ya_X5_countAhead σ v = nI a → ya_here σ v ≠ -1 → ya_X5_placeBehind σ v = nI (a + 1) := fun a e1 e2 => by
    unfold ya_X5_placeBehind
    rw [decide_eq_false e2, if_neg (by decide), e1]
    exact nadd (b := 1)
  have hB0 : ∀ a, ya_X5_countAhead σ v = nI a → ya_here σ v = -1 → ya_X5_placeBehind σ v = nI a := fun a e1 e2 => by
    unfold ya_X5_placeBehind
    rw [decide_eq_true e2, if_pos rfl, e1]
  by_cases e2 : σ (sy_vw v) 2 = -1
  · have e3 : σ (sy_vw v) 3 = 0 := by
      rcases g3 with q | ⟨-, q⟩
      · exact q
      · exact absurd e2 q
    have hh : ya_here σ v = -1 := ((yg_here I hv).1 e3).1
    rcases g4 with q | ⟨q, -⟩
    · have hc : ya_X5_countAhead σ v = nI 0 := by
        unfold ya_X5_countAhead
        rw [q, e2]
        rfl
      exact ⟨0, hc, by omega, Or.inl ⟨hh, hB0 0 hc hh⟩⟩
    · have hc : ya_X5_countAhead σ v = nI (cn σ d) := by
        unfold ya_X5_countAhead
        rw [q, hD, (cnt_nI I hd).1]
        rfl
      exact ⟨cn σ d, hc, by omega, Or.inl ⟨hh, hB0 _ hc hh⟩⟩
  · obtain ⟨a, a1, a2, a3⟩ := hm _ (g2.resolve_left e2)
    have e4 : σ (sy_vw v) 4 = 0 := by
      rcases g4 with q | ⟨-, q⟩
      · exact q
      · exact absurd q e2
    have hc : ya_X5_countAhead σ v = nI a := by
      unfold ya_X5_countAhead
      rw [e4, show ya_sg σ 17 (σ (sy_vw v) 2) = nI a from a3, decide_eq_true (show (0 : Int32) = 0 from rfl)]
      show (if decide (nI a = -1) = true then (0 : Int32) else nI a) = nI a
      rw [decide_eq_false, if_neg (by decide)]
      intro e
      have := congrArg Int32.toInt e
      rw [nI_toInt (by omega), yl_cm] at this
      omega
    rcases g3 with e3 | ⟨e3, -⟩
    · have hh : ya_here σ v = -1 := ((yg_here I hv).1 e3).1
      exact ⟨a, hc, by omega, Or.inl ⟨hh, hB0 a hc hh⟩⟩
    · have hh := ((yg_here I hv).2 (by rw [e3]; decide)).1
      exact ⟨a, hc, by omega, Or.inr ⟨a1, hh.trans a2, by rw [hh]; exact a3, hB a hc (by rw [hh]; exact e2)⟩⟩
/-- below a segment: behind it, and ahead of its end -/
theorem below_is (I : yn_I t A) {d p q : Nat} (hd : d < 3) (hp : p < cn A d) (hq : q < cn A d) : ya_X3_isBelow A (sg A d q) (sg A d p) = (decide (p < q) && decide (q < yE A d p)) := by
  obtain ⟨e1, e2, e3⟩ := yE_is I hd hp
  obtain ⟨a1, a2, a3⟩ := sg_ok I hd hq
  rw [Bool.eq_iff_iff, Bool.and_eq_true, decide_eq_true_eq, decide_eq_true_eq]
  constructor
  · intro h
    have hu : yU A (sg A d q) (sg A d p) := Or.inr h
    have := (e3 q hq).mpr hu
    refine ⟨?_, this.2⟩
    have hne : p ≠ q := fun e => by
      subst e
      obtain ⟨b1, b2, b3, -⟩ := yg_below I a1 h
      omega
    omega
  · rintro ⟨h1, h2⟩
    rcases (e3 q hq).mp ⟨by omega, h2⟩ with e | h
    · have := sg_inj I hd hq hp e
      omega
    · exact h
-- the slots that are filled
theorem fillN_at {n : Nat} {x : Int32} {i f : Nat} (hf : f < 3) : ya_fillN σ n x 3 31 (3 * i + f) = if i = n then ya_N σ x (nI f) else σ 31 (3 * i + f) := by
  have e14 : ∀ j, ya_fillN σ n x j 14 = σ 14 := fun j => ya_fillN_ne σ n x (by decide) j
  show sy_up (sy_up (sy_up σ 31 (3 * n + 0) (ya_N σ x (nI 0))) 31 (3 * n + 1) (ya_N σ x (nI 1))) 31 (3 * n + 2) (ya_N σ x (nI 2)) 31 (3 * i + f) = _
  by_cases e : i = n
  · subst e
    rw [if_pos rfl]
    rcases (show f = 0 ∨ f = 1 ∨ f = 2 by omega) with rfl | rfl | rfl
    · rw [yu_an (by omega), yu_an (by omega), yu_at]
    · rw [yu_an (by omega), yu_at]
    · rw [yu_at]
  · rw [if_neg e, yu_an (by omega), yu_an (by omega), yu_an (by omega)]
theorem sl_mono {m i : Nat} (h : i ≤ m) : ya_sl σ i ≤ ya_sl σ m := by
  induction m with
  | zero => rw [show i = 0 by omega]; exact Nat.le_refl _
  | succ m ih =>
    by_cases e : i = m + 1
    · rw [e]; exact Nat.le_refl _
    · have := ih (by omega)
      show _ ≤ ya_sl σ m + _
      omega
theorem dl_at {v : Nat} (hv : v < 4) {x : Int32} {h : Bool} {f : Nat} (hf : f < 3) : ∀ m i, i < m → ya_code σ (nI i) 1 = true → ya_dl σ v x h m 31 (3 * ya_sl σ i + f) = ya_N σ (ya_X3_upward σ x (ya_ag σ 20 (-1) (nI i))) (nI f)
  | m + 1, i, hi, hc => by
    have hb := yv_lt hv
    have hN : ∀ y, ya_N (ya_dl σ v x h m) y (nI f) = ya_N σ y (nI f) := fun y => ya_N_c (ya_dl_ne σ (by decide) (by omega) (by omega) (by omega) m) _ _
    have h1 : ya_sl σ (i + 1) = ya_sl σ i + 1 := by
      show _ + _ = _
      rw [hc]
      rfl
    unfold ya_dl
    by_cases e : i = m
    · subst e
      rw [if_pos hc, ya_one_31 _ hv, fillN_at hf, if_pos rfl, hN]
    · have h2 := sl_mono (σ := σ) (show i + 1 ≤ m by omega)
      by_cases hm : ya_code σ (nI m) 1 = true
      · rw [if_pos hm, ya_one_31 _ hv, fillN_at hf, if_neg (by omega)]
        exact dl_at hv hf m i (by omega) hc
      · rw [if_neg hm]
        exact dl_at hv hf m i (by omega) hc
theorem deliver_at {v : Nat} (hv : v < 4) {x : Int32} {h : Bool} {f : Nat} (hf : f < 3) : ya_deliver σ v x h 31 (3 * ya_sl σ (lsN σ - 1) + f) = ya_N σ x (nI f) ∧ ∀ i, i < lsN σ - 1 → ya_code σ (nI i) 1 = true → ya_deliver σ v x h 31 (3 * ya_sl σ i + f) = ya_N σ (ya_X3_upward σ x (ya_ag σ 20 (-1) (nI i))) (nI f) := by
  have hb := yv_lt hv
  have hn : (σ 19 0).toNatClampNeg = lsN σ := rfl
  unfold ya_deliver
  rw [hn, ya_one_31 _ hv]
  refine ⟨?_, fun i hi hc => ?_⟩
  · rw [fillN_at hf, if_pos rfl]
    exact ya_N_c (ya_dl_ne σ (by decide) (by omega) (by omega) (by omega) _) _ _
  · have h1 : ya_sl σ (i + 1) = ya_sl σ i + 1 := by
      show _ + _ = _
      rw [hc]
      rfl
    have h2 := sl_mono (σ := σ) (show i + 1 ≤ lsN σ - 1 by omega)
    rw [fillN_at hf, if_neg (by omega)]
    exact dl_at hv hf _ i hi hc
theorem deliver_6 {v : Nat} (hv : v < 4) {x : Int32} {h : Bool} (h6 : σ (sy_vw v) 6 = 0) : ya_deliver σ v x h (sy_vw v) 6 = if h then nI (ya_sl σ (lsN σ - 1) + 1) else 0 := by
  unfold ya_deliver
  rw [ya_one_6 _ hv, ya_dl_6 σ hv h6]
  cases h <;> rfl
end LA19
