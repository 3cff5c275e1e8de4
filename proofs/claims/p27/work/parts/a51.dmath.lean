section LA51
variable {A B σ τ : sy_Mem} {t d p : Nat} {x : Int32} {D : Nat → Bool} {env : List Value}
/-- one place of a row read -/
theorem r0_l (I : yn_I t A) {d j : Nat} (hd : d < 3) (hj : j < cn A d) (h : lg σ (45 + d) j = pL (sk A (sg A d j))) {r : sy_RE} {e : sy_IE} (hr : r env σ = some (.inl (45 + d), σ)) (he : e env σ = some (.inl (nI j), σ)) : sy_lA r e env σ = some (.inl (pL (sk A (sg A d j))), σ) := by
  have h60 := cn_le I hd
  rw [← h]
  exact ee_lA hr he (by rw [rw_len hd]; omega) (by rw [rw_len hd]; omega)
theorem r0_t (I : yn_I t A) {d j : Nat} (hd : d < 3) (hj : j < cn A d) (h : lg σ (45 + d) j = pL (sk A (sg A d j))) {r : sy_RE} {e : sy_IE} (hr : r env σ = some (.inl (45 + d), σ)) (he : e env σ = some (.inl (nI j), σ)) : sy_iM (sy_cr 1 sf_L_typeOf) (sy_aL (sy_lA r e) sy_aN) env σ = some (.inl (yT A (sg A d j)), σ) :=
  ee_M (ee_aL (r0_l I hd hj h hr he) ee_aN) (ee_cr (t_typeOf I.1 I.2.1 (sg_ok I hd hj).1) rfl)
theorem r0_f (I : yn_I t A) {d j f : Nat} (hd : d < 3) (hj : j < cn A d) (hf : f < 3) (h : lg σ (45 + d) j = pL (sk A (sg A d j))) {r : sy_RE} {e g : sy_IE} (hr : r env σ = some (.inl (45 + d), σ)) (he : e env σ = some (.inl (nI j), σ)) (hg : g env σ = some (.inl (nI f), σ)) : sy_iM (sy_cr 2 sf_L_fieldOf) (sy_aL (sy_lA r e) (sy_aI g sy_aN)) env σ = some (.inl (ya_N A (sg A d j) (nI f)), σ) :=
  ee_M (ee_aL (r0_l I hd hj h hr he) (ee_aI hg ee_aN)) (ee_cr (t_fieldOf I.1 I.2.1 (sg_ok I hd hj).1 hf) rfl)
theorem t_end0 (I : yn_I t A) (T : TT A σ) {d p : Nat} (hd : d < 3) (hp : p < cn A d) (R0 : ∀ q, p ≤ q → q < cn A d → lg σ (45 + d) q = pL (sk A (sg A d q))) : sf_L_end [.ref 44, .ref (45 + d), .int (nI (cn A d)), .int (nI p)] σ = some (.inl (some (.int (nI (yE A d p)))), σ) := by
  obtain ⟨h1, h2, h3⟩ := yE_is I hd hp
  have h60 := cn_le I hd
  have S := I.1
  have G := I.2.1
  obtain ⟨a1, a2, a3⟩ := sg_ok I hd hp
  refine ke_meth ?_ (Nat.le_of_ble_eq_true rfl)
  refine es_Q (es_SI (x := nI (p + 1)) (ee_eq (ee_B (ee_L rfl) ee_K) (nadd (b := 1))) (es_Q ?_))
  have cond : ∀ q, p ≤ q → q < cn A d → sy_cA (sy_clt (sy_iL 4) (sy_iL 2)) (sy_cgt (sy_iM (sy_cr 2 sf_L_level) (sy_aR (sy_rL 0) (sy_aI (sy_iM (sy_cr 1 sf_L_typeOf) (sy_aL (sy_lA (sy_rL 1) (sy_iL 4)) sy_aN)) sy_aN))) (sy_iM (sy_cr 2 sf_L_level) (sy_aR (sy_rL 0) (sy_aI (sy_iM (sy_cr 1 sf_L_typeOf) (sy_aL (sy_lA (sy_rL 1) (sy_iL 3)) sy_aN)) sy_aN)))) [.ref 44, .ref (45 + d), .int (nI (cn A d)), .int (nI p), .int (nI q)] σ = some (.inl (decide (ya_lv A (sg A d p) < ya_lv A (sg A d q))), σ) := fun q hpq hq => by
    obtain ⟨b1, b2, b3⟩ := sg_ok I hd hq
    refine ee_eq (ee_cA (x := true) (y := decide (ya_lv A (sg A d p) < ya_lv A (sg A d q))) (ee_eq (ee_cB (ee_L rfl) (ee_L rfl)) (decide_eq_true ?_)) (fun _ => ee_eq (ee_cB (ev_v I T (G.1 _ b1).1 (ee_R rfl) (r0_t I hd hq (R0 q hpq hq) (ee_R rfl) (ee_L rfl))) (ev_v I T (G.1 _ a1).1 (ee_R rfl) (r0_t I hd hp (R0 p (Nat.le_refl _) hp) (ee_R rfl) (ee_L rfl)))) ?_)) (Bool.true_and _)
    · rw [Int32.lt_iff_toInt_lt]
      exact (nI_lt2 (by omega) (by omega)).1.mpr hq
    · have e1 := lv_pos I a1
      have e2 := lv_pos I b1
      rw [decide_eq_decide, Int32.lt_iff_toInt_lt]
      omega
  have key := ks_wh (c := sy_cA (sy_clt (sy_iL 4) (sy_iL 2)) (sy_cgt (sy_iM (sy_cr 2 sf_L_level) (sy_aR (sy_rL 0) (sy_aI (sy_iM (sy_cr 1 sf_L_typeOf) (sy_aL (sy_lA (sy_rL 1) (sy_iL 4)) sy_aN)) sy_aN))) (sy_iM (sy_cr 2 sf_L_level) (sy_aR (sy_rL 0) (sy_aI (sy_iM (sy_cr 1 sf_L_typeOf) (sy_aL (sy_lA (sy_rL 1) (sy_iL 3)) sy_aN)) sy_aN))))) (s := sy_sIn 4 1) (E := fun i => [.ref 44, .ref (45 + d), .int (nI (cn A d)), .int (nI p), .int (nI (p + 1 + i))]) (S := fun _ => σ) (N := yE A d p - (p + 1)) (k := fun env => sy_eI (sy_iL 4) env (fun _ => sy_fail)) ?_ ?_ (yE A d p - (p + 1)) 0 1000 (by omega) (by omega)
  · refine key.trans ?_
    have : p + 1 + (yE A d p - (p + 1)) = yE A d p := by omega
    rw [this]
    exact es_eI (ee_L rfl)
  · intro i hi
    refine ⟨ee_eq (cond (p + 1 + i) (by omega) (by omega)) (decide_eq_true ?_), fun k' => es_In rfl ?_⟩
    · have hU := (h3 (p + 1 + i) (by omega)).mp ⟨by omega, by omega⟩
      obtain ⟨-, -, -, q⟩ := yU_l I (sg_ok I hd (show p + 1 + i < cn A d by omega)).1 hU
      rcases q with q | ⟨q, -⟩
      · have := sg_inj I hd hp (by omega) q
        omega
      · exact q
    · exact congrArg (fun z => k' [.ref 44, .ref (45 + d), .int (nI (cn A d)), .int (nI p), .int z] σ) (nadd (a := p + 1 + i) (b := 1))
  · show sy_cA _ _ [.ref 44, .ref (45 + d), .int (nI (cn A d)), .int (nI p), .int (nI (p + 1 + (yE A d p - (p + 1))))] σ = _
    rw [show p + 1 + (yE A d p - (p + 1)) = yE A d p by omega]
    by_cases hq : yE A d p < cn A d
    · have := yE_lv I hd hp hq
      exact ee_eq (cond _ (by omega) hq) (decide_eq_false (by omega))
    · refine ee_eq (ee_cA (x := false) (y := false) (ee_eq (ee_cB (ee_L rfl) (ee_L rfl)) (decide_eq_false ?_)) (fun h => by cases h)) rfl
      rw [Int32.lt_iff_toInt_lt]
      intro h
      have := (nI_lt2 (by omega) (by omega)).1.mp h
      omega
/-- what dooms all below it -/
def trg (A : sy_Mem) (x : Int32) (d p : Nat) : Bool := decide (sg A d p = x) || (ya_X3_isTied A (sg A d p) x && decide (tO A (yT A (sg A d p)) = 2))
theorem dm_or (A : sy_Mem) (x : Int32) (i : Nat) : ∀ n, ya_dm A x n i = true ↔ (ya_du A x i = true ∨ ∃ j, j < n ∧ ya_tq A x j = true ∧ ya_du A (nI j) i = true)
  | 0 => by
    refine ⟨Or.inl, fun h => ?_⟩
    rcases h with h | ⟨j, hj, -⟩
    · exact h
    · omega
  | n + 1 => by
    unfold ya_dm
    have ih := dm_or A x i n
    by_cases e : ya_tq A x n = true
    · rw [if_pos e]
      show (ya_dm A x n i || ya_du A (nI n) i) = true ↔ _
      rw [Bool.or_eq_true, ih]
      constructor
      · rintro ((h | ⟨j, h1, h2⟩) | h)
        · exact Or.inl h
        · exact Or.inr ⟨j, by omega, h2⟩
        · exact Or.inr ⟨n, by omega, e, h⟩
      · rintro (h | ⟨j, h1, h2, h3⟩)
        · exact Or.inl (Or.inl h)
        · by_cases q : j = n
          · rw [q] at h3
            exact Or.inr h3
          · exact Or.inl (Or.inr ⟨j, by omega, h2, h3⟩)
    · rw [if_neg e, ih]
      constructor
      · rintro (h | ⟨j, h1, h2⟩)
        · exact Or.inl h
        · exact Or.inr ⟨j, by omega, h2⟩
      · rintro (h | ⟨j, h1, h2, h3⟩)
        · exact Or.inl h
        · by_cases q : j = n
          · rw [q] at h2
            exact absurd h2 e
          · exact Or.inr ⟨j, by omega, h2, h3⟩
theorem tied_l {s : Int32} (hx : yl A x) (h : ya_X3_isTied A s x = true) (I : yn_I t A) : yl A s := by
  unfold ya_X3_isTied at h
  rw [Bool.and_eq_true, Bool.and_eq_true] at h
  have h1 : decide (tG A (yT A s) = yT A x) = true := h.1.2
  have h2 := of_decide_eq_true h1
  intro hs
  have hs : yT A s = -1 := hs
  rw [hs] at h2
  have h3 : tG A (-1) = -1 := rfl
  rw [h3] at h2
  exact hx h2.symm
theorem du_is {s y : Int32} {i : Nat} (hs : yl A s) (hi : s = nI i) (h60 : i < 60) : ya_du A y i = true ↔ yU A s y := by
  unfold ya_du
  have h1 : decide (A 11 i = -1) = false := decide_eq_false ((yl_lv h60).mp (by rw [← hi]; exact hs))
  rw [h1, Bool.not_false, Bool.true_and, ← hi, yU_under]
/-- doomed, told by the row -/
theorem dm_is (I : yn_I t A) (hx : yl A x) (hD : ya_dm A x 60 = D) (hd : d < 3) (hp : p < cn A d) : ya_dmd D (sg A d p) = true ↔ ∃ q, q ≤ p ∧ trg A x d q = true ∧ p < yE A d q := by
  obtain ⟨a1, a2, a3⟩ := sg_ok I hd hp
  obtain ⟨i, i60, hi⟩ := sg_nI a1
  have hin := yl_in a1
  have hcl : (sg A d p).toNatClampNeg = i := by rw [hi, nI_clamp (by omega)]
  rw [ya_dmd_in hin, hcl, ← hD, dm_or, du_is a1 hi i60]
  have up : ∀ y, yU A (sg A d p) y → ∃ q, q ≤ p ∧ y = sg A d q ∧ p < yE A d q ∧ q < cn A d := fun y hy => by
    obtain ⟨b1, b2, -⟩ := yU_l I a1 hy
    obtain ⟨q, q1, q2, q3⟩ := sg_of I b1 hd (b2.trans a2)
    rw [q2] at hy
    obtain ⟨e1, e2, e3⟩ := yE_is I hd q1
    have := (e3 p hp).mpr hy
    exact ⟨q, this.1, q2, this.2, q1⟩
  constructor
  · rintro (h | ⟨j, h1, h2, h3⟩)
    · obtain ⟨q, q1, q2, q3, q4⟩ := up x h
      exact ⟨q, q1, by unfold trg; rw [← q2, decide_eq_true rfl]; rfl, q3⟩
    · rw [du_is a1 hi i60] at h3
      obtain ⟨q, q1, q2, q3, q4⟩ := up _ h3
      refine ⟨q, q1, ?_, q3⟩
      unfold trg
      rw [← q2]
      unfold ya_tq at h2
      rw [h2, Bool.or_true]
  · rintro ⟨q, q1, q2, q3⟩
    have qc : q < cn A d := by omega
    obtain ⟨e1, e2, e3⟩ := yE_is I hd qc
    have hU : yU A (sg A d p) (sg A d q) := (e3 p hp).mp ⟨q1, q3⟩
    unfold trg at q2
    rw [Bool.or_eq_true, decide_eq_true_eq] at q2
    rcases q2 with q2 | q2
    · rw [q2] at hU
      exact Or.inl hU
    · right
      obtain ⟨j, j60, hj⟩ := sg_nI (sg_ok I hd qc).1
      refine ⟨j, j60, ?_, ?_⟩
      · unfold ya_tq
        rw [← hj]
        exact q2
      · rw [du_is a1 hi i60, ← hj]
        exact hU
/-- how far what is doomed goes -/
def unt (A : sy_Mem) (x : Int32) (d : Nat) : Nat → Nat
  | 0 => 0
  | n + 1 => if trg A x d n = true then (if unt A x d n < yE A d n then yE A d n else unt A x d n) else unt A x d n
theorem unt_is (A : sy_Mem) (x : Int32) (d k : Nat) : ∀ n, k < unt A x d n ↔ ∃ q, q < n ∧ trg A x d q = true ∧ k < yE A d q
  | 0 => by
    unfold unt
    refine ⟨fun h => absurd h (by omega), fun ⟨q, h, _⟩ => absurd h (by omega)⟩
  | n + 1 => by
    have ih := unt_is A x d k n
    unfold unt
    by_cases e : trg A x d n = true
    · rw [if_pos e]
      constructor
      · intro h
        by_cases e2 : unt A x d n < yE A d n
        · rw [if_pos e2] at h
          exact ⟨n, by omega, e, h⟩
        · rw [if_neg e2] at h
          obtain ⟨q, q1, q2⟩ := ih.mp h
          exact ⟨q, by omega, q2⟩
      · rintro ⟨q, q1, q2, q3⟩
        by_cases e3 : q = n
        · rw [e3] at q3
          by_cases e2 : unt A x d n < yE A d n
          · rw [if_pos e2]; exact q3
          · rw [if_neg e2]; omega
        · have := ih.mpr ⟨q, by omega, q2, q3⟩
          by_cases e2 : unt A x d n < yE A d n
          · rw [if_pos e2]; omega
          · rw [if_neg e2]; exact this
    · rw [if_neg e, ih]
      constructor
      · rintro ⟨q, q1, q2⟩
        exact ⟨q, by omega, q2⟩
      · rintro ⟨q, q1, q2, q3⟩
        by_cases e3 : q = n
        · rw [e3] at q2
          exact absurd q2 e
        · exact ⟨q, by omega, q2, q3⟩
theorem unt_le (I : yn_I t A) (hd : d < 3) : ∀ n, n ≤ cn A d → unt A x d n ≤ cn A d
  | 0, _ => by unfold unt; omega
  | n + 1, h => by
    have ih := unt_le I hd n (by omega)
    have := (yE_is I hd (show n < cn A d by omega)).2.1
    unfold unt
    split
    · split
      · exact this
      · exact ih
    · exact ih
theorem dmd_unt (I : yn_I t A) (hx : yl A x) (hD : ya_dm A x 60 = D) (hd : d < 3) (hp : p < cn A d) : ya_dmd D (sg A d p) = decide (p < unt A x d (p + 1)) := by
  rw [Bool.eq_iff_iff, decide_eq_true_eq, dm_is I hx hD hd hp, unt_is]
  constructor
  · rintro ⟨q, q1, q2, q3⟩
    exact ⟨q, by omega, q2, q3⟩
  · rintro ⟨q, q1, q2, q3⟩
    exact ⟨q, by omega, q2, q3⟩
/-- bound: tied, not to go, and not doomed -/
def bnd1 (A : sy_Mem) (x : Int32) (D : Nat → Bool) (d p : Nat) : Bool := (ya_X3_isTied A (sg A d p) x && decide (tO A (yT A (sg A d p)) = 0)) && !ya_dmd D (sg A d p)
def bnR (A : sy_Mem) (x : Int32) (D : Nat → Bool) (d n : Nat) : Bool := (ya_ff (bnd1 A x D d) n 0).isSome
theorem bnR_S (A : sy_Mem) (x : Int32) (D : Nat → Bool) (d n : Nat) : bnR A x D d (n + 1) = (bnR A x D d n || bnd1 A x D d n) := by
  unfold bnR
  rw [ya_ff_succ, Nat.zero_add]
  cases ya_ff (bnd1 A x D d) n 0 <;> cases bnd1 A x D d n <;> rfl
def bnC (A : sy_Mem) (x : Int32) (D : Nat → Bool) : Nat → Bool
  | 0 => false
  | d + 1 => bnC A x D d || bnR A x D d (cn A d)
theorem bnC_is (I : yn_I t A) (hx : yl A x) : bnC A x D 3 = ya_bnd A D x := by
  have h1 : ∀ d, bnR A x D d (cn A d) = true ↔ ∃ p, p < cn A d ∧ bnd1 A x D d p = true := fun d => by
    unfold bnR
    rw [ya_ff_isSome]
    constructor
    · rintro ⟨p, -, h2, h3⟩
      exact ⟨p, by omega, h3⟩
    · rintro ⟨p, h2, h3⟩
      exact ⟨p, by omega, by omega, h3⟩
  have h2 : bnC A x D 3 = true ↔ ∃ d p, d < 3 ∧ p < cn A d ∧ bnd1 A x D d p = true := by
    show ((((false || bnR A x D 0 (cn A 0)) || bnR A x D 1 (cn A 1)) || bnR A x D 2 (cn A 2)) = true) ↔ _
    rw [Bool.false_or, Bool.or_eq_true, Bool.or_eq_true, h1, h1, h1]
    constructor
    · rintro ((⟨p, a, b⟩ | ⟨p, a, b⟩) | ⟨p, a, b⟩)
      · exact ⟨0, p, by omega, a, b⟩
      · exact ⟨1, p, by omega, a, b⟩
      · exact ⟨2, p, by omega, a, b⟩
    · rintro ⟨d, p, hd, a, b⟩
      rcases (show d = 0 ∨ d = 1 ∨ d = 2 by omega) with rfl | rfl | rfl
      · exact Or.inl (Or.inl ⟨p, a, b⟩)
      · exact Or.inl (Or.inr ⟨p, a, b⟩)
      · exact Or.inr ⟨p, a, b⟩
  rw [Bool.eq_iff_iff, h2]
  unfold ya_bnd
  rw [ya_ff_isSome]
  constructor
  · rintro ⟨d, p, hd, hp, h⟩
    obtain ⟨a1, a2, a3⟩ := sg_ok I hd hp
    obtain ⟨i, i60, hi⟩ := sg_nI a1
    unfold bnd1 at h
    refine ⟨i, by omega, by omega, ?_⟩
    rw [hi, ya_dmd_in (by rw [nI_toInt (by omega)]; omega), nI_clamp (by omega)] at h
    exact h
  · rintro ⟨i, -, i60, h⟩
    have hh := h
    rw [Bool.and_eq_true, Bool.and_eq_true] at h
    have hl := tied_l hx h.1.1 I
    have hDr := yl_sD I.1 I.2.1 hl
    obtain ⟨d, hd⟩ : ∃ d, d = (sD A (nI i)).toInt.toNat := ⟨_, rfl⟩
    have hd3 : d < 3 := by omega
    obtain ⟨p, p1, p2, p3⟩ := sg_of I hl hd3 (ntI (by omega) (by omega)).symm
    refine ⟨d, p, hd3, p1, ?_⟩
    unfold bnd1
    rw [← p2, ya_dmd_in (by rw [nI_toInt (by omega)]; omega), nI_clamp (by omega)]
    exact hh
theorem second_is {s : Int32} (hx : yl A x) : (decide (tG A (yT A s) = yT A x) && decide (ya_N A s 2 = ya_N A x 0)) = ya_X3_isTied A s x := by
  unfold ya_X3_isTied
  show (decide (tG A (yT A s) = yT A x) && decide (ya_N A s 2 = ya_N A x 0)) = (((!decide (tG A (yT A s) = -1)) && decide (tG A (yT A s) = yT A x)) && decide (ya_N A s 2 = ya_N A x 0))
  by_cases q : tG A (yT A s) = yT A x
  · have : ¬ tG A (yT A s) = -1 := fun e => hx (q.symm.trans e)
    rw [decide_eq_false this]
    rfl
  · rw [decide_eq_false q, Bool.and_false]
end LA51
