section LA8
variable {A σ : sy_Mem} {t : Nat}
/-- a condition packed; an argument's conditions packed; an argument -/
def q1 (A : sy_Mem) (i n : Nat) : Nat := (A 23 (3 * i + n)).toInt.toNat + 2 * (A 24 (3 * i + n)).toInt.toNat + 8 * (A 25 (3 * i + n)).toInt.toNat + 64 * (A 26 (3 * i + n)).toInt.toNat
def qn (A : sy_Mem) (i : Nat) : Nat → Nat
  | 0 => 0
  | n + 1 => qn A i n + 2 ^ (2 + 16 * n) * q1 A i n
abbrev qc (A : sy_Mem) (i : Nat) : Nat := (A 22 i).toInt.toNat
def qh (A : sy_Mem) (i : Nat) : Nat := qc A i + qn A i (qc A i)
def QB (A : sy_Mem) (i n : Nat) : Prop := (A 23 (3 * i + n) = 0 ∨ A 23 (3 * i + n) = 1) ∧ (0 ≤ (A 24 (3 * i + n)).toInt ∧ (A 24 (3 * i + n)).toInt < 3) ∧ (0 ≤ (A 25 (3 * i + n)).toInt ∧ (A 25 (3 * i + n)).toInt < 6) ∧ (0 ≤ (A 26 (3 * i + n)).toInt ∧ (A 26 (3 * i + n)).toInt < 1000)
abbrev lsN (A : sy_Mem) : Nat := (A 19 0).toInt.toNat
/-- the law's list is the component's -/
def QQ (A σ : sy_Mem) : Prop := σ 52 1 = nI (lsN A) ∧ ∀ i, i < lsN A → σ 49 i = nI ((A 20 i).toInt.toNat + 16 * (A 21 i).toInt.toNat) ∧ lg σ 50 i = pL (qh A i) ∧ ∀ n, n < qc A i → QB A i n
theorem q1_lt {i n : Nat} (h : QB A i n) : q1 A i n < 65536 ∧ ((q1 A i n % 2 : Nat) : Int) = (A 23 (3 * i + n)).toInt ∧ ((q1 A i n / 2 % 4 : Nat) : Int) = (A 24 (3 * i + n)).toInt ∧ ((q1 A i n / 8 % 8 : Nat) : Int) = (A 25 (3 * i + n)).toInt ∧ ((q1 A i n / 64 : Nat) : Int) = (A 26 (3 * i + n)).toInt := by
  obtain ⟨h1, h2, h3, h4⟩ := h
  have h1' : 0 ≤ (A 23 (3 * i + n)).toInt ∧ (A 23 (3 * i + n)).toInt ≤ 1 := by rcases h1 with h | h <;> rw [h] <;> decide
  unfold q1
  refine ⟨by omega, by omega, by omega, by omega, by omega⟩
theorem qh_is {i : Nat} (hC : qc A i ≤ 3) (h : ∀ n, n < qc A i → QB A i n) : qh A i < 2 ^ 50 ∧ qh A i % 2 ^ 2 = qc A i ∧ ∀ n, n < qc A i → qh A i / 2 ^ (2 + 16 * n) % 2 ^ 16 = q1 A i n := by
  have hq : ∀ n, n < qc A i → q1 A i n < 65536 := fun n hn => (q1_lt (h n hn)).1
  unfold qh
  revert hC hq
  generalize qc A i = C
  intro hC hq
  rcases (show C = 0 ∨ C = 1 ∨ C = 2 ∨ C = 3 by omega) with rfl | rfl | rfl | rfl
  · simp only [qn]
    refine ⟨by decide, by decide, fun n hn => absurd hn (by omega)⟩
  · have := hq 0 (by omega)
    simp only [qn]
    refine ⟨by omega, by omega, fun n hn => ?_⟩
    obtain rfl : n = 0 := by omega
    simp
    omega
  · have h0 := hq 0 (by omega)
    have h1 := hq 1 (by omega)
    simp only [qn]
    refine ⟨by omega, by omega, fun n hn => ?_⟩
    rcases (show n = 0 ∨ n = 1 by omega) with rfl | rfl <;> simp <;> omega
  · have h0 := hq 0 (by omega)
    have h1 := hq 1 (by omega)
    have h2 := hq 2 (by omega)
    simp only [qn]
    refine ⟨by omega, by omega, fun n hn => ?_⟩
    rcases (show n = 0 ∨ n = 1 ∨ n = 2 by omega) with rfl | rfl | rfl <;> simp <;> omega
/-- the law's way of taking conditions together -/
def lf (isor met : Nat → Bool) : Nat → Bool × Bool
  | 0 => (false, true)
  | i + 1 => ((lf isor met i).1 || ((decide (0 < i) && isor i) && (lf isor met i).2), (if decide (0 < i) && !isor i then (lf isor met i).2 else true) && met i)
def lf2 (isor met : Nat → Bool) : Nat → Nat → Bool → Bool → Bool
  | 0, _, s, p => s || p
  | n + 1, i, s, p => lf2 isor met n (i + 1) (s || ((decide (0 < i) && isor i) && p)) ((if decide (0 < i) && !isor i then p else true) && met i)
theorem lf2_is (isor met : Nat → Bool) : ∀ n i, lf2 isor met n i (lf isor met i).1 (lf isor met i).2 = ((lf isor met (i + n)).1 || (lf isor met (i + n)).2)
  | 0, i => rfl
  | n + 1, i => by
    unfold lf2
    rw [show i + (n + 1) = (i + 1) + n by omega, ← lf2_is isor met n (i + 1)]
    rfl
theorem lf2_t (isor met : Nat → Bool) : ∀ n i p, lf2 isor met n i true p = true
  | 0, _, p => rfl
  | n + 1, i, p => by unfold lf2; rw [Bool.true_or]; exact lf2_t isor met n _ _
theorem lf2_ful (isor met : Nat → Bool) : ∀ n i p, (i = 0 → p = true) → lf2 isor met n i false p = ya_ful isor met n i p
  | 0, i, p, _ => rfl
  | n + 1, i, p, h => by
    unfold lf2 ya_ful
    by_cases hi : i = 0
    · subst hi
      rw [h rfl]
      simpa using lf2_ful isor met n 1 (met 0) (by omega)
    · have h0 : decide (0 < i) = true := decide_eq_true (by omega)
      rw [h0]
      cases hor : isor i
      · simpa using lf2_ful isor met n (i + 1) (p && met i) (by omega)
      · cases p
        · simpa using lf2_ful isor met n (i + 1) (met i) (by omega)
        · simpa using lf2_t isor met n (i + 1) (met i)
theorem lf_ful (isor met : Nat → Bool) (n : Nat) : ((lf isor met n).1 || (lf isor met n).2) = ya_ful isor met n 0 true := by
  rw [← lf2_ful isor met n 0 true (fun _ => rfl)]
  have := lf2_is isor met n 0
  rw [Nat.zero_add] at this
  exact this.symm
theorem isA_nI (I : yn_I t A) {i : Nat} (h : i < lsN A) : ya_isA A (nI i) = true ∧ i < 4 := by
  have hA := I.2.2.2.2.2.2.1
  have h2 : i < (A 19 0).toInt.toNat := h
  refine ⟨yl_isA.mpr ?_, by omega⟩
  rw [nI_toInt (by omega)]
  omega
theorem ag_nI (I : yn_I t A) {i k : Nat} {d : Int32} (h : i < lsN A) : ya_ag A k d (nI i) = A k i := by
  obtain ⟨h1, h2⟩ := isA_nI I h
  rw [ya_ag_in h1, nI_clamp (by omega)]
theorem t_fulfils (I : yn_I t A) (Q : QQ A σ) {i : Nat} (hi : i < lsN A) {s : Int32} (hs : yl A s) : sf_L_fulfils [.long (pL (sk A s)), .long (pL (qh A i))] σ = some (.inl (some (.int (ya_b (ya_X0_isFulfilled A (nI i) s)))), σ) := by
  obtain ⟨-, Q2⟩ := Q
  obtain ⟨-, -, hB⟩ := Q2 i hi
  have hi4 := (isA_nI I hi).2
  have hA := I.2.2.2.2.2.2.2.1 i (by have : i < (A 19 0).toInt.toNat := hi; omega)
  have hC : qc A i ≤ 3 := by
    show (A 22 i).toInt.toNat ≤ 3
    omega
  obtain ⟨h50, hmod, hone⟩ := qh_is hC hB
  have hcn : min (ya_ag A 22 0 (nI i)).toNatClampNeg 3 = qc A i := by
    rw [ag_nI I hi]
    show min (A 22 i).toInt.toNat 3 = (A 22 i).toInt.toNat
    omega
  unfold ya_X0_isFulfilled
  rw [hcn, nI_clamp (by omega), ← lf_ful]
  refine ke_meth ?_ (Nat.le_of_ble_eq_true rfl)
  refine es_Q (es_SI ee_K (es_Q (es_SI ee_K (es_Q (es_B (es_Q (es_SI ee_K ?_)))))))
  have hc : ∀ n, n ≤ qc A i → ∀ (a b : Value), sy_clt (sy_iL 6) (sy_iX (sy_lB (fun x y => x &&& y) (sy_lL 2) (sy_lK 3))) [.long (pL (sk A s)), .null, .long (pL (qh A i)), .null, a, b, .int (nI n)] σ = some (.inl (decide (n < qc A i)), σ) := fun n hn a b => by
    refine ee_eq (ee_cB (ee_L rfl) (ee_eq (ee_X (ee_lB (ee_LL rfl) ee_lK)) (y := nI (qc A i)) ?_)) ?_
    · rw [show (3 : Int64) = pL (2 ^ 2 - 1) from rfl, pL_and 2 (by omega) (by omega), pL_i32, hmod]
    · rw [decide_eq_decide, Int32.lt_iff_toInt_lt]
      exact (nI_lt2 (by omega) (by omega)).1
  refine Eq.trans (ks_wh (E := fun n => [.long (pL (sk A s)), .null, .long (pL (qh A i)), .null, .int (ya_b (lf (fun j => !decide (A 23 (3 * i + j) = 0)) (fun j => ya_met (A 25 (3 * i + j)) (ya_N A s (A 24 (3 * i + j))) (A 26 (3 * i + j))) n).1), .int (ya_b (lf (fun j => !decide (A 23 (3 * i + j) = 0)) (fun j => ya_met (A 25 (3 * i + j)) (ya_N A s (A 24 (3 * i + j))) (A 26 (3 * i + j))) n).2), .int (nI n)]) (S := fun _ => σ) (N := qc A i) ?_ ?_ (qc A i) 0 1000 (by omega) (by omega)) ?_
  · intro n hn
    obtain ⟨g1, g2, g3, g4⟩ := hB n hn
    obtain ⟨b1, b2, b3, b4, b5⟩ := q1_lt (hB n hn)
    refine ⟨ee_eq (hc n (by omega) _ _) (decide_eq_true hn), fun k' => ?_⟩
    generalize hls : lf (fun j => !decide (A 23 (3 * i + j) = 0)) (fun j => ya_met (A 25 (3 * i + j)) (ya_N A s (A 24 (3 * i + j))) (A 26 (3 * i + j))) n = ls
    have hsucc : lf (fun j => !decide (A 23 (3 * i + j) = 0)) (fun j => ya_met (A 25 (3 * i + j)) (ya_N A s (A 24 (3 * i + j))) (A 26 (3 * i + j))) (n + 1) = (ls.1 || ((decide (0 < n) && !decide (A 23 (3 * i + n) = 0)) && ls.2), (if decide (0 < n) && !(!decide (A 23 (3 * i + n) = 0)) then ls.2 else true) && ya_met (A 25 (3 * i + n)) (ya_N A s (A 24 (3 * i + n))) (A 26 (3 * i + n))) := by
      rw [← hls]
      rfl
    have e7 : ((pL (qh A i) >>> ((nI 2 + nI 16 * nI n).toInt64 &&& 63)) &&& 65535).toInt32 = nI (q1 A i n) := by
      have hd : qh A i / 2 ^ (2 + 16 * n) ≤ qh A i := Nat.div_le_self _ _
      rw [show nI 2 + nI 16 * nI n = nI (2 + 16 * n) by rw [nmul, nadd], pL_shr _ (by omega) (by omega), show (65535 : Int64) = pL (2 ^ 16 - 1) from rfl, pL_and 16 (by omega) (by omega), pL_i32, hone n hn]
    have f24 : nI (q1 A i n / 2 % 4) = A 24 (3 * i + n) := ntI (by omega) b3
    have f25 : nI (q1 A i n / 8 % 8) = A 25 (3 * i + n) := ntI (by omega) b4
    have f26 : nI (q1 A i n / 64) = A 26 (3 * i + n) := ntI (by omega) b5
    have f23 : nI (q1 A i n % 2) = A 23 (3 * i + n) := ntI (by omega) b2
    have or1 : decide (A 23 (3 * i + n) = 1) = !decide (A 23 (3 * i + n) = 0) := by rcases g1 with g | g <;> rw [g] <;> decide
    have pos : decide ((0 : Int32) < nI n) = decide (0 < n) := by
      rw [decide_eq_decide, Int32.lt_iff_toInt_lt, nI_toInt (by omega)]
      show (0 : Int) < n ↔ _
      omega
    refine es_Q (es_B (es_Q (es_SI (x := nI (q1 A i n)) (ee_eq (ee_X (ee_lB (ee_lS (ee_LL rfl) (ee_B ee_K (ee_B ee_K (ee_L rfl)))) ee_lK)) e7) ?_)))
    have hfld : sf_L_fieldOf [.long (pL (sk A s)), .int (nI (q1 A i n / 2 % 4))] σ = some (.inl (some (.int (ya_N A s (A 24 (3 * i + n))))), σ) := by
      rw [← f24]
      exact t_fieldOf I.1 I.2.1 hs (by omega)
    refine es_Q (es_SI (x := ya_N A s (A 24 (3 * i + n))) (ee_M (ee_aL (ee_LL rfl) (ee_aI (ee_eq (ee_Dv (ee_Dv (ee_L rfl) ee_K (by decide)) ee_K (by decide)) (y := nI (q1 A i n / 2 % 4)) ?_) ee_aN)) (ee_cr hfld rfl)) ?_)
    · show nI (q1 A i n) / nI 2 - nI (q1 A i n) / nI 2 / nI 4 * nI 4 = _
      rw [ndiv (by omega) (by omega), nmod (by omega) (by omega)]
    refine es_Q (es_SI (x := A 26 (3 * i + n)) (ee_eq (ee_Dv (ee_L rfl) ee_K (by decide)) ?_) ?_)
    · show nI (q1 A i n) / nI 64 = _
      rw [ndiv (by omega) (by omega), f26]
    refine es_Q (es_SI (x := A 25 (3 * i + n)) (ee_eq (ee_Dv (ee_Dv (ee_L rfl) ee_K (by decide)) ee_K (by decide)) ?_) ?_)
    · show nI (q1 A i n) / nI 8 - nI (q1 A i n) / nI 8 / nI 8 * nI 8 = _
      rw [ndiv (by omega) (by omega), nmod (by omega) (by omega), f25]
    refine es_Q (es_SI (x := ya_b (ya_met (A 25 (3 * i + n)) (ya_N A s (A 24 (3 * i + n))) (A 26 (3 * i + n)))) (ee_eq (ee_iQ (ee_cB (ee_L rfl) ee_K) (fun _ => ee_iC (ee_cB (ee_L rfl) (ee_L rfl))) (fun _ => ee_iQ (ee_cB (ee_L rfl) ee_K) (fun _ => ee_iC (ee_cB (ee_L rfl) (ee_L rfl))) (fun _ => ee_iQ (ee_cB (ee_L rfl) ee_K) (fun _ => ee_iC (ee_cB (ee_L rfl) (ee_L rfl))) (fun _ => ee_iQ (ee_cB (ee_L rfl) ee_K) (fun _ => ee_iC (ee_cB (ee_L rfl) (ee_L rfl))) (fun _ => ee_iQ (ee_cB (ee_L rfl) ee_K) (fun _ => ee_iC (ee_cB (ee_L rfl) (ee_L rfl))) (fun _ => ee_iC (ee_cB (ee_L rfl) (ee_L rfl)))))))) ?_) ?_)
    · unfold ya_met
      simp only [decide_eq_true_eq]
      split
      · rfl
      · split
        · rfl
        · split
          · rfl
          · split
            · rfl
            · split <;> rfl
    refine es_Q (es_SI (x := ya_b (ls.1 || ((decide (0 < n) && !decide (A 23 (3 * i + n) = 0)) && ls.2))) (ee_iC (ee_cO (ee_cb (ee_L rfl)) (fun _ => ee_cA (x := decide (0 < n) && !decide (A 23 (3 * i + n) = 0)) (ee_cA (ee_eq (ee_cB (ee_L rfl) ee_K) pos) (fun _ => ee_eq (ee_cB (ee_eq (ee_Dv (ee_L rfl) ee_K (by decide)) (y := A 23 (3 * i + n)) ?_) ee_K) or1)) (fun _ => ee_cb (ee_L rfl))))) ?_)
    · show nI (q1 A i n) - nI (q1 A i n) / nI 2 * nI 2 = _
      rw [nmod (by omega) (by omega), f23]
    refine es_SI (x := ya_b ((if decide (0 < n) && !(!decide (A 23 (3 * i + n) = 0)) then ls.2 else true) && ya_met (A 25 (3 * i + n)) (ya_N A s (A 24 (3 * i + n))) (A 26 (3 * i + n)))) (ee_iC (ee_cA (ee_cQ (ee_cA (x := decide (0 < n)) (y := !(!decide (A 23 (3 * i + n) = 0))) (ee_eq (ee_cB (ee_L rfl) ee_K) pos) (fun _ => ee_eq (ee_cB (ee_eq (ee_Dv (ee_L rfl) ee_K (by decide)) (y := A 23 (3 * i + n)) ?_) ee_K) (Bool.not_not _).symm)) (fun _ => ee_cb (ee_L rfl)) (fun _ => rfl)) (fun _ => ee_cb (ee_L rfl)))) ?_
    · show nI (q1 A i n) - nI (q1 A i n) / nI 2 * nI 2 = _
      rw [nmod (by omega) (by omega), f23]
    refine es_In rfl ?_
    rw [hsucc]
    exact congrArg (fun z => k' [.long (pL (sk A s)), .null, .long (pL (qh A i)), .null, .int (ya_b (ls.1 || ((decide (0 < n) && !decide (A 23 (3 * i + n) = 0)) && ls.2))), .int (ya_b ((if decide (0 < n) && !(!decide (A 23 (3 * i + n) = 0)) then ls.2 else true) && ya_met (A 25 (3 * i + n)) (ya_N A s (A 24 (3 * i + n))) (A 26 (3 * i + n)))), .int z] σ) (nadd (a := n) (b := 1))
  · exact ee_eq (hc _ (Nat.le_refl _) _ _) (decide_eq_false (by omega))
  · refine es_eZb (ee_iC (ee_cO (ee_cb (ee_L rfl)) (fun _ => ee_cb (ee_L rfl))))
end LA8
