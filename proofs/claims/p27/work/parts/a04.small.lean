section LA4
variable {A σ : sy_Mem} {t : Nat}
theorem ntI {x : Int32} {n : Nat} (hn : n < 2 ^ 31) (h : (n : Int) = x.toInt) : nI n = x := yi_ext (by rw [nI_toInt hn]; exact h)
theorem ntI1 {x : Int32} {n : Nat} (hn : n < 1000000) (h : (n : Int) = x.toInt + 1) : nI n - 1 = x := by
  apply yi_ext
  rw [yl_sub (by rw [nI_toInt (by omega)]; omega) (by rw [nI_toInt (by omega)]; omega) (by decide) (by decide), nI_toInt (by omega), yl_c1]
  omega
theorem t_low {x : Int32} {n : Nat} (h : 0 < n) (hn : n < 2 ^ 31) : ∃ y : Nat, y < n ∧ sf_L_low [.int x, .int (nI n)] σ = some (.inl (some (.int (nI y))), σ) := by
  have hb : 0 ≤ (x &&& 2147483647).toInt := by
    have e : (x &&& 2147483647).toBitVec.msb = false := by
      rw [Int32.toBitVec_and, BitVec.msb_and]
      have : (2147483647 : Int32).toBitVec.msb = false := by decide
      rw [this, Bool.and_false]
    have := BitVec.msb_eq_false_iff_two_mul_lt.mp e
    show 0 ≤ (x &&& 2147483647).toBitVec.toInt
    rw [BitVec.toInt_eq_toNat_of_msb e]
    omega
  have hlt := (x &&& 2147483647).toInt_lt
  have e : x &&& 2147483647 = nI (x &&& 2147483647).toInt.toNat := by
    apply yi_ext
    rw [nI_toInt (by omega)]
    omega
  refine ⟨(x &&& 2147483647).toInt.toNat % n, Nat.mod_lt _ h, ?_⟩
  have e0 : ¬ nI n = 0 := by
    intro q
    have := congrArg Int32.toInt q
    rw [nI_toInt hn] at this
    have h0 : (0 : Int32).toInt = 0 := rfl
    omega
  rw [← nmod (by omega) hn, ← e]
  exact ke_meth (es_eI (ee_Dv (ee_B (ee_L rfl) ee_K) (ee_L rfl) e0)) (Nat.le_of_ble_eq_true rfl)
theorem t_above (S : yn_S A) (T : TT A σ) {ty : Int32} (h : ya_isT A ty = true) : sf_L_above [.ref 44, .int ty] σ = some (.inl (some (.int (tP A ty))), σ) := by
  obtain ⟨i, rfl, h12, hi⟩ := isT_nI S h
  obtain ⟨q0, q1, q2, q3, q4, q5, q6, q7, q8⟩ := tn_is S T hi
  have e : nI (tn A i / 4 % 16) - 1 = tP A (nI i) := by
    rw [show tP A (nI i) = A 3 i from tg_nI S hi]
    exact ntI1 (by omega) q2
  rw [← e, ← nmod (by omega) (by omega), ← ndiv q0 (by omega), ← (T i hi).1]
  exact ke_meth (es_eI (ee_B (ee_Dv (ee_Dv (ee_An (ee_R rfl) (ee_L rfl) h12 (by decide)) ee_K (by decide)) ee_K (by decide)) ee_K)) (Nat.le_of_ble_eq_true rfl)
theorem t_target (S : yn_S A) (T : TT A σ) {ty : Int32} (h : ya_isT A ty = true) : sf_L_target [.ref 44, .int ty] σ = some (.inl (some (.int (tG A ty))), σ) := by
  obtain ⟨i, rfl, h12, hi⟩ := isT_nI S h
  obtain ⟨q0, q1, q2, q3, q4, q5, q6, q7, q8⟩ := tn_is S T hi
  have e : nI (tn A i / 8192 % 16) - 1 = tG A (nI i) := by
    rw [show tG A (nI i) = A 7 i from tg_nI S hi]
    exact ntI1 (by omega) q6
  rw [← e, ← nmod (by omega) (by omega), ← ndiv q0 (by omega), ← (T i hi).1]
  exact ke_meth (es_eI (ee_B (ee_Dv (ee_Dv (ee_An (ee_R rfl) (ee_L rfl) h12 (by decide)) ee_K (by decide)) ee_K (by decide)) ee_K)) (Nat.le_of_ble_eq_true rfl)
theorem t_level (S : yn_S A) (T : TT A σ) {ty : Int32} (h : ya_isT A ty = true) : sf_L_level [.ref 44, .int ty] σ = some (.inl (some (.int (tV A ty))), σ) := by
  obtain ⟨i, rfl, h12, hi⟩ := isT_nI S h
  obtain ⟨q0, q1, q2, q3, q4, q5, q6, q7, q8⟩ := tn_is S T hi
  have e : nI (tn A i / 1024 % 8) = tV A (nI i) := by
    rw [show tV A (nI i) = A 4 i from tg_nI S hi]
    exact ntI (by omega) q5
  rw [← e, ← nmod (by omega) (by omega), ← ndiv q0 (by omega), ← (T i hi).1]
  exact ke_meth (es_eI (ee_Dv (ee_Dv (ee_An (ee_R rfl) (ee_L rfl) h12 (by decide)) ee_K (by decide)) ee_K (by decide))) (Nat.le_of_ble_eq_true rfl)
theorem t_base (S : yn_S A) (T : TT A σ) {ty : Int32} (h : ya_isT A ty = true) : sf_L_base [.ref 44, .int ty] σ = some (.inl (some (.int (tD A ty))), σ) := by
  obtain ⟨i, rfl, h12, hi⟩ := isT_nI S h
  obtain ⟨q0, q1, q2, q3, q4, q5, q6, q7, q8⟩ := tn_is S T hi
  have e : nI (tn A i % 4) = tD A (nI i) := by
    rw [show tD A (nI i) = A 2 i from tg_nI S hi]
    exact ntI (by omega) q1
  rw [← e, ← nmod (by omega) (by omega), ← (T i hi).1]
  exact ke_meth (es_eI (ee_Dv (ee_An (ee_R rfl) (ee_L rfl) h12 (by decide)) ee_K (by decide))) (Nat.le_of_ble_eq_true rfl)
/-- t[type] / a % b, as it stands in the law's expressions -/
theorem t_at (S : yn_S A) (T : TT A σ) {ty : Int32} (h : ya_isT A ty = true) {env : List Value} {e : sy_IE} {r : sy_RE} (hr : r env σ = some (.inl 44, σ)) (he : e env σ = some (.inl ty, σ)) {a b : Nat} (ha : 0 < a ∧ a < 2 ^ 31) (hb : 0 < b ∧ b < 2 ^ 31) : sy_iDv false (sy_iDv true (sy_iA 0 r e) (sy_iK (nI a))) (sy_iK (nI b)) env σ = some (.inl (nI (tn A ty.toInt.toNat / a % b)), σ) := by
  obtain ⟨i, rfl, h12, hi⟩ := isT_nI S h
  obtain ⟨q0, -⟩ := tn_is S T hi
  have ei : (nI i).toInt.toNat = i := by rw [nI_toInt (by omega)]; omega
  have hd : tn A i / a ≤ tn A i := Nat.div_le_self _ _
  rw [ei, ← nmod (by omega) hb.2, ← ndiv q0 ha.2, ← (T i hi).1]
  have nz : ∀ c : Nat, 0 < c ∧ c < 2 ^ 31 → ¬ nI c = 0 := fun c hc q => by
    have := congrArg Int32.toInt q
    rw [nI_toInt hc.2] at this
    have h0 : (0 : Int32).toInt = 0 := rfl
    omega
  exact ee_Dv (ee_Dv (ee_An hr he h12 (by decide)) ee_K (nz a ha)) ee_K (nz b hb)
theorem t_keys (S : yn_S A) (T : TT A σ) {ty : Int32} (h : ya_isT A ty = true) : ((tn A ty.toInt.toNat / 64 % 4 : Nat) : Int) = (tK A ty).toInt ∧ ((tn A ty.toInt.toNat / 256 % 4 : Nat) : Int) = (tR A ty).toInt ∧ ((tn A ty.toInt.toNat / 131072 % 2 : Nat) : Int) = (tC A ty).toInt ∧ ((tn A ty.toInt.toNat / 262144 % 4 : Nat) : Int) = (tO A ty).toInt := by
  obtain ⟨i, rfl, h12, hi⟩ := isT_nI S h
  obtain ⟨q0, q1, q2, q3, q4, q5, q6, q7, q8⟩ := tn_is S T hi
  have ei : (nI i).toInt.toNat = i := by rw [nI_toInt (by omega)]; omega
  rw [ei, show tK A (nI i) = A 5 i from tg_nI S hi, show tR A (nI i) = A 6 i from tg_nI S hi, show tC A (nI i) = A 8 i from tg_nI S hi, show tO A (nI i) = A 9 i from tg_nI S hi]
  exact ⟨q3, q4, q7, q8⟩
-- a segment's numbers
theorem N_in (G : yn_G A) {s f : Int32} (h : yl A s) (hf : 0 ≤ f.toInt ∧ f.toInt < 3) : 0 ≤ (ya_N A s f).toInt ∧ (ya_N A s f).toInt ≤ 999 := by
  have h60 := yl_in h
  rw [ya_N_in h60 hf]
  refine G.2 _ ?_
  have e1 : s.toNatClampNeg = s.toInt.toNat := rfl
  have e2 : f.toNatClampNeg = f.toInt.toNat := rfl
  omega
theorem T_lt (S : yn_S A) (G : yn_G A) {s : Int32} (h : yl A s) : 0 ≤ (yT A s).toInt ∧ (yT A s).toInt < 12 := by
  have h1 := yl_isT.mp (G.1 s h).1
  have := S.1.2
  omega
theorem sk_lt (S : yn_S A) (G : yn_G A) {s : Int32} (h : yl A s) : sk A s < 2 ^ 34 := by
  have h0 := T_lt S G h
  have h1 := N_in G h (f := 0) (by decide)
  have h2 := N_in G h (f := 1) (by decide)
  have h3 := N_in G h (f := 2) (by decide)
  exact pq_lt (by omega) (by omega) (by omega) (by omega)
theorem t_typeOf (S : yn_S A) (G : yn_G A) {s : Int32} (h : yl A s) : sf_L_typeOf [.long (pL (sk A s))] σ = some (.inl (some (.int (yT A s))), σ) := by
  have h0 := T_lt S G h
  have hlt := sk_lt S G h
  have e : (pL (sk A s) &&& 15).toInt32 = yT A s := by
    rw [show (15 : Int64) = pL (2 ^ 4 - 1) from rfl, pL_and 4 (by omega) (by omega), pL_i32]
    unfold sk
    rw [pq_t (by omega)]
    exact ntI (by omega) (by omega)
  rw [← e]
  exact ke_meth (es_eI (ee_X (ee_lB (ee_LL rfl) ee_lK))) (Nat.le_of_ble_eq_true rfl)
theorem t_fieldOf (S : yn_S A) (G : yn_G A) {s : Int32} (h : yl A s) {f : Nat} (hf : f < 3) : sf_L_fieldOf [.long (pL (sk A s)), .int (nI f)] σ = some (.inl (some (.int (ya_N A s (nI f)))), σ) := by
  have h0 := T_lt S G h
  have hlt := sk_lt S G h
  have h1 := N_in G h (f := 0) (by decide)
  have h2 := N_in G h (f := 1) (by decide)
  have h3 := N_in G h (f := 2) (by decide)
  obtain ⟨p1, p2, p3⟩ := pq_f (t := (yT A s).toInt.toNat) (k := (ya_N A s 0).toInt.toNat) (f := (ya_N A s 1).toInt.toNat) (g := (ya_N A s 2).toInt.toNat) (by omega) (by omega) (by omega) (by omega)
  have ef : nI 4 + nI 10 * nI f = nI (4 + 10 * f) := by rw [nmul, nadd]
  have e : ((pL (sk A s) >>> ((nI 4 + nI 10 * nI f).toInt64 &&& 63)) &&& 1023).toInt32 = ya_N A s (nI f) := by
    have hd : sk A s / 2 ^ (4 + 10 * f) ≤ sk A s := Nat.div_le_self _ _
    rw [ef, pL_shr _ (by omega) (by omega), show (1023 : Int64) = pL (2 ^ 10 - 1) from rfl, pL_and 10 (by omega) (by omega), pL_i32]
    rcases (show f = 0 ∨ f = 1 ∨ f = 2 by omega) with rfl | rfl | rfl
    · exact ntI (by omega) (by show ((sk A s / 2 ^ 4 % 2 ^ 10 : Nat) : Int) = _; unfold sk; rw [p1]; show _ = (ya_N A s 0).toInt; omega)
    · exact ntI (by omega) (by show ((sk A s / 2 ^ 14 % 2 ^ 10 : Nat) : Int) = _; unfold sk; rw [p2]; show _ = (ya_N A s 1).toInt; omega)
    · exact ntI (by omega) (by show ((sk A s / 2 ^ 24 % 2 ^ 10 : Nat) : Int) = _; unfold sk; rw [p3]; show _ = (ya_N A s 2).toInt; omega)
  rw [← e]
  exact ke_meth (es_eI (ee_X (ee_lB (ee_lS (ee_LL rfl) (ee_B ee_K (ee_B ee_K (ee_L rfl)))) ee_lK))) (Nat.le_of_ble_eq_true rfl)
theorem t_row {d : Nat} (hd : d < 3) : sf_L_row [.int (nI d), .ref 45, .ref 46, .ref 47] σ = some (.inl (some (.ref (45 + d))), σ) := by
  rcases (show d = 0 ∨ d = 1 ∨ d = 2 by omega) with rfl | rfl | rfl <;> rfl
end LA4
