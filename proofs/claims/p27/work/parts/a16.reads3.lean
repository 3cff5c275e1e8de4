section LA16
variable {A σ : sy_Mem} {t : Nat}
theorem es_eZv {e : sy_IE} {b : Bool} {σ1 : sy_Mem} {env : List Value} {k : List Value → sy_MM (Option Value)} (h : e env σ = some (.inl (ya_b b), σ1)) : sy_eZ e env k σ = some (.inl (some (.int (ya_b b))), σ1) := by
  unfold sy_eZ
  rw [sy_bnd_at h]
  cases b <;> rfl
theorem rP_48 {d : Nat} (hd : d < 3) (p : Nat) : rP A σ d p 48 = σ 48 := rP_ne (by omega) p
theorem rP_CP (h : CP A σ) {d : Nat} : ∀ p, CP A (rP A σ d p) := fun p k hk => by
  rw [rP_ne (by omega)]
  exact h k hk
theorem rB_CP (h : CP A σ) : ∀ d, d ≤ 3 → CP A (rB A σ d) := fun d hd k hk => by
  rw [rB_ne (by omega) d hd]
  exact h k hk
theorem rP_TT (h : TT A σ) {d : Nat} (p : Nat) : TT A (rP A σ d p) := fun i hi => by
  rw [rP_ne (by omega)]
  exact h i hi
theorem rB_TT (h : TT A σ) : ∀ d, d ≤ 3 → TT A (rB A σ d) := fun d hd i hi => by
  rw [rB_ne (by omega) d hd]
  exact h i hi
theorem cn_sum (I : yn_I t A) : cn A 0 + cn A 1 + cn A 2 ≤ 60 ∧ (A 10 9).toInt = (cn A 0 + cn A 1 + cn A 2 : Nat) := by
  have h0 := I.2.2.1.1 0 (by omega)
  have h1 := I.2.2.1.1 1 (by omega)
  have h2 := I.2.2.1.1 2 (by omega)
  have h3 := I.2.2.1.2.1
  unfold cn
  omega
theorem place_no (I : yn_I t A) {d : Nat} (hd : d < 3) : ya_X5_isPlace A (nI d) (nI (cn A d)) = false := by
  have h60 := cn_le I hd
  unfold ya_X5_isPlace
  rw [(cnt_nI I hd).1, nI_ltd (by omega) (by omega), decide_eq_false (Nat.lt_irrefl _), Bool.and_false, Bool.and_false]
theorem t_reads (I : yn_I t A) (T : TT A σ) (h : CP A σ) : sf_L_reads [.ref 0, .ref 44, .ref 45, .ref 46, .ref 47, .ref 48] σ = some (.inl (some (.int 1)), rB A σ 3) := by
  refine ke_meth ?_ (Nat.le_of_ble_eq_true rfl)
  refine es_Q (es_B (es_Q (es_SI ee_K ?_)))
  refine Eq.trans (ks_wh (E := fun d => [.ref 0, .ref 44, .ref 45, .ref 46, .ref 47, .ref 48, .int (nI d)]) (S := fun d => rB A σ d) (N := 3) (fun d hd => ⟨ee_eq (ee_cB (ee_L rfl) ee_K) (show decide (nI d < nI 3) = true by rw [nI_ltd (by omega) (by omega)]; exact decide_eq_true hd), fun k' => ?_⟩) (ee_eq (ee_cB (ee_L rfl) ee_K) rfl) 3 0 4 rfl (by omega)) ?_
  · have h60 := cn_le I hd
    have hB := rB_CP h d (by omega)
    have TB := rB_TT T d (by omega)
    have h1 := CP_up (i := d) (v := nI (cn A d)) hB (show 44 ≤ 48 by omega)
    refine es_Q (es_B (es_Q (es_SR (ee_rM (ee_aI (ee_L rfl) (ee_aR (ee_R rfl) (ee_aR (ee_R rfl) (ee_aR (ee_R rfl) ee_aN)))) (ee_cr (t_row hd) rfl)) ?_)))
    refine es_Q (es_Wn (ee_R rfl) (ee_L rfl) (c_count I hB hd (ee_R rfl) (ee_L rfl)) (show d < 3 from hd) (by decide) ?_)
    generalize hS1 : sy_up (rB A σ d) 48 d (nI (cn A d)) = S1 at h1
    have T1 : TT A S1 := fun i hi => by
      rw [← hS1, up_ne (by omega)]
      exact TB i hi
    have h48 : ∀ i, i ≤ d → S1 48 i = nI (cn A i) := fun i hi => by
      rw [← hS1, up_at]
      by_cases e : i = d
      · rw [if_pos e, e]
      · rw [if_neg e]
        exact rB_48 d (by omega) i (by omega)
    refine es_B (es_Q (es_SI ee_K ?_))
    have hn : ∀ p, sy_iA 0 (sy_rL 5) (sy_iL 6) (eR d p) (rP A S1 d p) = some (.inl (nI (cn A d)), rP A S1 d p) := fun p => by
      have e := h48 d (Nat.le_refl _)
      rw [← rP_48 (A := A) (σ := S1) hd p] at e
      rw [← e]
      exact ee_An (ee_R rfl) (ee_L rfl) (show d < 3 from hd) (by decide)
    refine Eq.trans (ks_wh (E := fun p => eR d p) (S := fun p => rP A S1 d p) (N := cn A d) (fun p hp => ⟨ee_eq (ee_cB (ee_L rfl) (hn p)) (by rw [nI_ltd (by omega) (by omega)]; exact decide_eq_true hp), fun k2 => ?_⟩) (ee_eq (ee_cB (ee_L rfl) (hn _)) (by rw [nI_ltd (by omega) (by omega)]; exact decide_eq_false (by omega))) (cn A d) 0 61 (by omega) (by omega)) ?_
    · refine reads_step I (rP_TT T1 p) (rP_CP h1 p) hd hp (fun j hj => rP_lg p j hj) ?_ k2
      rw [rP_48 hd]
      exact h48 0 (by omega)
    · refine es_In rfl ?_
      show k' [.ref 0, .ref 44, .ref 45, .ref 46, .ref 47, .ref 48, .int (nI d + 1)] (rP A S1 d (cn A d)) = k' [.ref 0, .ref 44, .ref 45, .ref 46, .ref 47, .ref 48, .int (nI (d + 1))] (rB A σ (d + 1))
      rw [show (rB A σ (d + 1)) = rP A S1 d (cn A d) by rw [← hS1]; rfl, show nI d + 1 = nI (d + 1) from nadd (a := d) (b := 1)]
  · have hB := rB_CP h 3 (by omega)
    have R : RW A (rB A σ 3) := rB_RW
    obtain ⟨s60, -⟩ := cn_sum I
    generalize rB A σ 3 = S at hB R
    have hn : ∀ i : Nat, i < 3 → sy_iA 0 (sy_rL 5) (sy_iK (nI i)) [.ref 0, .ref 44, .ref 45, .ref 46, .ref 47, .ref 48] S = some (.inl (nI (cn A i)), S) := fun i hi => by
      rw [← (R i hi).1]
      exact ee_An (ee_R rfl) ee_K (show i < 3 from hi) (by decide)
    have r0 := h_rowAt I hB (nI 0) (nI (cn A 0))
    rw [place_no I (by omega)] at r0
    have r1 := h_rowAnew I hB (nI 1) (-1)
    have r2 := h_fieldAt I hB (nI 2) (nI (cn A 2)) 0
    rw [place_no I (by omega)] at r2
    rw [show ya_X5_isPlace A (nI 1) (-1) = false from rfl] at r1
    have e : (sy_iC (sy_cA (sy_cA (sy_cA (sy_cle (sy_iAdd (sy_iAdd (sy_iA 0 (sy_rL 5) (sy_iK 0)) (sy_iA 0 (sy_rL 5) (sy_iK 1))) (sy_iA 0 (sy_rL 5) (sy_iK 2))) (sy_iK 60)) (sy_ceq (sy_iM (sy_cr 3 sf_L_rowAt) (sy_aR (sy_rL 0) (sy_aI (sy_iK 0) (sy_aI (sy_iA 0 (sy_rL 5) (sy_iK 0)) sy_aN)))) (sy_iK (-1000001)))) (sy_ceq (sy_iM (sy_cr 3 sf_L_rowAnew) (sy_aR (sy_rL 0) (sy_aI (sy_iK 1) (sy_aI (sy_iK (-1)) sy_aN)))) (sy_iK (-1000001)))) (sy_ceq (sy_iM (sy_cr 4 sf_L_fieldAt) (sy_aR (sy_rL 0) (sy_aI (sy_iK 2) (sy_aI (sy_iA 0 (sy_rL 5) (sy_iK 2)) (sy_aI (sy_iK 0) sy_aN))))) (sy_iK (-1000001))))) [.ref 0, .ref 44, .ref 45, .ref 46, .ref 47, .ref 48] S = some (.inl (ya_b true), S) := by
      refine ee_iC (ee_eq (ee_cA (x := true) (y := true) (ee_eq (ee_cA (x := true) (y := true) (ee_eq (ee_cA (x := true) (y := true) (ee_eq (ee_cB (ee_B (ee_B (hn 0 (by omega)) (hn 1 (by omega))) (hn 2 (by omega))) ee_K) ?_) (fun _ => ee_eq (ee_cB (ee_M (ee_aR (ee_R rfl) (ee_aI ee_K (ee_aI (hn 0 (by omega)) ee_aN))) (ee_cr r0 rfl)) ee_K) rfl)) rfl) (fun _ => ee_eq (ee_cB (ee_M (ee_aR (ee_R rfl) (ee_aI ee_K (ee_aI ee_K ee_aN))) (ee_cr r1 rfl)) ee_K) rfl)) rfl) (fun _ => ee_eq (ee_cB (ee_M (ee_aR (ee_R rfl) (ee_aI ee_K (ee_aI (hn 2 (by omega)) (ee_aI ee_K ee_aN)))) (ee_cr r2 rfl)) ee_K) rfl)) rfl)
      show decide (nI (cn A 0) + nI (cn A 1) + nI (cn A 2) ≤ nI 60) = true
      rw [nadd, nadd]
      refine decide_eq_true ?_
      rw [Int32.le_iff_toInt_le, nI_toInt (by omega), nI_toInt (by omega)]
      omega
    exact es_eZv e
end LA16
