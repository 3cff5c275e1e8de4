section LA7
variable {A σ : sy_Mem} {t : Nat}
theorem tD_nI (I : yn_I t A) {ty : Int32} (h : ya_isT A ty = true) : ∃ d, d < 3 ∧ tD A ty = nI d := by
  have := (I.1.2.1 _ h).1
  refine ⟨(tD A ty).toInt.toNat, by omega, ?_⟩
  apply yi_ext
  rw [nI_toInt (by omega)]
  omega
theorem isT_12 (I : yn_I t A) {ty : Int32} (h : ya_isT A ty = true) : 0 ≤ ty.toInt ∧ ty.toInt < 12 := by
  have := yl_isT.mp h
  have := I.1.1.2
  omega
/-- roots of a type are told apart by their keys -/
theorem root_one (I : yn_I t A) {s r : Int32} (hs : yl A s) (hr : yl A r) (hT : yT A s = yT A r) (h0 : tP A (yT A s) = -1) (hk : ya_N A s 0 = ya_N A r 0) : s = r := by
  have e1 : yP A s = -1 := by
    rcases (I.2.1.1 s hs).2 with ⟨-, q⟩ | ⟨-, -, q⟩
    · exact q
    · exact absurd h0 q
  have e2 : yP A r = -1 := by
    rcases (I.2.1.1 r hr).2 with ⟨-, q⟩ | ⟨-, -, q⟩
    · exact q
    · exact absurd (hT ▸ h0) q
  have hK : tK A (yT A s) = 0 := by
    obtain ⟨-, -, -, -, -, -, g, -⟩ := I.1.2.1 _ (I.2.1.1 s hs).1
    rcases g with ⟨-, -, g⟩ | ⟨g, -⟩
    · exact g
    · rw [h0, ya_isT_m] at g
      cases g
  exact I.2.2.2.1.2.2.2.2.1 s r hs hr hT (e1.trans e2.symm) hK hk
theorem t_rootOf (I : yn_I t A) (T : TT A σ) (R : RW A σ) {ty : Int32} (h : ya_isT A ty = true) (h0 : tP A ty = -1) (key : Int32) : sf_L_rootOf [.ref 44, .ref 45, .ref 46, .ref 47, .ref 48, .int ty, .int key] σ = some (.inl (some (.int (yL A (ya_X3_rootOf A ty key)))), σ) := by
  obtain ⟨d, hd, hD⟩ := tD_nI I h
  have h60 := cn_le I hd
  have e : (ya_ff (fun i => decide (yT A (sg A d i) = ty) && decide (ya_N A (sg A d i) 0 = key)) (cn A d) 0).elim (-1) (fun i => nI i) = yL A (ya_X3_rootOf A ty key) := by
    unfold ya_X3_rootOf
    rw [if_neg (ya_isT_ne h)]
    cases hz : ya_ff (fun i => decide (A 11 i = ty) && decide (ya_N A (nI i) 0 = key)) 60 0 with
    | none =>
      have hn := ya_ff_none.mp hz
      have : ya_ff (fun i => decide (yT A (sg A d i) = ty) && decide (ya_N A (sg A d i) 0 = key)) (cn A d) 0 = none := ya_ff_none.mpr fun j _ hj => by
        obtain ⟨a1, a2, a3⟩ := sg_ok I hd (show j < cn A d by omega)
        have hin := yl_in a1
        have := hn (sg A d j).toInt.toNat (by omega) (by omega)
        have e1 : nI (sg A d j).toInt.toNat = sg A d j := by
          apply yi_ext
          rw [nI_toInt (by omega)]
          omega
        rw [← ya_sgn (A := A) (k := 11) (show (sg A d j).toInt.toNat < 60 by omega), e1] at this
        exact this
      rw [this]
      rfl
    | some z =>
      obtain ⟨-, z1, z2, -⟩ := ya_ff_some.mp hz
      rw [← ya_sgn (A := A) (k := 11) (show z < 60 by omega)] at z2
      simp only [Bool.and_eq_true, decide_eq_true_eq] at z2
      have hl : yl A (nI z) := by
        unfold yl
        rw [z2.1]
        exact ya_isT_ne h
      obtain ⟨p, p1, p2, p3⟩ := sg_of I hl hd (show tD A (yT A (nI z)) = nI d by rw [show yT A (nI z) = ty from z2.1]; exact hD)
      show _ = yL A (nI z)
      rw [p3]
      have : ya_ff (fun i => decide (yT A (sg A d i) = ty) && decide (ya_N A (sg A d i) 0 = key)) (cn A d) 0 = some p := by
        refine ya_ff_some.mpr ⟨by omega, by omega, ?_, fun j _ hj => ?_⟩
        · rw [← p2]
          simp only [Bool.and_eq_true, decide_eq_true_eq]
          exact z2
        · cases hc : (decide (yT A (sg A d j) = ty) && decide (ya_N A (sg A d j) 0 = key)) with
          | false => rfl
          | true =>
            simp only [Bool.and_eq_true, decide_eq_true_eq] at hc
            have := root_one I (sg_ok I hd (show j < cn A d by omega)).1 (sg_ok I hd p1).1 (by rw [hc.1, ← p2]; exact z2.1.symm) (by rw [hc.1]; exact h0) (by rw [hc.2, ← p2]; exact z2.2.symm)
            have := sg_inj I hd (by omega) p1 this
            omega
      rw [this]
      rfl
  rw [← e]
  refine ke_meth ?_ (Nat.le_of_ble_eq_true rfl)
  refine es_Q (es_SR (x := 45 + d) (ee_rM (ee_aI (ee_eq (ev_b I T h (ee_R rfl) (ee_L rfl)) hD) (ee_aR (ee_R rfl) (ee_aR (ee_R rfl) (ee_aR (ee_R rfl) ee_aN)))) (ee_cr (t_row hd) rfl)) ?_)
  refine es_Q (es_B (es_Q (es_SI ee_K ?_)))
  have hB : ∀ i : Nat, sy_iA 0 (sy_rL 4) (sy_iM (sy_cr 2 sf_L_base) (sy_aR (sy_rL 0) (sy_aI (sy_iL 5) sy_aN))) [.ref 44, .ref 45, .ref 46, .ref 47, .ref 48, .int ty, .int key, .ref (45 + d), .int (nI i)] σ = some (.inl (nI (cn A d)), σ) := fun i => by
    rw [← (R d hd).1]
    exact ee_An (ee_R rfl) (ee_eq (ev_b I T h (ee_R rfl) (ee_L rfl)) hD) (show d < 3 from hd) (by decide)
  have hcl : (nI (cn A d)).toNatClampNeg = cn A d := nI_clamp (by omega)
  have key2 := es_forPL (σ := σ) (b := sy_iA 0 (sy_rL 4) (sy_iM (sy_cr 2 sf_L_base) (sy_aR (sy_rL 0) (sy_aI (sy_iL 5) sy_aN)))) (s := sy_sQ (sy_sI (sy_cA (sy_ceq (sy_iM (sy_cr 1 sf_L_typeOf) (sy_aL (sy_lA (sy_rL 7) (sy_iL 8)) sy_aN)) (sy_iL 5)) (sy_ceq (sy_iM (sy_cr 2 sf_L_fieldOf) (sy_aL (sy_lA (sy_rL 7) (sy_iL 8)) (sy_aI (sy_iK 0) sy_aN))) (sy_iL 6))) (sy_eI (sy_iL 8)) sy_sN) (sy_sIn 8 1)) (E := fun i => [.ref 44, .ref 45, .ref 46, .ref 47, .ref 48, .int ty, .int key, .ref (45 + d), .int (nI i)]) (P := fun i => decide (yT A (sg A d i) = ty) && decide (ya_N A (sg A d i) 0 = key)) (B := nI (cn A d)) (a := 0) (j := 8) (R := fun i => nI i) (v := -1) (k := fun env' => sy_eI (sy_iK (-1)) (env'.take 8) (fun _ => sy_fail)) (fun i => rfl) hB (by omega) (by omega) (fun i _ hi k' => ?_) (fun _ => es_eI ee_K)
  · rw [hcl] at key2
    exact key2
  · have hi' : i < cn A d := by omega
    refine es_Q (es_I (σ1 := σ) (ee_cA (x := decide (yT A (sg A d i) = ty)) (y := decide (ya_N A (sg A d i) 0 = key)) (ee_cB (ev_t I R hd hi' (ee_R rfl) (ee_L rfl)) (ee_L rfl)) (fun _ => ee_cB (ev_f I R (f := 0) hd hi' (by omega) (ee_R rfl) (ee_L rfl) ee_K) (ee_L rfl))) (fun _ => es_eI (ee_L rfl)) (fun _ => es_N (es_In rfl ?_)))
    exact congrArg (fun z => k' [.ref 44, .ref 45, .ref 46, .ref 47, .ref 48, .int ty, .int key, .ref (45 + d), .int z] σ) (nadd (a := i) (b := 1))
end LA7
