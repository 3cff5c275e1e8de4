section LA36
variable {A B σ τ : sy_Mem} {t v d n f m : Nat} {ty key p here : Int32}
abbrev eIn (v : Nat) : List Value := [.ref 0, .ref 44, .ref 45, .ref 46, .ref 47, .ref 48, .ref 49, .ref 50, .ref 51, .ref 52, .int (nI v)]
abbrev eI2 (v d : Nat) (h x g : Int32) : List Value := eIn v ++ [.int (nI d), .ref (45 + d), .int h, .int x, .int g]
def LIs : sy_S := (sy_sQ (sy_sSI 11 (sy_iDv false (sy_iA 0 (sy_rL 8) (sy_iL 10)) (sy_iK 4))) (sy_sQ (sy_sSR 12 (sy_rM (sy_cr 4 sf_L_row) (sy_aI (sy_iL 11) (sy_aR (sy_rL 2) (sy_aR (sy_rL 3) (sy_aR (sy_rL 4) sy_aN)))))) (sy_sQ (sy_sSI 13 (sy_iM (sy_cr 2 sf_L_place) (sy_aR (sy_rL 0) (sy_aI (sy_iL 10) sy_aN)))) (sy_sQ (sy_sSI 14 (sy_iSub (sy_iA 0 (sy_rL 9) (sy_iK 1)) (sy_iK 1))) (sy_sQ (sy_sB 15 (sy_sQ (sy_sSI 15 (sy_iSub (sy_iA 0 (sy_rL 9) (sy_iK 1)) (sy_iK 1))) (sy_wh (sy_cge (sy_iL 15) (sy_iK 0)) (sy_sQ (sy_sSI 14 (sy_iQ (sy_ceq (sy_iDv false (sy_iDv true (sy_iA 0 (sy_rL 6) (sy_iL 15)) (sy_iK 16)) (sy_iK 2)) (sy_iK 1)) (sy_iL 15) (sy_iL 14))) (sy_sIn 15 (-1))) 1000))) (sy_sQ (sy_sSI 15 (sy_iC (sy_cA (sy_cgt (sy_iA 0 (sy_rL 9) (sy_iK 1)) (sy_iK 0)) (sy_cI (sy_iM (sy_cr 4 sf_L_isList) (sy_aR (sy_rL 1) (sy_aR (sy_rL 6) (sy_aR (sy_rL 9) (sy_aI (sy_iA 0 (sy_rL 8) (sy_iL 10)) sy_aN))))))))) (sy_sQ (sy_sB 16 (sy_sQ (sy_sSI 16 (sy_iL 14)) (sy_wh (sy_cA (sy_clt (sy_iL 16) (sy_iA 0 (sy_rL 9) (sy_iK 1))) (sy_cI (sy_iL 15))) (sy_sQ (sy_sSI 15 (sy_iC (sy_cA (sy_cLe (sy_lA (sy_rL 7) (sy_iL 16)) (sy_lK 0)) (sy_cO (sy_ceq (sy_iL 16) (sy_iK 0)) (sy_ceq (sy_iM (sy_cr 2 sf_L_above) (sy_aR (sy_rL 1) (sy_aI (sy_iDv false (sy_iA 0 (sy_rL 6) (sy_iL 16)) (sy_iK 16)) sy_aN))) (sy_iDv false (sy_iA 0 (sy_rL 6) (sy_iSub (sy_iL 16) (sy_iK 1))) (sy_iK 16))))))) (sy_sIn 16 1)) 1000))) (sy_sQ (sy_sSI 16 (sy_iQ (sy_cI (sy_iL 15)) (sy_iK 0) (sy_iK 4))) (sy_sQ (sy_sSI 17 (sy_iQ (sy_cI (sy_iL 15)) (sy_iDv false (sy_iA 0 (sy_rL 6) (sy_iL 14)) (sy_iK 16)) (sy_iK 0))) (sy_sQ (sy_sSI 18 (sy_iK (-1))) (sy_sI (sy_cA (sy_cI (sy_iL 15)) (sy_cge (sy_iM (sy_cr 2 sf_L_above) (sy_aR (sy_rL 1) (sy_aI (sy_iL 17) sy_aN))) (sy_iK 0))) (sy_sQ (sy_sSI 18 (sy_iQ (sy_cA (sy_ceq (sy_iL 14) (sy_iK 0)) (sy_cge (sy_iL 13) (sy_iK 0))) (sy_iM (sy_cr 4 sf_L_among) (sy_aR (sy_rL 1) (sy_aR (sy_rL 12) (sy_aI (sy_iL 13) (sy_aI (sy_iM (sy_cr 2 sf_L_above) (sy_aR (sy_rL 1) (sy_aI (sy_iL 17) sy_aN))) sy_aN))))) (sy_iK (-1)))) (sy_sQ (sy_sB 19 (sy_sQ (sy_sSI 19 (sy_iK 0)) (sy_wh (sy_cA (sy_cA (sy_clt (sy_iL 19) (sy_iA 0 (sy_rL 5) (sy_iL 11))) (sy_cgt (sy_iL 14) (sy_iK 0))) (sy_clt (sy_iL 18) (sy_iK 0))) (sy_sQ (sy_sSI 18 (sy_iQ (sy_cI (sy_iM (sy_cr 9 sf_L_right) (sy_aR (sy_rL 1) (sy_aR (sy_rL 12) (sy_aI (sy_iA 0 (sy_rL 5) (sy_iL 11)) (sy_aR (sy_rL 6) (sy_aR (sy_rL 7) (sy_aI (sy_iL 14) (sy_aI (sy_iA 0 (sy_rL 8) (sy_iL 10)) (sy_aI (sy_iL 13) (sy_aI (sy_iL 19) sy_aN))))))))))) (sy_iL 19) (sy_iL 18))) (sy_sIn 19 1)) 1000))) (sy_sSI 16 (sy_iQ (sy_clt (sy_iL 18) (sy_iK 0)) (sy_iK 7) (sy_iK 0))))) sy_sN)))))))))))
/-- what the law knows ahead of an insert -/
def IH (t v d : Nat) (A σ : sy_Mem) : Prop := (yn_I t A ∧ TT A σ ∧ RW A σ ∧ QQ A σ) ∧ (v < 4 ∧ d < 3) ∧ σ 51 v = nI (vn A v) ∧ vn A v % 4 = d ∧ A (sy_vw v) 0 = nI d ∧ yL σ (ya_here σ v) = yL A (ya_here A v) ∧ ∀ s f, ya_slot σ s f = ya_slot A s f
theorem lsN_is (I : yn_I t A) : A 19 0 = nI (lsN A) ∧ lsN A ≤ 4 ∧ (A 19 0).toNatClampNeg = lsN A ∧ (lsN A : Int) = (A 19 0).toInt := by
  have h4 := yg_n19 I
  have h0 := I.2.2.2.2.2.2.1
  have hn : lsN A = (A 19 0).toInt.toNat := rfl
  refine ⟨(ntI (by omega) (by omega)).symm, by omega, ?_, by omega⟩
  rw [yi_clampInt]
/-- the first new one -/
def fsN (A : sy_Mem) (a : Nat) : Int32 := (ya_ff (fun i => ya_code A (nI i) 1) (lsN A - a) a).elim (nI (lsN A) - 1) (fun i => nI i)
theorem fsN_S {a : Nat} (h : a < lsN A) : fsN A a = if ya_code A (nI a) 1 then nI a else fsN A (a + 1) := by
  unfold fsN
  rw [show lsN A - a = (lsN A - (a + 1)) + 1 by omega]
  conv => lhs; unfold ya_ff
  cases ya_code A (nI a) 1 <;> rfl
theorem fsN_f (I : yn_I t A) (h : 0 < lsN A) : fsN A 0 = nI (ya_first A) := by
  obtain ⟨e1, e2, e3, -⟩ := lsN_is I
  unfold fsN ya_first
  rw [e3, Nat.sub_zero]
  cases hf : ya_ff (fun i => ya_code A (nI i) 1) (lsN A) 0 with
  | none => exact nsub (b := 1) h
  | some i => rfl
def newP (A : sy_Mem) (i : Nat) : Bool := decide (pL (qh A i) = 0) && (decide (nI i = 0) || decide (tP A (A 20 i) = A 20 (i - 1)))
theorem qh_0 (I : yn_I t A) (Q : QQ A σ) {i : Nat} (hi : i < lsN A) : decide (pL (qh A i) = 0) = decide (A 22 i = 0) := by
  obtain ⟨n1, n2, n3, n4⟩ := lsN_is I
  have h0 := I.2.2.2.2.2.2.1
  have hc := (I.2.2.2.2.2.2.2.1 i (by omega)).2.2.1
  obtain ⟨q1, q2, q3⟩ := Q.2 i hi
  obtain ⟨k1, k2, k3⟩ := qh_is (A := A) (i := i) (by show (A 22 i).toInt.toNat ≤ 3; omega) q3
  rw [decide_eq_decide]
  constructor
  · intro e
    have e2 : qh A i = 0 := pL_inj (by omega) (by omega) (e.trans rfl)
    rw [e2] at k2
    have : (A 22 i).toInt = 0 := by
      have : (A 22 i).toInt.toNat = 0 := k2.symm
      omega
    exact yi_ext (by rw [this]; rfl)
  · intro e
    have e2 : qc A i = 0 := by
      show (A 22 i).toInt.toNat = 0
      rw [e]
      rfl
    have : qh A i = 0 := by
      unfold qh
      rw [e2]
      rfl
    rw [this]
    rfl
theorem new_is (I : yn_I t A) (Q : QQ A σ) (hf : f < lsN A) : (ya_ff (fun i => !newP A i) (lsN A - f) f).isNone = ya_X5_areNewOnesOrdered A f := by
  obtain ⟨n1, n2, n3, n4⟩ := lsN_is I
  have h0 := I.2.2.2.2.2.2.1
  have hE : ∀ i, i < lsN A → (newP A i = true ↔ (ya_ag A 22 0 (nI i) = 0 ∧ (i = 0 ∨ tP A (ya_ag A 20 (-1) (nI i)) = ya_ag A 20 (-1) (nI (i - 1))))) := fun i hi => by
    unfold newP
    rw [qh_0 I Q hi, ag_nI I hi, ag_nI I hi, ag_nI I (show i - 1 < lsN A by omega), Bool.and_eq_true, Bool.or_eq_true, decide_eq_true_eq, decide_eq_true_eq, decide_eq_true_eq]
    refine and_congr Iff.rfl (or_congr ⟨fun e => ?_, fun e => by rw [e]; rfl⟩ Iff.rfl)
    have := congrArg Int32.toInt e
    rw [nI_toInt (by omega)] at this
    have h : ((0 : Int32).toInt) = 0 := rfl
    omega
  rw [Bool.eq_iff_iff, ya_areNew I (by omega), Option.isNone_iff_eq_none, ya_ff_none]
  constructor
  · intro h i hi hi2
    have := h i hi (by omega)
    exact (hE i (by omega)).mp (by simpa using this)
  · intro h i hi hi2
    have := (hE i (by omega)).mpr (h i hi (by omega))
    rw [this]
    rfl
/-- up to whether the list is good -/
theorem ins_pre1 (H : IH t v d A σ) : ∃ x : Int32, (ig A v = true → x = nI (ya_first A)) ∧ ∀ k r, (sy_sQ (sy_sSI 16 (sy_iQ (sy_cI (sy_iL 15)) (sy_iK 0) (sy_iK 4))) (sy_sQ (sy_sSI 17 (sy_iQ (sy_cI (sy_iL 15)) (sy_iDv false (sy_iA 0 (sy_rL 6) (sy_iL 14)) (sy_iK 16)) (sy_iK 0))) (sy_sQ (sy_sSI 18 (sy_iK (-1))) (sy_sI (sy_cA (sy_cI (sy_iL 15)) (sy_cge (sy_iM (sy_cr 2 sf_L_above) (sy_aR (sy_rL 1) (sy_aI (sy_iL 17) sy_aN))) (sy_iK 0))) (sy_sQ (sy_sSI 18 (sy_iQ (sy_cA (sy_ceq (sy_iL 14) (sy_iK 0)) (sy_cge (sy_iL 13) (sy_iK 0))) (sy_iM (sy_cr 4 sf_L_among) (sy_aR (sy_rL 1) (sy_aR (sy_rL 12) (sy_aI (sy_iL 13) (sy_aI (sy_iM (sy_cr 2 sf_L_above) (sy_aR (sy_rL 1) (sy_aI (sy_iL 17) sy_aN))) sy_aN))))) (sy_iK (-1)))) (sy_sQ (sy_sB 19 (sy_sQ (sy_sSI 19 (sy_iK 0)) (sy_wh (sy_cA (sy_cA (sy_clt (sy_iL 19) (sy_iA 0 (sy_rL 5) (sy_iL 11))) (sy_cgt (sy_iL 14) (sy_iK 0))) (sy_clt (sy_iL 18) (sy_iK 0))) (sy_sQ (sy_sSI 18 (sy_iQ (sy_cI (sy_iM (sy_cr 9 sf_L_right) (sy_aR (sy_rL 1) (sy_aR (sy_rL 12) (sy_aI (sy_iA 0 (sy_rL 5) (sy_iL 11)) (sy_aR (sy_rL 6) (sy_aR (sy_rL 7) (sy_aI (sy_iL 14) (sy_aI (sy_iA 0 (sy_rL 8) (sy_iL 10)) (sy_aI (sy_iL 13) (sy_aI (sy_iL 19) sy_aN))))))))))) (sy_iL 19) (sy_iL 18))) (sy_sIn 19 1)) 1000))) (sy_sSI 16 (sy_iQ (sy_clt (sy_iL 18) (sy_iK 0)) (sy_iK 7) (sy_iK 0))))) sy_sN)))) (eI2 v d (yL A (ya_here A v)) x (ya_b (ig A v))) k σ = r → LIs (eIn v) k σ = r := by
  obtain ⟨⟨I, T, R, Q⟩, ⟨hv, hd⟩, V, hvd, hD, hH, hS⟩ := H
  obtain ⟨n1, n2, n3, n4⟩ := lsN_is I
  have hn : ∀ env : List Value, env[9]? = some (.ref 52) → sy_iA 0 (sy_rL 9) (sy_iK 1) env σ = some (.inl (nI (lsN A)), σ) := fun env h => by
    rw [← Q.1]
    exact ee_An (j := 1) (ee_R h) ee_K (by decide) (by decide)
  have hvn : ∀ env : List Value, env[8]? = some (.ref 51) → env[10]? = some (.int (nI v)) → sy_iA 0 (sy_rL 8) (sy_iL 10) env σ = some (.inl (nI (vn A v)), σ) := fun env h h2 => by
    rw [← V]
    exact ee_An (j := v) (ee_R h) (ee_L h2) (show v < 4 from hv) (by decide)
  have hvb := (vn_is I hv).1
  refine ⟨fsN A 0, fun hg => ?_, fun k r hk => ?_⟩
  · unfold ig at hg
    rw [Bool.and_eq_true, decide_eq_true_eq] at hg
    exact fsN_f I hg.1
  unfold LIs
  refine es_Q (es_SI (ee_eq (ee_Dv (hvn _ rfl rfl) ee_K (by decide)) (show _ = nI d by rw [← hvd]; exact nmod (a := vn A v) (b := 4) (by omega) (by omega))) ?_)
  refine es_Q (es_SR (ee_rM (ee_aI (ee_L rfl) (ee_aR (ee_R rfl) (ee_aR (ee_R rfl) (ee_aR (ee_R rfl) ee_aN)))) (ee_cr (t_row hd) rfl)) ?_)
  refine es_Q (es_SI (ee_eq (c_place CP_self hv (ee_R rfl) (ee_L rfl)) hH) ?_)
  have eN : fsN A (lsN A) = nI (lsN A) - 1 := by
    unfold fsN
    rw [Nat.sub_self]
    rfl
  refine es_Q (es_SI (ee_eq (ee_B (hn _ rfl) ee_K) eN.symm) ?_)
  refine es_Q (es_B (es_Q (es_SI (ee_B (hn _ rfl) ee_K) ?_)))
  refine Eq.trans (ks_wh (E := fun j => eIn v ++ [.int (nI d), .ref (45 + d), .int (yL A (ya_here A v)), .int (fsN A (lsN A - j)), .int (nI (lsN A - j) - 1)]) (S := fun _ => σ) (N := lsN A) (fun j hj => ⟨?_, fun k' => ?_⟩) ?_ (lsN A) 0 1000 (by omega) (by omega)) ?_
  · refine ee_eq (ee_cB (ee_L rfl) ee_K) ?_
    rw [nI_sub1 (by omega) (by omega)]
    exact ge0 (by omega)
  · obtain ⟨a, ha⟩ : ∃ a, a = lsN A - (j + 1) := ⟨_, rfl⟩
    have e1 : nI (lsN A - j) - 1 = nI a := by
      rw [nI_sub1 (by omega) (by omega), ha]
      rfl
    have haN : a < lsN A := by omega
    have e2 : lsN A - j = a + 1 := by omega
    show sy_sQ _ _ (eIn v ++ [.int (nI d), .ref (45 + d), .int (yL A (ya_here A v)), .int (fsN A (lsN A - j)), .int (nI (lsN A - j) - 1)]) k' σ = k' (eIn v ++ [.int (nI d), .ref (45 + d), .int (yL A (ya_here A v)), .int (fsN A (lsN A - (j + 1))), .int (nI (lsN A - (j + 1)) - 1)]) σ
    rw [e1, e2, ← ha]
    refine es_Q (es_SI (ee_eq (ee_iQ (ev_q0 I haN (Q.2 a haN).1 (ee_R rfl) (ee_L rfl)).2.1 (fun _ => ee_L rfl) (fun _ => ee_L rfl)) (fsN_S haN).symm) (es_In rfl ?_))
    exact congrArg (fun z => k' (eIn v ++ [.int (nI d), .ref (45 + d), .int (yL A (ya_here A v)), .int (fsN A a), .int z]) σ) (ndm (nI a)).symm
  · refine ee_eq (ee_cB (ee_L rfl) ee_K) ?_
    rw [Nat.sub_self]
    rfl
  show (sy_sQ _ _) (eIn v ++ [.int (nI d), .ref (45 + d), .int (yL A (ya_here A v)), .int (fsN A (lsN A - lsN A))]) k σ = r
  rw [Nat.sub_self]
  -- good
  refine es_Q (es_SI (ee_iC (ee_cA (ee_eq (ee_cB (hn _ rfl) ee_K) (show decide ((0 : Int32) < nI (lsN A)) = decide (0 < lsN A) from nI_gt0 (by omega))) (fun _ => ee_cb (c := ya_X5_isListOrdered A v) (ee_M (ee_aR (ee_R rfl) (ee_aR (ee_R rfl) (ee_aR (ee_R rfl) (ee_aI (hvn _ rfl rfl) ee_aN)))) (ee_cr (t_isList I T Q hv) rfl))))) ?_)
  refine es_Q (es_B (es_Q (es_SI (ee_L rfl) ?_)))
  rcases Nat.eq_zero_or_pos (lsN A) with h0 | h0
  · have eg : ig A v = false := by
      unfold ig
      rw [h0]
      rfl
    rw [eg] at hk
    rw [h0]
    refine Eq.trans (ks_wh (E := fun _ => eI2 v d (yL A (ya_here A v)) (fsN A 0) (ya_b false) ++ [.int (fsN A 0)]) (S := fun _ => σ) (N := 0) (fun j hj => absurd hj (by omega)) ?_ 0 0 1000 (by omega) (by omega)) hk
    have e0 : fsN A 0 = -1 := by
      unfold fsN
      rw [h0]
      rfl
    rw [e0]
    exact ee_cA (ee_cB (ee_L rfl) (hn _ rfl)) (fun _ => ee_cb (c := false) (ee_L rfl)) |>.trans (by rw [Bool.and_false])
  · rw [fsN_f I h0] at hk ⊢
    have hff : ya_first A < lsN A := by
      have := ya_first_lt (A := A) (by rw [n3]; exact h0)
      rw [n3] at this
      exact this
    refine es_forStopA (E := fun i b => eI2 v d (yL A (ya_here A v)) (nI (ya_first A)) (ya_b b) ++ [.int (nI i)]) (P := newP A) (N := lsN A) (B := ig A v) (fun i b hi => ?_) (fun i hi k' => ?_) (fun i => ?_) (lsN A - ya_first A) (ya_first A) 1000 _ (by omega) (by omega) ?_
    · exact ee_cA (ee_eq (ee_cB (ee_L rfl) (hn _ rfl)) (nI_ltd (by omega) (by omega))) (fun _ => ee_cb (ee_L rfl))
    · have h50 := (Q.2 i hi).2.1
      have hl : ∀ env : List Value, env[7]? = some (.ref 50) → env[16]? = some (.int (nI i)) → sy_lA (sy_rL 7) (sy_iL 16) env σ = some (.inl (pL (qh A i)), σ) := fun env h1 h2 => by
        rw [← h50]
        exact ee_lA (ee_R h1) (ee_L h2) (show i < 4 by omega) (by decide)
      refine es_Q (es_SI (ee_iC (ee_cA (ee_cL (hl _ rfl rfl) ee_lK) (fun _ => ee_cO (y := decide (tP A (A 20 i) = A 20 (i - 1))) (ee_cB (ee_L rfl) ee_K) (fun hne => ?_)))) (es_In rfl ?_))
      · have hi1 : 1 ≤ i := by
          rcases Nat.eq_zero_or_pos i with e | e
          · rw [e] at hne
            exact absurd hne (by decide)
          · exact e
        exact ee_cB (ev_u I T (q_T I hi).1 (ee_R rfl) (ev_q I Q hi (ee_R rfl) (ee_L rfl)).1) (ev_q I Q (i := i - 1) (by omega) (ee_R rfl) (ee_eq (ee_B (ee_L rfl) ee_K) (nsub (b := 1) hi1))).1
      · exact congrArg (fun z => k' (eI2 v d (yL A (ya_here A v)) (nI (ya_first A)) (ya_b (newP A i)) ++ [.int z]) σ) (nadd (a := i) (b := 1))
    · exact hk
    · rw [new_is I Q hff]
      unfold ig
      rw [Bool.and_assoc]
end LA36
