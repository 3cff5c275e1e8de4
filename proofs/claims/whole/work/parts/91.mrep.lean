/-! the model's gathering for held ones -/
section YMg
variable {A B τ τ' : sy_Mem} {t n N v : Nat} {hl : Nat → Int32} {kp : Nat → Bool}
/-- no key would be changed -/
def ya_sk (A : sy_Mem) (hl : Nat → Int32) (kp : Nat → Bool) : Nat → Bool
  | 0 => true
  | n + 1 => if kp n = true then ya_sk A hl kp n else ya_sk A hl kp n && (decide (tK A (yT A (hl n)) = 2) || decide (ya_N A (hl n) 0 = ya_slot A (nI n) 0))
theorem ya_sk_iff : ∀ {n : Nat}, ya_sk A hl kp n = true ↔ ∀ i, i < n → kp i = false → tK A (yT A (hl i)) = 2 ∨ ya_N A (hl i) 0 = ya_slot A (nI i) 0
  | 0 => ⟨fun _ i hi => absurd hi (by omega), fun _ => rfl⟩
  | n + 1 => by
    unfold ya_sk
    have ih := ya_sk_iff (n := n)
    by_cases e : kp n = true
    · rw [if_pos e, ih]
      constructor
      · intro h i hi hk
        rcases Nat.lt_or_ge i n with q | q
        · exact h i q hk
        · rw [show i = n by omega, e] at hk
          cases hk
      · intro h i hi
        exact h i (by omega)
    · rw [if_neg e, Bool.and_eq_true, Bool.or_eq_true, decide_eq_true_eq, decide_eq_true_eq, ih]
      constructor
      · rintro ⟨h1, h2⟩ i hi hk
        rcases Nat.lt_or_ge i n with q | q
        · exact h1 i q hk
        · rw [show i = n by omega]
          exact h2
      · intro h
        exact ⟨fun i hi => h i (by omega), h n (by omega) (by simpa using e)⟩
theorem ya_sk_wck (I : yn_I t A) (hv : v < 4) : ya_X5_wouldChangeKey A v = !ya_sk A (fun i => ya_held A v (nI i)) (fun i => ya_kept A v (nI i)) (A (sy_vw v) 6).toNatClampNeg := by
  have h : (ya_sk A (fun i => ya_held A v (nI i)) (fun i => ya_kept A v (nI i)) (A (sy_vw v) 6).toNatClampNeg = true) ↔ ya_X5_wouldChangeKey A v = false := by
    rw [ya_sk_iff]
    unfold ya_X5_wouldChangeKey
    cases hff : ya_ff (fun i => (((!decide ((ya_tg A 5 (-1) (ya_sg A 11 (ya_held A v (nI i)))) = 2)) && (!(ya_kept A v (nI i)))) && (!decide ((ya_N A (ya_held A v (nI i)) 0) = (ya_slot A (nI i) 0))))) (((A (sy_vw v) 6)).toNatClampNeg) 0 with
    | none =>
      refine ⟨fun _ => rfl, fun _ i hi hk => ?_⟩
      have := ya_ff_none.mp hff i (by omega) (by omega)
      rw [Bool.and_eq_false_iff, Bool.and_eq_false_iff, hk] at this
      rcases this with (q | q) | q
      · exact Or.inl (by simpa using q)
      · cases q
      · exact Or.inr (by simpa using q)
    | some j =>
      obtain ⟨h1, h2, h3, _⟩ := ya_ff_some.mp hff
      refine ⟨fun h => ?_, fun h => by cases h⟩
      exfalso
      rw [Bool.and_eq_true, Bool.and_eq_true] at h3
      rcases h j (by omega) (by simpa using h3.1.2) with q | q
      · have := h3.1.1
        rw [show ya_tg A 5 (-1) (ya_sg A 11 (ya_held A v (nI j))) = 2 from q] at this
        exact absurd this (by decide)
      · have := h3.2
        rw [q, decide_eq_true rfl] at this
        cases this
  cases e : ya_sk A (fun i => ya_held A v (nI i)) (fun i => ya_kept A v (nI i)) (A (sy_vw v) 6).toNatClampNeg with
  | true => exact h.mp e
  | false =>
    cases e2 : ya_X5_wouldChangeKey A v with
    | true => rfl
    | false =>
      rw [h.mpr e2] at e
      cases e
theorem ym_gatherHeld (I : yn_I t A) (M : yr_M A τ) (hv : v < 4) (h23 : τ 44 23 = nI N) (hN : N ≤ 4) (hlv : ∀ i, i < N → yl A (hl i)) (hH : ∀ i, i < N → τ 65 (4 * v + i) = hl i ∧ decide (τ 66 (4 * v + i) = 0) = !kp i) {rest : sy_S} {k : List Value → sy_MM (Option Value)} {r : Option (((Option Value) ⊕ Nat) × sy_Mem)}
    (hr : rest [.ref 44, .int (nI v), .int (ya_b (ya_sk A hl kp N)), .int (ya_b (decide (ya_gh A hl kp N 27 1 = 0)))] k (ym_gh τ A hl kp N) = r) :
    (sy_sQ (sy_sP 6 33 (sy_rL 0) (sy_iK 0)) (sy_sQ (sy_sSI 2 (sy_iK 1)) (sy_sQ (sy_sSI 3 (sy_iK 1)) (sy_sQ (sy_sB 4 (sy_sQ (sy_sSI 4 (sy_iK 0)) (sy_wh (sy_clt (sy_iL 4) (sy_iF 6 23 (sy_rL 0))) (sy_sQ (sy_sB 5 (sy_sQ (sy_sSI 5 (sy_iA 0 (sy_rF 6 21 (sy_rL 0)) (sy_iAdd (sy_iMul (sy_iK 4) (sy_iL 1)) (sy_iL 4)))) (sy_sI (sy_ceq (sy_iA 0 (sy_rF 6 22 (sy_rL 0)) (sy_iAdd (sy_iMul (sy_iK 4) (sy_iL 1)) (sy_iL 4))) (sy_iK 0)) (sy_sB 6 (sy_sQ (sy_sSI 6 (sy_iA 0 (sy_rF 6 32 (sy_rL 0)) (sy_iAdd (sy_iMul (sy_iK 3) (sy_iL 4)) (sy_iK 2)))) (sy_sQ (sy_sSI 2 (sy_iC (sy_cA (sy_cI (sy_iL 2)) (sy_cO (sy_ceq (sy_iA 0 (sy_rF 6 3 (sy_rL 0)) (sy_iA 0 (sy_rF 6 9 (sy_rL 0)) (sy_iL 5))) (sy_iK 2)) (sy_ceq (sy_iM (sy_cv 6 1 sf_X6_key) (sy_aR (sy_rL 0) (sy_aI (sy_iL 5) sy_aN))) (sy_iA 0 (sy_rF 6 32 (sy_rL 0)) (sy_iMul (sy_iK 3) (sy_iL 4)))))))) (sy_sSI 3 (sy_iC (sy_cA (sy_cO (sy_ceq (sy_iL 6) (sy_iA 0 (sy_rF 6 11 (sy_rL 0)) (sy_iAdd (sy_iMul (sy_iK 3) (sy_iL 5)) (sy_iK 2)))) (sy_cI (sy_iM (sy_cv 6 2 sf_X6_needs) (sy_aR (sy_rL 0) (sy_aI (sy_iA 0 (sy_rF 6 9 (sy_rL 0)) (sy_iL 5)) (sy_aI (sy_iL 6) sy_aN)))))) (sy_cI (sy_iL 3)))))))) sy_sN))) (sy_sIn 4 1)) 1000))) rest)))) [.ref 44, .int (nI v)] k τ = r := by
  have e01 : ya_gh A hl kp 0 27 1 = 0 := yu_at
  refine es_Q (es_P (ee_R rfl) ee_K rfl (es_Q (es_SI (x := ya_b (ya_sk A hl kp 0)) (σ1 := ym_gh τ A hl kp 0) ee_K (es_Q (es_SI (x := ya_b (decide (ya_gh A hl kp 0 27 1 = 0))) (σ1 := ym_gh τ A hl kp 0) (by rw [e01]; rfl) (es_Q (es_B (es_Q (es_SI ee_K0 ?_)))))))))
  refine es_loop (E := fun n => [.ref 44, .int (nI v), .int (ya_b (ya_sk A hl kp n)), .int (ya_b (decide (ya_gh A hl kp n 27 1 = 0))), .int (nI n)]) (S := fun n => ym_gh τ A hl kp n) N 0 1000 (by omega) (fun n _ h2 => ?_) ?_ (fun n _ h2 k' => ?_) ?_
  · have g := yq_gh (kp := kp) I M hN hlv n (by omega)
    exact (es_cB (B := nI N) rfl ((ee_F (ee_R rfl) rfl).trans (by rw [g.2.2.2.2.1.2 23 (by decide), h23])) (by omega)).trans (by rw [nI_clamp (by omega), decide_eq_true (by omega)])
  · have g := yq_gh (kp := kp) I M hN hlv (0 + N) (by omega)
    exact (es_cB (B := nI N) rfl ((ee_F (ee_R rfl) rfl).trans (by rw [g.2.2.2.2.1.2 23 (by decide), h23])) (by omega)).trans (by rw [nI_clamp (by omega), decide_eq_false (by omega)])
  · obtain ⟨g1, g2, g3, g4, g5, g7⟩ := yq_gh (kp := kp) I M hN hlv n (by omega)
    have hq := hH n (by omega)
    have hln := hlv n (by omega)
    have hin := yl_in hln
    have es : ∀ a b : Int32, ya_slot (ya_gh A hl kp n) a b = ya_slot A a b := fun a b => ya_slot_c (g4 31 (by decide)) a b
    have eN : ∀ a b : Int32, ya_N (ya_gh A hl kp n) a b = ya_N A a b := fun a b => ya_N_nd g4 a b
    have eT : ya_sg (ya_gh A hl kp n) 11 (hl n) = yT A (hl n) := ya_sg_c (g4 11 (by decide)) _
    have hty : ya_isT (ya_gh A hl kp n) (yT A (hl n)) = true := by
      rw [ya_isT_c (g4 1 (by decide))]
      exact (I.2.1.1 _ hln).1
    have eK : ya_tg (ya_gh A hl kp n) 5 (-1) (yT A (hl n)) = tK A (yT A (hl n)) := ya_tg_c (g4 1 (by decide)) (g4 5 (by decide)) _ _
    have e1 := yl_ix (x := nI v) (y := nI n) (c := 4) (n := 4) (m := 4) yl_c4 (by rw [nI_toInt (by omega)]; omega) (by rw [nI_toInt (by omega)]; omega) (by omega) (by rw [nI_toInt (by omega)]; omega) (by rw [nI_toInt (by omega)]; omega)
    rw [Int32.mul_comm, nI_clamp (by omega), nI_clamp (by omega)] at e1
    have hix : ∀ {env : List Value}, env[1]? = some (.int (nI v)) → env[4]? = some (.int (nI n)) → sy_iAdd (sy_iMul (sy_iK 4) (sy_iL 1)) (sy_iL 4) env (ym_gh τ A hl kp n) = some (.inl (4 * nI v + nI n), ym_gh τ A hl kp n) := fun h1 h4 => ee_B (ee_B ee_K (ee_L h1)) (ee_L h4)
    have hkd : ∀ {env : List Value}, env[0]? = some (.ref 44) → env[5]? = some (.int (hl n)) → sy_iA 0 (sy_rF 6 9 (sy_rL 0)) (sy_iL 5) env (ym_gh τ A hl kp n) = some (.inl (yT A (hl n)), ym_gh τ A hl kp n) := fun h0 h5 => (em_53 g2 (ee_rF (ee_R h0) rfl) (ee_L h5) hin).trans (by rw [eT])
    have hnI : 0 ≤ (nI n).toInt ∧ (nI n).toInt < 4 := by rw [nI_toInt (by omega)]; omega
    refine es_Q (es_B (es_Q (es_SI (x := hl n) (σ1 := ym_gh τ A hl kp n) ((ee_A (kd := 0) (a := 65) (ee_rF (ee_R rfl) rfl) (hix rfl rfl) e1.2.2).trans (by rw [e1.2.1, g5.1 65 (by decide) (by decide) (by decide), hq.1])) ?_)))
    have hc : sy_ceq (sy_iA 0 (sy_rF 6 22 (sy_rL 0)) (sy_iAdd (sy_iMul (sy_iK 4) (sy_iL 1)) (sy_iL 4))) (sy_iK 0) [.ref 44, .int (nI v), .int (ya_b (ya_sk A hl kp n)), .int (ya_b (decide (ya_gh A hl kp n 27 1 = 0))), .int (nI n), .int (hl n)] (ym_gh τ A hl kp n) = some (.inl (!kp n), ym_gh τ A hl kp n) := (ee_cB (ee_A (kd := 0) (a := 66) (ee_rF (ee_R rfl) rfl) (hix rfl rfl) e1.2.2) ee_K).trans (by rw [e1.2.1, g5.1 66 (by decide) (by decide) (by decide), hq.2])
    by_cases e : kp n = true
    · have eh : ya_hk A hl kp n = true := by unfold ya_hk; rw [e]; rfl
      rw [show ya_gh A hl kp (n + 1) = ya_gh A hl kp n from if_pos eh, show ym_gh τ A hl kp (n + 1) = ym_gh τ A hl kp n from if_pos eh, show ya_sk A hl kp (n + 1) = ya_sk A hl kp n from if_pos e]
      exact es_If (hc.trans (by rw [e]; rfl)) (es_N (es_In1 rfl rfl))
    · have ef : kp n = false := by simpa using e
      rw [show ya_sk A hl kp (n + 1) = (ya_sk A hl kp n && (decide (tK A (yT A (hl n)) = 2) || decide (ya_N A (hl n) 0 = ya_slot A (nI n) 0))) from if_neg e]
      refine es_It (hc.trans (by rw [ef]; rfl)) (es_B (es_Q (es_SI (x := ya_slot A (nI n) 2) (σ1 := ym_gh τ A hl kp n) ((em_74 g2 (ee_rF (ee_R rfl) rfl) (ee_L rfl) ee_K hnI (by decide)).trans (by rw [es])) (es_Q ?_))))
      refine es_SI (x := ya_b (ya_sk A hl kp n && (decide (tK A (yT A (hl n)) = 2) || decide (ya_N A (hl n) 0 = ya_slot A (nI n) 0)))) (σ1 := ym_gh τ A hl kp n) (ee_iC (ee_cA (ee_cb (ee_L rfl)) (fun _ => ee_cO ((ee_cB (em_47 g2 g1 (ee_rF (ee_R rfl) rfl) (hkd rfl rfl) hty) ee_K).trans (by rw [eK])) (fun _ => (ee_cB (ee_M (ee_aR (ee_R rfl) (ee_aI (ee_L rfl) ee_aN)) (ee_cv (ym_key g2 _ hin) rfl)) (em_740 g2 (ee_rF (ee_R rfl) rfl) (ee_L rfl) hnI)).trans (by rw [eN, es]))))) ?_
      have hfd : ∀ {env : List Value}, env[0]? = some (.ref 44) → env[5]? = some (.int (hl n)) → env[6]? = some (.int (ya_slot A (nI n) 2)) → sy_ceq (sy_iL 6) (sy_iA 0 (sy_rF 6 11 (sy_rL 0)) (sy_iAdd (sy_iMul (sy_iK 3) (sy_iL 5)) (sy_iK 2))) env (ym_gh τ A hl kp n) = some (.inl (decide (ya_N A (hl n) 2 = ya_slot A (nI n) 2)), ym_gh τ A hl kp n) := fun h0 h5 h6 => (ee_cB (ee_L h6) (em_55 g2 (ee_rF (ee_R h0) rfl) (ee_L h5) ee_K hin (by decide))).trans (by rw [eN, show decide (ya_slot A (nI n) 2 = ya_N A (hl n) 2) = decide (ya_N A (hl n) 2 = ya_slot A (nI n) 2) from decide_eq_decide.mpr eq_comm])
      refine (es_SI (x := ya_b (decide (ya_gh A hl kp (n + 1) 27 1 = 0))) (σ1 := ym_gh τ A hl kp (n + 1)) ?_ (es_In1 rfl rfl))
      by_cases ho : ya_hk A hl kp n = true
      · rw [show ya_gh A hl kp (n + 1) = ya_gh A hl kp n from if_pos ho, show ym_gh τ A hl kp (n + 1) = ym_gh τ A hl kp n from if_pos ho]
        have ho2 : decide (ya_N A (hl n) 2 = ya_slot A (nI n) 2) = true := by
          unfold ya_hk at ho
          rw [ef, Bool.false_or] at ho
          exact ho
        exact ee_iC (ee_cAt (ee_cOt ((hfd rfl rfl rfl).trans (by rw [ho2]))) (ee_cb (ee_L rfl)))
      · rw [show ya_gh A hl kp (n + 1) = ya_nr (ya_gh A hl kp n) (yT A (hl n)) (ya_slot A (nI n) 2) from if_neg ho, show ym_gh τ A hl kp (n + 1) = ym_nr (ym_gh τ A hl kp n) (ya_gh A hl kp n) (yT A (hl n)) (ya_slot A (nI n) 2) from if_neg ho, yq_27 g3.2.1.1]
        have ho2 : decide (ya_N A (hl n) 2 = ya_slot A (nI n) 2) = false := by
          have : ya_hk A hl kp n = false := by simpa using ho
          unfold ya_hk at this
          rw [ef, Bool.false_or] at this
          exact this
        refine (ee_iC (ee_cA (ee_cOf ((hfd rfl rfl rfl).trans (by rw [ho2])) (ee_cb (ee_M (ee_aR (ee_R rfl) (ee_aI (hkd rfl rfl) (ee_aI (ee_L rfl) ee_aN))) (ee_cv (ym_needs g2 g1 g3 (by omega) hty _) rfl)))) (fun _ => ee_cb (ee_L rfl)))).trans ?_
        cases (ya_nc0 (ya_gh A hl kp n) (yT A (hl n)) (ya_slot A (nI n) 2) || !decide (tC (ya_gh A hl kp n) (yT A (hl n)) = 0))
        · rfl
        · rfl
  · rw [Nat.zero_add]
    exact hr
end YMg
