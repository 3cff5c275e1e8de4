section LA11
variable {A σ : sy_Mem} {t : Nat}
theorem ev_ful (I : yn_I t A) (R : RW A σ) (Q : QQ A σ) {d j i : Nat} (hd : d < 3) (hj : j < cn A d) (hi : i < lsN A) {env : List Value} {r r2 : sy_RE} {e g : sy_IE} (hr : r env σ = some (.inl (45 + d), σ)) (he : e env σ = some (.inl (nI j), σ)) (hr2 : r2 env σ = some (.inl 50, σ)) (hg : g env σ = some (.inl (nI i), σ)) : sy_iM (sy_cr 2 sf_L_fulfils) (sy_aL (sy_lA r e) (sy_aL (sy_lA r2 g) sy_aN)) env σ = some (.inl (ya_b (ya_X0_isFulfilled A (nI i) (sg A d j))), σ) := by
  have h50 : sy_lA r2 g env σ = some (.inl (pL (qh A i)), σ) := by
    rw [← (Q.2 i hi).2.1]
    exact ee_lA hr2 hg (by have := (isA_nI I hi).2; show i < 4; omega) (by decide)
  exact ee_M (ee_aL (ev_l I R hd hj hr he) (ee_aL h50 ee_aN)) (ee_cr (t_fulfils I Q hi (sg_ok I hd hj).1) rfl)
theorem ev_e (I : yn_I t A) (T : TT A σ) (R : RW A σ) {d j : Nat} (hd : d < 3) (hj : j < cn A d) {env : List Value} {r0 r : sy_RE} {e g : sy_IE} (h0 : r0 env σ = some (.inl 44, σ)) (hr : r env σ = some (.inl (45 + d), σ)) (hg : g env σ = some (.inl (nI (cn A d)), σ)) (he : e env σ = some (.inl (nI j), σ)) : sy_iM (sy_cr 4 sf_L_end) (sy_aR r0 (sy_aR r (sy_aI g (sy_aI e sy_aN)))) env σ = some (.inl (nI (yE A d j)), σ) :=
  ee_M (ee_aR h0 (ee_aR hr (ee_aI hg (ee_aI he ee_aN)))) (ee_cr (t_end I T R hd hj) rfl)
theorem cdiv {c a b : Nat} (hc : c < 1000) (ha : 0 < a ∧ a < 1000) (hb : 0 < b ∧ b < 1000) {env : List Value} {e : sy_IE} (he : e env σ = some (.inl (nI c), σ)) : sy_iDv false (sy_iDv true e (sy_iK (nI a))) (sy_iK (nI b)) env σ = some (.inl (nI (c / a % b)), σ) := by
  have nz : ∀ x : Nat, 0 < x ∧ x < 1000 → ¬ nI x = 0 := fun x hx q => by
    have := congrArg Int32.toInt q
    rw [nI_toInt (by omega)] at this
    have h0 : (0 : Int32).toInt = 0 := rfl
    omega
  have hd : c / a ≤ c := Nat.div_le_self _ _
  refine ee_eq (ee_Dv (ee_Dv he ee_K (nz a ha)) ee_K (nz b hb)) ?_
  show nI c / nI a - nI c / nI a / nI b * nI b = _
  rw [ndiv (by omega) (by omega), nmod (by omega) (by omega)]
theorem nI_eq1 {m : Nat} (hm : m < 1000) : decide (nI m = 1) = decide (m = 1) := by
  rw [decide_eq_decide]
  refine ⟨fun e => ?_, fun e => by rw [e]; rfl⟩
  have := congrArg Int32.toInt e
  rw [nI_toInt (by omega), yl_c1] at this
  omega
theorem nI_gt0 {m : Nat} (hm : m < 1000) : decide ((0 : Int32) < nI m) = decide (0 < m) := by
  rw [decide_eq_decide, Int32.lt_iff_toInt_lt, nI_toInt (by omega)]
  show (0 : Int) < m ↔ _
  omega
theorem nI_ltd {p q : Nat} (hp : p < 1000) (hq : q < 1000) : decide (nI p < nI q) = decide (p < q) := by
  rw [decide_eq_decide, Int32.lt_iff_toInt_lt]
  exact (nI_lt2 hp hq).1
theorem nI_eqd {p q : Nat} (hp : p < 1000) (hq : q < 1000) : decide (nI p = nI q) = decide (p = q) := by
  rw [decide_eq_decide]
  refine ⟨fun e => ?_, fun e => by rw [e]⟩
  have := congrArg Int32.toInt e
  rw [nI_toInt (by omega), nI_toInt (by omega)] at this
  omega
/-- the twins' part of an argument's codes -/
theorem twins_is (I : yn_I t A) {d px i : Nat} (hd : d < 3) (hp : px < cn A d) (c2 c4 : Bool) : (ya_ff (fun j => (((!decide (j = px)) && decide (yT A (sg A d j) = yT A (sg A d px))) && decide (yL A (yP A (sg A d j)) = yL A (yP A (sg A d px)))) && ya_X0_isFulfilled A (nI i) (sg A d j) && (if decide (j < px) then c2 else c4)) (cn A d) 0).isSome = ((c2 && ya_X5_isTwinFulfilling A (sg A d px) (nI i) 1) || (c4 && ya_X5_isTwinFulfilling A (sg A d px) (nI i) 0)) := by
  have h1 := twin_is I (i := i) hd hp true
  have h0 := twin_is I (i := i) hd hp false
  rw [show ya_b true = 1 from rfl] at h1
  rw [show ya_b false = 0 from rfl] at h0
  rw [h1, h0, Bool.eq_iff_iff, Bool.or_eq_true, Bool.and_eq_true, Bool.and_eq_true, ff_some, ff_some, ff_some]
  constructor
  · rintro ⟨j, j1, j2, j3⟩
    rw [Bool.and_eq_true] at j3
    cases hb : decide (j < px) with
    | true =>
      rw [hb] at j3
      exact Or.inl ⟨j3.2, j, j1, j2, by rw [j3.1, hb]; rfl⟩
    | false =>
      rw [hb] at j3
      exact Or.inr ⟨j3.2, j, j1, j2, by rw [j3.1, hb]; rfl⟩
  · rintro (⟨h, j, j1, j2, j3⟩ | ⟨h, j, j1, j2, j3⟩)
    · rw [Bool.and_eq_true, decide_eq_true_eq] at j3
      exact ⟨j, j1, j2, by rw [j3.1, j3.2, h]; rfl⟩
    · rw [Bool.and_eq_true, decide_eq_true_eq] at j3
      exact ⟨j, j1, j2, by rw [j3.1, j3.2, h]; rfl⟩
theorem t_right (I : yn_I t A) (T : TT A σ) (R : RW A σ) (Q : QQ A σ) {v d p n : Nat} (hv : v < 4) (hd : d < 3) (hD : A (sy_vw v) 0 = nI d) (hp : p < cn A d) (hn : n ≤ lsN A) (hL : ya_X5_isListOrdered A v = true) :
    sf_L_right [.ref 44, .ref (45 + d), .int (nI (cn A d)), .ref 49, .ref 50, .int (nI n), .int (nI (vn A v)), .int (yL A (ya_here A v)), .int (nI p)] σ = some (.inl (some (.int (ya_b (ya_X5_isRight A v (sg A d p) n)))), σ) := by
  have S := I.1
  have G := I.2.1
  have h60 := cn_le I hd
  obtain ⟨a1, a2, a3⟩ := sg_ok I hd hp
  have hT := (G.1 _ a1).1
  have h4 : lsN A ≤ 4 := by
    have := I.2.2.2.2.2.2.1
    show (A 19 0).toInt.toNat ≤ 4
    omega
  have hcl : (nI n).toNatClampNeg = n := nI_clamp (by omega)
  have h0n : decide ((0 : Int32) < nI n) = decide (0 < n) := nI_gt0 (by omega)
  refine ke_meth ?_ (Nat.le_of_ble_eq_true rfl)
  unfold ya_X5_isRight
  rw [hcl, h0n]
  have hq : 0 < n → ya_ag A 20 (-1) (nI n - 1) = A 20 (n - 1) := fun h => by
    rw [show nI n - 1 = nI (n - 1) from nsub (b := 1) (by omega)]
    exact ag_nI I (by omega)
  refine es_Q ((es_I (σ1 := σ) (x := (!ya_X4_sees A v (yT A (sg A d p))) || (decide (0 < n) && !decide (yT A (sg A d p) = ya_ag A 20 (-1) (nI n - 1)))) (ee_cO (ee_cN (ee_cb (ev_s I T hv hT (ee_R rfl) (ee_L rfl) (ev_t I R hd hp (ee_R rfl) (ee_L rfl))))) (fun _ => ee_cA (ee_eq (ee_cB (ee_L rfl) ee_K) h0n) (fun h => ee_eq (ee_cB (ev_t I R hd hp (ee_R rfl) (ee_L rfl)) (ev_q I Q (show n - 1 < lsN A by have := of_decide_eq_true h; omega) (ee_R rfl) (ee_eq (ee_B (ee_L rfl) ee_K) (show nI n - 1 = nI (n - 1) from nsub (b := 1) (by have := of_decide_eq_true h; omega)))).1) (by rw [hq (of_decide_eq_true h)])))) (r1 := some (.inl (some (.int (ya_b false))), σ)) (r2 := some (.inl (some (.int (ya_b (if (ya_ff (fun i => ((!(ya_X0_isFulfilled A (nI i) (ya_X3_upward A (sg A d p) (ya_ag A 20 (-1) (nI i))))) || (!(ya_X5_areCodesRight A v (ya_X3_upward A (sg A d p) (ya_ag A 20 (-1) (nI i))) (nI i))))) n 0).isSome then false else true)))), σ)) (fun _ => es_eZ0) (fun hx => es_N ?_)).trans ?_)
  · have hb : (ya_X4_sees A v (yT A (sg A d p)) && (decide (nI n = 0) || decide (yT A (sg A d p) = ya_ag A 20 (-1) (nI n - 1)))) = true := by
      rw [show decide (nI n = 0) = decide (n = 0) from nI_eqd (q := 0) (by omega) (by omega)]
      by_cases h0 : n = 0
      · rw [decide_eq_true h0]
        revert hx
        cases ya_X4_sees A v (yT A (sg A d p)) <;> simp
      · rw [decide_eq_true (show 0 < n by omega)] at hx
        rw [decide_eq_false h0]
        revert hx
        cases ya_X4_sees A v (yT A (sg A d p)) <;> simp
    refine es_Q (es_B (es_Q (es_SI ee_K ?_)))
    have hbn : ∀ i : Nat, sy_iL 5 [.ref 44, .ref (45 + d), .int (nI (cn A d)), .ref 49, .ref 50, .int (nI n), .int (nI (vn A v)), .int (yL A (ya_here A v)), .int (nI p), .int (nI i)] σ = some (.inl (nI n), σ) := fun i => ee_L rfl
    have key := es_forBL (σ := σ) (b := sy_iL 5) (s := (sy_sQ (sy_sB 10 (sy_sQ (sy_sSI 10 (sy_iM (sy_cr 4 sf_L_among) (sy_aR (sy_rL 0) (sy_aR (sy_rL 1) (sy_aI (sy_iL 8) (sy_aI (sy_iDv false (sy_iA 0 (sy_rL 3) (sy_iL 9)) (sy_iK 16)) sy_aN)))))) (sy_sQ (sy_sSI 11 (sy_iDv true (sy_iA 0 (sy_rL 3) (sy_iL 9)) (sy_iK 16))) (sy_sQ (sy_sI (sy_cO (sy_cN (sy_cI (sy_iM (sy_cr 2 sf_L_fulfils) (sy_aL (sy_lA (sy_rL 1) (sy_iL 10)) (sy_aL (sy_lA (sy_rL 4) (sy_iL 9)) sy_aN))))) (sy_cA (sy_ceq (sy_iDv false (sy_iDv true (sy_iL 11) (sy_iK 8)) (sy_iK 2)) (sy_iK 1)) (sy_cO (sy_clt (sy_iL 7) (sy_iL 10)) (sy_cge (sy_iL 7) (sy_iM (sy_cr 4 sf_L_end) (sy_aR (sy_rL 0) (sy_aR (sy_rL 1) (sy_aI (sy_iL 2) (sy_aI (sy_iL 10) sy_aN))))))))) (sy_eZ (sy_iK 0)) sy_sN) (sy_sQ (sy_sSI 12 (sy_iM (sy_cr 3 sf_L_over) (sy_aR (sy_rL 0) (sy_aR (sy_rL 1) (sy_aI (sy_iL 10) sy_aN))))) (sy_sB 13 (sy_sQ (sy_sSI 13 (sy_iK 0)) (sy_wh (sy_cA (sy_clt (sy_iL 13) (sy_iL 2)) (sy_cgt (sy_iDv false (sy_iDv true (sy_iL 11) (sy_iK 2)) (sy_iK 4)) (sy_iK 0))) (sy_sQ (sy_sB 14 (sy_sQ (sy_sSI 14 (sy_iC (sy_cA (sy_cA (sy_cA (sy_cne (sy_iL 13) (sy_iL 10)) (sy_ceq (sy_iM (sy_cr 1 sf_L_typeOf) (sy_aL (sy_lA (sy_rL 1) (sy_iL 13)) sy_aN)) (sy_iM (sy_cr 1 sf_L_typeOf) (sy_aL (sy_lA (sy_rL 1) (sy_iL 10)) sy_aN)))) (sy_ceq (sy_iM (sy_cr 3 sf_L_over) (sy_aR (sy_rL 0) (sy_aR (sy_rL 1) (sy_aI (sy_iL 13) sy_aN)))) (sy_iL 12))) (sy_cI (sy_iM (sy_cr 2 sf_L_fulfils) (sy_aL (sy_lA (sy_rL 1) (sy_iL 13)) (sy_aL (sy_lA (sy_rL 4) (sy_iL 9)) sy_aN))))))) (sy_sI (sy_cA (sy_cI (sy_iL 14)) (sy_cQ (sy_clt (sy_iL 13) (sy_iL 10)) (sy_ceq (sy_iDv false (sy_iDv true (sy_iL 11) (sy_iK 2)) (sy_iK 2)) (sy_iK 1)) (sy_ceq (sy_iDv false (sy_iDv true (sy_iL 11) (sy_iK 4)) (sy_iK 2)) (sy_iK 1)))) (sy_eZ (sy_iK 0)) sy_sN))) (sy_sIn 13 1)) 1000)))))))) (sy_sIn 9 1))) (E := fun i => [.ref 44, .ref (45 + d), .int (nI (cn A d)), .ref 49, .ref 50, .int (nI n), .int (nI (vn A v)), .int (yL A (ya_here A v)), .int (nI p), .int (nI i)]) (P := fun i => ((!(ya_X0_isFulfilled A (nI i) (ya_X3_upward A (sg A d p) (ya_ag A 20 (-1) (nI i))))) || (!(ya_X5_areCodesRight A v (ya_X3_upward A (sg A d p) (ya_ag A 20 (-1) (nI i))) (nI i))))) (B := nI n) (a := 0) (j := 9) (w := false) (v := true) (k := fun env' => sy_eZ (sy_iK 1) (env'.take 9) (fun _ => sy_fail)) (fun i => rfl) hbn (by omega) (by omega) (fun i _ hi k' => ?_) (fun _ => es_eZ1)
    · rw [hcl] at key
      exact key
    · have hin : i < n := by omega
      have hi' : i < lsN A := by omega
      obtain ⟨u1, u2⟩ := yg_rt I hL a1 (a2 := n) (i := i) (by have : n ≤ (A 19 0).toInt.toNat := hn; omega) hb hin
      rw [(q_T I hi').2.1] at u1 u2
      rw [(q_T I hi').2.1]
      obtain ⟨uU, uD⟩ := up_D I a1 u1
      obtain ⟨px, x1, x2, x3⟩ := sg_of I u1 hd (uD.trans a2)
      obtain ⟨k1, k2, k3, k4, k5, k6, k7, k8⟩ := code_is I hi'
      have hup := ev_a I T R (env := [.ref 44, .ref (45 + d), .int (nI (cn A d)), .ref 49, .ref 50, .int (nI n), .int (nI (vn A v)), .int (yL A (ya_here A v)), .int (nI p), .int (nI i)]) (ty := A 20 i) (r0 := sy_rL 0) (r := sy_rL 1) (e := sy_iL 8) (g := sy_iDv false (sy_iA 0 (sy_rL 3) (sy_iL 9)) (sy_iK 16)) hd hp (ee_R rfl) (ee_R rfl) (ee_L rfl) (ev_q I Q hi' (ee_R rfl) (ee_L rfl)).1
      rw [x3] at hup
      rw [x2]
      refine es_Q (es_B (es_Q (es_SI hup (es_Q (es_SI (ee_eq (ev_q I Q hi' (ee_R rfl) (ee_L rfl)).2 k1) (es_Q ?_))))))
      have e8 : decide (nI (qk A i / 8 % 2) = 1) = decide (qk A i / 8 % 2 = 1) := nI_eq1 (by omega)
      have e2 : decide (nI (qk A i / 2 % 2) = 1) = decide (qk A i / 2 % 2 = 1) := nI_eq1 (by omega)
      have e4 : decide (nI (qk A i / 4 % 2) = 1) = decide (qk A i / 4 % 2 = 1) := nI_eq1 (by omega)
      have hw := within_is I hv hd hD x1
      refine (es_I (σ1 := σ) (x := (!ya_X0_isFulfilled A (nI i) (sg A d px)) || (decide (qk A i / 8 % 2 = 1) && !(decide (ya_here A v = sg A d px) || ya_X3_isBelow A (ya_here A v) (sg A d px)))) (ee_cO (ee_cN (ee_cb (ev_ful I R Q hd x1 hi' (ee_R rfl) (ee_L rfl) (ee_R rfl) (ee_L rfl)))) (fun _ => ee_cA (ee_eq (ee_cB (cdiv (c := qk A i) (a := 8) (b := 2) (by omega) (by omega) (by omega) (ee_L rfl)) ee_K) e8) (fun _ => ee_eq (ee_cO (ee_cB (ee_L rfl) (ee_L rfl)) (fun _ => ee_cB (ee_L rfl) (ev_e I T R hd x1 (ee_R rfl) (ee_R rfl) (ee_L rfl) (ee_L rfl)))) hw))) (r1 := some (.inl (some (.int (ya_b false))), σ)) (r2 := if ((decide (qk A i / 2 % 2 = 1) && ya_X5_isTwinFulfilling A (sg A d px) (nI i) 1) || (decide (qk A i / 4 % 2 = 1) && ya_X5_isTwinFulfilling A (sg A d px) (nI i) 0)) = true then some (.inl (some (.int (ya_b false))), σ) else k' [.ref 44, .ref (45 + d), .int (nI (cn A d)), .ref 49, .ref 50, .int (nI n), .int (nI (vn A v)), .int (yL A (ya_here A v)), .int (nI p), .int (nI (i + 1))] σ) (fun _ => es_eZ0) (fun _ => es_N (es_Q (es_SI (ev_o I T R hd x1 (ee_R rfl) (ee_R rfl) (ee_L rfl)) (es_B (es_Q (es_SI ee_K ?_))))))).trans ?_
      · have hkE : (fun env' => sy_sIn 9 1 (List.take 10 (List.take 13 env')) k') [.ref 44, .ref (45 + d), .int (nI (cn A d)), .ref 49, .ref 50, .int (nI n), .int (nI (vn A v)), .int (yL A (ya_here A v)), .int (nI p), .int (nI i)] σ = k' [.ref 44, .ref (45 + d), .int (nI (cn A d)), .ref 49, .ref 50, .int (nI n), .int (nI (vn A v)), .int (yL A (ya_here A v)), .int (nI p), .int (nI (i + 1))] σ := es_In rfl (congrArg (fun z => k' [.ref 44, .ref (45 + d), .int (nI (cn A d)), .ref 49, .ref 50, .int (nI n), .int (nI (vn A v)), .int (yL A (ya_here A v)), .int (nI p), .int z] σ) (nadd (a := i) (b := 1)))
        have e24 : decide ((0 : Int32) < nI (qk A i / 2 % 4)) = decide (0 < qk A i / 2 % 4) := nI_gt0 (by omega)
        have hc : ∀ j, j ≤ cn A d → (sy_cA (sy_clt (sy_iL 13) (sy_iL 2)) (sy_cgt (sy_iDv false (sy_iDv true (sy_iL 11) (sy_iK 2)) (sy_iK 4)) (sy_iK 0))) [.ref 44, .ref (45 + d), .int (nI (cn A d)), .ref 49, .ref 50, .int (nI n), .int (nI (vn A v)), .int (yL A (ya_here A v)), .int (nI p), .int (nI i), .int (nI px), .int (nI (qk A i)), .int (yL A (yP A (sg A d px))), .int (nI j)] σ = some (.inl (decide (j < cn A d) && decide (0 < qk A i / 2 % 4)), σ) := fun j hj => ee_cA (ee_eq (ee_cB (ee_L rfl) (ee_L rfl)) (nI_ltd (by omega) (by omega))) (fun _ => ee_eq (ee_cB (cdiv (c := qk A i) (a := 2) (b := 4) (by omega) (by omega) (by omega) (ee_L rfl)) ee_K) e24)
        have hloop := es_for (σ := σ) (c := (sy_cA (sy_clt (sy_iL 13) (sy_iL 2)) (sy_cgt (sy_iDv false (sy_iDv true (sy_iL 11) (sy_iK 2)) (sy_iK 4)) (sy_iK 0)))) (s := (sy_sQ (sy_sB 14 (sy_sQ (sy_sSI 14 (sy_iC (sy_cA (sy_cA (sy_cA (sy_cne (sy_iL 13) (sy_iL 10)) (sy_ceq (sy_iM (sy_cr 1 sf_L_typeOf) (sy_aL (sy_lA (sy_rL 1) (sy_iL 13)) sy_aN)) (sy_iM (sy_cr 1 sf_L_typeOf) (sy_aL (sy_lA (sy_rL 1) (sy_iL 10)) sy_aN)))) (sy_ceq (sy_iM (sy_cr 3 sf_L_over) (sy_aR (sy_rL 0) (sy_aR (sy_rL 1) (sy_aI (sy_iL 13) sy_aN)))) (sy_iL 12))) (sy_cI (sy_iM (sy_cr 2 sf_L_fulfils) (sy_aL (sy_lA (sy_rL 1) (sy_iL 13)) (sy_aL (sy_lA (sy_rL 4) (sy_iL 9)) sy_aN))))))) (sy_sI (sy_cA (sy_cI (sy_iL 14)) (sy_cQ (sy_clt (sy_iL 13) (sy_iL 10)) (sy_ceq (sy_iDv false (sy_iDv true (sy_iL 11) (sy_iK 2)) (sy_iK 2)) (sy_iK 1)) (sy_ceq (sy_iDv false (sy_iDv true (sy_iL 11) (sy_iK 4)) (sy_iK 2)) (sy_iK 1)))) (sy_eZ (sy_iK 0)) sy_sN))) (sy_sIn 13 1))) (E := fun j => [.ref 44, .ref (45 + d), .int (nI (cn A d)), .ref 49, .ref 50, .int (nI n), .int (nI (vn A v)), .int (yL A (ya_here A v)), .int (nI p), .int (nI i), .int (nI px), .int (nI (qk A i)), .int (yL A (yP A (sg A d px))), .int (nI j)]) (P := fun j => (((!decide (j = px)) && decide (yT A (sg A d j) = yT A (sg A d px))) && decide (yL A (yP A (sg A d j)) = yL A (yP A (sg A d px)))) && ya_X0_isFulfilled A (nI i) (sg A d j) && (if decide (j < px) then decide (qk A i / 2 % 2 = 1) else decide (qk A i / 4 % 2 = 1))) (R := fun _ => some (.inl (some (.int (ya_b false))), σ)) (k := fun env' => sy_sIn 9 1 (List.take 10 (List.take 13 env')) k') (if 0 < qk A i / 2 % 4 then cn A d else 0) 0 1000 (by split <;> omega) (fun j _ hj => ?_) ?_ (fun j _ hj k2 => ?_)
        · refine hloop.trans ?_
          have htw := twins_is I (i := i) hd x1 (decide (qk A i / 2 % 2 = 1)) (decide (qk A i / 4 % 2 = 1))
          by_cases hz : 0 < qk A i / 2 % 4
          · rw [if_pos hz, ← htw]
            generalize ya_ff (fun j => (((!decide (j = px)) && decide (yT A (sg A d j) = yT A (sg A d px))) && decide (yL A (yP A (sg A d j)) = yL A (yP A (sg A d px)))) && ya_X0_isFulfilled A (nI i) (sg A d j) && (if decide (j < px) then decide (qk A i / 2 % 2 = 1) else decide (qk A i / 4 % 2 = 1))) (cn A d) 0 = o
            cases o with
            | none => exact hkE
            | some q => rfl
          · rw [if_neg hz, decide_eq_false (show ¬ qk A i / 2 % 2 = 1 by omega), decide_eq_false (show ¬ qk A i / 4 % 2 = 1 by omega)]
            exact hkE
        · by_cases hz : 0 < qk A i / 2 % 4
          · rw [if_pos hz] at hj
            exact ee_eq (hc j (by omega)) (by rw [decide_eq_true (show j < cn A d by omega), decide_eq_true hz]; rfl)
          · rw [if_neg hz] at hj
            omega
        · by_cases hz : 0 < qk A i / 2 % 4
          · rw [if_pos hz, Nat.zero_add]
            exact ee_eq (hc _ (Nat.le_refl _)) (by rw [decide_eq_false (show ¬ cn A d < cn A d by omega)]; rfl)
          · rw [if_neg hz]
            exact ee_eq (hc _ (Nat.zero_le _)) (by rw [decide_eq_false hz, Bool.and_false])
        · have hj' : j < cn A d := by
            revert hj
            split <;> omega
          refine es_Q (es_B (es_Q (es_SI (ee_iC (ee_cA (ee_cA (ee_cA (ee_eq (ee_cB (ee_L rfl) (ee_L rfl)) (by rw [nI_eqd (by omega) (by omega)])) (fun _ => ee_cB (ev_t I R hd hj' (ee_R rfl) (ee_L rfl)) (ev_t I R hd x1 (ee_R rfl) (ee_L rfl)))) (fun _ => ee_cB (ev_o I T R hd hj' (ee_R rfl) (ee_R rfl) (ee_L rfl)) (ee_L rfl))) (fun _ => ee_cb (ev_ful I R Q hd hj' hi' (ee_R rfl) (ee_L rfl) (ee_R rfl) (ee_L rfl))))) ?_)))
          refine es_I (σ1 := σ) (ee_cA (ee_cb (ee_L rfl)) (fun _ => ee_cQ (ee_eq (ee_cB (ee_L rfl) (ee_L rfl)) (nI_ltd (by omega) (by omega))) (fun _ => ee_eq (ee_cB (cdiv (c := qk A i) (a := 2) (b := 2) (by omega) (by omega) (by omega) (ee_L rfl)) ee_K) e2) (fun _ => ee_eq (ee_cB (cdiv (c := qk A i) (a := 4) (b := 2) (by omega) (by omega) (by omega) (ee_L rfl)) ee_K) e4))) (fun _ => es_eZ0) (fun _ => es_N (es_In rfl (congrArg (fun z => k2 (List.set [.ref 44, .ref (45 + d), .int (nI (cn A d)), .ref 49, .ref 50, .int (nI n), .int (nI (vn A v)), .int (yL A (ya_here A v)), .int (nI p), .int (nI i), .int (nI px), .int (nI (qk A i)), .int (yL A (yP A (sg A d px))), .int (nI j)] 13 (.int z)) σ) (nadd (a := j) (b := 1)))))
      · unfold ya_X5_areCodesRight
        rw [k4, k5, k6]
        cases ya_X0_isFulfilled A (nI i) (sg A d px) <;> cases decide (qk A i / 8 % 2 = 1) <;> cases decide (qk A i / 2 % 2 = 1) <;> cases decide (qk A i / 4 % 2 = 1) <;> cases ya_X5_isTwinFulfilling A (sg A d px) (nI i) 1 <;> cases ya_X5_isTwinFulfilling A (sg A d px) (nI i) 0 <;> cases decide (ya_here A v = sg A d px) <;> cases ya_X3_isBelow A (ya_here A v) (sg A d px) <;> rfl
  · cases ((!ya_X4_sees A v (yT A (sg A d p))) || (decide (0 < n) && !decide (yT A (sg A d p) = ya_ag A 20 (-1) (nI n - 1)))) <;> rfl
end LA11
