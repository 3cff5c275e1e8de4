section LA9
variable {A σ : sy_Mem} {t : Nat}
theorem and1 (x : Int32) : x &&& 1 = 0 ∨ x &&& 1 = 1 := by
  have h : (x &&& 1).toBitVec.toNat = x.toBitVec.toNat % 2 := by
    rw [Int32.toBitVec_and, BitVec.toNat_and]
    show x.toBitVec.toNat &&& (2 ^ 1 - 1) = _
    rw [Nat.and_two_pow_sub_one_eq_mod]
  rcases Nat.mod_two_eq_zero_or_one x.toBitVec.toNat with q | q
  · left
    apply Int32.toBitVec_inj.mp
    apply BitVec.eq_of_toNat_eq
    rw [h, q]
    rfl
  · right
    apply Int32.toBitVec_inj.mp
    apply BitVec.eq_of_toNat_eq
    rw [h, q]
    rfl
/-- the law's word for a view: its database and its set -/
def vn (A : sy_Mem) (v : Nat) : Nat := (A (sy_vw v) 0).toInt.toNat + 4 * (A (sy_vw v) 1).toInt.toNat
theorem vn_is (I : yn_I t A) {v : Nat} (hv : v < 4) : vn A v < 2 ^ 20 ∧ nI (vn A v % 4) = A (sy_vw v) 0 ∧ nI (vn A v / 4) = A (sy_vw v) 1 := by
  obtain ⟨h1, h2, -⟩ := I.2.2.2.2.2.1 v hv
  unfold vn
  exact ⟨by omega, ntI (by omega) (by omega), ntI (by omega) (by omega)⟩
theorem isT_ge0 (I : yn_I t A) {x : Int32} (h : ya_isT A x = true) : decide ((0 : Int32) ≤ x) = true := decide_eq_true (by rw [Int32.le_iff_toInt_le]; exact (isT_12 I h).1)
theorem sees_loop (I : yn_I t A) (T : TT A σ) {v : Nat} (hv : v < 4) {ty : Int32} {k : List Value → sy_MM (Option Value)} : ∀ (n m : Nat) (x : Int32) (b : Bool), n < m → ya_dp (tP A) n x → (x = -1 ∨ ya_isT A x = true) →
    sy_wh (sy_cge (sy_iL 3) (sy_iK 0)) (sy_sQ (sy_sSI 4 (sy_iC (sy_cA (sy_cI (sy_iL 4)) (sy_ceq (sy_iAnd (sy_iShr (sy_iDv true (sy_iL 1) (sy_iK 4)) (sy_iL 3)) (sy_iK 1)) (sy_iK 1))))) (sy_sSI 3 (sy_iM (sy_cr 2 sf_L_above) (sy_aR (sy_rL 0) (sy_aI (sy_iL 3) sy_aN))))) m [.ref 44, .int (nI (vn A v)), .int ty, .int x, .int (ya_b b)] k σ =
      k [.ref 44, .int (nI (vn A v)), .int ty, .int (-1), .int (ya_b (b && (ya_walk (tP A) (fun x => decide (((A (sy_vw v) 1) >>> (x &&& 31)) &&& 1 = 0)) n x).isNone))] σ
  | 0, m + 1, x, b, _, hd, _ => by
    have hx : x = -1 := hd
    subst hx
    unfold sy_wh
    rw [sy_bnd_at (ee_eq (ee_cB (ee_L rfl) ee_K) (y := false) rfl)]
    simp [ya_walk]
  | n + 1, m + 1, x, b, hm, hd, hx => by
    by_cases h1 : x = -1
    · subst h1
      unfold sy_wh
      rw [sy_bnd_at (ee_eq (ee_cB (ee_L rfl) ee_K) (y := false) rfl)]
      simp [ya_walk]
    · have hT : ya_isT A x = true := hx.resolve_left h1
      obtain ⟨w1, w2, w3⟩ := vn_is I hv
      unfold sy_wh
      rw [sy_bnd_at (ee_eq (ee_cB (ee_L rfl) ee_K) (isT_ge0 I hT))]
      simp only [if_true]
      have hq : decide (((A (sy_vw v) 1) >>> (x &&& 31)) &&& 1 = 1) = !decide (((A (sy_vw v) 1) >>> (x &&& 31)) &&& 1 = 0) := by
        rcases and1 ((A (sy_vw v) 1) >>> (x &&& 31)) with q | q <;> rw [q] <;> decide
      refine es_Q (es_SI (x := ya_b (b && !decide (((A (sy_vw v) 1) >>> (x &&& 31)) &&& 1 = 0))) (ee_iC (ee_cA (ee_cb (ee_L rfl)) (fun _ => ee_eq (ee_cB (ee_B (ee_B (ee_eq (ee_Dv (ee_L rfl) ee_K (by decide)) (y := A (sy_vw v) 1) ?_) (ee_L rfl)) ee_K) ee_K) hq))) ?_)
      · show nI (vn A v) / nI 4 = _
        rw [ndiv (by omega) (by omega), w3]
      · refine es_SI (ev_u I T hT (ee_R rfl) (ee_L rfl)) ?_
        have hd2 : ya_dp (tP A) n (tP A x) := Or.resolve_left hd h1
        refine (sees_loop I T hv n m (tP A x) _ (by omega) hd2 (yk_GT I.1 x hT)).trans ?_
        congr 4
        rw [show ya_walk (tP A) (fun x => decide (((A (sy_vw v) 1) >>> (x &&& 31)) &&& 1 = 0)) (n + 1) x = if x = -1 then none else if decide (((A (sy_vw v) 1) >>> (x &&& 31)) &&& 1 = 0) then some x else ya_walk (tP A) (fun x => decide (((A (sy_vw v) 1) >>> (x &&& 31)) &&& 1 = 0)) n (tP A x) from rfl, if_neg h1]
        cases hc : decide (((A (sy_vw v) 1) >>> (x &&& 31)) &&& 1 = 0)
        · simp
        · simp
theorem t_sees (I : yn_I t A) (T : TT A σ) {v : Nat} (hv : v < 4) {ty : Int32} (h : ya_isT A ty = true) : sf_L_sees [.ref 44, .int (nI (vn A v)), .int ty] σ = some (.inl (some (.int (ya_b (ya_X4_sees A v ty)))), σ) := by
  obtain ⟨w1, w2, w3⟩ := vn_is I hv
  have e : ya_X4_sees A v ty = (decide (tD A ty = A (sy_vw v) 0) && (ya_walk (tP A) (fun x => decide (((A (sy_vw v) 1) >>> (x &&& 31)) &&& 1 = 0)) 4 ty).isNone) := by
    unfold ya_X4_sees
    cases decide (ya_tg A 2 (-1) ty = A (sy_vw v) 0) with
    | false => rfl
    | true =>
      show Option.elim _ _ _ = _
      cases ya_walk (tP A) (fun x => decide (((A (sy_vw v) 1) >>> (x &&& 31)) &&& 1 = 0)) 4 ty <;> rfl
  rw [e]
  refine ke_meth ?_ (Nat.le_of_ble_eq_true rfl)
  refine es_Q (es_SI (ee_L rfl) (es_Q (es_SI (x := ya_b (decide (tD A ty = A (sy_vw v) 0))) (ee_iC (ee_cB (ev_b I T h (ee_R rfl) (ee_L rfl)) (ee_eq (ee_Dv (ee_L rfl) ee_K (by decide)) ?_))) (es_Q ?_))))
  · show nI (vn A v) - nI (vn A v) / nI 4 * nI 4 = _
    rw [nmod (by omega) (by omega), w2]
  · refine (sees_loop I T hv 4 1000 ty _ (by omega) (yk_dpT4 I.1 h) (Or.inr h)).trans ?_
    exact es_eZb (ee_L rfl)
theorem ev_s (I : yn_I t A) (T : TT A σ) {v : Nat} (hv : v < 4) {ty : Int32} (h : ya_isT A ty = true) {env : List Value} {r : sy_RE} {e g : sy_IE} (hr : r env σ = some (.inl 44, σ)) (he : e env σ = some (.inl (nI (vn A v)), σ)) (hg : g env σ = some (.inl ty, σ)) : sy_iM (sy_cr 3 sf_L_sees) (sy_aR r (sy_aI e (sy_aI g sy_aN))) env σ = some (.inl (ya_b (ya_X4_sees A v ty)), σ) :=
  ee_M (ee_aR hr (ee_aI he (ee_aI hg ee_aN))) (ee_cr (t_sees I T hv h) rfl)
theorem q_T (I : yn_I t A) {i : Nat} (hi : i < lsN A) : ya_isT A (A 20 i) = true ∧ ya_ag A 20 (-1) (nI i) = A 20 i ∧ (0 ≤ (A 20 i).toInt ∧ (A 20 i).toInt < 12) ∧ (0 ≤ (A 21 i).toInt ∧ (A 21 i).toInt ≤ 63) := by
  have hA := I.2.2.2.2.2.2.2.1 i (by have : i < (A 19 0).toInt.toNat := hi; omega)
  exact ⟨hA.1, ag_nI I hi, isT_12 I hA.1, hA.2.1⟩
/-- the type of an argument, out of the law's list -/
theorem ev_q (I : yn_I t A) (Q : QQ A σ) {i : Nat} (hi : i < lsN A) {env : List Value} {r : sy_RE} {e : sy_IE} (hr : r env σ = some (.inl 49, σ)) (he : e env σ = some (.inl (nI i), σ)) : sy_iDv false (sy_iA 0 r e) (sy_iK 16) env σ = some (.inl (A 20 i), σ) ∧ sy_iDv true (sy_iA 0 r e) (sy_iK 16) env σ = some (.inl (A 21 i), σ) := by
  obtain ⟨h1, -, h3, h4⟩ := q_T I hi
  have h4' := (isA_nI I hi).2
  obtain ⟨q, -⟩ := Q.2 i hi
  have hA : sy_iA 0 r e env σ = some (.inl (nI ((A 20 i).toInt.toNat + 16 * (A 21 i).toInt.toNat)), σ) := by
    rw [← q]
    exact ee_An hr he h4' (by decide)
  refine ⟨ee_eq (ee_Dv hA ee_K (by decide)) ?_, ee_eq (ee_Dv hA ee_K (by decide)) ?_⟩
  · show nI _ - nI _ / nI 16 * nI 16 = _
    rw [nmod (by omega) (by omega)]
    exact ntI (by omega) (by omega)
  · show nI _ / nI 16 = _
    rw [ndiv (by omega) (by omega)]
    exact ntI (by omega) (by omega)
theorem tB_self (I : yn_I t A) {ty : Int32} (h : ya_isT A ty = true) : ya_X2_isBelow A ty ty = false := by
  unfold ya_X2_isBelow
  cases hw : ya_walk (fun x => ya_tg A 3 (-1) x) (fun x => decide (x = ty)) 4 (ya_tg A 3 (-1) ty) with
  | none => rfl
  | some y =>
    exfalso
    have hG : ∀ x, (ya_isT A x = true ∧ x.toInt < ty.toInt) → tP A x = -1 ∨ (ya_isT A (tP A x) = true ∧ (tP A x).toInt < ty.toInt) := fun x hx => by
      obtain ⟨-, -, -, -, -, -, g, -⟩ := I.1.2.1 _ hx.1
      rcases g with ⟨g, -⟩ | ⟨g1, g2, -⟩
      · exact Or.inl g
      · exact Or.inr ⟨g1, by omega⟩
    have h0 : tP A ty = -1 ∨ (ya_isT A (tP A ty) = true ∧ (tP A ty).toInt < ty.toInt) := by
      obtain ⟨-, -, -, -, -, -, g, -⟩ := I.1.2.1 _ h
      rcases g with ⟨g, -⟩ | ⟨g1, g2, -⟩
      · exact Or.inl g
      · exact Or.inr ⟨g1, g2⟩
    have h1 := yk_walk_G hG h0 hw
    have h2 := (yk_walk_Q hw).1
    have : y = ty := by simpa using h2
    rw [this] at h1
    omega
theorem t_isList (I : yn_I t A) (T : TT A σ) (Q : QQ A σ) {v : Nat} (hv : v < 4) : sf_L_isList [.ref 44, .ref 49, .ref 52, .int (nI (vn A v))] σ = some (.inl (some (.int (ya_b (ya_X5_isListOrdered A v)))), σ) := by
  have S := I.1
  have hls : (A 19 0).toNatClampNeg = lsN A := rfl
  have h4 : lsN A ≤ 4 := by
    have := I.2.2.2.2.2.2.1
    show (A 19 0).toInt.toNat ≤ 4
    omega
  refine ke_meth ?_ (Nat.le_of_ble_eq_true rfl)
  refine es_Q (es_B (es_Q (es_SI ee_K ?_)))
  have hb : ∀ i : Nat, sy_iA 0 (sy_rL 2) (sy_iK 1) [.ref 44, .ref 49, .ref 52, .int (nI (vn A v)), .int (nI i)] σ = some (.inl (nI (lsN A)), σ) := fun i => by
    rw [← Q.1]
    exact ee_An (ee_R rfl) ee_K (by decide) (by decide)
  have hcl : (nI (lsN A)).toNatClampNeg = lsN A := nI_clamp (by omega)
  have key := es_forBL (σ := σ) (b := sy_iA 0 (sy_rL 2) (sy_iK 1)) (s := (sy_sQ (sy_sB 5 (sy_sQ (sy_sSI 5 (sy_iDv false (sy_iA 0 (sy_rL 1) (sy_iL 4)) (sy_iK 16))) (sy_sQ (sy_wh (sy_cA (sy_cA (sy_cgt (sy_iL 4) (sy_iK 0)) (sy_cge (sy_iL 5) (sy_iK 0))) (sy_cne (sy_iL 5) (sy_iDv false (sy_iA 0 (sy_rL 1) (sy_iSub (sy_iL 4) (sy_iK 1))) (sy_iK 16)))) (sy_sSI 5 (sy_iM (sy_cr 2 sf_L_above) (sy_aR (sy_rL 0) (sy_aI (sy_iL 5) sy_aN)))) 1000) (sy_sI (sy_cO (sy_cN (sy_cI (sy_iM (sy_cr 3 sf_L_sees) (sy_aR (sy_rL 0) (sy_aI (sy_iL 3) (sy_aI (sy_iDv false (sy_iA 0 (sy_rL 1) (sy_iL 4)) (sy_iK 16)) sy_aN)))))) (sy_cA (sy_cgt (sy_iL 4) (sy_iK 0)) (sy_cO (sy_clt (sy_iL 5) (sy_iK 0)) (sy_ceq (sy_iDv false (sy_iA 0 (sy_rL 1) (sy_iL 4)) (sy_iK 16)) (sy_iDv false (sy_iA 0 (sy_rL 1) (sy_iSub (sy_iL 4) (sy_iK 1))) (sy_iK 16)))))) (sy_eZ (sy_iK 0)) sy_sN)))) (sy_sIn 4 1))) (E := fun i => [.ref 44, .ref 49, .ref 52, .int (nI (vn A v)), .int (nI i)]) (P := fun i => ((!(ya_X4_sees A v (ya_ag A 20 (-1) (nI i)))) || ((decide (0 < (nI i))) && (!(ya_X2_isBelow A (ya_ag A 20 (-1) (nI i)) (ya_ag A 20 (-1) ((nI i) - 1))))))) (B := nI (lsN A)) (a := 0) (j := 4) (w := false) (v := true) (k := fun env' => sy_eZ (sy_iK 1) (env'.take 4) (fun _ => sy_fail)) (fun i => rfl) hb (by omega) (by omega) (fun i _ hi k' => ?_) (fun _ => es_eZ1)
  · rw [hcl] at key
    exact key
  · have hi' : i < lsN A := by omega
    obtain ⟨g1, g2, g3, g4⟩ := q_T I hi'
    refine es_Q (es_B (es_Q (es_SI (ev_q I Q hi' (ee_R rfl) (ee_L rfl)).1 (es_Q ?_))))
    rw [g2]
    by_cases h0 : i = 0
    · subst h0
      unfold sy_wh
      rw [sy_bnd_at (ee_cA (x := false) (y := false) (ee_eq (ee_cA (x := false) (y := false) (ee_eq (ee_cB (ee_L rfl) ee_K) rfl) (fun h => by cases h)) rfl) (fun h => by cases h))]
      refine es_I (σ1 := σ) (ee_cO (ee_cN (ee_cb (ev_s I T hv g1 (ee_R rfl) (ee_L rfl) (ev_q I Q hi' (ee_R rfl) (ee_L rfl)).1))) (fun _ => ee_cA (x := false) (y := false) (ee_eq (ee_cB (ee_L rfl) ee_K) rfl) (fun h => by cases h))) (fun _ => es_eZ0) (fun _ => es_N (es_In rfl rfl))
    · obtain ⟨p1, p2, p3, p4⟩ := q_T I (show i - 1 < lsN A by omega)
      have hi1 : nI i - 1 = nI (i - 1) := nsub (b := 1) (by omega)
      have pos : decide ((0 : Int32) < nI i) = true := decide_eq_true (by rw [Int32.lt_iff_toInt_lt, nI_toInt (by omega)]; show (0 : Int) < i; omega)
      rw [hi1, p2, pos]
      have hq1 : ∀ x : Int32, sy_iDv false (sy_iA 0 (sy_rL 1) (sy_iSub (sy_iL 4) (sy_iK 1))) (sy_iK 16) [.ref 44, .ref 49, .ref 52, .int (nI (vn A v)), .int (nI i), .int x] σ = some (.inl (A 20 (i - 1)), σ) := fun x => (ev_q I Q (show i - 1 < lsN A by omega) (ee_R rfl) (ee_eq (ee_B (ee_L rfl) ee_K) hi1)).1
      have key := es_climb (σ := σ) (c := sy_cA (sy_cA (sy_cgt (sy_iL 4) (sy_iK 0)) (sy_cge (sy_iL 5) (sy_iK 0))) (sy_cne (sy_iL 5) (sy_iDv false (sy_iA 0 (sy_rL 1) (sy_iSub (sy_iL 4) (sy_iK 1))) (sy_iK 16)))) (s := sy_sSI 5 (sy_iM (sy_cr 2 sf_L_above) (sy_aR (sy_rL 0) (sy_aI (sy_iL 5) sy_aN)))) (E := fun x => [.ref 44, .ref 49, .ref 52, .int (nI (vn A v)), .int (nI i), .int x]) (nx := tP A) (Q := fun x => decide (x = A 20 (i - 1))) (G := fun x => ya_isT A x = true) (k := fun env => sy_sI (sy_cO (sy_cN (sy_cI (sy_iM (sy_cr 3 sf_L_sees) (sy_aR (sy_rL 0) (sy_aI (sy_iL 3) (sy_aI (sy_iDv false (sy_iA 0 (sy_rL 1) (sy_iL 4)) (sy_iK 16)) sy_aN)))))) (sy_cA (sy_cgt (sy_iL 4) (sy_iK 0)) (sy_cO (sy_clt (sy_iL 5) (sy_iK 0)) (sy_ceq (sy_iDv false (sy_iA 0 (sy_rL 1) (sy_iL 4)) (sy_iK 16)) (sy_iDv false (sy_iA 0 (sy_rL 1) (sy_iSub (sy_iL 4) (sy_iK 1))) (sy_iK 16)))))) (sy_eZ (sy_iK 0)) sy_sN env (fun env' => sy_sIn 4 1 (env'.take 5) k')) (fun x hx => yk_GT S x hx) (fun x hx => ?_) (fun x hx hq k2 => es_SI (ev_u I T hx (ee_R rfl) (ee_L rfl)) rfl) 4 1000 (A 20 i) (Or.inr g1) (yk_dpT4 S g1) (by omega)
      · refine key.trans ?_
        refine (es_I (σ1 := σ) (ee_cO (ee_cN (ee_cb (ev_s I T hv g1 (ee_R rfl) (ee_L rfl) (ev_q I Q hi' (ee_R rfl) (ee_L rfl)).1))) (fun _ => ee_cA (x := true) (ee_eq (ee_cB (ee_L rfl) ee_K) pos) (fun _ => ee_cO (ee_cB (ee_L rfl) ee_K) (fun _ => ee_cB (ev_q I Q hi' (ee_R rfl) (ee_L rfl)).1 (hq1 _))))) (fun _ => es_eZ0) (fun _ => es_N (es_In rfl rfl))).trans ?_
        have e1 : (decide ((ya_walk (tP A) (fun x => decide (x = A 20 (i - 1))) 4 (A 20 i)).elim (-1) (fun y => y) < 0) || decide (A 20 i = A 20 (i - 1))) = !ya_X2_isBelow A (A 20 i) (A 20 (i - 1)) := by
          by_cases he : A 20 i = A 20 (i - 1)
          · rw [← he, tB_self I g1, decide_eq_true rfl, Bool.or_true]
            rfl
          · have hb := yk_below (nx := tP A) (o := A 20 (i - 1)) (ya_isT_ne g1) (yk_dpT4 S g1)
            rw [decide_eq_false he, Bool.false_or] at hb
            have e3 : ya_X2_isBelow A (A 20 i) (A 20 (i - 1)) = (ya_walk (tP A) (fun x => decide (x = A 20 (i - 1))) 4 (tP A (A 20 i))).isSome := yk_elimB
            rw [e3, ← hb, decide_eq_false he, Bool.or_false]
            cases hw : ya_walk (tP A) (fun x => decide (x = A 20 (i - 1))) 4 (A 20 i) with
            | none => rfl
            | some y =>
              have hy := (yk_walk_Q hw).1
              have : y = A 20 (i - 1) := by simpa using hy
              subst this
              show decide (A 20 (i - 1) < 0) = false
              exact decide_eq_false (by rw [Int32.lt_iff_toInt_lt]; show ¬ _ < (0 : Int); omega)
        rw [e1]
        have e2 : nI i + 1 = nI (i + 1) := nadd (a := i) (b := 1)
        rw [e2]
        rfl
      · rcases hx with rfl | hx
        · exact ee_eq (ee_cA (x := false) (y := false) (ee_eq (ee_cA (x := true) (y := false) (ee_eq (ee_cB (ee_L rfl) ee_K) pos) (fun _ => ee_eq (ee_cB (ee_L rfl) ee_K) rfl)) rfl) (fun h => by cases h)) rfl
        · have hne : decide (x = -1) = false := decide_eq_false (ya_isT_ne hx)
          rw [hne]
          exact ee_eq (ee_cA (x := true) (y := !decide (x = A 20 (i - 1))) (ee_eq (ee_cA (x := true) (y := true) (ee_eq (ee_cB (ee_L rfl) ee_K) pos) (fun _ => ee_eq (ee_cB (ee_L rfl) ee_K) (isT_ge0 I hx))) rfl) (fun _ => ee_cB (ee_L rfl) (hq1 _))) rfl
end LA9
