section LA52
variable {A B σ τ : sy_Mem} {t v d0 h0 d p : Nat} {x ty key : Int32} {D : Nat → Bool} {env : List Value}
def LD1 : sy_S := (sy_sB 17 (sy_sQ (sy_sSI 17 (sy_iK 0)) (sy_wh (sy_clt (sy_iL 17) (sy_iK 3)) (sy_sQ (sy_sB 18 (sy_sQ (sy_sSR 18 (sy_rM (sy_cr 4 sf_L_row) (sy_aI (sy_iL 17) (sy_aR (sy_rL 2) (sy_aR (sy_rL 3) (sy_aR (sy_rL 4) sy_aN)))))) (sy_sQ (sy_sSI 19 (sy_iK 0)) (sy_sB 20 (sy_sQ (sy_sSI 20 (sy_iK 0)) (sy_wh (sy_clt (sy_iL 20) (sy_iA 0 (sy_rL 5) (sy_iL 17))) (sy_sQ (sy_sB 21 (sy_sQ (sy_sSI 21 (sy_iC (sy_cA (sy_ceq (sy_iM (sy_cr 2 sf_L_target) (sy_aR (sy_rL 1) (sy_aI (sy_iM (sy_cr 1 sf_L_typeOf) (sy_aL (sy_lA (sy_rL 18) (sy_iL 20)) sy_aN)) sy_aN))) (sy_iL 11)) (sy_ceq (sy_iM (sy_cr 2 sf_L_fieldOf) (sy_aL (sy_lA (sy_rL 18) (sy_iL 20)) (sy_aI (sy_iK 2) sy_aN))) (sy_iL 12))))) (sy_sQ (sy_sSI 22 (sy_iDv false (sy_iDv true (sy_iA 0 (sy_rL 1) (sy_iM (sy_cr 1 sf_L_typeOf) (sy_aL (sy_lA (sy_rL 18) (sy_iL 20)) sy_aN))) (sy_iK 262144)) (sy_iK 4))) (sy_sQ (sy_sI (sy_cO (sy_cA (sy_ceq (sy_iL 17) (sy_iL 8)) (sy_ceq (sy_iL 20) (sy_iL 9))) (sy_cA (sy_cI (sy_iL 21)) (sy_ceq (sy_iL 22) (sy_iK 2)))) (sy_sB 23 (sy_sQ (sy_sSI 23 (sy_iM (sy_cr 4 sf_L_end) (sy_aR (sy_rL 1) (sy_aR (sy_rL 18) (sy_aI (sy_iA 0 (sy_rL 5) (sy_iL 17)) (sy_aI (sy_iL 20) sy_aN)))))) (sy_sSI 19 (sy_iQ (sy_cgt (sy_iL 23) (sy_iL 19)) (sy_iL 23) (sy_iL 19))))) sy_sN) (sy_sQ (sy_sSI 13 (sy_iC (sy_cO (sy_cI (sy_iL 13)) (sy_cA (sy_cA (sy_cI (sy_iL 21)) (sy_ceq (sy_iL 22) (sy_iK 0))) (sy_cge (sy_iL 20) (sy_iL 19)))))) (sy_sAL (sy_rL 18) (sy_iL 20) (sy_lQ (sy_clt (sy_iL 20) (sy_iL 19)) (sy_lK 1099511627776) (sy_lK 0)))))))) (sy_sIn 20 1)) 1000)))))) (sy_sIn 17 1)) 1000)))
def LD2 : sy_S := (sy_sB 17 (sy_sQ (sy_sSI 17 (sy_iK 0)) (sy_wh (sy_clt (sy_iL 17) (sy_iK 3)) (sy_sQ (sy_sB 18 (sy_sQ (sy_sSR 18 (sy_rM (sy_cr 4 sf_L_row) (sy_aI (sy_iL 17) (sy_aR (sy_rL 2) (sy_aR (sy_rL 3) (sy_aR (sy_rL 4) sy_aN)))))) (sy_sQ (sy_sB 19 (sy_sQ (sy_sSI 19 (sy_iK 0)) (sy_wh (sy_clt (sy_iL 19) (sy_iA 0 (sy_rL 5) (sy_iL 17))) (sy_sQ (sy_sB 20 (sy_sQ (sy_sSI 20 (sy_iC (sy_cLe (sy_lS (fun x y => x >>> y) (sy_lA (sy_rL 18) (sy_iL 19)) (sy_iK 40)) (sy_lK 1)))) (sy_sQ (sy_sI (sy_cO (sy_cI (sy_iL 13)) (sy_cN (sy_cI (sy_iL 20)))) (sy_sQ (sy_sWL (sy_rL 18) (sy_iT (sy_rL 14) (sy_iL 17)) (sy_lB (fun x y => x &&& y) (sy_lA (sy_rL 18) (sy_iL 19)) (sy_lK 1099511627775))) (sy_sAT (sy_rL 14) (sy_iL 17) (sy_iK 1))) sy_sN) (sy_sB 21 (sy_sQ (sy_sSI 21 (sy_iK 0)) (sy_wh (sy_clt (sy_iL 21) (sy_iK 4)) (sy_sQ (sy_sAT (sy_rL 16) (sy_iL 21) (sy_iQ (sy_cA (sy_cA (sy_cA (sy_cN (sy_cI (sy_iL 13))) (sy_cI (sy_iL 20))) (sy_ceq (sy_iDv false (sy_iA 0 (sy_rL 6) (sy_iL 21)) (sy_iK 4)) (sy_iL 17))) (sy_clt (sy_iL 19) (sy_iT (sy_rL 15) (sy_iL 21)))) (sy_iK 1) (sy_iK 0))) (sy_sIn 21 1)) 1000)))))) (sy_sIn 19 1)) 1000))) (sy_sW (sy_rL 5) (sy_iL 17) (sy_iT (sy_rL 14) (sy_iL 17)))))) (sy_sIn 17 1)) 1000)))
/-- a number in a row, with its mark -/
def mk40 (D : Nat → Bool) (A : sy_Mem) (s : Int32) : Nat := if ya_dmd D s = true then 1099511627776 else 0
def MRow (A : sy_Mem) (D : Nat → Bool) (i j : Nat) (τ : sy_Mem) : Prop := (∀ d, d < 3 → τ 48 d = nI (cn A d)) ∧ ∀ d, d < 3 → ∀ p, p < cn A d → lg τ (45 + d) p = pL (sk A (sg A d p) + (if d < i ∨ (d = i ∧ p < j) then mk40 D A (sg A d p) else 0))
abbrev eDl (v : Nat) : List Value := [.ref 0, .ref 44, .ref 45, .ref 46, .ref 47, .ref 48, .ref 51, .int (nI v)]
abbrev eD (v d0 h0 : Nat) (ty key td : Int32) : List Value := eDl v ++ [.int (nI d0), .int (nI h0), .ref (45 + d0), .int ty, .int key, .int td, .ref 55, .ref 56, .ref 57]
/-- what is known of the one that goes -/
def DH (t d0 h0 : Nat) (x ty key : Int32) (D : Nat → Bool) (A : sy_Mem) : Prop := yn_I t A ∧ (d0 < 3 ∧ h0 < cn A d0) ∧ x = sg A d0 h0 ∧ yT A x = ty ∧ ya_N A x 0 = key ∧ ya_dm A x 60 = D
theorem del_mark (H : DH t d0 h0 x ty key D A) (T : TT A σ) (R : RW A σ) : SX LD1 (eD v d0 h0 ty key 0) σ (fun e τ => e = eD v d0 h0 ty key (ya_b (bnC A x D 3)) ∧ MRow A D 3 0 τ ∧ ∀ k, k < 45 ∨ 47 < k → τ k = σ k) := by
  obtain ⟨I, ⟨hd0, hh0⟩, hx, hty, hkey, hD⟩ := H
  have hxl : yl A x := by
    rw [hx]
    exact (sg_ok I hd0 hh0).1
  have h60 := fun d (hd : d < 3) => cn_le I hd
  unfold LD1
  refine sx_B (sx_SIQ ee_K ?_)
  refine sx_wh (N := 3) (Inv := fun i e τ => e = eD v d0 h0 ty key (ya_b (bnC A x D i)) ++ [.int (nI i)] ∧ MRow A D i 0 τ ∧ ∀ k, k < 45 ∨ 47 < k → τ k = σ k) (fun i e τ hi hI => ?_) 3 0 1000 _ _ (by omega) (by omega) ⟨rfl, ⟨fun d hd => (R d hd).1, fun d hd p hp => by rw [if_neg (by omega)]; exact (R d hd).2 p hp⟩, fun _ _ => rfl⟩
  obtain ⟨rfl, MR, F⟩ := hI
  refine ⟨decide (i < 3), ee_eq (ee_cB (ee_L rfl) ee_K) (nI_ltd (q := 3) (by omega) (by omega)), fun hx3 => ?_, fun hx3 => ?_⟩
  rotate_left
  · have : i = 3 := by
      have := of_decide_eq_false hx3
      omega
    subst this
    exact ⟨rfl, MR, F⟩
  have hi3 := of_decide_eq_true hx3
  have h6 := h60 i hi3
  refine ⟨hi3, ?_⟩
  refine sx_Q (R := fun e τ2 => e = eD v d0 h0 ty key (ya_b (bnC A x D (i + 1))) ++ [.int (nI i)] ∧ MRow A D (i + 1) 0 τ2 ∧ ∀ k, k < 45 ∨ 47 < k → τ2 k = σ k) (sx_B (sx_SRQ (ee_rM (ee_aI (ee_L rfl) (ee_aR (ee_R rfl) (ee_aR (ee_R rfl) (ee_aR (ee_R rfl) ee_aN)))) (ee_cr (t_row hi3) rfl)) (sx_SIQ ee_K (sx_B (sx_SIQ ee_K ?_))))) ?_
  rotate_left
  · rintro e τ2 ⟨rfl, r2, r3⟩
    refine ⟨_, τ2, ⟨rfl, r2, r3⟩, fun k => es_In rfl ?_⟩
    exact congrArg (fun z => k (eD v d0 h0 ty key (ya_b (bnC A x D (i + 1))) ++ [.int z]) τ2) (nadd (a := i) (b := 1))
  refine sx_wh (N := cn A i) (Inv := fun j e τ => e = eD v d0 h0 ty key (ya_b (bnC A x D i || bnR A x D i j)) ++ [.int (nI i), .ref (45 + i), .int (nI (unt A x i j)), .int (nI j)] ∧ MRow A D i j τ ∧ ∀ k, k < 45 ∨ 47 < k → τ k = σ k) (fun j e τ hj hI => ?_) (cn A i) 0 1000 _ _ (by omega) (by omega) ⟨by rw [show bnR A x D i 0 = false from rfl, Bool.or_false]; rfl, MR, F⟩
  obtain ⟨rfl, MR, F⟩ := hI
  have hcn : ∀ env : List Value, env[5]? = some (.ref 48) → env[17]? = some (.int (nI i)) → sy_iA 0 (sy_rL 5) (sy_iL 17) env τ = some (.inl (nI (cn A i)), τ) := fun env h1 h2 => by
    rw [← MR.1 i hi3]
    exact ee_An (ee_R h1) (ee_L h2) (show i < 3 from hi3) (by decide)
  refine ⟨decide (j < cn A i), ee_eq (ee_cB (ee_L rfl) (hcn _ rfl rfl)) (nI_ltd (by omega) (by omega)), fun hxj => ?_, fun hxj => ?_⟩
  rotate_left
  · have : j = cn A i := by
      have := of_decide_eq_false hxj
      omega
    subst this
    refine ⟨rfl, ⟨MR.1, fun d hd p hp => ?_⟩, F⟩
    rw [MR.2 d hd p hp]
    by_cases q : d < i ∨ (d = i ∧ p < cn A i)
    · rw [if_pos q, if_pos (by omega)]
    · rw [if_neg q, if_neg (fun h => q (by
        rcases h with h | h
        · by_cases e : d = i
          · right
            rw [e] at hp
            exact ⟨e, hp⟩
          · omega
        · omega))]
  have hjc := of_decide_eq_true hxj
  refine ⟨hjc, ?_⟩
  have T' : TT A τ := TT_b (fun _ _ => rfl) (F 44 (by omega)) T
  have R0 : ∀ q, j ≤ q → q < cn A i → lg τ (45 + i) q = pL (sk A (sg A i q)) := fun q hq hqc => by
    rw [MR.2 i hi3 q hqc, if_neg (by omega)]
    rfl
  have Rj := R0 j (Nat.le_refl _) hjc
  obtain ⟨a1, a2, a3⟩ := sg_ok I hi3 hjc
  have hTj := (I.2.1.1 _ a1).1
  obtain ⟨sec, hsec⟩ : ∃ b, b = ya_X3_isTied A (sg A i j) x := ⟨_, rfl⟩
  obtain ⟨go, hgo⟩ : ∃ z, z = tO A (yT A (sg A i j)) := ⟨_, rfl⟩
  have hu := unt_le (x := x) I hi3 (j + 1) (by omega)
  have hu0 := unt_le (x := x) I hi3 j (by omega)
  have hdm : ya_dmd D (sg A i j) = decide (j < unt A x i (j + 1)) := dmd_unt I hxl hD hi3 hjc
  refine sx_Q (R := fun e τ2 => e = eD v d0 h0 ty key (ya_b (bnC A x D i || bnR A x D i (j + 1))) ++ [.int (nI i), .ref (45 + i), .int (nI (unt A x i (j + 1))), .int (nI j)] ∧ MRow A D i (j + 1) τ2 ∧ ∀ k, k < 45 ∨ 47 < k → τ2 k = σ k) (sx_B ?_) ?_
  rotate_left
  · rintro e τ2 ⟨rfl, r2, r3⟩
    refine ⟨_, τ2, ⟨rfl, r2, r3⟩, fun k => es_In rfl ?_⟩
    exact congrArg (fun z => k (eD v d0 h0 ty key (ya_b (bnC A x D i || bnR A x D i (j + 1))) ++ [.int (nI i), .ref (45 + i), .int (nI (unt A x i (j + 1))), .int z]) τ2) (nadd (a := j) (b := 1))
  refine sx_SIQ (x := ya_b sec) (σ1 := τ) (ee_iC (ee_eq (ee_cA (ee_cB (ev_g I T' hTj (ee_R rfl) (r0_t I hi3 hjc Rj (ee_R rfl) (ee_L rfl))) (ee_L rfl)) (fun _ => ee_cB (r0_f I (f := 2) hi3 hjc (by omega) Rj (ee_R rfl) (ee_L rfl) ee_K) (ee_L rfl))) (by rw [hsec, ← second_is hxl, ← hty, ← hkey]; rfl))) ?_
  refine sx_SIQ (x := go) (σ1 := τ) (ee_eq (ev_K I T' hTj (ee_R rfl) (r0_t I hi3 hjc Rj (ee_R rfl) (ee_L rfl))).2.2.2 hgo.symm) ?_
  have htrg : ((decide (nI i = nI d0) && decide (nI j = nI h0)) || (sec && decide (go = 2))) = trg A x i j := by
    unfold trg
    rw [← hsec, ← hgo]
    refine congrArg (fun b => b || (sec && decide (go = 2))) ?_
    rw [nI_eqd (by omega) (by omega), nI_eqd (by omega) (by have := h60 d0 hd0; omega), ← Bool.decide_and, decide_eq_decide]
    constructor
    · rintro ⟨e1, e2⟩
      rw [e1, e2, hx]
    · intro e
      obtain ⟨b1, b2, b3⟩ := sg_ok I hd0 hh0
      rw [hx] at e
      rw [e, b2] at a2
      have h1 := congrArg Int32.toInt a2
      rw [nI_toInt (by omega), nI_toInt (by omega)] at h1
      have e1 : i = d0 := by omega
      subst e1
      exact ⟨rfl, sg_inj I hi3 hjc hh0 e⟩
  refine sx_Q (R := fun e τ2 => e = eD v d0 h0 ty key (ya_b (bnC A x D i || bnR A x D i j)) ++ [.int (nI i), .ref (45 + i), .int (nI (unt A x i (j + 1))), .int (nI j), .int (ya_b sec), .int go] ∧ τ = τ2) (sx_I (ee_eq (ee_cO (ee_cA (ee_cB (ee_L rfl) (ee_L rfl)) (fun _ => ee_cB (ee_L rfl) (ee_L rfl))) (fun _ => ee_cA (ee_cb (c := sec) (ee_L rfl)) (fun _ => ee_cB (ee_L rfl) ee_K))) htrg) (fun ht => ?_) (fun ht => ?_)) ?_
  · have hend := t_end0 I T' hi3 hjc R0
    have hE := (yE_is I hi3 hjc).2.1
    refine sx_B (sx_SIQ (ee_M (ee_aR (ee_R rfl) (ee_aR (ee_R rfl) (ee_aI (hcn _ rfl rfl) (ee_aI (ee_L rfl) ee_aN)))) (ee_cr hend rfl)) (sx_SI (x := nI (unt A x i (j + 1))) (σ1 := τ) (ee_eq (ee_iQ (ee_eq (ee_cB (ee_L rfl) (ee_L rfl)) (nI_ltd (p := unt A x i j) (q := yE A i j) (by omega) (by omega))) (fun _ => ee_L rfl) (fun _ => ee_L rfl)) ?_) ⟨rfl, rfl⟩))
    show _ = nI (if trg A x i j = true then (if unt A x i j < yE A i j then yE A i j else unt A x i j) else unt A x i j)
    rw [if_pos ht]
    by_cases q : unt A x i j < yE A i j
    · rw [decide_eq_true q, if_pos rfl, if_pos q]
    · rw [decide_eq_false q, if_neg (by decide), if_neg q]
  · refine sx_N ⟨?_, rfl⟩
    have e1 : unt A x i (j + 1) = unt A x i j := by
      show (if trg A x i j = true then (if unt A x i j < yE A i j then yE A i j else unt A x i j) else unt A x i j) = _
      rw [ht, if_neg (by decide)]
    rw [e1]
    rfl
  rintro e τ2 ⟨rfl, rfl⟩
  have hbn : ((bnC A x D i || bnR A x D i j) || ((sec && decide (go = 0)) && decide (nI (unt A x i (j + 1)) ≤ nI j))) = (bnC A x D i || bnR A x D i (j + 1)) := by
    rw [bnR_S, Bool.or_assoc]
    refine congrArg (fun b => bnC A x D i || (bnR A x D i j || b)) ?_
    unfold bnd1
    rw [← hsec, ← hgo, hdm]
    refine congrArg (fun b => (sec && decide (go = 0)) && b) ?_
    rw [← decide_not, decide_eq_decide, Int32.le_iff_toInt_le, nI_toInt (by omega), nI_toInt (by omega)]
    omega
  refine sx_SIQ (x := ya_b (bnC A x D i || bnR A x D i (j + 1))) (σ1 := τ) (ee_iC (ee_eq (ee_cO (ee_cb (c := bnC A x D i || bnR A x D i j) (ee_L rfl)) (fun _ => ee_cA (ee_cA (ee_cb (c := sec) (ee_L rfl)) (fun _ => ee_cB (ee_L rfl) ee_K)) (fun _ => ee_cB (ee_L rfl) (ee_L rfl)))) hbn)) ?_
  have hl2 : j < sy_len 3 (45 + i) := by rw [rw_len hi3]; omega
  have hl3 : sy_len 3 (45 + i) ≤ 200 := by rw [rw_len hi3]; omega
  have hval : lg τ (45 + i) j + (if decide (j < unt A x i (j + 1)) = true then (1099511627776 : Int64) else 0) = pL (sk A (sg A i j) + mk40 D A (sg A i j)) := by
    unfold mk40
    rw [Rj, hdm]
    cases decide (j < unt A x i (j + 1)) with
    | true =>
      rw [if_pos rfl, if_pos rfl, show (1099511627776 : Int64) = pL 1099511627776 from rfl, pL_add]
    | false =>
      rw [if_neg (by decide), if_neg (by decide), show (0 : Int64) = pL 0 from rfl, pL_add]
  refine ⟨_, sy_upL τ (45 + i) j (pL (sk A (sg A i j) + mk40 D A (sg A i j))), ⟨rfl, ⟨fun d hd => by rw [upL_ne (by omega)]; exact MR.1 d hd, fun d hd p hp => ?_⟩, fun k hk => by rw [upL_ne (by omega)]; exact F k hk⟩, fun k => es_AL (j := j) (a := 45 + i) (ee_R rfl) (ee_L rfl) (ee_lQ (ee_eq (ee_cB (ee_L rfl) (ee_L rfl)) (nI_ltd (p := j) (q := unt A x i (j + 1)) (by omega) (by omega))) (fun _ => ee_lK) (fun _ => ee_lK)) hl2 hl3 (by rw [hval])⟩
  rw [lg_up]
  by_cases q : 45 + d = 45 + i ∧ p = j
  · obtain ⟨q1, q2⟩ := q
    have q3 : d = i := by omega
    subst q3
    subst q2
    rw [if_pos ⟨rfl, rfl⟩, if_pos (by omega)]
  · rw [if_neg q, MR.2 d hd p hp]
    by_cases q2 : d < i ∨ (d = i ∧ p < j)
    · rw [if_pos q2, if_pos (by omega)]
    · rw [if_neg q2, if_neg (fun h => by omega)]
end LA52
