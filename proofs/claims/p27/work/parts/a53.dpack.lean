section LA53
variable {A B σ τ : sy_Mem} {t v d0 h0 d p : Nat} {x ty key : Int32} {D : Nat → Bool} {tdb : Bool} {pv : Nat → Nat} {env : List Value}
def kpP (A : sy_Mem) (D : Nat → Bool) (tdb : Bool) (d p : Nat) : Bool := tdb || !ya_dmd D (sg A d p)
def kwP (A : sy_Mem) (D : Nat → Bool) (tdb : Bool) (d n : Nat) : Nat := ya_cw (kpP A D tdb d) n
abbrev dvP (A : sy_Mem) (w : Nat) : Nat := vn A w % 4
def cqP (A : sy_Mem) (D : Nat → Bool) (pv : Nat → Nat) (w n : Nat) : Nat := ya_cw (fun p => ya_dmd D (sg A (dvP A w) p) && decide (p < pv w)) n
def lsP (A : sy_Mem) (D : Nat → Bool) (tdb : Bool) (pv : Nat → Nat) (w i j : Nat) : Nat := if tdb = true then 0 else if dvP A w < i then cqP A D pv w (cn A (dvP A w)) else if dvP A w = i then cqP A D pv w j else 0
def PIv (A : sy_Mem) (D : Nat → Bool) (tdb : Bool) (pv : Nat → Nat) (σ : sy_Mem) (i j : Nat) (τ : sy_Mem) : Prop :=
  (∀ d, d < 3 → τ 48 d = nI (if d < i then kwP A D tdb d (cn A d) else cn A d)) ∧
  (∀ d, d < 3 → ∀ q, q < cn A d → ((d < i ∨ (d = i ∧ q < j)) → kpP A D tdb d q = true → lg τ (45 + d) (kwP A D tdb d q) = pL (sk A (sg A d q))) ∧ (¬ (d < i ∨ (d = i ∧ q < j)) → lg τ (45 + d) q = pL (sk A (sg A d q) + mk40 D A (sg A d q)))) ∧
  (∀ d, d < 3 → τ 55 d = nI (if d < i then kwP A D tdb d (cn A d) else if d = i then kwP A D tdb d j else 0)) ∧
  (∀ w, w < 4 → τ 57 w = nI (lsP A D tdb pv w i j)) ∧
  ∀ k, k < 45 ∨ (48 < k ∧ k ≠ 55 ∧ k ≠ 57) → τ k = σ k
theorem cw_le {P : Nat → Bool} : ∀ n, ya_cw P n ≤ n := yp_le
theorem ls_S {w i j : Nat} : lsP A D tdb pv w i (j + 1) = lsP A D tdb pv w i j + (if (((!tdb && ya_dmd D (sg A i j)) && decide (dvP A w = i)) && decide (j < pv w)) = true then 1 else 0) := by
  unfold lsP
  cases tdb with
  | true => rfl
  | false =>
    rw [if_neg (show ¬ (false = true) by decide), if_neg (show ¬ (false = true) by decide)]
    by_cases h1 : dvP A w < i
    · rw [if_pos h1, if_pos h1, decide_eq_false (show ¬ dvP A w = i by omega), Bool.and_false, Bool.false_and, if_neg (show ¬ (false = true) by decide)]
      rfl
    · rw [if_neg h1, if_neg h1]
      by_cases h2 : dvP A w = i
      · rw [if_pos h2, if_pos h2, decide_eq_true h2, Bool.and_true, Bool.not_false, Bool.true_and]
        unfold cqP
        rw [h2]
        rfl
      · rw [if_neg h2, if_neg h2, decide_eq_false h2, Bool.and_false, Bool.false_and, if_neg (show ¬ (false = true) by decide)]
theorem ls_R {w i : Nat} (hw : dvP A w < 3) : lsP A D tdb pv w i (cn A i) = lsP A D tdb pv w (i + 1) 0 := by
  unfold lsP
  by_cases h0 : tdb = true
  · rw [if_pos h0, if_pos h0]
  · rw [if_neg h0, if_neg h0]
    by_cases h1 : dvP A w < i
    · rw [if_pos h1, if_pos (by omega)]
    · rw [if_neg h1]
      by_cases h2 : dvP A w = i
      · rw [if_pos h2, if_pos (by omega), h2]
      · rw [if_neg h2, if_neg (by omega)]
        by_cases h3 : dvP A w = i + 1
        · rw [if_pos h3]
          rfl
        · rw [if_neg h3]
theorem mk_out (I : yn_I t A) {s : Int32} (hs : yl A s) : decide (pL (sk A s + mk40 D A s) >>> ((40 : Int32).toInt64 &&& 63) = 1) = ya_dmd D s ∧ pL (sk A s + mk40 D A s) &&& 1099511627775 = pL (sk A s) := by
  have h := sk_lt I.1 I.2.1 hs
  have hm : mk40 D A s ≤ 1099511627776 := by
    unfold mk40
    split <;> omega
  refine ⟨?_, ?_⟩
  · rw [show (40 : Int32) = nI 40 from rfl, pL_shr 40 (by omega) (by omega)]
    unfold mk40
    cases ya_dmd D s with
    | true =>
      rw [if_pos rfl, show (sk A s + 1099511627776) / 2 ^ 40 = 1 by omega]
      rfl
    | false =>
      rw [if_neg (by decide), show (sk A s + 0) / 2 ^ 40 = 0 by omega]
      rfl
  · rw [show (1099511627775 : Int64) = pL (2 ^ 40 - 1) from rfl, pL_and 40 (by omega) (by omega)]
    refine congrArg pL ?_
    unfold mk40
    cases ya_dmd D s with
    | true =>
      rw [if_pos rfl]
      omega
    | false =>
      rw [if_neg (by decide)]
      omega
theorem del_pack (H : DH t d0 h0 x ty key D A) (V : ∀ w, w < 4 → σ 51 w = nI (vn A w) ∧ vn A w < 2 ^ 20 ∧ dvP A w < 3) (hpv : ∀ w, w < 4 → σ 56 w = nI (pv w) ∧ pv w ≤ 60) (h58 : σ 58 55 = 1 ∧ σ 58 56 = 1 ∧ σ 58 57 = 1) (MR : MRow A D 3 0 σ) (h55 : ∀ d, d < 3 → σ 55 d = 0) (h57 : ∀ w, w < 4 → σ 57 w = 0) :
    SX LD2 (eD v d0 h0 ty key (ya_b tdb)) σ (fun e τ => e = eD v d0 h0 ty key (ya_b tdb) ∧ PIv A D tdb pv σ 3 0 τ) := by
  obtain ⟨I, ⟨hd0, hh0⟩, hx, hty, hkey, hD⟩ := H
  have h60 := fun d (hd : d < 3) => cn_le I hd
  have hkn : ∀ d n, kwP A D tdb d n ≤ n := fun d n => cw_le n
  unfold LD2
  refine sx_B (sx_SIQ ee_K ?_)
  refine sx_wh (N := 3) (Inv := fun i e τ => e = eD v d0 h0 ty key (ya_b tdb) ++ [.int (nI i)] ∧ PIv A D tdb pv σ i 0 τ) (fun i e τ hi hI => ?_) 3 0 1000 _ _ (by omega) (by omega) ⟨rfl, fun d hd => by rw [if_neg (by omega)]; exact MR.1 d hd, fun d hd q hq => ⟨fun h => absurd h (by omega), fun _ => by rw [MR.2 d hd q hq, if_pos (by omega)]⟩, fun d hd => by
      rw [if_neg (by omega), h55 d hd]
      by_cases e : d = 0
      · rw [if_pos e]; rfl
      · rw [if_neg e]; rfl, fun w hw => by
      rw [h57 w hw]
      have : lsP A D tdb pv w 0 0 = 0 := by
        unfold lsP
        split
        · rfl
        · rw [if_neg (by omega)]
          split <;> rfl
      rw [this]
      rfl, fun _ _ => rfl⟩
  obtain ⟨rfl, PI⟩ := hI
  refine ⟨decide (i < 3), ee_eq (ee_cB (ee_L rfl) ee_K) (nI_ltd (q := 3) (by omega) (by omega)), fun hx3 => ?_, fun hx3 => ?_⟩
  rotate_left
  · have : i = 3 := by
      have := of_decide_eq_false hx3
      omega
    subst this
    exact ⟨rfl, PI⟩
  have hi3 := of_decide_eq_true hx3
  have h6 := h60 i hi3
  refine ⟨hi3, ?_⟩
  refine sx_Q (R := fun e τ2 => e = eD v d0 h0 ty key (ya_b tdb) ++ [.int (nI i)] ∧ PIv A D tdb pv σ (i + 1) 0 τ2) (sx_B (sx_SRQ (ee_rM (ee_aI (ee_L rfl) (ee_aR (ee_R rfl) (ee_aR (ee_R rfl) (ee_aR (ee_R rfl) ee_aN)))) (ee_cr (t_row hi3) rfl)) ?_)) ?_
  rotate_left
  · rintro e τ2 ⟨rfl, r2⟩
    refine ⟨_, τ2, ⟨rfl, r2⟩, fun k => es_In rfl ?_⟩
    exact congrArg (fun z => k (eD v d0 h0 ty key (ya_b tdb) ++ [.int z]) τ2) (nadd (a := i) (b := 1))
  refine sx_Q (R := fun e τ2 => e = eD v d0 h0 ty key (ya_b tdb) ++ [.int (nI i), .ref (45 + i)] ∧ PIv A D tdb pv σ i (cn A i) τ2) (sx_B (sx_SIQ ee_K ?_)) ?_
  rotate_left
  · -- the row's new length
    rintro e τ2 ⟨rfl, P1, P2, P3, P4, P5⟩
    have hT : sy_isT 55 τ2 = true := by
      unfold sy_isT
      rw [P5 58 (by omega), h58.1]
      rfl
    have e55 : τ2 55 i = nI (kwP A D tdb i (cn A i)) := by rw [P3 i hi3, if_neg (by omega), if_pos rfl]
    refine ⟨_, sy_up τ2 48 i (nI (kwP A D tdb i (cn A i))), ⟨rfl, fun d hd => ?_, fun d hd q hq => ⟨fun h1 h2 => ?_, fun h1 => ?_⟩, fun d hd => ?_, fun w hw => ?_, fun k hk => by rw [up_ne (by omega)]; exact P5 k hk⟩, fun k => es_Wn (j := i) (ee_R rfl) (ee_L rfl) (ee_eq (ee_T (j := i) (ee_R rfl) (ee_L rfl) hT (show i < 3 from hi3)) e55) (show i < 3 from hi3) (by decide) rfl⟩
    · rw [up_at]
      by_cases q : d = i
      · rw [if_pos q, q, if_pos (by omega)]
      · rw [if_neg q, P1 d hd]
        by_cases q2 : d < i
        · rw [if_pos q2, if_pos (by omega)]
        · rw [if_neg q2, if_neg (by omega)]
    · rw [lg_up0 (by omega)]
      refine (P2 d hd q hq).1 ?_ h2
      by_cases e : d = i
      · rw [e] at hq
        exact Or.inr ⟨e, hq⟩
      · omega
    · rw [lg_up0 (by omega)]
      exact (P2 d hd q hq).2 (by omega)
    · rw [up_ne (by decide), P3 d hd]
      by_cases q : d < i
      · rw [if_pos q, if_pos (by omega)]
      · rw [if_neg q]
        by_cases q2 : d = i
        · rw [if_pos q2, if_pos (by omega), q2]
        · rw [if_neg q2, if_neg (by omega)]
          by_cases q3 : d = i + 1
          · rw [if_pos q3]; rfl
          · rw [if_neg q3]
    · rw [up_ne (by decide), P4 w hw, ls_R (V w hw).2.2]
  refine sx_wh (N := cn A i) (Inv := fun j e τ => e = eD v d0 h0 ty key (ya_b tdb) ++ [.int (nI i), .ref (45 + i), .int (nI j)] ∧ PIv A D tdb pv σ i j τ) (fun j e τ hj hI => ?_) (cn A i) 0 1000 _ _ (by omega) (by omega) ⟨rfl, PI⟩
  obtain ⟨rfl, P1, P2, P3, P4, P5⟩ := hI
  have hcn : ∀ env : List Value, env[5]? = some (.ref 48) → env[17]? = some (.int (nI i)) → sy_iA 0 (sy_rL 5) (sy_iL 17) env τ = some (.inl (nI (cn A i)), τ) := fun env h1 h2 => by
    have := P1 i hi3
    rw [if_neg (by omega)] at this
    rw [← this]
    exact ee_An (ee_R h1) (ee_L h2) (show i < 3 from hi3) (by decide)
  refine ⟨decide (j < cn A i), ee_eq (ee_cB (ee_L rfl) (hcn _ rfl rfl)) (nI_ltd (by omega) (by omega)), fun hxj => ?_, fun hxj => ?_⟩
  rotate_left
  · have : j = cn A i := by
      have := of_decide_eq_false hxj
      omega
    subst this
    exact ⟨rfl, P1, P2, P3, P4, P5⟩
  have hjc := of_decide_eq_true hxj
  refine ⟨hjc, ?_⟩
  have hrow : lg τ (45 + i) j = pL (sk A (sg A i j) + mk40 D A (sg A i j)) := (P2 i hi3 j hjc).2 (by omega)
  obtain ⟨a1, a2, a3⟩ := sg_ok I hi3 hjc
  obtain ⟨mo1, mo2⟩ := mk_out (D := D) I a1
  have hl2 : j < sy_len 3 (45 + i) := by rw [rw_len hi3]; omega
  have hl3 : sy_len 3 (45 + i) ≤ 200 := by rw [rw_len hi3]; omega
  have hrd : ∀ env : List Value, env[18]? = some (.ref (45 + i)) → env[19]? = some (.int (nI j)) → sy_lA (sy_rL 18) (sy_iL 19) env τ = some (.inl (pL (sk A (sg A i j) + mk40 D A (sg A i j))), τ) := fun env h1 h2 => by
    rw [← hrow]
    exact ee_lA (ee_R h1) (ee_L h2) hl2 hl3
  have hT55 : ∀ ρ : sy_Mem, ρ 58 = σ 58 → sy_isT 55 ρ = true ∧ sy_isT 56 ρ = true ∧ sy_isT 57 ρ = true := fun ρ h => by
    unfold sy_isT
    rw [h, h58.1, h58.2.1, h58.2.2]
    exact ⟨rfl, rfl, rfl⟩
  obtain ⟨out, hout⟩ : ∃ b, b = ya_dmd D (sg A i j) := ⟨_, rfl⟩
  refine sx_Q (R := fun e τ2 => e = eD v d0 h0 ty key (ya_b tdb) ++ [.int (nI i), .ref (45 + i), .int (nI j)] ∧ PIv A D tdb pv σ i (j + 1) τ2) (sx_B (sx_SIQ (x := ya_b out) (σ1 := τ) (ee_iC (ee_eq (ee_cL (ee_lS (hrd _ rfl rfl) ee_K) ee_lK) (mo1.trans hout.symm))) ?_)) ?_
  rotate_left
  · rintro e τ2 ⟨rfl, r2⟩
    refine ⟨_, τ2, ⟨rfl, r2⟩, fun k => es_In rfl ?_⟩
    exact congrArg (fun z => k (eD v d0 h0 ty key (ya_b tdb) ++ [.int (nI i), .ref (45 + i), .int z]) τ2) (nadd (a := j) (b := 1))
  have e55 : τ 55 i = nI (kwP A D tdb i j) := by rw [P3 i hi3, if_neg (by omega), if_pos rfl]
  have hkS : kwP A D tdb i (j + 1) = kwP A D tdb i j + (if kpP A D tdb i j = true then 1 else 0) := rfl
  have hkle := hkn i j
  -- kept, or not
  refine sx_Q (R := fun e τ2 => e = eD v d0 h0 ty key (ya_b tdb) ++ [.int (nI i), .ref (45 + i), .int (nI j), .int (ya_b out)] ∧
      (∀ d, d < 3 → τ2 48 d = nI (if d < i then kwP A D tdb d (cn A d) else cn A d)) ∧
      (∀ d, d < 3 → ∀ q, q < cn A d → ((d < i ∨ (d = i ∧ q < j + 1)) → kpP A D tdb d q = true → lg τ2 (45 + d) (kwP A D tdb d q) = pL (sk A (sg A d q))) ∧ (¬ (d < i ∨ (d = i ∧ q < j + 1)) → lg τ2 (45 + d) q = pL (sk A (sg A d q) + mk40 D A (sg A d q)))) ∧
      (∀ d, d < 3 → τ2 55 d = nI (if d < i then kwP A D tdb d (cn A d) else if d = i then kwP A D tdb d (j + 1) else 0)) ∧
      (∀ w, w < 4 → τ2 57 w = nI (lsP A D tdb pv w i j)) ∧
      ∀ k, k < 45 ∨ (48 < k ∧ k ≠ 55 ∧ k ≠ 57) → τ2 k = σ k) (sx_I (x := kpP A D tdb i j) (ee_eq (ee_cO (ee_cb (c := tdb) (ee_L rfl)) (fun _ => ee_cN (ee_cb (c := out) (ee_L rfl)))) (by rw [hout]; rfl)) (fun hk => ?_) (fun hk => ?_)) ?_
  · rw [hk, if_pos rfl] at hkS
    have hl4 : kwP A D tdb i j < sy_len 3 (45 + i) := by rw [rw_len hi3]; omega
    refine sx_DQ (env' := eD v d0 h0 ty key (ya_b tdb) ++ [.int (nI i), .ref (45 + i), .int (nI j), .int (ya_b out)]) (σ1 := sy_upL τ (45 + i) (kwP A D tdb i j) (pL (sk A (sg A i j)))) (fun k => es_WL (j := kwP A D tdb i j) (a := 45 + i) (ee_R rfl) (ee_eq (ee_T (j := i) (ee_R rfl) (ee_L rfl) (hT55 τ (P5 58 (by omega))).1 (show i < 3 from hi3)) e55) (ee_lB (hrd _ rfl rfl) ee_lK) hl4 hl3 (by rw [mo2]; rfl)) ?_
    have k58 : sy_upL τ (45 + i) (kwP A D tdb i j) (pL (sk A (sg A i j))) 58 = σ 58 := (upL_ne (by omega)).trans (P5 58 (by omega))
    refine ⟨_, sy_up (sy_upL τ (45 + i) (kwP A D tdb i j) (pL (sk A (sg A i j)))) 55 i (nI (kwP A D tdb i (j + 1))), ⟨rfl, fun d hd => by rw [up_ne (by decide), upL_ne (by omega)]; exact P1 d hd, fun d hd q hq => ?_, fun d hd => ?_, fun w hw => by rw [up_ne (by decide), upL_ne (by omega)]; exact P4 w hw, fun k hk => by rw [up_ne (by omega), upL_ne (by omega)]; exact P5 k hk⟩, fun k => es_AT (j := i) (ee_R rfl) (ee_L rfl) (hT55 _ k58).1 ee_K (hT55 _ k58).1 (show i < 3 from hi3) ?_⟩
    · rw [lg_up0 (by omega), lg_up0 (by omega), lg_up, lg_up]
      refine ⟨fun h1 h2 => ?_, fun h1 => ?_⟩
      · by_cases e : d = i
        · subst e
          by_cases e2 : q = j
          · rw [e2, if_pos ⟨rfl, rfl⟩]
          · have hlt := (yp_lti (P := kpP A D tdb d) h2 hk).mpr (show q < j by omega)
            have hlt : kwP A D tdb d q < kwP A D tdb d j := hlt
            rw [if_neg (fun h => by omega)]
            exact (P2 d hd q hq).1 (by omega) h2
        · rw [if_neg (fun h => e (by omega))]
          exact (P2 d hd q hq).1 (by omega) h2
      · rw [if_neg (fun h => by omega)]
        exact (P2 d hd q hq).2 (by omega)
    · rw [up_at]
      by_cases e : d = i
      · rw [if_pos e, if_neg (by omega), if_pos e, e]
      · rw [if_neg e, upL_ne (by omega), P3 d hd, if_neg e, if_neg e]
    · rw [upL_ne (by omega), e55, hkS]
      exact congrArg (fun z => k (eD v d0 h0 ty key (ya_b tdb) ++ [.int (nI i), .ref (45 + i), .int (nI j), .int (ya_b out)]) (sy_up (sy_upL τ (45 + i) (kwP A D tdb i j) (pL (sk A (sg A i j)))) 55 i z)) (nadd (b := 1))
  · rw [hk, if_neg (by decide)] at hkS
    refine sx_N ⟨rfl, P1, fun d hd q hq => ⟨fun h1 h2 => ?_, fun h1 => (P2 d hd q hq).2 (by omega)⟩, fun d hd => ?_, P4, P5⟩
    · by_cases e : d = i ∧ q = j
      · rw [e.1, e.2, hk] at h2
        cases h2
      · exact (P2 d hd q hq).1 (by omega) h2
    · rw [P3 d hd]
      by_cases e : d = i
      · rw [if_pos e, if_pos e, e, hkS]
        rfl
      · rw [if_neg e, if_neg e]
  -- each view
  rintro e τ2 ⟨rfl, Q1, Q2, Q3, Q4, Q5⟩
  refine sx_B (sx_SIQ ee_K ?_)
  refine sx_wh (N := 4) (Inv := fun m e τ3 => e = eD v d0 h0 ty key (ya_b tdb) ++ [.int (nI i), .ref (45 + i), .int (nI j), .int (ya_b out), .int (nI m)] ∧ (∀ k, k ≠ 57 → τ3 k = τ2 k) ∧ ∀ w, w < 4 → τ3 57 w = nI (if w < m then lsP A D tdb pv w i (j + 1) else lsP A D tdb pv w i j)) (fun m e τ3 hm hI => ?_) 4 0 1000 _ _ (by omega) (by omega) ⟨rfl, fun _ _ => rfl, fun w hw => by rw [if_neg (by omega)]; exact Q4 w hw⟩
  obtain ⟨rfl, F3, L3⟩ := hI
  refine ⟨decide (m < 4), ee_eq (ee_cB (ee_L rfl) ee_K) (nI_ltd (q := 4) (by omega) (by omega)), fun hx4 => ?_, fun hx4 => ?_⟩
  rotate_left
  · have : m = 4 := by
      have := of_decide_eq_false hx4
      omega
    subst this
    refine ⟨rfl, fun d hd => by rw [F3 48 (by decide)]; exact Q1 d hd, fun d hd q hq => ?_, fun d hd => by rw [F3 55 (by decide)]; exact Q3 d hd, fun w hw => by rw [L3 w hw, if_pos hw], fun k hk => by rw [F3 k (by omega)]; exact Q5 k hk⟩
    unfold lg
    rw [F3 (45 + d) (by omega)]
    exact Q2 d hd q hq
  have hm4 := of_decide_eq_true hx4
  refine ⟨hm4, ?_⟩
  obtain ⟨v1, v2, v3⟩ := V m hm4
  obtain ⟨w1, w2⟩ := hpv m hm4
  have k58 : τ3 58 = σ 58 := (F3 58 (by decide)).trans (Q5 58 (by omega))
  have hdv : nI (dvP A m) = (if false = true then nI (vn A m) / 4 else nI (vn A m) - nI (vn A m) / 4 * 4) := (nmod (a := vn A m) (b := 4) (by omega) (by omega)).symm
  have hv51 : ∀ env : List Value, env[6]? = some (.ref 51) → env[21]? = some (.int (nI m)) → sy_iA 0 (sy_rL 6) (sy_iL 21) env τ3 = some (.inl (nI (vn A m)), τ3) := fun env h1 h2 => by
    rw [← v1, ← Q5 51 (by omega), ← F3 51 (by decide)]
    exact ee_An (ee_R h1) (ee_L h2) (show m < 4 from hm4) (by decide)
  refine ⟨_, sy_up τ3 57 m (nI (lsP A D tdb pv m i (j + 1))), ⟨rfl, fun k hk => by rw [up_ne hk]; exact F3 k hk, fun w hw => ?_⟩, fun k => es_Q (es_AT (j := m) (ee_R rfl) (ee_L rfl) (hT55 _ k58).2.2 (ee_iQ (z := ((!tdb && out) && decide (dvP A m = i)) && decide (j < pv m)) (x := 1) (y := 0) (ee_eq (ee_cA (ee_cA (ee_cA (ee_cN (ee_cb (c := tdb) (ee_L rfl))) (fun _ => ee_cb (c := out) (ee_L rfl))) (fun _ => ee_cB (ee_eq (ee_Dv (hv51 _ rfl rfl) ee_K (by decide)) hdv.symm) (ee_L rfl))) (fun _ => ee_cB (ee_L rfl) (ee_eq (ee_T (j := m) (ee_R rfl) (ee_L rfl) (hT55 _ k58).2.1 (show m < 4 from hm4)) (show τ3 56 m = nI (pv m) by rw [F3 56 (by decide), Q5 56 (by omega)]; exact w1)))) ?_) (fun _ => ee_K) (fun _ => ee_K)) (hT55 _ k58).2.2 (show m < 4 from hm4) (es_In rfl ?_))⟩
  · rw [up_at]
    by_cases q : w = m
    · rw [if_pos q, q, if_pos (by omega)]
    · rw [if_neg q, L3 w hw]
      by_cases q2 : w < m
      · rw [if_pos q2, if_pos (by omega)]
      · rw [if_neg q2, if_neg (by omega)]
  · show (((!tdb && out) && decide (nI (dvP A m) = nI i)) && decide (nI j < nI (pv m))) = _
    rw [nI_eqd (by omega) (by omega), nI_ltd (by omega) (by omega)]
  · have hs : τ3 57 m + (if (((!tdb && out) && decide (dvP A m = i)) && decide (j < pv m)) = true then (1 : Int32) else 0) = nI (lsP A D tdb pv m i (j + 1)) := by
      rw [L3 m hm4, if_neg (by omega), ls_S, ← hout]
      cases ((!tdb && out) && decide (dvP A m = i)) && decide (j < pv m) with
      | true => exact nadd (b := 1)
      | false => exact nadd (b := 0)
    rw [hs]
    exact congrArg (fun z => k (eD v d0 h0 ty key (ya_b tdb) ++ [.int (nI i), .ref (45 + i), .int (nI j), .int (ya_b out), .int z]) (sy_up τ3 57 m (nI (lsP A D tdb pv m i (j + 1))))) (nadd (a := m) (b := 1))
end LA53
