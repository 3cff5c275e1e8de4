section YC2
variable {σ τ A : sy_Mem} {t : Nat}
def ya_mx (A : sy_Mem) (ty p : Int32) : Nat → Int32
  | 0 => 0
  | n + 1 => if ya_tw A (nI n) ty p = true then (if ya_mx A ty p n < A 13 n + 1 then A 13 n + 1 else ya_mx A ty p n) else ya_mx A ty p n
def ya_rkf (A : sy_Mem) (ty p rank : Int32) (i : Nat) : Nat → Int32 := fun j => if j < i ∧ (ya_tw A (nI j) ty p && decide (rank ≤ A 13 j)) = true then A 13 j + 1 else A 13 j
/-- the rank of a new segment, and the ranks of the others then -/
def ya_rank (A : sy_Mem) (ty p tw : Int32) : Int32 := if (decide (0 ≤ tw) && decide (tw < 60)) = true then A 13 tw.toNatClampNeg else ya_mx A ty p 60
def ya_rks (A : sy_Mem) (ty p tw : Int32) : Nat → Int32 := if (decide (0 ≤ tw) && decide (tw < 60)) = true then ya_rkf A ty p (A 13 tw.toNatClampNeg) 60 else A 13
theorem yt_X3_makeRank (σ : sy_Mem) (ty p tw : Int32) : sf_X3_makeRank [.ref 10, .int ty, .int p, .int tw] σ = some (.inl (some (.int (ya_rank σ ty p tw))), ya_cell σ 13 (ya_rks σ ty p tw)) := by
  refine ee_meth ?_ rfl
  unfold sm_X3_makeRank
  have hrd : ∀ {E : List Value} {τ : sy_Mem} {j i : Nat}, E[0]? = some (.ref 10) → E[j]? = some (.int (nI i)) → i < 60 → sy_iA 0 (sy_rF 3 3 (sy_rL 0)) (sy_iL j) E τ = some (.inl (τ 13 i), τ) := fun h0 hj hi => ee_An (ee_rF (ee_R h0) rfl) (ee_L hj) (by rw [show sy_len 0 13 = 60 from rfl]; exact hi) (by decide)
  refine es_Q (es_SI (x := ya_mx σ ty p 0) ee_K (es_Q (es_B (es_Q (es_SI ee_K0 ?_)))))
  refine es_loop (E := fun i => [.ref 10, .int ty, .int p, .int tw, .int (ya_mx σ ty p i), .int (nI i)]) (S := fun _ => σ) 60 0 1000 (by omega) (fun i _ hi => (es_c60 rfl (by omega)).trans (by rw [decide_eq_true (by omega)])) ((es_c60 rfl (by omega)).trans (by rw [decide_eq_false (by omega)])) (fun i _ hi k' => ?_) ?_
  · have hT : sy_cI (sy_iM (sy_cv 3 3 sf_X3_isTwin) (sy_aR (sy_rL 0) (sy_aI (sy_iL 5) (sy_aI (sy_iL 1) (sy_aI (sy_iL 2) sy_aN))))) [.ref 10, .int ty, .int p, .int tw, .int (ya_mx σ ty p i), .int (nI i)] σ = some (.inl (ya_tw σ (nI i) ty p), σ) := ee_cb (ee_M (ee_aR (ee_R rfl) (ee_aI (ee_L rfl) (ee_aI (ee_L rfl) (ee_aI (ee_L rfl) ee_aN)))) (ee_cv (yt_X3_isTwin σ _ ty p) rfl))
    have e : ya_mx σ ty p (i + 1) = if ya_tw σ (nI i) ty p = true then (if ya_mx σ ty p i < σ 13 i + 1 then σ 13 i + 1 else ya_mx σ ty p i) else ya_mx σ ty p i := rfl
    rw [e]
    cases hq : ya_tw σ (nI i) ty p with
    | true =>
      rw [if_pos rfl]
      exact es_Q (es_It (hT.trans (by rw [hq])) (es_SI (ee_B (ee_L rfl) (ee_B (hrd rfl rfl (by omega)) ee_K)) (es_In1 rfl rfl)))
    | false =>
      rw [if_neg (by decide)]
      exact es_Q (es_If (hT.trans (by rw [hq])) (es_N (es_In1 rfl rfl)))
  · rw [Nat.zero_add]
    show sy_sQ _ _ [.ref 10, .int ty, .int p, .int tw, .int (ya_mx σ ty p 60)] _ σ = _
    have hn : sy_cN (sy_cI (sy_iM (sy_cs 1 sf_X3_isNumber) (sy_aI (sy_iL 3) sy_aN))) [.ref 10, .int ty, .int p, .int tw, .int (ya_mx σ ty p 60)] σ = some (.inl (!(decide (0 ≤ tw) && decide (tw < 60))), σ) := ee_cN (ee_cb (ee_M (ee_aI (ee_L rfl) ee_aN) (ee_cs (yt_X3_isNumber σ tw) rfl)))
    unfold ya_rank ya_rks
    by_cases h : (decide (0 ≤ tw) && decide (tw < 60)) = true
    · rw [if_pos h, if_pos h]
      refine es_Q (es_If (hn.trans (by rw [h]; rfl)) (es_N ?_))
      refine es_Q (es_SI (ee_A (kd := 0) (ee_rF (ee_R rfl) rfl) (ee_L rfl) (yi_inb.mpr (yl_isS.mp h))) (es_Q (es_B (es_Q (es_SI ee_K0 ?_)))))
      have e0 : ya_cell σ 13 (ya_rkf σ ty p (σ 13 tw.toNatClampNeg) 0) = σ := by
        rw [show ya_rkf σ ty p (σ 13 tw.toNatClampNeg) 0 = σ 13 by
          funext j
          unfold ya_rkf
          rw [if_neg (by omega)]]
        exact yd_self
      have hl := es_loop (E := fun i => [.ref 10, .int ty, .int p, .int tw, .int (σ 13 tw.toNatClampNeg), .int (nI i)]) (S := fun i => ya_cell σ 13 (ya_rkf σ ty p (σ 13 tw.toNatClampNeg) i)) (c := sy_clt (sy_iL 5) (sy_iK 60)) (s := sy_sQ (sy_sI (sy_cA (sy_cI (sy_iM (sy_cv 3 3 sf_X3_isTwin) (sy_aR (sy_rL 0) (sy_aI (sy_iL 5) (sy_aI (sy_iL 1) (sy_aI (sy_iL 2) sy_aN)))))) (sy_cge (sy_iA 0 (sy_rF 3 3 (sy_rL 0)) (sy_iL 5)) (sy_iL 4))) (sy_sA (sy_rF 3 3 (sy_rL 0)) (sy_iL 5) (sy_iK 1)) sy_sN) (sy_sIn 5 1)) (k := fun env' => sy_eI (sy_iL 4) (env'.take 5) (fun _ => sy_fail)) (r := some (.inl (some (.int (σ 13 tw.toNatClampNeg))), ya_cell σ 13 (ya_rkf σ ty p (σ 13 tw.toNatClampNeg) 60))) 60 0 1000 (by omega) (fun i _ hi => (es_c60 rfl (by omega)).trans (by rw [decide_eq_true (by omega)])) ((es_c60 rfl (by omega)).trans (by rw [decide_eq_false (by omega)])) (fun i _ hi k' => ?_) (es_eI (ee_L rfl))
      · rw [e0] at hl
        exact hl
      · have hat : ya_cell σ 13 (ya_rkf σ ty p (σ 13 tw.toNatClampNeg) i) 13 i = σ 13 i := by
          rw [yd_at]
          unfold ya_rkf
          rw [if_neg (by omega)]
        have hT : (sy_cA (sy_cI (sy_iM (sy_cv 3 3 sf_X3_isTwin) (sy_aR (sy_rL 0) (sy_aI (sy_iL 5) (sy_aI (sy_iL 1) (sy_aI (sy_iL 2) sy_aN)))))) (sy_cge (sy_iA 0 (sy_rF 3 3 (sy_rL 0)) (sy_iL 5)) (sy_iL 4))) [.ref 10, .int ty, .int p, .int tw, .int (σ 13 tw.toNatClampNeg), .int (nI i)] (ya_cell σ 13 (ya_rkf σ ty p (σ 13 tw.toNatClampNeg) i)) = some (.inl (ya_tw σ (nI i) ty p && decide (σ 13 tw.toNatClampNeg ≤ σ 13 i)), _) :=
          (ee_cA (ee_cb (ee_M (ee_aR (ee_R rfl) (ee_aI (ee_L rfl) (ee_aI (ee_L rfl) (ee_aI (ee_L rfl) ee_aN)))) (ee_cv (yt_X3_isTwin _ _ ty p) rfl))) (fun _ => ee_cB (hrd rfl rfl (by omega)) (ee_L rfl))).trans (by rw [hat]; rfl)
        have es : ya_rkf σ ty p (σ 13 tw.toNatClampNeg) (i + 1) = if (ya_tw σ (nI i) ty p && decide (σ 13 tw.toNatClampNeg ≤ σ 13 i)) = true then upd (ya_rkf σ ty p (σ 13 tw.toNatClampNeg) i) i (σ 13 i + 1) else ya_rkf σ ty p (σ 13 tw.toNatClampNeg) i := by
          by_cases hq : (ya_tw σ (nI i) ty p && decide (σ 13 tw.toNatClampNeg ≤ σ 13 i)) = true
          · rw [if_pos hq]
            funext j
            unfold upd
            by_cases e : j = i
            · rw [if_pos e, e]
              unfold ya_rkf
              rw [if_pos ⟨by omega, hq⟩]
            · rw [if_neg e]
              unfold ya_rkf
              by_cases g : j < i ∧ (ya_tw σ (nI j) ty p && decide (σ 13 tw.toNatClampNeg ≤ σ 13 j)) = true
              · rw [if_pos g, if_pos ⟨by omega, g.2⟩]
              · rw [if_neg g, if_neg (fun z => g ⟨by omega, z.2⟩)]
          · rw [if_neg hq]
            funext j
            unfold ya_rkf
            by_cases g : j < i ∧ (ya_tw σ (nI j) ty p && decide (σ 13 tw.toNatClampNeg ≤ σ 13 j)) = true
            · rw [if_pos g, if_pos ⟨by omega, g.2⟩]
            · rw [if_neg g, if_neg (fun z => by
                by_cases e : j = i
                · rw [e] at z; exact hq z.2
                · exact g ⟨by omega, z.2⟩)]
        rw [es]
        cases hq : (ya_tw σ (nI i) ty p && decide (σ 13 tw.toNatClampNeg ≤ σ 13 i)) with
        | true =>
          rw [if_pos rfl]
          refine es_Q (es_It (hT.trans (by rw [hq])) (es_A (ee_rF (ee_R rfl) rfl) (ee_L rfl) ee_K (by rw [show sy_len 0 13 = 60 from rfl]; exact yi_inbN (by omega) (by omega)) (es_In1 (i := i) rfl ?_)))
          rw [nI_clamp (by omega), hat, yd_up]
          rfl
        | false =>
          rw [if_neg (by decide)]
          exact es_Q (es_If (hT.trans (by rw [hq])) (es_N (es_In1 rfl rfl)))
    · rw [if_neg h, if_neg h, yd_self]
      exact es_Q (es_It (hn.trans (by rw [Bool.eq_false_iff.mpr h]; rfl)) (es_eI (ee_L rfl)))
theorem yt_X3_setNumber (σ : sy_Mem) {z f : Nat} (hz : z < 60) (hf : f < 3) (v : Int32) : sf_X3_setNumber [.ref 10, .int (nI z), .int (nI f), .int v] σ = some (.inl none, sy_up σ 14 (3 * z + f) v) := by
  refine ee_meth ?_ rfl
  unfold sm_X3_setNumber
  have hz' := yg_60 hz
  have e := yl_ix (x := nI z) (y := nI f) (c := 3) (n := 60) (m := 3) yl_c3 hz'.1 hz'.2 (by omega) (by rw [nI_toInt (by omega)]; omega) (by rw [nI_toInt (by omega)]; omega)
  rw [nI_clamp (by omega), nI_clamp (by omega)] at e
  have a1 : decide ((0 : Int32) ≤ nI f) = true := by rw [yl_ge, nI_toInt (by omega), yl_c0]; omega
  have a2 : decide (nI f < 3) = true := by rw [yl_lt, nI_toInt (by omega), yl_c3]; omega
  refine es_Q (es_It ((ee_cA (ee_cA (ee_cb (ee_M (ee_aI (ee_L rfl) ee_aN) (ee_cs (yt_X3_isNumber σ _) rfl))) (fun _ => ee_cB (ee_L rfl) ee_K)) (fun _ => ee_cB (ee_L rfl) ee_K)).trans (by rw [yl_isS.mpr hz', a1, a2]; rfl)) (es_W (ee_rF (ee_R rfl) rfl) (ee_B (ee_B (ee_L rfl) ee_K) (ee_L rfl)) (ee_L rfl) e.2.2 ?_))
  rw [e.2.1]
  exact es_eV
/-- three fields made 0 -/
def ya_z3 (σ : sy_Mem) (z : Nat) : Nat → sy_Mem
  | 0 => σ
  | n + 1 => sy_up (ya_z3 σ z n) 14 (3 * z + n) 0
theorem ya_z3_ne {z k : Nat} (h : k ≠ 14) : ∀ n, ya_z3 σ z n k = σ k
  | 0 => rfl
  | n + 1 => (yu_ne h).trans (ya_z3_ne h n)
/-- the first number that is not used -/
def ya_fr (A : sy_Mem) : Nat := (ya_ff (fun i => decide (A 11 i = -1)) 60 0).elim 60 (fun i => i)
def ya_add1 (A : sy_Mem) (ty p tw : Int32) : sy_Mem := ya_z3 (sy_up (sy_up (sy_up (ya_cell A 13 (ya_rks A ty p tw)) 13 (ya_fr A) (ya_rank A ty p tw)) 11 (ya_fr A) ty) 12 (ya_fr A) p) (ya_fr A) 3
def ya_add2 (A : sy_Mem) (ty p key here : Int32) : sy_Mem := ya_put (ya_add1 A ty p (ya_twin A ty p key here)) (tD A ty) (ya_cnt A (tD A ty)).toNatClampNeg (ya_plc A ty p key here) (nI (ya_fr A))
/-- the memory behind addSegment -/
def ya_add (A : sy_Mem) (ty p key here : Int32) : sy_Mem := sy_up (ya_cell (ya_add2 A ty p key here) 17 (ya_pls (ya_add2 A ty p key here) (tD A ty) ((ya_cnt A (tD A ty)).toNatClampNeg + 1))) 14 (3 * ya_fr A) key
theorem ya_fr_un (h : ya_fr A < 60) : ya_X3_unused A = nI (ya_fr A) := by
  unfold ya_X3_unused ya_fr at *
  cases hf : ya_ff (fun i => decide (A 11 i = -1)) 60 0 with
  | none => rw [hf] at h; exact absurd h (by decide)
  | some i => rfl
theorem ya_fr_at (h : ya_fr A < 60) : A 11 (ya_fr A) = -1 ∧ ∀ j, j < ya_fr A → A 11 j ≠ -1 := by
  unfold ya_fr at *
  cases hf : ya_ff (fun i => decide (A 11 i = -1)) 60 0 with
  | none => rw [hf] at h; exact absurd h (by decide)
  | some i =>
    obtain ⟨_, h2, h3, h4⟩ := ya_ff_some.mp hf
    exact ⟨of_decide_eq_true h3, fun j hj => of_decide_eq_false (h4 j (by omega) hj)⟩
theorem nI_nem {n : Nat} (h : n < 1000) : nI n ≠ -1 := fun e => by
  have : (nI n).toInt = -1 := by rw [e, yl_cm]
  rw [nI_toInt (by omega)] at this
  omega
theorem yt_X3_add (I : yn_I t σ) {ty p key here : Int32} (h : yb_ok σ ty p key here) (hz : ya_fr σ < 60) (hc : (ya_cnt σ (tD σ ty)).toNatClampNeg < 60) :
    sf_X3_add [.ref 10, .int ty, .int p, .int (ya_twin σ ty p key here)] σ = some (.inl (some (.int (nI (ya_fr σ)))), ya_cell (ya_add2 σ ty p key here) 17 (ya_pls (ya_add2 σ ty p key here) (tD σ ty) ((ya_cnt σ (tD σ ty)).toNatClampNeg + 1))) := by
  have W := yn_Wo I
  have hD := yb_D I h
  have hcnt := yg_cnt I hD
  have hP := (yb_place I h).1
  refine ee_meth ?_ rfl
  unfold sm_X3_add
  have hpl : sy_iQ (sy_ceq (sy_iL 3) (sy_iK (-1))) (sy_iM (sy_cv 3 2 sf_X3_endOfTwins) (sy_aR (sy_rL 0) (sy_aI (sy_iL 1) (sy_aI (sy_iL 2) sy_aN)))) (sy_iM (sy_cv 3 1 sf_X3_placeOf) (sy_aR (sy_rL 0) (sy_aI (sy_iL 3) sy_aN))) [.ref 10, .int ty, .int p, .int (ya_twin σ ty p key here)] σ = some (.inl (nI (ya_plc σ ty p key here)), σ) := by
    refine (ee_iQ (ee_cB (ee_L rfl) ee_K) (fun _ => ee_M (ee_aR (ee_R rfl) (ee_aI (ee_L rfl) (ee_aI (ee_L rfl) ee_aN))) (ee_cv (yt_X3_endOfTwins I h) rfl)) (fun _ => ee_M (ee_aR (ee_R rfl) (ee_aI (ee_L rfl) ee_aN)) (ee_cv (yt_X3_placeOf σ _) rfl))).trans ?_
    unfold ya_plc
    by_cases hw : ya_twin σ ty p key here = -1
    · rw [decide_eq_true hw, if_pos rfl, if_pos hw]
    · rw [decide_eq_false hw, if_neg (by decide), if_neg hw]
      have hl := ((yb_twin I h).1.resolve_left hw).1
      rw [← yi_nat (yi_pos.mpr (yg_pl I hl).1)]
  refine es_Q (es_SI hpl ?_)
  refine es_Q (es_SI (x := nI (ya_fr σ)) (σ1 := σ) ((ee_M (ee_aR (ee_R rfl) ee_aN) (ee_cv (yt_X3_unused W) rfl)).trans (by rw [ya_fr_un hz])) ?_)
  refine es_Q (es_If ((ee_cO (ee_cB (ee_L rfl) ee_K) (fun _ => ee_cB (ee_L rfl) ee_K)).trans (by rw [decide_eq_false (nI_nem (by omega)), decide_eq_false (nI_nem (by omega))]; rfl)) (es_N ?_))
  have hi : ∀ kk, sy_len 0 kk = 60 → sy_inb (nI (ya_fr σ)) (sy_len 0 kk) = true := fun kk e => by rw [e]; exact yi_inbN hz (by omega)
  refine es_Q (es_W (ee_rF (ee_R rfl) rfl) (ee_L rfl) (ee_M (ee_aR (ee_R rfl) (ee_aI (ee_L rfl) (ee_aI (ee_L rfl) (ee_aI (ee_L rfl) ee_aN)))) (ee_cv (yt_X3_makeRank σ ty p _) rfl)) (hi 13 rfl) ?_)
  refine es_Q (es_W (ee_rF (ee_R rfl) rfl) (ee_L rfl) (ee_L rfl) (hi 11 rfl) ?_)
  refine es_Q (es_W (ee_rF (ee_R rfl) rfl) (ee_L rfl) (ee_L rfl) (hi 12 rfl) ?_)
  rw [nI_clamp (show ya_fr σ < 2 ^ 31 by omega)]
  refine es_Q (es_B (es_Q (es_SI ee_K0 ?_)))
  refine es_loop (E := fun i => [.ref 10, .int ty, .int p, .int (ya_twin σ ty p key here), .int (nI (ya_plc σ ty p key here)), .int (nI (ya_fr σ)), .int (nI i)]) (S := fun i => ya_z3 (sy_up (sy_up (sy_up (ya_cell σ 13 (ya_rks σ ty p (ya_twin σ ty p key here))) 13 (ya_fr σ) (ya_rank σ ty p (ya_twin σ ty p key here))) 11 (ya_fr σ) ty) 12 (ya_fr σ) p) (ya_fr σ) i) 3 0 1000 (by omega) (fun i _ hi => (es_cB rfl ee_K (by omega)).trans (by rw [decide_eq_true]; show i < 3; omega)) ((es_cB rfl ee_K (by omega)).trans (by rw [decide_eq_false]; show ¬ 0 + 3 < 3; omega)) (fun i _ hi k' => ?_) ?_
  · exact es_Q (es_C (ee_aR (ee_R rfl) (ee_aI (ee_L rfl) (ee_aI (ee_L rfl) (ee_aI ee_K ee_aN)))) (ee_cv (yt_X3_setNumber _ hz (by omega) 0) rfl) (es_In1 rfl rfl))
  · show sy_sQ _ _ [.ref 10, .int ty, .int p, .int (ya_twin σ ty p key here), .int (nI (ya_plc σ ty p key here)), .int (nI (ya_fr σ))] _ (ya_add1 σ ty p (ya_twin σ ty p key here)) = _
    have hk : ∀ k, k ≠ 11 → k ≠ 12 → k ≠ 13 → k ≠ 14 → ya_add1 σ ty p (ya_twin σ ty p key here) k = σ k := fun k h1 h2 h3 h4 => by
      unfold ya_add1
      rw [ya_z3_ne h4, yu_ne h2, yu_ne h1, yu_ne h3, yd_ne h3]
    have W1 : ya_W (ya_add1 σ ty p (ya_twin σ ty p key here)) := ya_W_d W (hk 1 (by decide) (by decide) (by decide) (by decide)) (hk 19 (by decide) (by decide) (by decide) (by decide)) (hk 27 (by decide) (by decide) (by decide) (by decide)) (fun d hd => by rw [hk 16 (by decide) (by decide) (by decide) (by decide)]; exact W.2.2.2.1 d hd) (fun k h1 h2 => hk k (by omega) (by omega) (by omega) (by omega))
    have eD : tD (ya_add1 σ ty p (ya_twin σ ty p key here)) ty = tD σ ty := by
      show ya_tg _ 2 (-1) ty = ya_tg σ 2 (-1) ty
      unfold ya_tg ya_isT
      rw [hk 1 (by decide) (by decide) (by decide) (by decide), hk 2 (by decide) (by decide) (by decide) (by decide)]
    have eC : ya_cnt (ya_add1 σ ty p (ya_twin σ ty p key here)) (tD σ ty) = nI (ya_cnt σ (tD σ ty)).toNatClampNeg := by
      rw [← yi_nat (yi_pos.mpr hcnt.1)]
      unfold ya_cnt
      rw [hk 16 (by decide) (by decide) (by decide) (by decide)]
    have hp := yt_X3_putInRow W1 hD eC hc hP (z := nI (ya_fr σ))
    refine es_Q (es_C (ee_aR (ee_R rfl) (ee_aI (ee_M (ee_aR (ee_rF (ee_R rfl) rfl) (ee_aI (ee_L rfl) ee_aN)) (ee_cv (yt_X2_databaseOf W1 ty) rfl)) (ee_aI (ee_L rfl) (ee_aI (ee_L rfl) ee_aN)))) (ee_cv (show sf_X3_putInRow [.ref 10, .int (tD (ya_add1 σ ty p (ya_twin σ ty p key here)) ty), .int (nI (ya_plc σ ty p key here)), .int (nI (ya_fr σ))] _ = _ by rw [eD]; exact hp) rfl) ?_)
    exact es_eI (ee_L rfl)
theorem yt_X5_addSegment (I : yn_I t σ) {ty p key here : Int32} (h : yb_ok σ ty p key here) (hz : ya_fr σ < 60) (hc : (ya_cnt σ (tD σ ty)).toNatClampNeg < 60) :
    sf_X5_addSegment [.ref 0, .int ty, .int p, .int key, .int here] σ = some (.inl (some (.int (nI (ya_fr σ)))), ya_add σ ty p key here) := by
  have W := yn_Wo I
  refine ee_meth ?_ rfl
  unfold sm_X5_addSegment
  refine es_Q (es_SI (ee_M (ee_aR (ee_rF (ee_R rfl) rfl) (ee_aI (ee_L rfl) (ee_aI (ee_L rfl) (ee_aI (ee_M (ee_aR (ee_R rfl) (ee_aI (ee_L rfl) (ee_aI (ee_L rfl) (ee_aI (ee_L rfl) (ee_aI (ee_L rfl) ee_aN))))) (ee_cv (yt_X5_twinBehindNew W ty p key here) rfl)) ee_aN)))) (ee_cv (yt_X3_add I h hz hc) rfl)) ?_)
  exact es_Q (es_C (ee_aR (ee_rF (ee_R rfl) rfl) (ee_aI (ee_L rfl) (ee_aI ee_K0 (ee_aI (ee_L rfl) ee_aN)))) (ee_cv (yt_X3_setNumber _ hz (by decide) key) rfl) (es_eI (ee_L rfl)))
end YC2
