section LA58
variable {A B M F σ τ σ1 σ2 : sy_Mem} {t u n v d w : Nat} {x y kd : Int32} {env : List Value} {k : List Value → sy_MM (Option Value)}
def LIn : sy_S := (sy_sB 14 (sy_sQ (sy_sSI 14 (sy_iM (sy_cr 9 sf_L_lists) (sy_aR (sy_rL 0) (sy_aR (sy_rL 1) (sy_aR (sy_rL 6) (sy_aR (sy_rL 7) (sy_aR (sy_rL 9) (sy_aI (sy_iL 13) (sy_aI (sy_iShr (sy_iL 10) (sy_iK 7)) (sy_aI (sy_iL 11) (sy_aI (sy_iK 1) sy_aN))))))))))) (sy_sQ (sy_sB 15 (sy_sQ (sy_sSI 15 (sy_iK 0)) (sy_wh (sy_cA (sy_clt (sy_iL 15) (sy_iK 12)) (sy_cI (sy_iL 14))) (sy_sQ (sy_sB 16 (sy_sQ (sy_sSI 16 (sy_iQ (sy_ceq (sy_iDv false (sy_iL 15) (sy_iK 3)) (sy_iK 0)) (sy_iM (sy_cr 2 sf_L_low) (sy_aI (sy_iShr (sy_iL 11) (sy_iL 15)) (sy_aI (sy_iK 12) sy_aN))) (sy_iM (sy_cr 2 sf_L_low) (sy_aI (sy_iShr (sy_iL 10) (sy_iL 15)) (sy_aI (sy_iK 9) sy_aN))))) (sy_sSI 14 (sy_iC (sy_cA (sy_cge (sy_iM (sy_cr 4 sf_L_put) (sy_aR (sy_rL 0) (sy_aI (sy_iDv true (sy_iL 15) (sy_iK 3)) (sy_aI (sy_iDv false (sy_iL 15) (sy_iK 3)) (sy_aI (sy_iL 16) sy_aN))))) (sy_iK 0)) (sy_ceq (sy_iM (sy_cr 3 sf_L_area) (sy_aR (sy_rL 0) (sy_aI (sy_iDv true (sy_iL 15) (sy_iK 3)) (sy_aI (sy_iDv false (sy_iL 15) (sy_iK 3)) sy_aN)))) (sy_iL 16))))))) (sy_sIn 15 1)) 13))) (sy_sQ (sy_sSI 14 (sy_iC (sy_cA (sy_cA (sy_cA (sy_cA (sy_cI (sy_iL 14)) (sy_ceq (sy_iM (sy_cr 4 sf_L_put) (sy_aR (sy_rL 0) (sy_aI (sy_iK 4) (sy_aI (sy_iK 0) (sy_aI (sy_iK 1000) sy_aN))))) (sy_iK (-1000001)))) (sy_ceq (sy_iM (sy_cr 4 sf_L_put) (sy_aR (sy_rL 0) (sy_aI (sy_iK 0) (sy_aI (sy_iK 3) (sy_aI (sy_iK 0) sy_aN))))) (sy_iK (-1000001)))) (sy_ceq (sy_iM (sy_cr 4 sf_L_put) (sy_aR (sy_rL 0) (sy_aI (sy_iK 0) (sy_aI (sy_iK 0) (sy_aI (sy_iK 1000) sy_aN))))) (sy_iK (-1000002)))) (sy_ceq (sy_iM (sy_cr 3 sf_L_area) (sy_aR (sy_rL 0) (sy_aI (sy_iK 4) (sy_aI (sy_iK 0) sy_aN)))) (sy_iK (-1000001)))))) (sy_eZ (sy_iC (sy_cA (sy_cA (sy_cI (sy_iL 14)) (sy_cI (sy_iM (sy_cr 11 sf_L_inserts) (sy_aR (sy_rL 0) (sy_aR (sy_rL 1) (sy_aR (sy_rL 2) (sy_aR (sy_rL 3) (sy_aR (sy_rL 4) (sy_aR (sy_rL 5) (sy_aR (sy_rL 6) (sy_aR (sy_rL 7) (sy_aR (sy_rL 8) (sy_aR (sy_rL 9) (sy_aI (sy_iL 13) sy_aN)))))))))))))) (sy_ceq (sy_iM (sy_cr 2 sf_L_insert) (sy_aR (sy_rL 0) (sy_aI (sy_iK 4) sy_aN))) (sy_iK (-1000001))))))))))
def LHo : sy_S := (sy_sQ (sy_sW (sy_rL 9) (sy_iK 1) (sy_iK 0)) (sy_sQ (sy_sSI 14 (sy_iC (sy_cA (sy_cge (sy_iM (sy_cv 5 0 sf_X5_clear) (sy_aR (sy_rL 0) sy_aN)) (sy_iK 0)) (sy_cI (sy_iM (sy_cr 13 sf_L_gets) (sy_aR (sy_rL 0) (sy_aR (sy_rL 1) (sy_aR (sy_rL 2) (sy_aR (sy_rL 3) (sy_aR (sy_rL 4) (sy_aR (sy_rL 5) (sy_aR (sy_rL 6) (sy_aR (sy_rL 7) (sy_aR (sy_rL 8) (sy_aR (sy_rL 9) (sy_aI (sy_iL 13) (sy_aI (sy_iM (sy_cr 2 sf_L_low) (sy_aI (sy_iShr (sy_iL 10) (sy_iK 9)) (sy_aI (sy_iK 2) sy_aN))) (sy_aI (sy_iK 1) sy_aN)))))))))))))))))) (sy_sQ (sy_sI (sy_ceq (sy_iM (sy_cr 2 sf_L_holds) (sy_aR (sy_rL 0) (sy_aI (sy_iL 13) sy_aN))) (sy_iK 0)) (sy_eZ (sy_iC (sy_cA (sy_cA (sy_cA (sy_cA (sy_cI (sy_iL 14)) (sy_ceq (sy_iM (sy_cr 2 sf_L_replace) (sy_aR (sy_rL 0) (sy_aI (sy_iL 13) sy_aN))) (sy_iK 6))) (sy_ceq (sy_iM (sy_cr 2 sf_L_delete) (sy_aR (sy_rL 0) (sy_aI (sy_iL 13) sy_aN))) (sy_iK 6))) (sy_ceq (sy_iM (sy_cr 2 sf_L_replace) (sy_aR (sy_rL 0) (sy_aI (sy_iK 4) sy_aN))) (sy_iK (-1000001)))) (sy_ceq (sy_iM (sy_cr 2 sf_L_delete) (sy_aR (sy_rL 0) (sy_aI (sy_iK (-1)) sy_aN))) (sy_iK (-1000001)))))) sy_sN) (sy_eZ (sy_iC (sy_cA (sy_cI (sy_iL 14)) (sy_cQ (sy_clt (sy_iL 12) (sy_iK 18)) (sy_cI (sy_iM (sy_cr 9 sf_L_replaces) (sy_aR (sy_rL 0) (sy_aR (sy_rL 1) (sy_aR (sy_rL 2) (sy_aR (sy_rL 3) (sy_aR (sy_rL 4) (sy_aR (sy_rL 5) (sy_aR (sy_rL 8) (sy_aI (sy_iL 13) (sy_aI (sy_iL 11) sy_aN))))))))))) (sy_cI (sy_iM (sy_cr 8 sf_L_deletes) (sy_aR (sy_rL 0) (sy_aR (sy_rL 1) (sy_aR (sy_rL 2) (sy_aR (sy_rL 3) (sy_aR (sy_rL 4) (sy_aR (sy_rL 5) (sy_aR (sy_rL 8) (sy_aI (sy_iL 13) sy_aN)))))))))))))))))
theorem acts_eq : sm_L_acts = (sy_sQ (sy_sI (sy_clt (sy_iA 0 (sy_rL 9) (sy_iK 0)) (sy_iK 7)) (sy_eZ (sy_iM (sy_cr 5 sf_L_defines) (sy_aR (sy_rL 0) (sy_aR (sy_rL 1) (sy_aR (sy_rL 9) (sy_aI (sy_iL 10) (sy_aI (sy_iL 11) sy_aN))))))) sy_sN) (sy_sQ (sy_sSI 12 (sy_iM (sy_cr 2 sf_L_low) (sy_aI (sy_iL 10) (sy_aI (sy_iK 20) sy_aN)))) (sy_sQ (sy_sSI 13 (sy_iM (sy_cr 2 sf_L_low) (sy_aI (sy_iShr (sy_iL 10) (sy_iK 5)) (sy_aI (sy_iK 4) sy_aN)))) (sy_sQ (sy_sI (sy_cO (sy_ceq (sy_iL 12) (sy_iK 0)) (sy_clt (sy_iA 0 (sy_rL 8) (sy_iL 13)) (sy_iK 4))) LOp sy_sN) (sy_sQ (sy_sI (sy_cN (sy_cI (sy_iM (sy_cr 6 sf_L_reads) (sy_aR (sy_rL 0) (sy_aR (sy_rL 1) (sy_aR (sy_rL 2) (sy_aR (sy_rL 3) (sy_aR (sy_rL 4) (sy_aR (sy_rL 5) sy_aN))))))))) (sy_eZ (sy_iK 0)) sy_sN) (sy_sQ (sy_sI (sy_clt (sy_iL 12) (sy_iK 8)) LIn sy_sN) (sy_sQ (sy_sI (sy_clt (sy_iL 12) (sy_iK 15)) LGt sy_sN) LHo))))))) := rfl
theorem ee_cQ1 {c a b : sy_CE} {z : Bool} (hc : c env σ = some (.inl true, σ1)) (h : a env σ1 = some (.inl z, σ2)) : sy_cQ c a b env σ = some (.inl z, σ2) := by
  unfold sy_cQ
  rw [sy_bnd_at hc, if_pos rfl]
  exact h
theorem ee_cQ2 {c a b : sy_CE} {z : Bool} (hc : c env σ = some (.inl false, σ1)) (h : b env σ1 = some (.inl z, σ2)) : sy_cQ c a b env σ = some (.inl z, σ2) := by
  unfold sy_cQ
  rw [sy_bnd_at hc, if_neg (by decide)]
  exact h
theorem AF_trans (h : ∀ k, k < 10 ∨ (32 ≤ k ∧ k ≤ 43) ∨ k = 44 ∨ k = 51 → τ k = σ k) (h2 : τ 52 0 = σ 52 0) (a : AF τ F) : AF σ F := by
  obtain ⟨f1, f2, f3, f4, f5, f6⟩ := a
  refine ⟨fun k hk => by rw [f1 k hk]; exact h k (by omega), by rw [f2]; exact h2, fun w hw i hi => ?_, f4, f5, f6⟩
  have hb := yv_lt hw
  rw [f3 w hw i hi, h _ (by omega)]
theorem ins_puts12 (I : yn_I t σ) : SX (sy_sB 15 (sy_sQ (sy_sSI 15 (sy_iK 0)) (sy_wh (sy_cA (sy_clt (sy_iL 15) (sy_iK 12)) (sy_cI (sy_iL 14))) (sy_sQ (sy_sB 16 (sy_sQ (sy_sSI 16 (sy_iQ (sy_ceq (sy_iDv false (sy_iL 15) (sy_iK 3)) (sy_iK 0)) (sy_iM (sy_cr 2 sf_L_low) (sy_aI (sy_iShr (sy_iL 11) (sy_iL 15)) (sy_aI (sy_iK 12) sy_aN))) (sy_iM (sy_cr 2 sf_L_low) (sy_aI (sy_iShr (sy_iL 10) (sy_iL 15)) (sy_aI (sy_iK 9) sy_aN))))) (sy_sSI 14 (sy_iC (sy_cA (sy_cge (sy_iM (sy_cr 4 sf_L_put) (sy_aR (sy_rL 0) (sy_aI (sy_iDv true (sy_iL 15) (sy_iK 3)) (sy_aI (sy_iDv false (sy_iL 15) (sy_iK 3)) (sy_aI (sy_iL 16) sy_aN))))) (sy_iK 0)) (sy_ceq (sy_iM (sy_cr 3 sf_L_area) (sy_aR (sy_rL 0) (sy_aI (sy_iDv true (sy_iL 15) (sy_iK 3)) (sy_aI (sy_iDv false (sy_iL 15) (sy_iK 3)) sy_aN)))) (sy_iL 16))))))) (sy_sIn 15 1)) 13))) (eA2 x y kd w ++ [.int 1]) σ (fun e τ => e = eA2 x y kd w ++ [.int 1] ∧ yn_I t τ ∧ ∀ k, k ≠ 31 → τ k = σ k) := by
  refine sx_B (sx_SIQ ee_K ?_)
  refine sx_wh (N := 12) (Inv := fun i e τ => e = eA2 x y kd w ++ [.int (ya_b true), .int (nI i)] ∧ yn_I t τ ∧ ∀ k, k ≠ 31 → τ k = σ k) (fun i e τ hi hI => ?_) 12 0 13 _ _ (by omega) (by omega) ⟨rfl, I, fun _ _ => rfl⟩
  obtain ⟨rfl, I1, F⟩ := hI
  refine ⟨decide (i < 12), ee_eq (ee_cA (ee_eq (ee_cB (ee_L rfl) ee_K) (nI_ltd (q := 12) (by omega) (by omega))) (fun _ => ee_cb (c := true) (ee_L rfl))) (Bool.and_true _), fun hx => ?_, fun hx => ?_⟩
  rotate_left
  · have : i = 12 := by
      have := of_decide_eq_false hx
      omega
    subst this
    exact ⟨rfl, I1, F⟩
  have hi2 := of_decide_eq_true hx
  refine ⟨hi2, ?_⟩
  have hd3 : ∀ (env : List Value), env[15]? = some (.int (nI i)) → ∀ ρ : sy_Mem, sy_iDv true (sy_iL 15) (sy_iK 3) env ρ = some (.inl (nI (i / 3)), ρ) ∧ sy_iDv false (sy_iL 15) (sy_iK 3) env ρ = some (.inl (nI (i % 3)), ρ) := fun env h ρ =>
    ⟨ee_eq (ee_Dv (ee_L h) ee_K (by decide)) (by show nI i / nI 3 = _; exact ndiv (by omega) (by omega)), ee_eq (ee_Dv (ee_L h) ee_K (by decide)) (by show nI i - nI i / nI 3 * nI 3 = _; exact nmod (by omega) (by omega))⟩
  obtain ⟨z, hz, hev⟩ : ∃ z : Nat, z < 1000 ∧ (sy_iQ (sy_ceq (sy_iDv false (sy_iL 15) (sy_iK 3)) (sy_iK 0)) (sy_iM (sy_cr 2 sf_L_low) (sy_aI (sy_iShr (sy_iL 11) (sy_iL 15)) (sy_aI (sy_iK 12) sy_aN))) (sy_iM (sy_cr 2 sf_L_low) (sy_aI (sy_iShr (sy_iL 10) (sy_iL 15)) (sy_aI (sy_iK 9) sy_aN)))) (eA2 x y kd w ++ [.int (ya_b true), .int (nI i)]) τ = some (.inl (nI z), τ) := by
    obtain ⟨a, ha, ca⟩ := c_low (σ := τ) (env := eA2 x y kd w ++ [.int (ya_b true), .int (nI i)]) (e := sy_iShr (sy_iL 11) (sy_iL 15)) (g := sy_iK 12) (n := 12) (by omega) (by omega) (ee_B (ee_L rfl) (ee_L rfl)) ee_K
    obtain ⟨b, hb, cb⟩ := c_low (σ := τ) (env := eA2 x y kd w ++ [.int (ya_b true), .int (nI i)]) (e := sy_iShr (sy_iL 10) (sy_iL 15)) (g := sy_iK 9) (n := 9) (by omega) (by omega) (ee_B (ee_L rfl) (ee_L rfl)) ee_K
    cases hq : decide (nI (i % 3) = 0) with
    | true => exact ⟨a, by omega, ee_iQ1 (ee_eq (ee_cB (hd3 _ rfl τ).2 ee_K) hq) ca⟩
    | false => exact ⟨b, by omega, ee_iQ2 (ee_eq (ee_cB (hd3 _ rfl τ).2 ee_K) hq) cb⟩
  have hp := h_put (σ := τ) (s := i / 3) (f := i % 3) (x := z) (by omega) (by omega) hz
  obtain ⟨τ2, hτ2⟩ : ∃ τ2, τ2 = sy_up τ 31 (3 * (i / 3) + i % 3) (nI z) := ⟨_, rfl⟩
  rw [← hτ2] at hp
  have hsl : ya_slot τ2 (nI (i / 3)) (nI (i % 3)) = nI z := by
    rw [slot_31 (by omega) (by omega), hτ2, up_at, if_pos rfl]
  have hge : decide ((0 : Int32) ≤ ya_slot τ (nI (i / 3)) (nI (i % 3))) = true := by
    refine decide_eq_true ?_
    rw [Int32.le_iff_toInt_le]
    exact (ya_slot_rng I1 _ _).1
  refine sx_Q (R := fun e ρ => e = eA2 x y kd w ++ [.int (ya_b true), .int (nI i)] ∧ yn_I t ρ ∧ ∀ k, k ≠ 31 → ρ k = σ k) (sx_B (sx_SIQ hev (sx_SI (x := ya_b true) (σ1 := τ2) (ee_iC (ee_cAt (ee_eq (ee_cB (ee_M (ee_aR (ee_R rfl) (ee_aI (hd3 _ rfl τ).1 (ee_aI (hd3 _ rfl τ).2 (ee_aI (ee_L rfl) ee_aN)))) (ee_cr hp rfl)) ee_K) hge) (ee_eq (ee_cB (ee_eq (c_area CP_self (s := i / 3) (f := i % 3) (by omega) (by omega) (ee_R rfl) (hd3 _ rfl τ2).1 (hd3 _ rfl τ2).2) hsl) (ee_L rfl)) (decide_eq_true rfl)))) ⟨rfl, ?_, fun k hk => ?_⟩))) ?_
  · rw [hτ2]
    exact yn_put I1 (by rw [nI_toInt (by omega)]; omega)
  · rw [hτ2, up_ne hk]
    exact F k hk
  · rintro e ρ ⟨rfl, r2, r3⟩
    refine ⟨_, ρ, ⟨rfl, r2, r3⟩, fun k => es_In rfl ?_⟩
    exact congrArg (fun z => k (eA2 x y kd w ++ [.int (ya_b true), .int z]) ρ) (nadd (a := i) (b := 1))
theorem act_ins (L : LI t 7 σ) (R : RW σ σ) (hw : w < 4) (ht : t + 70 < 10000) : ∃ τ, LIn (eA2 x y kd w) k σ = rOK τ ∧ LI (t + 8) 7 τ := by
  have L0 := L
  obtain ⟨I, T, ⟨s1, s2, s3, s4, s5, s6, s7⟩, h19, g1, V, g0⟩ := L
  obtain ⟨τ1, c1, LL1⟩ := t_lists I T s1 s2 h19 g1 (nI w) (x >>> (7 &&& 31)) y true
  obtain ⟨I1, Q1, F1⟩ := LL1
  obtain ⟨e2, τ2, ⟨he2, I2, F2⟩, c2⟩ := ins_puts12 (x := x) (y := y) (kd := kd) (w := w) I1
  have hk2 : ∀ k, (k ≤ 18 ∨ (27 ≤ k ∧ k ≤ 48) ∨ k = 51 ∨ 53 ≤ k) → k ≠ 31 → τ2 k = σ k := fun k h1 h2 => (F2 k h2).trans (F1.1 k h1)
  have hb2 : yc_base σ τ2 := fun k hk => hk2 k (by omega) (by omega)
  have T2 : TT τ2 τ2 := TT_b hb2 (hk2 44 (by omega) (by omega)) T
  have R2 : RW τ2 τ2 := RW_b hb2 (fun k h1 h2 => hk2 k (by omega) (by omega)) R
  have Q2 : QQ τ2 τ2 := by
    have h := QQ_c (A := τ2) (B := τ1) (σ := τ1) (fun k a b => F2 k (by omega)) Q1
    unfold QQ lg at h ⊢
    rw [F2 52 (by omega), F2 49 (by omega), F2 50 (by omega)]
    exact h
  have V2 : τ2 51 w = nI (vn τ2 w) := by
    have hb := yv_lt hw
    rw [hk2 51 (by omega) (by omega), V w hw]
    unfold vn
    rw [hk2 _ (by omega) (by omega)]
  have g2 : gd τ2 := fun j h1 h2 => by
    rw [hk2 58 (by omega) (by omega)]
    exact g0 j h1 h2
  obtain ⟨F, cF, IF, AFF⟩ := t_inserts I2 T2 R2 Q2 hw V2 g2 ht
  have AFσ : AF σ F := AF_trans (fun k hk => hk2 k (by omega) (by omega)) (by rw [F2 52 (by omega)]; exact F1.2) AFF
  refine ⟨F, ?_, LI_AF L0 IF AFσ⟩
  unfold LIn
  refine es_B (es_Q (es_SI (ee_M (ee_aR (ee_R rfl) (ee_aR (ee_R rfl) (ee_aR (ee_R rfl) (ee_aR (ee_R rfl) (ee_aR (ee_R rfl) (ee_aI (ee_L rfl) (ee_aI (ee_B (ee_L rfl) ee_K) (ee_aI (ee_L rfl) (ee_aI ee_K ee_aN))))))))) (ee_cr c1 rfl)) (es_Q ((c2 _).trans ?_))))
  rw [he2]
  refine es_Q (es_SI (x := ya_b true) (σ1 := τ2) (ee_iC (ee_cAt (ee_cAt (ee_cAt (ee_cAt (ee_cb (c := true) (ee_L rfl)) (ee_eq (ee_cB (ee_M (ee_aR (ee_R rfl) (ee_aI ee_K (ee_aI ee_K (ee_aI ee_K ee_aN)))) (ee_cr (h_putE (E := 1) (Or.inl ⟨rfl, rfl⟩)) rfl)) ee_K) (decide_eq_true xE1))) (ee_eq (ee_cB (ee_M (ee_aR (ee_R rfl) (ee_aI ee_K (ee_aI ee_K (ee_aI ee_K ee_aN)))) (ee_cr (h_putE (E := 1) (Or.inl ⟨rfl, rfl⟩)) rfl)) ee_K) (decide_eq_true xE1))) (ee_eq (ee_cB (ee_M (ee_aR (ee_R rfl) (ee_aI ee_K (ee_aI ee_K (ee_aI ee_K ee_aN)))) (ee_cr (h_putE (E := 2) (Or.inr ⟨rfl, rfl, rfl⟩)) rfl)) ee_K) (decide_eq_true xE2))) (ee_eq (ee_cB (ee_M (ee_aR (ee_R rfl) (ee_aI ee_K (ee_aI ee_K ee_aN))) (ee_cr (h_area CP_self 4 0) rfl)) ee_K) rfl))) ?_)
  exact es_eZb (c := true) (ee_iC (ee_cAt (ee_cAt (ee_cb (c := true) (ee_L rfl)) (ee_cb (c := true) (ee_M (ee_aR (ee_R rfl) (ee_aR (ee_R rfl) (ee_aR (ee_R rfl) (ee_aR (ee_R rfl) (ee_aR (ee_R rfl) (ee_aR (ee_R rfl) (ee_aR (ee_R rfl) (ee_aR (ee_R rfl) (ee_aR (ee_R rfl) (ee_aR (ee_R rfl) (ee_aI (ee_L rfl) ee_aN))))))))))) (ee_cr cF rfl)))) (ee_eq (ee_cB (ee_M (ee_aR (ee_R rfl) (ee_aI ee_K ee_aN)) (ee_cr (h_insertE rfl) rfl)) ee_K) (decide_eq_true rfl))))
theorem act_hold (L : LI t 7 σ) (R : RW σ σ) (hw : w < 4) (ht : t + 70 < 10000) : ∃ τ, LHo (eA2 x y kd w) k σ = rOK τ ∧ LI (t + 8) 7 τ := by
  have L0 := L
  obtain ⟨I, T, ⟨s1, s2, s3, s4, s5, s6, s7⟩, h19, g1, V, g0⟩ := L
  have hvw := yv_lt hw
  have e1 : sy_up σ 52 1 0 = σ := by
    have := yu_same (σ := σ) (k := 52) (i := 1)
    rw [g1] at this
    exact this
  have hls : lsN σ = 0 := by
    show (σ 19 0).toInt.toNat = 0
    rw [h19]
    rfl
  have Q : QQ σ σ := by
    refine ⟨by rw [hls, g1]; rfl, fun i hi => ?_⟩
    rw [hls] at hi
    omega
  obtain ⟨way, hway, cway⟩ := c_low (σ := σ) (env := eA2 x y kd w) (e := sy_iShr (sy_iL 10) (sy_iK 9)) (g := sy_iK 2) (n := 2) (by omega) (by omega) (ee_B (ee_L rfl) ee_K) ee_K
  have hg := t_gets I T R Q (way := way) (b := true) hw (V w hw) (by omega)
  obtain ⟨F, hF⟩ : ∃ F, F = sy_up (ya_get σ w (nI way) true) 52 1 0 := ⟨_, rfl⟩
  rw [← hF] at hg
  have kF : ∀ k, k ≠ 52 → F k = ya_get σ w (nI way) true k := fun k hk => by rw [hF]; exact up_ne hk
  have IF : yn_I t F := by
    obtain ⟨L, hL⟩ := CP_mg (A := ya_get σ w (nI way) true) (σ := F) (fun k hk => kF k (by omega))
    rw [hL]
    exact yn_I_mg (yn_get I hw _ _)
  have AFF : AF σ F := by
    rw [hF]
    exact get_AF g0 ⟨fun _ _ => rfl, rfl⟩ (fun _ _ _ => rfl) hw
  have hclear : sy_iM (sy_cv 5 0 sf_X5_clear) (sy_aR (sy_rL 0) sy_aN) (eA2 x y kd w) σ = some (.inl 0, σ) := by
    have e := f_X5_clear σ
    have e3 : sy_up σ 19 0 0 = σ := by
      have := yu_same (σ := σ) (k := 19) (i := 0)
      rw [h19] at this
      exact this
    rw [h19, e3] at e
    exact ee_M (ee_aR (ee_R rfl) ee_aN) (ee_cv e rfl)
  have hS14 : ∀ {Z : sy_S} {r : Option (((Option Value) ⊕ Nat) × sy_Mem)}, Z (eA2 x y kd w ++ [.int (ya_b true)]) k F = r → (sy_sQ (sy_sW (sy_rL 9) (sy_iK 1) (sy_iK 0)) (sy_sQ (sy_sSI 14 (sy_iC (sy_cA (sy_cge (sy_iM (sy_cv 5 0 sf_X5_clear) (sy_aR (sy_rL 0) sy_aN)) (sy_iK 0)) (sy_cI (sy_iM (sy_cr 13 sf_L_gets) (sy_aR (sy_rL 0) (sy_aR (sy_rL 1) (sy_aR (sy_rL 2) (sy_aR (sy_rL 3) (sy_aR (sy_rL 4) (sy_aR (sy_rL 5) (sy_aR (sy_rL 6) (sy_aR (sy_rL 7) (sy_aR (sy_rL 8) (sy_aR (sy_rL 9) (sy_aI (sy_iL 13) (sy_aI (sy_iM (sy_cr 2 sf_L_low) (sy_aI (sy_iShr (sy_iL 10) (sy_iK 9)) (sy_aI (sy_iK 2) sy_aN))) (sy_aI (sy_iK 1) sy_aN)))))))))))))))))) Z)) (eA2 x y kd w) k σ = r := fun h => by
    refine es_Q (es_Wn (j := 1) (ee_R rfl) ee_K ee_K (by decide) (by decide) ?_)
    rw [e1]
    exact es_Q (es_SI (x := ya_b true) (σ1 := F) (ee_iC (ee_cAt (ee_eq (ee_cB hclear ee_K) (decide_eq_true (by decide))) (ee_cb (c := true) (ee_M (ee_aR (ee_R rfl) (ee_aR (ee_R rfl) (ee_aR (ee_R rfl) (ee_aR (ee_R rfl) (ee_aR (ee_R rfl) (ee_aR (ee_R rfl) (ee_aR (ee_R rfl) (ee_aR (ee_R rfl) (ee_aR (ee_R rfl) (ee_aR (ee_R rfl) (ee_aI (ee_L rfl) (ee_aI cway (ee_aI ee_K ee_aN))))))))))))) (ee_cr hg rfl))))) h)
  by_cases h6 : F (sy_vw w) 6 = 0
  · have hr := h_replace hw (ct_rep6 hw h6)
    obtain ⟨F2, hF2⟩ : ∃ F2, F2 = sy_up (sy_up F (sy_vw w) 6 0) 19 0 0 := ⟨_, rfl⟩
    rw [← hF2] at hr
    have IF2 : yn_I t F2 := by
      rw [hF2]
      exact yn_drop (yn_release IF hw)
    have F26 : F2 (sy_vw w) 6 = 0 := by
      rw [hF2, yu_ne (by omega), yu_at]
    have hd := h_delete6 (τ := F2) hw (yn_Wo IF2) (by
      unfold ya_X4_lastHeld
      rw [F26]
      rfl)
    obtain ⟨F3, hF3⟩ : ∃ F3, F3 = sy_up (sy_up F2 (sy_vw w) 6 0) 19 0 0 := ⟨_, rfl⟩
    rw [← hF3] at hd
    have IF3 : yn_I t F3 := by
      rw [hF3]
      exact yn_drop (yn_release IF2 hw)
    have k3 : ∀ k, k ≠ 19 → k ≠ sy_vw w → F3 k = F k := fun k a b => by rw [hF3, yu_ne a, yu_ne b, hF2, yu_ne a, yu_ne b]
    have AF3 : AF σ F3 := by
      obtain ⟨f1, f2, f3, f4, f5, f6⟩ := AFF
      refine ⟨fun k hk => by rw [k3 k (by omega) (by omega)]; exact f1 k hk, by rw [k3 52 (by omega) (by omega)]; exact f2, fun u hu i hi => ?_, by rw [k3 52 (by omega) (by omega)]; exact f4, by rw [hF3]; exact yu_at, fun j a b => by rw [k3 58 (by omega) (by omega)]; exact f6 j a b⟩
      have hbu := yv_lt hu
      rw [← f3 u hu i hi]
      by_cases q : sy_vw u = sy_vw w
      · rw [q, hF3, yu_ne (by omega), yu_an (by omega), hF2, yu_ne (by omega), yu_an (by omega)]
      · rw [k3 _ (by omega) q]
    refine ⟨F3, ?_, LI_AF L0 (yn_I_to IF3 (by omega)) AF3⟩
    unfold LHo
    refine hS14 (es_Q (es_It (ee_eq (ee_cB (c_holds CP_self hw (ee_R rfl) (ee_L rfl)) ee_K) (decide_eq_true h6)) ?_))
    exact es_eZb (c := true) (ee_iC (ee_cAt (ee_cAt (ee_cAt (ee_cAt (ee_cb (c := true) (ee_L rfl)) (ee_eq (ee_cB (ee_M (ee_aR (ee_R rfl) (ee_aI (ee_L rfl) ee_aN)) (ee_cr hr rfl)) ee_K) (decide_eq_true rfl))) (ee_eq (ee_cB (ee_M (ee_aR (ee_R rfl) (ee_aI (ee_L rfl) ee_aN)) (ee_cr hd rfl)) ee_K) (decide_eq_true rfl))) (ee_eq (ee_cB (ee_M (ee_aR (ee_R rfl) (ee_aI ee_K ee_aN)) (ee_cr (h_replaceE rfl) rfl)) ee_K) (decide_eq_true rfl))) (ee_eq (ee_cB (ee_M (ee_aR (ee_R rfl) (ee_aI ee_K ee_aN)) (ee_cr (h_deleteE rfl) rfl)) ee_K) (decide_eq_true rfl))))
  · obtain ⟨z, z1, z2, z3, z4, z5, z6⟩ := (got_hold I hw h19 (nI way)).resolve_left (by rw [← kF _ (by omega)]; exact h6)
    rw [← kF _ (by omega)] at z3 z4 z5
    have z6 : ya_here F w = z := by
      rw [← z6]
      unfold ya_here
      rw [kF _ (by omega)]
    have hbF : yc_base σ F := fun k hk => (kF k (by omega)).trans (get_ne hw (by omega))
    have TF : TT F F := TT_b hbF (by rw [kF 44 (by omega)]; exact get_ne hw (by omega)) T
    have RF : RW F F := RW_b hbF (fun k a b => by rw [kF k (by omega)]; exact get_ne hw (by omega)) R
    have VF : ∀ u, u < 4 → F 51 u = nI (vn F u) := fun u hu => by
      unfold vn
      rw [AFF.1 51 (by omega), AFF.2.2.1 u hu 0 (by omega), AFF.2.2.1 u hu 1 (by omega)]
      exact V u hu
    obtain ⟨d1, d2, d3⟩ := vd_is IF hw
    have zl : yl F z := by rw [yl_c (hbF 11 (by omega))]; exact z1
    have zD : sD F z = nI (vn F w % 4) := by
      rw [← d3, AFF.2.2.1 w hw 0 (by omega), ← z2]
      show tD F (yT F z) = tD σ (yT σ z)
      rw [show yT F z = yT σ z from ya_sg_c (hbF 11 (by omega)) _]
      exact ya_tg_c (hbF 1 (by omega)) (hbF 2 (by omega)) _ _
    obtain ⟨j, j1, j2, j3⟩ := sg_of IF zl d2 zD
    have fin : ∀ {G : sy_Mem}, yn_I (t + 8) G → AF F G → LI (t + 8) 7 G := fun {G} IG AG => LI_AF (LI_AF L0 IF AFF) IG AG
    cases hk : decide (kd < 18) with
    | true =>
      obtain ⟨G, cG, IG, AG⟩ := t_replaces IF TF RF hw (VF w hw) AFF.2.2.2.2.2 ht AFF.2.2.2.1 z3 (by rw [← j2]; exact z4) z5 d2 rfl j1 (by rw [← j2]; exact z6) y
      refine ⟨G, ?_, fin IG AG⟩
      unfold LHo
      refine hS14 (es_Q (es_If (ee_eq (ee_cB (c_holds CP_self hw (ee_R rfl) (ee_L rfl)) ee_K) (decide_eq_false h6)) (es_N ?_)))
      exact es_eZb (c := true) (ee_iC (ee_cAt (ee_cb (c := true) (ee_L rfl)) (ee_cQ1 (ee_eq (ee_cB (ee_L rfl) ee_K) hk) (ee_cb (c := true) (ee_M (ee_aR (ee_R rfl) (ee_aR (ee_R rfl) (ee_aR (ee_R rfl) (ee_aR (ee_R rfl) (ee_aR (ee_R rfl) (ee_aR (ee_R rfl) (ee_aR (ee_R rfl) (ee_aI (ee_L rfl) (ee_aI (ee_L rfl) ee_aN))))))))) (ee_cr cG rfl))))))
    | false =>
      obtain ⟨G, cG, IG, AG⟩ := t_deletes IF TF RF hw VF AFF.2.2.2.2.2 AFF.2.2.2.1 AFF.2.2.2.2.1 z3 (by rw [← j2]; exact z4) d2 rfl j1 (by rw [← j2]; exact z6)
      refine ⟨G, ?_, fin IG AG⟩
      unfold LHo
      refine hS14 (es_Q (es_If (ee_eq (ee_cB (c_holds CP_self hw (ee_R rfl) (ee_L rfl)) ee_K) (decide_eq_false h6)) (es_N ?_)))
      exact es_eZb (c := true) (ee_iC (ee_cAt (ee_cb (c := true) (ee_L rfl)) (ee_cQ2 (ee_eq (ee_cB (ee_L rfl) ee_K) hk) (ee_cb (c := true) (ee_M (ee_aR (ee_R rfl) (ee_aR (ee_R rfl) (ee_aR (ee_R rfl) (ee_aR (ee_R rfl) (ee_aR (ee_R rfl) (ee_aR (ee_R rfl) (ee_aR (ee_R rfl) (ee_aI (ee_L rfl) ee_aN)))))))) (ee_cr cG rfl))))))
theorem t_acts (L : LI t n σ) (ht : t + 70 < 10000) (x y : Int32) : ∃ τ n', sf_L_acts (eAc x y) σ = rOK τ ∧ LI (t + 8) n' τ := by
  have L0 := L
  obtain ⟨I, T, ⟨s1, s2, s3, s4, s5, s6, s7⟩, h19, g1, V, g0⟩ := L
  have hg0 : sy_clt (sy_iA 0 (sy_rL 9) (sy_iK 0)) (sy_iK 7) (eAc x y) σ = some (.inl (decide (n < 7)), σ) := ee_eq (ee_cB (ee_eq (ee_An (j := 0) (ee_R rfl) ee_K (by decide) (by decide)) s2) ee_K) (nI_ltd (q := 7) (by omega) (by omega))
  by_cases hn : n < 7
  · obtain ⟨τ, c1, L1⟩ := t_defines L0 hn x y
    refine ⟨τ, n + 1, ke_meth ?_ (Nat.le_of_ble_eq_true rfl), LI_to L1 (by omega)⟩
    rw [acts_eq]
    exact es_Q (es_It (hg0.trans (by rw [decide_eq_true hn])) (es_eZb (c := true) (ee_M (ee_aR (ee_R rfl) (ee_aR (ee_R rfl) (ee_aR (ee_R rfl) (ee_aI (ee_L rfl) (ee_aI (ee_L rfl) ee_aN))))) (ee_cr c1 rfl))))
  have hn7 : n = 7 := by omega
  subst hn7
  obtain ⟨kd, hkd, ckd⟩ := c_low (σ := σ) (env := eAc x y) (e := sy_iL 10) (g := sy_iK 20) (n := 20) (by omega) (by omega) (ee_L rfl) ee_K
  obtain ⟨w, hw, cw⟩ := c_low (σ := σ) (env := eAc x y ++ [.int (nI kd)]) (e := sy_iShr (sy_iL 10) (sy_iK 5)) (g := sy_iK 4) (n := 4) (by omega) (by omega) (ee_B (ee_L rfl) ee_K) ee_K
  have start : ∀ {Z : sy_S} {k : List Value → sy_MM (Option Value)} {r : Option (((Option Value) ⊕ Nat) × sy_Mem)}, Z (eA2 x y (nI kd) w) k σ = r → (sy_sQ (sy_sI (sy_clt (sy_iA 0 (sy_rL 9) (sy_iK 0)) (sy_iK 7)) (sy_eZ (sy_iM (sy_cr 5 sf_L_defines) (sy_aR (sy_rL 0) (sy_aR (sy_rL 1) (sy_aR (sy_rL 9) (sy_aI (sy_iL 10) (sy_aI (sy_iL 11) sy_aN))))))) sy_sN) (sy_sQ (sy_sSI 12 (sy_iM (sy_cr 2 sf_L_low) (sy_aI (sy_iL 10) (sy_aI (sy_iK 20) sy_aN)))) (sy_sQ (sy_sSI 13 (sy_iM (sy_cr 2 sf_L_low) (sy_aI (sy_iShr (sy_iL 10) (sy_iK 5)) (sy_aI (sy_iK 4) sy_aN)))) Z))) (eAc x y) k σ = r := fun h => es_Q (es_If (hg0.trans (by rw [decide_eq_false hn])) (es_N (es_Q (es_SI ckd (es_Q (es_SI cw h))))))
  have hv51 : sy_iA 0 (sy_rL 8) (sy_iL 13) (eA2 x y (nI kd) w) σ = some (.inl (σ 51 w), σ) := ee_An (j := w) (ee_R rfl) (ee_L rfl) (show w < 4 from hw) (by decide)
  cases ho : (decide (nI kd = 0) || decide (σ 51 w < 4)) with
  | true =>
    obtain ⟨τ, c1, L1⟩ := act_open (x := x) (y := y) (kd := nI kd) (k := fun env' => (sy_sQ (sy_sI (sy_cN (sy_cI (sy_iM (sy_cr 6 sf_L_reads) (sy_aR (sy_rL 0) (sy_aR (sy_rL 1) (sy_aR (sy_rL 2) (sy_aR (sy_rL 3) (sy_aR (sy_rL 4) (sy_aR (sy_rL 5) sy_aN))))))))) (sy_eZ (sy_iK 0)) sy_sN) (sy_sQ (sy_sI (sy_clt (sy_iL 12) (sy_iK 8)) LIn sy_sN) (sy_sQ (sy_sI (sy_clt (sy_iL 12) (sy_iK 15)) LGt sy_sN) LHo))) env' (fun _ => sy_fail)) L0 hw
    refine ⟨τ, 7, ke_meth ?_ (Nat.le_of_ble_eq_true rfl), LI_to L1 (by omega)⟩
    rw [acts_eq]
    exact start (es_Q (es_It (ee_eq (ee_cO (ee_cB (ee_L rfl) ee_K) (fun _ => ee_cB hv51 ee_K)) ho) c1))
  | false =>
    have hr := t_reads I T CP_self
    obtain ⟨σr, hσr⟩ : ∃ σr, σr = rB σ σ 3 := ⟨_, rfl⟩
    rw [← hσr] at hr
    have kr : ∀ k, k < 45 ∨ 48 < k → σr k = σ k := fun k hk => by
      rw [hσr]
      exact rB_ne hk 3 (by omega)
    have hbr : yc_base σ σr := fun k hk => kr k (by omega)
    have Rr : RW σr σr := RW_b hbr (fun k a b => by rw [hσr]) (show RW σ (rB σ σ 3) from rB_RW)
    have Lr : LI t 7 σr := by
      refine LI_AF L0 ?_ ⟨fun k hk => kr k (by omega), by rw [kr 52 (by omega)], fun u hu i hi => by rw [kr _ (by have := yv_lt hu; omega)], by rw [kr 52 (by omega)]; exact g1, by rw [kr 19 (by omega)]; exact h19, fun j a b => by rw [kr 58 (by omega)]; exact g0 j a b⟩
      obtain ⟨L, hL⟩ := CP_mg (A := σ) (σ := σr) (fun k hk => kr k (by omega))
      rw [hL]
      exact yn_I_mg I
    have go : ∀ {Z : sy_S} {r : Option (((Option Value) ⊕ Nat) × sy_Mem)}, Z (eA2 x y (nI kd) w) (fun _ => sy_fail) σr = r → (sy_sQ (sy_sI (sy_clt (sy_iA 0 (sy_rL 9) (sy_iK 0)) (sy_iK 7)) (sy_eZ (sy_iM (sy_cr 5 sf_L_defines) (sy_aR (sy_rL 0) (sy_aR (sy_rL 1) (sy_aR (sy_rL 9) (sy_aI (sy_iL 10) (sy_aI (sy_iL 11) sy_aN))))))) sy_sN) (sy_sQ (sy_sSI 12 (sy_iM (sy_cr 2 sf_L_low) (sy_aI (sy_iL 10) (sy_aI (sy_iK 20) sy_aN)))) (sy_sQ (sy_sSI 13 (sy_iM (sy_cr 2 sf_L_low) (sy_aI (sy_iShr (sy_iL 10) (sy_iK 5)) (sy_aI (sy_iK 4) sy_aN)))) (sy_sQ (sy_sI (sy_cO (sy_ceq (sy_iL 12) (sy_iK 0)) (sy_clt (sy_iA 0 (sy_rL 8) (sy_iL 13)) (sy_iK 4))) LOp sy_sN) (sy_sQ (sy_sI (sy_cN (sy_cI (sy_iM (sy_cr 6 sf_L_reads) (sy_aR (sy_rL 0) (sy_aR (sy_rL 1) (sy_aR (sy_rL 2) (sy_aR (sy_rL 3) (sy_aR (sy_rL 4) (sy_aR (sy_rL 5) sy_aN))))))))) (sy_eZ (sy_iK 0)) sy_sN) Z))))) (eAc x y) (fun _ => sy_fail) σ = r := fun h => start (es_Q (es_If (ee_eq (ee_cO (ee_cB (ee_L rfl) ee_K) (fun _ => ee_cB hv51 ee_K)) ho) (es_N (es_Q (es_If (ee_eq (ee_cN (ee_cb (c := true) (ee_M (ee_aR (ee_R rfl) (ee_aR (ee_R rfl) (ee_aR (ee_R rfl) (ee_aR (ee_R rfl) (ee_aR (ee_R rfl) (ee_aR (ee_R rfl) ee_aN)))))) (ee_cr hr rfl)))) rfl) (es_N h))))))
    have hlt : ∀ q : Nat, q < 1000 → sy_clt (sy_iL 12) (sy_iK (nI q)) (eA2 x y (nI kd) w) σr = some (.inl (decide (kd < q)), σr) := fun q hq => ee_eq (ee_cB (ee_L rfl) ee_K) (nI_ltd (by omega) hq)
    by_cases h8 : kd < 8
    · obtain ⟨τ, c1, L1⟩ := act_ins (x := x) (y := y) (kd := nI kd) (k := fun env' => (sy_sQ (sy_sI (sy_clt (sy_iL 12) (sy_iK 15)) LGt sy_sN) LHo) env' (fun _ => sy_fail)) Lr Rr hw ht
      refine ⟨τ, 7, ke_meth ?_ (Nat.le_of_ble_eq_true rfl), L1⟩
      rw [acts_eq]
      exact go (es_Q (es_It ((hlt 8 (by omega)).trans (by rw [decide_eq_true h8])) c1))
    · by_cases h15 : kd < 15
      · obtain ⟨τ, c1, L1⟩ := act_get (x := x) (y := y) (kd := nI kd) (k := fun env' => LHo env' (fun _ => sy_fail)) Lr Rr hw
        refine ⟨τ, 7, ke_meth ?_ (Nat.le_of_ble_eq_true rfl), LI_to L1 (by omega)⟩
        rw [acts_eq]
        exact go (es_Q (es_If ((hlt 8 (by omega)).trans (by rw [decide_eq_false h8])) (es_N (es_Q (es_It ((hlt 15 (by omega)).trans (by rw [decide_eq_true h15])) c1)))))
      · obtain ⟨τ, c1, L1⟩ := act_hold (x := x) (y := y) (kd := nI kd) (k := fun _ => sy_fail) Lr Rr hw ht
        refine ⟨τ, 7, ke_meth ?_ (Nat.le_of_ble_eq_true rfl), L1⟩
        rw [acts_eq]
        exact go (es_Q (es_If ((hlt 8 (by omega)).trans (by rw [decide_eq_false h8])) (es_N (es_Q (es_If ((hlt 15 (by omega)).trans (by rw [decide_eq_false h15])) (es_N c1))))))
end LA58
