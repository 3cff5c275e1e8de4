section LA48
variable {A B G K M σ τ : sy_Mem} {t u v d j z c : Nat} {y ty w : Int32} {env : List Value}
def LRx : sy_S := (sy_sQ (sy_sSI 16 (sy_iQ (sy_ceq (sy_iL 14) (sy_iM (sy_cr 2 sf_L_fieldOf) (sy_aL (sy_lA (sy_rL 10) (sy_iL 11)) (sy_aI (sy_iK 2) sy_aN)))) (sy_iK 0) (sy_iM (sy_cr 8 sf_L_needs) (sy_aR (sy_rL 1) (sy_aR (sy_rL 2) (sy_aR (sy_rL 3) (sy_aR (sy_rL 4) (sy_aR (sy_rL 5) (sy_aR (sy_rL 15) (sy_aI (sy_iL 13) (sy_aI (sy_iL 14) sy_aN))))))))))) (sy_sQ (sy_sSI 17 (sy_iC (sy_cA (sy_clt (sy_iDv false (sy_iDv true (sy_iA 0 (sy_rL 1) (sy_iL 13)) (sy_iK 64)) (sy_iK 4)) (sy_iK 2)) (sy_cne (sy_iM (sy_cr 3 sf_L_area) (sy_aR (sy_rL 0) (sy_aI (sy_iK 0) (sy_aI (sy_iK 0) sy_aN)))) (sy_iM (sy_cr 2 sf_L_fieldOf) (sy_aL (sy_lA (sy_rL 10) (sy_iL 11)) (sy_aI (sy_iK 0) sy_aN))))))) (sy_sQ (sy_sSI 18 (sy_iQ (sy_cI (sy_iL 17)) (sy_iK 8) (sy_iQ (sy_cgt (sy_iL 16) (sy_iK 0)) (sy_iK 10) (sy_iQ (sy_cgt (sy_iAdd (sy_iAdd (sy_iAdd (sy_iA 0 (sy_rL 5) (sy_iK 0)) (sy_iA 0 (sy_rL 5) (sy_iK 1))) (sy_iA 0 (sy_rL 5) (sy_iK 2))) (sy_iT (sy_rL 15) (sy_iK 0))) (sy_iK 60)) (sy_iK 11) (sy_iK 0))))) (sy_sI (sy_ceq (sy_iL 18) (sy_iK 0)) (sy_sQ (sy_sWL (sy_rL 10) (sy_iL 11) (sy_lM (sy_cr 3 sf_L_slot) (sy_aR (sy_rL 0) (sy_aI (sy_iK 0) (sy_aI (sy_iL 13) sy_aN))))) (sy_sC (sy_cr 6 sf_L_makes) (sy_aR (sy_rL 1) (sy_aR (sy_rL 2) (sy_aR (sy_rL 3) (sy_aR (sy_rL 4) (sy_aR (sy_rL 5) (sy_aR (sy_rL 15) sy_aN)))))))) sy_sN))))
def LRz : sy_S := (sy_sQ (sy_sDrp 53 15) (sy_eZ (sy_iC (sy_cA (sy_cA (sy_cA (sy_cA (sy_cI (sy_iL 12)) (sy_ceq (sy_iM (sy_cr 2 sf_L_replace) (sy_aR (sy_rL 0) (sy_aI (sy_iL 7) sy_aN))) (sy_iL 18))) (sy_cI (sy_iM (sy_cr 5 sf_L_same) (sy_aR (sy_rL 0) (sy_aR (sy_rL 2) (sy_aR (sy_rL 3) (sy_aR (sy_rL 4) (sy_aR (sy_rL 5) sy_aN)))))))) (sy_ceq (sy_iM (sy_cr 2 sf_L_holds) (sy_aR (sy_rL 0) (sy_aI (sy_iL 7) sy_aN))) (sy_iK 0))) (sy_ceq (sy_iM (sy_cr 2 sf_L_replace) (sy_aR (sy_rL 0) (sy_aI (sy_iL 7) sy_aN))) (sy_iK 6))))))
def IR (t v d j : Nat) (A σ : sy_Mem) : Prop := (yn_I t A ∧ TT A σ ∧ RW A σ) ∧ (v < 4 ∧ d < 3 ∧ j < cn A d) ∧ (A (sy_vw v) 6 = 1 ∧ A (sy_vw v + 1) 0 = sg A d j ∧ A (sy_vw v + 2) 0 = 0) ∧ ∀ s f, ya_slot σ s f = ya_slot A s f
abbrev eR5 (v : Nat) (y : Int32) (d j : Nat) (ty w l ch st : Int32) : List Value := eR2 v y d j ty w ++ [.ref 53, .int l, .int ch, .int st]
def POSTR (t v : Nat) (y : Int32) (d j : Nat) (ty w : Int32) (A σ : sy_Mem) (e : List Value) (τ : sy_Mem) : Prop := ∃ (l ch st : Int32) (M B : sy_Mem) (u : Nat), e = eR5 v y d j ty w l ch st ∧
  sf_X5_replaceHeld [.ref 0, .ref (sy_vw v)] A = some (.inl (some (.int st)), M) ∧ yn_I (t + 8) M ∧ (yn_I u B ∧ RW B τ ∧ eqR M B) ∧ (∀ k, k < 10 ∨ 29 < k → M k = A k) ∧ ∀ k, k < 45 ∨ (48 < k ∧ k ≠ 53) → τ k = σ k
theorem rep_law (H : IR t v d j A σ) (M0 : σ 58 53 = 1 ∧ ∀ i, σ 53 i = 0) (ht : t + 70 < 10000) (y : Int32) (hty : yT A (sg A d j) = ty) (hw : ya_slot A (nI 0) (nI 2) = w) :
    SX LRx (eR2 v y d j ty w ++ [.ref 53]) σ (POSTR t v y d j ty w A σ) := by
  obtain ⟨⟨I, T, R⟩, ⟨hv, hd, hj⟩, ⟨h6, hh1, hh2⟩, hS⟩ := H
  have h60 := cn_le I hd
  obtain ⟨x, hx⟩ : ∃ x, x = sg A d j := ⟨_, rfl⟩
  obtain ⟨x1, x2, x3⟩ := sg_ok I hd hj
  rw [← hx] at x1 x2 x3 hh1 hty
  obtain ⟨z, z60, hz⟩ := sg_nI x1
  have hvw := yv_lt hv
  obtain ⟨hl, hhl⟩ : ∃ hl, (fun i : Nat => ya_held A v (nI i)) = hl := ⟨_, rfl⟩
  obtain ⟨kp, hkp⟩ : ∃ kp, (fun i : Nat => ya_kept A v (nI i)) = kp := ⟨_, rfl⟩
  have hH := yv_held I hv (i := 0) (by rw [h6]; decide)
  have hl0 : hl 0 = x := by
    rw [← hhl]
    exact hH.1.trans hh1
  have kp0 : kp 0 = false := by
    rw [← hkp]
    show ya_kept A v (nI 0) = false
    rw [hH.2.1, hh2]
    rfl
  obtain ⟨G, hG⟩ : ∃ G, ya_gh A hl kp 1 = G := ⟨_, rfl⟩
  obtain ⟨K, hK⟩ : ∃ K, ya_mk G (G 27 0).toNatClampNeg = K := ⟨_, rfl⟩
  have C := ct_repH I hv ht h6 hhl hkp hG hK
  have hlv : ∀ i, i < 1 → yl A (hl i) := fun i hi => by
    have : i = 0 := by omega
    rw [this, hl0]
    exact x1
  obtain ⟨g1, g3, g4, g7⟩ := qc_gh (kp := kp) I (show 1 ≤ 4 by omega) hlv 1 (Nat.le_refl _)
  rw [hG] at g1 g3 g4 g7
  have hT := (I.2.1.1 _ x1).1
  rw [hty] at hT
  have hbG : yc_base A G := fun k hk => g4 k (by omega)
  obtain ⟨S0, hS0⟩ : ∃ S0, S0 = sy_up (sy_up A 27 0 0) 27 1 0 := ⟨_, rfl⟩
  have hGd : G = if ya_hk A hl kp 0 = true then S0 else ya_nr S0 ty w := by
    rw [← hG, hS0, ← hty, ← hl0, ← hw]
    rfl
  have hk0 : ya_hk A hl kp 0 = decide (w = ya_N A x 2) := by
    unfold ya_hk
    rw [kp0, Bool.false_or, hl0, ← hw]
    exact decide_eq_decide.mpr ⟨fun h => h.symm, fun h => h.symm⟩
  obtain ⟨s1, s3, s4, s6, s7, s8⟩ := qc_start I (P := fun _ _ => True)
  rw [← hS0] at s1 s3 s4 s6 s7 s8
  have mS0 : mG S0 σ := by
    have e0 : (S0 27 0).toInt.toNat = 0 := by rw [s8]; rfl
    show mR _ _ _ _ _
    rw [e0]
    exact ⟨M0.1, M0.2 0, fun i hi => absurd hi (by omega)⟩
  have hwr : 0 ≤ w.toInt ∧ w.toInt ≤ 999 := by rw [← hw]; exact ya_slot_rng I _ _
  have hf2 : ∀ {ρ : sy_Mem}, RW A ρ → ∀ (env : List Value) (f : Nat) (e : sy_IE), f < 3 → env[10]? = some (.ref (45 + d)) → env[11]? = some (.int (nI j)) → e env ρ = some (.inl (nI f), ρ) → sy_iM (sy_cr 2 sf_L_fieldOf) (sy_aL (sy_lA (sy_rL 10) (sy_iL 11)) (sy_aI e sy_aN)) env ρ = some (.inl (ya_N A x (nI f)), ρ) := fun {ρ} Rρ env f e hf e1 e2 e3 => by
    rw [hx]
    exact ev_f I Rρ hd hj hf (ee_R e1) (ee_L e2) e3
  -- what is lacking
  obtain ⟨l, τ1, hl1, l1, l2, l3, F1⟩ : ∃ (l : Nat) (τ1 : sy_Mem), (sy_iQ (sy_ceq (sy_iL 14) (sy_iM (sy_cr 2 sf_L_fieldOf) (sy_aL (sy_lA (sy_rL 10) (sy_iL 11)) (sy_aI (sy_iK 2) sy_aN)))) (sy_iK 0) (sy_iM (sy_cr 8 sf_L_needs) (sy_aR (sy_rL 1) (sy_aR (sy_rL 2) (sy_aR (sy_rL 3) (sy_aR (sy_rL 4) (sy_aR (sy_rL 5) (sy_aR (sy_rL 15) (sy_aI (sy_iL 13) (sy_aI (sy_iL 14) sy_aN)))))))))) (eR2 v y d j ty w ++ [.ref 53]) σ = some (.inl (nI l), τ1) ∧ l ≤ 1 ∧ (l = 0 ↔ G 27 1 = 0) ∧ mG G τ1 ∧ ∀ k, k ≠ 53 → τ1 k = σ k := by
    have hc : sy_ceq (sy_iL 14) (sy_iM (sy_cr 2 sf_L_fieldOf) (sy_aL (sy_lA (sy_rL 10) (sy_iL 11)) (sy_aI (sy_iK 2) sy_aN))) (eR2 v y d j ty w ++ [.ref 53]) σ = some (.inl (decide (w = ya_N A x 2)), σ) := ee_cB (ee_L rfl) (hf2 R _ 2 _ (by omega) rfl rfl ee_K)
    cases hq : decide (w = ya_N A x 2) with
    | true =>
      rw [hk0, hq, if_pos rfl] at hGd
      rw [hGd]
      exact ⟨0, σ, ee_iQ1 (hc.trans (by rw [hq])) ee_K, by omega, ⟨fun _ => s7, fun _ => rfl⟩, mS0, fun _ _ => rfl⟩
    | false =>
      rw [hk0, hq, if_neg (by decide)] at hGd
      have hbS : yc_base A S0 := fun k hk => s4 k (by omega)
      obtain ⟨τ2, c1, c2, c3⟩ := t_needs (σ := σ) s1 (TT_b hbS rfl T) (RW_b hbS (fun _ _ _ => rfl) R) (by rw [ya_isT_c (s4 1 (by decide))]; exact hT) hwr s3 (by omega) mS0
      have hq27 := qc_27 (A := S0) (ty := ty) (key := w) s3.1.1
      rw [← hGd] at hq27 c2
      generalize (ya_nc0 S0 ty w || !decide (tC S0 ty = 0)) = bb at hq27 c1
      have hev := ee_iQ2 (a := sy_iK 0) (hc.trans (by rw [hq])) (ee_M (as := (sy_aR (sy_rL 1) (sy_aR (sy_rL 2) (sy_aR (sy_rL 3) (sy_aR (sy_rL 4) (sy_aR (sy_rL 5) (sy_aR (sy_rL 15) (sy_aI (sy_iL 13) (sy_aI (sy_iL 14) sy_aN)))))))))  (ee_aR (ee_R rfl) (ee_aR (ee_R rfl) (ee_aR (ee_R rfl) (ee_aR (ee_R rfl) (ee_aR (ee_R rfl) (ee_aR (ee_R rfl) (ee_aI (ee_L rfl) (ee_aI (ee_L rfl) ee_aN)))))))) (ee_cr (m := 8) c1 rfl))
      cases bb with
      | true =>
        rw [if_pos rfl, s7] at hq27
        exact ⟨0, τ2, hev, by omega, ⟨fun _ => hq27, fun _ => rfl⟩, c2, c3⟩
      | false =>
        rw [if_neg (by decide)] at hq27
        exact ⟨1, τ2, hev, by omega, ⟨fun h => absurd h (by omega), fun h => by rw [hq27] at h; exact absurd h (by decide)⟩, c2, c3⟩
  have R1 : RW A τ1 := RW_b (fun _ _ => rfl) (fun k h1 h2 => F1 k (by omega)) R
  have T1 : TT A τ1 := TT_b (fun _ _ => rfl) (F1 44 (by omega)) T
  have hS1 : ∀ s f, ya_slot τ1 s f = ya_slot A s f := fun s f => by
    rw [← hS]
    exact ya_slot_c (F1 31 (by omega)) s f
  unfold LRx
  refine sx_SIQ hl1 ?_
  -- whether the key would change
  obtain ⟨chb, hchb⟩ : ∃ b, b = (decide (tK A ty < 2) && !decide (ya_slot A (nI 0) (nI 0) = ya_N A x (nI 0))) := ⟨_, rfl⟩
  refine sx_SIQ (x := ya_b chb) (σ1 := τ1) (ee_iC (ee_eq (ee_cA (ee_cB (ev_K I T1 hT (ee_R rfl) (ee_L rfl)).1 ee_K) (fun _ => ee_cB (ee_eq (c_area CP_self (s := 0) (f := 0) (by omega) (by omega) (ee_R rfl) ee_K ee_K) (hS1 _ _)) (hf2 R1 _ 0 _ (by omega) rfl rfl ee_K))) hchb.symm)) ?_
  have hK3 : 0 ≤ (tK A ty).toInt ∧ (tK A ty).toInt ≤ 2 := (I.1.2.1 _ hT).2.1
  have hlt2 : decide (tK A ty < 2) = !decide (tK A ty = 2) := by
    rw [← decide_not, decide_eq_decide, Int32.lt_iff_toInt_lt, yl_c2]
    constructor
    · intro h e
      rw [e, yl_c2] at h
      omega
    · intro h
      have : (tK A ty).toInt ≠ 2 := fun e => h (yi_ext (by rw [e, yl_c2]))
      omega
  have hsk : ya_sk A hl kp 1 = !chb := by
    rw [Bool.eq_iff_iff, ya_sk_iff, hchb, hlt2, Bool.not_eq_true', Bool.and_eq_false_iff, Bool.not_eq_false', Bool.not_eq_false', decide_eq_true_eq, decide_eq_true_eq]
    constructor
    · intro h
      have := h 0 (by omega) kp0
      rw [hl0, hty] at this
      exact this.imp id (fun q => q.symm)
    · intro h i hi _
      have : i = 0 := by omega
      subst this
      rw [hl0, hty]
      exact h.imp id (fun q => q.symm)
  rw [hsk] at C
  -- the status
  obtain ⟨hc, hcn⟩ : ∃ c, c = (G 27 0).toInt.toNat := ⟨_, rfl⟩
  have hc4 : hc ≤ 1 := by have := g3.1; omega
  have h3 := cn_sum I
  have hcn' : ∀ (env : List Value) (i : Nat) (e : sy_IE), i < 3 → env[5]? = some (.ref 48) → e env τ1 = some (.inl (nI i), τ1) → sy_iA 0 (sy_rL 5) e env τ1 = some (.inl (nI (cn A i)), τ1) := fun env i e hi h1 h2 => by
    rw [← (R1 i hi).1]
    exact ee_An (ee_R h1) h2 (show i < 3 from hi) (by decide)
  have hTt : sy_isT 53 τ1 = true := by
    unfold sy_isT
    rw [l3.1]
    rfl
  have hfull : sy_cgt (sy_iAdd (sy_iAdd (sy_iAdd (sy_iA 0 (sy_rL 5) (sy_iK 0)) (sy_iA 0 (sy_rL 5) (sy_iK 1))) (sy_iA 0 (sy_rL 5) (sy_iK 2))) (sy_iT (sy_rL 15) (sy_iK 0))) (sy_iK 60) (eR2 v y d j ty w ++ [.ref 53, .int (nI l), .int (ya_b chb)]) τ1 = some (.inl (decide (60 < (cn A 0 + cn A 1 + cn A 2) + hc)), τ1) := by
    refine ee_eq (ee_cB (ee_B (ee_B (ee_B (hcn' _ 0 _ (by omega) rfl ee_K) (hcn' _ 1 _ (by omega) rfl ee_K)) (hcn' _ 2 _ (by omega) rfl ee_K)) (ee_eq (ee_T (j := 0) (ee_R rfl) ee_K hTt (by decide)) (by rw [l3.2.1, ← hcn]))) ee_K) ?_
    show decide ((60 : Int32) < nI (cn A 0) + nI (cn A 1) + nI (cn A 2) + nI hc) = _
    rw [nadd, nadd, nadd, show (60 : Int32) = nI 60 from rfl, nI_ltd (by omega) (by omega)]
  have hl0' : decide ((0 : Int32) < nI l) = !decide (G 27 1 = 0) := by
    rw [nI_gt0 (by omega), ← decide_not]
    exact decide_eq_decide.mpr (by rw [← l2]; omega)
  refine sx_SIQ (σ1 := τ1) (ee_iQ (ee_cb (c := chb) (ee_L rfl)) (fun _ => ee_K) (fun _ => ee_iQ (ee_eq (ee_cB (ee_L rfl) ee_K) hl0') (fun _ => ee_K) (fun _ => ee_iQ hfull (fun _ => ee_K) (fun _ => ee_K)))) ?_
  have F1' : ∀ k, k < 45 ∨ (48 < k ∧ k ≠ 53) → τ1 k = σ k := fun k hk => F1 k (by omega)
  have I8 : yn_I (t + 8) A := yn_I_to I (by omega)
  have G8 : yn_I (t + 8) G := yn_I_to g1 (by omega)
  have skip : ∀ {st : Int32} {M : sy_Mem}, st ≠ 0 → sf_X5_replaceHeld [.ref 0, .ref (sy_vw v)] A = some (.inl (some (.int st)), M) → yn_I (t + 8) M → (∀ k, k < 27 ∨ 29 < k → M k = A k) → SX (sy_sI (sy_ceq (sy_iL 18) (sy_iK 0)) (sy_sQ (sy_sWL (sy_rL 10) (sy_iL 11) (sy_lM (sy_cr 3 sf_L_slot) (sy_aR (sy_rL 0) (sy_aI (sy_iK 0) (sy_aI (sy_iL 13) sy_aN))))) (sy_sC (sy_cr 6 sf_L_makes) (sy_aR (sy_rL 1) (sy_aR (sy_rL 2) (sy_aR (sy_rL 3) (sy_aR (sy_rL 4) (sy_aR (sy_rL 5) (sy_aR (sy_rL 15) sy_aN)))))))) sy_sN) (eR5 v y d j ty w (nI l) (ya_b chb) st) τ1 (POSTR t v y d j ty w A σ) := fun {st M} hst h1 h2 h3 =>
    sx_I (ee_eq (ee_cB (ee_L rfl) ee_K) (show decide (st = 0) = false from decide_eq_false hst)) (fun h => by cases h) (fun _ => sx_N ⟨nI l, ya_b chb, st, M, A, t, rfl, h1, h2, ⟨I, R1, eqR_c (A := M) (B := A) (fun k hk => (h3 k (by omega)).symm)⟩, fun k hk => h3 k (by omega), F1'⟩)
  obtain ⟨C8, Crest⟩ := C
  cases chb with
  | true =>
    rw [if_pos (show true = true from rfl)]
    exact skip (by decide) (C8 rfl) I8 (fun _ _ => rfl)
  | false =>
    obtain ⟨C10, C00⟩ := Crest rfl
    rw [if_neg (show ¬ (false = true) by decide)]
    by_cases e27 : G 27 1 = 0
    · rw [decide_eq_true e27, if_neg (show ¬ ((!true) = true) by decide)]
      obtain ⟨C11, Cok⟩ := C00 e27
      by_cases hf : 60 < (cn A 0 + cn A 1 + cn A 2) + hc
      · rw [decide_eq_true hf, if_pos rfl]
        exact skip (by decide) (C11 (by have := g3.1.1; omega)) G8 (fun k hk => g4 k hk)
      · rw [decide_eq_false hf, if_neg (show ¬ (false = true) by decide)]
        have hok := Cok (by have := g3.1.1; omega)
        have hsum : (G 10 9).toInt + (G 27 0).toInt ≤ 60 := by
          rw [g4 10 (by omega)]
          have := g3.1.1
          omega
        have hmk : ∀ i, i ≤ hc → yc_mk t G i := fun i hi => qc_mk g1 g3 hsum (by omega) i (by have := g3.1.1; omega)
        have xG : yl G (nI z) := by
          rw [yl_c (g4 11 (by decide)), ← hz]
          exact x1
        have hlive : ∀ i, i ≤ hc → yl (ya_mk G i) (nI z) ∧ (tK (ya_mk G i) (yT (ya_mk G i) (nI z)) = 2 ∨ ya_N (ya_mk G i) (nI z) 0 = ya_slot (ya_mk G i) 0 0) := fun i hi => by
          obtain ⟨m1, m3, m4, m6, m7⟩ := hmk i hi
          obtain ⟨o1, o2, o3, o4, o5⟩ := m6 _ xG
          refine ⟨o1, ?_⟩
          rw [o2, o5]
          have eT : yT G (nI z) = ty := by
            rw [show yT G (nI z) = yT A (nI z) from ya_sg_c (g4 11 (by decide)) _, ← hz]
            exact hty
          have eN : ya_N G (nI z) 0 = ya_N A x 0 := by
            rw [ya_N_nd g4, ← hz]
          have eK : tK (ya_mk G i) ty = tK A ty := (ya_tg_c (m4 1 (by decide)) (m4 5 (by decide)) _ _).trans (ya_tg_c (g4 1 (by decide)) (g4 5 (by decide)) _ _)
          have eSl : ya_slot (ya_mk G i) 0 0 = ya_slot A 0 0 := (ya_slot_c (m4 31 (by decide)) _ _).trans (ya_slot_c (g4 31 (by decide)) _ _)
          rw [eT, eN, eK, eSl]
          have := hchb
          rw [hlt2] at this
          have h4 := this.symm
          rw [Bool.and_eq_false_iff, Bool.not_eq_false', Bool.not_eq_false', decide_eq_true_eq, decide_eq_true_eq] at h4
          exact h4.imp id (fun q => q.symm)
        -- the row's own
        have hsl := t_slot (σ := τ1) I hS1 (s := 0) (by omega) (isT_12 I hT)
        obtain ⟨f1, f2⟩ := fil_N (σ := G) (j := 0) z60
        have eSG : ∀ a b, ya_slot G a b = ya_slot A a b := fun a b => ya_slot_c (g4 31 (by decide)) a b
        have eskz : pk ty.toInt.toNat (ya_slot A (nI 0) (nI 0)).toInt.toNat (ya_slot A (nI 0) (nI 1)).toInt.toNat (ya_slot A (nI 0) (nI 2)).toInt.toNat = sk (ya_fil G z 0 3) (sg G d j) := by
          have esg : sg G d j = nI z := by
            rw [← hz, hx]
            show ya_at G (nI d) (nI j) = ya_at A (nI d) (nI j)
            unfold ya_at
            rw [g4 15 (by decide), g4 16 (by decide)]
          have eT : yT (ya_fil G z 0 3) (nI z) = ty := by
            rw [show yT (ya_fil G z 0 3) (nI z) = yT G (nI z) from ya_sg_c (ya_fil_ne (by decide) 3) _, show yT G (nI z) = yT A (nI z) from ya_sg_c (g4 11 (by decide)) _, ← hz]
            exact hty
          have q0 := f1 0 (by omega)
          have q1 := f1 1 (by omega)
          have q2 := f1 2 (by omega)
          rw [eSG] at q0 q1 q2
          rw [esg]
          show _ = pk (yT (ya_fil G z 0 3) (nI z)).toInt.toNat (ya_N (ya_fil G z 0 3) (nI z) (nI 0)).toInt.toNat (ya_N (ya_fil G z 0 3) (nI z) (nI 1)).toInt.toNat (ya_N (ya_fil G z 0 3) (nI z) (nI 2)).toInt.toNat
          rw [eT, q0, q1, q2]
        have hcnG : cn G d = cn A d := by
          show (G 16 d).toInt.toNat = _
          rw [g4 16 (by decide)]
        have RL0 := set_RW (B := ya_fil G z 0 3) g1 (RW_b hbG (fun _ _ _ => rfl) R1) hd (by rw [hcnG]; exact hj) (fun k hk => ya_fil_ne hk 3) (fun s hs hne f hf => by
          refine f2 s hs (fun q => hne ?_) f hf
          rw [q, ← hz, hx]
          show ya_at A (nI d) (nI j) = ya_at G (nI d) (nI j)
          unfold ya_at
          rw [g4 15 (by decide), g4 16 (by decide)])
        rw [← eskz] at RL0
        generalize hσ2 : sy_upL τ1 (45 + d) j (pL (pk ty.toInt.toNat (ya_slot A (nI 0) (nI 0)).toInt.toNat (ya_slot A (nI 0) (nI 1)).toInt.toNat (ya_slot A (nI 0) (nI 2)).toInt.toNat)) = σ2 at RL0
        have k2 : ∀ k, k < 45 ∨ 47 < k → σ2 k = τ1 k := fun k hk => by
          rw [← hσ2]
          exact upL_ne (by omega)
        obtain ⟨τ3, c1, c2, c3, c4⟩ := t_makesG (kk := 53) (c := hc) (u := G 28) (w := G 29) (C := fun i => ya_fil (ya_mk G i) z 0 3) (tt := fun i => t + i) (σ := σ2) (by omega) (show hc < 5 by omega) (fun i hi => by
            obtain ⟨Hx, -⟩ := qc_mkH g3 hsum (by have := g3.1.1; omega) (hmk i (by omega))
            obtain ⟨w1, w2⟩ := hlive i (by omega)
            exact ms_fil Hx w1 z60 w2) (by
            obtain ⟨m1, m2, m3⟩ := l3
            rw [← hcn] at m2 m3
            exact ⟨by rw [k2 58 (by omega)]; exact m1, by rw [k2 53 (by omega)]; exact m2, fun i hi => by rw [k2 53 (by omega)]; exact m3 i hi⟩) (add_TT (TT_b hbG rfl T1) (fun k hk => ya_fil_ne (by omega) 3) (k2 44 (by omega))) RL0
        have hKc : (G 27 0).toNatClampNeg = hc := by rw [yi_clampInt]; exact hcn.symm
        rw [hKc] at hK
        have hM : ya_fk K hl kp 3 = ya_fil (ya_mk G hc) z 0 3 := by
          have e3 := ya_fk_3 (K := K) (hl := hl) (kp := kp) (n := 0) (by omega)
          rw [kp0, if_neg (by decide), hl0, hz, nI_clamp (by omega)] at e3
          rw [hK]
          exact e3
        rw [hM] at hok
        obtain ⟨w1, w2⟩ := hlive hc (Nat.le_refl _)
        have IM : yn_I (t + hc) (ya_fil (ya_mk G hc) z 0 3) := fil_num (hmk hc (Nat.le_refl _)).1 w1 z60 w2
        refine sx_I (ee_eq (ee_cB (ee_L rfl) ee_K) (show decide ((0 : Int32) = 0) = true from rfl)) (fun _ => ?_) (fun h => by cases h)
        have hl2 : j < sy_len 3 (45 + d) := by rw [rw_len hd]; omega
        have hl3 : sy_len 3 (45 + d) ≤ 200 := by rw [rw_len hd]; omega
        refine sx_DQ (env' := eR5 v y d j ty w (nI l) (ya_b false) 0) (σ1 := σ2) (fun k => es_WL (j := j) (a := 45 + d) (ee_R rfl) (ee_L rfl) (ee_lM (ee_aR (ee_R rfl) (ee_aI ee_K (ee_aI (ee_L rfl) ee_aN))) (ee_cr hsl rfl)) hl2 hl3 (by rw [hσ2]; rfl)) ?_
        refine ⟨_, τ3, ⟨nI l, ya_b false, 0, _, ya_fil (ya_mk G hc) z 0 3, _, rfl, hok, yn_I_to IM (by omega), ⟨IM, c2, eqR_c (fun _ _ => rfl)⟩, fun k hk => ?_, fun k hk => ?_⟩, fun k => es_C (ee_aR (ee_R rfl) (ee_aR (ee_R rfl) (ee_aR (ee_R rfl) (ee_aR (ee_R rfl) (ee_aR (ee_R rfl) (ee_aR (ee_R rfl) ee_aN)))))) (ee_cr c1 rfl) rfl⟩
        · rw [ya_fil_ne (by omega) 3, (hmk hc (Nat.le_refl _)).2.2.1 k (by omega)]
          exact g4 k (by omega)
        · rw [c4 k (by omega), k2 k (by omega)]
          exact F1' k hk
    · rw [decide_eq_false e27, if_pos (show (!false) = true from rfl)]
      exact skip (by decide) (C10 e27) G8 (fun k hk => g4 k hk)
end LA48
