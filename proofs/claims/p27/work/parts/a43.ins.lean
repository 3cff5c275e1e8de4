section LA43
variable {A B G K M σ τ σ1 : sy_Mem} {t u v d n f c : Nat} {ty key p h x g st pl b : Int32} {env : List Value}
abbrev eI4 (v d : Nat) (h x g st ty pl : Int32) : List Value := eI2 v d h x g ++ [.int st, .int ty, .int pl, .ref 53]
/-- what is known when the law has done all to its own rows -/
def POST (t v d : Nat) (A σ : sy_Mem) (e : List Value) (τ : sy_Mem) : Prop := ∃ (h x g st ty pl : Int32) (M B : sy_Mem) (u : Nat), e = eI4 v d h x g st ty pl ∧
  sf_X5_insertListed [.ref 0, .ref (sy_vw v)] A = some (.inl (some (.int st)), M) ∧ yn_I (t + 8) M ∧ (yn_I u B ∧ RW B τ ∧ eqR M B) ∧
  (yL M (ya_here M v) = h ∧ (st = 0 → yL M (M (sy_vw v) 5) = h) ∧ decide (0 < st) = !decide (st = 0)) ∧ M (sy_vw v) 6 = 0 ∧
  ((∀ k, k < 10 ∨ 44 ≤ k → M k = A k) ∧ ∀ w, w < 4 → ∀ i, i < 2 → M (sy_vw w) i = A (sy_vw w) i) ∧
  (∀ k, k < 45 ∨ (48 < k ∧ k ≠ 53 ∧ k ≠ 54 ∧ k ≠ 58) → τ k = σ k) ∧ τ 58 = upd (σ 58) 53 1
theorem ins_skip (hst : st ≠ 0) : SX (sy_sQ LX1 LX2) (eI4 v d h x g st ty pl) σ1 (fun e τ => e = eI4 v d h x g st ty pl ∧ τ = σ1) := by
  have hc : sy_ceq (sy_iL 16) (sy_iK 0) (eI4 v d h x g st ty pl) σ1 = some (.inl false, σ1) := ee_eq (ee_cB (ee_L rfl) ee_K) (show decide (st = 0) = false from decide_eq_false hst)
  refine sx_Q (R := fun e τ => e = eI4 v d h x g st ty pl ∧ τ = σ1) (sx_I hc (fun h => by cases h) (fun _ => sx_N ⟨rfl, rfl⟩)) ?_
  rintro e τ ⟨rfl, rfl⟩
  exact sx_I hc (fun h => by cases h) (fun _ => sx_N ⟨rfl, rfl⟩)
theorem ins_skip2 (hst : st ≠ 0) : SX LX2 (eI4 v d h x g st ty pl) σ1 (fun e τ => e = eI4 v d h x g st ty pl ∧ τ = σ1) := by
  have hc : sy_ceq (sy_iL 16) (sy_iK 0) (eI4 v d h x g st ty pl) σ1 = some (.inl false, σ1) := ee_eq (ee_cB (ee_L rfl) ee_K) (show decide (st = 0) = false from decide_eq_false hst)
  exact sx_I hc (fun h => by cases h) (fun _ => sx_N ⟨rfl, rfl⟩)
theorem post_old (IM : yn_I (t + 8) M) (I : yn_I t A) (hv : v < 4) (hM : ∀ k, k < 27 ∨ 29 < k → M k = A k) (hst : st ≠ 0) (hst2 : decide (0 < st) = true) (hc : sf_X5_insertListed [.ref 0, .ref (sy_vw v)] A = some (.inl (some (.int st)), M)) (h6 : A (sy_vw v) 6 = 0) (R : RW A τ)
    (F : ∀ k, k < 45 ∨ (48 < k ∧ k ≠ 53 ∧ k ≠ 54 ∧ k ≠ 58) → τ k = σ k) (F58 : τ 58 = upd (σ 58) 53 1) : POST t v d A σ (eI4 v d (yL A (ya_here A v)) x g st ty pl) τ := by
  have hvw := fun w (hw : w < 4) => yv_lt hw
  have e1 := hM (sy_vw v) (by have := hvw v hv; omega)
  refine ⟨_, x, g, st, ty, pl, M, A, t, rfl, hc, IM, ⟨I, R, eqR_c (A := M) (B := A) (fun k hk => (hM k (by omega)).symm)⟩, ⟨?_, fun e => absurd e hst, by rw [hst2, decide_eq_false hst]; rfl⟩, by rw [e1]; exact h6, ⟨fun k hk => hM k (by omega), fun w hw i _ => by rw [hM (sy_vw w) (by have := hvw w hw; omega)]⟩, F, F58⟩
  rw [show ya_here M v = ya_here A v from by unfold ya_here; rw [e1]]
  exact ya_sg_c (hM 17 (by omega)) _
theorem ins_law (H : IH t v d A σ) (g0 : gd σ) (ht : t + 70 < 10000) (h6 : A (sy_vw v) 6 = 0) :
    SX LIs (eIn v) σ (fun e τ => τ = σ ∧ sy_nor 53 e = true ∧ SR (sy_sQ LX1 LX2) (sy_set e 19 (.ref 53)) (sy_new 53 σ) (POST t v d A σ)) := by
  have H0 := H
  obtain ⟨⟨I, T, R, Q⟩, ⟨hv, hd⟩, V, hvd, hD, hH, hS⟩ := H
  obtain ⟨n1, n2, n3, n4⟩ := lsN_is I
  have I8 : yn_I (t + 8) A := yn_I_to I (by omega)
  have hnor : ∀ (h x g st ty pl : Int32), sy_nor 53 (eI2 v d h x g ++ [.int st, .int ty, .int pl]) = true := fun h x g st ty pl => by
    repeat' refine nor_cons ?_ ?_
    all_goals first | rfl | exact nor_45 (by omega) hd
  have kN : ∀ k, k ≤ 52 → sy_new 53 σ k = σ k := fun k hk => new_ne (by omega) (by omega)
  have RN : RW A (sy_new 53 σ) := RW_b (fun _ _ => rfl) (fun k h1 h2 => kN k (by omega)) R
  have FN : ∀ k, k < 45 ∨ (48 < k ∧ k ≠ 53 ∧ k ≠ 54 ∧ k ≠ 58) → sy_new 53 σ k = σ k := fun k hk => new_ne (by omega) (by omega)
  cases hg : ig A v with
  | false =>
    obtain ⟨x, hx⟩ := ins_pre_f H0 hg
    refine ⟨_, σ, ⟨rfl, hnor (yL A (ya_here A v)) x 0 4 0 (-1), sr_of ?_⟩, fun k => hx k _ rfl⟩
    obtain ⟨e1, τ1, ⟨rfl, rfl⟩, hk⟩ := ins_skip (v := v) (d := d) (h := yL A (ya_here A v)) (x := x) (g := 0) (st := 4) (ty := 0) (pl := -1) (σ1 := sy_new 53 σ) (by decide)
    exact ⟨_, _, post_old I8 I hv (fun _ _ => rfl) (by decide) (by decide) (ct_ins4 I hv hg) h6 RN FN rfl, hk⟩
  | true =>
    obtain ⟨f, hff⟩ : ∃ f, ya_first A = f := ⟨_, rfl⟩
    obtain ⟨p, hpp⟩ : ∃ p, ya_par0 A v f = p := ⟨_, rfl⟩
    obtain ⟨G, hGG⟩ : ∃ G, ya_gn A f ((A 19 0).toNatClampNeg - f) = G := ⟨_, rfl⟩
    obtain ⟨K, hKK⟩ : ∃ K, ya_mk G (G 27 0).toNatClampNeg = K := ⟨_, rfl⟩
    obtain ⟨B, b, e⟩ : ∃ B b, ya_inw K f p (ya_here K v) ((K 19 0).toNatClampNeg - f) = (B, b) := ⟨_, _, rfl⟩
    have C := ct_insL I hv ht hg hff hpp hGG hKK e
    have hg' := hg
    unfold ig at hg'
    rw [Bool.and_eq_true, Bool.and_eq_true, decide_eq_true_eq, hff] at hg'
    obtain ⟨hn, hL, hN⟩ := hg'
    have hf : f < lsN A := by
      have := ya_first_lt (A := A) (by rw [n3]; exact hn)
      rw [n3, hff] at this
      exact this
    obtain ⟨ty, hty⟩ : ∃ ty, A 20 f = ty := ⟨_, rfl⟩
    have hpre := ins_pre_t H0 hg hff hty hpp
    rw [ag_nI I hf, hty] at C
    have hT := (q_T I hf).1
    rw [hty] at hT
    have hDty : tD A ty = nI d := by
      have hs := (yg_listed I hL).1 f (by omega)
      rw [ag_nI I hf, hty] at hs
      unfold ya_X4_sees at hs
      rw [← hD]
      by_cases q : ya_tg A 2 (-1) ty = A (sy_vw v) 0
      · exact q
      · rw [decide_eq_false q] at hs
        exact absurd hs (by simp)
    refine ⟨_, σ, ⟨rfl, hnor (yL A (ya_here A v)) (nI f) 1 (if (decide (p = -1) && !decide (tP A ty = -1)) = true then 7 else 0) ty (yL A p), ?_⟩, fun k => hpre k _ rfl⟩
    obtain ⟨C7, C0⟩ := C
    cases hb1 : (decide (p = -1) && !decide (tP A ty = -1)) with
    | true =>
      obtain ⟨e1, τ1, ⟨rfl, rfl⟩, hk⟩ := ins_skip (v := v) (d := d) (h := yL A (ya_here A v)) (x := nI f) (g := 1) (st := 7) (ty := ty) (pl := yL A p) (σ1 := sy_new 53 σ) (by decide)
      exact sr_of ⟨_, _, post_old I8 I hv (fun _ _ => rfl) (by decide) (by decide) (C7 hb1) h6 RN FN rfl, hk⟩
    | false =>
      obtain ⟨hp, C9, Crest⟩ := C0 hb1
      have hp2 : p = -1 ∨ (yl A p ∧ sD A p = nI d) := by
        rcases hp with ⟨h1, -⟩ | ⟨h1, h2, h3⟩
        · exact Or.inl h1
        · right
          refine ⟨h1, ?_⟩
          show tD A (yT A p) = nI d
          rw [h2]
          have g5 : tP A ty = -1 ∨ tD A (tP A ty) = tD A ty := by
            have g6 := I.1.2.1 _ hT
            unfold yn_ty at g6
            rcases g6 with ⟨-, -, -, -, -, -, g6, -⟩
            rcases g6 with ⟨g6, -⟩ | ⟨-, -, g6, -⟩
            · exact Or.inl g6
            · exact Or.inr g6
          rcases g5 with g5 | g5
          · exact absurd g5 h3
          · rw [g5]
            exact hDty
      have hpR : inR A d p := inR_of I hd hp2
      have HN : IH t v d A (sy_new 53 σ) := IH_k kN H0
      have hchk := ins_chk HN hf hty hpR hDty ⟨by show upd (σ 58) 53 1 53 = 1; exact upd_at, fun i => by rw [new_at, if_pos rfl]⟩
      rw [← n3, hGG] at hchk
      have hcl : (G 27 0).toNatClampNeg = (G 27 0).toInt.toNat := yi_clampInt _
      obtain ⟨g1, g3, g4, g6, g7⟩ := qc_gn I f ((A 19 0).toNatClampNeg - f) (by omega)
      rw [hGG] at g1 g3 g4 g6 g7
      -- the first step
      generalize hstx : (if (decide (tK A ty = 0) && ya_X3_hasTwin A ty p (ya_slot A 0 0)) = true then (9 : Int32) else if G 27 1 = 0 then (if 60 < (cn A 0 + cn A 1 + cn A 2) + ((A 19 0).toNatClampNeg - f) + (G 27 0).toInt.toNat then 11 else 0) else 10) = stx at hchk
      have step1 : SX LX1 (eI4 v d (yL A (ya_here A v)) (nI f) 1 0 ty (yL A p)) (sy_new 53 σ) (fun e τ => e = eI4 v d (yL A (ya_here A v)) (nI f) 1 stx ty (yL A p) ∧ mG G τ ∧ ∀ k, k ≠ 53 → τ k = sy_new 53 σ k) :=
        sx_I (ee_eq (ee_cB (ee_L rfl) ee_K) (show decide ((0 : Int32) = 0) = true from rfl)) (fun _ => hchk) (fun h => by cases h)
      refine sr_Q (sr_of step1) ?_
      rintro e1 τ ⟨rfl, hM, F⟩
      have F1 : ∀ k, k < 45 ∨ (48 < k ∧ k ≠ 53 ∧ k ≠ 54 ∧ k ≠ 58) → τ k = σ k := fun k hk => (F k (by omega)).trans (FN k hk)
      have F58 : τ 58 = upd (σ 58) 53 1 := F 58 (by omega)
      have Rτ : RW A τ := RW_b (fun _ _ => rfl) (fun k h1 h2 => F k (by omega)) RN
      have hskip : ∀ {M : sy_Mem}, stx ≠ 0 → decide (0 < stx) = true → sf_X5_insertListed [.ref 0, .ref (sy_vw v)] A = some (.inl (some (.int stx)), M) → yn_I (t + 8) M → (∀ k, k < 27 ∨ 29 < k → M k = A k) → SR LX2 (eI4 v d (yL A (ya_here A v)) (nI f) 1 stx ty (yL A p)) τ (POST t v d A σ) := fun h1 h2 h3 h4 h5 => by
        obtain ⟨e1, τ1, ⟨rfl, rfl⟩, hk⟩ := ins_skip2 (v := v) (d := d) (h := yL A (ya_here A v)) (x := nI f) (g := 1) (st := stx) (ty := ty) (pl := yL A p) (σ1 := τ) h1
        exact sr_of ⟨_, _, post_old h4 I hv h5 h1 h2 h3 h6 Rτ F1 F58, hk⟩
      cases hb2 : (decide (tK A ty = 0) && ya_X3_hasTwin A ty p (ya_slot A 0 0)) with
      | true =>
        rw [hb2, if_pos rfl] at hstx
        subst hstx
        exact hskip (by decide) (by decide) (C9 hb2) I8 (fun _ _ => rfl)
      | false =>
        rw [hb2, if_neg (by decide)] at hstx
        obtain ⟨C10, C00⟩ := Crest hb2
        have IG : yn_I (t + 8) G := yn_I_to g1 (by omega)
        by_cases e27 : G 27 1 = 0
        · rw [if_pos e27] at hstx
          obtain ⟨C11, Cok⟩ := C00 e27
          have hs3 := cn_sum I
          by_cases hfull : 60 < (A 10 9).toInt + ((A 19 0).toInt - f) + (G 27 0).toInt
          · rw [if_pos (by have := g3.1.1; omega)] at hstx
            subst hstx
            exact hskip (by decide) (by decide) (C11 hfull) IG (fun k hk => g4 k hk)
          · rw [if_neg (by have := g3.1.1; omega)] at hstx
            subst hstx
            obtain ⟨IK, hok, hc, IM⟩ := Cok hfull
            -- all is made
            have Hτ : IH t v d A τ := IH_k (fun k hk => (F k (by omega)).trans (kN k hk)) H0
            rw [hcl] at hKK
            have hGK : yo_hi G K := by
              rw [← hKK]
              exact (qc_mk g1 g3 (by rw [g4 10 (by omega)]; omega) (by omega) (G 27 0).toInt.toNat (by have := g3.1.1; omega)).2.2.1
            have eK19 : (K 19 0).toNatClampNeg = lsN A := by
              rw [hGK 19 (by omega), g4 19 (by omega), n3]
            rw [eK19] at e
            rw [n3] at hGG
            have hmake := ins_make Hτ hf hty hGG rfl (by omega) ht hM (fun j h1 h2 => by rw [F58, upd_ne (by omega)]; exact g0 j (by omega) h2) hp2 hKK IK (by omega) hok e
            have step2 : SR LX2 (eI4 v d (yL A (ya_here A v)) (nI f) 1 0 ty (yL A p)) τ (fun e τ' => e = eI4 v d (yL B b) (nI f) 1 0 ty (yL K p) ∧ RW B τ' ∧ MF τ τ') :=
              sr_I (ee_eq (ee_cB (ee_L rfl) ee_K) (show decide ((0 : Int32) = 0) = true from rfl)) (fun _ => hmake) (fun h => by cases h)
            obtain ⟨e2, τ2, ⟨rfl, RB, MB⟩, hk⟩ := step2
            refine ⟨_, τ2, ?_, hk⟩
            have hvw := fun w (hw : w < 4) => yv_lt hw
            have hNle : ((f + (lsN A - f) : Nat) : Int) ≤ (K 19 0).toInt := by
              rw [hGK 19 (by omega), g4 19 (by omega)]
              omega
            have hci := ci_in IK hv hok (by omega) (lsN A - f) hNle
            have hBI := hci.1
            have hBhi := hci.2.2.1
            rw [e] at hBI hBhi
            have hKhi : ∀ k, (k < 10 ∨ 17 < k) → (k < 27 ∨ 29 < k) → K k = A k := fun k h1 h2 => by
              rw [hGK k h1, g4 k h2]
            have hBA : ∀ k, (k < 10 ∨ 17 < k) → (k < 27 ∨ 29 < k) → B k = A k := fun k h1 h2 => (hBhi k (by omega)).trans (hKhi k h1 h2)
            have hMB : ∀ k, k ≠ sy_vw v → sy_up (ya_stand B v b 1 0) (sy_vw v) 5 b k = B k := fun k hk => by
              unfold ya_stand
              rw [yu_ne hk, yu_ne hk, yu_ne hk, yu_ne hk]
            have hvv := hvw v hv
            have hbase : yc_base (sy_up (ya_stand B v b 1 0) (sy_vw v) 5 b) B := fun k hk => (hMB k (by omega)).symm
            have hhere : ya_here (sy_up (ya_stand B v b 1 0) (sy_vw v) 5 b) v = b := by
              unfold ya_here ya_stand
              rw [yu_an (by decide), yu_an (by decide), yu_at, yu_an (by decide), yu_an (by decide), yu_an (by decide), yu_at]
              rfl
            have hyL : ∀ x, yL (sy_up (ya_stand B v b 1 0) (sy_vw v) 5 b) x = yL B x := fun x => ya_sg_c (hMB 17 (by omega)) x
            refine ⟨yL B b, nI f, 1, 0, ty, yL K p, _, B, _, rfl, hc, IM, ⟨hBI, RB, eqR_c hbase⟩, ⟨by rw [hhere, hyL], fun _ => by rw [yu_at, hyL], rfl⟩, ?_, ⟨fun k hk => ?_, fun w hw i hi => ?_⟩, fun k hk => (MB k (by omega)).trans (F1 k hk), (MB 58 (by omega)).trans F58⟩
            · unfold ya_stand
              rw [yu_an (by decide), yu_an (by decide), yu_an (by decide), yu_an (by decide), hBA (sy_vw v) (by omega) (by omega)]
              exact h6
            · rw [hMB k (by omega)]
              exact hBA k (by omega) (by omega)
            · have hw2 := hvw w hw
              by_cases ew : sy_vw w = sy_vw v
              · rw [ew]
                unfold ya_stand
                rw [yu_an (by omega), yu_an (by omega), yu_an (by omega), yu_an (by omega), hBA (sy_vw v) (by omega) (by omega)]
              · rw [hMB _ ew, hBA (sy_vw w) (by omega) (by omega)]
        · rw [if_neg e27] at hstx
          subst hstx
          exact hskip (by decide) (by decide) (C10 e27) IG (fun k hk => g4 k hk)
end LA43
