section LA38
variable {A B σ τ σ1 σ2 : sy_Mem} {t v d n f m : Nat} {ty key p here : Int32} {env : List Value}
def LB1 : sy_S := (sy_sB 20 (sy_sQ (sy_sSI 20 (sy_iM (sy_cr 3 sf_L_area) (sy_aR (sy_rL 0) (sy_aI (sy_iK 0) (sy_aI (sy_iK 0) sy_aN))))) (sy_sQ (sy_sB 21 (sy_sQ (sy_sSI 21 (sy_iK 0)) (sy_wh (sy_clt (sy_iL 21) (sy_iA 0 (sy_rL 5) (sy_iL 11))) (sy_sQ (sy_sB 22 (sy_sQ (sy_sSI 22 (sy_iC (sy_cA (sy_cA (sy_ceq (sy_iM (sy_cr 1 sf_L_typeOf) (sy_aL (sy_lA (sy_rL 12) (sy_iL 21)) sy_aN)) (sy_iL 17)) (sy_ceq (sy_iM (sy_cr 3 sf_L_over) (sy_aR (sy_rL 1) (sy_aR (sy_rL 12) (sy_aI (sy_iL 21) sy_aN)))) (sy_iL 18))) (sy_ceq (sy_iM (sy_cr 2 sf_L_fieldOf) (sy_aL (sy_lA (sy_rL 12) (sy_iL 21)) (sy_aI (sy_iK 0) sy_aN))) (sy_iL 20))))) (sy_sSI 16 (sy_iQ (sy_cA (sy_cI (sy_iL 22)) (sy_ceq (sy_iDv false (sy_iDv true (sy_iA 0 (sy_rL 1) (sy_iL 17)) (sy_iK 64)) (sy_iK 4)) (sy_iK 0))) (sy_iK 9) (sy_iL 16))))) (sy_sIn 21 1)) 1000))) (sy_sQ (sy_sSI 21 (sy_iK 0)) (sy_sQ (sy_sB 22 (sy_sQ (sy_sSI 22 (sy_iL 14)) (sy_wh (sy_clt (sy_iL 22) (sy_iA 0 (sy_rL 9) (sy_iK 1))) (sy_sQ (sy_sB 23 (sy_sQ (sy_sSI 23 (sy_iC (sy_cA (sy_ceq (sy_iM (sy_cr 2 sf_L_target) (sy_aR (sy_rL 1) (sy_aI (sy_iDv false (sy_iA 0 (sy_rL 6) (sy_iL 22)) (sy_iK 16)) sy_aN))) (sy_iL 17)) (sy_ceq (sy_iM (sy_cr 3 sf_L_area) (sy_aR (sy_rL 0) (sy_aI (sy_iSub (sy_iL 22) (sy_iL 14)) (sy_aI (sy_iK 2) sy_aN)))) (sy_iL 20))))) (sy_sSI 21 (sy_iAdd (sy_iL 21) (sy_iQ (sy_cI (sy_iL 23)) (sy_iK 0) (sy_iM (sy_cr 8 sf_L_needs) (sy_aR (sy_rL 1) (sy_aR (sy_rL 2) (sy_aR (sy_rL 3) (sy_aR (sy_rL 4) (sy_aR (sy_rL 5) (sy_aR (sy_rL 19) (sy_aI (sy_iDv false (sy_iA 0 (sy_rL 6) (sy_iL 22)) (sy_iK 16)) (sy_aI (sy_iM (sy_cr 3 sf_L_area) (sy_aR (sy_rL 0) (sy_aI (sy_iSub (sy_iL 22) (sy_iL 14)) (sy_aI (sy_iK 2) sy_aN)))) sy_aN)))))))))))))) (sy_sIn 22 1)) 6))) (sy_sQ (sy_sSI 22 (sy_iC (sy_cgt (sy_iSub (sy_iAdd (sy_iAdd (sy_iAdd (sy_iAdd (sy_iA 0 (sy_rL 5) (sy_iK 0)) (sy_iA 0 (sy_rL 5) (sy_iK 1))) (sy_iA 0 (sy_rL 5) (sy_iK 2))) (sy_iT (sy_rL 19) (sy_iK 0))) (sy_iA 0 (sy_rL 9) (sy_iK 1))) (sy_iL 14)) (sy_iK 60)))) (sy_sSI 16 (sy_iQ (sy_cgt (sy_iL 16) (sy_iK 0)) (sy_iL 16) (sy_iQ (sy_cgt (sy_iL 21) (sy_iK 0)) (sy_iK 10) (sy_iQ (sy_cI (sy_iL 22)) (sy_iK 11) (sy_iK 0)))))))))))
theorem ee_iQ1 {c : sy_CE} {a b : sy_IE} {x : Int32} (hc : c env σ = some (.inl true, σ1)) (h : a env σ1 = some (.inl x, σ2)) : sy_iQ c a b env σ = some (.inl x, σ2) := by
  unfold sy_iQ
  rw [sy_bnd_at hc, if_pos rfl]
  exact h
theorem ee_iQ2 {c : sy_CE} {a b : sy_IE} {x : Int32} (hc : c env σ = some (.inl false, σ1)) (h : b env σ1 = some (.inl x, σ2)) : sy_iQ c a b env σ = some (.inl x, σ2) := by
  unfold sy_iQ
  rw [sy_bnd_at hc, if_neg (by decide)]
  exact h
theorem IH_k (h : ∀ k, k ≤ 52 → τ k = σ k) (H : IH t v d A σ) : IH t v d A τ := by
  obtain ⟨⟨I, T, R, Q⟩, ⟨hv, hd⟩, V, hvd, hD, hH, hS⟩ := H
  have hb : yc_base A A := fun _ _ => rfl
  refine ⟨⟨I, TT_b hb (h 44 (by omega)) T, RW_b hb (fun k h1 h2 => h k (by omega)) R, ?_⟩, ⟨hv, hd⟩, by rw [h 51 (by omega)]; exact V, hvd, hD, ?_, fun s f => ?_⟩
  · unfold QQ lg at Q ⊢
    rw [h 52 (by omega), h 49 (by omega), h 50 (by omega)]
    exact Q
  · rw [← hH]
    have hc : CP σ τ := fun k hk => h k (by omega)
    obtain ⟨L, rfl⟩ := CP_mg hc
    rw [mg_here hv]
    rfl
  · rw [← hS]
    exact ya_slot_c (h 31 (by omega)) s f
theorem sg_nI {s : Int32} (h : yl A s) : ∃ i : Nat, i < 60 ∧ s = nI i := by
  have := yl_in h
  exact ⟨s.toInt.toNat, by omega, (ntI (by omega) (by omega)).symm⟩
/-- a twin with the key, told by the row -/
def twP (A : sy_Mem) (d : Nat) (ty p key : Int32) (j : Nat) : Bool := (decide (yT A (sg A d j) = ty) && decide (yL A (yP A (sg A d j)) = yL A p)) && decide (ya_N A (sg A d j) 0 = key)
theorem twP_is (I : yn_I t A) {d : Nat} (hd : d < 3) (hty : ya_isT A ty = true) (hD : tD A ty = nI d) (hp : inR A d p) : (ya_ff (twP A d ty p key) (cn A d) 0).isSome = ya_X3_hasTwin A ty p key := by
  have hne : ty ≠ -1 := ya_isT_ne hty
  have e : ya_X3_hasTwin A ty p key = (ya_ff (fun i => ((ya_tw A (nI i) ty p) && (decide ((ya_N A (nI i) 0) = key)))) 60 0).isSome := by
    unfold ya_X3_hasTwin
    cases (ya_ff (fun i => ((ya_tw A (nI i) ty p) && (decide ((ya_N A (nI i) 0) = key)))) 60 0).isSome <;> rfl
  rw [e, Bool.eq_iff_iff, ya_ff_isSome, ya_ff_isSome]
  constructor
  · rintro ⟨j, -, hj, h⟩
    unfold twP at h
    rw [Bool.and_eq_true, Bool.and_eq_true, decide_eq_true_eq, decide_eq_true_eq, decide_eq_true_eq] at h
    have hj : j < cn A d := by omega
    obtain ⟨i, i1, i2⟩ := sg_nI (sg_ok I hd hj).1
    refine ⟨i, by omega, by omega, ?_⟩
    rw [← i2, Bool.and_eq_true, decide_eq_true_eq, yb_tw hne]
    refine ⟨⟨(sg_ok I hd hj).1, h.1.1, ?_⟩, h.2⟩
    have hq : inR A d (yP A (sg A d j)) := yP_D I hd hj
    have := inR_eq I hd hq hp
    rw [decide_eq_true h.1.2] at this
    exact of_decide_eq_true this.symm
  · rintro ⟨i, -, hi, h⟩
    rw [Bool.and_eq_true, decide_eq_true_eq, yb_tw hne] at h
    obtain ⟨⟨h1, h2, h3⟩, h4⟩ := h
    obtain ⟨j, j1, j2, j3⟩ := sg_of I h1 hd (show tD A (yT A (nI i)) = nI d by rw [h2]; exact hD)
    refine ⟨j, by omega, by omega, ?_⟩
    unfold twP
    rw [← j2, h2, h3, h4, decide_eq_true rfl, decide_eq_true rfl, decide_eq_true rfl]
    rfl
theorem stS {P : Nat → Bool} (b : Bool) : ∃ s : Nat → Int32, s 0 = 0 ∧ (∀ i, s (i + 1) = if P i && b then 9 else s i) ∧ ∀ n, s n = if b && (ya_ff P n 0).isSome then 9 else 0 := by
  refine ⟨fun n => if b && (ya_ff P n 0).isSome then 9 else 0, ?_, fun i => ?_, fun _ => rfl⟩
  · show (if b && false then (9 : Int32) else 0) = 0
    rw [Bool.and_false]
    rfl
  · show (if b && (ya_ff P (i + 1) 0).isSome then (9 : Int32) else 0) = if P i && b then 9 else if b && (ya_ff P i 0).isSome then 9 else 0
    rw [ya_ff_succ, Nat.zero_add]
    cases ya_ff P i 0 <;> cases P i <;> cases b <;> rfl
abbrev eI3 (v d : Nat) (h : Int32) (f : Nat) (st ty pL : Int32) : List Value := eI2 v d h (nI f) 1 ++ [.int st, .int ty, .int pL, .ref 53]
theorem slot_n (A : sy_Mem) (i j : Nat) {a b : Int32} (ha : nI i = a) (hb : nI j = b) : ya_slot A (nI i) (nI j) = ya_slot A a b := by rw [ha, hb]
theorem ins_chk (H : IH t v d A σ) (hf : f < lsN A) (hty : A 20 f = ty) (hp : inR A d p) (hD2 : tD A ty = nI d) (M : σ 58 53 = 1 ∧ ∀ i, σ 53 i = 0) :
    SX LB1 (eI3 v d (yL A (ya_here A v)) f 0 ty (yL A p)) σ (fun e τ => e = eI3 v d (yL A (ya_here A v)) f
        (if (decide (tK A ty = 0) && ya_X3_hasTwin A ty p (ya_slot A 0 0)) = true then 9 else if ya_gn A f (lsN A - f) 27 1 = 0 then (if 60 < (cn A 0 + cn A 1 + cn A 2) + (lsN A - f) + (ya_gn A f (lsN A - f) 27 0).toInt.toNat then 11 else 0) else 10) ty (yL A p)
      ∧ mG (ya_gn A f (lsN A - f)) τ ∧ ∀ k, k ≠ 53 → τ k = σ k) := by
  have H0 := H
  obtain ⟨⟨I, T, R, Q⟩, ⟨hv, hd⟩, V, hvd, hD, hH, hS⟩ := H
  obtain ⟨n1, n2, n3, n4⟩ := lsN_is I
  have h0 := I.2.2.2.2.2.2.1
  have hT := (q_T I hf).1
  rw [hty] at hT
  have h60 := cn_le I hd
  have hcn : ∀ (env : List Value) (i : Nat) (e : sy_IE), i < 3 → env[5]? = some (.ref 48) → e env σ = some (.inl (nI i), σ) → sy_iA 0 (sy_rL 5) e env σ = some (.inl (nI (cn A i)), σ) := fun env i e hi h1 h2 => by
    rw [← (R i hi).1]
    exact ee_An (ee_R h1) h2 (show i < 3 from hi) (by decide)
  unfold LB1
  obtain ⟨key, hkey⟩ : ∃ key, key = ya_slot A 0 0 := ⟨_, rfl⟩
  rw [← hkey]
  refine sx_B (sx_SIQ (x := key) (σ1 := σ) (ee_eq (c_area CP_self (s := 0) (f := 0) (by omega) (by omega) (ee_R rfl) ee_K ee_K) ((hS _ _).trans hkey.symm)) ?_)
  -- the twins
  obtain ⟨s, s0, sS, sN⟩ := stS (P := twP A d ty p key) (decide (tK A ty = 0))
  refine sx_DQ (env' := eI3 v d (yL A (ya_here A v)) f (s (cn A d)) ty (yL A p) ++ [.int key]) (σ1 := σ) (fun k => ?_) ?_
  · suffices main : ∀ z : Int32, z = s 0 → (sy_sB 21 (sy_sQ (sy_sSI 21 (sy_iK 0)) (sy_wh (sy_clt (sy_iL 21) (sy_iA 0 (sy_rL 5) (sy_iL 11))) (sy_sQ (sy_sB 22 (sy_sQ (sy_sSI 22 (sy_iC (sy_cA (sy_cA (sy_ceq (sy_iM (sy_cr 1 sf_L_typeOf) (sy_aL (sy_lA (sy_rL 12) (sy_iL 21)) sy_aN)) (sy_iL 17)) (sy_ceq (sy_iM (sy_cr 3 sf_L_over) (sy_aR (sy_rL 1) (sy_aR (sy_rL 12) (sy_aI (sy_iL 21) sy_aN)))) (sy_iL 18))) (sy_ceq (sy_iM (sy_cr 2 sf_L_fieldOf) (sy_aL (sy_lA (sy_rL 12) (sy_iL 21)) (sy_aI (sy_iK 0) sy_aN))) (sy_iL 20))))) (sy_sSI 16 (sy_iQ (sy_cA (sy_cI (sy_iL 22)) (sy_ceq (sy_iDv false (sy_iDv true (sy_iA 0 (sy_rL 1) (sy_iL 17)) (sy_iK 64)) (sy_iK 4)) (sy_iK 0))) (sy_iK 9) (sy_iL 16))))) (sy_sIn 21 1)) 1000))) (eI3 v d (yL A (ya_here A v)) f z ty (yL A p) ++ [.int key]) k σ = k (eI3 v d (yL A (ya_here A v)) f (s (cn A d)) ty (yL A p) ++ [.int key]) σ from main 0 s0.symm
    intro z hz
    subst hz
    refine es_B (es_Q (es_SI ee_K ?_))
    refine Eq.trans (ks_wh (E := fun i => eI3 v d (yL A (ya_here A v)) f (s i) ty (yL A p) ++ [.int key, .int (nI i)]) (S := fun _ => σ) (N := cn A d) (fun i hi => ⟨?_, fun k' => ?_⟩) ?_ (cn A d) 0 1000 (by omega) (by omega)) rfl
    · exact ee_eq (ee_cB (ee_L rfl) (hcn _ d _ hd rfl (ee_L rfl))) ((nI_ltd (by omega) (by omega)).trans (decide_eq_true hi))
    · have hTj := (I.2.1.1 _ (sg_ok I hd hi).1).1
      refine es_Q (es_B (es_Q (es_SI (ee_iC (ee_cA (ee_cA (ee_cB (ev_t I R hd hi (ee_R rfl) (ee_L rfl)) (ee_L rfl)) (fun _ => ee_cB (ev_o I T R hd hi (ee_R rfl) (ee_R rfl) (ee_L rfl)) (ee_L rfl))) (fun _ => ee_cB (ev_f I R (f := 0) hd hi (by omega) (ee_R rfl) (ee_L rfl) ee_K) (ee_L rfl)))) ?_)))
      refine es_SI (ee_iQ (ee_cA (ee_cb (c := twP A d ty p key i) (ee_L rfl)) (fun _ => ee_cB (ev_K I T hT (ee_R rfl) (ee_L rfl)).1 ee_K)) (fun _ => ee_K) (fun _ => ee_L rfl)) (es_In rfl ?_)
      rw [show (if (twP A d ty p key i && decide (tK A ty = 0)) = true then (9 : Int32) else s i) = s (i + 1) from (sS i).symm]
      exact congrArg (fun z => k' (eI3 v d (yL A (ya_here A v)) f (s (i + 1)) ty (yL A p) ++ [.int key, .int z]) σ) (nadd (a := i) (b := 1))
    · exact ee_eq (ee_cB (ee_L rfl) (hcn _ d _ hd rfl (ee_L rfl))) ((nI_ltd (by omega) (by omega)).trans (decide_eq_false (by omega)))
  rw [sN, twP_is I hd hT hD2 hp]
  generalize hst : (if (decide (tK A ty = 0) && ya_X3_hasTwin A ty p key) = true then (9 : Int32) else 0) = st
  -- the needs
  refine sx_SIQ ee_K ?_
  obtain ⟨N, hN⟩ : ∃ N, N = lsN A - f := ⟨_, rfl⟩
  rw [← hN]
  have hg0 : mG (ya_gn A f 0) σ := by
    have e0 : (ya_gn A f 0 27 0).toInt.toNat = 0 := by
      show (sy_up (sy_up A 27 0 0) 27 1 0 27 0).toInt.toNat = 0
      rw [yu_an (by decide), yu_at]
      rfl
    show mR _ _ _ _ _
    rw [e0]
    exact ⟨M.1, M.2 0, fun i hi => absurd hi (by omega)⟩
  refine sx_Q (R := fun e τ => ∃ l : Nat, e = eI3 v d (yL A (ya_here A v)) f st ty (yL A p) ++ [.int key, .int (nI l)] ∧ l ≤ N ∧ (l = 0 ↔ ya_gn A f N 27 1 = 0) ∧ mG (ya_gn A f N) τ ∧ ∀ k, k ≠ 53 → τ k = σ k) (sx_B (sx_SIQ (ee_L rfl) ?_)) ?_
  · refine sx_wh (N := N) (Inv := fun j e τ => ∃ l : Nat, e = eI3 v d (yL A (ya_here A v)) f st ty (yL A p) ++ [.int key, .int (nI l), .int (nI (f + j))] ∧ l ≤ j ∧ (l = 0 ↔ ya_gn A f j 27 1 = 0) ∧ mG (ya_gn A f j) τ ∧ ∀ k, k ≠ 53 → τ k = σ k) (fun j e τ hj hI => ?_) N 0 6 _ _ (by omega) (by omega) ⟨0, rfl, by omega, ⟨fun _ => by unfold ya_gn; exact yu_at, fun _ => rfl⟩, hg0, fun _ _ => rfl⟩
    obtain ⟨l, rfl, l1, l2, l3, F⟩ := hI
    obtain ⟨⟨I', T', R', Q'⟩, -, V', -, -, hH', hS'⟩ := IH_k (τ := τ) (fun k hk => F k (by omega)) H0
    have hn : ∀ env : List Value, env[9]? = some (.ref 52) → sy_iA 0 (sy_rL 9) (sy_iK 1) env τ = some (.inl (nI (lsN A)), τ) := fun env h => by
      rw [← Q'.1]
      exact ee_An (j := 1) (ee_R h) ee_K (by decide) (by decide)
    refine ⟨decide (j < N), ee_eq (ee_cB (ee_L rfl) (hn _ rfl)) ((nI_ltd (by omega) (by omega)).trans (decide_eq_decide.mpr (by omega))), fun hx => ?_, fun hx => ?_⟩
    · have hjN := of_decide_eq_true hx
      have hq : f + j < lsN A := by omega
      refine ⟨hjN, ?_⟩
      have hTq := (q_T I hq).1
      have eag : ya_ag A 20 (-1) (nI (f + j)) = A 20 (f + j) := ag_nI I hq
      have eag0 : ya_ag A 20 (-1) (nI f) = ty := (ag_nI I hf).trans hty
      obtain ⟨g1, g3, g4, g6, g7⟩ := qc_gn I f j (by omega)
      obtain ⟨w, hw⟩ : ∃ w, w = ya_slot A (nI j) 2 := ⟨_, rfl⟩
      have hwr : 0 ≤ w.toInt ∧ w.toInt ≤ 999 := by rw [hw]; exact ya_slot_rng I _ _
      have hca : ∀ env : List Value, env[0]? = some (.ref 0) → env[22]? = some (.int (nI (f + j))) → env[14]? = some (.int (nI f)) → sy_iM (sy_cr 3 sf_L_area) (sy_aR (sy_rL 0) (sy_aI (sy_iSub (sy_iL 22) (sy_iL 14)) (sy_aI (sy_iK 2) sy_aN))) env τ = some (.inl w, τ) := fun env e1 e2 e3 => by
        refine ee_eq (c_area CP_self (s := j) (f := 2) (by omega) (by omega) (ee_R e1) (ee_eq (ee_B (ee_L e2) (ee_L e3)) ?_) ee_K) ((hS' _ _).trans hw.symm)
        show nI (f + j) - nI f = nI j
        rw [nsub (by omega), Nat.add_sub_cancel_left]
      have hcq : ∀ env : List Value, env[6]? = some (.ref 49) → env[22]? = some (.int (nI (f + j))) → sy_iDv false (sy_iA 0 (sy_rL 6) (sy_iL 22)) (sy_iK 16) env τ = some (.inl (A 20 (f + j)), τ) := fun env e1 e2 => (ev_q I Q' hq (ee_R e1) (ee_L e2)).1
      have hown : ya_own A f j = (decide (tG A (A 20 (f + j)) = ty) && decide (w = key)) := by
        unfold ya_own
        rw [eag, eag0, hw, hkey]
      have hcI : sy_iC (sy_cA (sy_ceq (sy_iM (sy_cr 2 sf_L_target) (sy_aR (sy_rL 1) (sy_aI (sy_iDv false (sy_iA 0 (sy_rL 6) (sy_iL 22)) (sy_iK 16)) sy_aN))) (sy_iL 17)) (sy_ceq (sy_iM (sy_cr 3 sf_L_area) (sy_aR (sy_rL 0) (sy_aI (sy_iSub (sy_iL 22) (sy_iL 14)) (sy_aI (sy_iK 2) sy_aN)))) (sy_iL 20))) (eI3 v d (yL A (ya_here A v)) f st ty (yL A p) ++ [.int key, .int (nI l), .int (nI (f + j))]) τ = some (.inl (ya_b (ya_own A f j)), τ) := by
        rw [hown]
        exact ee_iC (ee_cA (ee_cB (ev_g I' T' hTq (ee_R rfl) (hcq _ rfl rfl)) (ee_L rfl)) (fun _ => ee_cB (hca _ rfl rfl rfl) (ee_L rfl)))
      refine sx_Q (R := fun e τ2 => ∃ l : Nat, e = eI3 v d (yL A (ya_here A v)) f st ty (yL A p) ++ [.int key, .int (nI l), .int (nI (f + j))] ∧ l ≤ j + 1 ∧ (l = 0 ↔ ya_gn A f (j + 1) 27 1 = 0) ∧ mG (ya_gn A f (j + 1)) τ2 ∧ ∀ k, k ≠ 53 → τ2 k = σ k) (sx_B (sx_SIQ hcI ?_)) (fun e τ2 h => ?_)
      · cases ho : ya_own A f j with
        | true =>
          have eg : ya_gn A f (j + 1) = ya_gn A f j := by
            conv => lhs; unfold ya_gn
            rw [if_pos ho]
          refine sx_SI (σ1 := τ) (x := nI l) (ee_eq (ee_B (ee_L rfl) (ee_iQ1 (ee_cb (c := true) (ee_L rfl)) ee_K)) (nadd (b := 0))) ⟨l, rfl, by omega, ?_, ?_, F⟩
          · rw [eg]; exact l2
          · rw [eg]; exact l3
        | false =>
          have eg : ya_gn A f (j + 1) = ya_nr (ya_gn A f j) (A 20 (f + j)) w := by
            conv => lhs; unfold ya_gn
            rw [if_neg (by rw [ho]; decide), eag, hw]
          have hb : yc_base A (ya_gn A f j) := fun k hk => g4 k (by omega)
          have hTG : ya_isT (ya_gn A f j) (A 20 (f + j)) = true := by
            rw [ya_isT_c (g4 1 (by decide))]
            exact hTq
          obtain ⟨τ2, c1, c2, c3⟩ := t_needs (σ := τ) g1 (TT_b hb rfl T') (RW_b hb (fun _ _ _ => rfl) R') hTG hwr g3 (by omega) l3
          have hq27 := qc_27 (A := ya_gn A f j) (ty := A 20 (f + j)) (key := w) g3.1.1
          rw [← eg] at hq27 c2
          generalize (ya_nc0 (ya_gn A f j) (A 20 (f + j)) w || !decide (tC (ya_gn A f j) (A 20 (f + j)) = 0)) = bb at hq27 c1
          have hev : sy_iAdd (sy_iL 21) (sy_iQ (sy_cI (sy_iL 23)) (sy_iK 0) (sy_iM (sy_cr 8 sf_L_needs) (sy_aR (sy_rL 1) (sy_aR (sy_rL 2) (sy_aR (sy_rL 3) (sy_aR (sy_rL 4) (sy_aR (sy_rL 5) (sy_aR (sy_rL 19) (sy_aI (sy_iDv false (sy_iA 0 (sy_rL 6) (sy_iL 22)) (sy_iK 16)) (sy_aI (sy_iM (sy_cr 3 sf_L_area) (sy_aR (sy_rL 0) (sy_aI (sy_iSub (sy_iL 22) (sy_iL 14)) (sy_aI (sy_iK 2) sy_aN)))) sy_aN)))))))))) (eI3 v d (yL A (ya_here A v)) f st ty (yL A p) ++ [.int key, .int (nI l), .int (nI (f + j)), .int (ya_b false)]) τ = some (.inl (nI l + ya_b (!bb)), τ2) :=
            ee_B (ee_L rfl) (ee_iQ2 (ee_cb (c := false) (ee_L rfl)) (ee_M (ee_aR (ee_R rfl) (ee_aR (ee_R rfl) (ee_aR (ee_R rfl) (ee_aR (ee_R rfl) (ee_aR (ee_R rfl) (ee_aR (ee_R rfl) (ee_aI (hcq _ rfl rfl) (ee_aI (hca _ rfl rfl rfl) ee_aN)))))))) (ee_cr c1 rfl)))
          have F2 : ∀ k, k ≠ 53 → τ2 k = σ k := fun k hk => (c3 k hk).trans (F k hk)
          cases bb with
          | true =>
            rw [if_pos rfl] at hq27
            refine sx_SI (x := nI l) (ee_eq hev (nadd (b := 0))) ⟨l, rfl, by omega, ?_, c2, F2⟩
            rw [hq27]
            exact l2
          | false =>
            rw [if_neg (by decide)] at hq27
            refine sx_SI (x := nI (l + 1)) (ee_eq hev (nadd (b := 1))) ⟨l + 1, rfl, by omega, ?_, c2, F2⟩
            rw [hq27]
            exact ⟨fun h => absurd h (by omega), fun h => absurd h (by decide)⟩
      · obtain ⟨l', rfl, r1, r2, r3, r4⟩ := h
        refine ⟨_, τ2, ⟨l', rfl, r1, r2, r3, r4⟩, fun k => es_In rfl ?_⟩
        exact congrArg (fun z => k (eI3 v d (yL A (ya_here A v)) f st ty (yL A p) ++ [.int key, .int (nI l'), .int z]) τ2) (nadd (a := f + j) (b := 1))
    · have : j = N := by
        have := of_decide_eq_false hx
        omega
      subst this
      exact ⟨l, rfl, l1, l2, l3, F⟩
  · -- the sum
    rintro e τ ⟨l, rfl, l1, l2, l3, F⟩
    obtain ⟨⟨I', T', R', Q'⟩, -, V', -, -, hH', hS'⟩ := IH_k (τ := τ) (fun k hk => F k (by omega)) H0
    obtain ⟨g1, g3, g4, g6, g7⟩ := qc_gn I f N (by omega)
    obtain ⟨c, hc⟩ : ∃ c, c = (ya_gn A f N 27 0).toInt.toNat := ⟨_, rfl⟩
    have hc4 : c ≤ 4 := by have := g3.1; omega
    have hn : ∀ env : List Value, env[9]? = some (.ref 52) → sy_iA 0 (sy_rL 9) (sy_iK 1) env τ = some (.inl (nI (lsN A)), τ) := fun env h => by
      rw [← Q'.1]
      exact ee_An (j := 1) (ee_R h) ee_K (by decide) (by decide)
    have hcn' : ∀ (env : List Value) (i : Nat) (e : sy_IE), i < 3 → env[5]? = some (.ref 48) → e env τ = some (.inl (nI i), τ) → sy_iA 0 (sy_rL 5) e env τ = some (.inl (nI (cn A i)), τ) := fun env i e hi h1 h2 => by
      rw [← (R' i hi).1]
      exact ee_An (ee_R h1) h2 (show i < 3 from hi) (by decide)
    have hTt : sy_isT 53 τ = true := by
      unfold sy_isT
      rw [l3.1]
      rfl
    have h3 := cn_sum I
    rw [← hc]
    refine sx_SIQ (x := ya_b (decide (60 < (cn A 0 + cn A 1 + cn A 2) + N + c))) (σ1 := τ) (ee_iC (ee_eq (ee_cB (ee_B (ee_B (ee_B (ee_B (ee_B (hcn' _ 0 _ (by omega) rfl ee_K) (hcn' _ 1 _ (by omega) rfl ee_K)) (hcn' _ 2 _ (by omega) rfl ee_K)) (ee_eq (ee_T (j := 0) (ee_R rfl) ee_K hTt (by decide)) (by rw [l3.2.1, ← hc]))) (hn _ rfl)) (ee_L rfl)) ee_K) ?_)) ?_
    · show decide ((60 : Int32) < nI (cn A 0) + nI (cn A 1) + nI (cn A 2) + nI c + nI (lsN A) - nI f) = _
      rw [nadd, nadd, nadd, nadd, nsub (by omega), show (60 : Int32) = nI 60 from rfl, nI_ltd (by omega) (by omega)]
      exact decide_eq_decide.mpr (by omega)
    · have hl0 : decide ((0 : Int32) < nI l) = !decide (ya_gn A f N 27 1 = 0) := by
        rw [nI_gt0 (by omega), ← decide_not]
        exact decide_eq_decide.mpr (by rw [← l2]; omega)
      refine sx_SI (σ1 := τ) (ee_iQ (ee_cB (ee_L rfl) ee_K) (fun _ => ee_L rfl) (fun _ => ee_iQ (ee_eq (ee_cB (ee_L rfl) ee_K) hl0) (fun _ => ee_K) (fun _ => ee_iQ (ee_cb (c := decide (60 < (cn A 0 + cn A 1 + cn A 2) + N + c)) (ee_L rfl)) (fun _ => ee_K) (fun _ => ee_K)))) ⟨?_, l3, F⟩
      rw [← hst]
      have fin : ∀ (b1 b2 b3 : Bool), (if decide ((0 : Int32) < if b1 = true then (9 : Int32) else 0) = true then (if b1 = true then (9 : Int32) else 0) else if (!b2) = true then (10 : Int32) else if b3 = true then (11 : Int32) else 0) = if b1 = true then 9 else if b2 = true then (if b3 = true then 11 else 0) else 10 := by decide
      have := fin (decide (tK A ty = 0) && ya_X3_hasTwin A ty p key) (decide (ya_gn A f N 27 1 = 0)) (decide (60 < cn A 0 + cn A 1 + cn A 2 + N + c))
      simp only [decide_eq_true_eq] at this
      refine congrArg (fun z => eI3 v d (yL A (ya_here A v)) f z ty (yL A p)) (Eq.trans ?_ this)
      simp only [decide_eq_true_eq]
end LA38
