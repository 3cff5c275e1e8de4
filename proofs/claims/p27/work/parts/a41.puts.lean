section LA41
variable {A B G K σ τ σ1 σ2 : sy_Mem} {t u v d n f m c : Nat} {ty key p h b : Int32} {env : List Value}
theorem ins_make (H : IH t v d A σ) (hf : f < lsN A) (hty : A 20 f = ty) (hG : ya_gn A f (lsN A - f) = G) (hc : (G 27 0).toInt.toNat = c) (hsum : (A 10 9).toInt + (G 27 0).toInt ≤ 60) (ht : t + 70 < 10000) (M : mG G σ) (Z : ∀ j, 54 ≤ j → j ≤ 57 → σ 58 j = 0) (hp : p = -1 ∨ (yl A p ∧ sD A p = nI d)) (hK : ya_mk G c = K) (IK : yn_I u K) (hu : u + 60 < 10000) (O : yi_ok K v f p) (e : ya_inw K f p (ya_here K v) (lsN A - f) = (B, b)) :
    SR LB2 (eI3 v d (yL A (ya_here A v)) f 0 ty (yL A p)) σ (fun e τ => e = eI3 v d (yL B b) f 0 ty (yL K p) ∧ RW B τ ∧ MF σ τ) := by
  have H0 := H
  obtain ⟨⟨I, T, R, Q⟩, ⟨hv, hd⟩, V, hvd, hD, hH, hS⟩ := H
  obtain ⟨n1, n2, n3, n4⟩ := lsN_is I
  obtain ⟨g1, g3, g4, g6, g7⟩ := qc_gn I f (lsN A - f) (by omega)
  rw [hG] at g1 g3 g4 g6 g7
  have hsum' : (G 10 9).toInt + (G 27 0).toInt ≤ 60 := by rw [g4 10 (by omega)]; exact hsum
  have hmk := qc_mk g1 g3 hsum' (by omega) c (by have := g3.1.1; omega)
  have hhi := hmk.2.2.1
  rw [hK] at hhi
  have eK : ∀ k, 17 < k → k < 27 ∨ 29 < k → K k = A k := fun k h1 h2 => (hhi k (by omega)).trans (g4 k h2)
  have hvw := yv_lt hv
  have hhere : ya_here K v = ya_here A v := by
    unfold ya_here
    rw [eK (sy_vw v) (by omega) (by omega)]
  have eN : lsN K = lsN A := by
    show (K 19 0).toInt.toNat = _
    rw [eK 19 (by omega) (by omega)]
  have e20 : K 20 = A 20 := eK 20 (by omega) (by omega)
  have eSl : ∀ a b : Int32, ya_slot K a b = ya_slot A a b := fun a b => ya_slot_c (eK 31 (by omega) (by omega)) a b
  have hDK : K (sy_vw v) 0 = nI d := by rw [eK (sy_vw v) (by omega) (by omega)]; exact hD
  have hhere2 : ya_here A v = -1 ∨ (yl A (ya_here A v) ∧ sD A (ya_here A v) = nI d) := by
    rcases here_is I hv hd hD with q | ⟨q, q1, q2, q3⟩
    · exact Or.inl q
    · right
      rw [q2]
      exact ⟨(sg_ok I hd q1).1, (sg_ok I hd q1).2.1⟩
  unfold LB2
  refine sr_B (sr_Q (ins_roots H0 (by omega) hG hc hsum ht M Z hp hhere2) ?_)
  rintro e1 τ ⟨rfl, RK, TK, F⟩
  rw [hK] at RK TK ⊢
  have h60 := cn_le IK hd
  have hj0 : f + 0 < lsN K := by omega
  have hx0 := inw_H IK hv O hu hj0
  have hb0 := hx0.2.1
  have hD0 := inw_D IK hv O hu hDK hj0 (show f + 0 ≤ lsN K by omega)
  rw [show K 20 (f + 0) = ty from by rw [e20]; exact hty] at hb0 hD0
  have hb0 : yb_ok K ty p (ya_slot K 0 0) (ya_here K v) := hb0
  have hD0 : tD K ty = nI d := hD0
  have hpl := inw_pl IK hv O hu hd hDK
  rw [show K 20 f = ty from by rw [e20]; exact hty] at hpl
  obtain ⟨P, hP⟩ : ∃ P, P = ya_plc K ty p (ya_slot K 0 0) (ya_here K v) := ⟨_, rfl⟩
  rw [← hP] at hpl
  -- the parent and the view's place in K
  have liveK : ∀ x : Int32, (x = -1 ∨ (yl A x ∧ sD A x = nI d)) → inR K d x := fun x hx => by
    refine inR_of IK hd ?_
    rcases hx with hx | ⟨h1, h2⟩
    · exact Or.inl hx
    · right
      have hG1 : yl G x := by
        rw [yl_c (g4 11 (by decide))]
        exact h1
      have hG2 : sD G x = sD A x := by
        show tD G (yT G x) = tD A (yT A x)
        rw [show yT G x = yT A x from ya_sg_c (g4 11 (by decide)) x]
        exact ya_tg_c (g4 1 (by decide)) (g4 2 (by decide)) _ _
      obtain ⟨o1, o2, o3, o4, o5⟩ := hmk.2.2.2.1 x hG1
      rw [hK] at o1 o4
      exact ⟨o1, o4.trans (hG2.trans h2)⟩
  have hSτ : ∀ s f, ya_slot τ s f = ya_slot K s f := fun s f => by
    rw [eSl, ← hS]
    exact ya_slot_c (F 31 (by omega)) s f
  have hcomes := t_comes IK TK RK hb0 hd hD0 (liveK p hp) (liveK (ya_here K v) (by rw [hhere]; exact hhere2))
  rw [← hP, hhere] at hcomes
  refine sr_Q (R := fun e τ2 => e = eI3 v d (yL K (ya_here A v)) f 0 ty (yL K p) ++ [.int (nI P)] ∧ τ2 = τ) (sr_of (sx_SI (σ1 := τ) (ee_M (ee_aR (ee_R rfl) (ee_aR (ee_R rfl) (ee_aI (ee_eq (ee_An (ee_R rfl) (ee_L rfl) (show d < 3 from hd) (by decide)) (RK d hd).1) (ee_aI (ee_L rfl) (ee_aI (ee_L rfl) (ee_aI (ee_eq (c_area CP_self (s := 0) (f := 0) (by omega) (by omega) (ee_R rfl) ee_K ee_K) (hSτ _ _)) (ee_aI (ee_L rfl) ee_aN))))))) (ee_cr hcomes rfl)) ⟨rfl, rfl⟩)) ?_
  rintro e1 τ2 ⟨rfl, rfl⟩
  obtain ⟨N, hN⟩ : ∃ N, N = lsN A - f := ⟨_, rfl⟩
  rw [← hN] at e
  have hg52 : τ2 52 = σ 52 := F 52 (by omega)
  refine sr_Q (R := fun e τ3 => e = eI3 v d (yL K (ya_here A v)) f 0 ty (yL K p) ++ [.int (nI P)] ∧ RW (W1 K v f p N) τ3 ∧ MF σ τ3) (sr_of (sx_B (sx_SIQ (ee_L rfl) ?_))) ?_
  · refine sx_wh (N := N) (Inv := fun j e τ3 => e = eI3 v d (yL K (ya_here A v)) f 0 ty (yL K p) ++ [.int (nI P), .int (nI (f + j))] ∧ RW (W1 K v f p j) τ3 ∧ MF σ τ3) (fun j e τ3 hj hI => ?_) N 0 6 _ _ (by omega) (by omega) ⟨rfl, RK, F⟩
    obtain ⟨rfl, R3, F3⟩ := hI
    have hn : ∀ env : List Value, env[9]? = some (.ref 52) → sy_iA 0 (sy_rL 9) (sy_iK 1) env τ3 = some (.inl (nI (lsN A)), τ3) := fun env h => by
      rw [← Q.1, ← F3 52 (by omega)]
      exact ee_An (j := 1) (ee_R h) ee_K (by decide) (by decide)
    refine ⟨decide (j < N), ee_eq (ee_cB (ee_L rfl) (hn _ rfl)) ((nI_ltd (by omega) (by omega)).trans (decide_eq_decide.mpr (by omega))), fun hx => ?_, fun hx => ?_⟩
    · have hjN := of_decide_eq_true hx
      refine ⟨hjN, ?_⟩
      have hq : f + j < lsN A := by omega
      have hqK : f + j < lsN K := by omega
      obtain ⟨w1, w2, w3⟩ := inw_RW IK hv O hu hd hDK hqK R3
      rw [hpl j hqK] at w2 w3
      rw [e20] at w3
      have hSτ3 : ∀ s f, ya_slot τ3 s f = ya_slot A s f := fun s f => by
        rw [← hS]
        exact ya_slot_c (F3 31 (by omega)) s f
      rw [eSl, eSl, eSl] at w3
      have hTq := (q_T I hq).1
      have hsl := t_slot (σ := τ3) I hSτ3 (s := j) (by omega) (isT_12 I hTq)
      have hput := t_putIn (σ := τ3) hd w1 w2 (R3 d hd).1 (pL (pk (A 20 (f + j)).toInt.toNat (ya_slot A (nI j) (nI 0)).toInt.toNat (ya_slot A (nI j) (nI 1)).toInt.toNat (ya_slot A (nI j) (nI 2)).toInt.toNat))
      have hsub : ∀ env : List Value, env[21]? = some (.int (nI (f + j))) → env[14]? = some (.int (nI f)) → sy_iSub (sy_iL 21) (sy_iL 14) env τ3 = some (.inl (nI j), τ3) := fun env e2 e3 => by
        refine ee_eq (ee_B (ee_L e2) (ee_L e3)) ?_
        show nI (f + j) - nI f = nI j
        rw [nsub (by omega), Nat.add_sub_cancel_left]
      have hq49 : sy_iDv false (sy_iA 0 (sy_rL 6) (sy_iL 21)) (sy_iK 16) (eI3 v d (yL K (ya_here A v)) f 0 ty (yL K p) ++ [.int (nI P), .int (nI (f + j))]) τ3 = some (.inl (A 20 (f + j)), τ3) :=
        (ev_q0 I hq (by rw [F3 49 (by omega)]; exact (Q.2 _ hq).1) (ee_R rfl) (ee_L rfl)).1
      refine sx_DQ (env' := eI3 v d (yL K (ya_here A v)) f 0 ty (yL K p) ++ [.int (nI P), .int (nI (f + j))]) (σ1 := pM τ3 d (cn (W1 K v f p j) d) (P + j) (pL (pk (A 20 (f + j)).toInt.toNat (ya_slot A (nI j) (nI 0)).toInt.toNat (ya_slot A (nI j) (nI 1)).toInt.toNat (ya_slot A (nI j) (nI 2)).toInt.toNat))) (fun k => es_C (ee_aR (ee_R rfl) (ee_aR (ee_R rfl) (ee_aI (ee_L rfl) (ee_aI (x := nI (P + j)) (ee_eq (ee_B (ee_B (ee_L rfl) (ee_L rfl)) (ee_L rfl)) ?_) (ee_aL (ee_lM (ee_aR (ee_R rfl) (ee_aI (hsub _ rfl rfl) (ee_aI hq49 ee_aN))) (ee_cr hsl rfl)) ee_aN))))) (ee_cr hput rfl) rfl) ?_
      · show nI P + nI (f + j) - nI f = nI (P + j)
        rw [nadd, nsub (by omega)]
        exact congrArg nI (by omega)
      · refine ⟨_, _, ⟨rfl, w3, fun k hk => ?_⟩, fun k => es_In rfl ?_⟩
        · rw [pM_ne (by omega) (by omega)]
          exact F3 k hk
        · exact congrArg (fun z => k (eI3 v d (yL K (ya_here A v)) f 0 ty (yL K p) ++ [.int (nI P), .int z]) _) (nadd (a := f + j) (b := 1))
    · have : j = N := by
        have := of_decide_eq_false hx
        omega
      subst this
      exact ⟨rfl, R3, F3⟩
  · rintro e1 τ3 ⟨rfl, R3, F3⟩
    have hB : W1 K v f p N = B := by
      show (ya_inw K f p (ya_here K v) N).1 = B
      rw [e]
    have hb : W2 K v f p N = b := by
      show (ya_inw K f p (ya_here K v) N).2 = b
      rw [e]
    have hN1 : N = (N - 1) + 1 := by omega
    have hL := inw_L IK hv O hu (j := N - 1) (by omega)
    rw [← hN1, hB, hb, hpl (N - 1) (by omega)] at hL
    rw [hB] at R3
    have hn : ∀ env : List Value, env[9]? = some (.ref 52) → sy_iA 0 (sy_rL 9) (sy_iK 1) env τ3 = some (.inl (nI (lsN A)), τ3) := fun env h => by
      rw [← Q.1, ← F3 52 (by omega)]
      exact ee_An (j := 1) (ee_R h) ee_K (by decide) (by decide)
    refine sr_of (sx_SI (σ1 := τ3) (x := yL B b) (ee_eq (ee_B (ee_B (ee_B (ee_L rfl) (hn _ rfl)) (ee_L rfl)) ee_K) ?_) ⟨rfl, R3, F3⟩)
    show nI P + nI (lsN A) - nI f - nI 1 = _
    rw [nadd, nsub (by omega), nsub (by omega), hL]
    exact congrArg nI (by omega)
end LA41
