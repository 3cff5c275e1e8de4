section LA40
variable {A B G K σ τ σ1 σ2 : sy_Mem} {t v d n f m c : Nat} {ty key p h : Int32} {env : List Value}
def LB2 : sy_S := (sy_sB 20 (sy_sQ (sy_sB 20 (sy_sQ (sy_sSI 20 (sy_iK 0)) (sy_wh (sy_clt (sy_iL 20) (sy_iT (sy_rL 19) (sy_iK 0))) (sy_sQ (sy_sB 21 (sy_sQ (sy_sQ (sy_sSI 21 (sy_iDv true (sy_iT (sy_rL 19) (sy_iAdd (sy_iK 1) (sy_iL 20))) (sy_iK 1000))) (sy_sI (sy_ceq (sy_iM (sy_cr 2 sf_L_base) (sy_aR (sy_rL 1) (sy_aI (sy_iL 21) sy_aN))) (sy_iL 11)) (sy_sB 22 (sy_sQ (sy_sSI 22 (sy_iM (sy_cr 7 sf_L_comes) (sy_aR (sy_rL 1) (sy_aR (sy_rL 12) (sy_aI (sy_iA 0 (sy_rL 5) (sy_iL 11)) (sy_aI (sy_iL 21) (sy_aI (sy_iK (-1)) (sy_aI (sy_iDv false (sy_iT (sy_rL 19) (sy_iAdd (sy_iK 1) (sy_iL 20))) (sy_iK 1000)) (sy_aI (sy_iK (-1)) sy_aN))))))))) (sy_sQ (sy_sSI 18 (sy_iAdd (sy_iL 18) (sy_iQ (sy_cge (sy_iL 18) (sy_iL 22)) (sy_iK 1) (sy_iK 0)))) (sy_sSI 13 (sy_iAdd (sy_iL 13) (sy_iQ (sy_cge (sy_iL 13) (sy_iL 22)) (sy_iK 1) (sy_iK 0))))))) sy_sN)) (sy_sNew 54 22 (sy_sQ (sy_sQ (sy_sWT (sy_rL 22) (sy_iK 0) (sy_iK 1)) (sy_sQ (sy_sWT (sy_rL 22) (sy_iK 1) (sy_iT (sy_rL 19) (sy_iAdd (sy_iK 1) (sy_iL 20)))) (sy_sC (sy_cr 6 sf_L_makes) (sy_aR (sy_rL 1) (sy_aR (sy_rL 2) (sy_aR (sy_rL 3) (sy_aR (sy_rL 4) (sy_aR (sy_rL 5) (sy_aR (sy_rL 22) sy_aN))))))))) (sy_sDrp 54 22))))) (sy_sIn 20 1)) 5))) (sy_sQ (sy_sSI 20 (sy_iM (sy_cr 7 sf_L_comes) (sy_aR (sy_rL 1) (sy_aR (sy_rL 12) (sy_aI (sy_iA 0 (sy_rL 5) (sy_iL 11)) (sy_aI (sy_iL 17) (sy_aI (sy_iL 18) (sy_aI (sy_iM (sy_cr 3 sf_L_area) (sy_aR (sy_rL 0) (sy_aI (sy_iK 0) (sy_aI (sy_iK 0) sy_aN)))) (sy_aI (sy_iL 13) sy_aN))))))))) (sy_sQ (sy_sB 21 (sy_sQ (sy_sSI 21 (sy_iL 14)) (sy_wh (sy_clt (sy_iL 21) (sy_iA 0 (sy_rL 9) (sy_iK 1))) (sy_sQ (sy_sC (sy_cr 5 sf_L_putIn) (sy_aR (sy_rL 12) (sy_aR (sy_rL 5) (sy_aI (sy_iL 11) (sy_aI (sy_iSub (sy_iAdd (sy_iL 20) (sy_iL 21)) (sy_iL 14)) (sy_aL (sy_lM (sy_cr 3 sf_L_slot) (sy_aR (sy_rL 0) (sy_aI (sy_iSub (sy_iL 21) (sy_iL 14)) (sy_aI (sy_iDv false (sy_iA 0 (sy_rL 6) (sy_iL 21)) (sy_iK 16)) sy_aN)))) sy_aN)))))) (sy_sIn 21 1)) 6))) (sy_sSI 13 (sy_iSub (sy_iSub (sy_iAdd (sy_iL 20) (sy_iA 0 (sy_rL 9) (sy_iK 1))) (sy_iL 14)) (sy_iK 1)))))))
theorem upd_u2 {f : Nat → Int32} {i : Nat} {a : Int32} : upd (upd f i a) i (f i) = f := by
  funext j
  unfold upd
  by_cases e : j = i
  · rw [if_pos e, e]
  · rw [if_neg e, if_neg e]
theorem new_at {k j i : Nat} : sy_new k σ j i = if j = k then 0 else if j = 58 then upd (σ 58) k 1 i else σ j i := by
  unfold sy_new
  split
  · rfl
  · split <;> rfl
theorem new_ne {k j : Nat} (h1 : j ≠ k) (h2 : j ≠ 58) : sy_new k σ j = σ j := by
  unfold sy_new
  rw [if_neg h1, if_neg h2]
theorem nor_cons {kk : Nat} {v : Value} {l : List Value} (h1 : (match v with | .ref a => !(a == kk) | _ => true) = true) (h2 : sy_nor kk l = true) : sy_nor kk (v :: l) = true := by
  unfold sy_nor at h2 ⊢
  rw [List.all_cons, h2, Bool.and_true]
  exact h1
theorem nor_45 {kk d : Nat} (hk : 53 ≤ kk) (hd : d < 3) : (!((45 + d) == kk)) = true := by
  rw [Bool.not_eq_true', beq_eq_false_iff_ne]
  omega
/-- the frame of what is made -/
def MF (σ τ : sy_Mem) : Prop := ∀ k, k < 45 ∨ (48 < k ∧ k ≠ 54) → τ k = σ k
theorem ins_roots (H : IH t v d A σ) (hf : f ≤ lsN A) (hG : ya_gn A f (lsN A - f) = G) (hc : (G 27 0).toInt.toNat = c) (hsum : (A 10 9).toInt + (G 27 0).toInt ≤ 60) (ht : t + 70 < 10000) (M : mG G σ) (Z : ∀ j, 54 ≤ j → j ≤ 57 → σ 58 j = 0) (hp : p = -1 ∨ (yl A p ∧ sD A p = nI d)) (hh : h = -1 ∨ (yl A h ∧ sD A h = nI d)) {x : Int32} :
    SR (sy_sB 20 (sy_sQ (sy_sSI 20 (sy_iK 0)) (sy_wh (sy_clt (sy_iL 20) (sy_iT (sy_rL 19) (sy_iK 0))) (sy_sQ (sy_sB 21 (sy_sQ (sy_sQ (sy_sSI 21 (sy_iDv true (sy_iT (sy_rL 19) (sy_iAdd (sy_iK 1) (sy_iL 20))) (sy_iK 1000))) (sy_sI (sy_ceq (sy_iM (sy_cr 2 sf_L_base) (sy_aR (sy_rL 1) (sy_aI (sy_iL 21) sy_aN))) (sy_iL 11)) (sy_sB 22 (sy_sQ (sy_sSI 22 (sy_iM (sy_cr 7 sf_L_comes) (sy_aR (sy_rL 1) (sy_aR (sy_rL 12) (sy_aI (sy_iA 0 (sy_rL 5) (sy_iL 11)) (sy_aI (sy_iL 21) (sy_aI (sy_iK (-1)) (sy_aI (sy_iDv false (sy_iT (sy_rL 19) (sy_iAdd (sy_iK 1) (sy_iL 20))) (sy_iK 1000)) (sy_aI (sy_iK (-1)) sy_aN))))))))) (sy_sQ (sy_sSI 18 (sy_iAdd (sy_iL 18) (sy_iQ (sy_cge (sy_iL 18) (sy_iL 22)) (sy_iK 1) (sy_iK 0)))) (sy_sSI 13 (sy_iAdd (sy_iL 13) (sy_iQ (sy_cge (sy_iL 13) (sy_iL 22)) (sy_iK 1) (sy_iK 0))))))) sy_sN)) (sy_sNew 54 22 (sy_sQ (sy_sQ (sy_sWT (sy_rL 22) (sy_iK 0) (sy_iK 1)) (sy_sQ (sy_sWT (sy_rL 22) (sy_iK 1) (sy_iT (sy_rL 19) (sy_iAdd (sy_iK 1) (sy_iL 20)))) (sy_sC (sy_cr 6 sf_L_makes) (sy_aR (sy_rL 1) (sy_aR (sy_rL 2) (sy_aR (sy_rL 3) (sy_aR (sy_rL 4) (sy_aR (sy_rL 5) (sy_aR (sy_rL 22) sy_aN))))))))) (sy_sDrp 54 22))))) (sy_sIn 20 1)) 5))) (eI3 v d (yL A h) f x ty (yL A p)) σ (fun e τ => e = eI3 v d (yL (ya_mk G c) h) f x ty (yL (ya_mk G c) p) ∧ RW (ya_mk G c) τ ∧ TT (ya_mk G c) τ ∧ MF σ τ) := by
  have H0 := H
  obtain ⟨⟨I, T, R, Q⟩, ⟨hv, hd⟩, V, hvd, hD, hH, hS⟩ := H
  obtain ⟨n1, n2, n3, n4⟩ := lsN_is I
  obtain ⟨g1, g3, g4, g6, g7⟩ := qc_gn I f (lsN A - f) (by omega)
  rw [hG] at g1 g3 g4 g6 g7
  have hb : yc_base A G := fun k hk => g4 k (by omega)
  have hsum' : (G 10 9).toInt + (G 27 0).toInt ≤ 60 := by rw [g4 10 (by omega)]; exact hsum
  have hc4 : c ≤ 4 := by
    have := g3.1.2
    omega
  obtain ⟨M1, M2, M3⟩ := M
  rw [hc] at M2 M3
  have hmk : ∀ i, i ≤ c → yc_mk t G i := fun i hi => qc_mk g1 g3 hsum' (by omega) i (by have := g3.1.1; omega)
  have eL0 : ∀ x, yL G x = yL A x := fun x => ya_sg_c (g4 17 (by decide)) x
  -- what is live stays so, in its database
  have live : ∀ x : Int32, (x = -1 ∨ (yl A x ∧ sD A x = nI d)) → ∀ i, i ≤ c → (x = -1 ∨ (yl (ya_mk G i) x ∧ sD (ya_mk G i) x = nI d)) := fun x hx i hi => by
    rcases hx with hx | ⟨h1, h2⟩
    · exact Or.inl hx
    · right
      have hG1 : yl G x := by
        rw [yl_c (g4 11 (by decide))]
        exact h1
      have hG2 : sD G x = sD A x := by
        show tD G (yT G x) = tD A (yT A x)
        rw [show yT G x = yT A x from ya_sg_c (g4 11 (by decide)) x]
        exact ya_tg_c (g4 1 (by decide)) (g4 2 (by decide)) _ _
      obtain ⟨o1, o2, o3, o4, o5⟩ := (hmk i hi).2.2.2.1 x hG1
      exact ⟨o1, o4.trans (hG2.trans h2)⟩
  refine sr_B (sr_Q (R := fun e τ => e = eI3 v d (yL G h) f x ty (yL G p) ++ [.int (nI 0)] ∧ σ = τ) (sr_of (sx_SI ee_K ⟨by rw [eL0, eL0]; rfl, rfl⟩)) ?_)
  rintro e τ0 ⟨rfl, rfl⟩
  refine sr_wh (N := c) (Inv := fun i e τ => e = eI3 v d (yL (ya_mk G i) h) f x ty (yL (ya_mk G i) p) ++ [.int (nI i)] ∧ RW (ya_mk G i) τ ∧ TT (ya_mk G i) τ ∧ MF σ τ) (fun i e τ hi hI => ?_) c 0 5 _ _ (by omega) (by omega) ⟨rfl, RW_b hb (fun _ _ _ => rfl) R, TT_b hb rfl T, fun _ _ => rfl⟩
  obtain ⟨rfl, R', T', F⟩ := hI
  have hT53 : sy_isT 53 τ = true := by
    unfold sy_isT
    rw [F 58 (by omega), M1]
    rfl
  refine ⟨decide (i < c), ee_eq (ee_cB (ee_L rfl) (ee_eq (ee_T (j := 0) (ee_R rfl) ee_K hT53 (by decide)) (by rw [F 53 (by omega)]; exact M2))) (nI_ltd (by omega) (by omega)), fun hx => ?_, fun hx => ?_⟩
  · have hic := of_decide_eq_true hx
    refine ⟨hic, ?_⟩
    obtain ⟨Hx, -⟩ := qc_mkH g3 hsum' (by have := g3.1.1; omega) (hmk i hi)
    have I' := Hx.1
    obtain ⟨hty, -, hw, -⟩ := Hx.2.1
    have hu := isT_12 I' hty
    obtain ⟨cv1, cv2, -⟩ := code_dv hu hw
    have eS : ya_mk G (i + 1) = ya_add (ya_mk G i) (G 28 i) (-1) (G 29 i) (-1) := rfl
    have hread : ∀ env : List Value, env[19]? = some (.ref 53) → env[20]? = some (.int (nI i)) → ∀ σ2 : sy_Mem, σ2 53 = τ 53 → sy_isT 53 σ2 = true → sy_iT (sy_rL 19) (sy_iAdd (sy_iK 1) (sy_iL 20)) env σ2 = some (.inl (1000 * G 28 i + G 29 i), σ2) := fun env h5' h6 σ2 h7 h8 => by
      rw [← M3 i hic, ← F 53 (by omega), ← h7]
      exact ee_T (ee_R h5') (ee_eq (ee_B ee_K (ee_L h6)) (show nI 1 + nI i = nI (1 + i) from nadd)) h8 (show 1 + i < 5 by omega)
    refine sr_Q (R := fun e τ2 => e = eI3 v d (yL (ya_mk G (i + 1)) h) f x ty (yL (ya_mk G (i + 1)) p) ++ [.int (nI i)] ∧ RW (ya_mk G (i + 1)) τ2 ∧ TT (ya_mk G (i + 1)) τ2 ∧ MF σ τ2) (sr_B (sr_Q (R := fun e τ2 => e = eI3 v d (yL (ya_mk G (i + 1)) h) f x ty (yL (ya_mk G (i + 1)) p) ++ [.int (nI i), .int (G 28 i)] ∧ τ2 = τ) (sr_of (sx_SIQ (ee_eq (ee_Dv (hread _ rfl rfl τ rfl hT53) ee_K (by decide)) cv1) ?_)) ?_)) ?_
    · -- the places move
      refine sx_I (ee_cB (ev_b I' T' hty (ee_R rfl) (ee_L rfl)) (ee_L rfl)) (fun hb1 => ?_) (fun hb1 => ?_)
      · have hDu := of_decide_eq_true hb1
        have hcomes := t_comes I' T' R' Hx.2.1 hd hDu (Or.inl rfl) (Or.inl rfl)
        have hcl : (ya_cnt (ya_mk G i) (tD (ya_mk G i) (G 28 i))).toNatClampNeg = cn (ya_mk G i) d := by
          rw [hDu, (cnt_nI I' hd).1, nI_clamp (by have := cn_le I' hd; omega)]
        have s1 := shift_is Hx hd (live p hp i hi)
        have s2 := shift_is Hx hd (live h hh i hi)
        rw [if_pos hDu, ← eS] at s1 s2
        refine sx_B (sx_SIQ (ee_M (ee_aR (ee_R rfl) (ee_aR (ee_R rfl) (ee_aI (ee_eq (ee_An (ee_R rfl) (ee_L rfl) (show d < 3 from hd) (by decide)) (R' d hd).1) (ee_aI (ee_L rfl) (ee_aI ee_K (ee_aI (ee_eq (ee_Dv (hread _ rfl rfl τ rfl hT53) ee_K (by decide)) cv2) (ee_aI ee_K ee_aN))))))) (ee_cr hcomes rfl)) ?_)
        refine sx_SIQ (σ1 := τ) (ee_eq (ee_B (ee_L rfl) (ee_iQ (ee_cB (ee_L rfl) (ee_L rfl)) (fun _ => ee_K) (fun _ => ee_K))) s1.symm) (sx_SI (σ1 := τ) (ee_eq (ee_B (ee_L rfl) (ee_iQ (ee_cB (ee_L rfl) (ee_L rfl)) (fun _ => ee_K) (fun _ => ee_K))) s2.symm) ⟨rfl, rfl⟩)
      · have hDu := of_decide_eq_false hb1
        have s1 := shift_is Hx hd (live p hp i hi)
        have s2 := shift_is Hx hd (live h hh i hi)
        rw [if_neg hDu, ← eS] at s1 s2
        refine sx_N ⟨?_, rfl⟩
        rw [s1, s2]
        rfl
    · -- the root is made
      rintro e τ2 ⟨rfl, rfl⟩
      have h1 : (sy_top 54 τ2 && sy_nor 54 (eI3 v d (yL (ya_mk G (i + 1)) h) f x ty (yL (ya_mk G (i + 1)) p) ++ [.int (nI i), .int (G 28 i)])) = true := by
        rw [Bool.and_eq_true]
        refine ⟨?_, ?_⟩
        · unfold sy_top
          rw [F 58 (by omega)]
          have z1 := Z 54 (by omega) (by omega)
          have z2 := Z 55 (by omega) (by omega)
          have z3 := Z 56 (by omega) (by omega)
          have z4 := Z 57 (by omega) (by omega)
          simp [z1, z2, z3, z4]
        · repeat' refine nor_cons ?_ ?_
          all_goals first | rfl | exact nor_45 (by omega) hd
      refine sr_New h1 (by omega) ?_
      have f58 : sy_new 54 τ2 58 = upd (τ2 58) 54 1 := rfl
      have hT54 : ∀ σ2 : sy_Mem, σ2 58 = sy_new 54 τ2 58 → sy_isT 54 σ2 = true ∧ sy_isT 53 σ2 = true := fun σ2 h2 => by
        unfold sy_isT
        rw [h2, f58]
        refine ⟨rfl, ?_⟩
        rw [show upd (τ2 58) 54 1 53 = 1 from (upd_ne (by omega)).trans (by rw [F 58 (by omega), M1])]
        rfl
      obtain ⟨σ2, hσ2⟩ : ∃ σ2, σ2 = sy_up (sy_up (sy_new 54 τ2) 54 0 1) 54 1 (1000 * G 28 i + G 29 i) := ⟨_, rfl⟩
      have k2 : ∀ k, k ≠ 54 → k ≠ 58 → σ2 k = τ2 k := fun k h2 h3 => by
        rw [hσ2, up_ne h2, up_ne h2, new_ne h2 h3]
      have k58 : σ2 58 = upd (τ2 58) 54 1 := by
        rw [hσ2, up_ne (by decide), up_ne (by decide)]
        rfl
      obtain ⟨τ3, c1, c2, c3, c4⟩ := t_makes (kk := 54) (c := 1) (u := fun j => G 28 (i + j)) (w := fun j => G 29 (i + j)) (C := fun j => ya_mk G (i + j)) (tt := fun j => t + (i + j)) (σ := σ2) (by omega) (by decide) (fun j hj => by
          have : j = 0 := by omega
          subst this
          exact ⟨rfl, Hx⟩) ⟨by rw [k58]; exact upd_at, by rw [hσ2, up_at, if_neg (by omega), up_at, if_pos rfl]; rfl, fun j hj => by
          have : j = 0 := by omega
          subst this
          rw [hσ2, up_at, if_pos rfl]
          rfl⟩ (TT_b (fun _ _ => rfl) (k2 44 (by omega) (by omega)) T') (RW_b (fun _ _ => rfl) (fun k q1 q2 => k2 k (by omega) (by omega)) R')
      refine sr_of ?_
      refine sx_Q (R := fun e τ4 => e = eI3 v d (yL (ya_mk G (i + 1)) h) f x ty (yL (ya_mk G (i + 1)) p) ++ [.int (nI i), .int (G 28 i), .ref 54] ∧ τ4 = τ3) ?_ (fun e τ4 h2 => ?_)
      · refine sx_DQ (env' := eI3 v d (yL (ya_mk G (i + 1)) h) f x ty (yL (ya_mk G (i + 1)) p) ++ [.int (nI i), .int (G 28 i), .ref 54]) (σ1 := sy_up (sy_new 54 τ2) 54 0 1) (fun k => es_WT (j := 0) (ee_R rfl) ee_K ee_K (hT54 _ rfl).1 (by decide) rfl) ?_
        refine sx_DQ (env' := eI3 v d (yL (ya_mk G (i + 1)) h) f x ty (yL (ya_mk G (i + 1)) p) ++ [.int (nI i), .int (G 28 i), .ref 54]) (σ1 := σ2) (fun k => es_WT (j := 1) (ee_R rfl) ee_K (hread _ rfl rfl _ (by rw [up_ne (by decide), new_ne (by decide) (by decide)]) (hT54 _ (by rw [up_ne (by decide)])).2) (hT54 _ (by rw [up_ne (by decide)])).1 (by decide) (by rw [← hσ2])) ?_
        exact ⟨_, _, ⟨rfl, rfl⟩, fun k => es_C (ee_aR (ee_R rfl) (ee_aR (ee_R rfl) (ee_aR (ee_R rfl) (ee_aR (ee_R rfl) (ee_aR (ee_R rfl) (ee_aR (ee_R rfl) ee_aN)))))) (ee_cr c1 rfl) rfl⟩
      · obtain ⟨rfl, rfl⟩ := h2
        have e58 : τ4 58 = upd (τ2 58) 54 1 := (c4 58 (by omega)).trans k58
        have d58 : sy_drp 54 τ4 58 = σ 58 := by
          unfold sy_drp
          rw [yu_eq, e58, ← F 58 (by omega)]
          have z1 : τ2 58 54 = 0 := by
            rw [F 58 (by omega)]
            exact Z 54 (by omega) (by omega)
          rw [← z1]
          exact upd_u2
        refine ⟨eI3 v d (yL (ya_mk G (i + 1)) h) f x ty (yL (ya_mk G (i + 1)) p) ++ [.int (nI i), .int (G 28 i), .null], sy_drp 54 τ4, ⟨?_, rfl, ?_, ?_, ?_⟩, fun k => es_Drp ?_ rfl⟩
        · rw [Bool.and_eq_true]
          refine ⟨?_, ?_⟩
          · rw [d58, Z 54 (by omega) (by omega)]
            rfl
          · repeat' refine nor_cons ?_ ?_
            all_goals first | rfl | exact nor_45 (by omega) hd
        · exact RW_b (fun _ _ => rfl) (fun k q1 q2 => up_ne (by omega)) c2
        · exact TT_b (fun _ _ => rfl) (up_ne (by omega)) c3
        · intro k hk
          by_cases ek : k = 58
          · rw [ek]
            exact d58
          · unfold sy_drp
            rw [up_ne ek, c4 k (by omega), k2 k (by omega) ek, F k hk]
        · rw [Bool.and_eq_true]
          refine ⟨?_, ?_⟩
          · rw [e58, upd_at]
            rfl
          · unfold sy_top
            rw [e58, F 58 (by omega)]
            have z2 := Z 55 (by omega) (by omega)
            have z3 := Z 56 (by omega) (by omega)
            have z4 := Z 57 (by omega) (by omega)
            simp [upd, z2, z3, z4]
    · rintro e τ2 ⟨rfl, r2, r3, r4⟩
      refine sr_of ⟨_, τ2, ⟨rfl, r2, r3, r4⟩, fun k => es_In rfl ?_⟩
      exact congrArg (fun z => k (eI3 v d (yL (ya_mk G (i + 1)) h) f x ty (yL (ya_mk G (i + 1)) p) ++ [.int z]) τ2) (nadd (a := i) (b := 1))
  · have : i = c := by
      have := of_decide_eq_false hx
      omega
    subst this
    exact ⟨rfl, R', T', F⟩
end LA40
