/-! THE COMPONENT'S HALF of what insert does: its own memories, told -/
section LA32
variable {A B τ σ : sy_Mem} {t n f m v : Nat} {ty key p here : Int32}
def yqc (A : sy_Mem) (n : Nat) : Prop := (0 ≤ (A 27 0).toInt ∧ (A 27 0).toInt ≤ n) ∧ (∀ i : Nat, (i : Int) < (A 27 0).toInt → yq_1 A (A 28 i) (A 29 i)) ∧ ∀ i j : Nat, (i : Int) < (A 27 0).toInt → j < i → ¬ (A 28 j = A 28 i ∧ A 29 j = A 29 i)
theorem qc_nr (I : yn_I t A) (Q : yqc A n) (hn : n < 4) (hty : ya_isT A ty = true) (hk : 0 ≤ key.toInt ∧ key.toInt ≤ 999) : yqc (ya_nr A ty key) (n + 1) := by
  obtain ⟨q2, q3, q4⟩ := Q
  have hf : yq_f A (ya_nr A ty key) := ya_nr_f
  have h1 : ∀ u k2, yq_1 A u k2 → yq_1 (ya_nr A ty key) u k2 := fun u k2 h => by
    obtain ⟨a1, a2, a3, a4⟩ := h
    refine ⟨by rw [ya_isT_c (hf 1 (by decide))]; exact a1, ?_, a3, by rw [ya_rootOf_nd hf]; exact a4⟩
    show ya_tg _ 3 (-1) u = -1
    rw [ya_tg_c (hf 1 (by decide)) (hf 3 (by decide))]
    exact a2
  by_cases e0 : ya_nc0 A ty key = true
  · rw [show ya_nr A ty key = A from by unfold ya_nr; rw [if_pos e0]]
    exact ⟨⟨q2.1, by omega⟩, q3, q4⟩
  · by_cases e1 : tC A ty = 0
    · have e : ya_nr A ty key = sy_up A 27 1 1 := by unfold ya_nr; rw [if_neg e0, if_pos e1]
      rw [e] at h1 ⊢
      have e27 : sy_up A 27 1 1 27 0 = A 27 0 := yu_an (by decide)
      have e28 : sy_up A 27 1 1 28 = A 28 := yu_ne (by decide)
      have e29 : sy_up A 27 1 1 29 = A 29 := yu_ne (by decide)
      unfold yqc
      rw [e27, e28, e29]
      exact ⟨⟨q2.1, by omega⟩, fun i hi => h1 _ _ (q3 i hi), q4⟩
    · have e : ya_nr A ty key = ya_ndd A (tG A ty) key := by unfold ya_nr; rw [if_neg e0, if_neg e1]
      cases en : ya_nf A (tG A ty) key with
      | some i =>
        have e2 : ya_ndd A (tG A ty) key = A := by unfold ya_ndd; rw [en]; rfl
        rw [e, e2]
        exact ⟨⟨q2.1, by omega⟩, q3, q4⟩
      | none =>
        have e2 : ya_ndd A (tG A ty) key = sy_up (sy_up (sy_up A 28 (A 27 0).toNatClampNeg (tG A ty)) 29 (A 27 0).toNatClampNeg key) 27 0 (A 27 0 + 1) := by unfold ya_ndd; rw [en]; rfl
        rw [e, e2] at h1
        rw [e, e2]
        have hplus : (A 27 0 + 1).toInt = (A 27 0).toInt + 1 := by
          rw [yl_add (by omega) (by omega) (by decide) (by decide), yl_c1]
        have e27 : ∀ x : Int32, sy_up (sy_up (sy_up A 28 (A 27 0).toNatClampNeg (tG A ty)) 29 (A 27 0).toNatClampNeg key) 27 0 x 27 0 = x := fun x => yu_at
        have e28 : ∀ x : Int32, sy_up (sy_up (sy_up A 28 (A 27 0).toNatClampNeg (tG A ty)) 29 (A 27 0).toNatClampNeg key) 27 0 x 28 = upd (A 28) (A 27 0).toNatClampNeg (tG A ty) := fun x => by rw [yu_ne (by decide), yu_ne (by decide), yu_eq]
        have e29 : ∀ x : Int32, sy_up (sy_up (sy_up A 28 (A 27 0).toNatClampNeg (tG A ty)) 29 (A 27 0).toNatClampNeg key) 27 0 x 29 = upd (A 29) (A 27 0).toNatClampNeg key := fun x => by rw [yu_ne (by decide), yu_eq, yu_ne (by decide)]
        have hnew : yq_1 A (tG A ty) key := by
          have e0' : ya_nc0 A ty key = false := by simpa using e0
          unfold ya_nc0 at e0'
          rw [Bool.or_eq_false_iff] at e0'
          have hg := yq_tG I hty (of_decide_eq_false e0'.1)
          exact ⟨hg.1, hg.2, hk, by simpa using e0'.2⟩
        have hcl : (A 27 0).toNatClampNeg = (A 27 0).toInt.toNat := yi_clampInt _
        unfold yqc
        rw [e27, e28, e29, hplus]
        refine ⟨⟨by omega, by omega⟩, fun i hi => ?_, fun i j hi hj => ?_⟩
        · by_cases ei : i = (A 27 0).toNatClampNeg
          · rw [ei, upd_at, upd_at]
            exact h1 _ _ hnew
          · rw [upd_ne ei, upd_ne ei]
            exact h1 _ _ (q3 i (by omega))
        · rw [upd_ne (show j ≠ (A 27 0).toNatClampNeg by omega), upd_ne (show j ≠ (A 27 0).toNatClampNeg by omega)]
          by_cases ei : i = (A 27 0).toNatClampNeg
          · rw [ei, upd_at, upd_at]
            have := ya_ff_none.mp en j (by omega) (by omega)
            rintro ⟨g1, g2⟩
            rw [decide_eq_true g1, decide_eq_true g2] at this
            cases this
          · rw [upd_ne ei, upd_ne ei]
            exact q4 i j (by omega) hj
theorem qc_27 (h0 : 0 ≤ (A 27 0).toInt) : ya_nr A ty key 27 1 = if (ya_nc0 A ty key || !decide (tC A ty = 0)) = true then A 27 1 else 1 := yq_27 h0
theorem qn_nr (I : yn_I t A) (Q : yqc A n) (hn : n < 4) (hty : ya_isT A ty = true) (hk : 0 ≤ key.toInt ∧ key.toInt ≤ 999) : yn_I t (ya_nr A ty key) := by
  have Q' := qc_nr I Q hn hty hk
  refine yn_I_nd I ya_nr_f ⟨Q'.1.1, by have := Q'.1.2; omega⟩ ?_
  rw [yq_27 Q.1.1]
  have := I.2.2.2.2.2.2.2.2.2.2
  cases (ya_nc0 A ty key || !decide (tC A ty = 0))
  · exact Or.inr rfl
  · exact this
theorem qc_start (I : yn_I t A) {P : Int32 → Int32 → Prop} : yn_I t (sy_up (sy_up A 27 0 0) 27 1 0) ∧ yqc (sy_up (sy_up A 27 0 0) 27 1 0) 0 ∧ yq_f A (sy_up (sy_up A 27 0 0) 27 1 0) ∧ yq_x (sy_up (sy_up A 27 0 0) 27 1 0) P ∧ sy_up (sy_up A 27 0 0) 27 1 0 27 1 = 0 ∧ sy_up (sy_up A 27 0 0) 27 1 0 27 0 = 0 := by
  have hf : yq_f A (sy_up (sy_up A 27 0 0) 27 1 0) := fun k hk => by rw [yu_ne (by omega), yu_ne (by omega)]
  have h0 : sy_up (sy_up A 27 0 0) 27 1 0 27 0 = 0 := by rw [yu_an (by decide), yu_at]
  have hz : ∀ i : Nat, ¬ (i : Int) < (sy_up (sy_up A 27 0 0) 27 1 0 27 0).toInt := fun i => by rw [h0, yl_c0]; omega
  exact ⟨yn_I_nd I hf (by rw [h0]; decide) (Or.inl yu_at), ⟨by rw [h0]; decide, fun i hi => absurd hi (hz i), fun i j hi => absurd hi (hz i)⟩, hf, fun i hi => absurd hi (hz i), yu_at, h0⟩
theorem qc_gn (I : yn_I t A) (f : Nat) : ∀ n : Nat, ((f + n : Nat) : Int) ≤ (A 19 0).toInt → yn_I t (ya_gn A f n) ∧ yqc (ya_gn A f n) n ∧ yq_f A (ya_gn A f n) ∧ yq_x (ya_gn A f n) (fun u k => ¬ (u = ya_ag A 20 (-1) (nI f) ∧ k = ya_slot A 0 0)) ∧ (ya_gn A f n 27 1 = 0 ∨ ya_gn A f n 27 1 = 1)
  | 0, _ => by
    obtain ⟨g1, g3, g4, g6, g7, -⟩ := qc_start I (P := fun u k => ¬ (u = ya_ag A 20 (-1) (nI f) ∧ k = ya_slot A 0 0))
    exact ⟨g1, g3, g4, g6, Or.inl g7⟩
  | n + 1, h => by
    obtain ⟨g1, g3, g4, g6, g7⟩ := qc_gn I f n (by omega)
    have h4 := (yg_n19 I)
    by_cases ho : ya_own A f n = true
    · rw [show ya_gn A f (n + 1) = ya_gn A f n from if_pos ho]
      obtain ⟨q2, q3, q4⟩ := g3
      exact ⟨g1, ⟨⟨q2.1, by omega⟩, q3, q4⟩, g4, g6, g7⟩
    · rw [show ya_gn A f (n + 1) = ya_nr (ya_gn A f n) (ya_ag A 20 (-1) (nI (f + n))) (ya_slot A (nI n) 2) from if_neg ho]
      have hty : ya_isT (ya_gn A f n) (ya_ag A 20 (-1) (nI (f + n))) = true := by
        rw [ya_isT_c (g4 1 (by decide))]
        exact yg_arg I (by omega)
      have hk := ya_slot_rng I (nI n) 2
      have hI := qn_nr g1 g3 (by omega) hty hk
      refine ⟨hI, qc_nr g1 g3 (by omega) hty hk, yq_f_trans g4 ya_nr_f, yq_x_nr ⟨g3.1.1, by have := g3.1.2; omega⟩ g6 (fun e => ho ?_), hI.2.2.2.2.2.2.2.2.2.2⟩
      unfold ya_own
      have : tG (ya_gn A f n) (ya_ag A 20 (-1) (nI (f + n))) = tG A (ya_ag A 20 (-1) (nI (f + n))) := ya_tg_c (g4 1 (by decide)) (g4 7 (by decide)) _ _
      rw [this] at e
      rw [decide_eq_true e.1, decide_eq_true e.2]
      rfl
theorem ct_gather (I : yn_I t A) (hf : (f : Int) ≤ (A 19 0).toInt) : sf_X5_gatherNeedsOfNew [.ref 0, .int (nI f)] A = some (.inl none, ya_gn A f ((A 19 0).toNatClampNeg - f)) := by
  have h4 := yg_n19 I
  refine ee_meth ?_ rfl
  unfold sm_X5_gatherNeedsOfNew
  refine es_Q (es_Q (es_C (σ2 := ya_gn A f 0) (ee_aR (ee_rF (ee_R rfl) rfl) ee_aN) rfl (es_B (es_Q (es_SI (ee_L rfl) ?_)))))
  refine es_loop (E := fun n => [.ref 0, .int (nI f), .int (nI (f + n))]) (S := fun n => ya_gn A f n) ((A 19 0).toNatClampNeg - f) 0 1000 (by omega) (fun n _ h2 => ?_) ?_ (fun n _ h2 k' => ?_) ?_
  · have g := qc_gn I f n (by omega)
    refine (es_cB (B := A 19 0) rfl ((ee_M (ee_aR (ee_rF (ee_R rfl) rfl) ee_aN) (ee_cv (yt_X0_size _) rfl)).trans (by rw [g.2.2.1 19 (by decide)])) (by omega)).trans (by rw [decide_eq_true (by omega)])
  · have g := qc_gn I f (0 + ((A 19 0).toNatClampNeg - f)) (by omega)
    refine (es_cB (B := A 19 0) rfl ((ee_M (ee_aR (ee_rF (ee_R rfl) rfl) ee_aN) (ee_cv (yt_X0_size _) rfl)).trans (by rw [g.2.2.1 19 (by decide)])) (by omega)).trans (by rw [decide_eq_false (by omega)])
  · obtain ⟨g1, g3, g4, g6, g7⟩ := qc_gn I f n (by omega)
    have W := yn_Wo g1
    have eu : ∀ j : Nat, ya_ag (ya_gn A f n) 20 (-1) (nI j) = ya_ag A 20 (-1) (nI j) := fun j => ya_ag_c (g4 19 (by decide)) (g4 20 (by decide)) _ _
    have es : ∀ a b : Int32, ya_slot (ya_gn A f n) a b = ya_slot A a b := fun a b => ya_slot_c (g4 31 (by decide)) a b
    have eG : ∀ u : Int32, ya_tg (ya_gn A f n) 7 (-1) u = tG A u := fun u => ya_tg_c (g4 1 (by decide)) (g4 7 (by decide)) _ _
    have hsub : nI (f + n) - nI f = nI n := by rw [nI_subn (by omega) (by omega), Nat.add_sub_cancel_left]
    refine es_Q (es_B (es_Q (es_SI (σ1 := ya_gn A f n) (x := ya_ag A 20 (-1) (nI (f + n))) ((ee_M (ee_aR (ee_rF (ee_R rfl) rfl) (ee_aI (ee_L rfl) ee_aN)) (ee_cv (yt_X0_typeOf _ _) rfl)).trans (by rw [eu])) (es_Q (es_SI (σ1 := ya_gn A f n) (x := ya_slot A (nI n) 2) ((ee_M (ee_aR (ee_R rfl) (ee_aI (ee_B (ee_L rfl) (ee_L rfl)) (ee_aI ee_K ee_aN))) (ee_cv (yt_X5_slotNumber _ _ _) rfl)).trans (by rw [es, hsub])) (es_Q (es_SI (σ1 := ya_gn A f n) (x := ya_b (ya_own A f n)) ((ee_iC (ee_cA (ee_cB (ee_M (ee_aR (ee_rF (ee_R rfl) rfl) (ee_aI (ee_L rfl) ee_aN)) (ee_cv (yt_X2_targetOf W _) rfl)) (ee_M (ee_aR (ee_rF (ee_R rfl) rfl) (ee_aI (ee_L rfl) ee_aN)) (ee_cv (yt_X0_typeOf _ _) rfl))) (fun _ => ee_cB (ee_L rfl) (ee_M (ee_aR (ee_R rfl) (ee_aI ee_K (ee_aI ee_K ee_aN))) (ee_cv (yt_X5_slotNumber _ _ _) rfl))))).trans (by rw [eG, eu, es]; rfl)) ?_)))))))
    by_cases ho : ya_own A f n = true
    · rw [show ya_gn A f (n + 1) = ya_gn A f n from if_pos ho]
      exact es_If ((ee_cN (ee_cb (ee_L rfl))).trans (by rw [ho]; rfl)) (es_N (es_In1 rfl rfl))
    · rw [show ya_gn A f (n + 1) = ya_nr (ya_gn A f n) (ya_ag A 20 (-1) (nI (f + n))) (ya_slot A (nI n) 2) from if_neg ho]
      exact es_It ((ee_cN (ee_cb (ee_L rfl))).trans (by rw [show ya_own A f n = false by simpa using ho]; rfl)) (es_C (ee_aR (ee_R rfl) (ee_aI (ee_L rfl) (ee_aI (ee_L rfl) ee_aN))) (ee_cv (yt_X5_needRoot W g3.1.1 (by have := g3.1.2; omega) _ _) rfl) (es_In1 rfl rfl))
  · rw [Nat.zero_add]
    rfl
def yc_mk (t : Nat) (A : sy_Mem) (n : Nat) : Prop := yn_I (t + n) (ya_mk A n) ∧ (ya_mk A n 10 9).toInt = (A 10 9).toInt + n ∧ yo_hi A (ya_mk A n) ∧ yo_old A (ya_mk A n) ∧
  ∀ r, yl (ya_mk A n) r → yl A r ∨ ∃ i : Nat, i < n ∧ yT (ya_mk A n) r = A 28 i ∧ yP (ya_mk A n) r = -1 ∧ ya_N (ya_mk A n) r 0 = A 29 i
theorem qc_mkH (Q : yqc A m) (hsum : (A 10 9).toInt + (A 27 0).toInt ≤ 60) {n : Nat} (hn : (n : Int) < (A 27 0).toInt) (h : yc_mk t A n) : yx_H (t + n) (ya_mk A n) (A 28 n) (-1) (A 29 n) (-1) ∧ (ya_mk A n 10 9).toInt < 60 := by
  obtain ⟨g1, g3, g4, g6, g7⟩ := h
  obtain ⟨a1, a2, a3, a4⟩ := Q.2.1 n hn
  have h60 : (ya_mk A n 10 9).toInt < 60 := by omega
  have hr := yg_room g1 h60
  have hT : ya_isT (ya_mk A n) (A 28 n) = true := by rw [ya_isT_c (g4 1 (by decide))]; exact a1
  have hP : tP (ya_mk A n) (A 28 n) = -1 := by
    show ya_tg _ 3 (-1) _ = -1
    rw [ya_tg_c (g4 1 (by decide)) (g4 3 (by decide))]
    exact a2
  exact ⟨⟨g1, ⟨hT, Or.inl ⟨rfl, hP⟩, a3, Or.inl rfl⟩, hr.1, hr.2 _ (g1.1.2.1 _ hT).1⟩, h60⟩
theorem qc_mk (I : yn_I t A) (Q : yqc A m) (hsum : (A 10 9).toInt + (A 27 0).toInt ≤ 60) (ht : t + 60 < 10000) : ∀ n : Nat, (n : Int) ≤ (A 27 0).toInt → yc_mk t A n
  | 0, _ => ⟨I, by show (A 10 9).toInt = (A 10 9).toInt + 0; omega, fun _ _ => rfl, fun s hs => ⟨hs, rfl, rfl, rfl, fun _ => rfl⟩, fun r hr => Or.inl hr⟩
  | n + 1, h => by
    have hm := qc_mk I Q hsum ht n (by omega)
    obtain ⟨H, h60⟩ := qc_mkH Q hsum (by omega) hm
    obtain ⟨g1, g3, g4, g6, g7⟩ := hm
    have hq := Q.2.1 n (by omega)
    have a0 : 0 ≤ (A 10 9).toInt := by
      have w := I.2.2.1.1
      have := I.2.2.1.2.1
      have a0 := w 0 (by decide)
      have a1 := w 1 (by decide)
      have a2 := w 2 (by decide)
      omega
    refine ⟨yx_I H (by show t + n < 10000; omega) h60 (fun _ r hr hT _ hN => ?_), ?_, yo_hi_trans g4 yx_hio, yo_old_trans g6 (yx_old H), fun r hr => ?_⟩
    · rcases g7 r hr with h1 | ⟨i, h1, h2, h3, h4⟩
      · obtain ⟨b1, b2, b3, b4, b5⟩ := g6 r h1
        rw [b2] at hT
        rw [b5] at hN
        have := (yg_rootOf I (ya_isT_ne hq.1) hq.2.1 h1).mpr ⟨hT, hN⟩
        rw [hq.2.2.2] at this
        exact yl_ne h1 this.symm
      · exact Q.2.2 n i (by omega) h1 ⟨by rw [← h2, hT], by rw [← h4, hN]⟩
    · rw [show ya_mk A (n + 1) = ya_add (ya_mk A n) (A 28 n) (-1) (A 29 n) (-1) from rfl, yx_tot H]
      omega
    · show yl A r ∨ ∃ i : Nat, i < n + 1 ∧ yT (ya_add (ya_mk A n) (A 28 n) (-1) (A 29 n) (-1)) r = A 28 i ∧ yP (ya_add (ya_mk A n) (A 28 n) (-1) (A 29 n) (-1)) r = -1 ∧ ya_N (ya_add (ya_mk A n) (A 28 n) (-1) (A 29 n) (-1)) r 0 = A 29 i
      rcases (yx_l H r).mp hr with h1 | h1
      · rw [yx_To H h1, yx_Po H h1, yx_N H h1]
        rcases g7 r h1 with h2 | ⟨i, h2, h3⟩
        · exact Or.inl h2
        · exact Or.inr ⟨i, by omega, h3⟩
      · rw [h1, yx_TZ H, yx_PZ H, yx_NZ H]
        exact Or.inr ⟨n, by omega, rfl, rfl, rfl⟩
theorem ct_makeNeeded (I : yn_I t A) (Q : yqc A m) (hsum : (A 10 9).toInt + (A 27 0).toInt ≤ 60) (ht : t + 60 < 10000) : sf_X5_makeNeeded [.ref 0] A = some (.inl none, ya_mk A (A 27 0).toNatClampNeg) := by
  have h27 := I.2.2.2.2.2.2.2.2.2.1
  have hcl : ((A 27 0).toNatClampNeg : Int) = (A 27 0).toInt := by rw [yi_clampInt]; omega
  refine ee_meth ?_ rfl
  unfold sm_X5_makeNeeded
  refine es_Q (es_B (es_Q (es_SI ee_K0 ?_)))
  refine es_loop (E := fun i => [.ref 0, .int (nI i)]) (S := fun i => ya_mk A i) (A 27 0).toNatClampNeg 0 1000 (by omega) (fun i _ hi => ?_) ?_ (fun i _ hi k' => ?_) ?_
  · have g := qc_mk I Q hsum ht i (by omega)
    exact (es_cB (B := A 27 0) rfl ((ee_M (ee_aR (ee_rF (ee_R rfl) rfl) ee_aN) (ee_cv (yt_X1_size _) rfl)).trans (by rw [g.2.2.1 27 (by decide)])) (by omega)).trans (by rw [decide_eq_true (by omega)])
  · have g := qc_mk I Q hsum ht (0 + (A 27 0).toNatClampNeg) (by omega)
    exact (es_cB (B := A 27 0) rfl ((ee_M (ee_aR (ee_rF (ee_R rfl) rfl) ee_aN) (ee_cv (yt_X1_size _) rfl)).trans (by rw [g.2.2.1 27 (by decide)])) (by omega)).trans (by rw [decide_eq_false (by omega)])
  · have g := qc_mk I Q hsum ht i (by omega)
    obtain ⟨H, h60⟩ := qc_mkH Q hsum (by omega) g
    have W := yn_Wo g.1
    have hnd : ∀ k, 17 < k → ya_nd (ya_mk A i) k (nI i) = A k i := fun k hk => by
      unfold ya_nd
      rw [g.2.2.1 27 (by decide), g.2.2.1 k (by omega), nI_clamp (by omega), if_pos]
      rw [Bool.and_eq_true, yl_ge, yl_lt, yl_c0, nI_toInt (by omega)]
      omega
    refine es_Q (es_E (ee_M (ee_aR (ee_R rfl) (ee_aI ((ee_M (ee_aR (ee_rF (ee_R rfl) rfl) (ee_aI (ee_L rfl) ee_aN)) (ee_cv (yt_X1_typeOf W _) rfl)).trans (by rw [hnd 28 (by decide)])) (ee_aI ee_K (ee_aI ((ee_M (ee_aR (ee_rF (ee_R rfl) rfl) (ee_aI (ee_L rfl) ee_aN)) (ee_cv (yt_X1_keyOf W _) rfl)).trans (by rw [hnd 29 (by decide)])) (ee_aI ee_K ee_aN))))) (ee_cv (yt_X5_addSegment H.1 H.2.1 H.2.2.1 H.2.2.2) rfl)) (es_In1 rfl rfl))
  · rw [Nat.zero_add]
    rfl
theorem cx_fill (H : yx_H t A ty p key here) (ht : t < 10000) (h60 : (A 10 9).toInt < 60) (hu : tK A ty = 0 → ∀ r, yl A r → yT A r = ty → yP A r = p → ya_N A r 0 ≠ key) {n : Nat} (hn : n < 4) (hk : ya_slot A (nI n) 0 = key) :
    yn_I (t + 1) (ya_fil (ya_add A ty p key here) (ya_fr A) n 3) := by
  have I' := yx_I H ht h60 hu
  have es : ∀ a b : Int32, ya_slot (ya_add A ty p key here) a b = ya_slot A a b := fun a b => ya_slot_c (yx_hi (by decide)) a b
  have e14 : ya_fil (ya_add A ty p key here) (ya_fr A) n 3 14 = upd (upd (upd (ya_add A ty p key here 14) (3 * ya_fr A + 0) key) (3 * ya_fr A + 1) (ya_slot A (nI n) 1)) (3 * ya_fr A + 2) (ya_slot A (nI n) 2) := by
    rw [ya_fil_14, es, es, es, nI_0, hk]
    rfl
  have h0 : upd (ya_add A ty p key here 14) (3 * ya_fr A + 0) key = ya_add A ty p key here 14 := by
    funext i
    by_cases e : i = 3 * ya_fr A + 0
    · rw [e, upd_at, yx_14, show 3 * ya_fr A + 0 = 3 * ya_fr A from rfl, upd_at]
    · rw [upd_ne e]
  rw [h0] at e14
  have hne : ∀ k, k ≠ 14 → ya_fil (ya_add A ty p key here) (ya_fr A) n 3 k = ya_add A ty p key here k := fun k hk => ya_fil_ne hk 3
  have hr : ∀ f : Int32, 0 ≤ (ya_slot A (nI n) f).toInt ∧ (ya_slot A (nI n) f).toInt ≤ 999 := fun f => ya_slot_rng H.1 _ _
  refine yn_I_num I' hne (fun i hi => ?_) (fun s hs _ => ?_)
  · rw [e14]
    by_cases e2 : i = 3 * ya_fr A + 2
    · rw [e2, upd_at]; exact hr 2
    · rw [upd_ne e2]
      by_cases e1 : i = 3 * ya_fr A + 1
      · rw [e1, upd_at]; exact hr 1
      · rw [upd_ne e1]
        exact I'.2.1.2 i hi
  · have hin := yl_in hs
    rw [ya_N_in hin (by decide), ya_N_in hin (by decide), e14, show (0 : Int32).toNatClampNeg = 0 from rfl, upd_ne (by omega), upd_ne (by omega)]
def yc_in (t : Nat) (A : sy_Mem) (f : Nat) (p here : Int32) (n : Nat) : Prop := yn_I (t + n) (ya_inw A f p here n).1 ∧ ((ya_inw A f p here n).1 10 9).toInt = (A 10 9).toInt + n ∧ yo_hi A (ya_inw A f p here n).1 ∧
  (0 < n → yl (ya_inw A f p here n).1 (ya_inw A f p here n).2 ∧ yT (ya_inw A f p here n).1 (ya_inw A f p here n).2 = ya_ag A 20 (-1) (nI (f + n - 1)) ∧ ∀ r, yl (ya_inw A f p here n).1 r → yP (ya_inw A f p here n).1 r ≠ (ya_inw A f p here n).2)
theorem ci_H (I : yn_I t A) (hv : v < 4) (O : yi_ok A v f p) {n : Nat} (hn : ((f + n : Nat) : Int) < (A 19 0).toInt) (h : yc_in t A f p (ya_here A v) n) : yx_H (t + n) (ya_inw A f p (ya_here A v) n).1 (ya_ag A 20 (-1) (nI (f + n))) (ya_inw A f p (ya_here A v) n).2 (ya_slot A (nI n) 0) (ya_here A v) ∧ ((ya_inw A f p (ya_here A v) n).1 10 9).toInt < 60 ∧ ya_vh (ya_inw A f p (ya_here A v) n).1 (nI v) (ya_here A v) := by
  obtain ⟨o1, o2, o3, o4, o5, o6⟩ := O
  obtain ⟨g1, g3, g4, g6⟩ := h
  have h60 : ((ya_inw A f p (ya_here A v) n).1 10 9).toInt < 60 := by omega
  have hr := yg_room g1 h60
  have hT : ya_isT (ya_inw A f p (ya_here A v) n).1 (ya_ag A 20 (-1) (nI (f + n))) = true := by
    rw [ya_isT_c (g4 1 (by decide))]
    exact yg_arg I hn
  have eP : tP (ya_inw A f p (ya_here A v) n).1 (ya_ag A 20 (-1) (nI (f + n))) = tP A (ya_ag A 20 (-1) (nI (f + n))) := ya_tg_c (g4 1 (by decide)) (g4 3 (by decide)) _ _
  have hh := ya_here_hi g4 v
  have hl := ya_here_l g1 hv
  rw [hh] at hl
  refine ⟨⟨g1, ⟨hT, ?_, ya_slot_rng I _ _, hl⟩, hr.1, hr.2 _ (g1.1.2.1 _ hT).1⟩, h60, Or.inr ⟨v, hv, rfl, hh.symm⟩⟩
  rw [eP]
  rcases Nat.eq_zero_or_pos n with e | e
  · subst e
    exact o5
  · obtain ⟨k1, k2, k3⟩ := g6 e
    have hp := o4 (f + n) (by omega) hn
    refine Or.inr ⟨k1, by rw [k2, hp], ?_⟩
    rw [hp]
    exact ya_isT_ne (yg_arg I (by omega))
theorem ci_in (I : yn_I t A) (hv : v < 4) (O : yi_ok A v f p) (ht : t + 60 < 10000) : ∀ n : Nat, ((f + n : Nat) : Int) ≤ (A 19 0).toInt → yc_in t A f p (ya_here A v) n
  | 0, _ => ⟨I, by show (A 10 9).toInt = (A 10 9).toInt + 0; omega, fun _ _ => rfl, fun h => absurd h (by omega)⟩
  | n + 1, h => by
    have hm := ci_in I hv O ht n (by omega)
    obtain ⟨H, h60, hvh⟩ := ci_H I hv O (by omega) hm
    obtain ⟨g1, g3, g4, g6⟩ := hm
    have h4 := yg_n19 I
    have es : ∀ a b : Int32, ya_slot (ya_inw A f p (ya_here A v) n).1 a b = ya_slot A a b := fun a b => ya_slot_c (g4 31 (by decide)) a b
    have hu : tK (ya_inw A f p (ya_here A v) n).1 (ya_ag A 20 (-1) (nI (f + n))) = 0 → ∀ r, yl (ya_inw A f p (ya_here A v) n).1 r → yT (ya_inw A f p (ya_here A v) n).1 r = ya_ag A 20 (-1) (nI (f + n)) → yP (ya_inw A f p (ya_here A v) n).1 r = (ya_inw A f p (ya_here A v) n).2 → ya_N (ya_inw A f p (ya_here A v) n).1 r 0 ≠ ya_slot A (nI n) 0 := by
      rcases Nat.eq_zero_or_pos n with e | e
      · subst e
        exact O.2.2.2.2.2
      · intro _ r hr _ hP
        exact absurd hP ((g6 e).2.2 r hr)
    have F := cx_fill H (by omega) h60 hu (n := n) (by omega) (es _ _)
    have hne : ∀ k, k ≠ 14 → (ya_inw A f p (ya_here A v) (n + 1)).1 k = ya_add (ya_inw A f p (ya_here A v) n).1 (ya_ag A 20 (-1) (nI (f + n))) (ya_inw A f p (ya_here A v) n).2 (ya_slot A (nI n) 0) (ya_here A v) k := fun k hk => ya_fil_ne hk 3
    refine ⟨F, ?_, fun k hk => ?_, fun _ => ?_⟩
    · rw [hne 10 (by decide), yx_tot H]
      omega
    · rw [hne k (by omega), yx_hio k hk]
      exact g4 k hk
    · have eT : ∀ s, yT (ya_inw A f p (ya_here A v) (n + 1)).1 s = yT (ya_add (ya_inw A f p (ya_here A v) n).1 (ya_ag A 20 (-1) (nI (f + n))) (ya_inw A f p (ya_here A v) n).2 (ya_slot A (nI n) 0) (ya_here A v)) s := fun s => ya_sg_c (hne 11 (by decide)) s
      have eP : ∀ s, yP (ya_inw A f p (ya_here A v) (n + 1)).1 s = yP (ya_add (ya_inw A f p (ya_here A v) n).1 (ya_ag A 20 (-1) (nI (f + n))) (ya_inw A f p (ya_here A v) n).2 (ya_slot A (nI n) 0) (ya_here A v)) s := fun s => ya_sg_c (hne 12 (by decide)) s
      have eL : ∀ s, yl (ya_inw A f p (ya_here A v) (n + 1)).1 s = yl (ya_add (ya_inw A f p (ya_here A v) n).1 (ya_ag A 20 (-1) (nI (f + n))) (ya_inw A f p (ya_here A v) n).2 (ya_slot A (nI n) 0) (ya_here A v)) s := fun s => yl_c (hne 11 (by decide)) s
      have e2 : (ya_inw A f p (ya_here A v) (n + 1)).2 = nI (ya_fr (ya_inw A f p (ya_here A v) n).1) := rfl
      rw [e2]
      refine ⟨?_, ?_, fun r hr => ?_⟩
      · rw [eL]
        exact (yx_l H _).mpr (Or.inr rfl)
      · rw [eT, yx_TZ H, show f + (n + 1) - 1 = f + n by omega]
      · rw [eL] at hr
        rw [eP]
        intro hc
        have hz1000 : ya_fr (ya_inw A f p (ya_here A v) n).1 < 1000 := by have := H.2.2.1; omega
        rcases (yx_l H r).mp hr with h1 | h1
        · rw [yx_Po H h1] at hc
          rcases (H.1.2.1.1 r h1).2 with ⟨_, q⟩ | ⟨q, _, _⟩
          · exact nI_nem hz1000 (by rw [← hc, q])
          · rw [hc] at q
            exact yx_dead H q
        · rw [h1, yx_PZ H] at hc
          rcases H.2.1.2.1 with ⟨q, _⟩ | ⟨q, _, _⟩
          · exact nI_nem hz1000 (by rw [← hc, q])
          · rw [hc] at q
            exact yx_dead H q
theorem ct_insertNew (I : yn_I t A) (hv : v < 4) (O : yi_ok A v f p) (ht : t + 60 < 10000) {B : sy_Mem} {b : Int32} (e : ya_inw A f p (ya_here A v) ((A 19 0).toNatClampNeg - f) = (B, b)) :
    sf_X5_insertNew [.ref 0, .ref (sy_vw v), .int (nI f), .int p] A = some (.inl none, sy_up (ya_stand B v b 1 0) (sy_vw v) 5 b) := by
  have h4 := yg_n19 I
  have o1 := O.1
  refine ee_meth ?_ rfl
  unfold sm_X5_insertNew
  refine es_Q (es_Q (es_SI (ee_L rfl) (es_Q (es_B (es_Q (es_SI (ee_L rfl) ?_))))))
  refine es_loop (E := fun n => [.ref 0, .ref (sy_vw v), .int (nI f), .int p, .int (ya_inw A f p (ya_here A v) n).2, .int (nI (f + n))]) (S := fun n => (ya_inw A f p (ya_here A v) n).1) ((A 19 0).toNatClampNeg - f) 0 1000 (by omega) (fun n _ h2 => ?_) ?_ (fun n _ h2 k' => ?_) ?_
  · have g := ci_in I hv O ht n (by omega)
    exact (es_cB (B := A 19 0) rfl ((ee_M (ee_aR (ee_rF (ee_R rfl) rfl) ee_aN) (ee_cv (yt_X0_size _) rfl)).trans (by rw [g.2.2.1 19 (by decide)])) (by omega)).trans (by rw [decide_eq_true (by omega)])
  · have g := ci_in I hv O ht (0 + ((A 19 0).toNatClampNeg - f)) (by omega)
    exact (es_cB (B := A 19 0) rfl ((ee_M (ee_aR (ee_rF (ee_R rfl) rfl) ee_aN) (ee_cv (yt_X0_size _) rfl)).trans (by rw [g.2.2.1 19 (by decide)])) (by omega)).trans (by rw [decide_eq_false (by omega)])
  · have g := ci_in I hv O ht n (by omega)
    obtain ⟨H, h60, _⟩ := ci_H I hv O (by omega) g
    obtain ⟨g1, g3, g4, g6⟩ := g
    have W := yn_Wo g1
    have eu : ∀ j : Nat, ya_ag (ya_inw A f p (ya_here A v) n).1 20 (-1) (nI j) = ya_ag A 20 (-1) (nI j) := fun j => ya_ag_c (g4 19 (by decide)) (g4 20 (by decide)) _ _
    have es : ∀ a b : Int32, ya_slot (ya_inw A f p (ya_here A v) n).1 a b = ya_slot A a b := fun a b => ya_slot_c (g4 31 (by decide)) a b
    have hsub : nI (f + n) - nI f = nI n := by rw [nI_subn (by omega) (by omega), Nat.add_sub_cancel_left]
    refine es_Q (es_B (es_Q (es_SI (ee_M (ee_aR (ee_R rfl) (ee_aI (x := ya_ag A 20 (-1) (nI (f + n))) ((ee_M (ee_aR (ee_rF (ee_R rfl) rfl) (ee_aI (ee_L rfl) ee_aN)) (ee_cv (yt_X0_typeOf _ _) rfl)).trans (by rw [eu])) (ee_aI (ee_L rfl) (ee_aI (x := ya_slot A (nI n) 0) ((ee_M (ee_aR (ee_R rfl) (ee_aI (ee_B (ee_L rfl) (ee_L rfl)) (ee_aI ee_K ee_aN))) (ee_cv (yt_X5_slotNumber _ _ _) rfl)).trans (by rw [es, hsub])) (ee_aI (x := ya_here A v) ((ee_M (ee_aR (ee_R rfl) ee_aN) (ee_cv (yt_X4_segmentAt _ hv) (yv_rc hv rfl))).trans (by rw [ya_here_hi g4])) ee_aN))))) (ee_cv (yt_X5_addSegment H.1 H.2.1 H.2.2.1 H.2.2.2) rfl)) (es_Q ?_))))
    refine es_C (ee_aR (ee_R rfl) (ee_aI (ee_L rfl) (ee_aI ((ee_B (ee_L rfl) (ee_L rfl)).trans (by rw [hsub])) ee_aN))) (ee_cv (yt_X5_fillSegment _ H.2.2.1) rfl) (es_SI (ee_L rfl) (es_In1 rfl rfl))
  · rw [Nat.zero_add, e]
    show sy_sQ _ _ _ _ B = _
    refine es_Q (es_C (ee_aR (ee_R rfl) (ee_aI (ee_L rfl) ee_aN)) (ee_cv (yt_X4_standAt _ hv _) (yv_rc hv rfl)) (es_C (ee_aR (ee_R rfl) (ee_aI (ee_L rfl) ee_aN)) (ee_cv (yt_X4_setParent _ hv _) (yv_rc hv rfl)) es_eV))
theorem ci_fin {K : sy_Mem} (I : yn_I t K) (hv : v < 4) (O : yi_ok K v f p) (ht : t + 60 < 10000) {B : sy_Mem} {b : Int32} (e : ya_inw K f p (ya_here K v) ((K 19 0).toNatClampNeg - f) = (B, b)) :
    yn_I (t + 4) (sy_up (ya_stand B v b 1 0) (sy_vw v) 5 b) ∧
      (∀ k, 44 ≤ k → (sy_up (ya_stand B v b 1 0) (sy_vw v) 5 b) k = K k) := by
  have hb := yv_lt hv
  have h4 := yg_n19 I
  have o1 := O.1
  have g := ci_in I hv O ht ((K 19 0).toNatClampNeg - f) (by omega)
  unfold yc_in at g
  rw [e] at g
  obtain ⟨g1, g3, g4, g6⟩ := g
  obtain ⟨q1, q2, _⟩ := g6 (by omega)
  have g4 : yo_hi K B := g4
  have q1 : yl B b := q1
  have g1' : yn_I (t + 4) B := yn_I_to g1 (by omega)
  have hD : sD B b = B (sy_vw v) 0 := by
    show ya_tg B 2 (-1) (yT B b) = _
    rw [show yT B b = ya_ag K 20 (-1) (nI (f + ((K 19 0).toNatClampNeg - f) - 1)) from q2, ya_tg_c (g4 1 (by omega)) (g4 2 (by omega)), g4 (sy_vw v) (by omega)]
    exact O.2.2.1 _ (by omega) (by omega)
  have hI := yn_stand g1' hv (m := b) (a := 1) (b := 0) (Or.inr ⟨q1, hD⟩) (Or.inr ⟨rfl, yl_ne q1⟩) (Or.inl rfl)
  have e0 : ya_stand B v b 1 0 (sy_vw v) 0 = B (sy_vw v) 0 := by
    rw [ya_stand_at, if_neg (by decide), if_neg (by decide), if_neg (by decide)]
  refine ⟨yn_setpar hI hv (Or.inr ⟨?_, ?_⟩), fun k hk => ?_⟩
  · rw [yl_c (ya_stand_ne (by omega))]
    exact q1
  · rw [e0, sD_c (ya_stand_ne (by omega)) (ya_stand_ne (by omega)) (ya_stand_ne (by omega))]
    exact hD
  · rw [yu_ne (by omega), ya_stand_ne (by omega), g4 k (by omega)]
end LA32
