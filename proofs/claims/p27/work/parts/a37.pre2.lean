section LA37
variable {A B σ τ : sy_Mem} {t v d n f m : Nat} {ty key p here : Int32}
theorem ins_pre_f (H : IH t v d A σ) (hg : ig A v = false) : ∃ x : Int32, ∀ k r, k (eI2 v d (yL A (ya_here A v)) x 0 ++ [.int 4, .int 0, .int (-1)]) σ = r → LIs (eIn v) k σ = r := by
  obtain ⟨x, -, hx⟩ := ins_pre1 H
  rw [hg] at hx
  refine ⟨x, fun k r hk => hx k r ?_⟩
  refine es_Q (es_SI (ee_iQ (x := 0) (y := 4) (ee_cb (c := false) (ee_L rfl)) (fun h => by cases h) (fun _ => ee_K)) (es_Q (es_SI (ee_iQ (x := 0) (y := 0) (ee_cb (c := false) (ee_L rfl)) (fun h => by cases h) (fun _ => ee_K)) (es_Q (es_SI ee_K (es_IF ((ee_cA (y := true) (ee_cb (c := false) (ee_L rfl)) (fun h => by cases h)).trans rfl) hk))))))
theorem up_m1 (A : sy_Mem) (ty : Int32) : ya_X3_upward A (-1) ty = -1 := by
  unfold ya_X3_upward ya_walk
  rfl
theorem ins_pre_t (H : IH t v d A σ) (hg : ig A v = true) (hff : ya_first A = f) (hty : A 20 f = ty) (hpp : ya_par0 A v f = p) : ∀ k r, k (eI2 v d (yL A (ya_here A v)) (nI f) 1 ++ [.int (if (decide (p = -1) && !decide (tP A ty = -1)) then 7 else 0), .int ty, .int (yL A p)]) σ = r → LIs (eIn v) k σ = r := by
  obtain ⟨x, hx0, hx⟩ := ins_pre1 H
  obtain ⟨⟨I, T, R, Q⟩, ⟨hv, hd⟩, V, hvd, hD, hH, hS⟩ := H
  rw [hg] at hx
  rw [hx0 hg, hff] at hx
  obtain ⟨n1, n2, n3, n4⟩ := lsN_is I
  unfold ig at hg
  rw [Bool.and_eq_true, Bool.and_eq_true, decide_eq_true_eq, hff] at hg
  obtain ⟨hn, hL, hN⟩ := hg
  have hf : f < lsN A := by
    have := ya_first_lt (A := A) (by rw [n3]; exact hn)
    rw [n3, hff] at this
    exact this
  have h0 := I.2.2.2.2.2.2.1
  obtain ⟨hr1, hr2⟩ := yg_par0 I hv (by omega) hN
  rw [hpp, ag_nI I hf, hty] at hr1 hr2
  have hT := (q_T I hf).1
  rw [hty] at hT
  have h60 := cn_le I hd
  intro k r hk
  refine hx k r ?_
  refine es_Q (es_SI (ee_iQ (x := 0) (y := 4) (ee_cb (c := true) (ee_L rfl)) (fun _ => ee_K) (fun h => by cases h)) (es_Q (es_SI (ee_iQ (x := ty) (y := 0) (ee_cb (c := true) (ee_L rfl)) (fun _ => ee_eq (ev_q I Q hf (ee_R rfl) (ee_L rfl)).1 hty) (fun h => by cases h)) (es_Q (es_SI ee_K ?_)))))
  have hu : ∀ env : List Value, env[1]? = some (.ref 44) → env[17]? = some (.int ty) → sy_iM (sy_cr 2 sf_L_above) (sy_aR (sy_rL 1) (sy_aI (sy_iL 17) sy_aN)) env σ = some (.inl (tP A ty), σ) := fun env h1 h2 => ev_u I T hT (ee_R h1) (ee_L h2)
  rcases yk_GT I.1 ty hT with e | e
  · have ep := hr1 e
    refine es_IF ((ee_cA (ee_cb (c := true) (ee_L rfl)) (fun _ => ee_cB (hu _ rfl rfl) ee_K)).trans (by rw [e]; rfl)) ?_
    rw [ep, e] at hk
    exact hk
  · have hne : tP A ty ≠ -1 := ya_isT_ne e
    refine es_It ((ee_cA (ee_cb (c := true) (ee_L rfl)) (fun _ => ee_cB (hu _ rfl rfl) ee_K)).trans (by rw [isT_ge0 I e]; rfl)) ?_
    rw [decide_eq_false hne] at hk
    have hst : decide (yL A p < 0) = decide (p = -1) := by
      by_cases e2 : p = -1
      · rw [e2]
        rfl
      · have := (yg_pl I (hr2 e2).1).1
        rw [decide_eq_false e2]
        refine decide_eq_false ?_
        rw [Int32.lt_iff_toInt_lt]
        show ¬ _ < (0 : Int)
        omega
    have hcn : ∀ env : List Value, env[5]? = some (.ref 48) → env[11]? = some (.int (nI d)) → sy_iA 0 (sy_rL 5) (sy_iL 11) env σ = some (.inl (nI (cn A d)), σ) := fun env h1 h2 => by
      rw [← (R d hd).1]
      exact ee_An (ee_R h1) (ee_L h2) (show d < 3 from hd) (by decide)
    have fin : (sy_sSI 16 (sy_iQ (sy_clt (sy_iL 18) (sy_iK 0)) (sy_iK 7) (sy_iK 0))) (eI2 v d (yL A (ya_here A v)) (nI f) 1 ++ [.int 0, .int ty, .int (yL A p)]) k σ = r := by
      refine es_SI (ee_iQ (ee_cB (ee_L rfl) ee_K) (fun _ => ee_K) (fun _ => ee_K)) ?_
      rw [hst]
      rw [show (decide (p = -1) && !false) = decide (p = -1) from by rw [Bool.not_false, Bool.and_true]] at hk
      exact hk
    rcases Nat.eq_zero_or_pos f with f0 | f0
    · -- by where the view stands
      have hp0 : ya_X3_upward A (ya_here A v) (tP A ty) = p := by
        rw [← hpp]
        unfold ya_par0
        rw [if_neg (by omega), ag_nI I hf, hty]
      refine es_Q (es_SI (x := yL A p) (σ1 := σ) ?_ ?_)
      · rcases here_is I hv hd hD with hh | ⟨q, q1, q2, q3⟩
        · rw [hh] at hp0 ⊢
          rw [up_m1] at hp0
          refine ee_eq (ee_iQ (x := -1) (y := -1) (ee_cA (ee_cB (ee_L rfl) ee_K) (fun _ => ee_cB (ee_L rfl) ee_K)) (fun h => ?_) (fun _ => ee_K)) ?_
          · rw [Bool.and_eq_true, yL_m1] at h
            exact absurd h.2 (by decide)
          · rw [← hp0]
            show (if _ then (-1 : Int32) else -1) = -1
            split <;> rfl
        · refine ee_eq (ee_iQ (x := yL A p) (y := -1) (ee_cA (ee_cB (ee_L rfl) ee_K) (fun _ => ee_cB (ee_L rfl) ee_K)) (fun _ => ?_) (fun h => ?_)) ?_
          · rw [← hp0, q2]
            exact ev_a I T R hd q1 (ee_R rfl) (ee_R rfl) (ee_eq (ee_L rfl) (by rw [← q2]; exact q3)) (hu _ rfl rfl)
          · rw [q3, f0, ge0 (by omega)] at h
            exact absurd h (by decide)
          · rw [q3, f0, ge0 (by omega)]
            rfl
      · refine es_Q (es_B (es_Q (es_SI ee_K ?_)))
        refine Eq.trans (ks_wh (E := fun _ => eI2 v d (yL A (ya_here A v)) (nI f) 1 ++ [.int 0, .int ty, .int (yL A p), .int 0]) (S := fun _ => σ) (N := 0) (fun j hj => absurd hj (by omega)) ?_ 0 0 1000 (by omega) (by omega)) fin
        refine ee_eq (ee_cA (y := false) (ee_cA (ee_cB (ee_L rfl) (hcn _ rfl rfl)) (fun _ => ee_cB (ee_L rfl) ee_K)) (fun h => ?_)) (Bool.and_false _)
        rw [f0, Bool.and_eq_true] at h
        exact absurd h.2 (by decide)
    · -- by a search
      refine es_Q (es_SI (x := -1) (σ1 := σ) ?_ ?_)
      · refine ee_eq (ee_iQ (x := -1) (y := -1) (ee_cA (ee_cB (ee_L rfl) ee_K) (fun _ => ee_cB (ee_L rfl) ee_K)) (fun h => ?_) (fun _ => ee_K)) ?_
        · rw [Bool.and_eq_true] at h
          have := of_decide_eq_true h.1
          have := congrArg Int32.toInt this
          rw [nI_toInt (by omega)] at this
          have h : ((0 : Int32).toInt) = 0 := rfl
          omega
        · show (if _ then (-1 : Int32) else -1) = -1
          split <;> rfl
      · refine es_Q (es_B (es_Q (es_SI ee_K ?_)))
        have hfp : decide ((0 : Int32) < nI f) = true := by rw [nI_gt0 (by omega)]; exact decide_eq_true f0
        refine Eq.trans (ks_find (σ := σ) (E := fun i x => eI2 v d (yL A (ya_here A v)) (nI f) 1 ++ [.int 0, .int ty, .int x, .int (nI i)]) (P := fun i => ya_X5_isRight A v (sg A d i) f) (n := cn A d) (r := fun x => (sy_sSI 16 (sy_iQ (sy_clt (sy_iL 18) (sy_iK 0)) (sy_iK 7) (sy_iK 0))) (eI2 v d (yL A (ya_here A v)) (nI f) 1 ++ [.int 0, .int ty, .int x]) k σ) (fun i hi => ?_) (fun i j hi hj => ?_) (fun i k' hi => ?_) (fun i x => rfl) h60 1000 0 (by omega) (by omega)) ?_
        · refine ee_eq (ee_cA (ee_cA (ee_eq (ee_cB (ee_L rfl) (hcn _ rfl rfl)) (nI_ltd (by omega) (by omega))) (fun _ => ee_eq (ee_cB (ee_L rfl) ee_K) hfp)) (fun _ => ee_eq (ee_cB (ee_L rfl) ee_K) (show decide ((-1 : Int32) < 0) = true from rfl))) ?_
          rw [Bool.and_true, Bool.and_true]
        · refine ee_eq (ee_cA (y := false) (ee_cA (ee_eq (ee_cB (ee_L rfl) (hcn _ rfl rfl)) (nI_ltd (by omega) (by omega))) (fun _ => ee_eq (ee_cB (ee_L rfl) ee_K) hfp)) (fun _ => ee_eq (ee_cB (ee_L rfl) ee_K) ?_)) (Bool.and_false _)
          refine decide_eq_false ?_
          rw [Int32.lt_iff_toInt_lt, nI_toInt (by omega)]
          show ¬ (j : Int) < 0
          omega
        · refine es_Q (es_SI (ee_iQ (ee_cb (ee_M (ee_aR (ee_R rfl) (ee_aR (ee_R rfl) (ee_aI (hcn _ rfl rfl) (ee_aR (ee_R rfl) (ee_aR (ee_R rfl) (ee_aI (ee_L rfl) (ee_aI (x := nI (vn A v)) ?_ (ee_aI (ee_L rfl) (ee_aI (ee_L rfl) ee_aN))))))))) (ee_cr (t_right I T R Q hv hd hD hi (by omega) hL) rfl))) (fun _ => ee_L rfl) (fun _ => ee_L rfl)) (es_In rfl ?_))
          · rw [← V]
            exact ee_An (j := v) (ee_R rfl) (ee_L rfl) (show v < 4 from hv) (by decide)
          · exact congrArg (fun z => k' (eI2 v d (yL A (ya_here A v)) (nI f) 1 ++ [.int 0, .int ty, .int (if ya_X5_isRight A v (sg A d i) f then nI i else -1), .int z]) σ) (nadd (a := i) (b := 1))
        · have hc : (ya_cnt A (nI d)).toNatClampNeg = cn A d := by
            rw [(cnt_nI I hd).1, nI_clamp (by omega)]
          have hp0 : (ya_ff (fun i => ya_X5_isRight A v (sg A d i) f) (cn A d) 0).elim (-1) (fun i => sg A d i) = p := by
            rw [← hpp]
            unfold ya_par0
            rw [if_pos f0]
            unfold ya_X5_firstRight
            rw [hD, hc]
            rfl
          have hx : (ya_ff (fun i => ya_X5_isRight A v (sg A d i) f) (cn A d - 0) 0).elim (-1) (fun i => nI i) = yL A p := by
            rw [← hp0, Nat.sub_zero]
            cases hfd : ya_ff (fun i => ya_X5_isRight A v (sg A d i) f) (cn A d) 0 with
            | none => rfl
            | some i =>
              have := (ya_ff_some.mp hfd).2.1
              exact (sg_ok I hd (show i < cn A d by omega)).2.2.symm
          rw [hx]
          exact fin
end LA37
