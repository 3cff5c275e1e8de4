/-! the turns of type and tie -/
section YW7
variable {σ τ A : sy_Mem} {t : Nat}
def ya_define (σ : sy_Mem) (n : Nat) (d p k r : Int32) : sy_Mem := sy_up (sy_up (sy_up (sy_up (sy_up (sy_up (sy_up σ 4 n (ya_X2_levelBelow σ p)) 2 n d) 3 n p) 5 n k) 6 n r) 7 n (-1)) 1 0 (nI (n + 1))
theorem yt_X2_define (W : ya_W σ) (d p k r : Int32) {n : Nat} (hn : σ 1 0 = nI n) (h12 : n < 12) : sf_X2_define [.ref 1, .int d, .int p, .int k, .int r] σ = some (.inl (some (.int (nI n))), ya_define σ n d p k r) := by
  refine ee_meth ?_ rfl
  unfold sm_X2_define ya_define
  have hi := yi_inbN (n := 12) h12 (show n < 2 ^ 31 by omega)
  have hc := nI_clamp (show n < 2 ^ 31 by omega)
  refine es_Q (es_SI (x := nI n) (by rw [ee_F (ee_R rfl) rfl, hn]) ?_)
  refine es_Q (es_If ((ee_cB (ee_L rfl) ee_K).trans (by rw [show decide ((12 : Int32) ≤ nI n) = false by
    rw [decide_eq_false_iff_not, Int32.le_iff_toInt_le, nI_toInt (by omega), yl_c12]; omega])) (es_N ?_))
  refine es_Q (es_W (ee_rF (ee_R rfl) rfl) (ee_L rfl) (ee_M (ee_aR (ee_R rfl) (ee_aI (ee_L rfl) ee_aN)) (ee_cv (yt_X2_levelBelow W p) rfl)) hi ?_)
  refine es_Q (es_W (ee_rF (ee_R rfl) rfl) (ee_L rfl) (ee_L rfl) hi ?_)
  refine es_Q (es_W (ee_rF (ee_R rfl) rfl) (ee_L rfl) (ee_L rfl) hi ?_)
  refine es_Q (es_W (ee_rF (ee_R rfl) rfl) (ee_L rfl) (ee_L rfl) hi ?_)
  refine es_Q (es_W (ee_rF (ee_R rfl) rfl) (ee_L rfl) (ee_L rfl) hi ?_)
  refine es_Q (es_W (ee_rF (ee_R rfl) rfl) (ee_L rfl) ee_K hi ?_)
  rw [hc]
  refine es_Q (es_F (ee_R rfl) ee_K rfl ?_)
  rw [show sy_up (sy_up (sy_up (sy_up (sy_up (sy_up σ 4 n (ya_X2_levelBelow σ p)) 2 n d) 3 n p) 5 n k) 6 n r) 7 n (-1) 1 0 = nI n by rw [yu_ne (by decide), yu_ne (by decide), yu_ne (by decide), yu_ne (by decide), yu_ne (by decide), yu_ne (by decide), hn], nI_1]
  exact es_eI (ee_L rfl)
theorem ya_define_ne {n : Nat} {d p k r : Int32} {j : Nat} (h : j ≠ 1 ∧ j ≠ 2 ∧ j ≠ 3 ∧ j ≠ 4 ∧ j ≠ 5 ∧ j ≠ 6 ∧ j ≠ 7) : ya_define σ n d p k r j = σ j := by
  unfold ya_define
  rw [yu_ne h.1, yu_ne (by omega), yu_ne (by omega), yu_ne (by omega), yu_ne (by omega), yu_ne (by omega), yu_ne (by omega)]
theorem ya_define_1 {n : Nat} {d p k r : Int32} : ya_define σ n d p k r 1 0 = nI (n + 1) := by unfold ya_define; rw [yu_at]
theorem ya_define_n {n : Nat} {d p k r : Int32} : ya_define σ n d p k r 2 n = d ∧ ya_define σ n d p k r 3 n = p ∧ ya_define σ n d p k r 4 n = ya_X2_levelBelow σ p ∧ ya_define σ n d p k r 5 n = k ∧ ya_define σ n d p k r 6 n = r ∧ ya_define σ n d p k r 7 n = -1 := by
  unfold ya_define
  refine ⟨?_, ?_, ?_, ?_, ?_, ?_⟩
  · rw [yu_ne (k := 1) (by decide), yu_ne (k := 7) (by decide), yu_ne (k := 6) (by decide), yu_ne (k := 5) (by decide), yu_ne (k := 3) (by decide), yu_at]
  · rw [yu_ne (k := 1) (by decide), yu_ne (k := 7) (by decide), yu_ne (k := 6) (by decide), yu_ne (k := 5) (by decide), yu_at]
  · rw [yu_ne (k := 1) (by decide), yu_ne (k := 7) (by decide), yu_ne (k := 6) (by decide), yu_ne (k := 5) (by decide), yu_ne (k := 3) (by decide), yu_ne (k := 2) (by decide), yu_at]
  · rw [yu_ne (k := 1) (by decide), yu_ne (k := 7) (by decide), yu_ne (k := 6) (by decide), yu_at]
  · rw [yu_ne (k := 1) (by decide), yu_ne (k := 7) (by decide), yu_at]
  · rw [yu_ne (k := 1) (by decide), yu_at]
theorem ya_define_an {n : Nat} {d p k r : Int32} {j i : Nat} (hj : j ≠ 1) (hi : i ≠ n) : ya_define σ n d p k r j i = σ j i := by
  have h1 : ∀ (ρ : sy_Mem) (k : Nat) (x : Int32), sy_up ρ k n x j i = ρ j i := fun ρ k x => by
    by_cases e : j = k
    · rw [e, yu_an hi]
    · rw [yu_ne e]
  unfold ya_define
  rw [yu_ne hj, h1, h1, h1, h1, h1, h1]
theorem yg_new {n : Nat} (hn : σ 1 0 = nI n) (h12 : n < 12) {d p k r : Int32} (u : Int32) : ya_isT (ya_define σ n d p k r) u = true ↔ (ya_isT σ u = true ∨ u = nI n) := by
  rw [yl_isT, yl_isT, ya_define_1, hn, nI_toInt (by omega), nI_toInt (by omega)]
  constructor
  · rintro ⟨h1, h2⟩
    by_cases e : u.toInt < n
    · exact Or.inl ⟨h1, e⟩
    · right
      apply yi_ext
      rw [nI_toInt (by omega)]
      omega
  · rintro (⟨h1, h2⟩ | e)
    · exact ⟨h1, by omega⟩
    · rw [e, nI_toInt (by omega)]
      omega
theorem yg_old {n : Nat} (hn : σ 1 0 = nI n) (h12 : n < 12) {d p k r : Int32} {u : Int32} (hu : ya_isT σ u = true) {j : Nat} (hj : j ≠ 1) (df : Int32) : ya_tg (ya_define σ n d p k r) j df u = ya_tg σ j df u := by
  rw [ya_tg_in hu, ya_tg_in ((yg_new hn h12 u).mpr (Or.inl hu)), ya_define_an hj]
  have := yl_isT.mp hu
  rw [hn, nI_toInt (by omega)] at this
  rw [yi_clampInt]
  omega
theorem yn_define (I : yn_I t σ) {n : Nat} (hn : σ 1 0 = nI n) (h12 : n < 12) {d p k r : Int32} (hd : 0 ≤ d.toInt ∧ d.toInt < 3) (hk : 0 ≤ k.toInt ∧ k.toInt ≤ 2) (hr : 0 ≤ r.toInt ∧ r.toInt ≤ 2)
    (hp : (p = -1 ∧ k = 0 ∧ ya_X2_hasRootType σ d = false) ∨ (ya_isT σ p = true ∧ tD σ p = d ∧ (tV σ p).toInt < 4)) : yn_I t (ya_define σ n d p k r) := by
  obtain ⟨iS, iG, iW, iO, iK, iV, iA⟩ := I
  have hsg : ∀ j, 11 ≤ j → ∀ s, ya_sg (ya_define σ n d p k r) j s = ya_sg σ j s := fun j hj s => ya_sg_c (ya_define_ne (by omega)) s
  have hyl : ∀ s, yl (ya_define σ n d p k r) s = yl σ s := fun s => yl_c (ya_define_ne (by omega)) s
  have hisT : ∀ s, yl σ s → ya_isT σ (yT σ s) = true := fun s hs => (iG.1 s hs).1
  have hyT : ∀ s, yT (ya_define σ n d p k r) s = yT σ s := fun s => hsg 11 (by decide) s
  have hyP : ∀ s, yP (ya_define σ n d p k r) s = yP σ s := fun s => hsg 12 (by decide) s
  have hyL : ∀ s, yL (ya_define σ n d p k r) s = yL σ s := fun s => hsg 17 (by decide) s
  have hsD : ∀ s, yl σ s → sD (ya_define σ n d p k r) s = sD σ s := fun s hs => by
    show ya_tg _ 2 (-1) (ya_sg _ 11 s) = ya_tg _ 2 (-1) (ya_sg _ 11 s)
    rw [hsg 11 (by decide)]
    exact yg_old hn h12 (hisT s hs) (by decide) _
  have hcnt : ∀ x, ya_cnt (ya_define σ n d p k r) x = ya_cnt σ x := fun x => by unfold ya_cnt; rw [ya_define_ne (by omega)]
  have hat : ∀ x y, ya_at (ya_define σ n d p k r) x y = ya_at σ x y := fun x y => by unfold ya_at; rw [ya_define_ne (by omega), ya_define_ne (by omega)]
  have hN : ∀ s f, ya_N (ya_define σ n d p k r) s f = ya_N σ s f := fun s f => ya_N_c (ya_define_ne (by omega)) s f
  have hU : ∀ s x, yU (ya_define σ n d p k r) s x = yU σ s x := fun s x => by
    unfold yU ya_X3_isBelow ya_sg
    rw [ya_define_ne (by omega)]
  have hnT : ya_isT (ya_define σ n d p k r) (nI n) = true := (yg_new hn h12 _).mpr (Or.inr rfl)
  obtain ⟨d2, d3, d4, d5, d6, d7⟩ := ya_define_n (σ := σ) (n := n) (d := d) (p := p) (k := k) (r := r)
  have hcl : (nI n).toNatClampNeg = n := nI_clamp (by omega)
  have nD : tD (ya_define σ n d p k r) (nI n) = d := by show ya_tg _ 2 (-1) _ = _; rw [ya_tg_in hnT, hcl, d2]
  have nP : tP (ya_define σ n d p k r) (nI n) = p := by show ya_tg _ 3 (-1) _ = _; rw [ya_tg_in hnT, hcl, d3]
  have nV : tV (ya_define σ n d p k r) (nI n) = ya_X2_levelBelow σ p := by show ya_tg _ 4 0 _ = _; rw [ya_tg_in hnT, hcl, d4]
  have nK : tK (ya_define σ n d p k r) (nI n) = k := by show ya_tg _ 5 (-1) _ = _; rw [ya_tg_in hnT, hcl, d5]
  have nR : tR (ya_define σ n d p k r) (nI n) = r := by show ya_tg _ 6 (-1) _ = _; rw [ya_tg_in hnT, hcl, d6]
  have nG : tG (ya_define σ n d p k r) (nI n) = -1 := by show ya_tg _ 7 (-1) _ = _; rw [ya_tg_in hnT, hcl, d7]
  have hnr : p = -1 → ∀ u, ya_isT σ u = true → tP σ u = -1 → tD σ u = d → False := fun e u hu h1 h2 => by
    rcases hp with ⟨_, _, hh⟩ | ⟨hh, _⟩
    · unfold ya_X2_hasRootType at hh
      rw [yg_ite] at hh
      have hx : ∃ i, 0 ≤ i ∧ i < 0 + (σ 1 0).toNatClampNeg ∧ (ya_X2_isRootType σ (nI i) && decide (ya_tg σ 2 (-1) (nI i) = d)) = true := by
        have h3 := yl_isT.mp hu
        refine ⟨u.toNatClampNeg, by omega, by rw [yi_clampInt, yi_clampInt]; omega, ?_⟩
        rw [← yi_nat (yi_pos.mpr h3.1), yg_rootT hu, decide_eq_true h1, decide_eq_true h2]
        rfl
      have := ya_ff_isSome.mpr hx
      rw [hh] at this
      cases this
    · rw [e, ya_isT_m] at hh
      cases hh
  refine ⟨⟨?_, ?_, ?_⟩, ⟨?_, ?_⟩, ⟨?_, ?_, ?_, ?_⟩, ⟨?_, ?_, ?_, ?_, ?_, ?_⟩, ?_, ?_, ?_⟩
  · rw [ya_define_1, nI_toInt (by omega)]; omega
  · intro u hu
    rcases (yg_new hn h12 u).mp hu with hu0 | e
    · have q := iS.2.1 u hu0
      unfold yn_ty at q ⊢
      have o := fun {j : Nat} (hj : j ≠ 1) (df : Int32) => yg_old (d := d) (p := p) (k := k) (r := r) hn h12 hu0 hj df
      rw [show tD (ya_define σ n d p k r) u = tD σ u from o (by decide) _, show tP (ya_define σ n d p k r) u = tP σ u from o (by decide) _, show tV (ya_define σ n d p k r) u = tV σ u from o (by decide) _, show tK (ya_define σ n d p k r) u = tK σ u from o (by decide) _, show tR (ya_define σ n d p k r) u = tR σ u from o (by decide) _, show tG (ya_define σ n d p k r) u = tG σ u from o (by decide) _]
      obtain ⟨q1, q2, q3, q4, q5, q6, q7, q8⟩ := q
      refine ⟨q1, q2, q3, q4, q5, q6, ?_, ?_⟩
      · rcases q7 with q7 | ⟨g1, g2, g3, g4⟩
        · exact Or.inl q7
        · right
          have o2 := fun {j : Nat} (hj : j ≠ 1) (df : Int32) => yg_old (d := d) (p := p) (k := k) (r := r) hn h12 g1 hj df
          refine ⟨(yg_new hn h12 _).mpr (Or.inl g1), g2, ?_, ?_⟩
          · rw [show tD (ya_define σ n d p k r) (tP σ u) = tD σ (tP σ u) from o2 (by decide) _]; exact g3
          · rw [show tV (ya_define σ n d p k r) (tP σ u) = tV σ (tP σ u) from o2 (by decide) _]; exact g4
      · rcases q8 with q8 | ⟨g1, g2⟩
        · exact Or.inl q8
        · right
          refine ⟨(yg_new hn h12 _).mpr (Or.inl g1), ?_⟩
          rw [show tP (ya_define σ n d p k r) (tG σ u) = tP σ (tG σ u) from yg_old hn h12 g1 (by decide) _]
          exact g2
    · subst e
      unfold yn_ty
      rw [nD, nP, nV, nK, nR, nG]
      have hlv : (ya_X2_levelBelow σ p).toInt = (tV σ p).toInt + 1 ∧ (p = -1 → (tV σ p).toInt = 0) := by
        unfold ya_X2_levelBelow
        rcases hp with ⟨e, _⟩ | ⟨h1, h2, h3⟩
        · rw [e]
          exact ⟨by rw [show ya_tg σ 4 0 (-1) = 0 by unfold ya_tg; rw [ya_isT_m]; rfl]; rfl, fun _ => by rw [show tV σ (-1) = 0 by show ya_tg σ 4 0 (-1) = 0; unfold ya_tg; rw [ya_isT_m]; rfl]; rfl⟩
        · have h4 := (iS.2.1 p h1).2.2.2.2.2.1
          refine ⟨?_, fun e => by rw [e, ya_isT_m] at h1; cases h1⟩
          rw [yl_add (by show -1000000000 ≤ (tV σ p).toInt; omega) (by show (tV σ p).toInt ≤ 1000000000; omega) (by decide) (by decide), yl_c1]
      refine ⟨hd, hk, hr, trivial, trivial, ?_, ?_, Or.inl rfl⟩
      · rcases hp with ⟨e, _⟩ | ⟨h1, h2, h3⟩
        · have := hlv.2 e; omega
        · have h4 := (iS.2.1 p h1).2.2.2.2.2.1; omega
      · rcases hp with ⟨e, hk0, _⟩ | ⟨h1, h2, h3⟩
        · left
          have := hlv.2 e
          exact ⟨e, by omega, hk0⟩
        · right
          have o2 := fun {j : Nat} (hj : j ≠ 1) (df : Int32) => yg_old (d := d) (p := p) (k := k) (r := r) hn h12 h1 hj df
          refine ⟨(yg_new hn h12 _).mpr (Or.inl h1), ?_, ?_, ?_⟩
          · have := yl_isT.mp h1
            rw [hn, nI_toInt (by omega)] at this
            rw [nI_toInt (by omega)]
            exact this.2
          · rw [show tD (ya_define σ n d p k r) p = tD σ p from o2 (by decide) _]; exact h2
          · rw [show tV (ya_define σ n d p k r) p = tV σ p from o2 (by decide) _]; exact hlv.1
  · intro u w hu hw h1 h2 h3
    rcases (yg_new hn h12 u).mp hu with hu0 | e <;> rcases (yg_new hn h12 w).mp hw with hw0 | e'
    · rw [show tP (ya_define σ n d p k r) u = tP σ u from yg_old hn h12 hu0 (by decide) _] at h1
      rw [show tP (ya_define σ n d p k r) w = tP σ w from yg_old hn h12 hw0 (by decide) _] at h2
      rw [show tD (ya_define σ n d p k r) u = tD σ u from yg_old hn h12 hu0 (by decide) _, show tD (ya_define σ n d p k r) w = tD σ w from yg_old hn h12 hw0 (by decide) _] at h3
      exact iS.2.2 u w hu0 hw0 h1 h2 h3
    · exfalso
      subst e'
      rw [nP] at h2
      rw [show tP (ya_define σ n d p k r) u = tP σ u from yg_old hn h12 hu0 (by decide) _] at h1
      rw [nD, show tD (ya_define σ n d p k r) u = tD σ u from yg_old hn h12 hu0 (by decide) _] at h3
      exact hnr h2 u hu0 h1 h3
    · exfalso
      subst e
      rw [nP] at h1
      rw [show tP (ya_define σ n d p k r) w = tP σ w from yg_old hn h12 hw0 (by decide) _] at h2
      rw [nD, show tD (ya_define σ n d p k r) w = tD σ w from yg_old hn h12 hw0 (by decide) _] at h3
      exact hnr h1 w hw0 h2 h3.symm
    · rw [e, e']
  · intro s hs
    rw [hyl] at hs
    rw [hyT, hyP, hyl, hyT]
    rw [show tP (ya_define σ n d p k r) (yT σ s) = tP σ (yT σ s) from yg_old hn h12 (hisT s hs) (by decide) _]
    exact ⟨(yg_new hn h12 _).mpr (Or.inl (hisT s hs)), (iG.1 s hs).2⟩
  · rw [ya_define_ne (by omega)]; exact iG.2
  · rw [ya_define_ne (by omega)]; exact iW.1
  · rw [ya_define_ne (by omega), ya_define_ne (by omega)]; exact iW.2.1
  · intro s hs
    rw [hyl] at hs
    rw [hyL, hsD s hs, hcnt, hat]
    exact iW.2.2.1 s hs
  · intro x y h1 h2 h3 h4
    rw [hcnt] at h4
    have q := iW.2.2.2 x y h1 h2 h3 h4
    rw [hat, hyl, hyL, hsD _ q.1]
    exact q
  · intro s hs h1
    rw [hyl] at hs
    rw [hyP] at h1
    rw [hyP, hyL, hyL]
    exact iO.1 s hs h1
  · intro s q x hs hq hx h1 h2 h3 h4 h5
    rw [hyl] at hs hq hx
    rw [hsD q hq, hsD s hs] at h1
    rw [hsD x hx, hsD s hs] at h2
    rw [hU] at h3 ⊢
    rw [hyL, hyL] at h4 h5
    exact iO.2.1 s q x hs hq hx h1 h2 h3 h4 h5
  · intro s q hs hq h1 h2 h3
    rw [hyl] at hs hq
    rw [hsD q hq, hsD s hs] at h1
    rw [hyP, hyP] at h2
    rw [hyT, hyT] at h3
    rw [hyL, hyL]
    exact iO.2.2.1 s q hs hq h1 h2 h3
  · intro s q hs hq h1 h2 h3 h4
    rw [hyl] at hs hq
    rw [hyT, hyT] at h1
    rw [hyP, hyP] at h2
    rw [hyT, show tK (ya_define σ n d p k r) (yT σ s) = tK σ (yT σ s) from yg_old hn h12 (hisT s hs) (by decide) _] at h3
    rw [hyL, hyL] at h4
    rw [hN, hN]
    exact iO.2.2.2.1 s q hs hq h1 h2 h3 h4
  · intro s q hs hq h1 h2 h3 h4
    rw [hyl] at hs hq
    rw [hyT, hyT] at h1
    rw [hyP, hyP] at h2
    rw [hyT, show tK (ya_define σ n d p k r) (yT σ s) = tK σ (yT σ s) from yg_old hn h12 (hisT s hs) (by decide) _] at h3
    rw [hN, hN] at h4
    exact iO.2.2.2.2.1 s q hs hq h1 h2 h3 h4
  · intro s q hs hq h1 h2
    rw [hyl] at hs hq
    rw [hyT, hyT] at h1
    rw [hyP, hyP] at h2
    rw [hyL, hyL, hsg 13 (by decide), hsg 13 (by decide)]
    exact iO.2.2.2.2.2 s q hs hq h1 h2
  · intro i hi
    rw [ya_define_ne (by omega)]
    exact iK i hi
  · intro v hv
    have hb := yv_lt hv
    obtain ⟨h0, h1, h2, h3, h4, h5, h6, h7⟩ := iV v hv
    have e0 : ya_define σ n d p k r (sy_vw v) = σ (sy_vw v) := ya_define_ne (by omega)
    have e1 : ya_define σ n d p k r (sy_vw v + 1) = σ (sy_vw v + 1) := ya_define_ne (by omega)
    have e2 : ya_define σ n d p k r (sy_vw v + 2) = σ (sy_vw v + 2) := ya_define_ne (by omega)
    unfold yn_v
    rw [e0, e1, e2]
    refine ⟨h0, h1, ?_, h3, h4, ?_, h6, fun i hi => by rw [hyl]; exact h7 i hi⟩
    · rcases h2 with h2 | ⟨g1, g2⟩
      · exact Or.inl h2
      · exact Or.inr ⟨by rw [hyl]; exact g1, by rw [hsD _ g1]; exact g2⟩
    · rcases h5 with h5 | ⟨g1, g2⟩
      · exact Or.inl h5
      · exact Or.inr ⟨by rw [hyl]; exact g1, by rw [hsD _ g1]; exact g2⟩
  · obtain ⟨a1, a2, a3, a4, a5⟩ := iA
    refine ⟨by rw [ya_define_ne (by omega)]; exact a1, fun i hi => ?_, by rw [ya_define_ne (by omega)]; exact a3, by rw [ya_define_ne (by omega)]; exact a4, by rw [ya_define_ne (by omega)]; exact a5⟩
    rw [ya_define_ne (by omega)] at hi
    obtain ⟨b1, b2, b3, b4⟩ := a2 i hi
    rw [ya_define_ne (j := 20) (by omega), ya_define_ne (j := 21) (by omega), ya_define_ne (j := 22) (by omega), ya_define_ne (j := 23) (by omega), ya_define_ne (j := 24) (by omega)]
    exact ⟨(yg_new hn h12 _).mpr (Or.inl b1), b2, b3, b4⟩
end YW7
