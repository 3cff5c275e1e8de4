/-! places, the order of a row, and what isAhead comes to -/
section YO
variable {σ τ A : sy_Mem} {t : Nat}
theorem yU_up (I : yn_I t A) {s p : Int32} (hs : yl A s) (hp : yP A s ≠ -1) (h : yU A (yP A s) p) : yU A s p := by
  obtain ⟨h1, _⟩ := yl_par I.1 I.2.1 hs hp
  right
  have e := yk_below (o := p) hp (yk_dp4 I.1 I.2.1 h1)
  unfold ya_X3_isBelow
  rw [yk_elimB, show ya_walk (fun x => ya_sg A 12 x) (fun x => decide (x = p)) 4 (ya_sg A 12 s) = ya_walk (yP A) (fun x => decide (x = p)) 4 (yP A s) from rfl, e, Bool.or_eq_true]
  rcases h with h | h
  · exact Or.inl (decide_eq_true h)
  · right
    unfold ya_X3_isBelow at h
    rw [yk_elimB] at h
    exact h
theorem yU_l (I : yn_I t A) {s p : Int32} (hs : yl A s) (h : yU A s p) : yl A p ∧ sD A p = sD A s ∧ ya_lv A p ≤ ya_lv A s ∧ (p = s ∨ (ya_lv A p < ya_lv A s ∧ yP A s ≠ -1 ∧ yU A (yP A s) p)) := by
  rcases h with e | h
  · rw [← e]
    exact ⟨hs, rfl, Nat.le_refl _, Or.inl rfl⟩
  · obtain ⟨h1, h2, h3, h4, h5⟩ := yg_below I hs h
    have a := yl_lev I hs
    have b := yl_lev I h1
    exact ⟨h1, h2, by omega, Or.inr ⟨by omega, h4, h5⟩⟩
theorem yU_anc (I : yn_I t A) {i : Nat} (hi : 1 ≤ i) : ∀ (d : Nat) {s : Int32}, yl A s → ya_lv A s = i + d → yU A s (ya_anc (yP A) d s)
  | 0, s, _, _ => Or.inl rfl
  | d + 1, s, h, hn => by
    have hp : yP A s ≠ -1 := fun e => by
      have := (yl_lev1 I h).mpr e
      omega
    obtain ⟨h1, h2⟩ := yl_levS I h hp
    exact yU_up I h hp (yU_anc I hi d h1 (by omega))
theorem yU_pl (I : yn_I t A) : ∀ (n : Nat) {s p : Int32}, yl A s → ya_lv A s ≤ n → yU A s p → (yL A p).toInt ≤ (yL A s).toInt ∧ (p ≠ s → (yL A p).toInt < (yL A s).toInt)
  | 0, s, p, hs, hn, _ => by have := yl_lev I hs; omega
  | n + 1, s, p, hs, hn, h => by
    rcases (yU_l I hs h).2.2.2 with e | ⟨h1, h2, h3⟩
    · rw [e]
      exact ⟨by omega, fun q => absurd rfl q⟩
    · have h4 := I.2.2.2.1.1 s hs h2
      obtain ⟨h5, h6⟩ := yl_levS I hs h2
      have := (yU_pl I n h5 (by omega) h3).1
      exact ⟨by omega, fun _ => by omega⟩
theorem yl_same (I : yn_I t A) {s r : Int32} (hs : yl A s) (hr : yl A r) (hd : sD A s = sD A r) (h : (yL A s).toInt = (yL A r).toInt) : s = r := by
  have h1 := (I.2.2.1.2.2.1 s hs).2.2
  have h2 := (I.2.2.1.2.2.1 r hr).2.2
  rw [← h1, ← h2, hd, yi_ext h]
/-- what lies below two of one level lies as they do -/
theorem yg_before (I : yn_I t A) {s o u v : Int32} (hs : yl A s) (ho : yl A o) (hsu : yU A s u) (hov : yU A o v) (hd : sD A s = sD A o) (hl : ya_lv A u = ya_lv A v) (hne : u ≠ v) (h : (yL A u).toInt < (yL A v).toInt) : (yL A s).toInt < (yL A o).toInt := by
  obtain ⟨u1, u2, u3, _⟩ := yU_l I hs hsu
  obtain ⟨v1, v2, v3, _⟩ := yU_l I ho hov
  have hv := (yU_pl I _ ho (Nat.le_refl _) hov).1
  rcases Int.lt_or_le (yL A s).toInt (yL A v).toInt with q | q
  · omega
  · have := I.2.2.2.1.2.1 s u v hs u1 v1 u2 (v2.trans hd.symm) hsu (by omega) q
    rcases (yU_l I v1 this).2.2.2 with e | e
    · exact absurd e hne
    · omega
/-- siblings lie as their types, or as their ranks -/
theorem yg_sib (I : yn_I t A) {u v : Int32} (hu : yl A u) (hv : yl A v) (hne : u ≠ v) (hp : yP A u = yP A v) (hd : sD A u = sD A v) :
    ((yL A u).toInt < (yL A v).toInt) ↔ (if yT A u = yT A v then (ya_sg A 13 u).toInt < (ya_sg A 13 v).toInt else (yT A u).toInt < (yT A v).toInt) := by
  by_cases e : yT A u = yT A v
  · rw [if_pos e]
    exact I.2.2.2.1.2.2.2.2.2 u v hu hv e hp
  · rw [if_neg e]
    have ne : (yT A u).toInt ≠ (yT A v).toInt := fun q => e (yi_ext q)
    constructor
    · intro h
      rcases Int.lt_or_le (yT A u).toInt (yT A v).toInt with q | q
      · exact q
      · have := I.2.2.2.1.2.2.1 v u hv hu hd.symm hp.symm (by omega)
        omega
    · intro h
      exact I.2.2.2.1.2.2.1 u v hu hv hd hp h
theorem ya_lv_sub (I : yn_I t A) {s o : Int32} (hs : yl A s) (ho : yl A o) : (tV A (yT A s) - tV A (yT A o)).toNatClampNeg = ya_lv A s - ya_lv A o := by
  have a := yl_lev I hs
  have b := yl_lev I ho
  rw [yi_clampInt, yl_sub (by omega) (by omega) (by omega) (by omega), a.1, b.1]
  omega
theorem yt_X3_climb (σ : sy_Mem) (s n : Int32) (hn : n.toNatClampNeg ≤ 900) : sf_X3_climb [.ref 10, .int s, .int n] σ = some (.inl (some (.int (ya_anc (yP σ) n.toNatClampNeg s))), σ) := by
  refine ee_meth ?_ rfl
  unfold sm_X3_climb
  refine es_Q (es_SI (ee_L rfl) (es_Q (es_B (es_Q (es_SI ee_K0 ?_)))))
  refine es_loop (E := fun i => [.ref 10, .int s, .int n, .int (ya_anc (yP σ) i s), .int (nI i)]) (S := fun _ => σ) n.toNatClampNeg 0 1000 (by omega) (fun i _ hi => (es_cB rfl (ee_L rfl) (by omega)).trans (by rw [decide_eq_true (by omega)])) ((es_cB rfl (ee_L rfl) (by omega)).trans (by rw [decide_eq_false (by omega)])) (fun i _ hi k' => ?_) ?_
  · refine es_Q (es_SI (ee_M (ee_aR (ee_R rfl) (ee_aI (ee_L rfl) ee_aN)) (ee_cv (yt_X3_parentOf σ _) rfl)) (es_In1 rfl ?_))
    show k' [.ref 10, .int s, .int n, .int (yP σ (ya_anc (yP σ) i s)), .int (nI (i + 1))] σ = k' [.ref 10, .int s, .int n, .int (ya_anc (yP σ) (i + 1) s), .int (nI (i + 1))] σ
    rw [ya_anc_s]
  · refine (es_eI (k := fun _ => sy_fail) (ee_L rfl)).trans ?_
    rw [Nat.zero_add]
section
variable {k : List Value → sy_MM (Option Value)}
/-- two of one level climb until they have one parent -/
theorem yo_climb (I : yn_I t σ) {s o a b : Int32} (hs : yl σ s) (ho : yl σ o) (hd : sD σ s = sD σ o) : ∀ (n m i : Nat) {u v : Int32}, i + n ≤ 4 → n < m → yU σ s u → yU σ o v → ya_lv σ u = n → ya_lv σ v = n → u ≠ v →
    ∃ u' v' z, yU σ s u' ∧ yU σ o v' ∧ ya_lv σ u' = ya_lv σ v' ∧ u' ≠ v' ∧ yP σ u' = yP σ v' ∧
    ∀ k : List Value → sy_MM (Option Value), sy_wh (sy_cA (sy_clt (sy_iL 7) (sy_iK 4)) (sy_cne (sy_iM (sy_cv 3 1 sf_X3_parentOf) (sy_aR (sy_rL 0) (sy_aI (sy_iL 5) sy_aN))) (sy_iM (sy_cv 3 1 sf_X3_parentOf) (sy_aR (sy_rL 0) (sy_aI (sy_iL 6) sy_aN))))) (sy_sQ (sy_sQ (sy_sSI 5 (sy_iM (sy_cv 3 1 sf_X3_parentOf) (sy_aR (sy_rL 0) (sy_aI (sy_iL 5) sy_aN)))) (sy_sSI 6 (sy_iM (sy_cv 3 1 sf_X3_parentOf) (sy_aR (sy_rL 0) (sy_aI (sy_iL 6) sy_aN))))) (sy_sIn 7 1)) m [.ref 10, .int s, .int o, .int a, .int b, .int u, .int v, .int (nI i)] k σ = k [.ref 10, .int s, .int o, .int a, .int b, .int u', .int v', .int z] σ
  | 0, m, i, u, v, _, _, hu, _, hl, _, _ => by
    have := yl_lev I (yU_l I hs hu).1
    omega
  | n + 1, 0, i, u, v, _, hm, _, _, _, _, _ => absurd hm (by omega)
  | n + 1, m + 1, i, u, v, hi, hm, hu, hv, hlu, hlv, hne => by
    have u1 := (yU_l I hs hu).1
    have v1 := (yU_l I ho hv).1
    have hc : (sy_cA (sy_clt (sy_iL 7) (sy_iK 4)) (sy_cne (sy_iM (sy_cv 3 1 sf_X3_parentOf) (sy_aR (sy_rL 0) (sy_aI (sy_iL 5) sy_aN))) (sy_iM (sy_cv 3 1 sf_X3_parentOf) (sy_aR (sy_rL 0) (sy_aI (sy_iL 6) sy_aN))))) [.ref 10, .int s, .int o, .int a, .int b, .int u, .int v, .int (nI i)] σ = some (.inl (!decide (yP σ u = yP σ v)), σ) := by
      refine (ee_cA (ee_cB (ee_L rfl) ee_K) (fun _ => ee_cB (ee_M (ee_aR (ee_R rfl) (ee_aI (ee_L rfl) ee_aN)) (ee_cv (yt_X3_parentOf σ _) rfl)) (ee_M (ee_aR (ee_R rfl) (ee_aI (ee_L rfl) ee_aN)) (ee_cv (yt_X3_parentOf σ _) rfl)))).trans ?_
      rw [show decide (nI i < 4) = decide (i < 4) from yi_lt (N := 4) rfl (by omega) (by omega), decide_eq_true (show i < 4 by omega), Bool.true_and]
    by_cases e : yP σ u = yP σ v
    · refine ⟨u, v, nI i, hu, hv, by omega, hne, e, fun k => ?_⟩
      unfold sy_wh
      rw [sy_bnd_at hc, decide_eq_true e]
      rfl
    · have hpu : yP σ u ≠ -1 := fun q => by
        have h1 := (yl_lev1 I u1).mpr q
        have h2 := (yl_lev1 I v1).mp (by omega)
        exact e (q.trans h2.symm)
      have hpv : yP σ v ≠ -1 := fun q => by
        have h1 := (yl_lev1 I v1).mpr q
        have h2 := (yl_lev1 I u1).mp (by omega)
        exact e (h2.trans q.symm)
      obtain ⟨u2, u3⟩ := yl_levS I u1 hpu
      obtain ⟨v2, v3⟩ := yl_levS I v1 hpv
      have htr : ∀ {x y : Int32}, yl σ x → yU σ x y → yP σ y ≠ -1 → yU σ x (yP σ y) := fun {x y} hx hxy hy => by
        have hY := (yU_l I hx hxy).1
        have := yl_lev I hY
        have hL := yU_l I hx hxy
        have hA : ∀ (n : Nat) {x : Int32}, yl σ x → ya_lv σ x ≤ n → yU σ x y → yU σ x (yP σ y) := by
          intro n
          induction n with
          | zero => intro x hx hn _; have := yl_lev I hx; omega
          | succ n ih =>
            intro x hx hn hxy
            rcases (yU_l I hx hxy).2.2.2 with e | ⟨h1, h2, h3⟩
            · rw [← e]
              exact yU_up I hY hy (Or.inl rfl)
            · obtain ⟨h4, h5⟩ := yl_levS I hx h2
              exact yU_up I hx h2 (ih h4 (by omega) h3)
        exact hA _ hx (Nat.le_refl _) hxy
      obtain ⟨u', v', z, r1, r2, r3, r4, r5, r6⟩ := yo_climb I hs ho hd n m (i + 1) (u := yP σ u) (v := yP σ v) (a := a) (b := b) (by omega) (by omega) (htr hs hu hpu) (htr ho hv hpv) (by omega) (by omega) e
      refine ⟨u', v', z, r1, r2, r3, r4, r5, fun k => ?_⟩
      unfold sy_wh
      rw [sy_bnd_at hc, decide_eq_false e, if_pos (show (!false) = true from rfl)]
      exact es_Q (es_Q (es_SI (ee_M (ee_aR (ee_R rfl) (ee_aI (ee_L rfl) ee_aN)) (ee_cv (yt_X3_parentOf σ _) rfl)) (es_SI (ee_M (ee_aR (ee_R rfl) (ee_aI (ee_L rfl) ee_aN)) (ee_cv (yt_X3_parentOf σ _) rfl)) (es_In1 (i := i) rfl (r6 k)))))
end
theorem yt_X3_isAhead (I : yn_I t σ) {s o : Int32} (hs : yl σ s) (ho : yl σ o) (hd : sD σ s = sD σ o) : sf_X3_isAhead [.ref 10, .int s, .int o] σ = some (.inl (some (.int (ya_b (decide ((yL σ s).toInt < (yL σ o).toInt))))), σ) := by
  have W := yn_Wo I
  have a := yl_lev I hs
  have b := yl_lev I ho
  refine ee_meth ?_ rfl
  unfold sm_X3_isAhead
  refine es_Q (es_SI (ee_M (ee_aR (ee_rF (ee_R rfl) rfl) (ee_aI (ee_M (ee_aR (ee_R rfl) (ee_aI (ee_L rfl) ee_aN)) (ee_cv (yt_X3_typeOf σ _) rfl)) ee_aN)) (ee_cv (yt_X2_levelOf W _) rfl)) ?_)
  refine es_Q (es_SI (ee_M (ee_aR (ee_rF (ee_R rfl) rfl) (ee_aI (ee_M (ee_aR (ee_R rfl) (ee_aI (ee_L rfl) ee_aN)) (ee_cv (yt_X3_typeOf σ _) rfl)) ee_aN)) (ee_cv (yt_X2_levelOf W _) rfl)) ?_)
  have e1 := ya_lv_sub I hs ho
  have e2 := ya_lv_sub I ho hs
  have c1 := yt_X3_climb σ s (tV σ (yT σ s) - tV σ (yT σ o)) (by omega)
  have c2 := yt_X3_climb σ o (tV σ (yT σ o) - tV σ (yT σ s)) (by omega)
  rw [e1] at c1
  rw [e2] at c2
  refine es_Q (es_SI (ee_M (ee_aR (ee_R rfl) (ee_aI (ee_L rfl) (ee_aI (ee_B (ee_L rfl) (ee_L rfl)) ee_aN))) (ee_cv c1 rfl)) ?_)
  refine es_Q (es_SI (ee_M (ee_aR (ee_R rfl) (ee_aI (ee_L rfl) (ee_aI (ee_B (ee_L rfl) (ee_L rfl)) ee_aN))) (ee_cv c2 rfl)) ?_)
  have hmin : ∃ i, 1 ≤ i ∧ i ≤ 4 ∧ ya_lv σ s = i + (ya_lv σ s - ya_lv σ o) ∧ ya_lv σ o = i + (ya_lv σ o - ya_lv σ s) := ⟨min (ya_lv σ s) (ya_lv σ o), by omega, by omega, by omega, by omega⟩
  obtain ⟨i, i1, i4, il, ir⟩ := hmin
  have hu := ya_anc_l I i1 _ hs il
  have hv := ya_anc_l I i1 _ ho ir
  have hsu := yU_anc I i1 _ hs il
  have hov := yU_anc I i1 _ ho ir
  by_cases e : ya_anc (yP σ) (ya_lv σ s - ya_lv σ o) s = ya_anc (yP σ) (ya_lv σ o - ya_lv σ s) o
  · refine es_Q (es_It ((ee_cB (ee_L rfl) (ee_L rfl)).trans (by rw [decide_eq_true e])) ?_)
    refine (es_eZb (k := fun _ => sy_fail) (ee_iC (ee_cB (ee_L rfl) (ee_L rfl)))).trans ?_
    have hx : decide (tV σ (yT σ s) < tV σ (yT σ o)) = decide ((yL σ s).toInt < (yL σ o).toInt) := by
      rw [Bool.eq_iff_iff, decide_eq_true_eq, decide_eq_true_eq, Int32.lt_iff_toInt_lt]
      rcases Nat.lt_or_ge (ya_lv σ s) (ya_lv σ o) with q | q
      · have q1 : ya_lv σ s - ya_lv σ o = 0 := by omega
        rw [q1] at e
        have e : s = _ := e
        rw [← e] at hov
        have := (yU_pl I _ ho (Nat.le_refl _) hov).2 (fun z => by rw [z] at q; omega)
        exact ⟨fun _ => this, fun _ => by omega⟩
      · have q1 : ya_lv σ o - ya_lv σ s = 0 := by omega
        rw [q1] at e
        have e : _ = o := e
        rw [e] at hsu
        have := (yU_pl I _ hs (Nat.le_refl _) hsu).1
        exact ⟨fun _ => by omega, fun _ => by omega⟩
    rw [show decide (ya_tg σ 4 0 (ya_sg σ 11 s) < ya_tg σ 4 0 (ya_sg σ 11 o)) = _ from hx]
  · refine es_Q (es_If ((ee_cB (ee_L rfl) (ee_L rfl)).trans (by rw [decide_eq_false e])) (es_N ?_))
    obtain ⟨u', v', z, r1, r2, r3, r4, r5, r6⟩ := yo_climb I hs ho hd i 1000 0 (u := ya_anc (yP σ) (ya_lv σ s - ya_lv σ o) s) (v := ya_anc (yP σ) (ya_lv σ o - ya_lv σ s) o) (a := tV σ (yT σ s)) (b := tV σ (yT σ o)) (by omega) (by omega) hsu hov hu.2 hv.2 e
    refine es_Q (es_B (es_Q (es_SI ee_K0 ((r6 _).trans ?_))))
    obtain ⟨u1, u2, _⟩ := yU_l I hs r1
    obtain ⟨v1, v2, _⟩ := yU_l I ho r2
    have hd' : sD σ u' = sD σ v' := u2.trans (hd.trans v2.symm)
    have hsib := yg_sib I u1 v1 r4 r5 hd'
    have hlt : ((yL σ s).toInt < (yL σ o).toInt) ↔ ((yL σ u').toInt < (yL σ v').toInt) := by
      constructor
      · intro h
        rcases Int.lt_or_le (yL σ u').toInt (yL σ v').toInt with q | q
        · exact q
        · have ne : (yL σ u').toInt ≠ (yL σ v').toInt := fun z => r4 (yl_same I u1 v1 hd' z)
          have := yg_before I ho hs r2 r1 hd.symm r3.symm r4.symm (by omega)
          omega
      · exact yg_before I hs ho r1 r2 hd r3 r4
    have hty : ∀ (i : Nat) (x : Int32) (E : List Value), E[0]? = some (.ref 10) → E[i]? = some (.int x) → sy_iM (sy_cv 3 1 sf_X3_typeOf) (sy_aR (sy_rL 0) (sy_aI (sy_iL i) sy_aN)) E σ = some (.inl (yT σ x), σ) := fun i x E h0 h1 => ee_M (ee_aR (ee_R h0) (ee_aI (ee_L h1) ee_aN)) (ee_cv (yt_X3_typeOf σ _) rfl)
    by_cases q : yT σ u' = yT σ v'
    · rw [if_pos q] at hsib
      refine es_Q (es_If ((ee_cB (hty 5 u' _ rfl rfl) (hty 6 v' _ rfl rfl)).trans (by rw [decide_eq_true q]; rfl)) (es_N ?_))
      have iu := yl_in u1
      have iv := yl_in v1
      refine (es_eZb (k := fun _ => sy_fail) (ee_iC (ee_cA (ee_cA (ee_cb (ee_M (ee_aI (ee_L rfl) ee_aN) (ee_cs (yt_X3_isNumber σ _) rfl))) (fun _ => ee_cb (ee_M (ee_aI (ee_L rfl) ee_aN) (ee_cs (yt_X3_isNumber σ _) rfl)))) (fun _ => ee_cB (ee_A (ee_rF (ee_R rfl) rfl) (ee_L rfl) (yi_inb.mpr iu)) (ee_A (ee_rF (ee_R rfl) rfl) (ee_L rfl) (yi_inb.mpr iv)))))).trans ?_
      have hx : (((decide (0 ≤ u') && decide (u' < 60)) && (decide (0 ≤ v') && decide (v' < 60))) && decide (σ 13 u'.toNatClampNeg < σ 13 v'.toNatClampNeg)) = decide ((yL σ s).toInt < (yL σ o).toInt) := by
        rw [yl_isS.mpr iu, yl_isS.mpr iv, Bool.true_and, Bool.true_and, Bool.eq_iff_iff, decide_eq_true_eq, decide_eq_true_eq, Int32.lt_iff_toInt_lt, hlt, hsib, ya_sg_in iu, ya_sg_in iv]
      rw [hx]
    · rw [if_neg q] at hsib
      refine es_Q (es_It ((ee_cB (hty 5 u' _ rfl rfl) (hty 6 v' _ rfl rfl)).trans (by rw [decide_eq_false q]; rfl)) ?_)
      refine (es_eZb (k := fun _ => sy_fail) (ee_iC (ee_cB (hty 5 u' _ rfl rfl) (hty 6 v' _ rfl rfl)))).trans ?_
      have hx : decide (yT σ u' < yT σ v') = decide ((yL σ s).toInt < (yL σ o).toInt) := by
        rw [Bool.eq_iff_iff, decide_eq_true_eq, decide_eq_true_eq, Int32.lt_iff_toInt_lt, hlt, hsib]
      rw [hx]
end YO
