section LA28
variable {A σ τ : sy_Mem} {t n : Nat}
def LSn (n : Nat) (σ : sy_Mem) : Prop := σ 1 0 = nI n ∧ σ 52 0 = nI n ∧ n ≤ 7 ∧ (∀ i, n ≤ i → σ 8 i = 0 ∧ σ 9 i = 0) ∧ (0 < n → σ 2 0 = 0 ∧ σ 3 0 = -1) ∧ (1 < n → σ 2 1 = 1 ∧ σ 3 1 = -1) ∧ (n < 7 → ∀ d, d < 3 → σ 16 d = 0)
/-- what holds between two acts -/
def LI (t n : Nat) (σ : sy_Mem) : Prop := yn_I t σ ∧ TT σ σ ∧ LSn n σ ∧ σ 19 0 = 0 ∧ σ 52 1 = 0 ∧ (∀ v, v < 4 → σ 51 v = nI (vn σ v)) ∧ (∀ k, 53 ≤ k → k ≤ 57 → σ 58 k = 0)
theorem li_T (L : LI t n σ) {i : Nat} (hi : i < n) : ya_isT σ (nI i) = true := by
  obtain ⟨-, -, ⟨h1, -, h7, -⟩, -⟩ := L
  refine yl_isT.mpr ?_
  rw [h1, nI_toInt (by omega), nI_toInt (by omega)]
  omega
theorem li_N (h1 : σ 1 0 = nI n) (h7 : n ≤ 7) {i : Nat} (hi : n ≤ i) (hi2 : i < 100) : ya_isT σ (nI i) = false := by
  cases e : ya_isT σ (nI i) with
  | false => rfl
  | true =>
    have := yl_isT.mp e
    rw [h1, nI_toInt (by omega), nI_toInt (by omega)] at this
    omega
theorem li_tg (L : LI t n σ) {i k : Nat} {d : Int32} (hi : i < n) : ya_tg σ k d (nI i) = σ k i := by
  have h7 := L.2.2.1.2.2.1
  rw [ya_tg_in (li_T L hi), nI_clamp (by omega)]
theorem hasRoot_is (L : LI t n σ) (d : Int32) : ya_X2_hasRootType σ d = true ↔ ∃ i, i < n ∧ σ 3 i = -1 ∧ σ 2 i = d := by
  have h7 := L.2.2.1.2.2.1
  have hc : (σ 1 0).toNatClampNeg = n := by rw [L.2.2.1.1, nI_clamp (by omega)]
  unfold ya_X2_hasRootType
  rw [hc]
  constructor
  · intro h
    have h : (ya_ff (fun i => ((ya_X2_isRootType σ (nI i)) && (decide ((ya_tg σ 2 (-1) (nI i)) = d)))) n 0).isSome = true := by
      cases e : (ya_ff (fun i => ((ya_X2_isRootType σ (nI i)) && (decide ((ya_tg σ 2 (-1) (nI i)) = d)))) n 0).isSome with
      | true => rfl
      | false => rw [e] at h; exact absurd h (by decide)
    obtain ⟨i, -, i2, i3⟩ := ff_some.mp h
    have hi : i < n := by omega
    rw [Bool.and_eq_true, decide_eq_true_eq, li_tg L hi] at i3
    unfold ya_X2_isRootType at i3
    rw [Bool.and_eq_true, decide_eq_true_eq, nI_clamp (by omega)] at i3
    exact ⟨i, hi, i3.1.2, i3.2⟩
  · rintro ⟨i, hi, i1, i2⟩
    have h : (ya_ff (fun i => ((ya_X2_isRootType σ (nI i)) && (decide ((ya_tg σ 2 (-1) (nI i)) = d)))) n 0).isSome = true := ff_some.mpr ⟨i, by omega, by omega, by
      unfold ya_X2_isRootType
      rw [li_tg L hi, li_T L hi, nI_clamp (by omega), i1, i2]
      simp⟩
    rw [h]
    rfl
theorem rootT_is (L : LI t n σ) {i : Nat} (hi : i < n) : ya_X2_isRootType σ (nI i) = decide (σ 3 i = -1) := by
  have h7 := L.2.2.1.2.2.1
  unfold ya_X2_isRootType
  rw [li_T L hi, nI_clamp (by omega), Bool.true_and]
theorem cnt0 (L : LI t n σ) (hn : n < 7) (d : Int32) : ya_cnt σ d = 0 := by
  have h := L.2.2.1.2.2.2.2.2.2 hn
  unfold ya_cnt
  by_cases e : (decide (0 ≤ d) && decide (d < 3)) = true
  · rw [if_pos e]
    have := yl_isD.mp e
    exact h _ (by rw [yi_clampInt]; omega)
  · rw [if_neg e]
/-- a type, when the law has written it down -/
def mT (σ : sy_Mem) (n V : Nat) : sy_Mem := sy_up (sy_up σ 44 n (nI V)) 52 0 (nI (n + 1))
theorem vn_c {v : Nat} (hv : v < 4) (h : ∀ k, 32 ≤ k → k ≤ 43 → τ k = σ k) : vn τ v = vn σ v := by
  unfold vn
  have := yv_lt hv
  rw [h (sy_vw v) (by omega) (by omega)]
theorem li_define (L : LI t n σ) (hn : n < 7) {b q k r lv : Nat} {p : Int32} (hb : b < 3) (hk : k < 3) (hr : r < 3) (hp : (p = -1 ∧ q = 0 ∧ k = 0 ∧ lv = 1 ∧ ya_X2_hasRootType σ (nI b) = false ∧ n = b) ∨ (∃ pp l, p = nI pp ∧ pp < n ∧ q = pp + 1 ∧ tD σ (nI pp) = nI b ∧ tV σ (nI pp) = nI l ∧ l < 4 ∧ lv = l + 1 ∧ 2 ≤ n)) :
    sf_X5_type [.ref 0, .int (nI b), .int p, .int (nI k), .int (nI r)] (mT σ n (b + 4 * q + 64 * k + 256 * r + 1024 * lv)) = some (.inl (some (.int (nI n))), ya_define (mT σ n (b + 4 * q + 64 * k + 256 * r + 1024 * lv)) n (nI b) p (nI k) (nI r)) ∧ LI t (n + 1) (ya_define (mT σ n (b + 4 * q + 64 * k + 256 * r + 1024 * lv)) n (nI b) p (nI k) (nI r)) ∧ ya_define (mT σ n (b + 4 * q + 64 * k + 256 * r + 1024 * lv)) n (nI b) p (nI k) (nI r) 7 n = -1 ∧ ya_define (mT σ n (b + 4 * q + 64 * k + 256 * r + 1024 * lv)) n (nI b) p (nI k) (nI r) 3 n = p ∧ ya_define (mT σ n (b + 4 * q + 64 * k + 256 * r + 1024 * lv)) n (nI b) p (nI k) (nI r) 2 n = nI b := by
  have hlv4 : lv ≤ 4 := by
    rcases hp with ⟨-, -, -, h, -⟩ | ⟨-, l, -, -, -, -, -, h, h2, -⟩
    · rw [h]; decide
    · rw [h2]; exact h
  have B1 : (nI b).toInt.toNat = b := by rw [nI_toInt (by omega)]; rfl
  have B2 : (nI k).toInt.toNat = k := by rw [nI_toInt (by omega)]; rfl
  have B3 : (nI r).toInt.toNat = r := by rw [nI_toInt (by omega)]; rfl
  have B4 : (nI lv).toInt.toNat = lv := by rw [nI_toInt (by omega)]; rfl
  have B5 : ∀ V, b + 4 * q + 64 * k + 256 * r + 1024 * lv = V → V = b + 4 * q + 64 * k + 256 * r + 1024 * lv + 8192 * 0 + 131072 * 0 + 262144 * 0 := fun V h => by omega
  obtain ⟨I, T, ⟨s1, s2, s3, s4, s5, s6, s7⟩, h19, h521, hV, hN⟩ := L
  have L0 : LI t n σ := ⟨I, T, ⟨s1, s2, s3, s4, s5, s6, s7⟩, h19, h521, hV, hN⟩
  generalize hVV : b + 4 * q + 64 * k + 256 * r + 1024 * lv = V
  have hm : ∀ k, k ≠ 44 → k ≠ 52 → mT σ n V k = σ k := fun k h1 h2 => by
    unfold mT
    rw [up_ne h2, up_ne h1]
  have I1 : yn_I t (mT σ n V) := yn_I_lt I (fun k hk => hm k (by omega) (by omega))
  have hn1 : mT σ n V 1 0 = nI n := by rw [hm 1 (by omega) (by omega)]; exact s1
  have eT : ∀ u, ya_isT (mT σ n V) u = ya_isT σ u := fun u => ya_isT_c (hm 1 (by omega) (by omega)) u
  have eG : ∀ {k : Nat} (hk : k < 44) (df w : Int32), ya_tg (mT σ n V) k df w = ya_tg σ k df w := fun hk df w => ya_tg_c (hm 1 (by omega) (by omega)) (hm _ (by omega) (by omega)) df w
  have eR : ∀ d, ya_X2_hasRootType (mT σ n V) d = ya_X2_hasRootType σ d := fun d => rfl
  have hpp : (p = -1 ∧ (nI k : Int32) = 0 ∧ ya_X2_hasRootType (mT σ n V) (nI b) = false) ∨ (ya_isT (mT σ n V) p = true ∧ tD (mT σ n V) p = nI b ∧ (tV (mT σ n V) p).toInt < 4) := by
    rcases hp with ⟨p1, p2, p3, p4, p5, -⟩ | ⟨pp, l, p1, p2, p3, p4, p5, p6, p7, -⟩
    · exact Or.inl ⟨p1, by rw [p3]; rfl, by rw [eR]; exact p5⟩
    · right
      rw [p1, eT]
      refine ⟨li_T L0 p2, (eG (by omega) _ _).trans p4, ?_⟩
      rw [show tV (mT σ n V) (nI pp) = nI l from (eG (by omega) _ _).trans p5, nI_toInt (by omega)]
      omega
  have hb' : 0 ≤ (nI b).toInt ∧ (nI b).toInt < 3 := by rw [nI_toInt (by omega)]; omega
  have I2 := yn_define I1 hn1 (show n < 12 by omega) (d := nI b) (p := p) (k := nI k) (r := nI r) hb' (by rw [nI_toInt (by omega)]; omega) (by rw [nI_toInt (by omega)]; omega) hpp
  have c3 : (decide ((0 : Int32) ≤ nI b) && decide (nI b < 3)) = true := yl_isD.mpr hb'
  have t1 : ya_ty1 (mT σ n V) (nI b) p = true := by
    unfold ya_ty1
    rw [c3, Bool.true_and]
    rcases hpp with ⟨p1, -⟩ | ⟨p1, -⟩
    · rw [p1]; rfl
    · rw [p1, Bool.or_true]
  have t2 : ya_ty2 (mT σ n V) (nI b) p (nI k) (nI r) = true := by
    unfold ya_ty2
    rw [show (decide ((0 : Int32) ≤ nI k) && decide (nI k < 3)) = true from yl_isD.mpr (by rw [nI_toInt (by omega)]; omega), show (decide ((0 : Int32) ≤ nI r) && decide (nI r < 3)) = true from yl_isD.mpr (by rw [nI_toInt (by omega)]; omega)]
    rcases hpp with ⟨p1, p2, -⟩ | ⟨p1, p2, -⟩
    · rw [p1, p2]; rfl
    · rw [show tD (mT σ n V) p = nI b from p2, decide_eq_true (rfl : nI b = nI b), Bool.or_true, decide_eq_false (show ¬ p = -1 from ya_isT_ne p1)]
      rfl
  have t3 : ya_ty3 (mT σ n V) (nI b) p = true := by
    unfold ya_ty3
    rw [show ya_cnt (mT σ n V) (nI b) = 0 from cnt0 L0 hn (nI b), hn1, show decide (nI n < 12) = true from (nI_ltd (q := 12) (by omega) (by omega)).trans (decide_eq_true (by omega))]
    rcases hpp with ⟨p1, p2, p3⟩ | ⟨p1, p2, p3⟩
    · rw [p3, p1]
      rfl
    · rw [decide_eq_false (show ¬ p = -1 from ya_isT_ne p1)]
      have h4 := (I1.1.2.1 p p1).2.2.2.2.2.1
      have : decide (ya_X2_levelBelow (mT σ n V) p ≤ 4) = true := by
        unfold ya_X2_levelBelow
        refine decide_eq_true ?_
        rw [Int32.le_iff_toInt_le, yl_add (by show -1000000000 ≤ (tV (mT σ n V) p).toInt; omega) (by show (tV (mT σ n V) p).toInt ≤ 1000000000; omega) (by decide) (by decide), yl_c1, yl_c4]
        show (tV (mT σ n V) p).toInt + 1 ≤ 4
        omega
      rw [this]
      rfl
  have hty := yt_X5_type I1 (nI b) p (nI k) (nI r)
  rw [t1, t2, t3, if_pos rfl, if_pos rfl, if_pos rfl, hn1, nI_clamp (by omega)] at hty
  have d0 := @ya_define_n (mT σ n V) n (nI b) p (nI k) (nI r)
  have da : ∀ {j i : Nat}, j ≠ 1 → i ≠ n → ya_define (mT σ n V) n (nI b) p (nI k) (nI r) j i = mT σ n V j i := fun h1 h2 => ya_define_an h1 h2
  have dn : ∀ {j : Nat}, (j ≠ 1 ∧ j ≠ 2 ∧ j ≠ 3 ∧ j ≠ 4 ∧ j ≠ 5 ∧ j ≠ 6 ∧ j ≠ 7) → ya_define (mT σ n V) n (nI b) p (nI k) (nI r) j = mT σ n V j := fun h => ya_define_ne h
  have d1 := @ya_define_1 (mT σ n V) n (nI b) p (nI k) (nI r)
  have hlv : ya_X2_levelBelow (mT σ n V) p = nI lv := by
    unfold ya_X2_levelBelow
    rcases hp with ⟨p1, p2, p3, p4, p5, -⟩ | ⟨pp, l, p1, p2, p3, p4, p5, p6, p7, -⟩
    · rw [show ya_tg (mT σ n V) 4 0 p = 0 from yg_tym p1, p4]
      rfl
    · rw [p1, eG (by omega), show ya_tg σ 4 0 (nI pp) = nI l from p5, p7]
      exact nadd (b := 1)
  rw [hlv] at d0
  obtain ⟨e2, e3, e4, e5, e6, e7⟩ := d0
  refine ⟨hty, ⟨I2, fun i hi => ?_, ⟨d1, ?_, by omega, fun i hi => ?_, fun _ => ?_, fun h => ?_, fun _ d hd => ?_⟩, ?_, ?_, fun v hv => ?_, fun k h1 h2 => ?_⟩, e7, e3, e2⟩
  · rw [d1, nI_toInt (by omega)] at hi
    by_cases e : i = n
    · subst e
      rw [dn (j := 44) (by decide), dn (j := 8) (by decide), dn (j := 9) (by decide), hm 8 (by omega) (by omega), hm 9 (by omega) (by omega), (s4 i (Nat.le_refl _)).1, (s4 i (Nat.le_refl _)).2]
      refine ⟨?_, by decide, by decide⟩
      have e44 : mT σ i V 44 i = nI V := by
        unfold mT
        rw [up_ne (by omega), up_at, if_pos rfl]
      rw [e44]
      refine congrArg nI ?_
      unfold tn
      rw [e2, e3, e4, e5, e6, e7, dn (j := 8) (by decide), dn (j := 9) (by decide), hm 8 (by omega) (by omega), hm 9 (by omega) (by omega), (s4 i (Nat.le_refl _)).1, (s4 i (Nat.le_refl _)).2, B1, B2, B3, B4]
      have hq : (p.toInt + 1).toNat = q := by
        rcases hp with ⟨p1, p2, -⟩ | ⟨pp, l, p1, p2, p3, -⟩
        · rw [p1, p2]; rfl
        · rw [p1, p3, nI_toInt (by omega)]; omega
      rw [hq, show ((-1 : Int32).toInt + 1).toNat = 0 from rfl, show (0 : Int32).toInt.toNat = 0 from rfl]
      exact B5 V hVV
    · obtain ⟨T1, T2⟩ := T i (by rw [s1, nI_toInt (by omega)]; omega)
      have hc : ∀ j, j ≠ 1 → j < 44 → ya_define (mT σ n V) n (nI b) p (nI k) (nI r) j i = σ j i := fun j h1 h2 => by rw [da h1 e, hm j (by omega) (by omega)]
      have etn : tn (ya_define (mT σ n V) n (nI b) p (nI k) (nI r)) i = tn σ i := by
        unfold tn
        rw [hc 2 (by omega) (by omega), hc 3 (by omega) (by omega), hc 4 (by omega) (by omega), hc 5 (by omega) (by omega), hc 6 (by omega) (by omega), hc 7 (by omega) (by omega), hc 8 (by omega) (by omega), hc 9 (by omega) (by omega)]
      rw [etn, hc 8 (by omega) (by omega), hc 9 (by omega) (by omega), da (by omega) e]
      refine ⟨?_, T2⟩
      rw [← T1]
      unfold mT
      rw [up_ne (by omega), up_at, if_neg e]
  · rw [dn (j := 52) (by decide)]
    unfold mT
    rw [up_at, if_pos rfl]
  · rw [dn (j := 8) (by decide), dn (j := 9) (by decide), hm 8 (by omega) (by omega), hm 9 (by omega) (by omega)]
    exact s4 i (by omega)
  · by_cases e : n = 0
    · rcases hp with ⟨p1, p2, p3, p4, p5, p6⟩ | ⟨pp, l, p1, p2, -⟩
      · have : b = 0 := by omega
        subst e
        rw [e2, e3, p1, this]
        exact ⟨rfl, rfl⟩
      · omega
    · rw [da (by omega) (by omega), da (by omega) (by omega), hm 2 (by omega) (by omega), hm 3 (by omega) (by omega)]
      exact s5 (by omega)
  · by_cases e : n = 1
    · rcases hp with ⟨p1, p2, p3, p4, p5, p6⟩ | ⟨pp, l, p1, p2, p3, p4, p5, p6, p7, p8⟩
      · have : b = 1 := by omega
        subst e
        rw [e2, e3, p1, this]
        exact ⟨rfl, rfl⟩
      · omega
    · rw [da (by omega) (by omega), da (by omega) (by omega), hm 2 (by omega) (by omega), hm 3 (by omega) (by omega)]
      exact s6 (by omega)
  · rw [dn (j := 16) (by decide), hm 16 (by omega) (by omega)]
    exact s7 hn d hd
  · rw [dn (j := 19) (by decide), hm 19 (by omega) (by omega)]
    exact h19
  · rw [dn (j := 52) (by decide)]
    unfold mT
    rw [up_at, if_neg (by omega), up_ne (by omega)]
    exact h521
  · rw [dn (j := 51) (by decide), hm 51 (by omega) (by omega), hV v hv]
    exact congrArg nI (vn_c hv (fun j h1 h2 => by rw [dn (j := j) (by omega), hm j (by omega) (by omega)])).symm
  · rw [dn (j := 58) (by decide), hm 58 (by omega) (by omega)]
    exact hN k h1 h2
end LA28
