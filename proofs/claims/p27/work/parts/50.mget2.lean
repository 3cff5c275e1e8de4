section YG6
variable {σ τ A : sy_Mem} {t : Nat}
theorem yn_I_o (I : yn_I t σ) {v : Nat} (hv : v < 4) {τ : sy_Mem} (h : ∀ k, k ≠ sy_vw v → τ k = σ k) (hn : yn_v τ v) : yn_I t τ := by
  have hb := yv_lt hv
  refine yn_I_v I (v := v) (fun k hk => h k (by omega)) (fun w hw hne => ?_) hn (yn_A_c (h 1 (by omega)) (fun k h1 h2 => h k (by omega)) (by rw [h 31 (by omega)]; exact I.2.2.2.2.2.2.2.2.1) I.2.2.2.2.2.2)
  have := yv_ne hne
  exact ⟨h _ this.1, h _ this.2.2.2.1, h _ this.2.2.2.2.2.2.1⟩
theorem yn_setpar (I : yn_I t σ) {v : Nat} (hv : v < 4) {s : Int32} (hs : s = -1 ∨ (yl σ s ∧ sD σ s = σ (sy_vw v) 0)) : yn_I t (sy_up σ (sy_vw v) 5 s) := by
  have hb := yv_lt hv
  have hk : ∀ k, k ≠ sy_vw v → sy_up σ (sy_vw v) 5 s k = σ k := fun k h => yu_ne h
  obtain ⟨h0, h1, h2, h3, h4, h5, h6, h7⟩ := I.2.2.2.2.2.1 v hv
  have e1 : yl (sy_up σ (sy_vw v) 5 s) = yl σ := funext fun z => yl_c (hk 11 (by omega)) z
  have e3 : ∀ z, sD (sy_up σ (sy_vw v) 5 s) z = sD σ z := fun z => sD_c (hk 1 (by omega)) (hk 2 (by omega)) (hk 11 (by omega)) z
  refine yn_I_o I hv hk ?_
  have s0 : sy_up σ (sy_vw v) 5 s (sy_vw v) 0 = σ (sy_vw v) 0 := yu_an (by decide)
  have s1 : sy_up σ (sy_vw v) 5 s (sy_vw v) 1 = σ (sy_vw v) 1 := yu_an (by decide)
  have s2 : sy_up σ (sy_vw v) 5 s (sy_vw v) 2 = σ (sy_vw v) 2 := yu_an (by decide)
  have s3 : sy_up σ (sy_vw v) 5 s (sy_vw v) 3 = σ (sy_vw v) 3 := yu_an (by decide)
  have s4 : sy_up σ (sy_vw v) 5 s (sy_vw v) 4 = σ (sy_vw v) 4 := yu_an (by decide)
  have s5 : sy_up σ (sy_vw v) 5 s (sy_vw v) 5 = s := yu_at
  have s6 : sy_up σ (sy_vw v) 5 s (sy_vw v) 6 = σ (sy_vw v) 6 := yu_an (by decide)
  unfold yn_v
  rw [e1, s0, s1, s2, s3, s4, s5, s6, hk _ (by omega), hk _ (by omega)]
  refine ⟨h0, h1, by rw [e3]; exact h2, h3, h4, ?_, h6, h7⟩
  rw [e3]
  exact hs
theorem ya_stand_ne {v : Nat} {m a b : Int32} {k : Nat} (h : k ≠ sy_vw v) : ya_stand σ v m a b k = σ k := by
  unfold ya_stand
  rw [yu_ne h, yu_ne h, yu_ne h]
theorem ya_stand_at {v : Nat} {m a b : Int32} {i : Nat} : ya_stand σ v m a b (sy_vw v) i = if i = 4 then b else if i = 3 then a else if i = 2 then m else σ (sy_vw v) i := by
  unfold ya_stand
  by_cases h4 : i = 4
  · rw [h4, yu_at, if_pos rfl]
  · rw [yu_an h4, if_neg h4]
    by_cases h3 : i = 3
    · rw [h3, yu_at, if_pos rfl]
    · rw [yu_an h3, if_neg h3]
      by_cases h2 : i = 2
      · rw [h2, yu_at, if_pos rfl]
      · rw [yu_an h2, if_neg h2]
theorem yn_stand (I : yn_I t σ) {v : Nat} (hv : v < 4) {m a b : Int32} (hm : m = -1 ∨ (yl σ m ∧ sD σ m = σ (sy_vw v) 0)) (ha : a = 0 ∨ (a = 1 ∧ m ≠ -1)) (hb' : b = 0 ∨ (b = 1 ∧ m = -1)) : yn_I t (ya_stand σ v m a b) := by
  have hb := yv_lt hv
  have hk : ∀ k, k ≠ sy_vw v → ya_stand σ v m a b k = σ k := fun k h => ya_stand_ne h
  obtain ⟨h0, h1, h2, h3, h4, h5, h6, h7⟩ := I.2.2.2.2.2.1 v hv
  have e1 : yl (ya_stand σ v m a b) = yl σ := funext fun z => yl_c (hk 11 (by omega)) z
  have e3 : ∀ z, sD (ya_stand σ v m a b) z = sD σ z := fun z => sD_c (hk 1 (by omega)) (hk 2 (by omega)) (hk 11 (by omega)) z
  refine yn_I_o I hv hk ?_
  have s0 : ya_stand σ v m a b (sy_vw v) 0 = σ (sy_vw v) 0 := ya_stand_at
  have s1 : ya_stand σ v m a b (sy_vw v) 1 = σ (sy_vw v) 1 := ya_stand_at
  have s2 : ya_stand σ v m a b (sy_vw v) 2 = m := ya_stand_at
  have s3 : ya_stand σ v m a b (sy_vw v) 3 = a := ya_stand_at
  have s4 : ya_stand σ v m a b (sy_vw v) 4 = b := ya_stand_at
  have s5 : ya_stand σ v m a b (sy_vw v) 5 = σ (sy_vw v) 5 := ya_stand_at
  have s6 : ya_stand σ v m a b (sy_vw v) 6 = σ (sy_vw v) 6 := ya_stand_at
  unfold yn_v
  rw [e1, s0, s1, s2, s3, s4, s5, s6, hk _ (by omega), hk _ (by omega)]
  refine ⟨h0, h1, ?_, ha, hb', ?_, h6, h7⟩
  · rw [e3]; exact hm
  · rw [e3]; exact h5
theorem yn_drop (I : yn_I t σ) : yn_I t (sy_up σ 19 0 0) := by
  have hk : ∀ k, k ≠ 19 → sy_up σ 19 0 0 k = σ k := fun k h => yu_ne h
  obtain ⟨iS, iG, iW, iO, iK, iV, a1, a2, a3, a4, a5⟩ := I
  have hbase : yc_base σ (sy_up σ 19 0 0) := fun k h => hk k (by omega)
  refine ⟨by rw [yn_S_c hbase]; exact iS, by rw [yn_G_c hbase]; exact iG, by rw [yn_W_c hbase]; exact iW, by rw [yn_O_c hbase]; exact iO, by rw [yn_K_c hbase]; exact iK, fun w hw => ?_, ?_, ?_, ?_, ?_, ?_⟩
  · have hb := yv_lt hw
    rw [yn_v_c hbase (hk _ (by omega)) (hk _ (by omega)) (hk _ (by omega))]
    exact iV w hw
  · rw [yu_at]; exact ⟨by decide, by decide⟩
  · intro i hi
    rw [yu_at, yl_c0] at hi
    omega
  · rw [hk 31 (by decide)]; exact a3
  · rw [hk 27 (by decide)]; exact a4
  · rw [hk 27 (by decide)]; exact a5
/-- what get finds -/
theorem yg_finds (I : yn_I t σ) {v : Nat} (hv : v < 4) {how : Int32} (hx : ya_finds σ v how ≠ -1) : yl σ (ya_finds σ v how) ∧ sD σ (ya_finds σ v how) = σ (sy_vw v) 0 ∧ ya_X5_isRight σ v (ya_finds σ v how) (σ 19 0).toNatClampNeg = true := by
  have hd := (I.2.2.2.2.2.1 v hv).1
  unfold ya_finds ya_X5_firstRight at hx ⊢
  cases hf : ya_ff (fun i => (decide (ya_within σ v how = -1) || ya_X3_isBelow σ (ya_at σ (σ (sy_vw v) 0) (nI i)) (ya_within σ v how)) && ya_X5_isRight σ v (ya_at σ (σ (sy_vw v) 0) (nI i)) (σ 19 0).toNatClampNeg) ((ya_cnt σ (σ (sy_vw v) 0)).toNatClampNeg - (ya_start σ v how).toNatClampNeg) (ya_start σ v how).toNatClampNeg with
  | none =>
    rw [hf] at hx
    exact absurd rfl hx
  | some i =>
    obtain ⟨h1, h2, h3, _⟩ := ya_ff_some.mp hf
    rw [Bool.and_eq_true] at h3
    have ha := yg_at I hd (yg_pn I hd (show i < _ by omega))
    exact ⟨ha.1, ha.2.1, h3.2⟩
theorem yg_right {v n : Nat} {x : Int32} (hn : n ≤ 900) (h : ya_X5_isRight σ v x n = true) : (ya_X4_sees σ v (ya_sg σ 11 x) && (decide (nI n = 0) || decide (ya_sg σ 11 x = ya_ag σ 20 (-1) (nI n - 1)))) = true := by
  unfold ya_X5_isRight at h
  have e : decide (0 < nI n) = !decide (nI n = 0) := by
    by_cases e : nI n = 0
    · rw [e]; rfl
    · rw [decide_eq_false e, decide_eq_true_eq.mpr]
      · rfl
      · rw [Int32.lt_iff_toInt_lt, nI_toInt (by omega), yl_c0]
        have : n ≠ 0 := fun q => e (by rw [q, nI_0])
        omega
  rw [e] at h
  cases h1 : ya_X4_sees σ v (ya_sg σ 11 x) <;> cases h2 : decide (ya_sg σ 11 x = ya_ag σ 20 (-1) (nI n - 1)) <;> cases h3 : decide (nI n = 0) <;> rw [h1, h2, h3] at h <;> first | rfl | exact absurd (show (false : Bool) = true from h) (by decide)
/-- the segments that were right for the arguments -/
theorem yg_ups (I : yn_I t σ) {v : Nat} {x : Int32} (hL : ya_X5_isListOrdered σ v = true) (hx : yl σ x) (hR : ya_X5_isRight σ v x (σ 19 0).toNatClampNeg = true) {i : Nat} (hi : i < (σ 19 0).toNatClampNeg) : yl σ (ya_X3_upward σ x (ya_ag σ 20 (-1) (nI i))) ∧ sD σ (ya_X3_upward σ x (ya_ag σ 20 (-1) (nI i))) = σ (sy_vw v) 0 ∧ (i + 1 = (σ 19 0).toNatClampNeg → ya_X3_upward σ x (ya_ag σ 20 (-1) (nI i)) = x) := by
  have h4 := yg_n19 I
  have hb := yg_right (by omega) hR
  have hu := yg_rt I hL hx (a2 := (σ 19 0).toNatClampNeg) (by omega) hb hi
  refine ⟨hu.1, ?_, fun e => ?_⟩
  · show ya_tg σ 2 (-1) (ya_sg σ 11 (ya_X3_upward σ x (ya_ag σ 20 (-1) (nI i)))) = _
    rw [show ya_sg σ 11 (ya_X3_upward σ x (ya_ag σ 20 (-1) (nI i))) = ya_ag σ 20 (-1) (nI i) from hu.2]
    have hs := (yg_listed I hL).1 i (by omega)
    unfold ya_X4_sees at hs
    by_cases q : ya_tg σ 2 (-1) (ya_ag σ 20 (-1) (nI i)) = σ (sy_vw v) 0
    · exact q
    · rw [decide_eq_false q] at hs
      exact absurd hs (by simp)
  · have h0 : ¬ nI (σ 19 0).toNatClampNeg = 0 := fun q => by
      have := congrArg Int32.toInt q
      rw [nI_toInt (by omega), yl_c0] at this
      omega
    rw [decide_eq_false h0, Bool.false_or, Bool.and_eq_true] at hb
    have hT := of_decide_eq_true hb.2
    rw [(yg_pred I h0 (by omega)).1, show (σ 19 0).toNatClampNeg - 1 = i by omega] at hT
    unfold ya_X3_upward
    rw [show ya_walk (fun x => ya_sg σ 12 x) (fun x_1 => decide (ya_sg σ 11 x_1 = ya_ag σ 20 (-1) (nI i))) 4 x = some x from by
      show (if x = -1 then none else if decide (ya_sg σ 11 x = ya_ag σ 20 (-1) (nI i)) then some x else _) = some x
      rw [if_neg (yl_ne hx), decide_eq_true hT, if_pos rfl]]
    rfl
theorem yn_dl (I : yn_I t σ) {v : Nat} (hv : v < 4) {x : Int32} {h : Bool} (h6 : σ (sy_vw v) 6 = 0) (hup : ∀ i, i < (σ 19 0).toNatClampNeg → yl σ (ya_X3_upward σ x (ya_ag σ 20 (-1) (nI i)))) : ∀ i, i ≤ (σ 19 0).toNatClampNeg → i < 4 ∨ i = 0 → yn_I t (ya_dl σ v x h i)
  | 0, _, _ => I
  | i + 1, hi, h4 => by
    have hb := yv_lt hv
    have ih := yn_dl I hv (x := x) (h := h) h6 hup i (by omega) (by omega)
    unfold ya_dl
    by_cases hc : ya_code σ (nI i) 1 = true
    · rw [if_pos hc]
      have hsl := ya_sl_le σ i
      refine yn_one ih hv ?_ (fun e => by rw [ya_dl_6 σ hv h6, e]; rfl) (by omega)
      rw [yl_c (ya_dl_ne σ (by decide) (by omega) (by omega) (by omega) i)]
      exact hup i (by omega)
    · rw [if_neg hc]
      exact ih
theorem yn_deliver (I : yn_I t σ) {v : Nat} (hv : v < 4) {x : Int32} {h : Bool} (h6 : σ (sy_vw v) 6 = 0) (hx : yl σ x) (hup : ∀ i, i < (σ 19 0).toNatClampNeg → yl σ (ya_X3_upward σ x (ya_ag σ 20 (-1) (nI i)))) : yn_I t (ya_deliver σ v x h) := by
  have hb := yv_lt hv
  have h4 := yg_n19 I
  have hsl := ya_sl_le σ ((σ 19 0).toNatClampNeg - 1)
  unfold ya_deliver
  refine yn_one (yn_dl I hv h6 hup _ (by omega) (by omega)) hv ?_ (fun e => by rw [ya_dl_6 σ hv h6, e]; rfl) (by omega)
  rw [yl_c (ya_dl_ne σ (by decide) (by omega) (by omega) (by omega) _)]
  exact hx
end YG6
