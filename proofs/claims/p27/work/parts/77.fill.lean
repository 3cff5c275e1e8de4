/-! numbers of segments changed; room for one more -/
section YFs
variable {σ τ A ρ ρ' : sy_Mem} {t : Nat}
def ya_re14 (σ : sy_Mem) : sy_Mem := fun k => if k = 14 then fun _ => 0 else σ k
theorem ya_re14_c (h : ∀ k, k ≠ 14 → τ k = σ k) : ya_re14 τ = ya_re14 σ := by
  funext k
  unfold ya_re14
  by_cases hk : k = 14
  · rw [if_pos hk, if_pos hk]
  · rw [if_neg hk, if_neg hk, h k hk]
def yo_p (A : sy_Mem) : Prop := (∀ s, yl A s → yP A s ≠ -1 → (yL A (yP A s)).toInt < (yL A s).toInt) ∧
  (∀ s p x, yl A s → yl A p → yl A x → sD A p = sD A s → sD A x = sD A s → yU A s p → (yL A p).toInt ≤ (yL A x).toInt → (yL A x).toInt ≤ (yL A s).toInt → yU A x p) ∧
  (∀ s r, yl A s → yl A r → sD A s = sD A r → yP A s = yP A r → (yT A s).toInt < (yT A r).toInt → (yL A s).toInt < (yL A r).toInt) ∧
  (∀ s r, yl A s → yl A r → yT A s = yT A r → yP A s = yP A r → ((yL A s).toInt < (yL A r).toInt ↔ (ya_sg A 13 s).toInt < (ya_sg A 13 r).toInt))
def yo_g (A : sy_Mem) : Prop := ∀ s, yl A s → ya_isT A (yT A s) = true ∧ ((tP A (yT A s) = -1 ∧ yP A s = -1) ∨ (yl A (yP A s) ∧ yT A (yP A s) = tP A (yT A s) ∧ tP A (yT A s) ≠ -1))
theorem yo_p_re : yo_p (ya_re14 σ) = yo_p σ := rfl
theorem yo_g_re : yo_g (ya_re14 σ) = yo_g σ := rfl
theorem yn_W_re14 : yn_W (ya_re14 σ) = yn_W σ := rfl
/-- a change of numbers alone, the keys of keyed segments aside -/
theorem yn_I_num (I : yn_I t σ) (h : ∀ k, k ≠ 14 → τ k = σ k) (hb : ∀ i, i < 180 → 0 ≤ (τ 14 i).toInt ∧ (τ 14 i).toInt ≤ 999) (hN : ∀ s, yl σ s → tK σ (yT σ s) ≠ 2 → ya_N τ s 0 = ya_N σ s 0) : yn_I t τ := by
  obtain ⟨iS, iG, iW, iO, iK, iV, iA⟩ := I
  have e := ya_re14_c h
  obtain ⟨o1, o2, o3, o4, o5, o6⟩ := iO
  have hp : yo_p τ := by rw [← yo_p_re, e, yo_p_re]; exact ⟨o1, o2, o3, o6⟩
  have hg : yo_g τ := by rw [← yo_g_re, e, yo_g_re]; exact iG.1
  have hW : yn_W τ := by rw [← yn_W_re14, e, yn_W_re14]; exact iW
  have eT : ∀ s, yT τ s = yT σ s := fun s => ya_sg_c (h 11 (by decide)) s
  have eP : ∀ s, yP τ s = yP σ s := fun s => ya_sg_c (h 12 (by decide)) s
  have eL : ∀ s, yL τ s = yL σ s := fun s => ya_sg_c (h 17 (by decide)) s
  have eK : ∀ u, tK τ u = tK σ u := fun u => ya_tg_c (h 1 (by decide)) (h 5 (by decide)) _ u
  have el : ∀ s, yl τ s ↔ yl σ s := fun s => by rw [yl_c (h 11 (by decide))]
  have eD : ∀ s, sD τ s = sD σ s := fun s => sD_c (h 1 (by decide)) (h 2 (by decide)) (h 11 (by decide)) s
  refine ⟨by rw [yn_S_9 (fun k hk => h k (by omega))]; exact iS, ⟨hg, hb⟩, hW, ⟨hp.1, hp.2.1, hp.2.2.1, fun s r hs hr hT hP hk hlt => ?_, fun s r hs hr hT hP hk hN' => ?_, hp.2.2.2⟩, fun i hi => by rw [h 13 (by decide)]; exact iK i hi, fun v hv => ?_, yn_A_c (h 1 (by decide)) (fun k h1 h2 => h k (by omega)) (by rw [h 31 (by decide)]; exact iA.2.2.1) iA⟩
  · rw [el] at hs hr
    rw [eT, eT] at hT
    rw [eP, eP] at hP
    rw [eT, eK] at hk
    rw [eL, eL] at hlt
    rw [hN s hs hk, hN r hr (by rw [← hT]; exact hk)]
    exact o4 s r hs hr hT hP hk hlt
  · rw [el] at hs hr
    rw [eT, eT] at hT
    rw [eP, eP] at hP
    rw [eT, eK] at hk
    have hk2 : tK σ (yT σ s) ≠ 2 := by rw [hk]; decide
    rw [hN s hs hk2, hN r hr (by rw [← hT]; exact hk2)] at hN'
    exact o5 s r hs hr hT hP hk hN'
  · have hb := yv_lt hv
    obtain ⟨h0, h1, h2, h3, h4, h5, h6, h7⟩ := iV v hv
    unfold yn_v
    rw [h _ (by omega), h _ (by omega), h _ (by omega)]
    exact ⟨h0, h1, h2.imp id (fun g => ⟨(el _).mpr g.1, (eD _).trans g.2⟩), h3, h4, h5.imp id (fun g => ⟨(el _).mpr g.1, (eD _).trans g.2⟩), h6, fun i hi => ⟨(el _).mpr (h7 i hi).1, (h7 i hi).2⟩⟩
/-- the component's fillSegment, after n fields -/
def ya_fil (σ : sy_Mem) (z j : Nat) : Nat → sy_Mem
  | 0 => σ
  | n + 1 => sy_up (ya_fil σ z j n) 14 (3 * z + n) (ya_slot σ (nI j) (nI n))
theorem ya_fil_ne {z j k : Nat} (h : k ≠ 14) : ∀ n, ya_fil σ z j n k = σ k
  | 0 => rfl
  | n + 1 => (yu_ne h).trans (ya_fil_ne h n)
theorem yt_X5_fillSegment (σ : sy_Mem) {z j : Nat} (hz : z < 60) : sf_X5_fillSegment [.ref 0, .int (nI z), .int (nI j)] σ = some (.inl none, ya_fil σ z j 3) := by
  refine ee_meth ?_ rfl
  unfold sm_X5_fillSegment
  refine es_Q (es_B (es_Q (es_SI ee_K0 ?_)))
  refine es_loop (E := fun i => [.ref 0, .int (nI z), .int (nI j), .int (nI i)]) (S := fun i => ya_fil σ z j i) 3 0 1000 (by omega) (fun i _ hi => (es_cB rfl ee_K (by omega)).trans (by rw [decide_eq_true]; show i < 3; omega)) ((es_cB rfl ee_K (by omega)).trans (by rw [decide_eq_false]; show ¬ 0 + 3 < 3; omega)) (fun i _ hi k' => ?_) es_eV
  have e : ya_slot (ya_fil σ z j i) (nI j) (nI i) = ya_slot σ (nI j) (nI i) := by
    unfold ya_slot
    rw [ya_fil_ne (by decide)]
  refine es_Q (es_C (ee_aR (ee_rF (ee_R rfl) rfl) (ee_aI (ee_L rfl) (ee_aI (ee_L rfl) (ee_aI (ee_M (ee_aR (ee_R rfl) (ee_aI (ee_L rfl) (ee_aI (ee_L rfl) ee_aN))) (ee_cv (yt_X5_slotNumber _ _ _) rfl)) ee_aN)))) (ee_cv (yt_X3_setNumber _ hz (by omega) _) rfl) (es_In1 rfl ?_))
  rw [e]
  rfl
theorem ya_fil_14 {z j : Nat} : ya_fil σ z j 3 14 = upd (upd (upd (σ 14) (3 * z + 0) (ya_slot σ (nI j) (nI 0))) (3 * z + 1) (ya_slot σ (nI j) (nI 1))) (3 * z + 2) (ya_slot σ (nI j) (nI 2)) := by
  show sy_up (sy_up (sy_up σ 14 _ _) 14 _ _) 14 _ _ 14 = _
  rw [yu_eq, yu_eq, yu_eq]
theorem ya_slot_rng (I : yn_I t σ) (s f : Int32) : 0 ≤ (ya_slot σ s f).toInt ∧ (ya_slot σ s f).toInt ≤ 999 := by
  unfold ya_slot
  by_cases h : ((decide (0 ≤ s) && decide (s < 4)) && (decide (0 ≤ f) && decide (f < 3))) = true
  · rw [if_pos h]
    have h' := yl_isSl h
    exact I.2.2.2.2.2.2.2.2.1 _ (by rw [yi_clampInt, yi_clampInt]; omega)
  · rw [if_neg h]
    decide
theorem ya_cw_all {P : Nat → Bool} : ∀ {n : Nat}, (∀ i, i < n → P i = true) → ya_cw P n = n
  | 0, _ => rfl
  | n + 1, h => by
    rw [show ya_cw P (n + 1) = ya_cw P n + (if P n then 1 else 0) from rfl, ya_cw_all (fun i hi => h i (by omega)), h n (by omega)]
    rfl
theorem ya_cw_3 {P Q R S : Nat → Bool} : ∀ {n : Nat}, (∀ i, i < n → (if P i = true then 1 else 0) = (if Q i = true then 1 else 0) + (if R i = true then 1 else 0) + (if S i = true then 1 else 0)) → ya_cw P n = ya_cw Q n + ya_cw R n + ya_cw S n
  | 0, _ => rfl
  | n + 1, h => by
    rw [show ya_cw P (n + 1) = ya_cw P n + (if P n then 1 else 0) from rfl, show ya_cw Q (n + 1) = ya_cw Q n + (if Q n then 1 else 0) from rfl, show ya_cw R (n + 1) = ya_cw R n + (if R n then 1 else 0) from rfl, show ya_cw S (n + 1) = ya_cw S n + (if S n then 1 else 0) from rfl, ya_cw_3 (fun i hi => h i (by omega)), h n (by omega)]
    omega
/-- where less than 60 are there, there is room -/
theorem yg_room (I : yn_I t A) (h : (A 10 9).toInt < 60) : ya_fr A < 60 ∧ ∀ d : Int32, 0 ≤ d.toInt ∧ d.toInt < 3 → (ya_cnt A d).toNatClampNeg < 60 := by
  obtain ⟨w1, w2, w3, w4⟩ := I.2.2.1
  have a0 := w1 0 (by decide)
  have a1 := w1 1 (by decide)
  have a2 := w1 2 (by decide)
  have ec : ∀ n : Nat, n < 3 → ya_cnt A (nI n) = A 16 n := fun n hn => by
    rw [ya_cnt_in (by rw [nI_toInt (by omega)]; omega), nI_clamp (by omega)]
  constructor
  · rcases Nat.lt_or_ge (ya_fr A) 60 with z | z
    · exact z
    · exfalso
      have hall : ∀ i, i < 60 → A 11 i ≠ -1 := fun i hi => by
        unfold ya_fr at z
        cases hf : ya_ff (fun i => decide (A 11 i = -1)) 60 0 with
        | none => exact of_decide_eq_false (ya_ff_none.mp hf i (by omega) (by omega))
        | some j =>
          rw [hf] at z
          have z : 60 ≤ j := z
          have := (ya_ff_some.mp hf).2.1
          omega
      have hl : ∀ i, i < 60 → yl A (nI i) := fun i hi => (yl_lv hi).mpr (hall i hi)
      have hcw : ∀ n : Nat, n < 3 → ya_cw (fun i => decide (ya_sg A 11 (nI i) ≠ -1 ∧ sD A (nI i) = nI n ∧ (yL A (nI i)).toInt < (((ya_cnt A (nI n)).toNatClampNeg : Nat) : Int))) 60 = (ya_cnt A (nI n)).toNatClampNeg := fun n hn => ya_cw_place I (by rw [nI_toInt (by omega)]; omega) _ (by rw [yi_clampInt, ec n hn]; have := w1 n hn; omega)
      have h3 := ya_cw_3 (P := fun _ => true) (n := 60) (Q := fun i => decide (ya_sg A 11 (nI i) ≠ -1 ∧ sD A (nI i) = nI 0 ∧ (yL A (nI i)).toInt < (((ya_cnt A (nI 0)).toNatClampNeg : Nat) : Int))) (R := fun i => decide (ya_sg A 11 (nI i) ≠ -1 ∧ sD A (nI i) = nI 1 ∧ (yL A (nI i)).toInt < (((ya_cnt A (nI 1)).toNatClampNeg : Nat) : Int))) (S := fun i => decide (ya_sg A 11 (nI i) ≠ -1 ∧ sD A (nI i) = nI 2 ∧ (yL A (nI i)).toInt < (((ya_cnt A (nI 2)).toNatClampNeg : Nat) : Int))) (fun i hi => by
        have hli := hl i hi
        have hD := yl_sD I.1 I.2.1 hli
        have hp := yg_pl I hli
        have key : ∀ n : Nat, n < 3 → decide (ya_sg A 11 (nI i) ≠ -1 ∧ sD A (nI i) = nI n ∧ (yL A (nI i)).toInt < (((ya_cnt A (nI n)).toNatClampNeg : Nat) : Int)) = decide ((sD A (nI i)).toInt = (n : Int)) := fun n hn => by
          rw [Bool.eq_iff_iff, decide_eq_true_eq, decide_eq_true_eq]
          constructor
          · rintro ⟨_, g, _⟩
            rw [g, nI_toInt (by omega)]
          · intro g
            have g2 : sD A (nI i) = nI n := yi_ext (by rw [g, nI_toInt (by omega)])
            refine ⟨hli, g2, ?_⟩
            rw [← g2, yi_clampInt]
            omega
        rw [key 0 (by decide), key 1 (by decide), key 2 (by decide)]
        rcases (show (sD A (nI i)).toInt = 0 ∨ (sD A (nI i)).toInt = 1 ∨ (sD A (nI i)).toInt = 2 by omega) with e | e | e
        · rw [e]; decide
        · rw [e]; decide
        · rw [e]; decide)
      rw [ya_cw_all (fun _ _ => rfl), hcw 0 (by decide), hcw 1 (by decide), hcw 2 (by decide), ec 0 (by decide), ec 1 (by decide), ec 2 (by decide), yi_clampInt, yi_clampInt, yi_clampInt] at h3
      omega
  · intro d hd
    have := yg_cnt I hd
    rw [ya_cnt_in hd] at this ⊢
    rw [yi_clampInt]
    rcases (show d.toNatClampNeg = 0 ∨ d.toNatClampNeg = 1 ∨ d.toNatClampNeg = 2 by rw [yi_clampInt]; omega) with e | e | e
    · rw [e]; omega
    · rw [e]; omega
    · rw [e]; omega
end YFs
