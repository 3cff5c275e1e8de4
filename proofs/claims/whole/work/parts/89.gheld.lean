/-! what held ones need, gathered -/
section YGh
variable {A B τ τ' : sy_Mem} {t n N v : Nat} {hl : Nat → Int32} {kp : Nat → Bool}
/-- nothing is needed by the held one -/
def ya_hk (A : sy_Mem) (hl : Nat → Int32) (kp : Nat → Bool) (n : Nat) : Bool := kp n || decide (ya_N A (hl n) 2 = ya_slot A (nI n) 2)
def ya_gh (A : sy_Mem) (hl : Nat → Int32) (kp : Nat → Bool) : Nat → sy_Mem
  | 0 => sy_up (sy_up A 27 0 0) 27 1 0
  | n + 1 => if ya_hk A hl kp n = true then ya_gh A hl kp n else ya_nr (ya_gh A hl kp n) (yT A (hl n)) (ya_slot A (nI n) 2)
def ym_gh (τ A : sy_Mem) (hl : Nat → Int32) (kp : Nat → Bool) : Nat → sy_Mem
  | 0 => sy_up τ 44 33 0
  | n + 1 => if ya_hk A hl kp n = true then ym_gh τ A hl kp n else ym_nr (ym_gh τ A hl kp n) (ya_gh A hl kp n) (yT A (hl n)) (ya_slot A (nI n) 2)
theorem yq_gh (I : yn_I t A) (M : yr_M A τ) (hN : N ≤ 4) (hlv : ∀ i, i < N → yl A (hl i)) : ∀ n : Nat, n ≤ N → yn_I t (ya_gh A hl kp n) ∧ yr_M (ya_gh A hl kp n) (ym_gh τ A hl kp n) ∧ yq (ya_gh A hl kp n) (ym_gh τ A hl kp n) n ∧ yq_f A (ya_gh A hl kp n) ∧ yq_g τ (ym_gh τ A hl kp n) ∧ (ya_gh A hl kp n 27 1 = 0 ∨ ya_gh A hl kp n 27 1 = 1)
  | 0, _ => by
    obtain ⟨g1, g2, g3, g4, g5, g6, g7⟩ := yq_start I M (P := fun _ _ => True)
    exact ⟨g1, g2, g3, g4, g5, Or.inl g7⟩
  | n + 1, h => by
    obtain ⟨g1, g2, g3, g4, g5, g7⟩ := yq_gh I M hN hlv n (by omega)
    by_cases ho : ya_hk A hl kp n = true
    · rw [show ya_gh A hl kp (n + 1) = ya_gh A hl kp n from if_pos ho, show ym_gh τ A hl kp (n + 1) = ym_gh τ A hl kp n from if_pos ho]
      obtain ⟨q1, q2, q3, q4⟩ := g3
      exact ⟨g1, g2, ⟨q1, ⟨q2.1, by omega⟩, q3, q4⟩, g4, g5, g7⟩
    · rw [show ya_gh A hl kp (n + 1) = ya_nr (ya_gh A hl kp n) (yT A (hl n)) (ya_slot A (nI n) 2) from if_neg ho, show ym_gh τ A hl kp (n + 1) = ym_nr (ym_gh τ A hl kp n) (ya_gh A hl kp n) (yT A (hl n)) (ya_slot A (nI n) 2) from if_neg ho]
      have hty : ya_isT (ya_gh A hl kp n) (yT A (hl n)) = true := by
        rw [ya_isT_c (g4 1 (by decide))]
        exact (I.2.1.1 _ (hlv n (by omega))).1
      have hk := ya_slot_rng I (nI n) 2
      have hI := yn_I_nr g1 g3 (by omega) hty hk
      exact ⟨hI, yq_g_M (yr_M_nd g2 ya_nr_f) ym_nr_g, yq_nr g1 g3 (by omega) hty hk, yq_f_trans g4 ya_nr_f, yq_g_trans g5 ym_nr_g, hI.2.2.2.2.2.2.2.2.2.2⟩
theorem ya_gh_lo (h : yo_lo A B) : ∀ n, yo_lo (ya_gh A hl kp n) (ya_gh B hl kp n)
  | 0 => yo_lo_up (yo_lo_up h)
  | n + 1 => by
    have e : ya_hk B hl kp n = ya_hk A hl kp n := by
      unfold ya_hk ya_N
      rw [h 14 (by decide), ya_slot_c (h 31 (by decide))]
    have eT : yT B (hl n) = yT A (hl n) := ya_sg_c (h 11 (by decide)) _
    unfold ya_gh
    rw [e, eT, ya_slot_c (h 31 (by decide))]
    by_cases ho : ya_hk A hl kp n = true
    · rw [if_pos ho, if_pos ho]; exact ya_gh_lo h n
    · rw [if_neg ho, if_neg ho]; exact ya_nr_lo (ya_gh_lo h n)
theorem ya_held_c (h0 : B (sy_vw v) = A (sy_vw v)) (h1 : B (sy_vw v + 1) = A (sy_vw v + 1)) (i : Int32) : ya_held B v i = ya_held A v i := by
  unfold ya_held
  rw [h0, h1]
theorem ya_kept_c (h0 : B (sy_vw v) = A (sy_vw v)) (h1 : B (sy_vw v + 2) = A (sy_vw v + 2)) (i : Int32) : ya_kept B v i = ya_kept A v i := by
  unfold ya_kept
  rw [h0, h1]
/-- what a view holds -/
theorem yv_held (I : yn_I t A) (hv : v < 4) {i : Nat} (hi : (i : Int) < (A (sy_vw v) 6).toInt) : ya_held A v (nI i) = A (sy_vw v + 1) i ∧ ya_kept A v (nI i) = !decide (A (sy_vw v + 2) i = 0) ∧ yl A (ya_held A v (nI i)) := by
  have h7 := (I.2.2.2.2.2.1 v hv).2.2.2.2.2.2
  have hc : ((decide (0 ≤ nI i) && decide (nI i < A (sy_vw v) 6)) && decide (nI i < 4)) = true := by
    rw [Bool.and_eq_true, Bool.and_eq_true, decide_eq_true_eq, decide_eq_true_eq, decide_eq_true_eq, yi_pos, Int32.lt_iff_toInt_lt, Int32.lt_iff_toInt_lt, nI_toInt (by omega), show (4 : Int32).toInt = 4 from rfl]
    omega
  have e1 : ya_held A v (nI i) = A (sy_vw v + 1) i := by
    unfold ya_held
    rw [if_pos hc, nI_clamp (by omega)]
  refine ⟨e1, ?_, ?_⟩
  · unfold ya_kept
    rw [hc, nI_clamp (by omega), Bool.true_and]
  · rw [e1]
    exact (h7.2 i hi).1
theorem yv_hold (I : yn_I t A) (hv : v < 4) : ((A (sy_vw v) 6).toNatClampNeg : Int) = (A (sy_vw v) 6).toInt ∧ (A (sy_vw v) 6).toNatClampNeg ≤ 4 ∧ A (sy_vw v) 6 = nI (A (sy_vw v) 6).toNatClampNeg := by
  have h6 := (I.2.2.2.2.2.1 v hv).2.2.2.2.2.2.1
  refine ⟨by rw [yi_clampInt]; omega, by rw [yi_clampInt]; omega, yi_nat (yi_pos.mpr h6.1)⟩
theorem yt_X5_gatherNeedsOfHeld (I : yn_I t A) (M : yr_M A τ) (hv : v < 4) : sf_X5_gatherNeedsOfHeld [.ref 0, .ref (sy_vw v)] A = some (.inl none, ya_gh A (fun i => ya_held A v (nI i)) (fun i => ya_kept A v (nI i)) (A (sy_vw v) 6).toNatClampNeg) := by
  have hb := yv_lt hv
  obtain ⟨h1, h4, h6⟩ := yv_hold I hv
  have hlv : ∀ i, i < (A (sy_vw v) 6).toNatClampNeg → yl A ((fun i => ya_held A v (nI i)) i) := fun i hi => (yv_held I hv (by omega)).2.2
  refine ee_meth ?_ rfl
  unfold sm_X5_gatherNeedsOfHeld
  refine es_Q (es_Q (es_C (σ2 := ya_gh A (fun i => ya_held A v (nI i)) (fun i => ya_kept A v (nI i)) 0) (ee_aR (ee_rF (ee_R rfl) rfl) ee_aN) rfl (es_B (es_Q (es_SI ee_K0 ?_)))))
  refine es_loop (E := fun n => [.ref 0, .ref (sy_vw v), .int (nI n)]) (S := fun n => ya_gh A (fun i => ya_held A v (nI i)) (fun i => ya_kept A v (nI i)) n) (A (sy_vw v) 6).toNatClampNeg 0 1000 (by omega) (fun n _ h2 => ?_) ?_ (fun n _ h2 k' => ?_) ?_
  · have g := yq_gh (kp := fun i => ya_kept A v (nI i)) I M h4 hlv n (by omega)
    exact (es_cB (B := A (sy_vw v) 6) rfl ((ee_M (ee_aR (ee_R rfl) ee_aN) (ee_cv (yt_X4_heldCount _ hv) (yv_rc hv rfl))).trans (by rw [g.2.2.2.1 (sy_vw v) (by omega)])) (by omega)).trans (by rw [decide_eq_true (by omega)])
  · have g := yq_gh (kp := fun i => ya_kept A v (nI i)) I M h4 hlv (0 + (A (sy_vw v) 6).toNatClampNeg) (by omega)
    exact (es_cB (B := A (sy_vw v) 6) rfl ((ee_M (ee_aR (ee_R rfl) ee_aN) (ee_cv (yt_X4_heldCount _ hv) (yv_rc hv rfl))).trans (by rw [g.2.2.2.1 (sy_vw v) (by omega)])) (by omega)).trans (by rw [decide_eq_false (by omega)])
  · obtain ⟨g1, g2, g3, g4, g5, g7⟩ := yq_gh (kp := fun i => ya_kept A v (nI i)) I M h4 hlv n (by omega)
    have W := yn_Wo g1
    have es : ∀ a b : Int32, ya_slot (ya_gh A (fun i => ya_held A v (nI i)) (fun i => ya_kept A v (nI i)) n) a b = ya_slot A a b := fun a b => ya_slot_c (g4 31 (by decide)) a b
    have eh : ya_held (ya_gh A (fun i => ya_held A v (nI i)) (fun i => ya_kept A v (nI i)) n) v (nI n) = ya_held A v (nI n) := ya_held_c (g4 _ (by omega)) (g4 _ (by omega)) _
    have ek : ya_kept (ya_gh A (fun i => ya_held A v (nI i)) (fun i => ya_kept A v (nI i)) n) v (nI n) = ya_kept A v (nI n) := ya_kept_c (g4 _ (by omega)) (g4 _ (by omega)) _
    refine es_Q (es_B (es_Q (es_SI (x := ya_held A v (nI n)) (σ1 := ya_gh A (fun i => ya_held A v (nI i)) (fun i => ya_kept A v (nI i)) n) ((ee_M (ee_aR (ee_R rfl) (ee_aI (ee_L rfl) ee_aN)) (ee_cv (yt_X4_heldAt _ hv _) (yv_rc hv rfl))).trans (by rw [eh])) (es_Q (es_SI (x := ya_slot A (nI n) 2) (σ1 := ya_gh A (fun i => ya_held A v (nI i)) (fun i => ya_kept A v (nI i)) n) ((ee_M (ee_aR (ee_R rfl) (ee_aI (ee_L rfl) (ee_aI ee_K ee_aN))) (ee_cv (yt_X5_slotNumber _ _ _) rfl)).trans (by rw [es])) ?_)))))
    have hcond : sy_cA (sy_cN (sy_cI (sy_iM (sy_cv 4 1 sf_X4_isKept) (sy_aR (sy_rL 1) (sy_aI (sy_iL 2) sy_aN))))) (sy_cne (sy_iM (sy_cv 3 2 sf_X3_numberOf) (sy_aR (sy_rF 5 1 (sy_rL 0)) (sy_aI (sy_iL 3) (sy_aI (sy_iK 2) sy_aN)))) (sy_iL 4)) [.ref 0, .ref (sy_vw v), .int (nI n), .int (ya_held A v (nI n)), .int (ya_slot A (nI n) 2)] (ya_gh A (fun i => ya_held A v (nI i)) (fun i => ya_kept A v (nI i)) n) = some (.inl (!ya_hk A (fun i => ya_held A v (nI i)) (fun i => ya_kept A v (nI i)) n), ya_gh A (fun i => ya_held A v (nI i)) (fun i => ya_kept A v (nI i)) n) := by
      refine (ee_cA (ee_cN (ee_cb (ee_M (ee_aR (ee_R rfl) (ee_aI (ee_L rfl) ee_aN)) (ee_cv (yt_X4_isKept _ hv _) (yv_rc hv rfl))))) (fun _ => ee_cB (ee_M (ee_aR (ee_rF (ee_R rfl) rfl) (ee_aI (ee_L rfl) (ee_aI ee_K ee_aN))) (ee_cv (yt_X3_numberOf _ _ _) rfl)) (ee_L rfl))).trans ?_
      rw [ek, ya_N_nd g4]
      unfold ya_hk
      rw [Bool.not_or]
    by_cases ho : ya_hk A (fun i => ya_held A v (nI i)) (fun i => ya_kept A v (nI i)) n = true
    · rw [show ya_gh A (fun i => ya_held A v (nI i)) (fun i => ya_kept A v (nI i)) (n + 1) = ya_gh A (fun i => ya_held A v (nI i)) (fun i => ya_kept A v (nI i)) n from if_pos ho]
      exact es_If (hcond.trans (by rw [ho]; rfl)) (es_N (es_In1 rfl rfl))
    · rw [show ya_gh A (fun i => ya_held A v (nI i)) (fun i => ya_kept A v (nI i)) (n + 1) = ya_nr (ya_gh A (fun i => ya_held A v (nI i)) (fun i => ya_kept A v (nI i)) n) (yT A (ya_held A v (nI n))) (ya_slot A (nI n) 2) from if_neg ho]
      exact es_It (hcond.trans (by rw [show ya_hk A (fun i => ya_held A v (nI i)) (fun i => ya_kept A v (nI i)) n = false by simpa using ho]; rfl)) (es_C (ee_aR (ee_R rfl) (ee_aI (x := yT A (ya_held A v (nI n))) ((ee_M (ee_aR (ee_rF (ee_R rfl) rfl) (ee_aI (ee_L rfl) ee_aN)) (ee_cv (yt_X3_typeOf _ _) rfl)).trans (by rw [ya_sg_c (g4 11 (by decide))])) (ee_aI (ee_L rfl) ee_aN))) (ee_cv (yt_X5_needRoot W g3.2.1.1 (by have := g3.2.1.2; omega) _ _) rfl) (es_In1 rfl rfl))
  · rw [Nat.zero_add]
    rfl
end YGh
