/-! the turns of put, open, argument, condition -/
section YW4
variable {σ τ A : sy_Mem} {t : Nat}
theorem yn_I_n (I : yn_I t σ) (h : yc_base σ τ) (hw : ∀ k, 32 ≤ k → k ≤ 43 → τ k = σ k) (hA : yn_A τ) : yn_I t τ := by
  obtain ⟨iS, iG, iW, iO, iK, iV, iA⟩ := I
  refine ⟨by rw [yn_S_c h]; exact iS, by rw [yn_G_c h]; exact iG, by rw [yn_W_c h]; exact iW, by rw [yn_O_c h]; exact iO, by rw [yn_K_c h]; exact iK, fun w hw4 => ?_, hA⟩
  have hb := yv_lt hw4
  rw [yn_v_c h (hw _ (by omega) (by omega)) (hw _ (by omega) (by omega)) (hw _ (by omega) (by omega))]
  exact iV w hw4
theorem yr_V_n {A' τ' : sy_Mem} (mV : ∀ v, v < 4 → yr_v A τ v) (hw : ∀ k, 32 ≤ k → k ≤ 43 → A' k = A k) (hm : ∀ k, 59 ≤ k → k ≤ 66 → τ' k = τ k) : ∀ v, v < 4 → yr_v A' τ' v := fun w hw4 => by
  have hb := yv_lt hw4
  obtain ⟨m0, m1, m2, m3, m4, m5, m6⟩ := mV w hw4
  have h0 := hw (sy_vw w) (by omega) (by omega)
  refine ⟨?_, ?_, ?_, ?_, ?_, ?_, ?_⟩
  · rw [hm 59 (by decide) (by decide), h0]; exact m0
  · rw [hm 60 (by decide) (by decide), h0]; exact m1
  · rw [hm 61 (by decide) (by decide), ya_mode_c (v := w) h0]; exact m2
  · rw [hm 62 (by decide) (by decide), h0]; exact m3
  · rw [hm 63 (by decide) (by decide), h0]; exact m4
  · rw [hm 64 (by decide) (by decide), h0]; exact m5
  · rw [hm 65 (by decide) (by decide), hm 66 (by decide) (by decide), h0, hw _ (by omega) (by omega), hw _ (by omega) (by omega)]; exact m6
theorem yw_writer (H : yw_R t σ) {f5 f6 : List Value → sy_MM (Option Value)} {vs : List Value} {a b c : Bool} {x : Int32} {σ1 : sy_Mem} {nc : Nat} (hnc : 1 ≤ nc ∧ (a = true → b = false → 2 ≤ nc) ∧ (a = true → b = true → c = false → 3 ≤ nc))
    (h5 : f5 (.ref 0 :: vs) σ = if a then (if b then (if c then some (.inl (some (.int x)), σ1) else some (.inr 3, σ)) else some (.inr 2, σ)) else some (.inr 1, σ))
    (hok : a = true → b = true → c = true → yn_I (t + 1) σ1 ∧ (∀ k, 44 ≤ k → k ≤ 76 → σ1 k = σ k))
    (h6 : ∀ τ, yr_M σ τ → (a = true → b = true → c = true → ∃ τ2, f6 (.ref 44 :: vs) τ = some (.inl (some (.int x)), τ2) ∧ yr_M σ1 τ2 ∧ ym_fw τ τ2 ∧ τ2 44 36 = 0) ∧ (((a && b) && c) = false → ∃ y, f6 (.ref 44 :: vs) τ = some (.inl (some (.int y)), sy_up τ 44 36 (ya_thr a b c)))) : yw_OK t σ nc f5 f6 vs := by
  have hfail : ∀ E : Nat, 1 ≤ E → E ≤ nc → f5 (.ref 0 :: vs) σ = some (.inr E, σ) → ((a && b) && c) = false → ya_thr a b c = Int32.ofNat E → yw_OK t σ nc f5 f6 vs := fun E h1 h2 h3 h4 h5' => by
    obtain ⟨w1, w2⟩ := yw_throw H (E := E)
    obtain ⟨y, hy⟩ := (h6 σ H.2).2 h4
    rw [h5'] at hy
    refine ⟨.inr E, σ, y, _, h3, fun E' e => (by cases e; exact ⟨h1, h2⟩), hy, ⟨w1.1, fun x hx => by cases hx⟩, yw_R_up w2⟩
  cases a with
  | false => exact hfail 1 (by decide) hnc.1 h5 rfl rfl
  | true =>
    cases b with
    | false => exact hfail 2 (by decide) (hnc.2.1 rfl rfl) h5 rfl rfl
    | true =>
      cases c with
      | false => exact hfail 3 (by decide) (hnc.2.2 rfl rfl rfl) h5 rfl rfl
      | true =>
        obtain ⟨i1, i2⟩ := hok rfl rfl rfl
        obtain ⟨τ2, g1, g2, g3, g4⟩ := (h6 _ (yw_note H.2 i2 (.inl x))).1 rfl rfl rfl
        exact ⟨.inl x, σ1, x, τ2, h5, fun E e => (by cases e), g1, yw_alike g3 g4 (fun z hz => by cases hz; rfl), yw_next i1 g2 g3⟩
/-- a turn of a call without an answer -/
def yw_OKU (t : Nat) (σ : sy_Mem) (nc : Nat) (f5 f6 : List Value → sy_MM (Option Value)) (vs : List Value) : Prop := ∃ r σ1 τ2, f5 (.ref 0 :: vs) σ = some (sy_rU r, σ1) ∧ (∀ E, r = .inr E → 1 ≤ E ∧ E ≤ nc) ∧ f6 (.ref 44 :: vs) σ1 = some (.inl none, τ2) ∧ τ2 44 36 = sy_codU r ∧ yw_R (t + 1) τ2
theorem yw_writerU (H : yw_R t σ) {f5 f6 : List Value → sy_MM (Option Value)} {vs : List Value} {a b c : Bool} {σ1 : sy_Mem} {nc : Nat} (hnc : 1 ≤ nc ∧ (a = true → b = false → 2 ≤ nc) ∧ (a = true → b = true → c = false → 3 ≤ nc))
    (h5 : f5 (.ref 0 :: vs) σ = if a then (if b then (if c then some (.inl none, σ1) else some (.inr 3, σ)) else some (.inr 2, σ)) else some (.inr 1, σ))
    (hok : a = true → b = true → c = true → yn_I (t + 1) σ1 ∧ (∀ k, 44 ≤ k → k ≤ 76 → σ1 k = σ k))
    (h6 : ∀ τ, yr_M σ τ → (a = true → b = true → c = true → ∃ τ2, f6 (.ref 44 :: vs) τ = some (.inl none, τ2) ∧ yr_M σ1 τ2 ∧ ym_fw τ τ2 ∧ τ2 44 36 = 0) ∧ (((a && b) && c) = false → f6 (.ref 44 :: vs) τ = some (.inl none, sy_up τ 44 36 (ya_thr a b c)))) : yw_OKU t σ nc f5 f6 vs := by
  have hfail : ∀ E : Nat, 1 ≤ E → E ≤ nc → f5 (.ref 0 :: vs) σ = some (.inr E, σ) → ((a && b) && c) = false → ya_thr a b c = Int32.ofNat E → yw_OKU t σ nc f5 f6 vs := fun E h1 h2 h3 h4 h5' => by
    obtain ⟨w1, w2⟩ := yw_throw H (E := E)
    have hy := (h6 σ H.2).2 h4
    rw [h5'] at hy
    exact ⟨.inr E, σ, _, h3, fun E' e => (by cases e; exact ⟨h1, h2⟩), hy, yu_at, yw_R_up w2⟩
  cases a with
  | false => exact hfail 1 (by decide) hnc.1 h5 rfl rfl
  | true =>
    cases b with
    | false => exact hfail 2 (by decide) (hnc.2.1 rfl rfl) h5 rfl rfl
    | true =>
      cases c with
      | false => exact hfail 3 (by decide) (hnc.2.2 rfl rfl rfl) h5 rfl rfl
      | true =>
        obtain ⟨i1, i2⟩ := hok rfl rfl rfl
        obtain ⟨τ2, g1, g2, g3, g4⟩ := (h6 _ (yr_M_ge H.2 i2)).1 rfl rfl rfl
        exact ⟨.inl (), σ1, τ2, h5, fun E e => (by cases e), g1, g4, yn_I_lt i1 (fun k hk => g3 k (Or.inl hk)), yr_M_lt g2 (fun k hk => g3 k (Or.inl hk))⟩
-- put
theorem yt_X5_put (σ : sy_Mem) (a b x : Int32) : sf_X5_put [.ref 0, .int a, .int b, .int x] σ = if ((decide (0 ≤ a) && decide (a < 4)) && (decide (0 ≤ b) && decide (b < 3))) then (if (decide (0 ≤ x) && decide (x < 1000)) then (if true then some (.inl (some (.int (ya_slot σ a b))), sy_up σ 31 (3 * a.toNatClampNeg + b.toNatClampNeg) x) else some (.inr 3, σ)) else some (.inr 2, σ)) else some (.inr 1, σ) := by
  refine ee_meth ?_ rfl
  unfold sm_X5_put
  exact es_Q (es_need (ee_aI (ee_iC (ee_cA (ee_cb (ee_M (ee_aI (ee_L rfl) (ee_aI ee_K ee_aN)) (ee_cs (yt_X5_isIn σ a 4) rfl))) (fun _ => ee_cb (ee_M (ee_aI (ee_L rfl) (ee_aI ee_K ee_aN)) (ee_cs (yt_X5_isIn σ b 3) rfl))))) ee_aN) (ee_cs (yt_X5_needIndex σ _) rfl) (fun h => es_Q (es_need (ee_aI (ee_M (ee_aI (ee_L rfl) (ee_aI ee_K ee_aN)) (ee_cs (yt_X5_isIn σ x 1000) rfl)) ee_aN) (ee_cs (yt_X5_needRange σ _) rfl) (fun _ => es_Q (es_SI (ee_M (ee_aR (ee_R rfl) (ee_aI (ee_L rfl) (ee_aI (ee_L rfl) ee_aN))) (ee_cv (yt_X5_slotNumber σ a b) rfl)) (es_Q (es_C (ee_aR (ee_R rfl) (ee_aI (ee_L rfl) (ee_aI (ee_L rfl) (ee_aI (ee_L rfl) ee_aN)))) (ee_cv (yt_X5_setSlotNumber σ a b x (yl_isSl h).1 (yl_isSl h).2) rfl) ((es_eI (ee_L rfl)).trans (if_pos rfl).symm))))))))
theorem yl_isN {x : Int32} : ((decide (0 ≤ x) && decide (x < 1000)) = true) = (0 ≤ x.toInt ∧ x.toInt < 1000) := by
  rw [Bool.and_eq_true, yl_ge, yl_lt, yl_c0]
  rfl
theorem yw_ok_put (H : yw_R t σ) (a b x : Int32) : yw_OK t σ 2 sf_X5_put sf_X6_put [.int a, .int b, .int x] := by
  refine yw_writer H (nc := 2) ⟨by decide, fun _ _ => by decide, fun _ _ h => by cases h⟩ (yt_X5_put σ a b x) (fun h1 h2 _ => ?_) (fun τ M => ?_)
  · have hs := yl_isSl h1
    have hx := yl_isN.mp h2
    have hk : ∀ k, k ≠ 31 → sy_up σ 31 (3 * a.toNatClampNeg + b.toNatClampNeg) x k = σ k := fun k h => yu_ne h
    refine ⟨yn_I_up (yn_I_n H.1 (fun k h => hk k (by omega)) (fun k h1 h2 => hk k (by omega)) (yn_A_c (hk 1 (by decide)) (fun k h1 h2 => hk k (by omega)) (fun i hi => ?_) H.1.2.2.2.2.2.2)), fun k h1 _ => hk k (by omega)⟩
    by_cases e : i = 3 * a.toNatClampNeg + b.toNatClampNeg
    · rw [e, yu_at]; omega
    · rw [yu_an e]; exact H.1.2.2.2.2.2.2.2.2.1 i hi
  · have hg : (sy_aR (sy_rL 0) (sy_aI (sy_iM (sy_cs 2 sf_X6_isSlot) (sy_aI (sy_iL 1) (sy_aI (sy_iL 2) sy_aN))) (sy_aI (sy_iM (sy_cs 1 sf_X6_isNumber) (sy_aI (sy_iL 3) sy_aN)) (sy_aI (sy_iK 1) sy_aN)))) [.ref 44, .int a, .int b, .int x] τ = some (.inl [.ref 44, .int (ya_b ((decide (0 ≤ a) && decide (a < 4)) && (decide (0 ≤ b) && decide (b < 3)))), .int (ya_b (decide (0 ≤ x) && decide (x < 1000))), .int (ya_b true)], τ) := ee_aR (ee_R rfl) (ee_aI (ee_M (ee_aI (ee_L rfl) (ee_aI (ee_L rfl) ee_aN)) (ee_cs (ym_isSlot τ a b) rfl)) (ee_aI (ee_M (ee_aI (ee_L rfl) ee_aN) (ee_cs (ym_isNumber τ x) rfl)) (ee_aI (x := ya_b true) ee_K ee_aN)))
    refine ⟨fun h1 h2 _ => ?_, fun h => ⟨0, ?_⟩⟩
    · have hs := yl_isSl h1
      have M' := yr_M_44 M (i := 36) (x := 0) ⟨by decide, by decide⟩
      have e1 := yl_ix (c := 3) (n := 4) (m := 3) yl_c3 hs.1.1 hs.1.2 (by omega) hs.2.1 hs.2.2
      rw [Int32.mul_comm] at e1
      refine ⟨sy_up (sy_up τ 44 36 0) 74 (3 * a.toNatClampNeg + b.toNatClampNeg) x, ?_, ?_, ym_fw_trans (ym_fw_up ⟨by decide, by decide⟩) (ym_fw_up ⟨by decide, by decide⟩), by rw [yu_ne (by decide), yu_at]⟩
      · refine ee_meth ?_ rfl
        unfold sm_X6_put
        refine es_Q ((es_goes hg).trans ?_)
        rw [h1, h2, if_pos (show ((true && true) && true) = true from rfl)]
        refine es_Q (es_SI (em_74 M' (ee_rF (ee_R rfl) rfl) (ee_L rfl) (ee_L rfl) hs.1 hs.2) (es_Q (es_W (ee_rF (ee_R rfl) rfl) (ee_B (ee_B ee_K (ee_L rfl)) (ee_L rfl)) (ee_L rfl) e1.2.2 ?_)))
        rw [e1.2.1]
        exact es_eI (ee_L rfl)
      · have hk : ∀ k, k ≠ 31 → sy_up σ 31 (3 * a.toNatClampNeg + b.toNatClampNeg) x k = σ k := fun k h => yu_ne h
        have hj : ∀ k, k ≠ 74 → sy_up (sy_up τ 44 36 0) 74 (3 * a.toNatClampNeg + b.toNatClampNeg) x k = sy_up τ 44 36 0 k := fun k h => yu_ne h
        obtain ⟨mS, mG, mV, mA⟩ := M'
        refine ⟨yr_S_c mS (fun k h => hk k (by omega)) (congrFun (hj 44 (by decide)) 0) (fun k h1 h2 => hj k (by omega)), yr_G_c mG (fun k h => hk k (by omega)) (fun k h1 h2 => hj k (by omega)), yr_V_n mV (fun k h1 h2 => hk k (by omega)) (fun k h1 h2 => hj k (by omega)), yr_A_c mA (fun k h1 h2 => hk k (by omega)) (congrFun (hj 44 (by decide)) 24) (fun k h1 h2 => hj k (by omega)) (by rw [yu_eq, yu_eq, mA.2.2.2.2.2.2.2.2])⟩
    · refine ee_meth ?_ rfl
      unfold sm_X6_put
      refine es_Q ((es_goes hg).trans ?_)
      rw [if_neg (by rw [h]; decide)]
end YW4
