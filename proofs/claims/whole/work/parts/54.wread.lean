/-! the turns of the calls that only read -/
section YW3
variable {σ τ A : sy_Mem} {t : Nat}
theorem yw_R_up (H : yw_R t σ) : yw_R (t + 1) σ := ⟨yn_I_up H.1, H.2⟩
/-- a turn of a call with an int for its answer -/
def yw_OK (t : Nat) (σ : sy_Mem) (nc : Nat) (f5 f6 : List Value → sy_MM (Option Value)) (vs : List Value) : Prop := ∃ r σ1 y τ2, f5 (.ref 0 :: vs) σ = some (sy_rI r, σ1) ∧ (∀ E, r = .inr E → 1 ≤ E ∧ E ≤ nc) ∧ f6 (.ref 44 :: vs) (sy_note r σ1) = some (.inl (some (.int y)), τ2) ∧ sy_alike r y τ2 ∧ yw_R (t + 1) τ2
theorem yw_ok_get (H : yw_R t σ) (a1 a2 : Int32) (h : Bool) : yw_OK t σ 2 sf_X5_get sf_X6_get [.int a1, .int a2, .int (ya_b h)] := by
  obtain ⟨r, σ1, y, τ2, g1, g2, g3, g4, g5⟩ := yw_get H a1 a2 h
  exact ⟨r, σ1, y, τ2, g1, g2, g3, g4, yw_R_up g5⟩
theorem yw_reader (H : yw_R t σ) {f5 f6 : List Value → sy_MM (Option Value)} {vs : List Value} (c : Bool) (x : Int32) (h5 : f5 (.ref 0 :: vs) σ = if c then some (.inl (some (.int x)), σ) else some (.inr 1, σ)) (h6 : ∀ τ, yr_M σ τ → f6 (.ref 44 :: vs) τ = some (.inl (some (.int (if c then x else 0))), sy_up τ 44 36 (if c then 0 else 1))) : yw_OK t σ 1 f5 f6 vs := by
  cases c with
  | false =>
    obtain ⟨w1, w2⟩ := yw_throw H (E := 1)
    exact ⟨.inr 1, σ, 0, _, h5, fun E e => (by cases e; decide), h6 _ H.2, w1, yw_R_up w2⟩
  | true =>
    have M0 : yr_M σ (sy_note (.inl x) σ) := yw_note H.2 (fun _ _ _ => rfl) _
    have hf : ym_fw (sy_note (.inl x) σ) (sy_up (sy_note (.inl x) σ) 44 36 0) := ym_fw_up ⟨by decide, by decide⟩
    exact ⟨.inl x, σ, x, _, h5, fun E e => (by cases e), h6 _ M0, yw_alike hf yu_at (fun z hz => by cases hz; rfl), yw_R_up (yw_next H.1 (yr_M_44 M0 ⟨by decide, by decide⟩) hf)⟩
theorem ya_thr1 (c : Bool) : ya_thr c true true = if c then 0 else 1 := by cases c <;> rfl
section
variable {env : List Value} {k : List Value → sy_MM (Option Value)}
/-- the model's answer is what one reads, if there is such a one, or else 0 -/
theorem es_goesQ {as : sy_AE} {e : sy_IE} {c : Bool} {x : Int32} (ha : as env τ = some (.inl [.ref 44, .int (ya_b c), .int (ya_b true), .int (ya_b true)], τ)) (he : c = true → e env (sy_up τ 44 36 0) = some (.inl x, sy_up τ 44 36 0)) : sy_eI (sy_iQ (sy_cI (sy_iM (sy_cv 6 3 sf_X6_goes) as)) e (sy_iK 0)) env k τ = some (.inl (some (.int (if c then x else 0))), sy_up τ 44 36 (if c then 0 else 1)) := by
  refine es_eI ?_
  have hg := ee_goes ha
  rw [ya_thr1] at hg
  cases c
  · exact (ee_iQ (x := x) (z := false) hg (fun h => absurd h (by decide)) (fun _ => ee_K))
  · exact (ee_iQ (y := 0) (z := true) hg (fun _ => he rfl) (fun h => absurd h (by decide)))
theorem es_goesI {as : sy_AE} {c : Bool} {s : sy_S} {x : Int32} (ha : as env τ = some (.inl [.ref 44, .int (ya_b c), .int (ya_b true), .int (ya_b true)], τ)) (hs : c = true → s env k (sy_up τ 44 36 0) = some (.inl (some (.int x)), sy_up τ 44 36 0)) : sy_sQ (sy_sI (sy_cN (sy_cI (sy_iM (sy_cv 6 3 sf_X6_goes) as))) (sy_eI (sy_iK 0)) sy_sN) s env k τ = some (.inl (some (.int (if c then x else 0))), sy_up τ 44 36 (if c then 0 else 1)) := by
  refine es_Q ((es_goes ha).trans ?_)
  rw [ya_thr1]
  cases c
  · rfl
  · exact hs rfl
end
theorem ym_isPlace (M : yr_M A τ) (I : yn_I t A) (d p : Int32) : sf_X6_isPlace [.ref 44, .int d, .int p] τ = some (.inl (some (.int (ya_b (ya_X5_isPlace A d p)))), τ) := by
  refine ee_meth ?_ rfl
  unfold sm_X6_isPlace ya_X5_isPlace
  have e : (decide (0 ≤ d) && decide (d < 3)) = true → (decide (0 ≤ p) && decide (p ≤ ya_cnt A d - 1)) = (decide (0 ≤ p) && decide (p < ya_cnt A d)) := fun h => by
    have hc := yg_cnt I (yl_isD.mp h)
    rw [yl_le1 (x := p) (n := ya_cnt A d - 1) (m := ya_cnt A d)]
    rw [yl_sub (x := ya_cnt A d) (y := 1) (by omega) (by omega) (by decide) (by decide), yl_c1]
    omega
  refine es_eZb (ee_iC (ee_cA (ee_cb (ee_M (ee_aI (ee_L rfl) ee_aN) (ee_cs (ym_isDatabase τ d) rfl))) (fun h => (ee_cb (ee_M (ee_aI (ee_L rfl) (ee_aI ee_K (ee_aI (ee_B (em_57 M (ee_rF (ee_R rfl) rfl) (ee_L rfl) (yl_isD.mp h)) ee_K) ee_aN))) (ee_cs (ym_in τ p 0 _) rfl))).trans (by rw [e h]))))
theorem yg_place {d p : Int32} (h : ya_X5_isPlace A d p = true) : (0 ≤ d.toInt ∧ d.toInt < 3) ∧ (0 ≤ p.toInt ∧ p.toInt < (ya_cnt A d).toInt) := by
  unfold ya_X5_isPlace at h
  rw [Bool.and_eq_true, yl_isD, Bool.and_eq_true, yl_ge, yl_lt, yl_c0] at h
  exact h
-- count
theorem yt_X5_count (W : ya_W σ) (a : Int32) : sf_X5_count [.ref 0, .int a] σ = if (decide (0 ≤ a) && decide (a < 3)) then some (.inl (some (.int (ya_cnt σ a))), σ) else some (.inr 1, σ) := by
  refine ee_meth ?_ rfl
  unfold sm_X5_count
  exact es_Q (es_need (ee_aI (ee_M (ee_aI (ee_L rfl) (ee_aI ee_K ee_aN)) (ee_cs (yt_X5_isIn σ a 3) rfl)) ee_aN) (ee_cs (yt_X5_needIndex σ _) rfl) (fun _ => es_eI (ee_M (ee_aR (ee_rF (ee_R rfl) rfl) (ee_aI (ee_L rfl) ee_aN)) (ee_cv (yt_X3_countOf σ a) rfl))))
theorem yw_ok_count (H : yw_R t σ) (a : Int32) : yw_OK t σ 1 sf_X5_count sf_X6_count [.int a] := by
  refine yw_reader H _ _ (yt_X5_count (yn_Wo H.1) a) (fun τ M => ?_)
  refine ee_meth ?_ rfl
  unfold sm_X6_count
  exact es_goesQ (ee_aR (ee_R rfl) (ee_aI (ee_M (ee_aI (ee_L rfl) ee_aN) (ee_cs (ym_isDatabase τ a) rfl)) (ee_aI (x := ya_b true) ee_K (ee_aI (x := ya_b true) ee_K ee_aN)))) (fun h => em_57 (yr_M_44 M ⟨by decide, by decide⟩) (ee_rF (ee_R rfl) rfl) (ee_L rfl) (yl_isD.mp h))
-- area
theorem yt_X5_area (σ : sy_Mem) (a b : Int32) : sf_X5_area [.ref 0, .int a, .int b] σ = if ((decide (0 ≤ a) && decide (a < 4)) && (decide (0 ≤ b) && decide (b < 3))) then some (.inl (some (.int (ya_slot σ a b))), σ) else some (.inr 1, σ) := by
  refine ee_meth ?_ rfl
  unfold sm_X5_area
  exact es_Q (es_need (ee_aI (ee_iC (ee_cA (ee_cb (ee_M (ee_aI (ee_L rfl) (ee_aI ee_K ee_aN)) (ee_cs (yt_X5_isIn σ a 4) rfl))) (fun _ => ee_cb (ee_M (ee_aI (ee_L rfl) (ee_aI ee_K ee_aN)) (ee_cs (yt_X5_isIn σ b 3) rfl))))) ee_aN) (ee_cs (yt_X5_needIndex σ _) rfl) (fun _ => es_eI (ee_M (ee_aR (ee_R rfl) (ee_aI (ee_L rfl) (ee_aI (ee_L rfl) ee_aN))) (ee_cv (yt_X5_slotNumber σ a b) rfl))))
theorem yl_isSl {a b : Int32} (h : ((decide (0 ≤ a) && decide (a < 4)) && (decide (0 ≤ b) && decide (b < 3))) = true) : (0 ≤ a.toInt ∧ a.toInt < 4) ∧ (0 ≤ b.toInt ∧ b.toInt < 3) := by
  rw [Bool.and_eq_true, yl_isL, yl_isD] at h
  exact h
theorem yw_ok_area (H : yw_R t σ) (a b : Int32) : yw_OK t σ 1 sf_X5_area sf_X6_area [.int a, .int b] := by
  refine yw_reader H _ _ (yt_X5_area σ a b) (fun τ M => ?_)
  refine ee_meth ?_ rfl
  unfold sm_X6_area
  exact es_goesQ (ee_aR (ee_R rfl) (ee_aI (ee_M (ee_aI (ee_L rfl) (ee_aI (ee_L rfl) ee_aN)) (ee_cs (ym_isSlot τ a b) rfl)) (ee_aI (x := ya_b true) ee_K (ee_aI (x := ya_b true) ee_K ee_aN)))) (fun h => em_74 (yr_M_44 M ⟨by decide, by decide⟩) (ee_rF (ee_R rfl) rfl) (ee_L rfl) (ee_L rfl) (yl_isSl h).1 (yl_isSl h).2)
-- rowAt
theorem yt_X5_rowAt (W : ya_W σ) (d p : Int32) : sf_X5_rowAt [.ref 0, .int d, .int p] σ = if ya_X5_isPlace σ d p then some (.inl (some (.int (ya_X3_signOf σ (ya_at σ d p)))), σ) else some (.inr 1, σ) := by
  refine ee_meth ?_ rfl
  unfold sm_X5_rowAt
  exact es_Q (es_need (ee_aI (ee_M (ee_aR (ee_R rfl) (ee_aI (ee_L rfl) (ee_aI (ee_L rfl) ee_aN))) (ee_cv (yt_X5_isPlace W d p) rfl)) ee_aN) (ee_cs (yt_X5_needIndex σ _) rfl) (fun _ => es_eI (ee_M (ee_aR (ee_rF (ee_R rfl) rfl) (ee_aI (ee_M (ee_aR (ee_rF (ee_R rfl) rfl) (ee_aI (ee_L rfl) (ee_aI (ee_L rfl) ee_aN))) (ee_cv (yt_X3_segmentAt W d p) rfl)) ee_aN)) (ee_cv (yt_X3_signOf W _) rfl))))
theorem ym_rowAt (M : yr_M A τ) (I : yn_I t A) (d p : Int32) : sf_X6_rowAt [.ref 44, .int d, .int p] τ = some (.inl (some (.int (if ya_X5_isPlace A d p then ya_X3_signOf A (ya_at A d p) else 0))), sy_up τ 44 36 (if ya_X5_isPlace A d p then 0 else 1)) := by
  refine ee_meth ?_ rfl
  unfold sm_X6_rowAt ya_X3_signOf
  refine es_goesQ (ee_aR (ee_R rfl) (ee_aI (ee_M (ee_aR (ee_R rfl) (ee_aI (ee_L rfl) (ee_aI (ee_L rfl) ee_aN))) (ee_cv (ym_isPlace M I d p) rfl)) (ee_aI (x := ya_b true) ee_K (ee_aI (x := ya_b true) ee_K ee_aN)))) (fun h => ?_)
  obtain ⟨h1, h2⟩ := yg_place h
  have hl := yl_in (yg_at I h1 h2).1
  have M' := yr_M_44 M (i := 36) (x := 0) ⟨by decide, by decide⟩
  have hs : sy_iM (sy_cv 6 2 sf_X6_segmentAt) (sy_aR (sy_rL 0) (sy_aI (sy_iL 1) (sy_aI (sy_iL 2) sy_aN))) [.ref 44, .int d, .int p] (sy_up τ 44 36 0) = some (.inl (ya_at A d p), sy_up τ 44 36 0) := ee_M (ee_aR (ee_R rfl) (ee_aI (ee_L rfl) (ee_aI (ee_L rfl) ee_aN))) (ee_cv (ym_segmentAt M' I d p h1 h2) rfl)
  exact ee_B (ee_B ee_K (em_53 M' (ee_rF (ee_R rfl) rfl) hs hl)) (ee_M (ee_aR (ee_R rfl) (ee_aI hs ee_aN)) (ee_cv (ym_key M' _ hl) rfl))
theorem yw_ok_rowAt (H : yw_R t σ) (d p : Int32) : yw_OK t σ 1 sf_X5_rowAt sf_X6_rowAt [.int d, .int p] :=
  yw_reader H _ _ (yt_X5_rowAt (yn_Wo H.1) d p) (fun τ M => ym_rowAt M H.1 d p)
-- fieldAt
theorem yt_X5_fieldAt (W : ya_W σ) (d p f : Int32) : sf_X5_fieldAt [.ref 0, .int d, .int p, .int f] σ = if (ya_X5_isPlace σ d p && (decide (0 ≤ f) && decide (f < 3))) then some (.inl (some (.int (ya_N σ (ya_at σ d p) f))), σ) else some (.inr 1, σ) := by
  refine ee_meth ?_ rfl
  unfold sm_X5_fieldAt
  exact es_Q (es_need (ee_aI (ee_iC (ee_cA (ee_cb (ee_M (ee_aR (ee_R rfl) (ee_aI (ee_L rfl) (ee_aI (ee_L rfl) ee_aN))) (ee_cv (yt_X5_isPlace W d p) rfl))) (fun _ => ee_cb (ee_M (ee_aI (ee_L rfl) (ee_aI ee_K ee_aN)) (ee_cs (yt_X5_isIn σ f 3) rfl))))) ee_aN) (ee_cs (yt_X5_needIndex σ _) rfl) (fun _ => es_eI (ee_M (ee_aR (ee_rF (ee_R rfl) rfl) (ee_aI (ee_M (ee_aR (ee_rF (ee_R rfl) rfl) (ee_aI (ee_L rfl) (ee_aI (ee_L rfl) ee_aN))) (ee_cv (yt_X3_segmentAt W d p) rfl)) (ee_aI (ee_L rfl) ee_aN))) (ee_cv (yt_X3_numberOf σ _ f) rfl))))
theorem yw_ok_fieldAt (H : yw_R t σ) (d p f : Int32) : yw_OK t σ 1 sf_X5_fieldAt sf_X6_fieldAt [.int d, .int p, .int f] := by
  refine yw_reader H _ _ (yt_X5_fieldAt (yn_Wo H.1) d p f) (fun τ M => ?_)
  have I := H.1
  refine ee_meth ?_ rfl
  unfold sm_X6_fieldAt
  refine es_goesQ (ee_aR (ee_R rfl) (ee_aI (ee_iC ((ee_cA (ee_cb (ee_M (ee_aR (ee_R rfl) (ee_aI (ee_L rfl) (ee_aI (ee_L rfl) ee_aN))) (ee_cv (ym_isPlace M I d p) rfl))) (fun _ => ee_cb (ee_M (ee_aI (ee_L rfl) (ee_aI ee_K (ee_aI ee_K ee_aN))) (ee_cs (ym_in τ f 0 2) rfl)))).trans (by rw [yl_le1 (n := 2) (m := 3) rfl]))) (ee_aI (x := ya_b true) ee_K (ee_aI (x := ya_b true) ee_K ee_aN)))) (fun h => ?_)
  rw [Bool.and_eq_true] at h
  obtain ⟨h1, h2⟩ := yg_place h.1
  have hl := yl_in (yg_at I h1 h2).1
  have M' := yr_M_44 M (i := 36) (x := 0) ⟨by decide, by decide⟩
  exact em_55 M' (ee_rF (ee_R rfl) rfl) (ee_M (ee_aR (ee_R rfl) (ee_aI (ee_L rfl) (ee_aI (ee_L rfl) ee_aN))) (ee_cv (ym_segmentAt M' I d p h1 h2) rfl)) (ee_L rfl) hl (yl_isD.mp h.2)
-- of a view
theorem yv_of {a : Int32} (h : (decide (0 ≤ a) && decide (a < 4)) = true) : a.toNatClampNeg < 4 ∧ a = nI a.toNatClampNeg := by
  have := yl_isL.mp h
  refine ⟨by rw [yi_clampInt]; omega, yi_nat (yi_pos.mpr this.1)⟩
theorem yt_X5_at (σ : sy_Mem) (a : Int32) : sf_X5_at [.ref 0, .int a] σ = if (decide (0 ≤ a) && decide (a < 4)) then some (.inl (some (.int (yL σ (ya_here σ a.toNatClampNeg)))), σ) else some (.inr 1, σ) := by
  refine ee_meth ?_ rfl
  unfold sm_X5_at
  exact es_Q (es_SRx (ee_aR (ee_R rfl) (ee_aI (ee_L rfl) ee_aN)) (ee_cv (yt_X5_viewOf σ a) rfl) (fun hx => es_eI (ee_M (ee_aR (ee_rF (ee_R rfl) rfl) (ee_aI (ee_M (ee_aR (ee_R rfl) ee_aN) (ee_cv (yt_X4_segmentAt σ (yv_of hx).1) (yv_rc (yv_of hx).1 rfl))) ee_aN)) (ee_cv (yt_X3_placeOf σ _) rfl))))
theorem yg_isView (τ : sy_Mem) (a : Int32) (env : List Value) (h0 : env[0]? = some (.ref 44)) (h1 : env[1]? = some (.int a)) : (sy_aR (sy_rL 0) (sy_aI (sy_iM (sy_cs 1 sf_X6_isView) (sy_aI (sy_iL 1) sy_aN)) (sy_aI (sy_iK 1) (sy_aI (sy_iK 1) sy_aN)))) env τ = some (.inl [.ref 44, .int (ya_b (decide (0 ≤ a) && decide (a < 4))), .int (ya_b true), .int (ya_b true)], τ) :=
  ee_aR (ee_R h0) (ee_aI (ee_M (ee_aI (ee_L h1) ee_aN) (ee_cs (ym_isView τ a) rfl)) (ee_aI (x := ya_b true) ee_K (ee_aI (x := ya_b true) ee_K ee_aN)))
theorem yw_ok_at (H : yw_R t σ) (a : Int32) : yw_OK t σ 1 sf_X5_at sf_X6_at [.int a] := by
  refine yw_reader H _ _ (yt_X5_at σ a) (fun τ M => ?_)
  have I := H.1
  refine ee_meth ?_ rfl
  unfold sm_X6_at
  refine es_goesI (yg_isView τ a _ rfl rfl) (fun h => ?_)
  obtain ⟨hv, ea⟩ := yv_of h
  have M' := yr_M_44 M (i := 36) (x := 0) ⟨by decide, by decide⟩
  have e : yL σ (ya_here σ a.toNatClampNeg) = if decide (ya_mode σ a.toNatClampNeg = 0) then yL σ (σ (sy_vw a.toNatClampNeg) 2) else -1 := by
    rcases yg_modes I hv with ⟨_, _, _, _, hm, hh⟩ | ⟨_, _, _, _, hm, hh⟩ | ⟨_, _, _, hm, hh⟩ | ⟨_, _, _, hm, hh⟩
    · rw [hm, hh, if_pos (by decide)]
    · rw [hm, hh, if_neg (by decide)]; rfl
    · rw [hm, hh, if_neg (by decide)]; rfl
    · rw [hm, hh, if_neg (by decide)]; rfl
  rw [e]
  have ec : some (Value.int a) = some (.int (nI a.toNatClampNeg)) := by rw [← ea]
  exact es_eI (ee_iQ (ee_cB (em_61 M' hv (ee_rF (ee_R rfl) rfl) (ee_L ec)) ee_K) (fun h0 => ee_M (ee_aR (ee_R rfl) (ee_aI (em_62 M' hv (ee_rF (ee_R rfl) rfl) (ee_L ec)) ee_aN)) (ee_cv (ym_placeOf M' I _ (yg_mode0 I hv h0)) rfl)) (fun _ => ee_K))
theorem yt_X5_ahead (W : ya_W σ) (a : Int32) : sf_X5_ahead [.ref 0, .int a] σ = if (decide (0 ≤ a) && decide (a < 4)) then some (.inl (some (.int (ya_X5_countAhead σ a.toNatClampNeg))), σ) else some (.inr 1, σ) := by
  refine ee_meth ?_ rfl
  unfold sm_X5_ahead
  have hv := yt_X5_viewOf σ a
  by_cases h : (decide (0 ≤ a) && decide (a < 4)) = true
  · rw [if_pos h] at hv ⊢
    exact es_eI (ee_M (ee_aR (ee_R rfl) (ee_aR (ee_rM (ee_aR (ee_R rfl) (ee_aI (ee_L rfl) ee_aN)) (ee_cv hv rfl)) ee_aN)) (ee_cv (yt_X5_countAhead W (yv_of h).1) rfl))
  · rw [if_neg h] at hv ⊢
    have e1 : sy_rM (sy_cv 5 1 sf_X5_viewOf) (sy_aR (sy_rL 0) (sy_aI (sy_iL 1) sy_aN)) [.ref 0, .int a] σ = some (.inr 1, σ) := by
      unfold sy_rM
      rw [sy_bnd_at (ee_aR (ee_R rfl) (ee_aI (ee_L rfl) ee_aN))]
      exact sy_bnd_ex (ee_cv hv rfl)
    have e2 : (sy_aR (sy_rM (sy_cv 5 1 sf_X5_viewOf) (sy_aR (sy_rL 0) (sy_aI (sy_iL 1) sy_aN))) sy_aN) [.ref 0, .int a] σ = some (.inr 1, σ) := sy_bnd_ex e1
    have e3 : (sy_aR (sy_rL 0) (sy_aR (sy_rM (sy_cv 5 1 sf_X5_viewOf) (sy_aR (sy_rL 0) (sy_aI (sy_iL 1) sy_aN))) sy_aN)) [.ref 0, .int a] σ = some (.inr 1, σ) := (sy_bnd_at (ee_R rfl)).trans (sy_bnd_ex e2)
    have e4 : sy_iM (sy_cv 5 1 sf_X5_countAhead) (sy_aR (sy_rL 0) (sy_aR (sy_rM (sy_cv 5 1 sf_X5_viewOf) (sy_aR (sy_rL 0) (sy_aI (sy_iL 1) sy_aN))) sy_aN)) [.ref 0, .int a] σ = some (.inr 1, σ) := sy_bnd_ex e3
    exact sy_bnd_ex e4
theorem yw_ok_ahead (H : yw_R t σ) (a : Int32) : yw_OK t σ 1 sf_X5_ahead sf_X6_ahead [.int a] := by
  refine yw_reader H _ _ (yt_X5_ahead (yn_Wo H.1) a) (fun τ M => ?_)
  have I := H.1
  refine ee_meth ?_ rfl
  unfold sm_X6_ahead
  refine es_goesI (yg_isView τ a _ rfl rfl) (fun h => ?_)
  obtain ⟨hv, ea⟩ := yv_of h
  have M' := yr_M_44 M (i := 36) (x := 0) ⟨by decide, by decide⟩
  have hmd : yl σ (σ (sy_vw a.toNatClampNeg) 2) ∨ ¬ ya_mode σ a.toNatClampNeg ≤ 1 := by
    rcases yg_modes I hv with ⟨_, _, hl, _, hm, hh⟩ | ⟨_, _, hl, _, hm, hh⟩ | ⟨_, _, _, hm, hh⟩ | ⟨_, _, _, hm, hh⟩
    · exact Or.inl hl
    · exact Or.inl hl
    · right; rw [hm]; decide
    · right; rw [hm]; decide
  have e : ya_X5_countAhead σ a.toNatClampNeg = if decide (ya_mode σ a.toNatClampNeg ≤ 1) then yL σ (σ (sy_vw a.toNatClampNeg) 2) else if decide (ya_mode σ a.toNatClampNeg = 2) then 0 else ya_cnt σ (σ (sy_vw a.toNatClampNeg) 0) := by
    rw [yg_ahead I hv]
    rcases yg_modes I hv with ⟨_, _, hl, _, hm, hh⟩ | ⟨_, _, hl, _, hm, hh⟩ | ⟨_, _, _, hm, hh⟩ | ⟨_, _, _, hm, hh⟩ <;> rw [hm] <;> rfl
  rw [e]
  have ec : some (Value.int a) = some (.int (nI a.toNatClampNeg)) := by rw [← ea]
  exact es_eI (ee_iQ (ee_cB (em_61 M' hv (ee_rF (ee_R rfl) rfl) (ee_L ec)) ee_K) (fun h0 => ee_M (ee_aR (ee_R rfl) (ee_aI (em_62 M' hv (ee_rF (ee_R rfl) rfl) (ee_L ec)) ee_aN)) (ee_cv (ym_placeOf M' I _ (hmd.resolve_right (fun q => q (of_decide_eq_true h0)))) rfl)) (fun _ => ee_iQ (ee_cB (em_61 M' hv (ee_rF (ee_R rfl) rfl) (ee_L ec)) ee_K) (fun _ => ee_K) (fun _ => em_57 M' (ee_rF (ee_R rfl) rfl) (em_59 M' hv (ee_rF (ee_R rfl) rfl) (ee_L ec)) (I.2.2.2.2.2.1 _ hv).1)))
theorem yt_X5_parent (σ : sy_Mem) (a : Int32) : sf_X5_parent [.ref 0, .int a] σ = if (decide (0 ≤ a) && decide (a < 4)) then some (.inl (some (.int (yL σ (σ (sy_vw a.toNatClampNeg) 5)))), σ) else some (.inr 1, σ) := by
  refine ee_meth ?_ rfl
  unfold sm_X5_parent
  exact es_Q (es_SRx (ee_aR (ee_R rfl) (ee_aI (ee_L rfl) ee_aN)) (ee_cv (yt_X5_viewOf σ a) rfl) (fun hx => es_eI (ee_M (ee_aR (ee_rF (ee_R rfl) rfl) (ee_aI (ee_M (ee_aR (ee_R rfl) ee_aN) (ee_cv (yt_X4_parentSegment σ (yv_of hx).1) (yv_rc (yv_of hx).1 rfl))) ee_aN)) (ee_cv (yt_X3_placeOf σ _) rfl))))
theorem yw_ok_parent (H : yw_R t σ) (a : Int32) : yw_OK t σ 1 sf_X5_parent sf_X6_parent [.int a] := by
  refine yw_reader H _ _ (yt_X5_parent σ a) (fun τ M => ?_)
  have I := H.1
  refine ee_meth ?_ rfl
  unfold sm_X6_parent
  refine es_goesI (yg_isView τ a _ rfl rfl) (fun h => ?_)
  obtain ⟨hv, ea⟩ := yv_of h
  have M' := yr_M_44 M (i := 36) (x := 0) ⟨by decide, by decide⟩
  have h5 := (I.2.2.2.2.2.1 _ hv).2.2.2.2.2.1
  have e : yL σ (σ (sy_vw a.toNatClampNeg) 5) = if decide (σ (sy_vw a.toNatClampNeg) 5 = -1) then -1 else yL σ (σ (sy_vw a.toNatClampNeg) 5) := by
    by_cases q : σ (sy_vw a.toNatClampNeg) 5 = -1
    · rw [q]; rfl
    · rw [decide_eq_false q, if_neg (by decide)]
  rw [e]
  have ec : some (Value.int a) = some (.int (nI a.toNatClampNeg)) := by rw [← ea]
  exact es_eI (ee_iQ (ee_cB (em_63 M' hv (ee_rF (ee_R rfl) rfl) (ee_L ec)) ee_K) (fun _ => ee_K) (fun h0 => ee_M (ee_aR (ee_R rfl) (ee_aI (em_63 M' hv (ee_rF (ee_R rfl) rfl) (ee_L ec)) ee_aN)) (ee_cv (ym_placeOf M' I _ (h5.resolve_left (of_decide_eq_false h0)).1) rfl)))
theorem yt_X5_holds (σ : sy_Mem) (a : Int32) : sf_X5_holds [.ref 0, .int a] σ = if (decide (0 ≤ a) && decide (a < 4)) then some (.inl (some (.int (σ (sy_vw a.toNatClampNeg) 6))), σ) else some (.inr 1, σ) := by
  refine ee_meth ?_ rfl
  unfold sm_X5_holds
  exact es_Q (es_SRx (ee_aR (ee_R rfl) (ee_aI (ee_L rfl) ee_aN)) (ee_cv (yt_X5_viewOf σ a) rfl) (fun hx => es_eI (ee_M (ee_aR (ee_R rfl) ee_aN) (ee_cv (yt_X4_heldCount σ (yv_of hx).1) (yv_rc (yv_of hx).1 rfl)))))
theorem yw_ok_holds (H : yw_R t σ) (a : Int32) : yw_OK t σ 1 sf_X5_holds sf_X6_holds [.int a] := by
  refine yw_reader H _ _ (yt_X5_holds σ a) (fun τ M => ?_)
  refine ee_meth ?_ rfl
  unfold sm_X6_holds
  refine es_goesQ (yg_isView τ a _ rfl rfl) (fun h => ?_)
  obtain ⟨hv, ea⟩ := yv_of h
  have ec : some (Value.int a) = some (.int (nI a.toNatClampNeg)) := by rw [← ea]
  exact em_64 (yr_M_44 M ⟨by decide, by decide⟩) hv (ee_rF (ee_R rfl) rfl) (ee_L ec)
-- types, clear
theorem yw_types (H : yw_R t σ) : σ 1 0 = σ 44 0 ∧ yw_R (t + 1) (sy_up σ 44 36 0) := by
  refine ⟨H.2.1.1.symm, ?_⟩
  have h : ∀ k, k < 44 → sy_up σ 44 36 0 k = σ k := fun k hk => yu_ne (by omega)
  exact ⟨yn_I_up (yn_I_lt H.1 h), yr_M_lt (yr_M_44 H.2 ⟨by decide, by decide⟩) h⟩
theorem yw_clear (H : yw_R t σ) : σ 19 0 = σ 44 24 ∧ yw_R (t + 1) (sy_up (sy_up (sy_up σ 19 0 0) 44 24 0) 44 36 0) := by
  refine ⟨H.2.2.2.2.1.symm, ?_⟩
  have h : ∀ k, k < 44 → sy_up (sy_up (sy_up σ 19 0 0) 44 24 0) 44 36 0 k = sy_up σ 19 0 0 k := fun k hk => by rw [yu_ne (by omega), yu_ne (by omega)]
  have M1 : yr_M σ (sy_up σ 19 0 0) := yr_M_ge H.2 (fun k h1 h2 => yu_ne (by omega))
  exact ⟨yn_I_up (yn_I_lt (yn_drop H.1) h), yr_M_lt (yr_M_44 (yr_drop M1 H.1) ⟨by decide, by decide⟩) h⟩
end YW3
