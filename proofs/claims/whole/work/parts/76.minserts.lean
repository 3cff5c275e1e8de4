/-! the model's inserts -/
section YMi
variable {A τ : sy_Mem} {t : Nat} {ty p key here view : Int32}
theorem ya_cw_lt {P : Nat} : ∀ (n : Nat), ya_cw (fun i => decide (i < P)) n = if n ≤ P then n else P
  | 0 => by rw [if_pos (by omega)]; rfl
  | n + 1 => by
    rw [show ya_cw (fun i => decide (i < P)) (n + 1) = ya_cw (fun i => decide (i < P)) n + (if decide (n < P) then 1 else 0) from rfl, ya_cw_lt n]
    by_cases h : n < P
    · rw [if_pos (by omega), decide_eq_true h, if_pos rfl, if_pos (by omega)]
    · rw [decide_eq_false h, if_neg (show ¬ (false = true) by decide), if_neg (show ¬ n + 1 ≤ P by omega)]
      by_cases e : n ≤ P
      · rw [if_pos e]; omega
      · rw [if_neg e]; omega
/-- what the model's other cells are: as before -/
def ym_fi (τ τ' : sy_Mem) : Prop := ∀ k, k ≤ 52 ∨ 58 < k → τ' k = τ k
theorem ym_fi_fr {τ' : sy_Mem} (h : ym_fi τ τ') : ym_fr τ τ' := fun k hk => h k (by omega)
theorem ym_fi_trans {τ' τ'' : sy_Mem} (h1 : ym_fi τ τ') (h2 : ym_fi τ' τ'') : ym_fi τ τ'' := fun k hk => (h2 k hk).trans (h1 k hk)
def ym_ins (τ : sy_Mem) (A : sy_Mem) (ty p key here : Int32) : sy_Mem :=
  sy_up (sy_up (sy_up (sy_up (sy_up (sy_up (ya_cell τ 58 (upd (ya_shf (τ 58) (60 * (tD A ty).toNatClampNeg) (ya_cnt A (tD A ty)).toNatClampNeg ((ya_cnt A (tD A ty)).toNatClampNeg - ya_plc A ty p key here)) (60 * (tD A ty).toNatClampNeg + ya_plc A ty p key here) (nI (ya_fr A)))) 57 (tD A ty).toNatClampNeg (τ 57 (tD A ty).toNatClampNeg + 1)) 53 (ya_fr A) ty) 54 (ya_fr A) p) 55 (3 * ya_fr A) key) 55 (3 * ya_fr A + 1) 0) 55 (3 * ya_fr A + 2) 0
theorem ym_ins_fi : ym_fi τ (ym_ins τ A ty p key here) := fun k hk => by
  unfold ym_ins
  rw [yu_ne (by omega), yu_ne (by omega), yu_ne (by omega), yu_ne (by omega), yu_ne (by omega), yu_ne (by omega), yd_ne (by omega)]
theorem yr_ins (M : yr_M A τ) (H : yx_H t A ty p key here) : yr_M (ya_add A ty p key here) (ym_ins τ A ty p key here) := by
  obtain ⟨mS, ⟨m53, m54, m55, m57, m58⟩, mV, mA⟩ := M
  have f : ∀ k, k ≤ 52 ∨ 58 < k → ym_ins τ A ty p key here k = τ k := ym_ins_fi
  have hD := yb_D H.1 H.2.1
  refine ⟨?_, ⟨?_, fun i hi hl => ?_, ?_, ?_, ?_⟩, fun v hv => ?_, ?_⟩
  · obtain ⟨a0, a1, a2, a3, a4, a5, a6, a7, a8⟩ := mS
    refine ⟨?_, ?_, ?_, ?_, ?_, ?_, ?_, ?_, ?_⟩
    · rw [f 44 (by omega), yx_lo (by decide)]; exact a0
    · rw [f 45 (by omega), yx_lo (by decide)]; exact a1
    · rw [f 46 (by omega), yx_lo (by decide)]; exact a2
    · rw [f 47 (by omega), yx_lo (by decide)]; exact a3
    · rw [f 48 (by omega), yx_lo (by decide)]; exact a4
    · rw [f 49 (by omega), yx_lo (by decide)]; exact a5
    · rw [f 50 (by omega), yx_lo (by decide)]; exact a6
    · rw [f 51 (by omega), yx_lo (by decide)]; exact a7
    · rw [f 52 (by omega), yx_lo (by decide)]; exact a8
  · unfold ym_ins
    rw [yu_ne (by decide), yu_ne (by decide), yu_ne (by decide), yu_ne (by decide), yu_eq, yu_ne (by decide), yd_ne (by decide), m53, yx_11]
  · have e54 : ym_ins τ A ty p key here 54 = upd (τ 54) (ya_fr A) p := by
      unfold ym_ins
      rw [yu_ne (by decide), yu_ne (by decide), yu_ne (by decide), yu_eq, yu_ne (by decide), yu_ne (by decide), yd_ne (by decide)]
    rw [e54, yx_12]
    by_cases e : i = ya_fr A
    · rw [e, upd_at, upd_at]
    · rw [yx_11, upd_ne e] at hl
      rw [upd_ne e, upd_ne e]
      exact m54 i hi hl
  · unfold ym_ins
    rw [yu_eq, yu_eq, yu_eq, yu_ne (by decide), yu_ne (by decide), yu_ne (by decide), yd_ne (by decide), m55, yx_14]
    funext i
    by_cases e : i = 3 * ya_fr A
    · rw [upd_ne (by omega), upd_ne (by omega), e, upd_at, upd_at]
    · rw [upd_ne (j := i) (i := 3 * ya_fr A) (v := key) e]
      by_cases e2 : i = 3 * ya_fr A + 2
      · rw [e2, upd_at, upd_at]
      · rw [upd_ne e2, upd_ne e2]
        by_cases e3 : i = 3 * ya_fr A + 1
        · rw [e3, upd_at, upd_at]
        · rw [upd_ne e3, upd_ne e3, upd_ne e, upd_ne (by omega)]
  · unfold ym_ins
    rw [yu_ne (by decide), yu_ne (by decide), yu_ne (by decide), yu_ne (by decide), yu_ne (by decide), yu_eq, yd_ne (by decide), m57, yx_16]
    have : A 16 (tD A ty).toNatClampNeg + 1 = nI ((ya_cnt A (tD A ty)).toNatClampNeg + 1) := by
      rw [← ya_cnt_in (A := A) hD, ← nI_1, ← yi_nat (yi_pos.mpr (yg_cnt H.1 hD).1)]
    rw [this]
  · unfold ym_ins
    rw [yu_ne (by decide), yu_ne (by decide), yu_ne (by decide), yu_ne (by decide), yu_ne (by decide), yu_ne (by decide), yd_at, m58, yx_15]
  · have hb := yv_lt hv
    obtain ⟨b0, b1, b2, b3, b4, b5, b6⟩ := mV v hv
    have hm : ya_mode (ya_add A ty p key here) v = ya_mode A v := ya_mode_c (v := v) (yx_hi (by omega))
    refine ⟨?_, ?_, ?_, ?_, ?_, ?_, ?_⟩
    · rw [f 59 (by omega), yx_hi (by omega)]; exact b0
    · rw [f 60 (by omega), yx_hi (by omega)]; exact b1
    · rw [f 61 (by omega), hm]; exact b2
    · rw [f 62 (by omega), yx_hi (by omega)]; exact b3
    · rw [f 63 (by omega), yx_hi (by omega)]; exact b4
    · rw [f 64 (by omega), yx_hi (by omega)]; exact b5
    · rw [f 65 (by omega), f 66 (by omega), yx_hi (by omega), yx_hi (by omega), yx_hi (by omega)]; exact b6
  · obtain ⟨a0, a1, a2, a3, a4, a5, a6, a7, a8⟩ := mA
    refine ⟨?_, ?_, ?_, ?_, ?_, ?_, ?_, ?_, ?_⟩
    · rw [f 44 (by omega), yx_hi (by omega)]; exact a0
    · rw [f 67 (by omega), yx_hi (by omega)]; exact a1
    · rw [f 68 (by omega), yx_hi (by omega)]; exact a2
    · rw [f 69 (by omega), yx_hi (by omega)]; exact a3
    · rw [f 70 (by omega), yx_hi (by omega)]; exact a4
    · rw [f 71 (by omega), yx_hi (by omega)]; exact a5
    · rw [f 72 (by omega), yx_hi (by omega)]; exact a6
    · rw [f 73 (by omega), yx_hi (by omega)]; exact a7
    · rw [f 74 (by omega), yx_hi (by omega)]; exact a8
theorem ym_inserts (M : yr_M A τ) (H : yx_H t A ty p key here) (hv : ya_vh A view here) : sf_X6_inserts [.ref 44, .int ty, .int p, .int key, .int view] τ = some (.inl (some (.int (nI (ya_fr A)))), ym_ins τ A ty p key here) := by
  have I := H.1
  have hD := yb_D H.1 H.2.1
  have hDn := yx_Dn H
  have hc := yx_c H
  have h60 := H.2.2.2
  have hz := H.2.2.1
  have hfr := ya_fr_at hz
  have hb : ∀ i : Nat, i < (ya_cnt A (tD A ty)).toNatClampNeg → yl A (ya_at A (tD A ty) (nI i)) ∧ ya_beh A ty p key here (ya_at A (tD A ty) (nI i)) = decide (i < ya_plc A ty p key here) := fun i hi => by
    obtain ⟨g1, g2, g3⟩ := yg_at I hD (p := nI i) (by rw [nI_toInt (by omega)]; omega)
    refine ⟨g1, ?_⟩
    have := (yb_place I H.2.1).2 _ g1 g2
    rw [g3, nI_toInt (by omega)] at this
    rw [Bool.eq_iff_iff, decide_eq_true_eq, this]
    omega
  refine ee_meth ?_ rfl
  unfold sm_X6_inserts
  refine es_Q (es_SI (em_45 M I (ee_rF (ee_R rfl) rfl) (ee_L rfl) H.2.1.1) (es_Q (es_SI ee_K0 (es_Q (es_B (es_Q (es_SI ee_K0 ?_)))))))
  refine es_loop (E := fun i => [.ref 44, .int ty, .int p, .int key, .int view, .int (tD A ty), .int (nI (ya_cw (fun i => decide (i < ya_plc A ty p key here)) i)), .int (nI i)]) (S := fun _ => τ) (ya_cnt A (tD A ty)).toNatClampNeg 0 1000 (by omega) (fun i _ hi => (es_cB rfl (em_57 M (ee_rF (ee_R rfl) rfl) (ee_L rfl) hD) (by omega)).trans (by rw [decide_eq_true (by omega)])) ((es_cB rfl (em_57 M (ee_rF (ee_R rfl) rfl) (ee_L rfl) hD) (by omega)).trans (by rw [decide_eq_false (by omega)])) (fun i _ hi k' => ?_) ?_
  · obtain ⟨g1, g2⟩ := hb i (by omega)
    have hi2 := ym_isBehind M I g1 H.2.1 hv
    rw [g2] at hi2
    refine es_Q (es_SI (ee_B (ee_L rfl) (ee_iQ (x := 1) (y := 0) (ee_cb (ee_M (ee_aR (ee_R rfl) (ee_aI (ee_M (ee_aR (ee_R rfl) (ee_aI (ee_L rfl) (ee_aI (ee_L rfl) ee_aN))) (ee_cv (ym_segmentAt M I (tD A ty) (nI i) hD (by rw [nI_toInt (by omega)]; omega)) rfl)) (ee_aI (ee_L rfl) (ee_aI (ee_L rfl) (ee_aI (ee_L rfl) (ee_aI (ee_L rfl) ee_aN)))))) (ee_cv hi2 rfl))) (fun _ => ee_K) (fun _ => ee_K))) (es_In1 (i := i) rfl ?_))
    have e : nI (ya_cw (fun i => decide (i < ya_plc A ty p key here)) i) + (if decide (i < ya_plc A ty p key here) = true then 1 else 0) = nI (ya_cw (fun i => decide (i < ya_plc A ty p key here)) (i + 1)) := by
      rw [show ya_cw (fun i => decide (i < ya_plc A ty p key here)) (i + 1) = ya_cw (fun i => decide (i < ya_plc A ty p key here)) i + (if decide (i < ya_plc A ty p key here) then 1 else 0) from rfl]
      cases decide (i < ya_plc A ty p key here)
      · rw [if_neg (by decide), if_neg (by decide), Int32.add_zero, Nat.add_zero]
      · rw [if_pos rfl, if_pos rfl, nI_1]
    rw [e]
    rfl
  · have eP : ya_cw (fun i => decide (i < ya_plc A ty p key here)) (0 + (ya_cnt A (tD A ty)).toNatClampNeg) = ya_plc A ty p key here := by
      rw [Nat.zero_add, ya_cw_lt]
      by_cases e : (ya_cnt A (tD A ty)).toNatClampNeg ≤ ya_plc A ty p key here
      · rw [if_pos e]; omega
      · rw [if_neg e]
    rw [eP]
    show sy_sQ _ _ [.ref 44, .int ty, .int p, .int key, .int view, .int (tD A ty), .int (nI (ya_plc A ty p key here))] _ τ = _
    refine es_Q (es_SI ee_K0 (es_Q ?_))
    refine es_loop (E := fun i => [.ref 44, .int ty, .int p, .int key, .int view, .int (tD A ty), .int (nI (ya_plc A ty p key here)), .int (nI i)]) (S := fun _ => τ) (ya_fr A) 0 1000 (by omega) (fun i _ hi => ?_) ?_ (fun i _ hi k' => es_In1 rfl rfl) ?_
    · refine (ee_cB (em_53 M (ee_rF (ee_R rfl) rfl) (ee_L rfl) (yg_60 (by omega))) ee_K).trans ?_
      rw [ya_sgn (by omega), decide_eq_false (hfr.2 i (by omega))]
      rfl
    · refine (ee_cB (em_53 M (ee_rF (ee_R rfl) rfl) (ee_L rfl) (yg_60 (by omega))) ee_K).trans ?_
      rw [Nat.zero_add, ya_sgn hz, decide_eq_true hfr.1]
      rfl
    · rw [Nat.zero_add]
      have hDi : sy_inb (tD A ty) 3 = true := yi_inb.mpr (by omega)
      have hcm : ya_cnt A (tD A ty) = nI (ya_cnt A (tD A ty)).toNatClampNeg := yi_nat (yi_pos.mpr (yg_cnt I hD).1)
      refine es_Q (es_B (es_Q (es_SI (x := nI (ya_cnt A (tD A ty)).toNatClampNeg) (σ1 := τ) ((em_57 M (ee_rF (ee_R rfl) rfl) (ee_L rfl) hD).trans (by rw [← hcm])) ?_)))
      have hix : ∀ (i : Nat), i < 60 → sy_inb (60 * tD A ty + nI i) 180 = true ∧ (60 * tD A ty + nI i).toNatClampNeg = 60 * (tD A ty).toNatClampNeg + i ∧ (0 < i → (60 * tD A ty + nI i - 1).toNatClampNeg = 60 * (tD A ty).toNatClampNeg + i - 1 ∧ sy_inb (60 * tD A ty + nI i - 1) 180 = true) := fun i hi => by
        have e := yl_ix (x := tD A ty) (y := nI i) (c := 60) (n := 3) (m := 60) yl_c60 hD.1 hD.2 (by omega) (by rw [nI_toInt (by omega)]; omega) (by rw [nI_toInt (by omega)]; omega)
        rw [nI_clamp (by omega), Int32.mul_comm] at e
        refine ⟨e.2.2, e.2.1, fun hp => ?_⟩
        have e4 : (60 * tD A ty + nI i - 1).toInt = 60 * (tD A ty).toInt + i - 1 := by
          rw [yl_sub (by rw [e.1, nI_toInt (by omega)]; omega) (by rw [e.1, nI_toInt (by omega)]; omega) (by decide) (by decide), e.1, nI_toInt (by omega), yl_c1]
          omega
        refine ⟨?_, yi_inb.mpr (by rw [e4]; omega)⟩
        rw [yi_clampInt, yi_clampInt, e4]
        omega
      refine yh_room (E := fun i => [.ref 44, .int ty, .int p, .int key, .int view, .int (tD A ty), .int (nI (ya_plc A ty p key here)), .int (nI (ya_fr A)), .int (nI i)]) (cl := 58) (d := tD A ty) (P := ya_plc A ty p key here) hD h60 hc.2 rfl (fun i τ hi => ee_cB (ee_L rfl) (ee_L rfl)) (fun i => rfl) (fun i x => rfl) (fun i τ => ee_rF (ee_R rfl) rfl) (fun i τ hi => ⟨_, ee_B (ee_B ee_K (ee_L rfl)) (ee_L rfl), (hix i hi).1, (hix i hi).2.1⟩) (fun i τ h0 hi => ?_) ?_
      · have h := (hix i hi).2.2 h0
        refine (ee_A (kd := 0) (ee_rF (ee_R rfl) rfl) (ee_B (ee_B (ee_B ee_K (ee_L rfl)) (ee_L rfl)) ee_K) h.2).trans ?_
        rw [h.1]
      · have hP60 : ya_plc A ty p key here < 60 := by omega
        refine es_Q (es_W (ee_rF (ee_R rfl) rfl) (ee_B (ee_B ee_K (ee_L rfl)) (ee_L rfl)) (ee_L rfl) (hix _ hP60).1 ?_)
        rw [(hix _ hP60).2.1, yd_up]
        refine es_Q (es_A (ee_rF (ee_R rfl) rfl) (ee_L rfl) ee_K hDi ?_)
        rw [yd_ne (show 57 ≠ 58 by decide)]
        have hzi : sy_inb (nI (ya_fr A)) 60 = true := yi_inbN hz (by omega)
        refine es_Q (es_W (ee_rF (ee_R rfl) rfl) (ee_L rfl) (ee_L rfl) hzi (es_Q (es_W (ee_rF (ee_R rfl) rfl) (ee_L rfl) (ee_L rfl) hzi ?_)))
        have e3 : ∀ f : Nat, f < 3 → sy_inb (3 * nI (ya_fr A) + nI f) 180 = true ∧ (3 * nI (ya_fr A) + nI f).toNatClampNeg = 3 * ya_fr A + f := fun f hf => by
          have hz' := yg_60 hz
          have e := yl_ix (x := nI (ya_fr A)) (y := nI f) (c := 3) (n := 60) (m := 3) yl_c3 hz'.1 hz'.2 (by omega) (by rw [nI_toInt (by omega)]; omega) (by rw [nI_toInt (by omega)]; omega)
          rw [nI_clamp (by omega), nI_clamp (by omega), Int32.mul_comm] at e
          exact ⟨e.2.2, e.2.1⟩
        have e30 := e3 0 (by decide)
        rw [nI_0, Int32.add_zero] at e30
        refine es_Q (es_W (ee_rF (ee_R rfl) rfl) (ee_B ee_K (ee_L rfl)) (ee_L rfl) e30.1 ?_)
        refine es_Q (es_W (ee_rF (ee_R rfl) rfl) (ee_B (ee_B ee_K (ee_L rfl)) ee_K) ee_K (e3 1 (by decide)).1 ?_)
        refine es_Q (es_W (ee_rF (ee_R rfl) rfl) (ee_B (ee_B ee_K (ee_L rfl)) ee_K) ee_K (e3 2 (by decide)).1 ?_)
        have a1 := (e3 1 (by decide)).2
        have a2 := (e3 2 (by decide)).2
        rw [show (3 * nI (ya_fr A) + 1 : Int32).toNatClampNeg = 3 * ya_fr A + 1 from a1, show (3 * nI (ya_fr A) + 2 : Int32).toNatClampNeg = 3 * ya_fr A + 2 from a2, e30.2, nI_clamp (by omega)]
        exact es_eI (ee_L rfl)
end YMi
