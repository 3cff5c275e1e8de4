/-! the component's add, evaluated -/
section YC
variable {σ τ A : sy_Mem} {t : Nat}
/-- the memory with one cell replaced -/
def ya_cell (σ : sy_Mem) (c : Nat) (f : Nat → Int32) : sy_Mem := fun k => if k = c then f else σ k
theorem yd_at {c : Nat} {f : Nat → Int32} : ya_cell σ c f c = f := by unfold ya_cell; rw [if_pos rfl]
theorem yd_ne {c k : Nat} {f : Nat → Int32} (h : k ≠ c) : ya_cell σ c f k = σ k := by unfold ya_cell; rw [if_neg h]
theorem yd_self {c : Nat} : ya_cell σ c (σ c) = σ := by
  funext k
  by_cases h : k = c
  · rw [h, yd_at]
  · rw [yd_ne h]
theorem yd_up {c i : Nat} {f : Nat → Int32} {v : Int32} : sy_up (ya_cell σ c f) c i v = ya_cell σ c (upd f i v) := by
  funext k
  by_cases h : k = c
  · rw [h, yu_eq, yd_at, yd_at]
  · rw [yu_ne h, yd_ne h, yd_ne h]
theorem yd_up0 {c i : Nat} {v : Int32} : sy_up σ c i v = ya_cell σ c (upd (σ c) i v) := by
  funext k
  by_cases h : k = c
  · rw [h, yu_eq, yd_at]
  · rw [yu_ne h, yd_ne h]
theorem yd_upc {c k i : Nat} {f : Nat → Int32} {v : Int32} (h : k ≠ c) : sy_up (ya_cell σ c f) k i v = ya_cell (sy_up σ k i v) c f := by
  funext j
  by_cases hk : j = k
  · rw [hk, yu_eq, yd_ne h, yd_ne h, yu_eq]
  · rw [yu_ne hk]
    by_cases hc : j = c
    · rw [hc, yd_at, yd_at]
    · rw [yd_ne hc, yd_ne hc, yu_ne hk]
theorem ya_W_d {σ' : sy_Mem} (W : ya_W σ) (h1 : σ' 1 = σ 1) (h19 : σ' 19 = σ 19) (h27 : σ' 27 = σ 27) (h16 : ∀ d, d < 3 → (σ' 16 d).toInt ≤ 60) (hv : ∀ k, 32 ≤ k → k < 44 → σ' k = σ k) : ya_W σ' := by
  refine ⟨by rw [h1]; exact W.1, by rw [h19]; exact W.2.1, by rw [h27]; exact W.2.2.1, h16, fun v v4 => ?_⟩
  have hb := yv_lt v4
  rw [hv _ (by omega) (by omega)]
  exact W.2.2.2.2 v v4
/-- the places, counted anew -/
def ya_pls (A : sy_Mem) (d : Int32) : Nat → Nat → Int32
  | 0 => A 17
  | n + 1 => if (decide (0 ≤ ya_at A d (nI n)) && decide (ya_at A d (nI n) < 60)) = true then upd (ya_pls A d n) (ya_at A d (nI n)).toNatClampNeg (nI n) else ya_pls A d n
theorem yt_X3_numberPlaces (W : ya_W σ) (d : Int32) : sf_X3_numberPlaces [.ref 10, .int d] σ = some (.inl none, ya_cell σ 17 (ya_pls σ d (ya_cnt σ d).toNatClampNeg)) := by
  refine ee_meth ?_ rfl
  unfold sm_X3_numberPlaces
  have hc := yl_cnt W d
  refine es_Q (es_B (es_Q (es_SI ee_K0 ?_)))
  have e0 : ya_cell σ 17 (ya_pls σ d 0) = σ := yd_self
  have hl := es_loop (E := fun i => [.ref 10, .int d, .int (nI i)]) (S := fun i => ya_cell σ 17 (ya_pls σ d i)) (c := sy_clt (sy_iL 2) (sy_iM (sy_cv 3 1 sf_X3_countOf) (sy_aR (sy_rL 0) (sy_aI (sy_iL 1) sy_aN)))) (s := sy_sQ (sy_sB 3 (sy_sQ (sy_sSI 3 (sy_iM (sy_cv 3 2 sf_X3_segmentAt) (sy_aR (sy_rL 0) (sy_aI (sy_iL 1) (sy_aI (sy_iL 2) sy_aN))))) (sy_sI (sy_cI (sy_iM (sy_cs 1 sf_X3_isNumber) (sy_aI (sy_iL 3) sy_aN))) (sy_sW (sy_rF 3 7 (sy_rL 0)) (sy_iL 3) (sy_iL 2)) sy_sN))) (sy_sIn 2 1)) (k := fun env' => sy_eV (env'.take 2) (fun _ => sy_fail)) (r := some (.inl none, ya_cell σ 17 (ya_pls σ d (ya_cnt σ d).toNatClampNeg))) (ya_cnt σ d).toNatClampNeg 0 1000 (by omega)
    (fun i _ hi => (es_cB rfl (ee_M (ee_aR (ee_R rfl) (ee_aI (ee_L rfl) ee_aN)) (ee_cv (yt_X3_countOf _ d) rfl)) (by omega)).trans (by rw [show ya_cnt (ya_cell σ 17 (ya_pls σ d i)) d = ya_cnt σ d from rfl, decide_eq_true (by omega)]))
    ((es_cB rfl (ee_M (ee_aR (ee_R rfl) (ee_aI (ee_L rfl) ee_aN)) (ee_cv (yt_X3_countOf _ d) rfl)) (by omega)).trans (by rw [show ya_cnt (ya_cell σ 17 (ya_pls σ d (0 + (ya_cnt σ d).toNatClampNeg))) d = ya_cnt σ d from rfl, decide_eq_false (by omega)]))
    (fun i _ hi k' => ?_) (by rw [Nat.zero_add]; rfl)
  · rw [e0] at hl
    exact hl
  · have W' : ya_W (ya_cell σ 17 (ya_pls σ d i)) := ya_W_d W rfl rfl rfl W.2.2.2.1 (fun k h1 h2 => yd_ne (by omega))
    refine es_Q (es_B (es_Q (es_SI (ee_M (ee_aR (ee_R rfl) (ee_aI (ee_L rfl) (ee_aI (ee_L rfl) ee_aN))) (ee_cv (yt_X3_segmentAt W' d (nI i)) rfl)) ?_)))
    rw [show ya_at (ya_cell σ 17 (ya_pls σ d i)) d (nI i) = ya_at σ d (nI i) from rfl]
    have hn : sy_cI (sy_iM (sy_cs 1 sf_X3_isNumber) (sy_aI (sy_iL 3) sy_aN)) [.ref 10, .int d, .int (nI i), .int (ya_at σ d (nI i))] (ya_cell σ 17 (ya_pls σ d i)) = some (.inl (decide (0 ≤ ya_at σ d (nI i)) && decide (ya_at σ d (nI i) < 60)), _) := ee_cb (ee_M (ee_aI (ee_L rfl) ee_aN) (ee_cs (yt_X3_isNumber _ _) rfl))
    have e1 : ya_pls σ d (i + 1) = if (decide (0 ≤ ya_at σ d (nI i)) && decide (ya_at σ d (nI i) < 60)) = true then upd (ya_pls σ d i) (ya_at σ d (nI i)).toNatClampNeg (nI i) else ya_pls σ d i := rfl
    rw [e1]
    by_cases h : (decide (0 ≤ ya_at σ d (nI i)) && decide (ya_at σ d (nI i) < 60)) = true
    · rw [if_pos h, ← yd_up]
      exact es_It (hn.trans (by rw [h])) (es_W (ee_rF (ee_R rfl) rfl) (ee_L rfl) (ee_L rfl) (yi_inb.mpr (yl_isS.mp h)) (es_In1 rfl rfl))
    · rw [if_neg h]
      exact es_If (hn.trans (by rw [Bool.eq_false_iff.mpr h])) (es_N (es_In1 rfl rfl))
/-- n steps of making room in a row -/
def ya_shf (f : Nat → Int32) (b c n : Nat) : Nat → Int32 := fun j => if b + c - n < j ∧ j ≤ b + c then f (j - 1) else f j
theorem ya_shf_0 {f : Nat → Int32} {b c : Nat} : ya_shf f b c 0 = f := by
  funext j
  unfold ya_shf
  rw [if_neg (by omega)]
theorem ya_shf_s {f : Nat → Int32} {b c n : Nat} (h : n < c) : upd (ya_shf f b c n) (b + (c - n)) (ya_shf f b c n (b + (c - n) - 1)) = ya_shf f b c (n + 1) := by
  funext j
  unfold ya_shf upd
  by_cases e : j = b + (c - n)
  · rw [if_pos e, if_neg (by omega), if_pos (by omega), e]
  · rw [if_neg e]
    show (if b + c - n < j ∧ j ≤ b + c then f (j - 1) else f j) = _
    by_cases q : b + c - n < j ∧ j ≤ b + c
    · rw [if_pos q, if_pos (by omega)]
    · rw [if_neg q, if_neg (by omega)]
theorem nI_dn (k : Nat) (h : k < 1000000) : nI (k + 1) + (-1) = nI k := by
  apply yi_ext
  rw [yl_add (by rw [nI_toInt (by omega)]; omega) (by rw [nI_toInt (by omega)]; omega) (by decide) (by decide), nI_toInt (by omega), nI_toInt (by omega), yl_cm]
  omega
/-- the cells behind putInRow -/
def ya_put (σ : sy_Mem) (d : Int32) (c P : Nat) (z : Int32) : sy_Mem := sy_up (ya_cell (ya_cell σ 15 (upd (ya_shf (σ 15) (60 * d.toNatClampNeg) c (c - P)) (60 * d.toNatClampNeg + P) z)) 16 (upd (σ 16) d.toNatClampNeg (nI (c + 1)))) 10 9 (σ 10 9 + 1)
section
variable {k : List Value → sy_MM (Option Value)}
/-- making room, as both systems do: kd, cells and locals differ -/
theorem yh_room {d : Int32} {c P : Nat} {cl : Nat} {E : Nat → List Value} {cc : sy_CE} {ix rd : sy_IE} {rr : sy_RE} {li : Nat} {r : Option (((Option Value) ⊕ Nat) × sy_Mem)} (hd : 0 ≤ d.toInt ∧ d.toInt < 3) (hc : c < 60) (hP : P ≤ c) (hlen : sy_len 0 cl = 180)
    (hcc : ∀ (i : Nat) (τ : sy_Mem), i ≤ 60 → cc (E i) τ = some (.inl (decide (nI P < nI i)), τ)) (hli : ∀ i, (E i)[li]? = some (.int (nI i))) (hset : ∀ i x, sy_set (E i) li (.int (nI x)) = E x)
    (hrr : ∀ i (τ : sy_Mem), rr (E i) τ = some (.inl cl, τ)) (hix : ∀ i (τ : sy_Mem), i < 60 → ∃ x : Int32, ix (E i) τ = some (.inl x, τ) ∧ sy_inb x 180 = true ∧ x.toNatClampNeg = 60 * d.toNatClampNeg + i) (hrd : ∀ i (τ : sy_Mem), 0 < i → i < 60 → rd (E i) τ = some (.inl (τ cl (60 * d.toNatClampNeg + i - 1)), τ))
    (hk : k (E P) (ya_cell σ cl (ya_shf (σ cl) (60 * d.toNatClampNeg) c (c - P))) = r) : sy_wh cc (sy_sQ (sy_sW rr ix rd) (sy_sIn li (-1))) 1000 (E c) k σ = r := by
  have hl := es_loop (E := fun n => E (c - n)) (S := fun n => ya_cell σ cl (ya_shf (σ cl) (60 * d.toNatClampNeg) c n)) (c := cc) (s := sy_sQ (sy_sW rr ix rd) (sy_sIn li (-1))) (k := k) (r := r) (c - P) 0 1000 (by omega)
    (fun n _ hn => by rw [hcc _ _ (by omega), decide_eq_true]; rw [Int32.lt_iff_toInt_lt, nI_toInt (by omega), nI_toInt (by omega)]; omega)
    (by rw [hcc _ _ (by omega), decide_eq_false]; rw [Int32.lt_iff_toInt_lt, nI_toInt (by omega), nI_toInt (by omega)]; omega)
    (fun n _ hn k' => ?_) (by rw [Nat.zero_add, show c - (c - P) = P by omega]; exact hk)
  · have e0 : ya_cell σ cl (ya_shf (σ cl) (60 * d.toNatClampNeg) c 0) = σ := by rw [ya_shf_0]; exact yd_self
    rw [e0] at hl
    exact hl
  · obtain ⟨x, x1, x2, x3⟩ := hix (c - n) (ya_cell σ cl (ya_shf (σ cl) (60 * d.toNatClampNeg) c n)) (by omega)
    refine es_Q (es_W (hrr _ _) x1 (hrd _ _ (by omega) (by omega)) (by rw [hlen]; exact x2) ?_)
    rw [x3, yd_up, yd_at, ya_shf_s (by omega)]
    refine es_In (hli _) ?_
    have e1 : nI (c - n) + (-1) = nI (c - (n + 1)) := by
      have := nI_dn (c - (n + 1)) (by omega)
      rwa [show c - (n + 1) + 1 = c - n by omega] at this
    rw [e1, hset]
end
theorem yt_X3_putInRow (W : ya_W σ) {d : Int32} {c P : Nat} {z : Int32} (hd : 0 ≤ d.toInt ∧ d.toInt < 3) (hcd : ya_cnt σ d = nI c) (hc : c < 60) (hP : P ≤ c) :
    sf_X3_putInRow [.ref 10, .int d, .int (nI P), .int z] σ = some (.inl none, ya_cell (ya_put σ d c P z) 17 (ya_pls (ya_put σ d c P z) d (c + 1))) := by
  refine ee_meth ?_ rfl
  unfold sm_X3_putInRow
  have hdn : d.toNatClampNeg < 3 := by rw [yi_clampInt]; omega
  have hdi : sy_inb d 3 = true := yi_inb.mpr (by omega)
  refine es_Q (es_Q (es_SI (x := nI c) (σ1 := σ) ((ee_M (ee_aR (ee_R rfl) (ee_aI (ee_L rfl) ee_aN)) (ee_cv (yt_X3_countOf σ d) rfl)).trans (by rw [hcd])) ?_))
  refine es_Q (es_If (σ1 := σ) ?_ (es_N ?_))
  · refine (ee_cO (ee_cO (ee_cO (ee_cN (ee_cb (ee_M (ee_aI (ee_L rfl) (ee_aI ee_K ee_aN)) (ee_cn (yt_X5_isIn σ d 3) rfl)))) (fun _ => ee_cB (ee_L rfl) ee_K)) (fun _ => ee_cB (ee_L rfl) ee_K)) (fun _ => ee_cB (ee_L rfl) (ee_L rfl))).trans ?_
    have a1 : decide ((60 : Int32) ≤ nI c) = false := by
      rw [decide_eq_false_iff_not, Int32.le_iff_toInt_le, nI_toInt (by omega), yl_c60]
      omega
    have a2 : decide (nI P < 0) = false := by
      rw [decide_eq_false_iff_not, Int32.lt_iff_toInt_lt, nI_toInt (by omega), yl_c0]
      omega
    have a3 : decide (nI c < nI P) = false := by
      rw [decide_eq_false_iff_not, Int32.lt_iff_toInt_lt, nI_toInt (by omega), nI_toInt (by omega)]
      omega
    rw [yl_isD.mpr hd, a1, a2, a3]
    rfl
  · refine es_Q (es_SI (ee_B (ee_L rfl) ee_K) (es_Q (es_B (es_Q (es_SI (ee_L rfl) ?_)))))
    have hix : ∀ (i : Nat), i < 60 → sy_inb (d * 60 + nI i) 180 = true ∧ (d * 60 + nI i).toNatClampNeg = 60 * d.toNatClampNeg + i ∧ (0 < i → (d * 60 + nI i - 1).toNatClampNeg = 60 * d.toNatClampNeg + i - 1 ∧ sy_inb (d * 60 + nI i - 1) 180 = true) := fun i hi => by
      have e := yl_ix (x := d) (y := nI i) (c := 60) (n := 3) (m := 60) yl_c60 hd.1 hd.2 (by omega) (by rw [nI_toInt (by omega)]; omega) (by rw [nI_toInt (by omega)]; omega)
      rw [nI_clamp (by omega)] at e
      refine ⟨e.2.2, e.2.1, fun hp => ?_⟩
      have e4 : (d * 60 + nI i - 1).toInt = 60 * d.toInt + i - 1 := by
        rw [yl_sub (by rw [e.1, nI_toInt (by omega)]; omega) (by rw [e.1, nI_toInt (by omega)]; omega) (by decide) (by decide), e.1, nI_toInt (by omega), yl_c1]
        omega
      refine ⟨?_, yi_inb.mpr (by rw [e4]; omega)⟩
      rw [yi_clampInt, yi_clampInt, e4]
      omega
    refine yh_room (E := fun i => [.ref 10, .int d, .int (nI P), .int z, .int (nI c), .int (d * 60), .int (nI i)]) (cl := 15) (d := d) (P := P) hd hc hP rfl (fun i τ hi => ee_cB (ee_L rfl) (ee_L rfl)) (fun i => rfl) (fun i x => rfl) (fun i τ => ee_rF (ee_R rfl) rfl) (fun i τ hi => ⟨_, ee_B (ee_L rfl) (ee_L rfl), (hix i hi).1, (hix i hi).2.1⟩) (fun i τ h0 hi => ?_) ?_
    · have h := (hix i hi).2.2 h0
      refine (ee_A (kd := 0) (ee_rF (ee_R rfl) rfl) (ee_B (ee_B (ee_L rfl) (ee_L rfl)) ee_K) h.2).trans ?_
      rw [h.1]
    · by_cases hP60 : P < 60
      · refine es_Q (es_W (ee_rF (ee_R rfl) rfl) (ee_B (ee_L rfl) (ee_L rfl)) (ee_L rfl) (hix P hP60).1 ?_)
        rw [(hix P hP60).2.1, yd_up]
        refine es_Q (es_A (ee_rF (ee_R rfl) rfl) (ee_L rfl) ee_K hdi ?_)
        have e16 : ∀ f : Nat → Int32, ya_cell σ 15 f 16 d.toNatClampNeg + 1 = nI (c + 1) := fun f => by
          rw [yd_ne (by decide), ← ya_cnt_in (A := σ) hd, hcd, nI_1]
        rw [e16, yd_up0, yd_ne (by decide)]
        refine es_Q (es_F (ee_R rfl) ee_K rfl ?_)
        rw [yd_ne (show 10 ≠ 16 by decide), yd_ne (show 10 ≠ 15 by decide)]
        have e16' : ya_put σ d c P z 16 = upd (σ 16) d.toNatClampNeg (nI (c + 1)) := by
          unfold ya_put
          rw [yu_ne (by decide), yd_at]
        have W' : ya_W (ya_put σ d c P z) := ya_W_d W rfl rfl rfl (fun j hj => by
          rw [e16']
          unfold upd
          by_cases e : j = d.toNatClampNeg
          · rw [if_pos e, nI_toInt (by omega)]
            omega
          · rw [if_neg e]
            exact W.2.2.2.1 j hj) (fun k h1 h2 => by
          unfold ya_put
          rw [yu_ne (by omega), yd_ne (by omega), yd_ne (by omega)])
        have hn := yt_X3_numberPlaces W' d
        have hcn : (ya_cnt (ya_put σ d c P z) d).toNatClampNeg = c + 1 := by
          rw [ya_cnt_in hd, e16']
          unfold upd
          rw [if_pos rfl, nI_clamp (by omega)]
        rw [hcn] at hn
        exact es_C (ee_aR (ee_R rfl) (ee_aI (ee_L rfl) ee_aN)) (ee_cv hn rfl) es_eV
      · omega
end YC
