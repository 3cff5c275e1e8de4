section YW5
variable {σ τ A : sy_Mem} {t : Nat}
-- open
def ya_reopen (σ : sy_Mem) (v : Nat) (d s : Int32) : sy_Mem := ya_stand (sy_up (sy_up (sy_up (sy_up σ (sy_vw v) 0 d) (sy_vw v) 1 s) (sy_vw v) 5 (-1)) (sy_vw v) 6 0) v (-1) 0 0
theorem yt_X4_reopen (σ : sy_Mem) {v : Nat} (hv : v < 4) (d s : Int32) : sf_X4_reopen [.ref (sy_vw v), .int d, .int s] σ = some (.inl none, ya_reopen σ v d s) := by
  refine ee_meth ?_ rfl
  unfold sm_X4_reopen
  exact es_Q (es_Q (es_P (ee_R rfl) (ee_L rfl) (yv_I hv (by decide)) (es_Q (es_P (ee_R rfl) (ee_L rfl) (yv_I hv (by decide)) (es_Q (es_P (ee_R rfl) ee_K (yv_I hv (by decide)) (es_Q (es_P (ee_R rfl) ee_K (yv_I hv (by decide)) (es_C (ee_aR (ee_R rfl) ee_aN) (ee_cv (yt_X4_standAheadOfAll _ hv) (yv_rc hv rfl)) es_eV)))))))))
theorem ya_reopen_ne {v : Nat} {d s : Int32} {k : Nat} (h : k ≠ sy_vw v) : ya_reopen σ v d s k = σ k := by
  unfold ya_reopen
  rw [ya_stand_ne h, yu_ne h, yu_ne h, yu_ne h, yu_ne h]
theorem ya_reopen_at {v : Nat} {d s : Int32} : ya_reopen σ v d s (sy_vw v) 0 = d ∧ ya_reopen σ v d s (sy_vw v) 1 = s ∧ ya_reopen σ v d s (sy_vw v) 2 = -1 ∧ ya_reopen σ v d s (sy_vw v) 3 = 0 ∧ ya_reopen σ v d s (sy_vw v) 4 = 0 ∧ ya_reopen σ v d s (sy_vw v) 5 = -1 ∧ ya_reopen σ v d s (sy_vw v) 6 = 0 := by
  unfold ya_reopen
  refine ⟨?_, ?_, ?_, ?_, ?_, ?_, ?_⟩ <;> rw [ya_stand_at]
  · rw [if_neg (by decide), if_neg (by decide), if_neg (by decide), yu_an (by decide), yu_an (by decide), yu_an (by decide), yu_at]
  · rw [if_neg (by decide), if_neg (by decide), if_neg (by decide), yu_an (by decide), yu_an (by decide), yu_at]
  · rw [if_neg (by decide), if_neg (by decide), if_pos rfl]
  · rw [if_neg (by decide), if_pos rfl]
  · rw [if_pos rfl]
  · rw [if_neg (by decide), if_neg (by decide), if_neg (by decide), yu_an (by decide), yu_at]
  · rw [if_neg (by decide), if_neg (by decide), if_neg (by decide), yu_at]
theorem yn_reopen (I : yn_I t σ) {v : Nat} (hv : v < 4) {d s : Int32} (hd : 0 ≤ d.toInt ∧ d.toInt < 3) (hs : 0 ≤ s.toInt ∧ s.toInt ≤ 4095) : yn_I t (ya_reopen σ v d s) := by
  obtain ⟨s0, s1, s2, s3, s4, s5, s6⟩ := ya_reopen_at (σ := σ) (v := v) (d := d) (s := s)
  refine yn_I_o I hv (fun k h => ya_reopen_ne h) ?_
  unfold yn_v
  rw [s0, s1, s2, s3, s4, s5, s6]
  exact ⟨hd, hs, Or.inl rfl, Or.inl rfl, Or.inl rfl, Or.inl rfl, ⟨by decide, by decide⟩, fun i hi => by rw [yl_c0] at hi; omega⟩
theorem yt_X5_open (σ : sy_Mem) (a d s : Int32) : sf_X5_open [.ref 0, .int a, .int d, .int s] σ = if ((decide (0 ≤ a) && decide (a < 4)) && (decide (0 ≤ d) && decide (d < 3))) then (if (decide (0 ≤ s) && decide (s < 4096)) then (if true then some (.inl none, ya_reopen σ a.toNatClampNeg d s) else some (.inr 3, σ)) else some (.inr 2, σ)) else some (.inr 1, σ) := by
  refine ee_meth ?_ rfl
  unfold sm_X5_open
  have h0 : ∀ (c1 c2 : Bool) (r : Option (((Option Value) ⊕ Nat) × sy_Mem)), (if c1 then (if c2 then r else some (.inr 1, σ)) else some (.inr 1, σ)) = if (c1 && c2) then r else some (.inr 1, σ) := fun c1 c2 r => by cases c1 <;> cases c2 <;> rfl
  rw [← h0]
  refine es_Q (es_Q (es_SRx (ee_aR (ee_R rfl) (ee_aI (ee_L rfl) ee_aN)) (ee_cv (yt_X5_viewOf σ a) rfl) (fun hx => ?_)))
  have hv := (yv_of hx).1
  refine es_Q (es_need (ee_aI (ee_M (ee_aI (ee_L rfl) (ee_aI ee_K ee_aN)) (ee_cs (yt_X5_isIn σ d 3) rfl)) ee_aN) (ee_cs (yt_X5_needIndex σ _) rfl) (fun _ => ?_))
  refine es_Q (es_need (ee_aI (ee_M (ee_aI (ee_L rfl) (ee_aI ee_K ee_aN)) (ee_cs (yt_X5_isIn σ s 4096) rfl)) ee_aN) (ee_cs (yt_X5_needRange σ _) rfl) (fun _ => ?_))
  exact es_C (ee_aR (ee_R rfl) (ee_aI (ee_L rfl) (ee_aI (ee_L rfl) ee_aN))) (ee_cv (yt_X4_reopen σ hv d s) (yv_rc hv rfl)) (es_eV.trans (if_pos rfl).symm)
def ym_opened (τ : sy_Mem) (v : Nat) (d s : Int32) : sy_Mem := sy_up (sy_up (sy_up (sy_up (sy_up (sy_up τ 59 v d) 60 v s) 61 v 2) 62 v (-1)) 63 v (-1)) 64 v 0
theorem ym_opens (τ : sy_Mem) {v : Nat} (hv : v < 4) (d s : Int32) : sf_X6_opens [.ref 44, .int (nI v), .int d, .int s] τ = some (.inl none, ym_opened τ v d s) := by
  refine ee_meth ?_ rfl
  unfold sm_X6_opens ym_opened
  have hi := yi_inbN (n := 4) hv (show v < 2 ^ 31 by omega)
  have hc := nI_clamp (show v < 2 ^ 31 by omega)
  refine es_Q (es_Q (es_W (ee_rF (ee_R rfl) rfl) (ee_L rfl) (ee_L rfl) hi (es_Q (es_W (ee_rF (ee_R rfl) rfl) (ee_L rfl) (ee_L rfl) hi (es_Q (es_W (ee_rF (ee_R rfl) rfl) (ee_L rfl) ee_K hi (es_Q (es_W (ee_rF (ee_R rfl) rfl) (ee_L rfl) ee_K hi (es_Q (es_W (ee_rF (ee_R rfl) rfl) (ee_L rfl) ee_K hi (es_W (ee_rF (ee_R rfl) rfl) (ee_L rfl) ee_K hi ?_)))))))))))
  rw [hc]
  exact es_eV
theorem ym_opened_ne {v : Nat} {d s : Int32} {k : Nat} (h : k < 59 ∨ 64 < k) : ym_opened τ v d s k = τ k := by
  unfold ym_opened
  rw [yu_ne (by omega), yu_ne (by omega), yu_ne (by omega), yu_ne (by omega), yu_ne (by omega), yu_ne (by omega)]
theorem ym_opened_an {v w : Nat} {d s : Int32} {k : Nat} (h : w ≠ v) : ym_opened τ v d s k w = τ k w := by
  have h1 : ∀ (ρ : sy_Mem) (j : Nat) (x : Int32), sy_up ρ j v x k w = ρ k w := fun ρ j x => by
    by_cases e : k = j
    · rw [e, yu_an h]
    · rw [yu_ne e]
  unfold ym_opened
  rw [h1, h1, h1, h1, h1, h1]
theorem yw_ok_open (H : yw_R t σ) (a d s : Int32) : yw_OKU t σ 2 sf_X5_open sf_X6_open [.int a, .int d, .int s] := by
  have I := H.1
  refine yw_writerU H (nc := 2) ⟨by decide, fun _ _ => by decide, fun _ _ h => by cases h⟩ (yt_X5_open σ a d s) (fun h1 h2 _ => ?_) (fun τ M => ?_)
  · rw [Bool.and_eq_true] at h1
    have hv := (yv_of h1.1).1
    have hb := yv_lt hv
    rw [Bool.and_eq_true, yl_ge, yl_lt, yl_c0, show (4096 : Int32).toInt = 4096 from rfl] at h2
    exact ⟨yn_I_up (yn_reopen I hv (yl_isD.mp h1.2) (by omega)), fun k h1 _ => ya_reopen_ne (by omega)⟩
  · have hg : (sy_aR (sy_rL 0) (sy_aI (sy_iC (sy_cA (sy_cI (sy_iM (sy_cs 1 sf_X6_isView) (sy_aI (sy_iL 1) sy_aN))) (sy_cI (sy_iM (sy_cs 1 sf_X6_isDatabase) (sy_aI (sy_iL 2) sy_aN))))) (sy_aI (sy_iM (sy_cs 3 sf_X6_in) (sy_aI (sy_iL 3) (sy_aI (sy_iK 0) (sy_aI (sy_iK 4095) sy_aN)))) (sy_aI (sy_iK 1) sy_aN)))) [.ref 44, .int a, .int d, .int s] τ = some (.inl [.ref 44, .int (ya_b ((decide (0 ≤ a) && decide (a < 4)) && (decide (0 ≤ d) && decide (d < 3)))), .int (ya_b (decide (0 ≤ s) && decide (s < 4096))), .int (ya_b true)], τ) := by
      rw [← yl_le1 (x := s) (n := 4095) (m := 4096) rfl]
      exact ee_aR (ee_R rfl) (ee_aI (ee_iC (ee_cA (ee_cb (ee_M (ee_aI (ee_L rfl) ee_aN) (ee_cs (ym_isView τ a) rfl))) (fun _ => ee_cb (ee_M (ee_aI (ee_L rfl) ee_aN) (ee_cs (ym_isDatabase τ d) rfl))))) (ee_aI (ee_M (ee_aI (ee_L rfl) (ee_aI ee_K (ee_aI ee_K ee_aN))) (ee_cs (ym_in τ s 0 4095) rfl)) (ee_aI (x := ya_b true) ee_K ee_aN)))
    refine ⟨fun h1 h2 _ => ?_, fun h => ?_⟩
    · rw [Bool.and_eq_true] at h1
      obtain ⟨hv, ea⟩ := yv_of h1.1
      have hb := yv_lt hv
      have M' := yr_M_44 M (i := 36) (x := 0) ⟨by decide, by decide⟩
      refine ⟨ym_opened (sy_up τ 44 36 0) a.toNatClampNeg d s, ?_, ?_, fun k hk => by rw [ym_opened_ne (by omega), yu_ne (by omega)], by rw [ym_opened_ne (by omega), yu_at]⟩
      · refine ee_meth ?_ rfl
        unfold sm_X6_open
        have hl := ym_opens (sy_up τ 44 36 0) hv d s
        rw [← ea] at hl
        refine es_Q (es_It ((ee_goes hg).trans (by rw [h1.1, h1.2, h2]; rfl)) (es_C (ee_aR (ee_R rfl) (ee_aI (ee_L rfl) (ee_aI (ee_L rfl) (ee_aI (ee_L rfl) ee_aN)))) (ee_cv hl rfl) es_eV))
      · obtain ⟨s0, s1, s2, s3, s4, s5, s6⟩ := ya_reopen_at (σ := σ) (v := a.toNatClampNeg) (d := d) (s := s)
        have hk : ∀ k, k ≠ sy_vw a.toNatClampNeg → ya_reopen σ a.toNatClampNeg d s k = σ k := fun k h => ya_reopen_ne h
        have hj : ∀ k, k < 59 ∨ 64 < k → ym_opened (sy_up τ 44 36 0) a.toNatClampNeg d s k = sy_up τ 44 36 0 k := fun k h => ym_opened_ne h
        refine yr_M_v M' I (v := a.toNatClampNeg) (fun k h => hk k (by omega)) (congrFun (hj 44 (by decide)) 0) (fun k h1 h2 => hj k (by omega)) (fun w hw hwv => ?_) ?_ (yr_A_c M'.2.2.2 (fun k h1 h2 => hk k (by omega)) (congrFun (hj 44 (by decide)) 24) (fun k h1 h2 => hj k (by omega)) (by rw [hj 74 (by decide), hk 31 (by omega)]; exact M'.2.2.2.2.2.2.2.2.2.2.2))
        · have hvn := yv_ne hwv
          exact ⟨⟨hk _ hvn.1, hk _ hvn.2.2.2.1, hk _ hvn.2.2.2.2.2.2.1⟩, fun k h1 h2 => ym_opened_an hwv, fun i hi => by rw [hj 65 (by decide), hj 66 (by decide)]; exact ⟨rfl, rfl⟩⟩
        · have hmode : ya_mode (ya_reopen σ a.toNatClampNeg d s) a.toNatClampNeg = 2 := by
            unfold ya_mode
            rw [s3, s2, s4]
            rfl
          unfold yr_v
          rw [s0, s1, s2, s5, s6, hmode]
          unfold ym_opened
          refine ⟨?_, ?_, ?_, ?_, ?_, ?_, fun i hi => by rw [yl_c0] at hi; omega⟩
          · rw [yu_ne (by decide), yu_ne (by decide), yu_ne (by decide), yu_ne (by decide), yu_ne (by decide), yu_at]
          · rw [yu_ne (by decide), yu_ne (by decide), yu_ne (by decide), yu_ne (by decide), yu_at]
          · rw [yu_ne (by decide), yu_ne (by decide), yu_ne (by decide), yu_at]
          · rw [yu_ne (by decide), yu_ne (by decide), yu_at]
          · rw [yu_ne (by decide), yu_at]
          · rw [yu_at]
    · refine ee_meth ?_ rfl
      unfold sm_X6_open
      refine es_Q (es_If ((ee_goes hg).trans (by rw [h])) (es_N es_eV))
-- argument
def ya_list (σ : sy_Mem) (n : Nat) (a b : Int32) : sy_Mem := sy_up (sy_up (sy_up (sy_up σ 20 n a) 21 n b) 22 n 0) 19 0 (nI (n + 1))
theorem yt_X0_list (σ : sy_Mem) (a b : Int32) {n : Nat} (hn : σ 19 0 = nI n) (h4 : n < 4) : sf_X0_list [.ref 19, .int a, .int b] σ = some (.inl (some (.int (nI (n + 1)))), ya_list σ n a b) := by
  refine ee_meth ?_ rfl
  unfold sm_X0_list ya_list
  have hF : ∀ {τ : sy_Mem}, τ 19 0 = nI n → sy_iF 0 0 (sy_rL 0) [.ref 19, .int a, .int b] τ = some (.inl (nI n), τ) := fun {τ} h => by rw [ee_F (ee_R rfl) rfl, h]
  have hi := yi_inbN (n := 4) h4 (show n < 2 ^ 31 by omega)
  have hc := nI_clamp (show n < 2 ^ 31 by omega)
  refine es_Q (es_It ((ee_cB (hF hn) ee_K).trans (by rw [show decide (nI n < 4) = decide (n < 4) from yi_lt (N := 4) rfl (by omega) (by omega), decide_eq_true h4])) ?_)
  refine es_Q (es_W (ee_rF (ee_R rfl) rfl) (hF hn) (ee_L rfl) hi ?_)
  refine es_Q (es_W (ee_rF (ee_R rfl) rfl) (hF (by rw [yu_ne (by decide), hn])) (ee_L rfl) hi ?_)
  refine es_Q (es_W (ee_rF (ee_R rfl) rfl) (hF (by rw [yu_ne (by decide), yu_ne (by decide), hn])) ee_K hi ?_)
  rw [hc]
  refine es_F (ee_R rfl) ee_K rfl ?_
  rw [show sy_up (sy_up (sy_up σ 20 n a) 21 n b) 22 n 0 19 0 = nI n by rw [yu_ne (by decide), yu_ne (by decide), yu_ne (by decide), hn], nI_1]
  refine (es_eI (k := fun _ => sy_fail) (ee_F (ee_R rfl) rfl)).trans ?_
  rw [yu_at]
theorem yt_X5_argument (I : yn_I t σ) (a b : Int32) : sf_X5_argument [.ref 0, .int a, .int b] σ = if ya_isT σ a then (if (decide (0 ≤ b) && decide (b < 64)) then (if decide (σ 19 0 < 4) then some (.inl (some (.int (nI ((σ 19 0).toNatClampNeg + 1)))), ya_list σ (σ 19 0).toNatClampNeg a b) else some (.inr 3, σ)) else some (.inr 2, σ)) else some (.inr 1, σ) := by
  refine ee_meth ?_ rfl
  unfold sm_X5_argument
  refine es_Q (es_need (ee_aI (ee_M (ee_aR (ee_rF (ee_R rfl) rfl) (ee_aI (ee_L rfl) ee_aN)) (ee_cv (yt_X2_isType σ a) rfl)) ee_aN) (ee_cs (yt_X5_needIndex σ _) rfl) (fun _ => ?_))
  refine es_Q (es_need (ee_aI (ee_M (ee_aI (ee_L rfl) (ee_aI ee_K ee_aN)) (ee_cs (yt_X5_isIn σ b 64) rfl)) ee_aN) (ee_cs (yt_X5_needRange σ _) rfl) (fun _ => ?_))
  refine es_Q (es_need (ee_aI (ee_iC (ee_cB (ee_M (ee_aR (ee_rF (ee_R rfl) rfl) ee_aN) (ee_cv (yt_X0_size σ) rfl)) ee_K)) ee_aN) (ee_cs (yt_X5_needState σ _) rfl) (fun h => ?_))
  have h4 : (σ 19 0).toNatClampNeg < 4 := by
    have := yg_n19 I
    rw [yl_lt, yl_c4] at h
    omega
  exact es_eI (ee_M (ee_aR (ee_rF (ee_R rfl) rfl) (ee_aI (ee_L rfl) (ee_aI (ee_L rfl) ee_aN))) (ee_cv (yt_X0_list σ a b (yg_n19e I) h4) rfl))
theorem yw_ok_argument (H : yw_R t σ) (a b : Int32) : yw_OK t σ 3 sf_X5_argument sf_X6_argument [.int a, .int b] := by
  have I := H.1
  have h19 := yg_n19 I
  have e19 := yg_n19e I
  refine yw_writer H (nc := 3) ⟨by decide, fun _ _ => by decide, fun _ _ _ => by decide⟩ (yt_X5_argument I a b) (fun h1 h2 h3 => ?_) (fun τ M => ?_)
  · have h4 : (σ 19 0).toNatClampNeg < 4 := by
      rw [yl_lt, yl_c4] at h3
      omega
    have hk : ∀ k, k < 19 ∨ 22 < k → ya_list σ (σ 19 0).toNatClampNeg a b k = σ k := fun k h => by
      unfold ya_list
      rw [yu_ne (by omega), yu_ne (by omega), yu_ne (by omega), yu_ne (by omega)]
    refine ⟨yn_I_up (yn_I_n I (fun k h => hk k (by omega)) (fun k h1 h2 => hk k (by omega)) ?_), fun k h1 _ => hk k (by omega)⟩
    obtain ⟨a1, a2, a3, a4, a5⟩ := I.2.2.2.2.2.2
    have k19 : ya_list σ (σ 19 0).toNatClampNeg a b 19 0 = nI ((σ 19 0).toNatClampNeg + 1) := by unfold ya_list; rw [yu_at]
    have k20 : ∀ i, ya_list σ (σ 19 0).toNatClampNeg a b 20 i = if i = (σ 19 0).toNatClampNeg then a else σ 20 i := fun i => by
      unfold ya_list
      rw [yu_ne (by decide), yu_ne (by decide), yu_ne (by decide)]
      by_cases e : i = (σ 19 0).toNatClampNeg
      · rw [e, yu_at, if_pos rfl]
      · rw [yu_an e, if_neg e]
    have k21 : ∀ i, ya_list σ (σ 19 0).toNatClampNeg a b 21 i = if i = (σ 19 0).toNatClampNeg then b else σ 21 i := fun i => by
      unfold ya_list
      rw [yu_ne (by decide), yu_ne (by decide)]
      by_cases e : i = (σ 19 0).toNatClampNeg
      · rw [e, yu_at, if_pos rfl]
      · rw [yu_an e, if_neg e, yu_ne (by decide)]
    have k22 : ∀ i, ya_list σ (σ 19 0).toNatClampNeg a b 22 i = if i = (σ 19 0).toNatClampNeg then 0 else σ 22 i := fun i => by
      unfold ya_list
      rw [yu_ne (by decide)]
      by_cases e : i = (σ 19 0).toNatClampNeg
      · rw [e, yu_at, if_pos rfl]
      · rw [yu_an e, if_neg e, yu_ne (by decide), yu_ne (by decide)]
    have e1 : ya_isT (ya_list σ (σ 19 0).toNatClampNeg a b) = ya_isT σ := funext fun s => ya_isT_c (hk 1 (by decide)) s
    refine ⟨?_, fun i hi => ?_, by rw [hk 31 (by decide)]; exact a3, by rw [hk 27 (by decide)]; exact a4, by rw [hk 27 (by decide)]; exact a5⟩
    · rw [k19, nI_toInt (by omega)]; omega
    · rw [k19, nI_toInt (by omega)] at hi
      rw [k20, k21, k22, e1, hk 23 (by decide), hk 24 (by decide)]
      by_cases e : i = (σ 19 0).toNatClampNeg
      · rw [if_pos e, if_pos e, if_pos e]
        rw [Bool.and_eq_true, yl_ge, yl_lt, yl_c0, show (64 : Int32).toInt = 64 from rfl] at h2
        exact ⟨h1, by omega, ⟨by decide, by decide⟩, fun j hj => by rw [yl_c0] at hj; omega⟩
      · rw [if_neg e, if_neg e, if_neg e]
        exact a2 i (by omega)
  · have hg : (sy_aR (sy_rL 0) (sy_aI (sy_iM (sy_cv 6 1 sf_X6_isType) (sy_aR (sy_rL 0) (sy_aI (sy_iL 1) sy_aN))) (sy_aI (sy_iM (sy_cs 3 sf_X6_in) (sy_aI (sy_iL 2) (sy_aI (sy_iK 0) (sy_aI (sy_iK 63) sy_aN)))) (sy_aI (sy_iC (sy_clt (sy_iF 6 24 (sy_rL 0)) (sy_iK 4))) sy_aN)))) [.ref 44, .int a, .int b] τ = some (.inl [.ref 44, .int (ya_b (ya_isT σ a)), .int (ya_b (decide (0 ≤ b) && decide (b < 64))), .int (ya_b (decide (σ 19 0 < 4)))], τ) := by
      rw [← yl_le1 (x := b) (n := 63) (m := 64) rfl]
      exact ee_aR (ee_R rfl) (ee_aI (ee_M (ee_aR (ee_R rfl) (ee_aI (ee_L rfl) ee_aN)) (ee_cv (ym_isType M I a) rfl)) (ee_aI (ee_M (ee_aI (ee_L rfl) (ee_aI ee_K (ee_aI ee_K ee_aN))) (ee_cs (ym_in τ b 0 63) rfl)) (ee_aI (ee_iC (ee_cB (em_F24 M (ee_R rfl)) ee_K)) ee_aN)))
    refine ⟨fun h1 h2 h3 => ?_, fun h => ⟨0, ?_⟩⟩
    · have h4 : (σ 19 0).toNatClampNeg < 4 := by
        rw [yl_lt, yl_c4] at h3
        omega
      have M' := yr_M_44 M (i := 36) (x := 0) ⟨by decide, by decide⟩
      refine ⟨sy_up (sy_up (sy_up (sy_up (sy_up τ 44 36 0) 67 (σ 19 0).toNatClampNeg a) 68 (σ 19 0).toNatClampNeg b) 69 (σ 19 0).toNatClampNeg 0) 44 24 (nI ((σ 19 0).toNatClampNeg + 1)), ?_, ?_, ym_fw_trans (ym_fw_trans (ym_fw_trans (ym_fw_trans (ym_fw_up ⟨by decide, by decide⟩) (ym_fw_up ⟨by decide, by decide⟩)) (ym_fw_up ⟨by decide, by decide⟩)) (ym_fw_up ⟨by decide, by decide⟩)) (ym_fw_up ⟨by decide, by decide⟩), by rw [yu_an (by decide), yu_ne (by decide), yu_ne (by decide), yu_ne (by decide), yu_at]⟩
      · refine ee_meth ?_ rfl
        unfold sm_X6_argument
        refine es_Q ((es_goes hg).trans ?_)
        rw [h1, h2, h3, if_pos (show ((true && true) && true) = true from rfl)]
        have hF : ∀ {ρ : sy_Mem}, ρ 44 24 = σ 19 0 → sy_iF 6 24 (sy_rL 0) [.ref 44, .int a, .int b] ρ = some (.inl (nI (σ 19 0).toNatClampNeg), ρ) := fun {ρ} h => by rw [ee_F (ee_R rfl) rfl, h, ← e19]
        have hi := yi_inbN (n := 4) h4 (show (σ 19 0).toNatClampNeg < 2 ^ 31 by omega)
        have hc := nI_clamp (show (σ 19 0).toNatClampNeg < 2 ^ 31 by omega)
        have hq0 : sy_up τ 44 36 0 44 24 = σ 19 0 := M'.2.2.2.1
        refine es_Q (es_W (ee_rF (ee_R rfl) rfl) (hF hq0) (ee_L rfl) hi ?_)
        refine es_Q (es_W (ee_rF (ee_R rfl) rfl) (hF (by rw [yu_ne (by decide), hq0])) (ee_L rfl) hi ?_)
        refine es_Q (es_W (ee_rF (ee_R rfl) rfl) (hF (by rw [yu_ne (by decide), yu_ne (by decide), hq0])) ee_K hi ?_)
        rw [hc]
        refine es_Q (es_F (ee_R rfl) ee_K rfl ?_)
        rw [show sy_up (sy_up (sy_up (sy_up τ 44 36 0) 67 (σ 19 0).toNatClampNeg a) 68 (σ 19 0).toNatClampNeg b) 69 (σ 19 0).toNatClampNeg 0 44 24 = nI (σ 19 0).toNatClampNeg by rw [yu_ne (by decide), yu_ne (by decide), yu_ne (by decide), hq0, ← e19], nI_1]
        refine (es_eI (k := fun _ => sy_fail) (ee_F (ee_R rfl) rfl)).trans ?_
        rw [yu_at]
      · have hk : ∀ k, k < 19 ∨ 22 < k → ya_list σ (σ 19 0).toNatClampNeg a b k = σ k := fun k h => by
          unfold ya_list
          rw [yu_ne (by omega), yu_ne (by omega), yu_ne (by omega), yu_ne (by omega)]
        have hj : ∀ k, k ≠ 44 → k < 67 ∨ 69 < k → sy_up (sy_up (sy_up (sy_up (sy_up τ 44 36 0) 67 (σ 19 0).toNatClampNeg a) 68 (σ 19 0).toNatClampNeg b) 69 (σ 19 0).toNatClampNeg 0) 44 24 (nI ((σ 19 0).toNatClampNeg + 1)) k = sy_up τ 44 36 0 k := fun k h1 h2 => by rw [yu_ne h1, yu_ne (by omega), yu_ne (by omega), yu_ne (by omega)]
        obtain ⟨mS, mG, mV, a0, a1, a2, a3, a4, a5, a6, a7, a8⟩ := M'
        refine ⟨yr_S_c mS (fun k h => hk k (by omega)) (by rw [yu_an (by decide), yu_ne (by decide), yu_ne (by decide), yu_ne (by decide)]) (fun k h1 h2 => hj k (by omega) (by omega)), yr_G_c mG (fun k h => hk k (by omega)) (fun k h1 h2 => hj k (by omega) (by omega)), yr_V_n mV (fun k h1 h2 => hk k (by omega)) (fun k h1 h2 => hj k (by omega) (by omega)), ?_⟩
        unfold ya_list
        refine ⟨by rw [yu_at, yu_at], ?_, ?_, ?_, ?_, ?_, ?_, ?_, ?_⟩
        · rw [yu_ne (k := 44) (i := 24) (by decide), yu_ne (k := 69) (by decide), yu_ne (k := 68) (by decide), yu_eq, yu_ne (k := 19) (by decide), yu_ne (k := 22) (by decide), yu_ne (k := 21) (by decide), yu_eq, a1]
        · rw [yu_ne (k := 44) (i := 24) (by decide), yu_ne (k := 69) (by decide), yu_eq, yu_ne (k := 67) (by decide), yu_ne (k := 19) (by decide), yu_ne (k := 22) (by decide), yu_eq, yu_ne (k := 20) (by decide), a2]
        · rw [yu_ne (k := 44) (i := 24) (by decide), yu_eq, yu_ne (k := 68) (by decide), yu_ne (k := 67) (by decide), yu_ne (k := 19) (by decide), yu_eq, yu_ne (k := 21) (by decide), yu_ne (k := 20) (by decide), a3]
        · rw [hj 70 (by decide) (by decide), yu_ne (by decide), yu_ne (by decide), yu_ne (by decide), yu_ne (by decide)]; exact a4
        · rw [hj 71 (by decide) (by decide), yu_ne (by decide), yu_ne (by decide), yu_ne (by decide), yu_ne (by decide)]; exact a5
        · rw [hj 72 (by decide) (by decide), yu_ne (by decide), yu_ne (by decide), yu_ne (by decide), yu_ne (by decide)]; exact a6
        · rw [hj 73 (by decide) (by decide), yu_ne (by decide), yu_ne (by decide), yu_ne (by decide), yu_ne (by decide)]; exact a7
        · rw [hj 74 (by decide) (by decide), yu_ne (by decide), yu_ne (by decide), yu_ne (by decide), yu_ne (by decide)]; exact a8
    · refine ee_meth ?_ rfl
      unfold sm_X6_argument
      refine es_Q ((es_goes hg).trans ?_)
      rw [if_neg (by rw [h]; decide)]
end YW5
