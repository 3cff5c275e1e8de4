section YW5
variable {σ τ A : sy_Mem} {t : Nat}
-- open
def ya_reopen (σ : sy_Mem) (v : Nat) (d s : Int32) : sy_Mem := ya_stand (sy_up (sy_up (sy_up (sy_up σ (sy_vw v) 0 d) (sy_vw v) 1 s) (sy_vw v) 5 (-1)) (sy_vw v) 6 0) v (-1) 0 0
theorem yt_X4_reopen (σ : sy_Mem) {v : Nat} (hv : v < 4) (d s : Int32) : sf_X4_reopen [.ref (sy_vw v), .int d, .int s] σ = some (.inl none, ya_reopen σ v d s) := by
  refine ee_meth ?_ rfl
  unfold sm_X4_reopen
  exact es_Q (es_Q (es_P (ee_R rfl) (ee_L rfl) (yv_I hv (by decide)) (es_Q (es_P (ee_R rfl) (ee_L rfl) (yv_I hv (by decide)) (es_Q (es_P (ee_R rfl) ee_K (yv_I hv (by decide)) (es_Q (es_P (ee_R rfl) ee_K (yv_I hv (by decide)) (es_C (ee_aR (ee_R rfl) ee_aN) (ee_cv (yt_X4_standAheadOfAll _ hv) (yv_rc hv rfl)) es_eV)))))))))
theorem ya_reopen_ne {v : Nat} {d s : Int32} {k : Nat} (h : k ≠ sy_vw v) : ya_reopen σ v d s k = σ k := by
  unfold ya_reopen
  rw [ya_stand_ne h, yu_ne h, yu_ne h, yu_ne h, yu_ne h]
theorem ya_reopen_at {v : Nat} {d s : Int32} : ya_reopen σ v d s (sy_vw v) 0 = d ∧ ya_reopen σ v d s (sy_vw v) 1 = s ∧ ya_reopen σ v d s (sy_vw v) 2 = -1 ∧ ya_reopen σ v d s (sy_vw v) 3 = 0 ∧ ya_reopen σ v d s (sy_vw v) 4 = 0 ∧ ya_reopen σ v d s (sy_vw v) 5 = -1 ∧ ya_reopen σ v d s (sy_vw v) 6 = 0 := by
  unfold ya_reopen
  refine ⟨?_, ?_, ?_, ?_, ?_, ?_, ?_⟩ <;> rw [ya_stand_at]
  · rw [if_neg (by decide), if_neg (by decide), if_neg (by decide), yu_an (by decide), yu_an (by decide), yu_an (by decide), yu_at]
  · rw [if_neg (by decide), if_neg (by decide), if_neg (by decide), yu_an (by decide), yu_an (by decide), yu_at]
  · rw [if_neg (by decide), if_neg (by decide), if_pos rfl]
  · rw [if_neg (by decide), if_pos rfl]
  · rw [if_pos rfl]
  · rw [if_neg (by decide), if_neg (by decide), if_neg (by decide), yu_an (by decide), yu_at]
  · rw [if_neg (by decide), if_neg (by decide), if_neg (by decide), yu_at]
theorem yn_reopen (I : yn_I t σ) {v : Nat} (hv : v < 4) {d s : Int32} (hd : 0 ≤ d.toInt ∧ d.toInt < 3) (hs : 0 ≤ s.toInt ∧ s.toInt ≤ 4095) : yn_I t (ya_reopen σ v d s) := by
  obtain ⟨s0, s1, s2, s3, s4, s5, s6⟩ := ya_reopen_at (σ := σ) (v := v) (d := d) (s := s)
  refine yn_I_o I hv (fun k h => ya_reopen_ne h) ?_
  unfold yn_v
  rw [s0, s1, s2, s3, s4, s5, s6]
  exact ⟨hd, hs, Or.inl rfl, Or.inl rfl, Or.inl rfl, Or.inl rfl, ⟨by decide, by decide⟩, fun i hi => by rw [yl_c0] at hi; omega⟩
theorem yt_X5_open (σ : sy_Mem) (a d s : Int32) : sf_X5_open [.ref 0, .int a, .int d, .int s] σ = if ((decide (0 ≤ a) && decide (a < 4)) && (decide (0 ≤ d) && decide (d < 3))) then (if (decide (0 ≤ s) && decide (s < 4096)) then (if true then some (.inl none, ya_reopen σ a.toNatClampNeg d s) else some (.inr 3, σ)) else some (.inr 2, σ)) else some (.inr 1, σ) := by
  refine ee_meth ?_ rfl
  unfold sm_X5_open
  have h0 : ∀ (c1 c2 : Bool) (r : Option (((Option Value) ⊕ Nat) × sy_Mem)), (if c1 then (if c2 then r else some (.inr 1, σ)) else some (.inr 1, σ)) = if (c1 && c2) then r else some (.inr 1, σ) := fun c1 c2 r => by cases c1 <;> cases c2 <;> rfl
  rw [← h0]
  refine es_Q (es_Q (es_SRx (ee_aR (ee_R rfl) (ee_aI (ee_L rfl) ee_aN)) (ee_cv (yt_X5_viewOf σ a) rfl) (fun hx => ?_)))
  have hv := (yv_of hx).1
  refine es_Q (es_need (ee_aI (ee_M (ee_aI (ee_L rfl) (ee_aI ee_K ee_aN)) (ee_cs (yt_X5_isIn σ d 3) rfl)) ee_aN) (ee_cs (yt_X5_needIndex σ _) rfl) (fun _ => ?_))
  refine es_Q (es_need (ee_aI (ee_M (ee_aI (ee_L rfl) (ee_aI ee_K ee_aN)) (ee_cs (yt_X5_isIn σ s 4096) rfl)) ee_aN) (ee_cs (yt_X5_needRange σ _) rfl) (fun _ => ?_))
  exact es_C (ee_aR (ee_R rfl) (ee_aI (ee_L rfl) (ee_aI (ee_L rfl) ee_aN))) (ee_cv (yt_X4_reopen σ hv d s) (yv_rc hv rfl)) (es_eV.trans (if_pos rfl).symm)
-- argument
def ya_list (σ : sy_Mem) (n : Nat) (a b : Int32) : sy_Mem := sy_up (sy_up (sy_up (sy_up σ 20 n a) 21 n b) 22 n 0) 19 0 (nI (n + 1))
theorem yt_X0_list (σ : sy_Mem) (a b : Int32) {n : Nat} (hn : σ 19 0 = nI n) (h4 : n < 4) : sf_X0_list [.ref 19, .int a, .int b] σ = some (.inl (some (.int (nI (n + 1)))), ya_list σ n a b) := by
  refine ee_meth ?_ rfl
  unfold sm_X0_list ya_list
  have hF : ∀ {τ : sy_Mem}, τ 19 0 = nI n → sy_iF 0 0 (sy_rL 0) [.ref 19, .int a, .int b] τ = some (.inl (nI n), τ) := fun {τ} h => by rw [ee_F (ee_R rfl) rfl, h]
  have hi := yi_inbN (n := 4) h4 (show n < 2 ^ 31 by omega)
  have hc := nI_clamp (show n < 2 ^ 31 by omega)
  refine es_Q (es_It ((ee_cB (hF hn) ee_K).trans (by rw [show decide (nI n < 4) = decide (n < 4) from yi_lt (N := 4) rfl (by omega) (by omega), decide_eq_true h4])) ?_)
  refine es_Q (es_W (ee_rF (ee_R rfl) rfl) (hF hn) (ee_L rfl) hi ?_)
  refine es_Q (es_W (ee_rF (ee_R rfl) rfl) (hF (by rw [yu_ne (by decide), hn])) (ee_L rfl) hi ?_)
  refine es_Q (es_W (ee_rF (ee_R rfl) rfl) (hF (by rw [yu_ne (by decide), yu_ne (by decide), hn])) ee_K hi ?_)
  rw [hc]
  refine es_F (ee_R rfl) ee_K rfl ?_
  rw [show sy_up (sy_up (sy_up σ 20 n a) 21 n b) 22 n 0 19 0 = nI n by rw [yu_ne (by decide), yu_ne (by decide), yu_ne (by decide), hn], nI_1]
  refine (es_eI (k := fun _ => sy_fail) (ee_F (ee_R rfl) rfl)).trans ?_
  rw [yu_at]
theorem yt_X5_argument (I : yn_I t σ) (a b : Int32) : sf_X5_argument [.ref 0, .int a, .int b] σ = if ya_isT σ a then (if (decide (0 ≤ b) && decide (b < 64)) then (if decide (σ 19 0 < 4) then some (.inl (some (.int (nI ((σ 19 0).toNatClampNeg + 1)))), ya_list σ (σ 19 0).toNatClampNeg a b) else some (.inr 3, σ)) else some (.inr 2, σ)) else some (.inr 1, σ) := by
  refine ee_meth ?_ rfl
  unfold sm_X5_argument
  refine es_Q (es_need (ee_aI (ee_M (ee_aR (ee_rF (ee_R rfl) rfl) (ee_aI (ee_L rfl) ee_aN)) (ee_cv (yt_X2_isType σ a) rfl)) ee_aN) (ee_cs (yt_X5_needIndex σ _) rfl) (fun _ => ?_))
  refine es_Q (es_need (ee_aI (ee_M (ee_aI (ee_L rfl) (ee_aI ee_K ee_aN)) (ee_cs (yt_X5_isIn σ b 64) rfl)) ee_aN) (ee_cs (yt_X5_needRange σ _) rfl) (fun _ => ?_))
  refine es_Q (es_need (ee_aI (ee_iC (ee_cB (ee_M (ee_aR (ee_rF (ee_R rfl) rfl) ee_aN) (ee_cv (yt_X0_size σ) rfl)) ee_K)) ee_aN) (ee_cs (yt_X5_needState σ _) rfl) (fun h => ?_))
  have h4 : (σ 19 0).toNatClampNeg < 4 := by
    have := yg_n19 I
    rw [yl_lt, yl_c4] at h
    omega
  exact es_eI (ee_M (ee_aR (ee_rF (ee_R rfl) rfl) (ee_aI (ee_L rfl) (ee_aI (ee_L rfl) ee_aN))) (ee_cv (yt_X0_list σ a b (yg_n19e I) h4) rfl))
end YW5
