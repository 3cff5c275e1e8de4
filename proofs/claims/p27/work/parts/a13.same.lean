section LA13
variable {A B σ : sy_Mem} {t u : Nat}
theorem es_IF {c : sy_CE} {a : sy_S} {env : List Value} {k : List Value → sy_MM (Option Value)} {σ1 : sy_Mem} {r : Option (((Option Value) ⊕ Nat) × sy_Mem)} (hc : c env σ = some (.inl false, σ1)) (hk : k env σ1 = r) : sy_sI c a sy_sN env k σ = r := by
  unfold sy_sI
  rw [sy_bnd_at hc]
  exact hk
theorem place_ok (I : yn_I t A) {d p : Nat} (hd : d < 3) (hp : p < cn A d) : ya_X5_isPlace A (nI d) (nI p) = true := by
  have h60 := cn_le I hd
  have hW := I.2.2.1.1 d hd
  have hp2 : p < (A 16 d).toInt.toNat := hp
  have hdI : 0 ≤ (nI d).toInt ∧ (nI d).toInt < 3 := by rw [nI_toInt (by omega)]; omega
  have hc : ya_cnt A (nI d) = A 16 d := by rw [ya_cnt_in hdI, nI_clamp (by omega)]
  unfold ya_X5_isPlace
  rw [Bool.and_eq_true, yl_isD, Bool.and_eq_true, yl_ge, yl_lt, yl_c0, hc, nI_toInt (show p < 2 ^ 31 by omega)]
  exact ⟨hdI, by omega, by omega⟩
theorem cnt_nI (I : yn_I t A) {d : Nat} (hd : d < 3) : ya_cnt A (nI d) = nI (cn A d) ∧ (decide ((0 : Int32) ≤ nI d) && decide (nI d < 3)) = true := by
  have hW := I.2.2.1.1 d hd
  have hdI : 0 ≤ (nI d).toInt ∧ (nI d).toInt < 3 := by rw [nI_toInt (by omega)]; omega
  refine ⟨?_, yl_isD.mpr hdI⟩
  rw [ya_cnt_in hdI, nI_clamp (by omega)]
  show A 16 d = nI (A 16 d).toInt.toNat
  exact (ntI (by omega) (by omega)).symm
/-- a helper's answer for a place that is there -/
theorem c_count (I : yn_I t A) (h : CP A σ) {d : Nat} (hd : d < 3) {env : List Value} {r : sy_RE} {e : sy_IE} (hr : r env σ = some (.inl 0, σ)) (he : e env σ = some (.inl (nI d), σ)) : sy_iM (sy_cr 2 sf_L_count) (sy_aR r (sy_aI e sy_aN)) env σ = some (.inl (nI (cn A d)), σ) := by
  have hc := h_count I h (nI d)
  rw [(cnt_nI I hd).2, if_pos rfl, (cnt_nI I hd).1] at hc
  exact ee_M (ee_aR hr (ee_aI he ee_aN)) (ee_cr hc rfl)
theorem c_rowAt (I : yn_I t A) (h : CP A σ) {d p : Nat} (hd : d < 3) (hp : p < cn A d) {env : List Value} {r : sy_RE} {e g : sy_IE} (hr : r env σ = some (.inl 0, σ)) (he : e env σ = some (.inl (nI d), σ)) (hg : g env σ = some (.inl (nI p), σ)) : sy_iM (sy_cr 3 sf_L_rowAt) (sy_aR r (sy_aI e (sy_aI g sy_aN))) env σ = some (.inl (1000 * yT A (sg A d p) + ya_N A (sg A d p) 0), σ) := by
  have hc := h_rowAt I h (nI d) (nI p)
  rw [place_ok I hd hp, if_pos rfl] at hc
  exact ee_M (ee_aR hr (ee_aI he (ee_aI hg ee_aN))) (ee_cr hc rfl)
theorem c_rowAnew (I : yn_I t A) (h : CP A σ) {d p : Nat} (hd : d < 3) (hp : p < cn A d) {env : List Value} {r : sy_RE} {e g : sy_IE} (hr : r env σ = some (.inl 0, σ)) (he : e env σ = some (.inl (nI d), σ)) (hg : g env σ = some (.inl (nI p), σ)) : sy_iM (sy_cr 3 sf_L_rowAnew) (sy_aR r (sy_aI e (sy_aI g sy_aN))) env σ = some (.inl (1000 * yT A (sg A d p) + ya_N A (sg A d p) 0), σ) := by
  have hc := h_rowAnew I h (nI d) (nI p)
  rw [place_ok I hd hp, if_pos rfl] at hc
  exact ee_M (ee_aR hr (ee_aI he (ee_aI hg ee_aN))) (ee_cr hc rfl)
theorem c_fieldAt (I : yn_I t A) (h : CP A σ) {d p f : Nat} (hd : d < 3) (hp : p < cn A d) (hf : f < 3) {env : List Value} {r : sy_RE} {e g j : sy_IE} (hr : r env σ = some (.inl 0, σ)) (he : e env σ = some (.inl (nI d), σ)) (hg : g env σ = some (.inl (nI p), σ)) (hj : j env σ = some (.inl (nI f), σ)) : sy_iM (sy_cr 4 sf_L_fieldAt) (sy_aR r (sy_aI e (sy_aI g (sy_aI j sy_aN)))) env σ = some (.inl (ya_N A (sg A d p) (nI f)), σ) := by
  have hc := h_fieldAt I h (nI d) (nI p) (nI f)
  rw [place_ok I hd hp, (cnt_nI I hf).2, Bool.and_self, if_pos rfl] at hc
  exact ee_M (ee_aR hr (ee_aI he (ee_aI hg (ee_aI hj ee_aN)))) (ee_cr hc rfl)
/-- two memories with the same rows -/
def eqR (A B : sy_Mem) : Prop := ∀ d, d < 3 → cn A d = cn B d ∧ ∀ p, p < cn A d → yT A (sg A d p) = yT B (sg B d p) ∧ ∀ f : Nat, f < 3 → ya_N A (sg A d p) (nI f) = ya_N B (sg B d p) (nI f)
theorem t_same (I : yn_I t A) (h : CP A σ) (J : yn_I u B) (R : RW B σ) (hE : eqR A B) : sf_L_same [.ref 0, .ref 45, .ref 46, .ref 47, .ref 48] σ = some (.inl (some (.int 1)), σ) := by
  refine ke_meth ?_ (Nat.le_of_ble_eq_true rfl)
  refine es_Q (es_B (es_Q (es_SI ee_K ?_)))
  refine Eq.trans (ks_wh (E := fun d => [.ref 0, .ref 45, .ref 46, .ref 47, .ref 48, .int (nI d)]) (S := fun _ => σ) (N := 3) (fun d hd => ⟨ee_eq (ee_cB (ee_L rfl) ee_K) (show decide (nI d < nI 3) = true by rw [nI_ltd (by omega) (by omega)]; exact decide_eq_true hd), fun k' => ?_⟩) (ee_eq (ee_cB (ee_L rfl) ee_K) rfl) 3 0 4 rfl (by omega)) es_eZ1
  obtain ⟨hc, hE2⟩ := hE d hd
  have h60 := cn_le J hd
  have hn : ∀ (env : List Value), env[4]? = some (.ref 48) → env[5]? = some (.int (nI d)) → sy_iA 0 (sy_rL 4) (sy_iL 5) env σ = some (.inl (nI (cn B d)), σ) := fun env h4 h5 => by
    rw [← (R d hd).1]
    exact ee_An (ee_R h4) (ee_L h5) (show d < 3 from hd) (by decide)
  refine es_Q (es_B (es_Q (es_SR (ee_rM (ee_aI (ee_L rfl) (ee_aR (ee_R rfl) (ee_aR (ee_R rfl) (ee_aR (ee_R rfl) ee_aN)))) (ee_cr (t_row hd) rfl)) ?_)))
  refine es_Q (es_IF (ee_eq (ee_cB (c_count I h hd (ee_R rfl) (ee_L rfl)) (hn _ rfl rfl)) (by rw [hc, decide_eq_true rfl]; rfl)) (es_B (es_Q (es_SI ee_K ?_))))
  refine Eq.trans (ks_wh (E := fun p => [.ref 0, .ref 45, .ref 46, .ref 47, .ref 48, .int (nI d), .ref (45 + d), .int (nI p)]) (S := fun _ => σ) (N := cn B d) (fun p hp => ⟨ee_eq (ee_cB (ee_L rfl) (hn _ rfl rfl)) (by rw [nI_ltd (by omega) (by omega)]; exact decide_eq_true hp), fun k2 => ?_⟩) (ee_eq (ee_cB (ee_L rfl) (hn _ rfl rfl)) (by rw [nI_ltd (by omega) (by omega)]; exact decide_eq_false (by omega))) (cn B d) 0 61 (by omega) (by omega)) ?_
  · have hpA : p < cn A d := by omega
    obtain ⟨e1, e2⟩ := hE2 p hpA
    have f0 : ya_N A (sg A d p) 0 = ya_N B (sg B d p) 0 := e2 0 (by omega)
    refine es_Q (es_IF (ee_cO (x := false) (y := false) (ee_eq (ee_cO (x := false) (y := false) (ee_eq (ee_cB (c_rowAt I h hd hpA (ee_R rfl) (ee_L rfl) (ee_L rfl)) (ee_B (ee_B ee_K (ev_t J R hd hp (ee_R rfl) (ee_L rfl))) (ev_f J R (f := 0) hd hp (by omega) (ee_R rfl) (ee_L rfl) ee_K))) ?_) (fun _ => ee_eq (ee_cB (c_fieldAt I h (f := 1) hd hpA (by omega) (ee_R rfl) (ee_L rfl) (ee_L rfl) ee_K) (ev_f J R (f := 1) hd hp (by omega) (ee_R rfl) (ee_L rfl) ee_K)) ?_)) rfl) (fun _ => ee_eq (ee_cB (c_fieldAt I h (f := 2) hd hpA (by omega) (ee_R rfl) (ee_L rfl) (ee_L rfl) ee_K) (ev_f J R (f := 2) hd hp (by omega) (ee_R rfl) (ee_L rfl) ee_K)) ?_)) (es_In rfl ?_))
    · rw [e1, f0]; exact congrArg not (decide_eq_true rfl)
    · rw [e2 1 (by omega)]; exact congrArg not (decide_eq_true rfl)
    · rw [e2 2 (by omega)]; exact congrArg not (decide_eq_true rfl)
    · exact congrArg (fun z => k2 [.ref 0, .ref 45, .ref 46, .ref 47, .ref 48, .int (nI d), .ref (45 + d), .int z] σ) (nadd (a := p) (b := 1))
  · exact es_In rfl (congrArg (fun z => k' [.ref 0, .ref 45, .ref 46, .ref 47, .ref 48, .int z] σ) (nadd (a := d) (b := 1)))
end LA13
