/-! the turn of delete -/
section YWd
variable {A B σ τ : sy_Mem} {t v : Nat} {got : Int32} {D : Nat → Bool}
def ya_re18 (σ : sy_Mem) : sy_Mem := fun k => if k = 18 then fun _ => 0 else σ k
theorem ya_re18_c (h : ∀ k, k ≠ 18 → B k = A k) : ya_re18 B = ya_re18 A := by
  funext k
  unfold ya_re18
  by_cases hk : k = 18
  · rw [if_pos hk, if_pos hk]
  · rw [if_neg hk, if_neg hk, h k hk]
theorem yn_G_re18 : yn_G (ya_re18 A) = yn_G A := rfl
theorem yn_W_re18 : yn_W (ya_re18 A) = yn_W A := rfl
theorem yn_O_re18 : yn_O (ya_re18 A) = yn_O A := rfl
theorem yn_A_re18 : yn_A (ya_re18 A) = yn_A A := rfl
theorem yn_I_18 (I : yn_I t A) (h : ∀ k, k ≠ 18 → B k = A k) : yn_I t B := by
  obtain ⟨iS, iG, iW, iO, iK, iV, iA⟩ := I
  have e := ya_re18_c h
  have el : ∀ s, yl B s = yl A s := fun s => yl_c (h 11 (by decide)) s
  have eD : ∀ s, sD B s = sD A s := fun s => sD_c (h 1 (by decide)) (h 2 (by decide)) (h 11 (by decide)) s
  refine ⟨by rw [yn_S_9 (fun k hk => h k (by omega))]; exact iS, by rw [← yn_G_re18, e, yn_G_re18]; exact iG, by rw [← yn_W_re18, e, yn_W_re18]; exact iW, by rw [← yn_O_re18, e, yn_O_re18]; exact iO, fun i hi => by rw [h 13 (by decide)]; exact iK i hi, fun v hv => ?_, by rw [← yn_A_re18, e, yn_A_re18]; exact iA⟩
  have hb := yv_lt hv
  obtain ⟨h0, h1, h2, h3, h4, h5, h6, h7⟩ := iV v hv
  unfold yn_v
  rw [h _ (by omega), h _ (by omega), h _ (by omega)]
  refine ⟨h0, h1, h2.imp id (fun g => ⟨?_, (eD _).trans g.2⟩), h3, h4, h5.imp id (fun g => ⟨?_, (eD _).trans g.2⟩), h6, fun i hi => ⟨?_, (h7 i hi).2⟩⟩
  · rw [el]; exact g.1
  · rw [el]; exact g.1
  · rw [el]; exact (h7 i hi).1
theorem ee_iQf {env : List Value} {c : sy_CE} {a b : sy_IE} {y : Int32} {σ1 σ2 : sy_Mem} (hc : c env σ = some (.inl false, σ1)) (hb : b env σ1 = some (.inl y, σ2)) : sy_iQ c a b env σ = some (.inl y, σ2) := by
  unfold sy_iQ; rw [sy_bnd_at hc]; exact hb
end YWd
