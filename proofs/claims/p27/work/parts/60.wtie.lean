section YW9
variable {σ τ A : sy_Mem} {t : Nat}
def ya_re3 (σ : sy_Mem) : sy_Mem := fun k => if k ≤ 6 ∨ (10 ≤ k ∧ k ≤ 18) then σ k else fun _ => 0
def yc_b3 (σ τ : sy_Mem) : Prop := ∀ k, (k ≤ 6 ∨ (10 ≤ k ∧ k ≤ 18)) → τ k = σ k
theorem ya_re3_c (h : yc_b3 σ τ) : ya_re3 τ = ya_re3 σ := by
  funext k
  unfold ya_re3
  by_cases hk : k ≤ 6 ∨ (10 ≤ k ∧ k ≤ 18)
  · rw [if_pos hk, if_pos hk, h k hk]
  · rw [if_neg hk, if_neg hk]
theorem yn_G_re3 : yn_G (ya_re3 σ) = yn_G σ := rfl
theorem yn_W_re3 : yn_W (ya_re3 σ) = yn_W σ := rfl
theorem yn_O_re3 : yn_O (ya_re3 σ) = yn_O σ := rfl
theorem yn_K_re3 : yn_K t (ya_re3 σ) = yn_K t σ := rfl
theorem yn_G_c3 (h : yc_b3 σ τ) : yn_G τ = yn_G σ := by rw [← yn_G_re3 (σ := τ), ← yn_G_re3 (σ := σ), ya_re3_c h]
theorem yn_W_c3 (h : yc_b3 σ τ) : yn_W τ = yn_W σ := by rw [← yn_W_re3 (σ := τ), ← yn_W_re3 (σ := σ), ya_re3_c h]
theorem yn_O_c3 (h : yc_b3 σ τ) : yn_O τ = yn_O σ := by rw [← yn_O_re3 (σ := τ), ← yn_O_re3 (σ := σ), ya_re3_c h]
theorem yn_K_c3 (h : yc_b3 σ τ) : yn_K t τ = yn_K t σ := by rw [← yn_K_re3 (σ := τ), ← yn_K_re3 (σ := σ), ya_re3_c h]
def ya_bind (σ : sy_Mem) (i : Nat) (u c g : Int32) : sy_Mem := sy_up (sy_up (sy_up σ 7 i u) 8 i c) 9 i g
theorem ya_bind_ne {i : Nat} {u c g : Int32} {k : Nat} (h : k ≠ 7 ∧ k ≠ 8 ∧ k ≠ 9) : ya_bind σ i u c g k = σ k := by
  unfold ya_bind
  rw [yu_ne h.2.2, yu_ne h.2.1, yu_ne h.1]
theorem yt_X2_bind (W : ya_W σ) (x u c g : Int32) (hx : ya_isT σ x = true) : sf_X2_bind [.ref 1, .int x, .int u, .int c, .int g] σ = some (.inl none, ya_bind σ x.toNatClampNeg u c g) := by
  refine ee_meth ?_ rfl
  unfold sm_X2_bind ya_bind
  exact es_Q (es_It ((ee_cb (ee_M (ee_aR (ee_R rfl) (ee_aI (ee_L rfl) ee_aN)) (ee_cv (yt_X2_isType σ x) rfl))).trans (by rw [hx])) (es_Q (es_W (ee_rF (ee_R rfl) rfl) (ee_L rfl) (ee_L rfl) (yl_isTi W hx rfl) (es_Q (es_W (ee_rF (ee_R rfl) rfl) (ee_L rfl) (ee_L rfl) (yl_isTi W hx rfl) (es_W (ee_rF (ee_R rfl) rfl) (ee_L rfl) (ee_L rfl) (yl_isTi W hx rfl) es_eV))))))
def ya_ti1 (σ : sy_Mem) (x u : Int32) : Bool := ya_isT σ x && ya_isT σ u
def ya_ti2 (σ : sy_Mem) (x u c g : Int32) : Bool := (!ya_X2_isRootType σ x && ya_X2_isRootType σ u) && ((decide (0 ≤ c) && decide (c < 2)) && (decide (0 ≤ g) && decide (g < 3)))
def ya_ti3 (σ : sy_Mem) (x : Int32) : Bool := decide (ya_cnt σ (tD σ x) = 0) && decide (tG σ x = -1)
theorem yb_ti (c1 c2 c3 c4 c5 : Bool) (r r1 r2 r3 : Option (((Option Value) ⊕ Nat) × sy_Mem)) : (if c1 then (if c2 then (if c3 then (if c4 then (if c5 then r else r3) else r3) else r2) else r2) else r1) = if c1 then (if (c2 && c3) then (if (c4 && c5) then r else r3) else r2) else r1 := by
  cases c1 <;> cases c2 <;> cases c3 <;> cases c4 <;> cases c5 <;> rfl
theorem yt_X5_tie (W : ya_W σ) (x u c g : Int32) : sf_X5_tie [.ref 0, .int x, .int u, .int c, .int g] σ = if ya_ti1 σ x u then (if ya_ti2 σ x u c g then (if ya_ti3 σ x then some (.inl none, ya_bind σ x.toNatClampNeg u c g) else some (.inr 3, σ)) else some (.inr 2, σ)) else some (.inr 1, σ) := by
  refine ee_meth ?_ rfl
  unfold sm_X5_tie ya_ti1 ya_ti2 ya_ti3
  rw [← yb_ti]
  refine es_Q (es_Q (es_need (ee_aI (ee_iC (ee_cA (ee_cb (ee_M (ee_aR (ee_rF (ee_R rfl) rfl) (ee_aI (ee_L rfl) ee_aN)) (ee_cv (yt_X2_isType σ x) rfl))) (fun _ => ee_cb (ee_M (ee_aR (ee_rF (ee_R rfl) rfl) (ee_aI (ee_L rfl) ee_aN)) (ee_cv (yt_X2_isType σ u) rfl))))) ee_aN) (ee_cs (yt_X5_needIndex σ _) rfl) (fun h => ?_)))
  rw [Bool.and_eq_true] at h
  refine es_Q (es_need (ee_aI (ee_iC (ee_cA (ee_cN (ee_cb (ee_M (ee_aR (ee_rF (ee_R rfl) rfl) (ee_aI (ee_L rfl) ee_aN)) (ee_cv (yt_X2_isRootType W x) rfl)))) (fun _ => ee_cb (ee_M (ee_aR (ee_rF (ee_R rfl) rfl) (ee_aI (ee_L rfl) ee_aN)) (ee_cv (yt_X2_isRootType W u) rfl))))) ee_aN) (ee_cs (yt_X5_needRange σ _) rfl) (fun _ => ?_))
  refine es_Q (es_need (ee_aI (ee_iC (ee_cA (ee_cb (ee_M (ee_aI (ee_L rfl) (ee_aI ee_K ee_aN)) (ee_cs (yt_X5_isIn σ c 2) rfl))) (fun _ => ee_cb (ee_M (ee_aI (ee_L rfl) (ee_aI ee_K ee_aN)) (ee_cs (yt_X5_isIn σ g 3) rfl))))) ee_aN) (ee_cs (yt_X5_needRange σ _) rfl) (fun _ => ?_))
  refine es_Q (es_need (ee_aI (ee_iC (ee_cB (ee_M (ee_aR (ee_rF (ee_R rfl) rfl) (ee_aI (ee_M (ee_aR (ee_rF (ee_R rfl) rfl) (ee_aI (ee_L rfl) ee_aN)) (ee_cv (yt_X2_databaseOf W x) rfl)) ee_aN)) (ee_cv (yt_X3_countOf σ _) rfl)) ee_K)) ee_aN) (ee_cs (yt_X5_needState σ _) rfl) (fun _ => ?_))
  refine es_Q (es_need (ee_aI (ee_iC (ee_cB (ee_M (ee_aR (ee_rF (ee_R rfl) rfl) (ee_aI (ee_L rfl) ee_aN)) (ee_cv (yt_X2_targetOf W x) rfl)) ee_K)) ee_aN) (ee_cs (yt_X5_needState σ _) rfl) (fun _ => ?_))
  exact es_C (ee_aR (ee_rF (ee_R rfl) rfl) (ee_aI (ee_L rfl) (ee_aI (ee_L rfl) (ee_aI (ee_L rfl) (ee_aI (ee_L rfl) ee_aN))))) (ee_cv (yt_X2_bind W x u c g h.1) rfl) es_eV
theorem yn_bind (I : yn_I t σ) {x u c g : Int32} (hx : ya_isT σ x = true) (hu : ya_isT σ u = true) (hup : tP σ u = -1) : yn_I t (ya_bind σ x.toNatClampNeg u c g) := by
  have hk : ∀ k, k ≠ 7 ∧ k ≠ 8 ∧ k ≠ 9 → ya_bind σ x.toNatClampNeg u c g k = σ k := fun k h => ya_bind_ne h
  have h3 : yc_b3 σ (ya_bind σ x.toNatClampNeg u c g) := fun k h => hk k (by omega)
  obtain ⟨iS, iG, iW, iO, iK, iV, iA⟩ := I
  have e1 : ya_isT (ya_bind σ x.toNatClampNeg u c g) = ya_isT σ := funext fun s => ya_isT_c (hk 1 (by decide)) s
  have eg : ∀ {j : Nat} (hj : j ≠ 7 ∧ j ≠ 8 ∧ j ≠ 9) (df w : Int32), ya_tg (ya_bind σ x.toNatClampNeg u c g) j df w = ya_tg σ j df w := fun hj df w => ya_tg_c (hk 1 (by decide)) (hk _ hj) df w
  have eG : ∀ w, tG (ya_bind σ x.toNatClampNeg u c g) w = tG σ w ∨ (w = x ∧ tG (ya_bind σ x.toNatClampNeg u c g) w = u) := fun w => by
    have e7 : ∀ i, ya_bind σ x.toNatClampNeg u c g 7 i = if i = x.toNatClampNeg then u else σ 7 i := fun i => by
      unfold ya_bind
      rw [yu_ne (k := 9) (by decide), yu_ne (k := 8) (by decide)]
      by_cases e : i = x.toNatClampNeg
      · rw [e, yu_at, if_pos rfl]
      · rw [yu_an e, if_neg e]
    cases hw : ya_isT σ w with
    | false =>
      left
      show ya_tg _ 7 (-1) w = ya_tg _ 7 (-1) w
      unfold ya_tg
      rw [e1, hw]
      rfl
    | true =>
      by_cases e : w = x
      · right
        refine ⟨e, ?_⟩
        show ya_tg _ 7 (-1) w = u
        rw [ya_tg_in (by rw [e1]; exact hw), e7, e, if_pos rfl]
      · left
        show ya_tg _ 7 (-1) w = ya_tg _ 7 (-1) w
        rw [ya_tg_in (by rw [e1]; exact hw), ya_tg_in hw, e7, if_neg]
        intro q
        apply e
        have h1 := yl_isT.mp hw
        have h2 := yl_isT.mp hx
        rw [yi_clampInt, yi_clampInt] at q
        apply yi_ext
        omega
  refine ⟨⟨by rw [hk 1 (by decide)]; exact iS.1, fun w hw => ?_, fun w z hw hz h1 h2 h4 => ?_⟩, by rw [yn_G_c3 h3]; exact iG, by rw [yn_W_c3 h3]; exact iW, by rw [yn_O_c3 h3]; exact iO, by rw [yn_K_c3 h3]; exact iK, fun w hw => ?_, yn_A_c (hk 1 (by decide)) (fun k h1 h2 => hk k (by omega)) (by rw [hk 31 (by decide)]; exact iA.2.2.1) iA⟩
  · rw [e1] at hw
    have q := iS.2.1 w hw
    unfold yn_ty at q ⊢
    rw [e1, show tD (ya_bind σ x.toNatClampNeg u c g) w = tD σ w from eg (by decide) _ _, show tP (ya_bind σ x.toNatClampNeg u c g) w = tP σ w from eg (by decide) _ _, show tV (ya_bind σ x.toNatClampNeg u c g) w = tV σ w from eg (by decide) _ _, show tK (ya_bind σ x.toNatClampNeg u c g) w = tK σ w from eg (by decide) _ _, show tR (ya_bind σ x.toNatClampNeg u c g) w = tR σ w from eg (by decide) _ _, show tD (ya_bind σ x.toNatClampNeg u c g) (tP σ w) = tD σ (tP σ w) from eg (by decide) _ _, show tV (ya_bind σ x.toNatClampNeg u c g) (tP σ w) = tV σ (tP σ w) from eg (by decide) _ _]
    obtain ⟨q1, q2, q3, q4, q5, q6, q7, q8⟩ := q
    refine ⟨q1, q2, q3, q4, q5, q6, q7, ?_⟩
    rcases eG w with e | ⟨e, e'⟩
    · rw [e, show tP (ya_bind σ x.toNatClampNeg u c g) (tG σ w) = tP σ (tG σ w) from eg (by decide) _ _]
      exact q8
    · rw [e', show tP (ya_bind σ x.toNatClampNeg u c g) u = tP σ u from eg (by decide) _ _]
      exact Or.inr ⟨hu, hup⟩
  · rw [e1] at hw hz
    rw [show tP (ya_bind σ x.toNatClampNeg u c g) w = tP σ w from eg (by decide) _ _] at h1
    rw [show tP (ya_bind σ x.toNatClampNeg u c g) z = tP σ z from eg (by decide) _ _] at h2
    rw [show tD (ya_bind σ x.toNatClampNeg u c g) w = tD σ w from eg (by decide) _ _, show tD (ya_bind σ x.toNatClampNeg u c g) z = tD σ z from eg (by decide) _ _] at h4
    exact iS.2.2 w z hw hz h1 h2 h4
  · have hb := yv_lt hw
    obtain ⟨g0, g1, g2, g3, g4, g5, g6, g7⟩ := iV w hw
    have f1 : yl (ya_bind σ x.toNatClampNeg u c g) = yl σ := funext fun s => yl_c (hk 11 (by decide)) s
    have f3 : ∀ s, sD (ya_bind σ x.toNatClampNeg u c g) s = sD σ s := fun s => sD_c (hk 1 (by decide)) (hk 2 (by decide)) (hk 11 (by decide)) s
    unfold yn_v
    rw [f1, hk (sy_vw w) (by omega), hk (sy_vw w + 1) (by omega), hk (sy_vw w + 2) (by omega), f3, f3]
    exact ⟨g0, g1, g2, g3, g4, g5, g6, g7⟩
end YW9
