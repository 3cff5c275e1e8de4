/-! what is kept when the view's cells, the area and the list change -/
section YG3
variable {σ τ A : sy_Mem} {t : Nat}
def ya_re (σ : sy_Mem) : sy_Mem := fun k => if k ≤ 18 then σ k else fun _ => 0
def yc_base (σ τ : sy_Mem) : Prop := ∀ k, k ≤ 18 → τ k = σ k
theorem ya_re_c (h : yc_base σ τ) : ya_re τ = ya_re σ := by
  funext k
  unfold ya_re
  by_cases hk : k ≤ 18
  · rw [if_pos hk, if_pos hk, h k hk]
  · rw [if_neg hk, if_neg hk]
theorem yn_S_re : yn_S (ya_re σ) = yn_S σ := rfl
theorem yn_G_re : yn_G (ya_re σ) = yn_G σ := rfl
theorem yn_W_re : yn_W (ya_re σ) = yn_W σ := rfl
theorem yn_O_re : yn_O (ya_re σ) = yn_O σ := rfl
theorem yn_K_re : yn_K t (ya_re σ) = yn_K t σ := rfl
theorem yn_S_c (h : yc_base σ τ) : yn_S τ = yn_S σ := by rw [← yn_S_re (σ := τ), ← yn_S_re (σ := σ), ya_re_c h]
theorem yn_G_c (h : yc_base σ τ) : yn_G τ = yn_G σ := by rw [← yn_G_re (σ := τ), ← yn_G_re (σ := σ), ya_re_c h]
theorem yn_W_c (h : yc_base σ τ) : yn_W τ = yn_W σ := by rw [← yn_W_re (σ := τ), ← yn_W_re (σ := σ), ya_re_c h]
theorem yn_O_c (h : yc_base σ τ) : yn_O τ = yn_O σ := by rw [← yn_O_re (σ := τ), ← yn_O_re (σ := σ), ya_re_c h]
theorem yn_K_c (h : yc_base σ τ) : yn_K t τ = yn_K t σ := by rw [← yn_K_re (σ := τ), ← yn_K_re (σ := σ), ya_re_c h]
theorem yl_c (h : τ 11 = σ 11) (s : Int32) : yl τ s = yl σ s := by
  unfold yl
  rw [ya_sg_c h]
theorem ya_isT_c (h : τ 1 = σ 1) (u : Int32) : ya_isT τ u = ya_isT σ u := by
  unfold ya_isT
  rw [h]
theorem ya_tg_c {k : Nat} (h : τ 1 = σ 1) (hk : τ k = σ k) (d u : Int32) : ya_tg τ k d u = ya_tg σ k d u := by
  unfold ya_tg
  rw [ya_isT_c h, hk]
theorem sD_c (h1 : τ 1 = σ 1) (h2 : τ 2 = σ 2) (h11 : τ 11 = σ 11) (s : Int32) : sD τ s = sD σ s := by
  show ya_tg τ 2 (-1) (ya_sg τ 11 s) = ya_tg σ 2 (-1) (ya_sg σ 11 s)
  rw [ya_tg_c h1 h2, ya_sg_c h11]
theorem yn_v_c (h : yc_base σ τ) {v : Nat} (h0 : τ (sy_vw v) = σ (sy_vw v)) (h1 : τ (sy_vw v + 1) = σ (sy_vw v + 1)) (h2 : τ (sy_vw v + 2) = σ (sy_vw v + 2)) : yn_v τ v = yn_v σ v := by
  have e1 : yl τ = yl σ := funext fun s => yl_c (h 11 (by decide)) s
  have e2 : (fun s => sD τ s) = (fun s => sD σ s) := funext fun s => sD_c (h 1 (by decide)) (h 2 (by decide)) (h 11 (by decide)) s
  have e3 : ∀ s, ya_tg τ 2 (-1) (ya_sg τ 11 s) = ya_tg σ 2 (-1) (ya_sg σ 11 s) := fun s => congrFun e2 s
  unfold yn_v
  rw [h0, h1, h2, e1]
  show _ = _
  rw [show sD τ (σ (sy_vw v) 2) = sD σ (σ (sy_vw v) 2) from e3 _, show sD τ (σ (sy_vw v) 5) = sD σ (σ (sy_vw v) 5) from e3 _]
theorem yn_A_c (h1 : τ 1 = σ 1) (h : ∀ k, 19 ≤ k → k ≤ 27 → τ k = σ k) (h31 : ∀ i, i < 12 → 0 ≤ (τ 31 i).toInt ∧ (τ 31 i).toInt ≤ 999) (hA : yn_A σ) : yn_A τ := by
  obtain ⟨a1, a2, a3, a4, a5⟩ := hA
  have e1 : ya_isT τ = ya_isT σ := funext fun s => ya_isT_c h1 s
  refine ⟨by rw [h 19 (by decide) (by decide)]; exact a1, ?_, h31, by rw [h 27 (by decide) (by decide)]; exact a4, by rw [h 27 (by decide) (by decide)]; exact a5⟩
  rw [h 19 (by decide) (by decide), h 20 (by decide) (by decide), h 21 (by decide) (by decide), h 22 (by decide) (by decide), h 23 (by decide) (by decide), h 24 (by decide) (by decide), e1]
  exact a2
/-- a change of one view, of the area and of the list alone -/
theorem yn_I_v (I : yn_I t σ) {v : Nat} (h : yc_base σ τ) (hw : ∀ w, w < 4 → w ≠ v → τ (sy_vw w) = σ (sy_vw w) ∧ τ (sy_vw w + 1) = σ (sy_vw w + 1) ∧ τ (sy_vw w + 2) = σ (sy_vw w + 2)) (hv : yn_v τ v) (hA : yn_A τ) : yn_I t τ := by
  obtain ⟨iS, iG, iW, iO, iK, iV, iA⟩ := I
  refine ⟨by rw [yn_S_c h]; exact iS, by rw [yn_G_c h]; exact iG, by rw [yn_W_c h]; exact iW, by rw [yn_O_c h]; exact iO, by rw [yn_K_c h]; exact iK, fun w hw4 => ?_, hA⟩
  by_cases e : w = v
  · rw [e]; exact hv
  · obtain ⟨g0, g1, g2⟩ := hw w hw4 e
    rw [yn_v_c h g0 g1 g2]
    exact iV w hw4
theorem yv_ne {v w : Nat} (h : w ≠ v) : sy_vw w ≠ sy_vw v ∧ sy_vw w ≠ sy_vw v + 1 ∧ sy_vw w ≠ sy_vw v + 2 ∧ sy_vw w + 1 ≠ sy_vw v ∧ sy_vw w + 1 ≠ sy_vw v + 1 ∧ sy_vw w + 1 ≠ sy_vw v + 2 ∧ sy_vw w + 2 ≠ sy_vw v ∧ sy_vw w + 2 ≠ sy_vw v + 1 ∧ sy_vw w + 2 ≠ sy_vw v + 2 := by
  unfold sy_vw
  omega
theorem yn_release (I : yn_I t σ) {v : Nat} (hv : v < 4) : yn_I t (sy_up σ (sy_vw v) 6 0) := by
  have hb := yv_lt hv
  have hbase : yc_base σ (sy_up σ (sy_vw v) 6 0) := fun k hk => yu_ne (by omega)
  refine yn_I_v I (v := v) hbase (fun w hw hne => ?_) ?_ (yn_A_c (hbase 1 (by decide)) (fun k h1 h2 => yu_ne (by omega)) (by rw [yu_ne (by omega)]; exact I.2.2.2.2.2.2.2.2.1) I.2.2.2.2.2.2)
  · have := yv_ne hne
    exact ⟨yu_ne this.1, yu_ne this.2.2.2.1, yu_ne this.2.2.2.2.2.2.1⟩
  · obtain ⟨h0, h1, h2, h3, h4, h5, h6, h7⟩ := I.2.2.2.2.2.1 v hv
    have e1 : yl (sy_up σ (sy_vw v) 6 0) = yl σ := funext fun s => yl_c (hbase 11 (by decide)) s
    have e3 : ∀ s, sD (sy_up σ (sy_vw v) 6 0) s = sD σ s := fun s => sD_c (hbase 1 (by decide)) (hbase 2 (by decide)) (hbase 11 (by decide)) s
    unfold yn_v
    rw [e1, yu_an (by decide), yu_an (by decide), yu_an (by decide), yu_an (by decide), yu_an (by decide), yu_an (by decide), yu_at]
    refine ⟨h0, h1, ?_, h3, h4, ?_, ⟨by decide, by decide⟩, fun i hi => ?_⟩
    · rw [e3]; exact h2
    · rw [e3]; exact h5
    · rw [yl_c0] at hi; omega
theorem ya_N_rng (I : yn_I t σ) {x f : Int32} (hx : yl σ x) (hf : 0 ≤ f.toInt ∧ f.toInt < 3) : 0 ≤ (ya_N σ x f).toInt ∧ (ya_N σ x f).toInt ≤ 999 := by
  have := yl_in hx
  rw [ya_N_in this hf]
  exact I.2.1.2 _ (by rw [yi_clampInt, yi_clampInt]; omega)
theorem ya_fillN_31 (I : yn_I t σ) {x : Int32} {n : Nat} (hx : yl σ x) : ∀ j, j ≤ 3 → ∀ i, i < 12 → 0 ≤ (ya_fillN σ n x j 31 i).toInt ∧ (ya_fillN σ n x j 31 i).toInt ≤ 999
  | 0, _, i, hi => I.2.2.2.2.2.2.2.2.1 i hi
  | j + 1, hj, i, hi => by
    show 0 ≤ (sy_up _ 31 _ _ 31 i).toInt ∧ _
    by_cases e : i = 3 * n + j
    · subst e
      have : sy_up (ya_fillN σ n x j) 31 (3 * n + j) (ya_N σ x (nI j)) 31 (3 * n + j) = ya_N σ x (nI j) := yu_at
      show 0 ≤ (sy_up (ya_fillN σ n x j) 31 (3 * n + j) (ya_N σ x (nI j)) 31 (3 * n + j)).toInt ∧ (sy_up (ya_fillN σ n x j) 31 (3 * n + j) (ya_N σ x (nI j)) 31 (3 * n + j)).toInt ≤ 999
      rw [this]
      exact ya_N_rng I hx (by rw [nI_toInt (by omega)]; omega)
    · have : sy_up (ya_fillN σ n x j) 31 (3 * n + j) (ya_N σ x (nI j)) 31 i = ya_fillN σ n x j 31 i := yu_an e
      show 0 ≤ (sy_up (ya_fillN σ n x j) 31 (3 * n + j) (ya_N σ x (nI j)) 31 i).toInt ∧ (sy_up (ya_fillN σ n x j) 31 (3 * n + j) (ya_N σ x (nI j)) 31 i).toInt ≤ 999
      rw [this]
      exact ya_fillN_31 I hx j (by omega) i hi
theorem ya_one_31 (σ : sy_Mem) {v n : Nat} {x : Int32} {h q : Bool} (hv : v < 4) : ya_one σ v n x h q 31 = ya_fillN σ n x 3 31 := by
  have hb := yv_lt hv
  unfold ya_one ya_hold
  cases h
  · rfl
  · show sy_up (sy_up (sy_up _ _ _ _) _ _ _) _ _ _ 31 = _
    rw [yu_ne (by omega), yu_ne (by omega), yu_ne (by omega)]
theorem ya_one_h1 (σ : sy_Mem) {v n : Nat} {x : Int32} {h q : Bool} (hv : v < 4) : ya_one σ v n x h q (sy_vw v + 1) = if h then upd (σ (sy_vw v + 1)) n x else σ (sy_vw v + 1) := by
  have hb := yv_lt hv
  unfold ya_one ya_hold
  cases h
  · show ya_fillN σ n x 3 (sy_vw v + 1) = _
    rw [ya_fillN_ne σ n x (by omega) 3]
    rfl
  · show sy_up (sy_up (sy_up _ _ _ _) _ _ _) _ _ _ (sy_vw v + 1) = _
    rw [yu_ne (by omega), yu_ne (by omega), yu_eq, ya_fillN_ne σ n x (by omega) 3]
    rfl
theorem ya_one_h2 (σ : sy_Mem) {v n : Nat} {x : Int32} {h q : Bool} (hv : v < 4) : ya_one σ v n x h q (sy_vw v + 2) = if h then upd (σ (sy_vw v + 2)) n (ya_b q) else σ (sy_vw v + 2) := by
  have hb := yv_lt hv
  unfold ya_one ya_hold
  cases h
  · show ya_fillN σ n x 3 (sy_vw v + 2) = _
    rw [ya_fillN_ne σ n x (by omega) 3]
    rfl
  · show sy_up (sy_up (sy_up _ _ _ _) _ _ _) _ _ _ (sy_vw v + 2) = _
    rw [yu_ne (by omega), yu_eq, yu_ne (by omega), ya_fillN_ne σ n x (by omega) 3]
    rfl
theorem yn_one (I : yn_I t σ) {v n : Nat} (hv : v < 4) {x : Int32} {h q : Bool} (hx : yl σ x) (hn : h = true → σ (sy_vw v) 6 = nI n) (h4 : n < 4) : yn_I t (ya_one σ v n x h q) := by
  have hb := yv_lt hv
  have hne : ∀ {k : Nat}, k ≠ 31 → k ≠ sy_vw v → k ≠ sy_vw v + 1 → k ≠ sy_vw v + 2 → ya_one σ v n x h q k = σ k := fun a b c d => ya_one_ne σ a b c d
  have hbase : yc_base σ (ya_one σ v n x h q) := fun k hk => hne (by omega) (by omega) (by omega) (by omega)
  refine yn_I_v I (v := v) hbase (fun w hw hwv => ?_) ?_ (yn_A_c (hbase 1 (by decide)) (fun k h1 h2 => hne (by omega) (by omega) (by omega) (by omega)) (by rw [ya_one_31 σ hv]; exact ya_fillN_31 I hx 3 (by omega)) I.2.2.2.2.2.2)
  · have := yv_ne hwv
    have hbw := yv_lt hw
    exact ⟨hne (by omega) this.1 this.2.1 this.2.2.1, hne (by omega) this.2.2.2.1 this.2.2.2.2.1 this.2.2.2.2.2.1, hne (by omega) this.2.2.2.2.2.2.1 this.2.2.2.2.2.2.2.1 this.2.2.2.2.2.2.2.2⟩
  · obtain ⟨h0, h1, h2, h3, h4', h5, h6, h7⟩ := I.2.2.2.2.2.1 v hv
    have e1 : yl (ya_one σ v n x h q) = yl σ := funext fun s => yl_c (hbase 11 (by decide)) s
    have e3 : ∀ s, sD (ya_one σ v n x h q) s = sD σ s := fun s => sD_c (hbase 1 (by decide)) (hbase 2 (by decide)) (hbase 11 (by decide)) s
    unfold yn_v
    rw [e1, ya_one_vw σ hv (by decide), ya_one_vw σ hv (by decide), ya_one_vw σ hv (by decide), ya_one_vw σ hv (by decide), ya_one_vw σ hv (by decide), ya_one_vw σ hv (by decide), ya_one_6 σ hv, ya_one_h1 σ hv, ya_one_h2 σ hv]
    refine ⟨h0, h1, by rw [e3]; exact h2, h3, h4', by rw [e3]; exact h5, ?_, ?_⟩
    · cases h
      · exact h6
      · show 0 ≤ (nI (n + 1)).toInt ∧ (nI (n + 1)).toInt ≤ 4
        rw [nI_toInt (by omega)]
        omega
    · cases h
      · exact h7
      · intro i hi
        have hi : (i : Int) < (nI (n + 1)).toInt := hi
        rw [nI_toInt (by omega)] at hi
        show yl σ (upd (σ (sy_vw v + 1)) n x i) ∧ (upd (σ (sy_vw v + 2)) n (ya_b q) i = 0 ∨ upd (σ (sy_vw v + 2)) n (ya_b q) i = 1)
        by_cases e : i = n
        · rw [e, pk_us, pk_us]
          exact ⟨hx, ya_b01 q⟩
        · rw [pk_un e, pk_un e]
          exact h7 i (by rw [hn rfl, nI_toInt (by omega)]; omega)
end YG3
