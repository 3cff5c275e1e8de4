section YWe
variable {σ τ A : sy_Mem} {t : Nat}
theorem yh_step (K w N H : Int64) : (K + w * N) + (w * 1000) * H = K + w * (1000 * H + N) := by
  rw [Int64.mul_add, ← Int64.mul_assoc, Int64.add_assoc, Int64.add_comm (w * N)]
theorem yh_loop {k : List Value → sy_MM (Option Value)} {r : Option (((Option Value) ⊕ Nat) × sy_Mem)} {a : Int32} {v : Nat} {V : Int64} (hk : ∀ w l, k [.ref 0, .int a, .ref (sy_vw v), .int (-1), .long V, .null, .long w, .null, .int l] σ = r) :
    ∀ (n m l : Nat) (s : Int32) (K w : Int64), l + n ≤ 4 → n < m → ya_len (yP σ) n s → K + w * ya_H σ n s = V →
    sy_wh (sy_cA (sy_clt (sy_iL 8) (sy_iK 4)) (sy_cne (sy_iL 3) (sy_iK (-1)))) (sy_sQ (sy_sQ (sy_sSL 4 (sy_lB (fun x y => x + y) (sy_lL 4) (sy_lB (fun x y => x * y) (sy_lL 6) (sy_lI (sy_iM (sy_cv 3 2 sf_X3_numberOf) (sy_aR (sy_rF 5 1 (sy_rL 0)) (sy_aI (sy_iL 3) (sy_aI (sy_iK 0) sy_aN)))))))) (sy_sQ (sy_sSL 6 (sy_lB (fun x y => x * y) (sy_lL 6) (sy_lK 1000))) (sy_sSI 3 (sy_iM (sy_cv 3 1 sf_X3_parentOf) (sy_aR (sy_rF 5 1 (sy_rL 0)) (sy_aI (sy_iL 3) sy_aN)))))) (sy_sIn 8 1)) m [.ref 0, .int a, .ref (sy_vw v), .int s, .long K, .null, .long w, .null, .int (nI l)] k σ = r
  | 0, m + 1, l, s, K, w, hl, hm, hs, hV => by
    unfold sy_wh
    have hs : s = -1 := hs
    rw [sy_bnd_at (show _ = some ((Sum.inl false : Bool ⊕ Nat), σ) from ?_)]
    · rw [hs]
      have : K = V := by
        rw [← hV]
        show K = K + w * 0
        rw [Int64.mul_zero, Int64.add_zero]
      rw [this]
      exact hk _ _
    · refine (ee_cA (ee_cB (ee_L rfl) ee_K) (fun _ => ee_cB (ee_L rfl) ee_K)).trans ?_
      rw [decide_eq_true hs, Bool.not_true, Bool.and_false]
  | n + 1, m + 1, l, s, K, w, hl, hm, hs, hV => by
    unfold sy_wh
    rw [sy_bnd_at (show _ = some ((Sum.inl true : Bool ⊕ Nat), σ) from ?_)]
    · rw [if_pos rfl]
      refine es_Q (es_Q (es_SL (ee_lB (ee_LL rfl) (ee_lB (ee_LL rfl) (ee_lI (ee_M (ee_aR (ee_rF (ee_R rfl) rfl) (ee_aI (ee_L rfl) (ee_aI ee_K ee_aN))) (ee_cv (yt_X3_numberOf σ _ 0) rfl))))) ?_))
      refine es_Q (es_SL (ee_lB (ee_LL rfl) ee_lK) ?_)
      refine es_SI (ee_M (ee_aR (ee_rF (ee_R rfl) rfl) (ee_aI (ee_L rfl) ee_aN)) (ee_cv (yt_X3_parentOf σ _) rfl)) ?_
      refine es_In1 (i := l) rfl ?_
      exact yh_loop hk n m (l + 1) (yP σ s) _ _ (by omega) (by omega) hs.2 (by rw [← hV]; exact yh_step _ _ _ _)
    · refine (ee_cA (ee_cB (ee_L rfl) ee_K) (fun _ => ee_cB (ee_L rfl) ee_K)).trans ?_
      rw [show decide (nI l < 4) = decide (l < 4) from yi_lt (N := 4) rfl (by omega) (by omega), decide_eq_true (show l < 4 by omega), decide_eq_false hs.1]
      rfl
  | _, 0, _, _, _, _, _, hm, _, _ => absurd hm (by omega)
/-- what keys comes to -/
def ya_keys (A : sy_Mem) (s : Int32) : Int64 := if s = -1 then -1 else ya_H A (ya_lv A s) s
theorem yt_X5_keys (I : yn_I t σ) (a : Int32) : sf_X5_keys [.ref 0, .int a] σ = if (decide (0 ≤ a) && decide (a < 4)) then some (.inl (some (.long (ya_keys σ (ya_here σ a.toNatClampNeg)))), σ) else some (.inr 1, σ) := by
  refine ee_meth ?_ rfl
  unfold sm_X5_keys
  refine es_Q (es_SRx (ee_aR (ee_R rfl) (ee_aI (ee_L rfl) ee_aN)) (ee_cv (yt_X5_viewOf σ a) rfl) (fun hx => ?_))
  have hv := (yv_of hx).1
  refine es_Q (es_SI (ee_M (ee_aR (ee_R rfl) ee_aN) (ee_cv (yt_X4_segmentAt σ hv) (yv_rc hv rfl))) ?_)
  unfold ya_keys
  by_cases hs : ya_here σ a.toNatClampNeg = -1
  · rw [if_pos hs]
    exact es_Q (es_It ((ee_cB (ee_L rfl) ee_K).trans (by rw [decide_eq_true hs])) (es_eL ee_lK))
  · rw [if_neg hs]
    have hl : yl σ (ya_here σ a.toNatClampNeg) := by
      rcases yg_modes I hv with ⟨_, _, hl, _, hm, hh⟩ | ⟨_, _, _, _, hm, hh⟩ | ⟨_, _, _, hm, hh⟩ | ⟨_, _, _, hm, hh⟩
      · rw [hh]; exact hl
      · exact absurd hh hs
      · exact absurd hh hs
      · exact absurd hh hs
    refine es_Q (es_If ((ee_cB (ee_L rfl) ee_K).trans (by rw [decide_eq_false hs])) (es_N ?_))
    refine es_Q (es_SL ee_lK (es_Q (es_SL ee_lK (es_Q (es_B (es_Q (es_SI ee_K0 ?_)))))))
    exact yh_loop (v := a.toNatClampNeg) (fun w l => es_eL (ee_LL rfl)) (ya_lv σ (ya_here σ a.toNatClampNeg)) 1000 0 _ 0 1 (by have := (yl_lev I hl).2.2; omega) (by have := (yl_lev I hl).2.2; omega) (ya_len_of I _ hl rfl) (by rw [Int64.one_mul, Int64.zero_add])
section
variable {k : List Value → sy_MM (Option Value)}
theorem yh_up (M : yr_M A τ) (I : yn_I t A) {a : Int32} {K : Int64} {i : Nat} (hi : 1 ≤ i) (h100 : i < 1000) : ∀ (d m : Nat) {s : Int32}, d < m → yl A s → ya_lv A s = i + d →
    sy_wh (sy_cgt (sy_iA 0 (sy_rF 6 5 (sy_rL 0)) (sy_iA 0 (sy_rF 6 9 (sy_rL 0)) (sy_iL 5))) (sy_iL 4)) (sy_sSI 5 (sy_iA 0 (sy_rF 6 10 (sy_rL 0)) (sy_iL 5))) m [.ref 44, .int a, .long K, .null, .int (nI i), .int s] k τ = k [.ref 44, .int a, .long K, .null, .int (nI i), .int (ya_anc (yP A) d s)] τ
  | 0, m + 1, s, hm, hs, hl => by
    unfold sy_wh
    rw [sy_bnd_at ((ee_cB (em_49 M I (ee_rF (ee_R rfl) rfl) (em_53 M (ee_rF (ee_R rfl) rfl) (ee_L rfl) (yl_in hs)) (I.2.1.1 s hs).1) (ee_L rfl)).trans (show _ = some ((Sum.inl false : Bool ⊕ Nat), τ) from ?_))]
    · rfl
    · have := (yl_lev I hs).1
      rw [decide_eq_false]
      rw [Int32.lt_iff_toInt_lt, nI_toInt (by omega)]
      show ¬ (i : Int) < (tV A (yT A s)).toInt
      omega
  | d + 1, m + 1, s, hm, hs, hl => by
    unfold sy_wh
    have hp : yP A s ≠ -1 := fun e => by
      have := (yl_lev1 I hs).mpr e
      omega
    obtain ⟨h1, h2⟩ := yl_levS I hs hp
    rw [sy_bnd_at ((ee_cB (em_49 M I (ee_rF (ee_R rfl) rfl) (em_53 M (ee_rF (ee_R rfl) rfl) (ee_L rfl) (yl_in hs)) (I.2.1.1 s hs).1) (ee_L rfl)).trans (show _ = some ((Sum.inl true : Bool ⊕ Nat), τ) from ?_))]
    · rw [if_pos rfl]
      refine es_SI (em_54 M (ee_rF (ee_R rfl) rfl) (ee_L rfl) hs) ?_
      exact yh_up M I hi h100 d m (by omega) h1 (show ya_lv A (yP A s) = i + d by omega)
    · have := (yl_lev I hs).1
      rw [decide_eq_true]
      rw [Int32.lt_iff_toInt_lt, nI_toInt (by omega)]
      show (i : Int) < (tV A (yT A s)).toInt
      omega
  | _, 0, _, hm, _, _ => absurd hm (by omega)
end
theorem ym_keys (M : yr_M A τ) (I : yn_I t A) (a : Int32) : sf_X6_keys [.ref 44, .int a] τ = some (.inl (some (.long (if (decide (0 ≤ a) && decide (a < 4)) then ya_keys A (ya_here A a.toNatClampNeg) else 0))), sy_up τ 44 36 (if (decide (0 ≤ a) && decide (a < 4)) then 0 else 1)) := by
  refine ee_meth ?_ rfl
  unfold sm_X6_keys
  have hg := ee_cN (ee_goes (yg_isView τ a [.ref 44, .int a] rfl rfl))
  rw [ya_thr1] at hg
  cases hc : (decide (0 ≤ a) && decide (a < 4)) with
  | false =>
    rw [hc, if_neg (show ¬ (false = true) by decide)] at hg
    rw [if_neg (show ¬ (false = true) by decide), if_neg (show ¬ (false = true) by decide)]
    refine es_Q (es_It (ee_cO (x := true) (y := true) hg (fun h => absurd h (by decide))) (es_eL (x := 0) ?_))
    unfold sy_lQ
    rw [sy_bnd_at ((ee_cB (ee_F (ee_R rfl) rfl) ee_K).trans (show _ = some ((Sum.inl false : Bool ⊕ Nat), sy_up τ 44 36 1) by rw [yu_at]; rfl))]
    rfl
  | true =>
    rw [hc, if_pos (show true = true from rfl)] at hg
    rw [if_pos (show true = true from rfl), if_pos (show true = true from rfl)]
    obtain ⟨hv, ea⟩ := yv_of hc
    have M' := yr_M_44 M (i := 36) (x := 0) ⟨by decide, by decide⟩
    have ec : some (Value.int a) = some (.int (nI a.toNatClampNeg)) := by rw [← ea]
    have hcond : sy_cO (sy_cN (sy_cI (sy_iM (sy_cv 6 3 sf_X6_goes) (sy_aR (sy_rL 0) (sy_aI (sy_iM (sy_cs 1 sf_X6_isView) (sy_aI (sy_iL 1) sy_aN)) (sy_aI (sy_iK 1) (sy_aI (sy_iK 1) sy_aN))))))) (sy_cne (sy_iA 0 (sy_rF 6 17 (sy_rL 0)) (sy_iL 1)) (sy_iK 0)) [.ref 44, .int a] τ = some (.inl (!decide (ya_mode A a.toNatClampNeg = 0)), sy_up τ 44 36 0) :=
      (ee_cO (x := false) hg (fun _ => ee_cB (em_61 M' hv (ee_rF (ee_R rfl) rfl) (ee_L ec)) ee_K)).trans (by rw [Bool.false_or])
    by_cases hm : ya_mode A a.toNatClampNeg = 0
    · have hl := yg_mode0 I hv (decide_eq_true hm)
      have hh : ya_here A a.toNatClampNeg = A (sy_vw a.toNatClampNeg) 2 := by
        by_cases e : A (sy_vw a.toNatClampNeg) 3 = 0
        · exact absurd hm ((yg_here I hv).1 e).2
        · exact ((yg_here I hv).2 e).1
      rw [hm] at hcond
      rw [hh]
      have hn := yl_lev I hl
      unfold ya_keys
      rw [if_neg (yl_ne hl)]
      refine es_Q (es_If hcond (es_N (es_Q (es_SL ee_lK (es_Q (es_B (es_Q (es_SI (x := nI 1) (show _ = some ((Sum.inl (nI 1) : Int32 ⊕ Nat), _) from rfl) ?_))))))))
      refine es_loop (E := fun i => [.ref 44, .int a, .long (ya_H A (i - 1) (ya_anc (yP A) (ya_lv A (A (sy_vw a.toNatClampNeg) 2) + 1 - i) (A (sy_vw a.toNatClampNeg) 2))), .null, .int (nI i)]) (S := fun _ => sy_up τ 44 36 0) (ya_lv A (A (sy_vw a.toNatClampNeg) 2)) 1 1000 (by omega) (fun i h1 h2 => ?_) ?_ (fun i h1 h2 k' => ?_) ?_
      · refine (ee_cB (ee_L rfl) (em_49 M' I (ee_rF (ee_R rfl) rfl) (em_53 M' (ee_rF (ee_R rfl) rfl) (em_62 M' hv (ee_rF (ee_R rfl) rfl) (ee_L ec)) (yl_in hl)) (I.2.1.1 _ hl).1)).trans ?_
        rw [decide_eq_true]
        rw [Int32.le_iff_toInt_le, nI_toInt (by omega)]
        show (i : Int) ≤ (tV A (yT A (A (sy_vw a.toNatClampNeg) 2))).toInt
        omega
      · refine (ee_cB (ee_L rfl) (em_49 M' I (ee_rF (ee_R rfl) rfl) (em_53 M' (ee_rF (ee_R rfl) rfl) (em_62 M' hv (ee_rF (ee_R rfl) rfl) (ee_L ec)) (yl_in hl)) (I.2.1.1 _ hl).1)).trans ?_
        rw [decide_eq_false]
        rw [Int32.le_iff_toInt_le, nI_toInt (by omega)]
        show ¬ ((1 + ya_lv A (A (sy_vw a.toNatClampNeg) 2) : Nat) : Int) ≤ (tV A (yT A (A (sy_vw a.toNatClampNeg) 2))).toInt
        omega
      · refine es_Q (es_B (es_Q (es_SI (em_62 M' hv (ee_rF (ee_R rfl) rfl) (ee_L ec)) (es_Q ?_))))
        have ha := ya_anc_l I h1 (ya_lv A (A (sy_vw a.toNatClampNeg) 2) - i) hl (by omega)
        refine (yh_up M' I h1 (by omega) (ya_lv A (A (sy_vw a.toNatClampNeg) 2) - i) 1000 (by omega) hl (by omega)).trans ?_
        refine es_SL (ee_lB (ee_lB ee_lK (ee_LL rfl)) (ee_lI (ee_M (ee_aR (ee_R rfl) (ee_aI (ee_L rfl) ee_aN)) (ee_cv (ym_key M' _ (yl_in ha.1)) rfl)))) ?_
        refine es_In1 rfl ?_
        have e1 : ya_lv A (A (sy_vw a.toNatClampNeg) 2) + 1 - i = (ya_lv A (A (sy_vw a.toNatClampNeg) 2) - i) + 1 := by omega
        have e2 : ya_lv A (A (sy_vw a.toNatClampNeg) 2) + 1 - (i + 1) = ya_lv A (A (sy_vw a.toNatClampNeg) 2) - i := by omega
        have e3 : i + 1 - 1 = (i - 1) + 1 := by omega
        show k' [.ref 44, .int a, .long (1000 * ya_H A (i - 1) (ya_anc (yP A) (ya_lv A (A (sy_vw a.toNatClampNeg) 2) + 1 - i) (A (sy_vw a.toNatClampNeg) 2)) + (ya_N A (ya_anc (yP A) (ya_lv A (A (sy_vw a.toNatClampNeg) 2) - i) (A (sy_vw a.toNatClampNeg) 2)) 0).toInt64), .null, .int (nI (i + 1))] _ = k' [.ref 44, .int a, .long (ya_H A (i + 1 - 1) (ya_anc (yP A) (ya_lv A (A (sy_vw a.toNatClampNeg) 2) + 1 - (i + 1)) (A (sy_vw a.toNatClampNeg) 2))), .null, .int (nI (i + 1))] _
        rw [e1, ya_anc_s, e2, e3]
        rfl
      · refine es_eL (ee_LL ?_)
        show some (Value.long (ya_H A (1 + ya_lv A (A (sy_vw a.toNatClampNeg) 2) - 1) (ya_anc (yP A) (ya_lv A (A (sy_vw a.toNatClampNeg) 2) + 1 - (1 + ya_lv A (A (sy_vw a.toNatClampNeg) 2))) (A (sy_vw a.toNatClampNeg) 2)))) = _
        rw [show 1 + ya_lv A (A (sy_vw a.toNatClampNeg) 2) - 1 = ya_lv A (A (sy_vw a.toNatClampNeg) 2) by omega, show ya_lv A (A (sy_vw a.toNatClampNeg) 2) + 1 - (1 + ya_lv A (A (sy_vw a.toNatClampNeg) 2)) = 0 by omega]
        rfl
    · have hh : ya_here A a.toNatClampNeg = -1 := by
        by_cases e : A (sy_vw a.toNatClampNeg) 3 = 0
        · exact ((yg_here I hv).1 e).1
        · exact absurd ((yg_here I hv).2 e).2.1 hm
      rw [decide_eq_false hm] at hcond
      rw [hh]
      refine es_Q (es_It hcond (es_eL (x := -1) ?_))
      unfold sy_lQ
      rw [sy_bnd_at ((ee_cB (ee_F (ee_R rfl) rfl) ee_K).trans (show _ = some ((Sum.inl true : Bool ⊕ Nat), sy_up τ 44 36 0) by rw [yu_at]; rfl))]
      rfl
/-- a turn of a call with a long for its answer -/
theorem yw_ok_keys (H : yw_R t σ) (a : Int32) : ∃ r σ1 y τ2, sf_X5_keys [.ref 0, .int a] σ = some (sy_rJ r, σ1) ∧ (∀ E, r = .inr E → 1 ≤ E ∧ E ≤ 1) ∧ sf_X6_keys [.ref 44, .int a] (sy_noteJ r σ1) = some (.inl (some (.long y)), τ2) ∧ sy_alikeJ r y τ2 ∧ yw_R (t + 1) τ2 := by
  have h5 := yt_X5_keys H.1 a
  cases hc : (decide (0 ≤ a) && decide (a < 4)) with
  | false =>
    rw [hc, if_neg (show ¬ (false = true) by decide)] at h5
    have h6 := ym_keys H.2 H.1 a
    rw [hc, if_neg (show ¬ (false = true) by decide), if_neg (show ¬ (false = true) by decide)] at h6
    have hf : ym_fw (sy_note (.inr 1) σ) (sy_up σ 44 36 1) := ym_fw_up (τ := σ) ⟨by decide, by decide⟩
    exact ⟨.inr 1, σ, 0, _, h5, fun E e => (by cases e; decide), h6, ⟨yu_at, fun x e => (by cases e)⟩, yw_R_up (yw_next H.1 (yr_M_44 H.2 ⟨by decide, by decide⟩) hf)⟩
  | true =>
    rw [hc, if_pos (show true = true from rfl)] at h5
    have hn : ∀ k, k ≠ 77 → sy_upL σ 77 (ya_keys σ (ya_here σ a.toNatClampNeg)) k = σ k := fun k hk => by
      show sy_up (sy_up σ 77 0 _) 77 1 _ k = _
      rw [yu_ne hk, yu_ne hk]
    have M0 : yr_M σ (sy_upL σ 77 (ya_keys σ (ya_here σ a.toNatClampNeg))) := yr_M_ge H.2 (fun k h1 h2 => hn k (by omega))
    have h6 := ym_keys M0 H.1 a
    rw [hc, if_pos (show true = true from rfl), if_pos (show true = true from rfl)] at h6
    have M1 := yr_M_44 M0 (i := 36) (x := 0) ⟨by decide, by decide⟩
    have hlt : ∀ k, k < 44 → sy_up (sy_upL σ 77 (ya_keys σ (ya_here σ a.toNatClampNeg))) 44 36 0 k = σ k := fun k hk => by rw [yu_ne (by omega), hn k (by omega)]
    refine ⟨.inl _, _, _, _, h5, fun E e => (by cases e), h6, ⟨yu_at, fun x e => ?_⟩, yw_R_up ⟨yn_I_lt H.1 hlt, yr_M_lt M1 hlt⟩⟩
    cases e
    refine ⟨rfl, ?_⟩
    rw [yu_ne (by decide)]
    show sy_jn (sy_up (sy_up σ 77 0 (sy_hi _)) 77 1 (sy_lo _) 77 0) (sy_up (sy_up σ 77 0 (sy_hi _)) 77 1 (sy_lo _) 77 1) = _
    rw [yu_an (by decide), yu_at, yu_at]
    exact sy_jn_hl _
end YWe
