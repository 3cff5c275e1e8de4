section YWe
variable {σ τ A : sy_Mem} {t : Nat}
theorem yh_step (K w N H : Int64) : (K + w * N) + (w * 1000) * H = K + w * (1000 * H + N) := by
  rw [Int64.mul_add, ← Int64.mul_assoc, Int64.add_assoc, Int64.add_comm (w * N)]
theorem yh_loop {k : List Value → sy_MM (Option Value)} {r : Option (((Option Value) ⊕ Nat) × sy_Mem)} {a : Int32} {v : Nat} {V : Int64} (hk : ∀ w l, k [.ref 0, .int a, .ref (sy_vw v), .int (-1), .long V, .null, .long w, .null, .int l] σ = r) :
    ∀ (n m l : Nat) (s : Int32) (K w : Int64), l + n ≤ 4 → n < m → ya_len (yP σ) n s → K + w * ya_H σ n s = V →
    sy_wh (sy_cA (sy_clt (sy_iL 8) (sy_iK 4)) (sy_cne (sy_iL 3) (sy_iK (-1)))) (sy_sQ (sy_sQ (sy_sSL 4 (sy_lB (fun x y => x + y) (sy_lL 4) (sy_lB (fun x y => x * y) (sy_lL 6) (sy_lI (sy_iM (sy_cv 3 2 sf_X3_numberOf) (sy_aR (sy_rF 5 1 (sy_rL 0)) (sy_aI (sy_iL 3) (sy_aI (sy_iK 0) sy_aN)))))))) (sy_sQ (sy_sSL 6 (sy_lB (fun x y => x * y) (sy_lL 6) (sy_lK 1000))) (sy_sSI 3 (sy_iM (sy_cv 3 1 sf_X3_parentOf) (sy_aR (sy_rF 5 1 (sy_rL 0)) (sy_aI (sy_iL 3) sy_aN)))))) (sy_sIn 8 1)) m [.ref 0, .int a, .ref (sy_vw v), .int s, .long K, .null, .long w, .null, .int (nI l)] k σ = r
  | 0, m + 1, l, s, K, w, hl, hm, hs, hV => by
    unfold sy_wh
    have hs : s = -1 := hs
    rw [sy_bnd_at (show _ = some ((Sum.inl false : Bool ⊕ Nat), σ) from ?_)]
    · rw [hs]
      have : K = V := by
        rw [← hV]
        show K = K + w * 0
        rw [Int64.mul_zero, Int64.add_zero]
      rw [this]
      exact hk _ _
    · refine (ee_cA (ee_cB (ee_L rfl) ee_K) (fun _ => ee_cB (ee_L rfl) ee_K)).trans ?_
      rw [decide_eq_true hs, Bool.not_true, Bool.and_false]
  | n + 1, m + 1, l, s, K, w, hl, hm, hs, hV => by
    unfold sy_wh
    rw [sy_bnd_at (show _ = some ((Sum.inl true : Bool ⊕ Nat), σ) from ?_)]
    · rw [if_pos rfl]
      refine es_Q (es_Q (es_SL (ee_lB (ee_LL rfl) (ee_lB (ee_LL rfl) (ee_lI (ee_M (ee_aR (ee_rF (ee_R rfl) rfl) (ee_aI (ee_L rfl) (ee_aI ee_K ee_aN))) (ee_cv (yt_X3_numberOf σ _ 0) rfl))))) ?_))
      refine es_Q (es_SL (ee_lB (ee_LL rfl) ee_lK) ?_)
      refine es_SI (ee_M (ee_aR (ee_rF (ee_R rfl) rfl) (ee_aI (ee_L rfl) ee_aN)) (ee_cv (yt_X3_parentOf σ _) rfl)) ?_
      refine es_In1 (i := l) rfl ?_
      exact yh_loop hk n m (l + 1) (yP σ s) _ _ (by omega) (by omega) hs.2 (by rw [← hV]; exact yh_step _ _ _ _)
    · refine (ee_cA (ee_cB (ee_L rfl) ee_K) (fun _ => ee_cB (ee_L rfl) ee_K)).trans ?_
      rw [show decide (nI l < 4) = decide (l < 4) from yi_lt (N := 4) rfl (by omega) (by omega), decide_eq_true (show l < 4 by omega), decide_eq_false hs.1]
      rfl
  | _, 0, _, _, _, _, _, hm, _, _ => absurd hm (by omega)
/-- what keys comes to -/
def ya_keys (A : sy_Mem) (s : Int32) : Int64 := if s = -1 then -1 else ya_H A (ya_lv A s) s
theorem yt_X5_keys (I : yn_I t σ) (a : Int32) : sf_X5_keys [.ref 0, .int a] σ = if (decide (0 ≤ a) && decide (a < 4)) then some (.inl (some (.long (ya_keys σ (ya_here σ a.toNatClampNeg)))), σ) else some (.inr 1, σ) := by
  refine ee_meth ?_ rfl
  unfold sm_X5_keys
  refine es_Q (es_SRx (ee_aR (ee_R rfl) (ee_aI (ee_L rfl) ee_aN)) (ee_cv (yt_X5_viewOf σ a) rfl) (fun hx => ?_))
  have hv := (yv_of hx).1
  refine es_Q (es_SI (ee_M (ee_aR (ee_R rfl) ee_aN) (ee_cv (yt_X4_segmentAt σ hv) (yv_rc hv rfl))) ?_)
  unfold ya_keys
  by_cases hs : ya_here σ a.toNatClampNeg = -1
  · rw [if_pos hs]
    exact es_Q (es_It ((ee_cB (ee_L rfl) ee_K).trans (by rw [decide_eq_true hs])) (es_eL ee_lK))
  · rw [if_neg hs]
    have hl : yl σ (ya_here σ a.toNatClampNeg) := by
      rcases yg_modes I hv with ⟨_, _, hl, _, hm, hh⟩ | ⟨_, _, _, _, hm, hh⟩ | ⟨_, _, _, hm, hh⟩ | ⟨_, _, _, hm, hh⟩
      · rw [hh]; exact hl
      · exact absurd hh hs
      · exact absurd hh hs
      · exact absurd hh hs
    refine es_Q (es_If ((ee_cB (ee_L rfl) ee_K).trans (by rw [decide_eq_false hs])) (es_N ?_))
    refine es_Q (es_SL ee_lK (es_Q (es_SL ee_lK (es_Q (es_B (es_Q (es_SI ee_K0 ?_)))))))
    exact yh_loop (v := a.toNatClampNeg) (fun w l => es_eL (ee_LL rfl)) (ya_lv σ (ya_here σ a.toNatClampNeg)) 1000 0 _ 0 1 (by have := (yl_lev I hl).2.2; omega) (by have := (yl_lev I hl).2.2; omega) (ya_len_of I _ hl rfl) (by rw [Int64.one_mul, Int64.zero_add])
section
variable {k : List Value → sy_MM (Option Value)}
end
end YWe
