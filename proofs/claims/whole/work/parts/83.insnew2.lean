section YIc
variable {A B τ τ' ρ : sy_Mem} {t m n f v : Nat} {ty p key here : Int32}
theorem yt_X5_insertNew (I : yn_I t A) (M : yr_M A τ) (hv : v < 4) (O : yi_ok A v f p) (ht : t + 60 < 10000) {B : sy_Mem} {b : Int32} (e : ya_inw A f p (ya_here A v) ((A 19 0).toNatClampNeg - f) = (B, b)) :
    sf_X5_insertNew [.ref 0, .ref (sy_vw v), .int (nI f), .int p] A = some (.inl none, sy_up (ya_stand B v b 1 0) (sy_vw v) 5 b) := by
  have h4 := yg_n19 I
  have o1 := O.1
  refine ee_meth ?_ rfl
  unfold sm_X5_insertNew
  refine es_Q (es_Q (es_SI (ee_L rfl) (es_Q (es_B (es_Q (es_SI (ee_L rfl) ?_))))))
  refine es_loop (E := fun n => [.ref 0, .ref (sy_vw v), .int (nI f), .int p, .int (ya_inw A f p (ya_here A v) n).2, .int (nI (f + n))]) (S := fun n => (ya_inw A f p (ya_here A v) n).1) ((A 19 0).toNatClampNeg - f) 0 1000 (by omega) (fun n _ h2 => ?_) ?_ (fun n _ h2 k' => ?_) ?_
  · have g := yi_in I M hv O ht n (by omega)
    exact (es_cB (B := A 19 0) rfl ((ee_M (ee_aR (ee_rF (ee_R rfl) rfl) ee_aN) (ee_cv (yt_X0_size _) rfl)).trans (by rw [g.2.2.2.1 19 (by decide)])) (by omega)).trans (by rw [decide_eq_true (by omega)])
  · have g := yi_in I M hv O ht (0 + ((A 19 0).toNatClampNeg - f)) (by omega)
    exact (es_cB (B := A 19 0) rfl ((ee_M (ee_aR (ee_rF (ee_R rfl) rfl) ee_aN) (ee_cv (yt_X0_size _) rfl)).trans (by rw [g.2.2.2.1 19 (by decide)])) (by omega)).trans (by rw [decide_eq_false (by omega)])
  · have g := yi_in I M hv O ht n (by omega)
    obtain ⟨H, h60, _⟩ := yi_H I hv O (by omega) g
    obtain ⟨g1, g2, g3, g4, g5, g6⟩ := g
    have W := yn_Wo g1
    have eu : ∀ j : Nat, ya_ag (ya_inw A f p (ya_here A v) n).1 20 (-1) (nI j) = ya_ag A 20 (-1) (nI j) := fun j => ya_ag_c (g4 19 (by decide)) (g4 20 (by decide)) _ _
    have es : ∀ a b : Int32, ya_slot (ya_inw A f p (ya_here A v) n).1 a b = ya_slot A a b := fun a b => ya_slot_c (g4 31 (by decide)) a b
    have hsub : nI (f + n) - nI f = nI n := by rw [nI_subn (by omega) (by omega), Nat.add_sub_cancel_left]
    refine es_Q (es_B (es_Q (es_SI (ee_M (ee_aR (ee_R rfl) (ee_aI (x := ya_ag A 20 (-1) (nI (f + n))) ((ee_M (ee_aR (ee_rF (ee_R rfl) rfl) (ee_aI (ee_L rfl) ee_aN)) (ee_cv (yt_X0_typeOf _ _) rfl)).trans (by rw [eu])) (ee_aI (ee_L rfl) (ee_aI (x := ya_slot A (nI n) 0) ((ee_M (ee_aR (ee_R rfl) (ee_aI (ee_B (ee_L rfl) (ee_L rfl)) (ee_aI ee_K ee_aN))) (ee_cv (yt_X5_slotNumber _ _ _) rfl)).trans (by rw [es, hsub])) (ee_aI (x := ya_here A v) ((ee_M (ee_aR (ee_R rfl) ee_aN) (ee_cv (yt_X4_segmentAt _ hv) (yv_rc hv rfl))).trans (by rw [ya_here_hi g4])) ee_aN))))) (ee_cv (yt_X5_addSegment H.1 H.2.1 H.2.2.1 H.2.2.2) rfl)) (es_Q ?_))))
    refine es_C (ee_aR (ee_R rfl) (ee_aI (ee_L rfl) (ee_aI ((ee_B (ee_L rfl) (ee_L rfl)).trans (by rw [hsub])) ee_aN))) (ee_cv (yt_X5_fillSegment _ H.2.2.1) rfl) (es_SI (ee_L rfl) (es_In1 rfl rfl))
  · rw [Nat.zero_add, e]
    show sy_sQ _ _ _ _ B = _
    refine es_Q (es_C (ee_aR (ee_R rfl) (ee_aI (ee_L rfl) ee_aN)) (ee_cv (yt_X4_standAt _ hv _) (yv_rc hv rfl)) (es_C (ee_aR (ee_R rfl) (ee_aI (ee_L rfl) ee_aN)) (ee_cv (yt_X4_setParent _ hv _) (yv_rc hv rfl)) es_eV))
/-- the model's, behind its last check -/
theorem ym_insertNew (I : yn_I t A) (M : yr_M A τ) (hv : v < 4) (O : yi_ok A v f p) (ht : t + 60 < 10000) {B : sy_Mem} {b x3 : Int32} {k : List Value → sy_MM (Option Value)} (e : ya_inw A f p (ya_here A v) ((A 19 0).toNatClampNeg - f) = (B, b)) :
    (sy_sQ (sy_sB 5 (sy_sQ (sy_sSI 5 (sy_iL 2)) (sy_wh (sy_clt (sy_iL 5) (sy_iF 6 24 (sy_rL 0))) (sy_sQ (sy_sB 6 (sy_sQ (sy_sSI 6 (sy_iSub (sy_iL 5) (sy_iL 2))) (sy_sQ (sy_sSI 4 (sy_iM (sy_cv 6 4 sf_X6_inserts) (sy_aR (sy_rL 0) (sy_aI (sy_iA 0 (sy_rF 6 25 (sy_rL 0)) (sy_iL 5)) (sy_aI (sy_iL 4) (sy_aI (sy_iA 0 (sy_rF 6 32 (sy_rL 0)) (sy_iMul (sy_iK 3) (sy_iL 6))) (sy_aI (sy_iL 1) sy_aN))))))) (sy_sQ (sy_sW (sy_rF 6 11 (sy_rL 0)) (sy_iAdd (sy_iMul (sy_iK 3) (sy_iL 4)) (sy_iK 1)) (sy_iA 0 (sy_rF 6 32 (sy_rL 0)) (sy_iAdd (sy_iMul (sy_iK 3) (sy_iL 6)) (sy_iK 1)))) (sy_sW (sy_rF 6 11 (sy_rL 0)) (sy_iAdd (sy_iMul (sy_iK 3) (sy_iL 4)) (sy_iK 2)) (sy_iA 0 (sy_rF 6 32 (sy_rL 0)) (sy_iAdd (sy_iMul (sy_iK 3) (sy_iL 6)) (sy_iK 2)))))))) (sy_sIn 5 1)) 1000))) (sy_sQ (sy_sW (sy_rF 6 17 (sy_rL 0)) (sy_iL 1) (sy_iK 0)) (sy_sQ (sy_sW (sy_rF 6 18 (sy_rL 0)) (sy_iL 1) (sy_iL 4)) (sy_sQ (sy_sW (sy_rF 6 19 (sy_rL 0)) (sy_iL 1) (sy_iL 4)) (sy_eI (sy_iK 0)))))) [.ref 44, .int (nI v), .int (nI f), .int x3, .int p] k τ
     = some (.inl (some (.int 0)), sy_up (sy_up (sy_up (ym_inw τ A f p (ya_here A v) ((A 19 0).toNatClampNeg - f)) 61 v 0) 62 v b) 63 v b) := by
  have h4 := yg_n19 I
  have o1 := O.1
  refine es_Q (es_B (es_Q (es_SI (ee_L rfl) ?_)))
  refine es_loop (E := fun n => [.ref 44, .int (nI v), .int (nI f), .int x3, .int (ya_inw A f p (ya_here A v) n).2, .int (nI (f + n))]) (S := fun n => ym_inw τ A f p (ya_here A v) n) ((A 19 0).toNatClampNeg - f) 0 1000 (by omega) (fun n _ h2 => ?_) ?_ (fun n _ h2 k' => ?_) ?_
  · have g := yi_in I M hv O ht n (by omega)
    exact (es_cB (B := A 19 0) rfl ((em_F24 g.2.1 (ee_R rfl)).trans (by rw [g.2.2.2.1 19 (by decide)])) (by omega)).trans (by rw [decide_eq_true (by omega)])
  · have g := yi_in I M hv O ht (0 + ((A 19 0).toNatClampNeg - f)) (by omega)
    exact (es_cB (B := A 19 0) rfl ((em_F24 g.2.1 (ee_R rfl)).trans (by rw [g.2.2.2.1 19 (by decide)])) (by omega)).trans (by rw [decide_eq_false (by omega)])
  · have g := yi_in I M hv O ht n (by omega)
    obtain ⟨H, h60, hvh⟩ := yi_H I hv O (by omega) g
    obtain ⟨g1, g2, g3, g4, g5, g6⟩ := g
    have eu : ∀ j : Nat, ya_ag (ya_inw A f p (ya_here A v) n).1 20 (-1) (nI j) = ya_ag A 20 (-1) (nI j) := fun j => ya_ag_c (g4 19 (by decide)) (g4 20 (by decide)) _ _
    have hsub : nI (f + n) - nI f = nI n := by rw [nI_subn (by omega) (by omega), Nat.add_sub_cancel_left]
    have e19 : (ya_inw A f p (ya_here A v) n).1 19 0 = A 19 0 := by rw [g4 19 (by decide)]
    have hz := H.2.2.1
    have hs : ∀ (ρ : sy_Mem), ρ 74 = A 31 → ∀ (j : Nat), j < 3 → ∀ {env : List Value} {e : sy_IE}, env[0]? = some (.ref 44) → e env ρ = some (.inl (3 * nI n + nI j), ρ) → sy_iA 0 (sy_rF 6 32 (sy_rL 0)) e env ρ = some (.inl (ya_slot A (nI n) (nI j)), ρ) := fun ρ h74 j hj env e h0 he => by
      have hx := yl_ix (x := nI n) (y := nI j) (c := 3) (n := 4) (m := 3) yl_c3 (by rw [nI_toInt (by omega)]; omega) (by rw [nI_toInt (by omega)]; omega) (by omega) (by rw [nI_toInt (by omega)]; omega) (by rw [nI_toInt (by omega)]; omega)
      rw [Int32.mul_comm] at hx
      rw [ee_A (kd := 0) (a := 74) (ee_rF (ee_R h0) rfl) he hx.2.2, hx.2.1, h74, ya_slot_in (by rw [nI_toInt (by omega)]; omega) (by rw [nI_toInt (by omega)]; omega)]
    have h74n : ym_inw τ A f p (ya_here A v) n 74 = A 31 := by rw [g5 74 (by decide)]; exact M.2.2.2.2.2.2.2.2.2.2.2
    refine es_Q (es_B (es_Q (es_SI (x := nI n) ((ee_B (ee_L rfl) (ee_L rfl)).trans (by rw [hsub])) (es_Q (es_SI (ee_M (ee_aR (ee_R rfl) (ee_aI (x := ya_ag A 20 (-1) (nI (f + n))) ((em_67 g2 g1 (ee_rF (ee_R rfl) rfl) (ee_L rfl) (by rw [e19]; omega)).trans (by rw [eu])) (ee_aI (ee_L rfl) (ee_aI (x := ya_slot A (nI n) 0) (hs _ h74n 0 (by decide) rfl ((ee_B ee_K (ee_L rfl)).trans (by rw [nI_0, Int32.add_zero]))) (ee_aI (ee_L rfl) ee_aN))))) (ee_cv (ym_inserts g2 H hvh) rfl)) (es_Q ?_))))))
    have h74i : ∀ x : Int32, ym_ins (ym_inw τ A f p (ya_here A v) n) (ya_inw A f p (ya_here A v) n).1 (ya_ag A 20 (-1) (nI (f + n))) (ya_inw A f p (ya_here A v) n).2 (ya_slot A (nI n) 0) (ya_here A v) 74 = A 31 := fun _ => by rw [ym_ins_fi 74 (by decide)]; exact h74n
    have e3 : ∀ j : Nat, j < 3 → sy_inb (3 * nI (ya_fr (ya_inw A f p (ya_here A v) n).1) + nI j) 180 = true ∧ (3 * nI (ya_fr (ya_inw A f p (ya_here A v) n).1) + nI j).toNatClampNeg = 3 * ya_fr (ya_inw A f p (ya_here A v) n).1 + j := fun j hj => by
      have hz' := yg_60 hz
      have e := yl_ix (x := nI (ya_fr (ya_inw A f p (ya_here A v) n).1)) (y := nI j) (c := 3) (n := 60) (m := 3) yl_c3 hz'.1 hz'.2 (by omega) (by rw [nI_toInt (by omega)]; omega) (by rw [nI_toInt (by omega)]; omega)
      rw [nI_clamp (by omega), nI_clamp (by omega), Int32.mul_comm] at e
      exact ⟨e.2.2, e.2.1⟩
    refine es_W (ee_rF (ee_R rfl) rfl) (ee_B (ee_B ee_K (ee_L rfl)) ee_K) (hs _ (h74i 0) 1 (by decide) rfl (ee_B (ee_B ee_K (ee_L rfl)) ee_K)) (e3 1 (by decide)).1 ?_
    refine es_W (ee_rF (ee_R rfl) rfl) (ee_B (ee_B ee_K (ee_L rfl)) ee_K) (hs _ ((yu_ne (by decide)).trans (h74i 0)) 2 (by decide) rfl (ee_B (ee_B ee_K (ee_L rfl)) ee_K)) (e3 2 (by decide)).1 ?_
    have a1 := (e3 1 (by decide)).2
    have a2 := (e3 2 (by decide)).2
    rw [show (3 * nI (ya_fr (ya_inw A f p (ya_here A v) n).1) + 1 : Int32).toNatClampNeg = 3 * ya_fr (ya_inw A f p (ya_here A v) n).1 + 1 from a1, show (3 * nI (ya_fr (ya_inw A f p (ya_here A v) n).1) + 2 : Int32).toNatClampNeg = 3 * ya_fr (ya_inw A f p (ya_here A v) n).1 + 2 from a2]
    exact es_In1 rfl rfl
  · rw [Nat.zero_add, e]
    have hvi : sy_inb (nI v) 4 = true := yi_inbN hv (by omega)
    have hvc : (nI v).toNatClampNeg = v := nI_clamp (by omega)
    show sy_sQ _ _ _ _ _ = _
    refine es_Q (es_W (ee_rF (ee_R rfl) rfl) (ee_L rfl) ee_K hvi (es_Q (es_W (ee_rF (ee_R rfl) rfl) (ee_L rfl) (ee_L rfl) hvi (es_Q (es_W (ee_rF (ee_R rfl) rfl) (ee_L rfl) (ee_L rfl) hvi ?_)))))
    rw [hvc]
    exact es_eI ee_K
end YIc
