/-! the roots that are needed -/
section YQ
variable {A B τ τ' : sy_Mem} {t : Nat}
/-- the cells of the needs alone differ -/
def yq_f (A B : sy_Mem) : Prop := ∀ k, k < 27 ∨ 29 < k → B k = A k
theorem yq_f_trans {C : sy_Mem} (h1 : yq_f A B) (h2 : yq_f B C) : yq_f A C := fun k hk => (h2 k hk).trans (h1 k hk)
theorem yn_I_nd (I : yn_I t A) (h : yq_f A B) (hn : 0 ≤ (B 27 0).toInt ∧ (B 27 0).toInt ≤ 4) (hr : B 27 1 = 0 ∨ B 27 1 = 1) : yn_I t B := by
  have hb : yc_base A B := fun k hk => h k (by omega)
  refine yn_I_v I (v := 0) hb (fun w hw _ => ?_) ?_ ?_
  · have := yv_lt hw
    exact ⟨h _ (by omega), h _ (by omega), h _ (by omega)⟩
  · rw [yn_v_c hb (h _ (by decide)) (h _ (by decide)) (h _ (by decide))]
    exact I.2.2.2.2.2.1 0 (by decide)
  · obtain ⟨a1, a2, a3, a4, a5⟩ := I.2.2.2.2.2.2
    have e1 : ya_isT B = ya_isT A := funext fun s => ya_isT_c (h 1 (by decide)) s
    refine ⟨by rw [h 19 (by decide)]; exact a1, ?_, by rw [h 31 (by decide)]; exact a3, hn, hr⟩
    rw [h 19 (by decide), h 20 (by decide), h 21 (by decide), h 22 (by decide), h 23 (by decide), h 24 (by decide), e1]
    exact a2
theorem ya_N_nd (h : yq_f A B) (s f : Int32) : ya_N B s f = ya_N A s f := by
  unfold ya_N
  rw [h 14 (by decide)]
theorem ya_rootOf_nd (h : yq_f A B) (u key : Int32) : ya_X3_rootOf B u key = ya_X3_rootOf A u key := by
  unfold ya_X3_rootOf
  rw [h 11 (by decide), show (fun i => decide (A 11 i = u) && decide (ya_N B (nI i) 0 = key)) = (fun i => decide (A 11 i = u) && decide (ya_N A (nI i) 0 = key)) from funext fun i => by rw [ya_N_nd h]]
/-- it is among the needs -/
def ya_nf (A : sy_Mem) (u key : Int32) : Option Nat := ya_ff (fun i => decide (A 28 i = u) && decide (A 29 i = key)) (A 27 0).toNatClampNeg 0
def ya_ndd (A : sy_Mem) (u key : Int32) : sy_Mem := (ya_nf A u key).elim (sy_up (sy_up (sy_up A 28 (A 27 0).toNatClampNeg u) 29 (A 27 0).toNatClampNeg key) 27 0 (A 27 0 + 1)) (fun _ => A)
theorem ya_ndd_f {u key : Int32} : yq_f A (ya_ndd A u key) := fun k hk => by
  unfold ya_ndd
  cases ya_nf A u key with
  | some i => rfl
  | none =>
    show sy_up _ 27 0 _ k = _
    rw [yu_ne (by omega), yu_ne (by omega), yu_ne (by omega)]
theorem yt_X1_add (h0 : 0 ≤ (A 27 0).toInt) (h4 : (A 27 0).toInt < 4) (u key : Int32) : sf_X1_add [.ref 27, .int u, .int key] A = some (.inl none, ya_ndd A u key) := by
  have hn : (A 27 0).toNatClampNeg < 4 := by rw [yi_clampInt]; omega
  refine ee_meth ?_ rfl
  unfold sm_X1_add
  refine es_Q (es_Q (es_B (es_Q (es_SI ee_K0 ?_))))
  refine (es_for (E := fun i => [.ref 27, .int u, .int key, .int (nI i)]) (P := fun i => decide (A 28 i = u) && decide (A 29 i = key)) (R := fun _ => some (.inl none, A)) (A 27 0).toNatClampNeg 0 1000 (by omega) (fun i _ hi => ?_) ?_ (fun i _ hi k' => ?_)).trans ?_
  · exact (ee_cA (x := true) (y := true) ((es_cB rfl (ee_F (ee_R rfl) rfl) (by omega)).trans (by rw [decide_eq_true (by omega)])) (fun _ => (es_cB rfl ee_K (by omega)).trans (by rw [decide_eq_true (show i < Int32.toNatClampNeg 4 from (by show i < 4; omega))])))
  · exact (ee_cA (x := false) (y := true) ((es_cB rfl (ee_F (ee_R rfl) rfl) (by omega)).trans (by rw [decide_eq_false (by omega)])) (fun h => by cases h))
  · refine es_Q ((es_I (ee_cA (ee_cB (ee_An (ee_rF (ee_R rfl) rfl) (ee_L rfl) (show i < 4 by omega) (by decide)) (ee_L rfl)) (fun _ => ee_cB (ee_An (ee_rF (ee_R rfl) rfl) (ee_L rfl) (show i < 4 by omega) (by decide)) (ee_L rfl))) (fun _ => es_eV) (fun _ => es_N (es_In1 rfl rfl))).trans ?_)
    rfl
  · show (ya_nf A u key).elim _ _ = _
    unfold ya_ndd
    cases ya_nf A u key with
    | some i => rfl
    | none =>
      show sy_sI _ _ _ _ _ A = _
      refine es_It ((ee_cB (ee_F (ee_R rfl) rfl) ee_K).trans (by rw [show decide (A 27 0 < 4) = true from decide_eq_true (by rw [Int32.lt_iff_toInt_lt]; exact h4)])) ?_
      have hx : sy_inb (A 27 0) 4 = true := yi_inb.mpr ⟨h0, h4⟩
      refine es_Q (es_W (ee_rF (ee_R rfl) rfl) (ee_F (ee_R rfl) rfl) (ee_L rfl) hx (es_Q (es_W (ee_rF (ee_R rfl) rfl) (ee_F (ee_R rfl) rfl) (ee_L rfl) hx ?_)))
      exact es_F (ee_R rfl) ee_K rfl es_eV
def ya_nc0 (A : sy_Mem) (ty key : Int32) : Bool := decide (tG A ty = -1) || !decide (ya_X3_rootOf A (tG A ty) key = -1)
def ya_nr (A : sy_Mem) (ty key : Int32) : sy_Mem := if ya_nc0 A ty key = true then A else if tC A ty = 0 then sy_up A 27 1 1 else ya_ndd A (tG A ty) key
theorem ya_nr_f {ty key : Int32} : yq_f A (ya_nr A ty key) := fun k hk => by
  unfold ya_nr
  by_cases h1 : ya_nc0 A ty key = true
  · rw [if_pos h1]
  · rw [if_neg h1]
    by_cases h2 : tC A ty = 0
    · rw [if_pos h2, yu_ne (by omega)]
    · rw [if_neg h2]
      exact ya_ndd_f k hk
theorem yt_X5_needRoot (W : ya_W A) (h0 : 0 ≤ (A 27 0).toInt) (h4 : (A 27 0).toInt < 4) (ty key : Int32) : sf_X5_needRoot [.ref 0, .int ty, .int key] A = some (.inl none, ya_nr A ty key) := by
  refine ee_meth ?_ rfl
  unfold sm_X5_needRoot
  refine es_Q (es_Q (es_SI (ee_M (ee_aR (ee_rF (ee_R rfl) rfl) (ee_aI (ee_L rfl) ee_aN)) (ee_cv (yt_X2_targetOf W _) rfl)) (es_Q ?_)))
  refine (es_I (x := ya_nc0 A ty key) (ee_cO (ee_cB (ee_L rfl) ee_K) (fun _ => ee_cB (ee_M (ee_aR (ee_rF (ee_R rfl) rfl) (ee_aI (ee_L rfl) (ee_aI (ee_L rfl) ee_aN))) (ee_cv (yt_X3_rootOf W _ _) rfl)) ee_K)) (r1 := some (.inl none, A)) (r2 := some (.inl none, if tC A ty = 0 then sy_up A 27 1 1 else ya_ndd A (tG A ty) key)) (fun _ => es_eV) (fun _ => es_N ?_)).trans ?_
  · by_cases hc : tC A ty = 0
    · rw [if_pos hc]
      exact es_It ((ee_cB (ee_M (ee_aR (ee_rF (ee_R rfl) rfl) (ee_aI (ee_L rfl) ee_aN)) (ee_cv (yt_X2_comingOf W _) rfl)) ee_K).trans (by rw [decide_eq_true hc])) (es_C (σ2 := sy_up A 27 1 1) (ee_aR (ee_rF (ee_R rfl) rfl) ee_aN) rfl es_eV)
    · rw [if_neg hc]
      exact es_If ((ee_cB (ee_M (ee_aR (ee_rF (ee_R rfl) rfl) (ee_aI (ee_L rfl) ee_aN)) (ee_cv (yt_X2_comingOf W _) rfl)) ee_K).trans (by rw [decide_eq_false hc])) (es_C (ee_aR (ee_rF (ee_R rfl) rfl) (ee_aI (ee_L rfl) (ee_aI (ee_L rfl) ee_aN))) (ee_cv (yt_X1_add h0 h4 _ _) rfl) es_eV)
  · unfold ya_nr
    cases ya_nc0 A ty key <;> rfl
end YQ
