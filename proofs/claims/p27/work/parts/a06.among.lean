section LA6
variable {A σ : sy_Mem} {t : Nat} {env : List Value}
theorem rw_len {d : Nat} (hd : d < 3) : sy_len 3 (45 + d) = 64 := by rcases (show d = 0 ∨ d = 1 ∨ d = 2 by omega) with rfl | rfl | rfl <;> rfl
/-- a place of a row read -/
theorem ev_l (I : yn_I t A) (R : RW A σ) {d j : Nat} (hd : d < 3) (hj : j < cn A d) {r : sy_RE} {e : sy_IE} (hr : r env σ = some (.inl (45 + d), σ)) (he : e env σ = some (.inl (nI j), σ)) : sy_lA r e env σ = some (.inl (pL (sk A (sg A d j))), σ) := by
  have h60 := cn_le I hd
  rw [← (R d hd).2 j hj]
  exact ee_lA hr he (by rw [rw_len hd]; omega) (by rw [rw_len hd]; omega)
theorem ev_t (I : yn_I t A) (R : RW A σ) {d j : Nat} (hd : d < 3) (hj : j < cn A d) {r : sy_RE} {e : sy_IE} (hr : r env σ = some (.inl (45 + d), σ)) (he : e env σ = some (.inl (nI j), σ)) : sy_iM (sy_cr 1 sf_L_typeOf) (sy_aL (sy_lA r e) sy_aN) env σ = some (.inl (yT A (sg A d j)), σ) :=
  ee_M (ee_aL (ev_l I R hd hj hr he) ee_aN) (ee_cr (t_typeOf I.1 I.2.1 (sg_ok I hd hj).1) rfl)
theorem ev_f (I : yn_I t A) (R : RW A σ) {d j f : Nat} (hd : d < 3) (hj : j < cn A d) (hf : f < 3) {r : sy_RE} {e g : sy_IE} (hr : r env σ = some (.inl (45 + d), σ)) (he : e env σ = some (.inl (nI j), σ)) (hg : g env σ = some (.inl (nI f), σ)) : sy_iM (sy_cr 2 sf_L_fieldOf) (sy_aL (sy_lA r e) (sy_aI g sy_aN)) env σ = some (.inl (ya_N A (sg A d j) (nI f)), σ) :=
  ee_M (ee_aL (ev_l I R hd hj hr he) (ee_aI hg ee_aN)) (ee_cr (t_fieldOf I.1 I.2.1 (sg_ok I hd hj).1 hf) rfl)
theorem ev_v (I : yn_I t A) (T : TT A σ) {ty : Int32} (h : ya_isT A ty = true) {r : sy_RE} {e : sy_IE} (hr : r env σ = some (.inl 44, σ)) (he : e env σ = some (.inl ty, σ)) : sy_iM (sy_cr 2 sf_L_level) (sy_aR r (sy_aI e sy_aN)) env σ = some (.inl (tV A ty), σ) :=
  ee_M (ee_aR hr (ee_aI he ee_aN)) (ee_cr (t_level I.1 T h) rfl)
theorem ev_u (I : yn_I t A) (T : TT A σ) {ty : Int32} (h : ya_isT A ty = true) {r : sy_RE} {e : sy_IE} (hr : r env σ = some (.inl 44, σ)) (he : e env σ = some (.inl ty, σ)) : sy_iM (sy_cr 2 sf_L_above) (sy_aR r (sy_aI e sy_aN)) env σ = some (.inl (tP A ty), σ) :=
  ee_M (ee_aR hr (ee_aI he ee_aN)) (ee_cr (t_above I.1 T h) rfl)
theorem ev_b (I : yn_I t A) (T : TT A σ) {ty : Int32} (h : ya_isT A ty = true) {r : sy_RE} {e : sy_IE} (hr : r env σ = some (.inl 44, σ)) (he : e env σ = some (.inl ty, σ)) : sy_iM (sy_cr 2 sf_L_base) (sy_aR r (sy_aI e sy_aN)) env σ = some (.inl (tD A ty), σ) :=
  ee_M (ee_aR hr (ee_aI he ee_aN)) (ee_cr (t_base I.1 T h) rfl)
theorem ev_g (I : yn_I t A) (T : TT A σ) {ty : Int32} (h : ya_isT A ty = true) {r : sy_RE} {e : sy_IE} (hr : r env σ = some (.inl 44, σ)) (he : e env σ = some (.inl ty, σ)) : sy_iM (sy_cr 2 sf_L_target) (sy_aR r (sy_aI e sy_aN)) env σ = some (.inl (tG A ty), σ) :=
  ee_M (ee_aR hr (ee_aI he ee_aN)) (ee_cr (t_target I.1 T h) rfl)
theorem ev_o (I : yn_I t A) (T : TT A σ) (R : RW A σ) {d j : Nat} (hd : d < 3) (hj : j < cn A d) {r0 r : sy_RE} {e : sy_IE} (h0 : r0 env σ = some (.inl 44, σ)) (hr : r env σ = some (.inl (45 + d), σ)) (he : e env σ = some (.inl (nI j), σ)) : sy_iM (sy_cr 3 sf_L_over) (sy_aR r0 (sy_aR r (sy_aI e sy_aN))) env σ = some (.inl (yL A (yP A (sg A d j))), σ) :=
  ee_M (ee_aR h0 (ee_aR hr (ee_aI he ee_aN))) (ee_cr (t_over I T R hd hj) rfl)
/-- a segment's own type, or that of the first above it that has it: its place -/
theorem t_among (I : yn_I t A) (T : TT A σ) (R : RW A σ) {d p : Nat} (hd : d < 3) (hp : p < cn A d) (ty : Int32) : sf_L_among [.ref 44, .ref (45 + d), .int (nI p), .int ty] σ = some (.inl (some (.int (yL A (ya_X3_upward A (sg A d p) ty)))), σ) := by
  have S := I.1
  have G := I.2.1
  have h60 := cn_le I hd
  obtain ⟨a1, a2, a3⟩ := sg_ok I hd hp
  refine ke_meth ?_ (Nat.le_of_ble_eq_true rfl)
  refine es_Q (es_SI (ee_L rfl) (es_Q ?_))
  have key := es_climb (σ := σ) (c := sy_cA (sy_cge (sy_iL 4) (sy_iK 0)) (sy_cne (sy_iM (sy_cr 1 sf_L_typeOf) (sy_aL (sy_lA (sy_rL 1) (sy_iL 4)) sy_aN)) (sy_iL 3))) (s := sy_sSI 4 (sy_iM (sy_cr 3 sf_L_over) (sy_aR (sy_rL 0) (sy_aR (sy_rL 1) (sy_aI (sy_iL 4) sy_aN))))) (k := fun env => sy_eI (sy_iL 4) env (fun _ => sy_fail)) (E := fun x => [.ref 44, .ref (45 + d), .int (nI p), .int ty, .int (yL A x)]) (nx := yP A) (Q := fun x => decide (yT A x = ty)) (G := fun x => yl A x ∧ sD A x = nI d) (fun x hx => ?_) (fun x hx => ?_) (fun x hx hq k' => ?_) 4 1000 (sg A d p) (Or.inr ⟨a1, a2⟩) (yk_dp4 S G a1) (by omega)
  · rw [a3] at key
    refine key.trans ?_
    exact es_eI (ee_L rfl)
  · by_cases h : yP A x = -1
    · exact Or.inl h
    · obtain ⟨b1, b2, -⟩ := yl_par S G hx.1 h
      exact Or.inr ⟨b1, b2.trans hx.2⟩
  · rcases hx with rfl | hx
    · exact ee_eq (ee_cA (x := false) (y := false) (ee_eq (ee_cB (ee_L rfl) ee_K) rfl) (fun h => by cases h)) rfl
    · obtain ⟨q, q1, q2, q3⟩ := sg_of I hx.1 hd hx.2
      have hne : decide (x = -1) = false := decide_eq_false (yl_ne hx.1)
      rw [q3, hne]
      exact ee_eq (ee_cA (x := true) (y := !decide (yT A x = ty)) (ee_eq (ee_cB (ee_L rfl) ee_K) (ge0 (by omega))) (fun _ => ee_eq (ee_cB (ev_t I R hd q1 (ee_R rfl) (ee_L rfl)) (ee_L rfl)) (by rw [← q2]))) rfl
  · obtain ⟨q, q1, q2, q3⟩ := sg_of I hx.1 hd hx.2
    rw [q3]
    refine es_SI (ev_o I T R hd q1 (ee_R rfl) (ee_R rfl) (ee_L rfl)) ?_
    rw [← q2]
    rfl
theorem ev_a (I : yn_I t A) (T : TT A σ) (R : RW A σ) {d j : Nat} {ty : Int32} (hd : d < 3) (hj : j < cn A d) {r0 r : sy_RE} {e g : sy_IE} (h0 : r0 env σ = some (.inl 44, σ)) (hr : r env σ = some (.inl (45 + d), σ)) (he : e env σ = some (.inl (nI j), σ)) (hg : g env σ = some (.inl ty, σ)) : sy_iM (sy_cr 4 sf_L_among) (sy_aR r0 (sy_aR r (sy_aI e (sy_aI g sy_aN)))) env σ = some (.inl (yL A (ya_X3_upward A (sg A d j) ty)), σ) :=
  ee_M (ee_aR h0 (ee_aR hr (ee_aI he (ee_aI hg ee_aN)))) (ee_cr (t_among I T R hd hj ty) rfl)
/-- the first place behind a segment and all below it -/
def yE (A : sy_Mem) (d p : Nat) : Nat := (ya_ff (fun q => !ya_under A (sg A d q) (sg A d p)) (cn A d - (p + 1)) (p + 1)).elim (cn A d) (fun q => q)
theorem yE_is (I : yn_I t A) {d p : Nat} (hd : d < 3) (hp : p < cn A d) : p < yE A d p ∧ yE A d p ≤ cn A d ∧ ∀ q, q < cn A d → ((p ≤ q ∧ q < yE A d p) ↔ yU A (sg A d q) (sg A d p)) := by
  have h60 := cn_le I hd
  unfold yE
  cases hf : ya_ff (fun q => !ya_under A (sg A d q) (sg A d p)) (cn A d - (p + 1)) (p + 1) with
  | none =>
    have hn := ya_ff_none.mp hf
    refine ⟨hp, Nat.le_refl _, fun q hq => ⟨fun h => ?_, fun h => ?_⟩⟩
    · rcases Nat.eq_or_lt_of_le h.1 with rfl | h1
      · exact Or.inl rfl
      · have := hn q (by omega) (by omega)
        exact yU_under.mp (by simpa using this)
    · refine ⟨?_, hq⟩
      have := yU_pl I 4 (sg_ok I hd hq).1 (lv_pos I (sg_ok I hd hq).1).2.1 h
      rw [(sg_ok I hd hq).2.2, (sg_ok I hd hp).2.2] at this
      exact (nI_lt2 (by omega) (by omega)).2.mp this.1
  | some e =>
    obtain ⟨h1, h2, h3, h4⟩ := ya_ff_some.mp hf
    have hE : ¬ yU A (sg A d e) (sg A d p) := fun h => by
      rw [yU_under.mpr h] at h3
      cases h3
    refine ⟨h1, by show e ≤ cn A d; omega, fun q hq => ⟨fun h => ?_, fun h => ?_⟩⟩
    · rcases Nat.eq_or_lt_of_le h.1 with rfl | h1
      · exact Or.inl rfl
      · have := h4 q (by omega) h.2
        exact yU_under.mp (by simpa using this)
    · have := yU_pl I 4 (sg_ok I hd hq).1 (lv_pos I (sg_ok I hd hq).1).2.1 h
      rw [(sg_ok I hd hq).2.2, (sg_ok I hd hp).2.2] at this
      refine ⟨(nI_lt2 (by omega) (by omega)).2.mp this.1, Nat.not_le.mp fun hle => hE ?_⟩
      exact sg_between I hd hq (by omega) hle h
theorem anc_at (I : yn_I t A) {i : Nat} (hi : 1 ≤ i) : ∀ (n : Nat) {x : Int32}, yl A x → ya_lv A x = i + n → ∃ a, yl A a ∧ yU A x a ∧ ya_lv A a = i ∧ sD A a = sD A x
  | 0, x, hx, h => ⟨x, hx, Or.inl rfl, h, rfl⟩
  | n + 1, x, hx, h => by
    have hp : yP A x ≠ -1 := fun e => by
      rcases (I.2.1.1 x hx).2 with ⟨q, -⟩ | ⟨q, -⟩
      · obtain ⟨-, -, -, -, -, -, g, -⟩ := I.1.2.1 _ (I.2.1.1 x hx).1
        rcases g with ⟨-, g, -⟩ | ⟨g, -⟩
        · unfold ya_lv at h
          omega
        · rw [q, ya_isT_m] at g
          cases g
      · exact absurd e (yl_ne q)
    obtain ⟨b1, b2, b3, -⟩ := yl_par I.1 I.2.1 hx hp
    have hb := lv_pos I b1
    have hxx := lv_pos I hx
    obtain ⟨a, a1, a2, a3, a4⟩ := anc_at I hi n b1 (by omega)
    exact ⟨a, a1, yU_up I hx hp a2, a3, a4.trans b2⟩
/-- behind all that is below a segment lies one of its level at most -/
theorem yE_lv (I : yn_I t A) {d p : Nat} (hd : d < 3) (hp : p < cn A d) (he : yE A d p < cn A d) : ya_lv A (sg A d (yE A d p)) ≤ ya_lv A (sg A d p) := by
  obtain ⟨h1, h2, h3⟩ := yE_is I hd hp
  have h60 := cn_le I hd
  obtain ⟨a1, a2, a3⟩ := sg_ok I hd hp
  obtain ⟨b1, b2, b3⟩ := sg_ok I hd he
  refine Nat.not_lt.mp fun hlt => ?_
  have hl := lv_pos I a1
  obtain ⟨a, c1, c2, c3, c4⟩ := anc_at I hl.1 (ya_lv A (sg A d (yE A d p)) - ya_lv A (sg A d p)) b1 (by omega)
  obtain ⟨r, r1, r2, r3⟩ := sg_of I c1 hd (c4.trans b2)
  have hpl := yU_pl I 4 b1 (lv_pos I b1).2.1 c2
  have hne : a ≠ sg A d (yE A d p) := fun e => by rw [e] at c3; omega
  have hr := hpl.2 hne
  rw [r3, b3] at hr
  have hr2 := (nI_lt2 (by omega) (by omega)).1.mp hr
  by_cases hrp : p ≤ r
  · have := (h3 r r1).mp ⟨hrp, hr2⟩
    rw [← r2] at this
    obtain ⟨-, -, -, q⟩ := yU_l I c1 this
    rcases q with q | ⟨q, -⟩
    · have hE := (h3 _ he).mpr (by rw [← q] at c2; exact c2)
      omega
    · omega
  · have hb := yg_before I b1 a1 c2 (Or.inl rfl : yU A (sg A d p) (sg A d p)) (by rw [b2, a2]) c3 (fun e => by
      have := sg_inj I hd r1 hp (r2.symm.trans e)
      omega) (by rw [r3, a3]; exact (nI_lt2 (by omega) (by omega)).1.mpr (by omega))
    rw [b3, a3] at hb
    have := (nI_lt2 (by omega) (by omega)).1.mp hb
    omega
theorem t_end (I : yn_I t A) (T : TT A σ) (R : RW A σ) {d p : Nat} (hd : d < 3) (hp : p < cn A d) : sf_L_end [.ref 44, .ref (45 + d), .int (nI (cn A d)), .int (nI p)] σ = some (.inl (some (.int (nI (yE A d p)))), σ) := by
  obtain ⟨h1, h2, h3⟩ := yE_is I hd hp
  have h60 := cn_le I hd
  have S := I.1
  have G := I.2.1
  obtain ⟨a1, a2, a3⟩ := sg_ok I hd hp
  refine ke_meth ?_ (Nat.le_of_ble_eq_true rfl)
  refine es_Q (es_SI (x := nI (p + 1)) (ee_eq (ee_B (ee_L rfl) ee_K) (nadd (b := 1))) (es_Q ?_))
  have cond : ∀ q, q < cn A d → sy_cA (sy_clt (sy_iL 4) (sy_iL 2)) (sy_cgt (sy_iM (sy_cr 2 sf_L_level) (sy_aR (sy_rL 0) (sy_aI (sy_iM (sy_cr 1 sf_L_typeOf) (sy_aL (sy_lA (sy_rL 1) (sy_iL 4)) sy_aN)) sy_aN))) (sy_iM (sy_cr 2 sf_L_level) (sy_aR (sy_rL 0) (sy_aI (sy_iM (sy_cr 1 sf_L_typeOf) (sy_aL (sy_lA (sy_rL 1) (sy_iL 3)) sy_aN)) sy_aN)))) [.ref 44, .ref (45 + d), .int (nI (cn A d)), .int (nI p), .int (nI q)] σ = some (.inl (decide (ya_lv A (sg A d p) < ya_lv A (sg A d q))), σ) := fun q hq => by
    obtain ⟨b1, b2, b3⟩ := sg_ok I hd hq
    refine ee_eq (ee_cA (x := true) (y := decide (ya_lv A (sg A d p) < ya_lv A (sg A d q))) (ee_eq (ee_cB (ee_L rfl) (ee_L rfl)) (decide_eq_true ?_)) (fun _ => ee_eq (ee_cB (ev_v I T (G.1 _ b1).1 (ee_R rfl) (ev_t I R hd hq (ee_R rfl) (ee_L rfl))) (ev_v I T (G.1 _ a1).1 (ee_R rfl) (ev_t I R hd hp (ee_R rfl) (ee_L rfl)))) ?_)) (Bool.true_and _)
    · rw [Int32.lt_iff_toInt_lt]
      exact (nI_lt2 (by omega) (by omega)).1.mpr hq
    · have e1 := lv_pos I a1
      have e2 := lv_pos I b1
      rw [decide_eq_decide, Int32.lt_iff_toInt_lt]
      omega
  have key := ks_wh (c := sy_cA (sy_clt (sy_iL 4) (sy_iL 2)) (sy_cgt (sy_iM (sy_cr 2 sf_L_level) (sy_aR (sy_rL 0) (sy_aI (sy_iM (sy_cr 1 sf_L_typeOf) (sy_aL (sy_lA (sy_rL 1) (sy_iL 4)) sy_aN)) sy_aN))) (sy_iM (sy_cr 2 sf_L_level) (sy_aR (sy_rL 0) (sy_aI (sy_iM (sy_cr 1 sf_L_typeOf) (sy_aL (sy_lA (sy_rL 1) (sy_iL 3)) sy_aN)) sy_aN))))) (s := sy_sIn 4 1) (E := fun i => [.ref 44, .ref (45 + d), .int (nI (cn A d)), .int (nI p), .int (nI (p + 1 + i))]) (S := fun _ => σ) (N := yE A d p - (p + 1)) (k := fun env => sy_eI (sy_iL 4) env (fun _ => sy_fail)) ?_ ?_ (yE A d p - (p + 1)) 0 1000 (by omega) (by omega)
  · refine key.trans ?_
    have : p + 1 + (yE A d p - (p + 1)) = yE A d p := by omega
    rw [this]
    exact es_eI (ee_L rfl)
  · intro i hi
    refine ⟨ee_eq (cond (p + 1 + i) (by omega)) (decide_eq_true ?_), fun k' => es_In rfl ?_⟩
    · have hU := (h3 (p + 1 + i) (by omega)).mp ⟨by omega, by omega⟩
      obtain ⟨-, -, -, q⟩ := yU_l I (sg_ok I hd (show p + 1 + i < cn A d by omega)).1 hU
      rcases q with q | ⟨q, -⟩
      · have := sg_inj I hd hp (by omega) q
        omega
      · exact q
    · exact congrArg (fun z => k' [.ref 44, .ref (45 + d), .int (nI (cn A d)), .int (nI p), .int z] σ) (nadd (a := p + 1 + i) (b := 1))
  · show sy_cA _ _ [.ref 44, .ref (45 + d), .int (nI (cn A d)), .int (nI p), .int (nI (p + 1 + (yE A d p - (p + 1))))] σ = _
    rw [show p + 1 + (yE A d p - (p + 1)) = yE A d p by omega]
    by_cases hq : yE A d p < cn A d
    · have := yE_lv I hd hp hq
      exact ee_eq (cond _ hq) (decide_eq_false (by omega))
    · refine ee_eq (ee_cA (x := false) (y := false) (ee_eq (ee_cB (ee_L rfl) (ee_L rfl)) (decide_eq_false ?_)) (fun h => by cases h)) rfl
      rw [Int32.lt_iff_toInt_lt]
      intro h
      have := (nI_lt2 (by omega) (by omega)).1.mp h
      omega
end LA6
