section LA21
variable {A σ : sy_Mem} {t : Nat}
theorem got_is (I : yn_I t σ) {v : Nat} (hv : v < 4) (how : Int32) (h : Bool) (x : Int32) :
    ya_here (gG σ v how h x) v = x ∧ (∀ k, k ≤ 18 → gG σ v how h x k = σ k) ∧ gG σ v how h x (sy_vw v) 4 = 0 ∧ gG σ v how h x (sy_vw v) 2 = x ∧ gG σ v how h x (sy_vw v) 5 = (if how = 2 then σ (sy_vw v) 5 else ya_par σ x (lsN σ)) ∧ gG σ v how h x (sy_vw v) 6 = (if h then nI (ya_sl σ (lsN σ - 1) + 1) else 0) ∧
    (∀ f, f < 3 → gG σ v how h x 31 (3 * ya_sl σ (lsN σ - 1) + f) = ya_N σ x (nI f) ∧ ∀ i, i < lsN σ - 1 → ya_code σ (nI i) 1 = true → gG σ v how h x 31 (3 * ya_sl σ i + f) = ya_N σ (ya_X3_upward σ x (ya_ag σ 20 (-1) (nI i))) (nI f)) := by
  have hb := yv_lt hv
  have hk : ∀ k, k ≠ sy_vw v → sy_up σ (sy_vw v) 6 0 k = σ k := fun k hk => yu_ne hk
  have hsl : ∀ i, ya_sl (sy_up σ (sy_vw v) 6 0) i = ya_sl σ i := fun i => by
    induction i with
    | zero => rfl
    | succ i ih =>
      show ya_sl (sy_up σ (sy_vw v) 6 0) i + (if ya_code (sy_up σ (sy_vw v) 6 0) (nI i) 1 then 1 else 0) = ya_sl σ i + (if ya_code σ (nI i) 1 then 1 else 0)
      rw [ih, ya_code_c (hk 19 (by omega)) (hk 21 (by omega))]
  have hls : lsN (sy_up σ (sy_vw v) 6 0) = lsN σ := by
    show (sy_up σ (sy_vw v) 6 0 19 0).toInt.toNat = _
    rw [hk 19 (by omega)]
  have hN : ∀ y f, ya_N (sy_up σ (sy_vw v) 6 0) y f = ya_N σ y f := fun y f => ya_N_c (hk 14 (by omega)) y f
  have hU : ∀ y u, ya_X3_upward (sy_up σ (sy_vw v) 6 0) y u = ya_X3_upward σ y u := fun y u => ya_upward_c (hk 11 (by omega)) (hk 12 (by omega)) y u
  have hA : ∀ i, ya_ag (sy_up σ (sy_vw v) 6 0) 20 (-1) i = ya_ag σ 20 (-1) i := fun i => ya_ag_c (hk 19 (by omega)) (hk 20 (by omega)) _ _
  have hP : ya_par (sy_up σ (sy_vw v) 6 0) x ((sy_up σ (sy_vw v) 6 0 19 0).toNatClampNeg) = ya_par σ x (lsN σ) := by
    rw [hk 19 (by omega)]
    exact ya_par_c (fun k h => hk k (by omega)) x _
  have hd5 : ya_deliver (sy_up σ (sy_vw v) 6 0) v x h (sy_vw v) 5 = σ (sy_vw v) 5 := by
    unfold ya_deliver
    rw [ya_one_vw _ hv (by decide), ya_dl_vw _ hv (by decide), yu_an (by decide)]
  have hdn : ∀ k, k ≤ 18 → ya_deliver (sy_up σ (sy_vw v) 6 0) v x h k = σ k := fun k q => (ya_deliver_ne _ (by omega) (by omega) (by omega) (by omega)).trans (hk k (by omega))
  have h6 := deliver_6 (σ := sy_up σ (sy_vw v) 6 0) (x := x) (h := h) hv yu_at
  rw [hls, hsl] at h6
  have c6 : (if !decide (how = 2) then sy_up (ya_deliver (sy_up σ (sy_vw v) 6 0) v x h) (sy_vw v) 5 (ya_par (sy_up σ (sy_vw v) 6 0) x (sy_up σ (sy_vw v) 6 0 19 0).toNatClampNeg) else ya_deliver (sy_up σ (sy_vw v) 6 0) v x h) (sy_vw v) 6 = (if h then nI (ya_sl σ (lsN σ - 1) + 1) else 0) := by
    split
    · rw [yu_an (by decide), h6]
    · exact h6
  have c31 : ∀ i, (if !decide (how = 2) then sy_up (ya_deliver (sy_up σ (sy_vw v) 6 0) v x h) (sy_vw v) 5 (ya_par (sy_up σ (sy_vw v) 6 0) x (sy_up σ (sy_vw v) 6 0 19 0).toNatClampNeg) else ya_deliver (sy_up σ (sy_vw v) 6 0) v x h) 31 i = ya_deliver (sy_up σ (sy_vw v) 6 0) v x h 31 i := fun i => by
    split
    · rw [yu_ne (by omega)]
    · rfl
  have g31 : ∀ i, gG σ v how h x 31 i = ya_deliver (sy_up σ (sy_vw v) 6 0) v x h 31 i := fun i => by
    show sy_up (ya_stand _ _ _ _ _) 19 0 0 31 i = _
    rw [yu_ne (by decide), ya_stand_ne (by omega)]
    exact c31 i
  have g2 : gG σ v how h x (sy_vw v) 2 = x := by
    show sy_up (ya_stand _ _ _ _ _) 19 0 0 (sy_vw v) 2 = _
    rw [yu_ne (by omega), ya_stand_at]
    rfl
  have g3 : gG σ v how h x (sy_vw v) 3 = 1 := by
    show sy_up (ya_stand _ _ _ _ _) 19 0 0 (sy_vw v) 3 = _
    rw [yu_ne (by omega), ya_stand_at]
    rfl
  refine ⟨?_, fun k q => ?_, ?_, g2, ?_, ?_, fun f hf => ⟨?_, fun i hi hc => ?_⟩⟩
  · unfold ya_here
    rw [g3, g2]
    rfl
  · show sy_up (ya_stand _ _ _ _ _) 19 0 0 k = _
    rw [yu_ne (by omega), ya_stand_ne (by omega)]
    split
    · rw [yu_ne (by omega), hdn k q]
    · exact hdn k q
  · show sy_up (ya_stand _ _ _ _ _) 19 0 0 (sy_vw v) 4 = _
    rw [yu_ne (by omega), ya_stand_at]
    rfl
  · show sy_up (ya_stand _ _ _ _ _) 19 0 0 (sy_vw v) 5 = _
    rw [yu_ne (by omega), ya_stand_at, if_neg (by decide), if_neg (by decide), if_neg (by decide)]
    by_cases e : how = 2
    · rw [if_pos e, decide_eq_true e, if_neg (by decide), hd5]
    · rw [if_neg e, decide_eq_false e, if_pos (show (!false) = true from rfl), yu_at, hP]
  · show sy_up (ya_stand _ _ _ _ _) 19 0 0 (sy_vw v) 6 = _
    rw [yu_ne (by omega), ya_stand_at, if_neg (by decide), if_neg (by decide), if_neg (by decide)]
    exact c6
  · rw [g31]
    have := (deliver_at (σ := sy_up σ (sy_vw v) 6 0) (x := x) (h := h) hv hf).1
    rw [hls, hsl, hN] at this
    exact this
  · rw [g31]
    have := (deliver_at (σ := sy_up σ (sy_vw v) 6 0) (x := x) (h := h) hv hf).2 i (by rw [hls]; exact hi) (by rw [ya_code_c (hk 19 (by omega)) (hk 21 (by omega))]; exact hc)
    rw [hsl, hN, hU, hA] at this
    exact this
theorem ev_q0 (I : yn_I t A) {i : Nat} (hi : i < lsN A) (q : σ 49 i = nI ((A 20 i).toInt.toNat + 16 * (A 21 i).toInt.toNat)) {env : List Value} {r : sy_RE} {e : sy_IE} (hr : r env σ = some (.inl 49, σ)) (he : e env σ = some (.inl (nI i), σ)) : sy_iDv false (sy_iA 0 r e) (sy_iK 16) env σ = some (.inl (A 20 i), σ) ∧ sy_ceq (sy_iDv false (sy_iDv true (sy_iA 0 r e) (sy_iK 16)) (sy_iK 2)) (sy_iK 1) env σ = some (.inl (ya_code A (nI i) 1), σ) ∧ sy_ceq (sy_iDv false (sy_iDv true (sy_iA 0 r e) (sy_iK 256)) (sy_iK 2)) (sy_iK 1) env σ = some (.inl (ya_code A (nI i) 16), σ) := by
  obtain ⟨c0, c1, c2, -, -, -, c3, -⟩ := code_is I hi
  obtain ⟨h1, h2, h3, h4⟩ := q_T I hi
  have h4' := (isA_nI I hi).2
  have hA : sy_iA 0 r e env σ = some (.inl (nI ((A 20 i).toInt.toNat + 16 * qk A i)), σ) := by
    rw [show nI ((A 20 i).toInt.toNat + 16 * qk A i) = σ 49 i from q.symm]
    exact ee_An hr he h4' (by decide)
  generalize hn : (A 20 i).toInt.toNat = n at hA
  generalize qk A i = m at *
  have hm : ∀ a : Nat, 0 < a → a < 1000 → sy_iDv false (sy_iDv true (sy_iA 0 r e) (sy_iK (nI a))) (sy_iK (nI 2)) env σ = some (.inl (nI ((n + 16 * m) / a % 2)), σ) := fun a ha ha2 => by
    have hlt : (n + 16 * m) / a ≤ n + 16 * m := Nat.div_le_self _ _
    refine ee_eq (ee_Dv (ee_eq (ee_Dv hA ee_K ?_) (show nI _ / nI a = nI ((n + 16 * m) / a) from ndiv (by omega) (by omega))) ee_K (by decide)) ?_
    · intro e
      have := congrArg Int32.toInt e
      rw [nI_toInt (by omega), yl_c0] at this
      omega
    · show nI _ - nI _ / nI 2 * nI 2 = _
      exact nmod (by omega) (by omega)
  refine ⟨ee_eq (ee_Dv hA ee_K (by decide)) ?_, ee_eq (ee_cB (hm 16 (by omega) (by omega)) ee_K) ?_, ee_eq (ee_cB (hm 256 (by omega) (by omega)) ee_K) ?_⟩
  · show nI _ - nI _ / nI 16 * nI 16 = _
    rw [nmod (by omega) (by omega)]
    exact ntI (by omega) (by omega)
  · rw [c2, nI_eq1 (by omega), show (n + 16 * m) / 16 % 2 = m % 2 by omega]
  · rw [c3, nI_eq1 (by omega), show (n + 16 * m) / 256 % 2 = m / 16 % 2 by omega]
theorem gets_got (I : yn_I t σ) (T : TT σ σ) (R : RW σ σ) (Q : QQ σ σ) {v d way j : Nat} {b : Bool} (hv : v < 4) (hd : d < 3) (hD : σ (sy_vw v) 0 = nI d) (hw : way < 3) (hj : j < cn σ d) (hL : ya_X5_isListOrdered σ v = true) (hR : ya_X5_isRight σ v (sg σ d j) (lsN σ) = true)
    (hs : (ya_seek (sy_up σ (sy_vw v) 6 0) v (nI way) b).1 = (if nI way = 0 then 0 else ya_X5_statusOfStep σ (ya_here σ v) (sg σ d j)))
    (hm : ya_get σ v (nI way) b = gG σ v (nI way) b (sg σ d j)) :
    (sy_sQ (sy_sSI 22 (sy_iC (sy_cA (sy_cA (sy_cA (sy_ceq (sy_iA 0 (sy_rL 9) (sy_iK 1)) (sy_iK 0)) (sy_cgt (sy_iL 11) (sy_iK 0))) (sy_cge (sy_iL 16) (sy_iK 0))) (sy_cge (sy_iL 21) (sy_iK 0))))) (sy_sQ (sy_sSI 23 (sy_iQ (sy_clt (sy_iL 21) (sy_iK 0)) (sy_iK 0) (sy_iM (sy_cr 2 sf_L_level) (sy_aR (sy_rL 1) (sy_aI (sy_iM (sy_cr 1 sf_L_typeOf) (sy_aL (sy_lA (sy_rL 15) (sy_iL 21)) sy_aN)) sy_aN))))) (sy_sQ (sy_sSI 24 (sy_iQ (sy_clt (sy_iL 16) (sy_iK 0)) (sy_iK 0) (sy_iM (sy_cr 2 sf_L_level) (sy_aR (sy_rL 1) (sy_aI (sy_iM (sy_cr 1 sf_L_typeOf) (sy_aL (sy_lA (sy_rL 15) (sy_iL 16)) sy_aN)) sy_aN))))) (sy_sQ (sy_sSI 20 (sy_iQ (sy_cgt (sy_iL 20) (sy_iK 0)) (sy_iL 20) (sy_iQ (sy_clt (sy_iL 21) (sy_iK 0)) (sy_iQ (sy_cA (sy_ceq (sy_iL 11) (sy_iK 1)) (sy_ceq (sy_iA 0 (sy_rL 9) (sy_iK 1)) (sy_iK 0))) (sy_iK 3) (sy_iK 7)) (sy_iQ (sy_cA (sy_cI (sy_iL 22)) (sy_clt (sy_iL 23) (sy_iL 24))) (sy_iK 1) (sy_iQ (sy_cA (sy_cA (sy_cI (sy_iL 22)) (sy_ceq (sy_iL 23) (sy_iL 24))) (sy_cne (sy_iM (sy_cr 1 sf_L_typeOf) (sy_aL (sy_lA (sy_rL 15) (sy_iL 21)) sy_aN)) (sy_iM (sy_cr 1 sf_L_typeOf) (sy_aL (sy_lA (sy_rL 15) (sy_iL 16)) sy_aN)))) (sy_iK 2) (sy_iK 0)))))) (sy_sQ (sy_sI (sy_cne (sy_iM (sy_cr 4 sf_L_get) (sy_aR (sy_rL 0) (sy_aI (sy_iL 10) (sy_aI (sy_iL 11) (sy_aI (sy_iL 12) sy_aN))))) (sy_iL 20)) (sy_eZ (sy_iK 0)) sy_sN) (sy_sQ (sy_sSI 25 (sy_iA 0 (sy_rL 9) (sy_iK 1))) (sy_sQ (sy_sW (sy_rL 9) (sy_iK 1) (sy_iK 0)) (sy_sQ (sy_sI (sy_clt (sy_iL 21) (sy_iK 0)) (sy_eZ (sy_iC (sy_cA (sy_cA (sy_cA (sy_ceq (sy_iM (sy_cr 2 sf_L_holds) (sy_aR (sy_rL 0) (sy_aI (sy_iL 10) sy_aN))) (sy_iK 0)) (sy_ceq (sy_iM (sy_cr 2 sf_L_parent) (sy_aR (sy_rL 0) (sy_aI (sy_iL 10) sy_aN))) (sy_iL 18))) (sy_ceq (sy_iM (sy_cr 3 sf_L_area) (sy_aR (sy_rL 0) (sy_aI (sy_iK 3) (sy_aI (sy_iK 1) sy_aN)))) (sy_iL 19))) (sy_cQ (sy_ceq (sy_iL 20) (sy_iK 3)) (sy_cA (sy_ceq (sy_iM (sy_cr 2 sf_L_place) (sy_aR (sy_rL 0) (sy_aI (sy_iL 10) sy_aN))) (sy_iK (-1))) (sy_ceq (sy_iM (sy_cr 2 sf_L_ahead) (sy_aR (sy_rL 0) (sy_aI (sy_iL 10) sy_aN))) (sy_iK 0))) (sy_cA (sy_ceq (sy_iM (sy_cr 2 sf_L_place) (sy_aR (sy_rL 0) (sy_aI (sy_iL 10) sy_aN))) (sy_iL 16)) (sy_ceq (sy_iM (sy_cr 2 sf_L_ahead) (sy_aR (sy_rL 0) (sy_aI (sy_iL 10) sy_aN))) (sy_iL 17))))))) sy_sN) (sy_sQ (sy_sSI 26 (sy_iK 0)) (sy_sQ (sy_sSI 27 (sy_iL 21)) (sy_sQ (sy_sSI 28 (sy_iC (sy_cA (sy_ceq (sy_iM (sy_cr 2 sf_L_place) (sy_aR (sy_rL 0) (sy_aI (sy_iL 10) sy_aN))) (sy_iL 21)) (sy_ceq (sy_iM (sy_cr 2 sf_L_ahead) (sy_aR (sy_rL 0) (sy_aI (sy_iL 10) sy_aN))) (sy_iL 21))))) (sy_sQ (sy_sB 29 (sy_sQ (sy_sSI 29 (sy_iK 0)) (sy_wh (sy_cO (sy_clt (sy_iL 29) (sy_iL 25)) (sy_ceq (sy_iL 29) (sy_iK 0))) (sy_sQ (sy_sB 30 (sy_sQ (sy_sSI 30 (sy_iQ (sy_ceq (sy_iL 25) (sy_iK 0)) (sy_iL 21) (sy_iM (sy_cr 4 sf_L_among) (sy_aR (sy_rL 1) (sy_aR (sy_rL 15) (sy_aI (sy_iL 21) (sy_aI (sy_iDv false (sy_iA 0 (sy_rL 6) (sy_iL 29)) (sy_iK 16)) sy_aN))))))) (sy_sQ (sy_sI (sy_cO (sy_cO (sy_ceq (sy_iL 25) (sy_iK 0)) (sy_ceq (sy_iDv false (sy_iDv true (sy_iA 0 (sy_rL 6) (sy_iL 29)) (sy_iK 16)) (sy_iK 2)) (sy_iK 1))) (sy_ceq (sy_iL 29) (sy_iSub (sy_iL 25) (sy_iK 1)))) (sy_sQ (sy_sB 31 (sy_sQ (sy_sSI 31 (sy_iK 0)) (sy_wh (sy_clt (sy_iL 31) (sy_iK 3)) (sy_sQ (sy_sSI 28 (sy_iC (sy_cA (sy_cI (sy_iL 28)) (sy_ceq (sy_iM (sy_cr 3 sf_L_area) (sy_aR (sy_rL 0) (sy_aI (sy_iL 26) (sy_aI (sy_iL 31) sy_aN)))) (sy_iM (sy_cr 2 sf_L_fieldOf) (sy_aL (sy_lA (sy_rL 15) (sy_iL 30)) (sy_aI (sy_iL 31) sy_aN))))))) (sy_sIn 31 1)) 4))) (sy_sIn 26 1)) sy_sN) (sy_sSI 27 (sy_iQ (sy_cA (sy_cgt (sy_iL 25) (sy_iK 0)) (sy_ceq (sy_iDv false (sy_iDv true (sy_iA 0 (sy_rL 6) (sy_iL 29)) (sy_iK 256)) (sy_iK 2)) (sy_iK 1))) (sy_iL 30) (sy_iL 27)))))) (sy_sIn 29 1)) 6))) (sy_eZ (sy_iC (sy_cA (sy_cA (sy_cA (sy_cI (sy_iL 28)) (sy_ceq (sy_iM (sy_cr 2 sf_L_parent) (sy_aR (sy_rL 0) (sy_aI (sy_iL 10) sy_aN))) (sy_iQ (sy_ceq (sy_iL 11) (sy_iK 2)) (sy_iL 18) (sy_iL 27)))) (sy_ceq (sy_iM (sy_cr 2 sf_L_holds) (sy_aR (sy_rL 0) (sy_aI (sy_iL 10) sy_aN))) (sy_iQ (sy_cI (sy_iL 12)) (sy_iL 26) (sy_iK 0)))) (sy_cI (sy_iM (sy_cr 9 sf_L_told) (sy_aR (sy_rL 0) (sy_aR (sy_rL 1) (sy_aR (sy_rL 15) (sy_aR (sy_rL 2) (sy_aR (sy_rL 3) (sy_aR (sy_rL 4) (sy_aR (sy_rL 5) (sy_aI (sy_iL 10) (sy_aI (sy_iL 21) sy_aN)))))))))))))))))))))))))) (eG2 σ v way b d (-1) (nI j)) (fun _ => sy_fail) σ = some (.inl (some (.int 1)), sy_up (ya_get σ v (nI way) b) 52 1 0) := by
  have hb := yv_lt hv
  have h60 := cn_le I hd
  obtain ⟨a1, a2, a3⟩ := sg_ok I hd hj
  have hT := (I.2.1.1 _ a1).1
  have h4 : lsN σ ≤ 4 := by
    have := I.2.2.2.2.2.2.1
    show (σ 19 0).toInt.toNat ≤ 4
    omega
  have h19 : σ 19 0 = nI (lsN σ) := yg_n19e I
  have hg1 : ∀ env : List Value, env[9]? = some (.ref 52) → sy_iA 0 (sy_rL 9) (sy_iK 1) env σ = some (.inl (nI (lsN σ)), σ) := fun env h9 => by
    rw [← Q.1]
    exact ee_An (ee_R h9) ee_K (show 1 < 2 by omega) (by decide)
  have hj0 : decide (nI j < 0) = false := decide_eq_false (by rw [Int32.lt_iff_toInt_lt, nI_toInt (by omega)]; show ¬ (j : Int) < 0; omega)
  refine es_Q (es_SI (ee_iC (ee_eq (ee_cA (y := true) (ee_cA (ee_cA (ee_cB (hg1 _ rfl) ee_K) (fun _ => ee_cB (ee_L rfl) ee_K)) (fun _ => ee_cB (ee_L rfl) ee_K)) (fun _ => ee_eq (ee_cB (ee_L rfl) ee_K) (ge0 (by omega)))) (Bool.and_true _))) ?_)
  refine es_Q (es_SI (x := tV σ (yT σ (sg σ d j))) (ee_iQ (z := false) (x := 0) (ee_eq (ee_cB (ee_L rfl) ee_K) hj0) (fun e => by cases e) (fun _ => ev_v I T hT (ee_R rfl) (ev_t I R hd hj (ee_R rfl) (ee_L rfl)))) ?_)
  generalize hpl : ((decide (nI (lsN σ) = 0) && decide ((0 : Int32) < nI way)) && decide ((0 : Int32) ≤ yL σ (ya_here σ v))) = pl
  obtain ⟨z, z1, z2⟩ := now_is I T R hv hd hD (env := eG2 σ v way b d (-1) (nI j) ++ [.int (ya_b pl), .int (tV σ (yT σ (sg σ d j)))]) rfl rfl rfl
  refine es_Q (es_SI (ee_eq z1 rfl) ?_)
  -- the status
  have hty : pl = true → ∀ env : List Value, env[15]? = some (.ref (45 + d)) → env[16]? = some (.int (yL σ (ya_here σ v))) → sy_iM (sy_cr 1 sf_L_typeOf) (sy_aL (sy_lA (sy_rL 15) (sy_iL 16)) sy_aN) env σ = some (.inl (yT σ (ya_here σ v)), σ) ∧ ya_here σ v ≠ -1 := fun hp env h15 h16 => by
    rcases here_is I hv hd hD with h | ⟨q, q1, q2, q3⟩
    · rw [h, yL_m1] at hpl
      rw [← hpl, show decide ((0 : Int32) ≤ -1) = false from rfl, Bool.and_false] at hp
      cases hp
    · rw [q3] at h16
      rw [q2]
      exact ⟨ev_t I R hd q1 (ee_R h15) (ee_L h16), yl_ne (sg_ok I hd q1).1⟩
  refine es_Q (es_SI (σ1 := σ) (x := (ya_seek (sy_up σ (sy_vw v) 6 0) v (nI way) b).1) (ee_eq (ee_iQ (z := false) (x := 0) (ee_eq (ee_cB (ee_L rfl) ee_K) rfl) (fun e => by cases e) (fun _ => ee_iQ (z := false) (x := 0) (ee_eq (ee_cB (ee_L rfl) ee_K) hj0) (fun e => by cases e) (fun _ => ee_iQ (ee_cA (ee_cb (ee_L rfl)) (fun _ => ee_cB (ee_L rfl) (ee_L rfl))) (fun _ => ee_K) (fun _ => ee_iQ (ee_cA (ee_cA (ee_cb (ee_L rfl)) (fun _ => ee_cB (ee_L rfl) (ee_L rfl))) (fun hp => ee_cB (ev_t I R hd hj (ee_R rfl) (ee_L rfl)) (hty (by cases pl with | true => rfl | false => exact absurd hp (by simp)) _ rfl rfl).1)) (fun _ => ee_K) (fun _ => ee_K))))) ?_) ?_)
  · rw [hs, if_neg (by decide), if_neg (by decide)]
    cases hpb : pl with
    | false =>
      rw [Bool.false_and, if_neg (by decide), Bool.false_and, Bool.false_and, if_neg (by decide)]
      by_cases w0 : nI way = 0
      · rw [if_pos w0]
      · rw [if_neg w0]
        unfold ya_X5_statusOfStep
        rw [if_pos]
        rw [hpb] at hpl
        by_cases n0 : lsN σ = 0
        · have hw1 : decide ((0 : Int32) < nI way) = true := by
            rcases (show way = 0 ∨ way = 1 ∨ way = 2 by omega) with rfl | rfl | rfl
            · exact absurd rfl w0
            · rfl
            · rfl
          rw [n0, hw1] at hpl
          rcases here_is I hv hd hD with h | ⟨q, q1, q2, q3⟩
          · rw [h]
            simp
          · rw [q3, ge0 (by omega)] at hpl
            cases hpl
        · rw [h19, nI_gt0 (by omega), decide_eq_true (by omega), Bool.true_or]
    | true =>
      obtain ⟨-, hne⟩ := hty hpb (eG2 σ v way b d (-1) (nI j)) rfl rfl
      rw [z2 hne]
      rw [hpb, Bool.and_eq_true, Bool.and_eq_true] at hpl
      obtain ⟨⟨p1, p2⟩, p3⟩ := hpl
      have w0 : ¬ nI way = 0 := fun e => by
        rw [e] at p2
        cases p2
      rw [if_neg w0, Bool.true_and, Bool.true_and]
      unfold ya_X5_statusOfStep
      rw [if_neg (show ¬ (decide (0 < σ 19 0) || decide (ya_here σ v = -1)) = true by
        rw [h19, of_decide_eq_true p1, decide_eq_false hne]
        decide)]
  · refine es_Q (es_IF (ee_eq (ee_cB (ee_M (ee_aR (ee_R rfl) (ee_aI (ee_L rfl) (ee_aI (ee_L rfl) (ee_aI (ee_L rfl) ee_aN)))) (ee_cr (h_get I hv hw b) rfl)) (ee_L rfl)) (congrArg not (decide_eq_true rfl))) ?_)
    have IG := yn_get I hv (nI way) b
    have e52 : ya_get σ v (nI way) b 52 1 = nI (lsN σ) := by
      rw [get_ne hv (by omega)]
      exact Q.1
    have eG : ∀ k, (k ≤ 18 ∨ 44 ≤ k) → ya_get σ v (nI way) b k = σ k := fun k q => get_ne hv (by omega)
    obtain ⟨g1, g2, g3, g3', g4, g5, g6⟩ := got_is I hv (nI way) b (sg σ d j)
    rw [← hm] at g1 g2 g3 g3' g4 g5 g6
    generalize ya_get σ v (nI way) b = G at *
    clear hs hm
    generalize (ya_seek (sy_up σ (sy_vw v) 6 0) v (nI way) b).1 = s1
    refine es_Q (es_SI (ee_eq (ee_An (ee_R rfl) ee_K (show 1 < 2 by omega) (by decide)) e52) (es_Q (es_Wn (ee_R rfl) ee_K ee_K (show 1 < 2 by omega) (by decide) (es_Q (es_IF (ee_eq (ee_cB (ee_L rfl) ee_K) hj0) ?_)))))
    have hC : CP G (sy_up G 52 1 0) := CP_up CP_self (by omega)
    have RS : RW σ (sy_up G 52 1 0) := RW_b (fun _ _ => rfl) (fun k k1 k2 => by rw [up_ne (by omega)]; exact eG k (by omega)) R
    have TS : TT σ (sy_up G 52 1 0) := TT_b (fun _ _ => rfl) (by rw [up_ne (by omega)]; exact eG 44 (by omega)) T
    have RG : RW G (sy_up G 52 1 0) := RW_b (fun k hk => eG k (by omega)) (fun k k1 k2 => by rw [up_ne (by omega)]; exact eG k (by omega)) R
    have TG : TT G (sy_up G 52 1 0) := TT_b (fun k hk => eG k (by omega)) (by rw [up_ne (by omega)]; exact eG 44 (by omega)) T
    have QS : ∀ i, i < lsN σ → sy_up G 52 1 0 49 i = nI ((σ 20 i).toInt.toNat + 16 * (σ 21 i).toInt.toNat) := fun i hi => by
      rw [up_ne (by omega), eG 49 (by omega)]
      exact (Q.2 i hi).1
    have hyL : ∀ y, yL G y = yL σ y := fun y => ya_sg_c (eG 17 (by omega)) y
    have hcA : ya_X5_countAhead G v = nI j := by
      unfold ya_X5_countAhead
      rw [g3, decide_eq_true (show (0 : Int32) = 0 from rfl), g3', show ya_sg G 17 (sg σ d j) = nI j from (hyL _).trans a3, decide_eq_false, if_neg (by decide), if_neg (by decide)]
      intro e
      have := congrArg Int32.toInt e
      rw [nI_toInt (by omega), yl_cm] at this
      omega
    have hsgG : sg G d j = sg σ d j := by
      show ya_at G (nI d) (nI j) = ya_at σ (nI d) (nI j)
      unfold ya_at
      rw [eG 15 (by omega), eG 16 (by omega)]
    have hcnG : cn G d = cn σ d := by
      show (G 16 d).toInt.toNat = _
      rw [eG 16 (by omega)]
    generalize sy_up G 52 1 0 = S at *
    refine es_Q (es_SI ee_K (es_Q (es_SI (ee_L rfl) ?_)))
    refine es_Q (es_SI (ee_iC (ee_eq (ee_cA (x := true) (y := true) (ee_eq (ee_cB (c_place hC hv (ee_R rfl) (ee_L rfl)) (ee_L rfl)) (decide_eq_true (by rw [g1, hyL]; exact a3))) (fun _ => ee_eq (ee_cB (c_ahead IG hC hv (ee_R rfl) (ee_L rfl)) (ee_L rfl)) (decide_eq_true hcA))) rfl)) ?_)
    refine es_Q (es_B (es_Q (es_SI ee_K ?_)))
    -- the loop over the arguments
    let one : Nat → Int32 := fun i => if lsN σ = 0 then sg σ d j else ya_X3_upward σ (sg σ d j) (ya_ag σ 20 (-1) (nI i))
    obtain ⟨N, hN⟩ : ∃ N, N = if lsN σ = 0 then 1 else lsN σ := ⟨_, rfl⟩
    obtain ⟨sc, hsc⟩ : ∃ sc : Nat → Nat, ∀ i, sc i = if i < lsN σ ∨ i = 0 then ya_sl σ i else ya_sl σ (lsN σ - 1) + 1 := ⟨_, fun _ => rfl⟩
    obtain ⟨pr, hpr⟩ : ∃ pr : Nat → Int32, ∀ i, pr i = ya_par σ (sg σ d j) (min i (lsN σ)) := ⟨_, fun _ => rfl⟩
    have hN5 : 1 ≤ N ∧ N ≤ 4 ∧ lsN σ ≤ N ∧ (lsN σ ≠ 0 → N = lsN σ) := by
      rw [hN]
      split <;> omega
    have hone : ∀ i, i < N → ∃ o, o < cn σ d ∧ yL σ (one i) = nI o ∧ one i = sg σ d o := fun i hi => by
      by_cases n0 : lsN σ = 0
      · refine ⟨j, hj, ?_, ?_⟩
        · show yL σ (if lsN σ = 0 then _ else _) = _
          rw [if_pos n0]
          exact a3
        · show (if lsN σ = 0 then _ else _) = _
          rw [if_pos n0]
      · obtain ⟨u1, u2, -⟩ := yg_ups I hL a1 hR (i := i) (by show i < lsN σ; have := hN5.2.2.2 n0; omega)
        obtain ⟨o, o1, o2, o3⟩ := sg_of I u1 hd (u2.trans hD)
        refine ⟨o, o1, ?_, ?_⟩
        · show yL σ (if lsN σ = 0 then _ else _) = _
          rw [if_neg n0]
          exact o3
        · show (if lsN σ = 0 then _ else _) = _
          rw [if_neg n0]
          exact o2
    have p0 : pr 0 = sg σ d j := by
      rw [hpr, Nat.zero_min]
      rfl
    have s0' : sc 0 = 0 := by
      rw [hsc, if_pos (Or.inr rfl)]
      rfl
    have e0 : eG2 σ v way b d s1 (nI j) ++ [.int (ya_b pl), .int (tV σ (yT σ (sg σ d j))), .int z, .int (nI (lsN σ)), .int 0, .int (nI j), .int (ya_b true), .int 0] = eG2 σ v way b d s1 (nI j) ++ [.int (ya_b pl), .int (tV σ (yT σ (sg σ d j))), .int z, .int (nI (lsN σ)), .int (nI (sc 0)), .int (yL σ (pr 0)), .int (ya_b true), .int (nI 0)] := by
      rw [p0, s0', show yL σ (sg σ d j) = nI j from a3]
      rfl
    refine Eq.trans (congrArg (fun env => sy_wh _ _ _ env _ _) e0) ?_
    refine Eq.trans (ks_wh (E := fun i => eG2 σ v way b d s1 (nI j) ++ [.int (ya_b pl), .int (tV σ (yT σ (sg σ d j))), .int z, .int (nI (lsN σ)), .int (nI (sc i)), .int (yL σ (pr i)), .int (ya_b true), .int (nI i)]) (S := fun _ => S) (N := N) (fun i hi => ⟨?_, fun k2 => ?_⟩) ?_ N 0 6 (by omega) (by omega)) ?_
    · refine ee_eq (ee_cO (ee_cB (ee_L rfl) (ee_L rfl)) (fun _ => ee_cB (ee_L rfl) ee_K)) ?_
      rw [nI_ltd (by omega) (by omega), show decide (nI i = 0) = decide (i = 0) from nI_eqd (q := 0) (by omega) (by omega)]
      by_cases n0 : lsN σ = 0
      · rw [if_pos n0] at hN
        rw [decide_eq_true (show i = 0 by omega), Bool.or_true]
      · rw [decide_eq_true (show i < lsN σ by have := hN5.2.2.2 n0; omega), Bool.true_or]
    · obtain ⟨o, o1, o2, o3⟩ := hone i hi
      have hn0 : decide (nI (lsN σ) = 0) = decide (lsN σ = 0) := nI_eqd (q := 0) (by omega) (by omega)
      have hi' : lsN σ ≠ 0 → i < lsN σ := fun n0 => by have := hN5.2.2.2 n0; omega
      have q20 : ∀ h : i < lsN σ, ya_ag σ 20 (-1) (nI i) = σ 20 i := fun h => ag_nI I h
      refine es_Q (es_B (es_Q (es_SI (σ1 := S) (x := nI o) ?_ ?_)))
      · refine ee_eq (ee_iQ (ee_cB (ee_L rfl) ee_K) (fun _ => ee_L rfl) (fun e => ev_a I TS RS hd hj (ee_R rfl) (ee_R rfl) (ee_L rfl) (ev_q0 I (hi' (by rw [hn0] at e; simpa using e)) (QS i (hi' (by rw [hn0] at e; simpa using e))) (ee_R rfl) (ee_L rfl)).1)) ?_
        rw [hn0, ← o2]
        show _ = yL σ (if lsN σ = 0 then _ else _)
        by_cases n0 : lsN σ = 0
        · rw [if_pos n0, if_pos (decide_eq_true n0), show yL σ (sg σ d j) = nI j from a3]
        · rw [if_neg n0, if_neg (by simpa using n0), q20 (hi' n0)]
      · -- what is delivered
        have hq : ∀ h : ¬ lsN σ = 0, ∀ env : List Value, env[6]? = some (.ref 49) → env[29]? = some (.int (nI i)) → _ := fun h env h6 h29 => (ev_q0 I (hi' h) (QS i (hi' h)) (env := env) (r := sy_rL 6) (e := sy_iL 29) (ee_R h6) (ee_L h29)).2
        obtain ⟨cnd, hcnd⟩ : ∃ c : Bool, c = ((decide (lsN σ = 0) || ya_code σ (nI i) 1) || decide (nI i = nI (lsN σ) - 1)) := ⟨_, rfl⟩
        have hl1 : decide (nI i = nI (lsN σ) - 1) = decide (i + 1 = lsN σ) := by
          rw [decide_eq_decide]
          by_cases n0 : lsN σ = 0
          · rw [n0]
            constructor
            · intro e
              have := congrArg Int32.toInt e
              rw [nI_toInt (by omega), show (nI 0 - 1).toInt = -1 from rfl] at this
              omega
            · intro e; omega
          · rw [show (1 : Int32) = nI 1 from rfl, nsub (by omega)]
            constructor
            · intro e
              have := congrArg Int32.toInt e
              rw [nI_toInt (by omega), nI_toInt (by omega)] at this
              omega
            · intro e
              rw [show i = lsN σ - 1 by omega]
        have hcell : cnd = true → ∀ f, f < 3 → G 31 (3 * ya_sl σ i + f) = ya_N σ (one i) (nI f) := fun hc f hf => by
          rw [hcnd, hl1, Bool.or_eq_true, Bool.or_eq_true, decide_eq_true_eq, decide_eq_true_eq] at hc
          show _ = ya_N σ (if lsN σ = 0 then _ else _) _
          by_cases n0 : lsN σ = 0
          · rw [if_pos n0, ← (g6 f hf).1, show i = 0 by have := hN5; rw [if_pos n0] at hN; omega, n0]
          · rw [if_neg n0]
            by_cases l : i + 1 = lsN σ
            · have := (yg_ups I hL a1 hR (i := i) (by show i < lsN σ; omega)).2.2 l
              rw [this, ← (g6 f hf).1, show i = lsN σ - 1 by omega]
            · have := hi' n0
              exact (g6 f hf).2 i (by omega) ((hc.resolve_right l).resolve_left n0)
        have hscn : sc (i + 1) = ya_sl σ i + (if cnd then 1 else 0) := by
          rw [hsc, hcnd, hl1]
          by_cases n0 : lsN σ = 0
          · rw [if_neg (by omega), decide_eq_true n0, n0, show i = 0 by have := hN5; rw [if_pos n0] at hN; omega]
            rfl
          · have := hi' n0
            by_cases l : i + 1 = lsN σ
            · rw [if_neg (by omega), decide_eq_true l, Bool.or_true, if_pos rfl, show lsN σ - 1 = i by omega]
            · rw [if_pos (by omega), decide_eq_false l, decide_eq_false n0, Bool.or_false, Bool.false_or]
              rfl
        have hsci : sc i = ya_sl σ i := by
          rw [hsc, if_pos (by by_cases n0 : lsN σ = 0; (right; have := hN5; rw [if_pos n0] at hN; omega); exact Or.inl (hi' n0))]
        have hsl4 : ya_sl σ i < 4 := by
          have := ya_sl_le σ i
          omega
        have hprn : pr (i + 1) = if (decide ((0 : Int32) < nI (lsN σ)) && ya_code σ (nI i) 16) then one i else pr i := by
          rw [hpr, hpr, nI_gt0 (by omega)]
          by_cases n0 : lsN σ = 0
          · rw [n0, Nat.min_zero, Nat.min_zero]
            rfl
          · have := hi' n0
            rw [decide_eq_true (show 0 < lsN σ by omega), Bool.true_and, Nat.min_eq_left (by omega), Nat.min_eq_left (by omega)]
            show _ = if _ then (if lsN σ = 0 then _ else _) else _
            rw [if_neg n0]
            rfl
        -- the end of the turn
        have hend : ∀ (sl : Nat), sc (i + 1) = sl → (sy_sSI 27 (sy_iQ (sy_cA (sy_cgt (sy_iL 25) (sy_iK 0)) (sy_ceq (sy_iDv false (sy_iDv true (sy_iA 0 (sy_rL 6) (sy_iL 29)) (sy_iK 256)) (sy_iK 2)) (sy_iK 1))) (sy_iL 30) (sy_iL 27))) (eG2 σ v way b d s1 (nI j) ++ [.int (ya_b pl), .int (tV σ (yT σ (sg σ d j))), .int z, .int (nI (lsN σ)), .int (nI sl), .int (yL σ (pr i)), .int (ya_b true), .int (nI i), .int (nI o)]) (fun env' => sy_sIn 29 1 (List.take 30 env') k2) S = k2 (eG2 σ v way b d s1 (nI j) ++ [.int (ya_b pl), .int (tV σ (yT σ (sg σ d j))), .int z, .int (nI (lsN σ)), .int (nI (sc (i + 1))), .int (yL σ (pr (i + 1))), .int (ya_b true), .int (nI (i + 1))]) S := fun sl hsl => by
          refine es_SI (σ1 := S) (x := yL σ (pr (i + 1))) ?_ ?_
          · refine ee_eq (ee_iQ (ee_cA (y := ya_code σ (nI i) 16) (ee_cB (ee_L rfl) ee_K) (fun h => (hq (fun n0 => by rw [n0] at h; cases h) _ rfl rfl).2)) (fun _ => ee_L rfl) (fun _ => ee_L rfl)) ?_
            rw [hprn]
            split
            · exact o2.symm
            · rfl
          · refine es_In rfl ?_
            rw [hsl]
            exact congrArg (fun z' => k2 (eG2 σ v way b d s1 (nI j) ++ [.int (ya_b pl), .int (tV σ (yT σ (sg σ d j))), .int z, .int (nI (lsN σ)), .int (nI sl), .int (yL σ (pr (i + 1))), .int (ya_b true), .int z']) S) (nadd (a := i) (b := 1))
        rw [hsci]
        have hcv : sy_cO (sy_cO (sy_ceq (sy_iL 25) (sy_iK 0)) (sy_ceq (sy_iDv false (sy_iDv true (sy_iA 0 (sy_rL 6) (sy_iL 29)) (sy_iK 16)) (sy_iK 2)) (sy_iK 1))) (sy_ceq (sy_iL 29) (sy_iSub (sy_iL 25) (sy_iK 1))) (eG2 σ v way b d s1 (nI j) ++ [.int (ya_b pl), .int (tV σ (yT σ (sg σ d j))), .int z, .int (nI (lsN σ)), .int (nI (ya_sl σ i)), .int (yL σ (pr i)), .int (ya_b true), .int (nI i), .int (nI o)]) S = some (.inl cnd, S) := by
          rw [hcnd, ← hn0]
          exact ee_cO (ee_cO (ee_cB (ee_L rfl) ee_K) (fun h => (hq (fun n0 => by rw [n0] at h; cases h) _ rfl rfl).1)) (fun _ => ee_cB (ee_L rfl) (ee_B (ee_L rfl) ee_K))
        cases hcb : cnd with
        | false =>
          rw [hcb] at hcv hscn
          exact es_Q (es_IF hcv (hend _ hscn))
        | true =>
          rw [hcb] at hcv hscn
          refine es_Q (es_It hcv (es_Q (es_B (es_Q (es_SI ee_K ?_)))))
          refine Eq.trans (ks_wh (E := fun f => eG2 σ v way b d s1 (nI j) ++ [.int (ya_b pl), .int (tV σ (yT σ (sg σ d j))), .int z, .int (nI (lsN σ)), .int (nI (ya_sl σ i)), .int (yL σ (pr i)), .int (ya_b true), .int (nI i), .int (nI o), .int (nI f)]) (S := fun _ => S) (N := 3) (fun f hf => ⟨ee_eq (ee_cB (ee_L rfl) ee_K) (show decide (nI f < nI 3) = true by rw [nI_ltd (by omega) (by omega)]; exact decide_eq_true hf), fun k3 => ?_⟩) (ee_eq (ee_cB (ee_L rfl) ee_K) rfl) 3 0 4 rfl (by omega)) ?_
          · refine es_Q (es_SI (ee_iC (ee_eq (ee_cA (x := true) (y := true) (ee_cb (ee_L rfl)) (fun _ => ee_eq (ee_cB (c_area hC hsl4 hf (ee_R rfl) (ee_L rfl) (ee_L rfl)) (ev_f I RS hd o1 hf (ee_R rfl) (ee_L rfl) (ee_L rfl))) (decide_eq_true (by rw [slot_31 hsl4 hf, hcell hcb f hf, o3])))) rfl)) (es_In rfl ?_))
            exact congrArg (fun z' => k3 (eG2 σ v way b d s1 (nI j) ++ [.int (ya_b pl), .int (tV σ (yT σ (sg σ d j))), .int z, .int (nI (lsN σ)), .int (nI (ya_sl σ i)), .int (yL σ (pr i)), .int (ya_b true), .int (nI i), .int (nI o), .int z']) S) (nadd (a := f) (b := 1))
          · refine es_In rfl ?_
            have e1 : nI (ya_sl σ i) + 1 = nI (ya_sl σ i + 1) := nadd (b := 1)
            rw [e1]
            exact hend _ hscn
    · refine ee_eq (ee_cO (ee_cB (ee_L rfl) (ee_L rfl)) (fun _ => ee_cB (ee_L rfl) ee_K)) ?_
      rw [nI_ltd (by omega) (by omega), show decide (nI N = 0) = decide (N = 0) from nI_eqd (q := 0) (by omega) (by omega), decide_eq_false (show ¬ N = 0 by omega), decide_eq_false]
      · rfl
      · omega
    · have eN : pr N = ya_par σ (sg σ d j) (lsN σ) := by
        rw [hpr, Nat.min_eq_right hN5.2.2.1]
      have sN : sc N = ya_sl σ (lsN σ - 1) + 1 := by
        rw [hsc, if_neg]
        omega
      have ht := t_told IG hC TG RG hd hv (p := j) (by rw [hcnG]; exact hj) (by rw [g1, hsgG])
      refine es_eZb (c := true) (ee_iC (ee_eq (ee_cA (x := true) (y := true) (ee_eq (ee_cA (x := true) (y := true) (ee_eq (ee_cA (x := true) (y := true) (ee_cb (ee_L rfl)) (fun _ => ee_eq (ee_cB (c_parent hC hv (ee_R rfl) (ee_L rfl)) (ee_iQ (ee_cB (ee_L rfl) ee_K) (fun _ => ee_L rfl) (fun _ => ee_L rfl))) (decide_eq_true ?_))) rfl) (fun _ => ee_eq (ee_cB (c_holds hC hv (ee_R rfl) (ee_L rfl)) (ee_iQ (ee_cb (ee_L rfl)) (fun _ => ee_L rfl) (fun _ => ee_K))) (decide_eq_true ?_))) rfl) (fun _ => ee_cb (c := true) (ee_M (ee_aR (ee_R rfl) (ee_aR (ee_R rfl) (ee_aR (ee_R rfl) (ee_aR (ee_R rfl) (ee_aR (ee_R rfl) (ee_aR (ee_R rfl) (ee_aR (ee_R rfl) (ee_aI (ee_L rfl) (ee_aI (ee_L rfl) ee_aN))))))))) (ee_cr ht rfl)))) rfl))
      · rw [g4, hyL, eN]
        by_cases w2 : nI way = 2
        · rw [if_pos w2, decide_eq_true w2]
          rfl
        · rw [if_neg w2, decide_eq_false w2]
          rfl
      · rw [g5, sN]
end LA21
