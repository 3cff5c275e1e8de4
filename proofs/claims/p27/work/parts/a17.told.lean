section LA17
variable {A σ : sy_Mem} {t : Nat}
/-- of the segments in a row's first places those with P -/
theorem cw_row (I : yn_I t A) (P : Int32 → Bool) {d : Nat} (hd : d < 3) : ∀ (p : Nat), p ≤ cn A d → ya_cw (fun i => decide (yT A (nI i) ≠ -1 ∧ sD A (nI i) = nI d ∧ (yL A (nI i)).toInt < (p : Int)) && P (nI i)) 60 = ya_cw (fun j => P (sg A d j)) p
  | 0, _ => ya_cw_0 (fun i hi => by
      rw [decide_eq_false, Bool.false_and]
      rintro ⟨h1, _, h3⟩
      have := (yg_pl I h1).1
      omega)
  | p + 1, hp => by
    have ih := cw_row I P hd p (by omega)
    have h60 := cn_le I hd
    obtain ⟨h1, h2, h3⟩ := sg_ok I hd (show p < cn A d by omega)
    have hin := yl_in h1
    have e0 : sg A d p = nI (sg A d p).toNatClampNeg := yi_nat (yi_pos.mpr hin.1)
    have hlt : (sg A d p).toNatClampNeg < 60 := by rw [yi_clampInt]; omega
    have e3 : ya_cw (fun j => P (sg A d j)) (p + 1) = ya_cw (fun j => P (sg A d j)) p + (if P (sg A d p) then 1 else 0) := rfl
    rw [e3, ← ih]
    have iff : ∀ i, i < 60 → decide (yT A (nI i) ≠ -1 ∧ sD A (nI i) = nI d ∧ (yL A (nI i)).toInt < ((p + 1 : Nat) : Int)) = (decide (yT A (nI i) ≠ -1 ∧ sD A (nI i) = nI d ∧ (yL A (nI i)).toInt < (p : Int)) || decide (i = (sg A d p).toNatClampNeg)) := fun i hi => by
      rw [Bool.eq_iff_iff, Bool.or_eq_true, decide_eq_true_eq, decide_eq_true_eq, decide_eq_true_eq]
      constructor
      · rintro ⟨g1, g2, g3⟩
        by_cases q : (yL A (nI i)).toInt < (p : Int)
        · exact Or.inl ⟨g1, g2, q⟩
        · right
          have g4 : (yL A (nI i)).toInt = (p : Int) := by omega
          have : nI i = sg A d p := yl_same I g1 h1 (g2.trans h2.symm) (by rw [h3, nI_toInt (by omega), g4])
          rw [← this, nI_clamp (by omega)]
      · rintro (⟨g1, g2, g3⟩ | g)
        · exact ⟨g1, g2, by omega⟩
        · rw [g, ← e0]
          refine ⟨h1, h2, ?_⟩
          rw [h3, nI_toInt (by omega)]
          omega
    have hno : decide (yT A (nI (sg A d p).toNatClampNeg) ≠ -1 ∧ sD A (nI (sg A d p).toNatClampNeg) = nI d ∧ (yL A (nI (sg A d p).toNatClampNeg)).toInt < (p : Int)) = false := by
      rw [decide_eq_false_iff_not, ← e0]
      rintro ⟨_, _, g⟩
      rw [h3, nI_toInt (by omega)] at g
      omega
    by_cases hP : P (sg A d p) = true
    · rw [if_pos hP]
      have key := ya_cw_one (P := fun i => decide (yT A (nI i) ≠ -1 ∧ sD A (nI i) = nI d ∧ (yL A (nI i)).toInt < ((p + 1 : Nat) : Int)) && P (nI i)) (Q := fun i => decide (yT A (nI i) ≠ -1 ∧ sD A (nI i) = nI d ∧ (yL A (nI i)).toInt < (p : Int)) && P (nI i)) (j := (sg A d p).toNatClampNeg) (n := 60) (fun i hi => by
        show (_ && _) = ((_ && _) || _)
        rw [iff i hi]
        by_cases e : i = (sg A d p).toNatClampNeg
        · rw [decide_eq_true e, e, ← e0, hP]
          simp
        · rw [decide_eq_false e]
          simp) (by
        show (_ && _) = false
        rw [hno, Bool.false_and])
      rw [key, if_pos hlt]
    · rw [if_neg hP, Nat.add_zero]
      have e : ∀ i, i < 60 → (decide (yT A (nI i) ≠ -1 ∧ sD A (nI i) = nI d ∧ (yL A (nI i)).toInt < ((p + 1 : Nat) : Int)) && P (nI i)) = (decide (yT A (nI i) ≠ -1 ∧ sD A (nI i) = nI d ∧ (yL A (nI i)).toInt < (p : Int)) && P (nI i)) := fun i hi => by
        rw [iff i hi]
        by_cases e : i = (sg A d p).toNatClampNeg
        · rw [e, ← e0, show P (sg A d p) = false by simpa using hP, Bool.and_false, Bool.and_false]
        · rw [decide_eq_false e, Bool.or_false]
      exact ya_cw_congr (P := fun i => decide (yT A (nI i) ≠ -1 ∧ sD A (nI i) = nI d ∧ (yL A (nI i)).toInt < ((p + 1 : Nat) : Int)) && P (nI i)) (Q := fun i => decide (yT A (nI i) ≠ -1 ∧ sD A (nI i) = nI d ∧ (yL A (nI i)).toInt < (p : Int)) && P (nI i)) e
/-- over all rows -/
def cwR (A : sy_Mem) (P : Int32 → Bool) : Nat → Nat
  | 0 => 0
  | d + 1 => cwR A P d + ya_cw (fun j => P (sg A d j)) (cn A d)
theorem cwR_3 (P : Int32 → Bool) : cwR A P 3 = ya_cw (fun j => P (sg A 0 j)) (cn A 0) + ya_cw (fun j => P (sg A 1 j)) (cn A 1) + ya_cw (fun j => P (sg A 2 j)) (cn A 2) := by
  rw [show cwR A P 3 = 0 + ya_cw (fun j => P (sg A 0 j)) (cn A 0) + ya_cw (fun j => P (sg A 1 j)) (cn A 1) + ya_cw (fun j => P (sg A 2 j)) (cn A 2) from rfl, Nat.zero_add]
theorem cw_rows (I : yn_I t A) (P : Int32 → Bool) (hP : ∀ x, P x = true → yl A x) : ya_cw (fun i => P (nI i)) 60 = cwR A P 3 := by
  have h3 := ya_cw_3 (P := fun i => P (nI i)) (n := 60) (Q := fun i => decide (yT A (nI i) ≠ -1 ∧ sD A (nI i) = nI 0 ∧ (yL A (nI i)).toInt < (cn A 0 : Int)) && P (nI i)) (R := fun i => decide (yT A (nI i) ≠ -1 ∧ sD A (nI i) = nI 1 ∧ (yL A (nI i)).toInt < (cn A 1 : Int)) && P (nI i)) (S := fun i => decide (yT A (nI i) ≠ -1 ∧ sD A (nI i) = nI 2 ∧ (yL A (nI i)).toInt < (cn A 2 : Int)) && P (nI i)) (fun i hi => by
    by_cases q : P (nI i) = true
    · have hli := hP _ q
      have hD := yl_sD I.1 I.2.1 hli
      have hp := yg_pl I hli
      rw [q, Bool.and_true, Bool.and_true, Bool.and_true]
      have key : ∀ n : Nat, n < 3 → decide (yT A (nI i) ≠ -1 ∧ sD A (nI i) = nI n ∧ (yL A (nI i)).toInt < (cn A n : Int)) = decide ((sD A (nI i)).toInt = (n : Int)) := fun n hn => by
        rw [Bool.eq_iff_iff, decide_eq_true_eq, decide_eq_true_eq]
        constructor
        · rintro ⟨_, g, _⟩
          rw [g, nI_toInt (by omega)]
        · intro g
          have g2 : sD A (nI i) = nI n := yi_ext (by rw [g, nI_toInt (by omega)])
          refine ⟨hli, g2, ?_⟩
          obtain ⟨r, r1, r2, r3⟩ := sg_of I hli hn g2
          have h60 := cn_le I hn
          rw [r3, nI_toInt (by omega)]
          omega
      rw [key 0 (by decide), key 1 (by decide), key 2 (by decide)]
      rcases (show (sD A (nI i)).toInt = 0 ∨ (sD A (nI i)).toInt = 1 ∨ (sD A (nI i)).toInt = 2 by omega) with e | e | e
      · rw [e]; decide
      · rw [e]; decide
      · rw [e]; decide
    · rw [show P (nI i) = false by simpa using q]
      simp)
  rw [h3, cw_row I P (show 0 < 3 by omega) _ (Nat.le_refl _), cw_row I P (show 1 < 3 by omega) _ (Nat.le_refl _), cw_row I P (show 2 < 3 by omega) _ (Nat.le_refl _)]
  exact (cwR_3 P).symm
abbrev eT (d v p : Nat) : List Value := [.ref 0, .ref 44, .ref (45 + d), .ref 45, .ref 46, .ref 47, .ref 48, .int (nI v), .int (nI p)]
theorem told_loop (I : yn_I t A) (T : TT A σ) (R : RW A σ) {d v p : Nat} (hd : d < 3) {V : Int64} {k : List Value → sy_MM (Option Value)} {r : Option (((Option Value) ⊕ Nat) × sy_Mem)} (hk : ∀ w, k (eT d v p ++ [.long V, .null, .long w, .null, .int (-1)]) σ = r) : ∀ (n m : Nat) (x : Int32) (K w : Int64), n < m → ya_len (yP A) n x → (x = -1 ∨ ∃ q, q < cn A d ∧ x = sg A d q ∧ yL A x = nI q) → K + w * ya_H A n x = V → sy_wh (sy_cge (sy_iL 13) (sy_iK 0)) (sy_sQ (sy_sQ (sy_sSL 9 (sy_lB (fun x y => x + y) (sy_lL 9) (sy_lB (fun x y => x * y) (sy_lL 11) (sy_lI (sy_iM (sy_cr 2 sf_L_fieldOf) (sy_aL (sy_lA (sy_rL 2) (sy_iL 13)) (sy_aI (sy_iK 0) sy_aN))))))) (sy_sSL 11 (sy_lB (fun x y => x * y) (sy_lL 11) (sy_lK 1000)))) (sy_sSI 13 (sy_iM (sy_cr 3 sf_L_over) (sy_aR (sy_rL 1) (sy_aR (sy_rL 2) (sy_aI (sy_iL 13) sy_aN)))))) m (eT d v p ++ [.long K, .null, .long w, .null, .int (yL A x)]) k σ = r
  | 0, m + 1, x, K, w, hm, hx, hq, hV => by
    have hx : x = -1 := hx
    subst hx
    unfold sy_wh
    rw [sy_bnd_at (show _ = some ((Sum.inl false : Bool ⊕ Nat), σ) from ee_eq (ee_cB (ee_L rfl) ee_K) rfl)]
    have : K = V := by
      rw [← hV]
      show K = K + w * 0
      rw [Int64.mul_zero, Int64.add_zero]
    rw [if_neg (by decide), this]
    exact hk w
  | n + 1, m + 1, x, K, w, hm, hx, hq, hV => by
    have h60 := cn_le I hd
    rcases hq with e | ⟨q, q1, rfl, q3⟩
    · exact absurd e hx.1
    · unfold sy_wh
      rw [q3, sy_bnd_at (show _ = some ((Sum.inl true : Bool ⊕ Nat), σ) from ee_eq (ee_cB (ee_L rfl) ee_K) (ge0 (by omega))), if_pos rfl]
      refine es_Q (es_Q (es_Q (es_SL (ee_lB (ee_LL rfl) (ee_lB (ee_LL rfl) (ee_lI (ev_f I R (f := 0) hd q1 (by omega) (ee_R rfl) (ee_L rfl) ee_K)))) (es_SL (ee_lB (ee_LL rfl) ee_lK) ?_))))
      refine es_SI (ev_o I T R hd q1 (ee_R rfl) (ee_R rfl) (ee_L rfl)) ?_
      exact told_loop I T R hd hk n m (yP A (sg A d q)) _ _ (by omega) hx.2 (yP_D I hd q1) (by rw [← hV]; exact yh_step _ _ _ _)
  | _, 0, _, _, _, hm, _, _, _ => absurd hm (by omega)
theorem t_told (I : yn_I t A) (h : CP A σ) (T : TT A σ) (R : RW A σ) {d v p : Nat} (hd : d < 3) (hv : v < 4) (hp : p < cn A d) (hh : ya_here A v = sg A d p) : sf_L_told (eT d v p) σ = some (.inl (some (.int 1)), σ) := by
  have h60 := cn_le I hd
  obtain ⟨a1, a2, a3⟩ := sg_ok I hd hp
  have hT := (I.2.1.1 _ a1).1
  refine ke_meth ?_ (Nat.le_of_ble_eq_true rfl)
  refine es_Q (es_SL ee_lK (es_Q (es_SL ee_lK (es_Q (es_B (es_Q (es_SI (ee_L rfl) ?_)))))))
  have hlv := (yl_lev I a1).2
  have key := fun k r hk => told_loop (v := v) (p := p) (V := ya_keys A (sg A d p)) (k := k) (r := r) I T R hd hk (ya_lv A (sg A d p)) 1000 (sg A d p) 0 1 (by omega) (ya_len_of I _ a1 rfl) (Or.inr ⟨p, hp, rfl, a3⟩) (by rw [Int64.one_mul, Int64.zero_add]; unfold ya_keys; rw [if_neg (yl_ne a1)])
  rw [a3] at key
  refine key _ _ (fun w => ?_)
  -- type, second
  refine es_Q (es_SI (ev_t I R hd hp (ee_R rfl) (ee_L rfl)) (es_Q (es_SI (σ1 := σ) (x := yL A (ya_X3_rootOf A (tG A (yT A (sg A d p))) (ya_N A (sg A d p) 2))) ?_ (es_Q (es_SI ee_K (es_Q (es_B (es_Q (es_SI ee_K ?_)))))))))
  · obtain ⟨-, -, -, -, -, -, -, g⟩ := I.1.2.1 _ hT
    rcases g with g | ⟨g1, g2⟩
    · refine ee_eq (ee_iQ (x := -1) (y := 0) (ee_eq (ee_cB (ev_g I T hT (ee_R rfl) (ee_L rfl)) ee_K) (show decide (tG A (yT A (sg A d p)) < 0) = true by rw [g]; rfl)) (fun _ => ee_K) (fun h => by cases h)) ?_
      rw [g]
      rfl
    · have r1 := t_rootOf I T R g1 g2 (ya_N A (sg A d p) 2)
      have n2 : ∀ env : List Value, env[2]? = some (.ref (45 + d)) → env[8]? = some (.int (nI p)) → sy_iM (sy_cr 2 sf_L_fieldOf) (sy_aL (sy_lA (sy_rL 2) (sy_iL 8)) (sy_aI (sy_iK 2) sy_aN)) env σ = some (.inl (ya_N A (sg A d p) 2), σ) := fun env h1 h2 => ev_f I R (f := 2) hd hp (by omega) (ee_R h1) (ee_L h2) ee_K
      generalize yL A (ya_X3_rootOf A (tG A (yT A (sg A d p))) (ya_N A (sg A d p) 2)) = Z at r1 ⊢
      refine ee_eq (ee_iQ (x := 0) (y := Z) (ee_eq (ee_cB (ev_g I T hT (ee_R rfl) (ee_L rfl)) ee_K) (show decide (tG A (yT A (sg A d p)) < 0) = false by
        refine decide_eq_false ?_
        rw [Int32.lt_iff_toInt_lt]
        have := (isT_12 I g1).1
        show ¬ _ < (0 : Int)
        omega)) (fun h => by cases h) (fun _ => ee_M (ee_aR (ee_R rfl) (ee_aR (ee_R rfl) (ee_aR (ee_R rfl) (ee_aR (ee_R rfl) (ee_aR (ee_R rfl) (ee_aI (ev_g I T hT (ee_R rfl) (ee_L rfl)) (ee_aI (n2 _ rfl rfl) ee_aN))))))) (ee_cr r1 rfl))) rfl
  -- the tied ones
  · obtain ⟨P, hPx⟩ : ∃ P : Int32 → Bool, ∀ x, P x = (decide (tG A (yT A x) = yT A (sg A d p)) && decide (ya_N A x 2 = ya_N A (sg A d p) 0)) := ⟨_, fun _ => rfl⟩
    refine Eq.trans (ks_wh (E := fun i => eT d v p ++ [.long (ya_keys A (sg A d p)), .null, .long w, .null, .int (yT A (sg A d p)), .int (yL A (ya_X3_rootOf A (tG A (yT A (sg A d p))) (ya_N A (sg A d p) 2))), .int (nI (cwR A P i)), .int (nI i)]) (S := fun _ => σ) (N := 3) (fun i hi => ⟨ee_eq (ee_cB (ee_L rfl) ee_K) (show decide (nI i < nI 3) = true by rw [nI_ltd (by omega) (by omega)]; exact decide_eq_true hi), fun k' => ?_⟩) (ee_eq (ee_cB (ee_L rfl) ee_K) rfl) 3 0 1000 rfl (by omega)) ?_
    · have hi60 := cn_le I hi
      obtain ⟨f, f0, fs, fn⟩ : ∃ f : Nat → Int32, f 0 = nI (cwR A P i) ∧ (∀ j, f (j + 1) = f j + (if P (sg A i j) then 1 else 0)) ∧ f (cn A i) = nI (cwR A P (i + 1)) := by
        refine ⟨fun j => nI (cwR A P i + ya_cw (fun j => P (sg A i j)) j), rfl, fun j => ?_, rfl⟩
        show nI (cwR A P i + (ya_cw (fun j => P (sg A i j)) j + (if P (sg A i j) then 1 else 0))) = _
        rw [← Nat.add_assoc]
        cases P (sg A i j)
        · exact (nadd (b := 0)).symm
        · exact (nadd (b := 1)).symm
      rw [← f0]
      refine es_Q (es_B (es_Q (es_SR (ee_rM (ee_aI (ee_L rfl) (ee_aR (ee_R rfl) (ee_aR (ee_R rfl) (ee_aR (ee_R rfl) ee_aN)))) (ee_cr (t_row hi) rfl)) (es_B (es_Q (es_SI ee_K ?_))))))
      have hn : ∀ (env : List Value), env[6]? = some (.ref 48) → env[16]? = some (.int (nI i)) → sy_iA 0 (sy_rL 6) (sy_iL 16) env σ = some (.inl (nI (cn A i)), σ) := fun env h4 h5 => by
        rw [← (R i hi).1]
        exact ee_An (ee_R h4) (ee_L h5) (show i < 3 from hi) (by decide)
      refine Eq.trans (ks_wh (E := fun j => eT d v p ++ [.long (ya_keys A (sg A d p)), .null, .long w, .null, .int (yT A (sg A d p)), .int (yL A (ya_X3_rootOf A (tG A (yT A (sg A d p))) (ya_N A (sg A d p) 2))), .int (f j), .int (nI i), .ref (45 + i), .int (nI j)]) (S := fun _ => σ) (N := cn A i) (fun j hj => ⟨ee_eq (ee_cB (ee_L rfl) (hn _ rfl rfl)) (by rw [nI_ltd (by omega) (by omega)]; exact decide_eq_true hj), fun k2 => ?_⟩) (ee_eq (ee_cB (ee_L rfl) (hn _ rfl rfl)) (by rw [nI_ltd (by omega) (by omega)]; exact decide_eq_false (by omega))) (cn A i) 0 1000 (by omega) (by omega)) ?_
      · have hTj := (I.2.1.1 _ (sg_ok I hi hj).1).1
        refine es_Q (es_SI (ee_B (ee_L rfl) (ee_iQ (ee_cA (ee_cB (ev_g I T hTj (ee_R rfl) (ev_t I R hi hj (ee_R rfl) (ee_L rfl))) (ee_L rfl)) (fun _ => ee_cB (ev_f I R (f := 2) hi hj (by omega) (ee_R rfl) (ee_L rfl) ee_K) (ev_f I R (f := 0) hd hp (by omega) (ee_R rfl) (ee_L rfl) ee_K))) (fun _ => ee_K) (fun _ => ee_K))) (es_In rfl ?_))
        have e1 := fs j
        rw [hPx] at e1
        rw [← show nI j + 1 = nI (j + 1) from nadd (a := j) (b := 1), e1]
        rfl
      · refine es_In rfl ?_
        rw [fn, ← show nI i + 1 = nI (i + 1) from nadd (a := i) (b := 1)]
        rfl
    · have hc : cwR A P 3 = ya_cw (fun i => ya_X3_isTied A (nI i) (ya_here A v)) 60 := by
        have e : ∀ x, yl A x → P x = ya_X3_isTied A x (sg A d p) := fun x hx => by
          rw [hPx]
          unfold ya_X3_isTied
          show (decide (tG A (yT A x) = yT A (sg A d p)) && decide (ya_N A x 2 = ya_N A (sg A d p) 0)) = (((!decide (tG A (yT A x) = -1)) && decide (tG A (yT A x) = yT A (sg A d p))) && decide (ya_N A x 2 = ya_N A (sg A d p) 0))
          by_cases q : tG A (yT A x) = yT A (sg A d p)
          · have : ¬ tG A (yT A x) = -1 := by
              rw [q]
              exact ya_isT_ne hT
            rw [decide_eq_true q, decide_eq_false this]
            rfl
          · rw [decide_eq_false q]
            simp
        rw [hh, cw_rows I (fun x => ya_X3_isTied A x (sg A d p)) (fun x hx => ?_)]
        · have : ∀ n, n ≤ 3 → cwR A P n = cwR A (fun x => ya_X3_isTied A x (sg A d p)) n := fun n => by
            induction n with
            | zero => exact fun _ => rfl
            | succ n ih =>
              intro hn
              show _ + _ = _ + _
              rw [ih (by omega)]
              congr 1
              exact ya_cw_congr fun j hj => e _ (sg_ok I (by omega) hj).1
          exact this 3 (by omega)
        · intro hn
          unfold ya_X3_isTied at hx
          rw [show ya_sg A 11 x = -1 from hn] at hx
          rw [show ya_tg A 7 (-1) (-1) = -1 by unfold ya_tg; rw [ya_isT_m]; rfl] at hx
          exact absurd hx (by simp)
      have k1 := h_keys I h hv
      have k2 := h_second I h hv
      have k3 := h_tied I h hv
      rw [← hc] at k3
      rw [hh] at k1 k2
      exact es_eZb (c := true) (ee_iC (ee_eq (ee_cA (x := true) (y := true) (ee_eq (ee_cA (x := true) (y := true) (ee_eq (ee_cL (ee_lM (ee_aR (ee_R rfl) (ee_aI (ee_L rfl) ee_aN)) (ee_cr k1 rfl)) (ee_LL rfl)) (decide_eq_true rfl)) (fun _ => ee_eq (ee_cB (ee_M (ee_aR (ee_R rfl) (ee_aI (ee_L rfl) ee_aN)) (ee_cr k2 rfl)) (ee_L rfl)) (decide_eq_true rfl))) rfl) (fun _ => ee_eq (ee_cB (ee_M (ee_aR (ee_R rfl) (ee_aI (ee_L rfl) ee_aN)) (ee_cr k3 rfl)) (ee_L rfl)) (decide_eq_true rfl))) rfl))
end LA17
