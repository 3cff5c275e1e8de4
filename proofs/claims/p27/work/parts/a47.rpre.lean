section LA47
variable {A B σ τ : sy_Mem} {t v d j : Nat} {env : List Value}
theorem yn_put (I : yn_I t σ) {i : Nat} {x : Int32} (hx : 0 ≤ x.toInt ∧ x.toInt ≤ 999) : yn_I t (sy_up σ 31 i x) := by
  have hk : ∀ k, k ≠ 31 → sy_up σ 31 i x k = σ k := fun k h => yu_ne h
  obtain ⟨a1, a2, a3, a4, a5⟩ := I.2.2.2.2.2.2
  refine yn_I_n I (fun k h => hk k (by omega)) (fun k h1 h2 => hk k (by omega)) ⟨?_, ?_, ?_, ?_, ?_⟩
  · rw [hk 19 (by decide)]; exact a1
  · have e1 : ya_isT (sy_up σ 31 i x) = ya_isT σ := funext fun s => ya_isT_c (hk 1 (by decide)) s
    rw [hk 19 (by decide), hk 20 (by decide), hk 21 (by decide), hk 22 (by decide), hk 23 (by decide), hk 24 (by decide), e1]
    exact a2
  · intro k hk2
    rw [up_at]
    by_cases e : k = i
    · rw [if_pos e]; exact hx
    · rw [if_neg e]; exact a3 k hk2
  · rw [hk 27 (by decide)]; exact a4
  · rw [hk 27 (by decide)]; exact a5
theorem h_put {s f x : Nat} (hs : s < 4) (hf : f < 3) (hx : x < 1000) : sf_L_put [.ref 0, .int (nI s), .int (nI f), .int (nI x)] σ = some (.inl (some (.int (ya_slot σ (nI s) (nI f)))), sy_up σ 31 (3 * s + f) (nI x)) := by
  have hc := yt_X5_put σ (nI s) (nI f) (nI x)
  have h2 : (decide ((0 : Int32) ≤ nI x) && decide (nI x < 1000)) = true := by
    rw [ge0 (by omega), show (1000 : Int32) = nI 1000 from rfl, Bool.true_and]
    refine decide_eq_true ?_
    rw [Int32.lt_iff_toInt_lt, nI_toInt (by omega), nI_toInt (by omega)]
    omega
  rw [slot_ok hs hf, if_pos rfl, h2, if_pos rfl, if_pos rfl, nI_clamp (by omega), nI_clamp (by omega)] at hc
  exact ke_meth (kh_I (ee_aR (ee_R rfl) (ee_aI (ee_L rfl) (ee_aI (ee_L rfl) (ee_aI (ee_L rfl) ee_aN)))) (ee_cv hc rfl)) (Nat.le_of_ble_eq_true rfl)
/-- a drawn number is put -/
theorem c_put (I : yn_I t σ) {f x : Nat} (hf : f < 3) (hx : x < 1000) {r : sy_RE} {a b e : sy_IE} (hr : r env σ = some (.inl 0, σ)) (ha : a env σ = some (.inl (nI 0), σ)) (hb : b env σ = some (.inl (nI f), σ)) (he : e env σ = some (.inl (nI x), σ)) :
    sy_cge (sy_iM (sy_cr 4 sf_L_put) (sy_aR r (sy_aI a (sy_aI b (sy_aI e sy_aN))))) (sy_iK 0) env σ = some (.inl true, sy_up σ 31 (3 * 0 + f) (nI x)) ∧ yn_I t (sy_up σ 31 (3 * 0 + f) (nI x)) ∧ ∀ k, k ≠ 31 → sy_up σ 31 (3 * 0 + f) (nI x) k = σ k := by
  refine ⟨ee_eq (ee_cB (ee_M (ee_aR hr (ee_aI ha (ee_aI hb (ee_aI he ee_aN)))) (ee_cr (h_put (s := 0) (by omega) hf hx) rfl)) ee_K) ?_, yn_put I (by rw [nI_toInt (by omega)]; omega), fun k hk => yu_ne hk⟩
  refine decide_eq_true ?_
  rw [Int32.le_iff_toInt_le]
  exact (ya_slot_rng I _ _).1
theorem set_RW (I : yn_I t A) (Rw : RW A σ) (hd : d < 3) (hj : j < cn A d) (hB : ∀ k, k ≠ 14 → B k = A k) (hN : ∀ s, yl A s → s ≠ sg A d j → ∀ f : Nat, f < 3 → ya_N B s (nI f) = ya_N A s (nI f)) : RW B (sy_upL σ (45 + d) j (pL (sk B (sg A d j)))) := by
  have eS : ∀ d' p : Nat, sg B d' p = sg A d' p := fun d' p => by
    show ya_at B (nI d') (nI p) = ya_at A (nI d') (nI p)
    unfold ya_at
    rw [hB 15 (by omega), hB 16 (by omega)]
  intro d' hd'
  have ecn : cn B d' = cn A d' := by
    show (B 16 d').toInt.toNat = _
    rw [hB 16 (by omega)]
  obtain ⟨r1, r2⟩ := Rw d' hd'
  refine ⟨by rw [ecn, upL_ne (by omega)]; exact r1, fun p hp => ?_⟩
  rw [ecn] at hp
  rw [eS, lg_up]
  by_cases e : 45 + d' = 45 + d ∧ p = j
  · rw [if_pos e, show d' = d by omega, e.2]
  · rw [if_neg e, r2 p hp]
    obtain ⟨a1, a2, a3⟩ := sg_ok I hd' hp
    have hne : sg A d' p ≠ sg A d j := fun q => by
      obtain ⟨b1, b2, b3⟩ := sg_ok I hd hj
      rw [q, b2] at a2
      have h1 := congrArg Int32.toInt a2
      rw [nI_toInt (by omega), nI_toInt (by omega)] at h1
      have hdd : d' = d := by omega
      subst hdd
      exact e ⟨rfl, sg_inj I hd hp hj q⟩
    have e0 : ya_N B (sg A d' p) 0 = ya_N A (sg A d' p) 0 := hN _ a1 hne 0 (by omega)
    have e1 : ya_N B (sg A d' p) 1 = ya_N A (sg A d' p) 1 := hN _ a1 hne 1 (by omega)
    have e2 : ya_N B (sg A d' p) 2 = ya_N A (sg A d' p) 2 := hN _ a1 hne 2 (by omega)
    have eT : yT B (sg A d' p) = yT A (sg A d' p) := ya_sg_c (hB 11 (by omega)) _
    unfold sk
    rw [eT, e0, e1, e2]
abbrev eRp (v : Nat) (y : Int32) : List Value := [.ref 0, .ref 44, .ref 45, .ref 46, .ref 47, .ref 48, .ref 51, .int (nI v), .int y]
abbrev eR2 (v : Nat) (y : Int32) (d j : Nat) (ty w : Int32) : List Value := eRp v y ++ [.int (nI d), .ref (45 + d), .int (nI j), .int 1, .int ty, .int w]
def LRp : sy_S := (sy_sQ (sy_sSI 9 (sy_iDv false (sy_iA 0 (sy_rL 6) (sy_iL 7)) (sy_iK 4))) (sy_sQ (sy_sSR 10 (sy_rM (sy_cr 4 sf_L_row) (sy_aI (sy_iL 9) (sy_aR (sy_rL 2) (sy_aR (sy_rL 3) (sy_aR (sy_rL 4) sy_aN)))))) (sy_sQ (sy_sSI 11 (sy_iM (sy_cr 2 sf_L_place) (sy_aR (sy_rL 0) (sy_aI (sy_iL 7) sy_aN)))) (sy_sQ (sy_sSI 12 (sy_iC (sy_cA (sy_cA (sy_cge (sy_iM (sy_cr 4 sf_L_put) (sy_aR (sy_rL 0) (sy_aI (sy_iK 0) (sy_aI (sy_iK 1) (sy_aI (sy_iM (sy_cr 2 sf_L_low) (sy_aI (sy_iL 8) (sy_aI (sy_iK 9) sy_aN))) sy_aN))))) (sy_iK 0)) (sy_cge (sy_iM (sy_cr 4 sf_L_put) (sy_aR (sy_rL 0) (sy_aI (sy_iK 0) (sy_aI (sy_iK 2) (sy_aI (sy_iM (sy_cr 2 sf_L_low) (sy_aI (sy_iShr (sy_iL 8) (sy_iK 4)) (sy_aI (sy_iK 9) sy_aN))) sy_aN))))) (sy_iK 0))) (sy_cO (sy_cgt (sy_iM (sy_cr 2 sf_L_low) (sy_aI (sy_iShr (sy_iL 8) (sy_iK 8)) (sy_aI (sy_iK 4) sy_aN))) (sy_iK 0)) (sy_cge (sy_iM (sy_cr 4 sf_L_put) (sy_aR (sy_rL 0) (sy_aI (sy_iK 0) (sy_aI (sy_iK 0) (sy_aI (sy_iM (sy_cr 2 sf_L_low) (sy_aI (sy_iShr (sy_iL 8) (sy_iK 10)) (sy_aI (sy_iK 9) sy_aN))) sy_aN))))) (sy_iK 0)))))) (sy_sQ (sy_sSI 13 (sy_iM (sy_cr 1 sf_L_typeOf) (sy_aL (sy_lA (sy_rL 10) (sy_iL 11)) sy_aN))) (sy_sSI 14 (sy_iM (sy_cr 3 sf_L_area) (sy_aR (sy_rL 0) (sy_aI (sy_iK 0) (sy_aI (sy_iK 2) sy_aN))))))))))
theorem rep_pre (I : yn_I t σ) (R : RW σ σ) (hv : v < 4) (hd : d < 3) (V : σ 51 v = nI (vn σ v)) (hvd : vn σ v % 4 = d) (hj : j < cn σ d) (hh : ya_here σ v = sg σ d j) (y : Int32) :
    SX LRp (eRp v y) σ (fun e τ => e = eR2 v y d j (yT σ (sg σ d j)) (ya_slot τ (nI 0) (nI 2)) ∧ yn_I t τ ∧ ∀ k, k ≠ 31 → τ k = σ k) := by
  have hvb := (vn_is I hv).1
  have h60 := cn_le I hd
  unfold LRp
  refine sx_SIQ (ee_eq (ee_Dv (ee_eq (ee_An (j := v) (ee_R rfl) (ee_L rfl) (show v < 4 from hv) (by decide)) V) ee_K (by decide)) (show _ = nI d by rw [← hvd]; exact nmod (a := vn σ v) (b := 4) (by omega) (by omega))) ?_
  refine sx_SRQ (ee_rM (ee_aI (ee_L rfl) (ee_aR (ee_R rfl) (ee_aR (ee_R rfl) (ee_aR (ee_R rfl) ee_aN)))) (ee_cr (t_row hd) rfl)) ?_
  refine sx_SIQ (x := nI j) (ee_eq (c_place CP_self hv (ee_R rfl) (ee_L rfl)) (by rw [hh]; exact (sg_ok I hd hj).2.2)) ?_
  -- the numbers
  obtain ⟨τ, hτ, Iτ, Fτ⟩ : ∃ τ, (sy_iC (sy_cA (sy_cA (sy_cge (sy_iM (sy_cr 4 sf_L_put) (sy_aR (sy_rL 0) (sy_aI (sy_iK 0) (sy_aI (sy_iK 1) (sy_aI (sy_iM (sy_cr 2 sf_L_low) (sy_aI (sy_iL 8) (sy_aI (sy_iK 9) sy_aN))) sy_aN))))) (sy_iK 0)) (sy_cge (sy_iM (sy_cr 4 sf_L_put) (sy_aR (sy_rL 0) (sy_aI (sy_iK 0) (sy_aI (sy_iK 2) (sy_aI (sy_iM (sy_cr 2 sf_L_low) (sy_aI (sy_iShr (sy_iL 8) (sy_iK 4)) (sy_aI (sy_iK 9) sy_aN))) sy_aN))))) (sy_iK 0))) (sy_cO (sy_cgt (sy_iM (sy_cr 2 sf_L_low) (sy_aI (sy_iShr (sy_iL 8) (sy_iK 8)) (sy_aI (sy_iK 4) sy_aN))) (sy_iK 0)) (sy_cge (sy_iM (sy_cr 4 sf_L_put) (sy_aR (sy_rL 0) (sy_aI (sy_iK 0) (sy_aI (sy_iK 0) (sy_aI (sy_iM (sy_cr 2 sf_L_low) (sy_aI (sy_iShr (sy_iL 8) (sy_iK 10)) (sy_aI (sy_iK 9) sy_aN))) sy_aN))))) (sy_iK 0))))) (eRp v y ++ [.int (nI d), .ref (45 + d), .int (nI j)]) σ = some (.inl 1, τ) ∧ yn_I t τ ∧ ∀ k, k ≠ 31 → τ k = σ k := by
    obtain ⟨y1, l1, c1⟩ := c_low (σ := σ) (env := eRp v y ++ [.int (nI d), .ref (45 + d), .int (nI j)]) (e := sy_iL 8) (g := sy_iK 9) (x := y) (n := 9) (by omega) (by omega) (ee_L rfl) ee_K
    obtain ⟨p1, I1, F1⟩ := c_put I (f := 1) (x := y1) (env := eRp v y ++ [.int (nI d), .ref (45 + d), .int (nI j)]) (r := sy_rL 0) (a := sy_iK 0) (b := sy_iK 1) (by omega) (by omega) (ee_R rfl) ee_K ee_K c1
    obtain ⟨y2, l2, c2⟩ := c_low (σ := sy_up σ 31 (3 * 0 + 1) (nI y1)) (env := eRp v y ++ [.int (nI d), .ref (45 + d), .int (nI j)]) (e := sy_iShr (sy_iL 8) (sy_iK 4)) (g := sy_iK 9) (n := 9) (by omega) (by omega) (ee_B (ee_L rfl) ee_K) ee_K
    obtain ⟨p2, I2, F2⟩ := c_put I1 (f := 2) (x := y2) (env := eRp v y ++ [.int (nI d), .ref (45 + d), .int (nI j)]) (r := sy_rL 0) (a := sy_iK 0) (b := sy_iK 2) (by omega) (by omega) (ee_R rfl) ee_K ee_K c2
    generalize sy_up (sy_up σ 31 (3 * 0 + 1) (nI y1)) 31 (3 * 0 + 2) (nI y2) = σ2 at p2 I2 F2
    obtain ⟨y3, l3, c3⟩ := c_low (σ := σ2) (env := eRp v y ++ [.int (nI d), .ref (45 + d), .int (nI j)]) (e := sy_iShr (sy_iL 8) (sy_iK 8)) (g := sy_iK 4) (n := 4) (by omega) (by omega) (ee_B (ee_L rfl) ee_K) ee_K
    have hF2 : ∀ k, k ≠ 31 → σ2 k = σ k := fun k hk => (F2 k hk).trans (F1 k hk)
    cases hz : decide ((0 : Int32) < nI y3) with
    | true =>
      exact ⟨σ2, ee_iC (x := true) (ee_cAt (ee_cAt p1 p2) (ee_cOt (ee_eq (ee_cB c3 ee_K) hz))), I2, hF2⟩
    | false =>
      obtain ⟨y4, l4, c4⟩ := c_low (σ := σ2) (env := eRp v y ++ [.int (nI d), .ref (45 + d), .int (nI j)]) (e := sy_iShr (sy_iL 8) (sy_iK 10)) (g := sy_iK 9) (n := 9) (by omega) (by omega) (ee_B (ee_L rfl) ee_K) ee_K
      obtain ⟨p4, I4, F4⟩ := c_put I2 (f := 0) (x := y4) (env := eRp v y ++ [.int (nI d), .ref (45 + d), .int (nI j)]) (r := sy_rL 0) (a := sy_iK 0) (b := sy_iK 0) (by omega) (by omega) (ee_R rfl) ee_K ee_K c4
      exact ⟨_, ee_iC (x := true) (ee_cAt (ee_cAt p1 p2) (ee_cOf (ee_eq (ee_cB c3 ee_K) hz) p4)), I4, fun k hk => (F4 k hk).trans (hF2 k hk)⟩
  have hb : yc_base σ σ := fun _ _ => rfl
  have Rτ : RW σ τ := RW_b hb (fun k h1 h2 => Fτ k (by omega)) R
  refine sx_SIQ hτ ?_
  refine sx_SIQ (ev_t I Rτ hd hj (ee_R rfl) (ee_L rfl)) ?_
  exact sx_SI (c_area CP_self (s := 0) (f := 2) (by omega) (by omega) (ee_R rfl) ee_K ee_K) ⟨rfl, Iτ, Fτ⟩
end LA47
