section LA57
variable {A B M F σ τ : sy_Mem} {t u n v d w : Nat} {x y kd : Int32} {env : List Value} {k : List Value → sy_MM (Option Value)}
abbrev eAc (x y : Int32) : List Value := [.ref 0, .ref 44, .ref 45, .ref 46, .ref 47, .ref 48, .ref 49, .ref 50, .ref 51, .ref 52, .int x, .int y]
abbrev eA2 (x y kd : Int32) (w : Nat) : List Value := eAc x y ++ [.int kd, .int (nI w)]
def LOp : sy_S := (sy_sB 14 (sy_sQ (sy_sSI 14 (sy_iQ (sy_ceq (sy_iM (sy_cr 2 sf_L_low) (sy_aI (sy_iL 11) (sy_aI (sy_iK 3) sy_aN))) (sy_iK 0)) (sy_iM (sy_cr 2 sf_L_low) (sy_aI (sy_iShr (sy_iL 11) (sy_iK 2)) (sy_aI (sy_iK 4096) sy_aN))) (sy_iK 4095))) (sy_sQ (sy_sW (sy_rL 8) (sy_iL 13) (sy_iAdd (sy_iDv true (sy_iM (sy_cr 2 sf_L_low) (sy_aI (sy_iShr (sy_iL 10) (sy_iK 7)) (sy_aI (sy_iK 4) sy_aN))) (sy_iK 3)) (sy_iMul (sy_iK 4) (sy_iL 14)))) (sy_eZ (sy_iC (sy_cA (sy_cA (sy_cA (sy_cA (sy_cA (sy_cA (sy_cA (sy_cA (sy_cA (sy_cA (sy_ceq (sy_iM (sy_cr 4 sf_L_open) (sy_aR (sy_rL 0) (sy_aI (sy_iL 13) (sy_aI (sy_iDv false (sy_iA 0 (sy_rL 8) (sy_iL 13)) (sy_iK 4)) (sy_aI (sy_iL 14) sy_aN))))) (sy_iK 0)) (sy_ceq (sy_iM (sy_cr 2 sf_L_place) (sy_aR (sy_rL 0) (sy_aI (sy_iL 13) sy_aN))) (sy_iK (-1)))) (sy_ceq (sy_iM (sy_cr 2 sf_L_ahead) (sy_aR (sy_rL 0) (sy_aI (sy_iL 13) sy_aN))) (sy_iK 0))) (sy_ceq (sy_iM (sy_cr 2 sf_L_parent) (sy_aR (sy_rL 0) (sy_aI (sy_iL 13) sy_aN))) (sy_iK (-1)))) (sy_ceq (sy_iM (sy_cr 2 sf_L_holds) (sy_aR (sy_rL 0) (sy_aI (sy_iL 13) sy_aN))) (sy_iK 0))) (sy_cLe (sy_lM (sy_cr 2 sf_L_keys) (sy_aR (sy_rL 0) (sy_aI (sy_iL 13) sy_aN))) (sy_lK (-1)))) (sy_ceq (sy_iM (sy_cr 2 sf_L_second) (sy_aR (sy_rL 0) (sy_aI (sy_iL 13) sy_aN))) (sy_iK (-1)))) (sy_ceq (sy_iM (sy_cr 2 sf_L_tied) (sy_aR (sy_rL 0) (sy_aI (sy_iL 13) sy_aN))) (sy_iK 0))) (sy_ceq (sy_iM (sy_cr 4 sf_L_open) (sy_aR (sy_rL 0) (sy_aI (sy_iK 4) (sy_aI (sy_iK 0) (sy_aI (sy_iK 4096) sy_aN))))) (sy_iK (-1000001)))) (sy_ceq (sy_iM (sy_cr 4 sf_L_open) (sy_aR (sy_rL 0) (sy_aI (sy_iK 0) (sy_aI (sy_iK 3) (sy_aI (sy_iK 0) sy_aN))))) (sy_iK (-1000001)))) (sy_ceq (sy_iM (sy_cr 4 sf_L_open) (sy_aR (sy_rL 0) (sy_aI (sy_iL 13) (sy_aI (sy_iK 0) (sy_aI (sy_iK 4096) sy_aN))))) (sy_iK (-1000002)))))))))
def LGt : sy_S := (sy_eZ (sy_iC (sy_cA (sy_cA (sy_cA (sy_cI (sy_iM (sy_cr 9 sf_L_lists) (sy_aR (sy_rL 0) (sy_aR (sy_rL 1) (sy_aR (sy_rL 6) (sy_aR (sy_rL 7) (sy_aR (sy_rL 9) (sy_aI (sy_iA 0 (sy_rL 8) (sy_iL 13)) (sy_aI (sy_iShr (sy_iL 10) (sy_iK 7)) (sy_aI (sy_iL 11) (sy_aI (sy_iK 0) sy_aN))))))))))) (sy_cI (sy_iM (sy_cr 13 sf_L_gets) (sy_aR (sy_rL 0) (sy_aR (sy_rL 1) (sy_aR (sy_rL 2) (sy_aR (sy_rL 3) (sy_aR (sy_rL 4) (sy_aR (sy_rL 5) (sy_aR (sy_rL 6) (sy_aR (sy_rL 7) (sy_aR (sy_rL 8) (sy_aR (sy_rL 9) (sy_aI (sy_iL 13) (sy_aI (sy_iM (sy_cr 2 sf_L_low) (sy_aI (sy_iShr (sy_iL 10) (sy_iK 9)) (sy_aI (sy_iK 3) sy_aN))) (sy_aI (sy_iC (sy_ceq (sy_iM (sy_cr 2 sf_L_low) (sy_aI (sy_iShr (sy_iL 10) (sy_iK 11)) (sy_aI (sy_iK 2) sy_aN))) (sy_iK 0))) sy_aN)))))))))))))))) (sy_ceq (sy_iM (sy_cr 4 sf_L_get) (sy_aR (sy_rL 0) (sy_aI (sy_iK 4) (sy_aI (sy_iK 3) (sy_aI (sy_iK 1) sy_aN))))) (sy_iK (-1000001)))) (sy_ceq (sy_iM (sy_cr 4 sf_L_get) (sy_aR (sy_rL 0) (sy_aI (sy_iK 0) (sy_aI (sy_iK 3) (sy_aI (sy_iK 1) sy_aN))))) (sy_iK (-1000002))))))
theorem act_open (L : LI t 7 σ) (hw : w < 4) : ∃ τ, LOp (eA2 x y kd w) k σ = rOK τ ∧ LI t 7 τ := by
  obtain ⟨I, T, ⟨s1, s2, s3, s4, s5, s6, s7⟩, h19, g1, V, g0⟩ := L
  have hvw := yv_lt hw
  obtain ⟨s, hs, hev⟩ : ∃ s : Nat, s < 4096 ∧ (sy_iQ (sy_ceq (sy_iM (sy_cr 2 sf_L_low) (sy_aI (sy_iL 11) (sy_aI (sy_iK 3) sy_aN))) (sy_iK 0)) (sy_iM (sy_cr 2 sf_L_low) (sy_aI (sy_iShr (sy_iL 11) (sy_iK 2)) (sy_aI (sy_iK 4096) sy_aN))) (sy_iK 4095)) (eA2 x y kd w) σ = some (.inl (nI s), σ) := by
    obtain ⟨a, ha, ca⟩ := c_low (σ := σ) (env := eA2 x y kd w) (e := sy_iL 11) (g := sy_iK 3) (n := 3) (by omega) (by omega) (ee_L rfl) ee_K
    obtain ⟨b, hb, cb⟩ := c_low (σ := σ) (env := eA2 x y kd w) (e := sy_iShr (sy_iL 11) (sy_iK 2)) (g := sy_iK 4096) (n := 4096) (by omega) (by omega) (ee_B (ee_L rfl) ee_K) ee_K
    cases hz : decide (nI a = 0) with
    | true => exact ⟨b, hb, ee_iQ1 (ee_eq (ee_cB ca ee_K) hz) cb⟩
    | false => exact ⟨4095, by omega, ee_iQ2 (ee_eq (ee_cB ca ee_K) hz) ee_K⟩
  obtain ⟨a, ha, ca⟩ := c_low (σ := σ) (env := eA2 x y kd w ++ [.int (nI s)]) (e := sy_iShr (sy_iL 10) (sy_iK 7)) (g := sy_iK 4) (n := 4) (by omega) (by omega) (ee_B (ee_L rfl) ee_K) ee_K
  obtain ⟨db, hdb⟩ : ∃ db, db = a / 3 := ⟨_, rfl⟩
  have hdb2 : db < 2 := by omega
  obtain ⟨σ1, h1⟩ : ∃ σ1, σ1 = sy_up σ 51 w (nI (db + 4 * s)) := ⟨_, rfl⟩
  have k1 : ∀ k, k ≠ 51 → σ1 k = σ k := fun k hk => by rw [h1, up_ne hk]
  have I1 : yn_I t σ1 := by
    obtain ⟨L, hL⟩ := CP_mg (A := σ) (σ := σ1) (fun k hk => k1 k (by omega))
    rw [hL]
    exact yn_I_mg I
  have e51 : σ1 51 w = nI (db + 4 * s) := by rw [h1, up_at, if_pos rfl]
  obtain ⟨F, hF⟩ : ∃ F, F = ya_reopen σ1 w (nI db) (nI s) := ⟨_, rfl⟩
  have ho := h_open (σ := σ1) (v := w) (d := db) (s := s) hw (by omega) hs
  rw [← hF] at ho
  have IF : yn_I t F := by
    rw [hF]
    exact yn_reopen I1 hw (by rw [nI_toInt (by omega)]; omega) (by rw [nI_toInt (by omega)]; omega)
  have kF : ∀ k, k ≠ sy_vw w → F k = σ1 k := fun k hk => by
    rw [hF]
    exact ya_reopen_ne hk
  obtain ⟨f0, f1, f2, f3, f4, f5, f6⟩ := ya_reopen_at (σ := σ1) (v := w) (d := nI db) (s := nI s)
  rw [← hF] at f0 f1 f2 f3 f4 f5 f6
  have hh : ya_here F w = -1 := by
    unfold ya_here
    rw [f3]
    rfl
  have hca : ya_X5_countAhead F w = 0 := by
    unfold ya_X5_countAhead
    rw [f4, f2]
    rfl
  have htd : ya_cw (fun i => ya_X3_isTied F (nI i) (ya_here F w)) 60 = 0 := by
    rw [hh]
    refine ya_cw_0 (fun i _ => ?_)
    unfold ya_X3_isTied
    rw [show ya_sg F 11 (-1) = -1 from rfl]
    cases decide (ya_tg F 7 (-1) (ya_sg F 11 (nI i)) = -1) <;> rfl
  have hv51 : ∀ {ρ : sy_Mem} (env : List Value), ρ 51 = σ1 51 → env[8]? = some (.ref 51) → env[13]? = some (.int (nI w)) → sy_iA 0 (sy_rL 8) (sy_iL 13) env ρ = some (.inl (nI (db + 4 * s)), ρ) := fun {ρ} env h0 h1 h2 => by
    rw [← e51, ← h0]
    exact ee_An (j := w) (ee_R h1) (ee_L h2) (show w < 4 from hw) (by decide)
  refine ⟨F, ?_, IF, add_TT T (fun k hk => by rw [kF k (by omega), k1 k (by omega)]) (by rw [kF 44 (by omega), k1 44 (by omega)]), ⟨?_, ?_, s3, fun i hi => ?_, fun h => ?_, fun h => ?_, fun h => absurd h (by omega)⟩, ?_, ?_, fun u hu => ?_, fun i h1 h2 => ?_⟩
  · unfold LOp
    refine es_B (es_Q (es_SI hev (es_Q (es_Wn (j := w) (v := nI (db + 4 * s)) (ee_R rfl) (ee_L rfl) (ee_eq (ee_B (ee_Dv ca ee_K (by decide)) (ee_B ee_K (ee_L rfl))) ?_) (show w < 4 from hw) (by decide) ?_))))
    · show (if true = true then nI a / nI 3 else nI a - nI a / nI 3 * nI 3) + nI 4 * nI s = nI (db + 4 * s)
      rw [if_pos rfl, ndiv (by omega) (by omega), nmul, nadd, hdb]
    · rw [← h1]
      have hmod : sy_iDv false (sy_iA 0 (sy_rL 8) (sy_iL 13)) (sy_iK 4) (eA2 x y kd w ++ [.int (nI s)]) σ1 = some (.inl (nI db), σ1) := ee_eq (ee_Dv (hv51 _ rfl rfl rfl) ee_K (by decide)) (by
        show nI (db + 4 * s) - nI (db + 4 * s) / nI 4 * nI 4 = nI db
        rw [nmod (by omega) (by omega)]
        exact congrArg nI (by omega))
      refine es_eZb (c := true) (ee_iC (ee_cAt (ee_cAt (ee_cAt (ee_cAt (ee_cAt (ee_cAt (ee_cAt (ee_cAt (ee_cAt (ee_cAt (ee_eq (ee_cB (ee_M (ee_aR (ee_R rfl) (ee_aI (ee_L rfl) (ee_aI hmod (ee_aI (ee_L rfl) ee_aN)))) (ee_cr ho rfl)) ee_K) (decide_eq_true rfl)) (ee_eq (ee_cB (c_place CP_self hw (ee_R rfl) (ee_L rfl)) ee_K) ?_)) (ee_eq (ee_cB (c_ahead IF CP_self hw (ee_R rfl) (ee_L rfl)) ee_K) ?_)) (ee_eq (ee_cB (c_parent CP_self hw (ee_R rfl) (ee_L rfl)) ee_K) ?_)) (ee_eq (ee_cB (c_holds CP_self hw (ee_R rfl) (ee_L rfl)) ee_K) ?_)) (ee_eq (ee_cL (ee_lM (ee_aR (ee_R rfl) (ee_aI (ee_L rfl) ee_aN)) (ee_cr (h_keys IF CP_self hw) rfl)) ee_lK) ?_)) (ee_eq (ee_cB (ee_M (ee_aR (ee_R rfl) (ee_aI (ee_L rfl) ee_aN)) (ee_cr (h_second IF CP_self hw) rfl)) ee_K) ?_)) (ee_eq (ee_cB (ee_M (ee_aR (ee_R rfl) (ee_aI (ee_L rfl) ee_aN)) (ee_cr (h_tied IF CP_self hw) rfl)) ee_K) ?_)) (ee_eq (ee_cB (ee_M (ee_aR (ee_R rfl) (ee_aI ee_K (ee_aI ee_K (ee_aI ee_K ee_aN)))) (ee_cr (h_openE (E := 1) (Or.inl ⟨rfl, rfl⟩)) rfl)) ee_K) (decide_eq_true xE1))) (ee_eq (ee_cB (ee_M (ee_aR (ee_R rfl) (ee_aI ee_K (ee_aI ee_K (ee_aI ee_K ee_aN)))) (ee_cr (h_openE (E := 1) (Or.inl ⟨rfl, rfl⟩)) rfl)) ee_K) (decide_eq_true xE1))) (ee_eq (ee_cB (ee_M (ee_aR (ee_R rfl) (ee_aI (ee_L rfl) (ee_aI ee_K (ee_aI ee_K ee_aN)))) (ee_cr (h_openE (E := 2) (Or.inr ⟨rfl, by rw [(vw4 hw).1]; rfl, rfl⟩)) rfl)) ee_K) (decide_eq_true xE2))))
      · rw [hh]; rfl
      · rw [hca]; rfl
      · rw [f5]; rfl
      · rw [f6]; rfl
      · rw [hh]; rfl
      · rw [hh]; rfl
      · rw [htd]; rfl
  · rw [kF 1 (by omega), k1 1 (by omega)]; exact s1
  · rw [kF 52 (by omega), k1 52 (by omega)]; exact s2
  · rw [kF 8 (by omega), kF 9 (by omega), k1 8 (by omega), k1 9 (by omega)]; exact s4 i hi
  · rw [kF 2 (by omega), kF 3 (by omega), k1 2 (by omega), k1 3 (by omega)]; exact s5 h
  · rw [kF 2 (by omega), kF 3 (by omega), k1 2 (by omega), k1 3 (by omega)]; exact s6 h
  · rw [kF 19 (by omega), k1 19 (by omega)]; exact h19
  · rw [kF 52 (by omega), k1 52 (by omega)]; exact g1
  · rw [kF 51 (by omega)]
    by_cases q : u = w
    · rw [q, e51]
      unfold vn
      rw [f0, f1, nI_toInt (by omega), nI_toInt (by omega)]
      exact congrArg nI (by omega)
    · have hne : sy_vw u ≠ sy_vw w := by unfold sy_vw; omega
      have hu2 := yv_lt hu
      rw [h1, up_at, if_neg q, V u hu]
      unfold vn
      rw [kF _ hne, k1 _ (by omega)]
  · rw [kF 58 (by omega), k1 58 (by omega)]; exact g0 i h1 h2
-- what a get leaves of a view
theorem one_v {n : Nat} {x : Int32} {h q : Bool} {i : Nat} (hv : v < 4) (hi : i ≠ 6) : ya_one σ v n x h q (sy_vw v) i = σ (sy_vw v) i := by
  have hb := yv_lt hv
  unfold ya_one ya_hold
  cases h with
  | true =>
    rw [if_pos rfl, yu_an hi, yu_ne (by omega), yu_ne (by omega), ya_fillN_ne _ _ _ (by omega)]
  | false =>
    rw [if_neg (by decide), ya_fillN_ne _ _ _ (by omega)]
theorem dl_v {x : Int32} {h : Bool} {i : Nat} (hv : v < 4) (hi : i ≠ 6) : ∀ m, ya_dl σ v x h m (sy_vw v) i = σ (sy_vw v) i
  | 0 => rfl
  | m + 1 => by
    unfold ya_dl
    split
    · rw [one_v hv hi, dl_v hv hi m]
    · exact dl_v hv hi m
theorem deliver_v {x : Int32} {h : Bool} {i : Nat} (hv : v < 4) (hi : i ≠ 6) : ya_deliver σ v x h (sy_vw v) i = σ (sy_vw v) i := by
  unfold ya_deliver
  rw [one_v hv hi, dl_v hv hi]
theorem get_v {how : Int32} {h : Bool} (hv : v < 4) (hw : w < 4) {i : Nat} (hi : i < 2) : ya_get σ v how h (sy_vw w) i = σ (sy_vw w) i := by
  have hb := yv_lt hv
  have hbw := yv_lt hw
  have hr : ∀ k, k ≠ sy_vw v → sy_up σ (sy_vw v) 6 0 k = σ k := fun k hk => yu_ne hk
  have hQ : gQ σ v (sy_vw w) i = σ (sy_vw w) i := by
    unfold gQ
    rw [yu_ne (by omega)]
    by_cases e : sy_vw w = sy_vw v
    · rw [e]; exact yu_an (by omega)
    · rw [yu_ne e]
  have hE : gE σ v (sy_vw w) i = σ (sy_vw w) i := by
    unfold gE
    rw [yu_ne (by omega)]
    by_cases e : sy_vw w = sy_vw v
    · rw [e, ya_stand_at, if_neg (by omega), if_neg (by omega), if_neg (by omega)]
      exact yu_an (by omega)
    · rw [ya_stand_ne e, yu_ne e]
  have hG : ∀ z, gG σ v how h z (sy_vw w) i = σ (sy_vw w) i := fun z => by
    unfold gG ya_got
    rw [yu_ne (by omega)]
    by_cases e : sy_vw w = sy_vw v
    · rw [e, ya_stand_at, if_neg (by omega), if_neg (by omega), if_neg (by omega)]
      cases decide (how = 2) with
      | true =>
        show ya_deliver (sy_up σ (sy_vw v) 6 0) v z h (sy_vw v) i = _
        rw [deliver_v hv (by omega), yu_an (by omega)]
      | false =>
        show sy_up (ya_deliver (sy_up σ (sy_vw v) 6 0) v z h) (sy_vw v) 5 _ (sy_vw v) i = _
        rw [yu_an (by omega), deliver_v hv (by omega), yu_an (by omega)]
    · have e2 : sy_vw w ≠ sy_vw v + 1 ∧ sy_vw w ≠ sy_vw v + 2 := by unfold sy_vw; omega
      rw [ya_stand_ne e]
      cases decide (how = 2) with
      | true =>
        show ya_deliver (sy_up σ (sy_vw v) 6 0) v z h (sy_vw w) i = _
        rw [ya_deliver_ne _ (by omega) e e2.1 e2.2, yu_ne e]
      | false =>
        show sy_up (ya_deliver (sy_up σ (sy_vw v) 6 0) v z h) (sy_vw v) 5 _ (sy_vw w) i = _
        rw [yu_ne e, ya_deliver_ne _ (by omega) e e2.1 e2.2, yu_ne e]
  obtain ⟨g1, g2, g3, g4, g5⟩ := get_is (σ := σ) hv how h
  cases hL : ya_X5_isListOrdered σ v with
  | false =>
    rw [(g1 hL).2]
    exact hQ
  | true =>
    by_cases h2 : how = 2 ∧ σ (sy_vw v) 5 = -1
    · rw [(g2 hL h2).2]
      exact hQ
    · by_cases h3 : ya_finds σ v how = -1
      · by_cases h4 : how ≠ 1 ∨ 0 < σ 19 0
        · rw [(g3 hL h2 h3 h4).2]
          exact hQ
        · rw [(g4 hL h2 h3 h4).2]
          exact hE
      · rw [(g5 hL h2 h3).2]
        exact hG _
/-- between the reading of the rows and a get's end -/
theorem get_AF (g0 : gd σ) (hL : LF σ τ) (hvs : ∀ k, 32 ≤ k → k ≤ 43 → τ k = σ k) (hv : v < 4) {how : Int32} {b : Bool} : AF σ (sy_up (ya_get τ v how b) 52 1 0) := by
  obtain ⟨l1, l2⟩ := hL
  refine ⟨fun k hk => ?_, ?_, fun w hw i hi => ?_, ?_, ?_, fun j h1 h2 => ?_⟩
  · rw [up_ne (by omega), get_ne hv (by omega)]
    exact l1 k (by omega)
  · rw [up_at, if_neg (by decide), get_ne hv (by omega)]
    exact l2
  · have hb := yv_lt hw
    rw [up_ne (by omega), get_v hv hw hi, hvs _ (by omega) (by omega)]
  · rw [up_at, if_pos rfl]
  · rw [up_ne (by decide)]
    exact get_cell
  · rw [up_ne (by decide), get_ne hv (by omega), l1 58 (by omega)]
    exact g0 j h1 h2
theorem act_get (L : LI t 7 σ) (R : RW σ σ) (hw : w < 4) : ∃ τ, LGt (eA2 x y kd w) k σ = rOK τ ∧ LI t 7 τ := by
  have L0 := L
  obtain ⟨I, T, ⟨s1, s2, s3, s4, s5, s6, s7⟩, h19, g1, V, g0⟩ := L
  obtain ⟨vw, hvw⟩ : ∃ z, z = σ 51 w := ⟨_, rfl⟩
  obtain ⟨τ1, c1, LL1⟩ := t_lists I T s1 s2 h19 g1 vw (x >>> (7 &&& 31)) y false
  obtain ⟨I1, Q1, F1⟩ := LL1
  have hb1 : yc_base σ τ1 := fun k hk => F1.1 k (by omega)
  have T1 : TT τ1 τ1 := TT_b hb1 (F1.1 44 (by omega)) T
  have R1 : RW τ1 τ1 := RW_b hb1 (fun k h1 h2 => F1.1 k (by omega)) R
  have V1 : τ1 51 w = nI (vn τ1 w) := by
    have hb := yv_lt hw
    rw [F1.1 51 (by omega), V w hw]
    unfold vn
    rw [F1.1 _ (by omega)]
  obtain ⟨way, hway, cway⟩ := c_low (σ := τ1) (env := eA2 x y kd w) (e := sy_iShr (sy_iL 10) (sy_iK 9)) (g := sy_iK 3) (n := 3) (by omega) (by omega) (ee_B (ee_L rfl) ee_K) ee_K
  obtain ⟨z, hz, cz⟩ := c_low (σ := τ1) (env := eA2 x y kd w) (e := sy_iShr (sy_iL 10) (sy_iK 11)) (g := sy_iK 2) (n := 2) (by omega) (by omega) (ee_B (ee_L rfl) ee_K) ee_K
  have hg := t_gets I1 T1 R1 Q1 (way := way) (b := decide (nI z = 0)) hw V1 hway
  obtain ⟨F, hF⟩ : ∃ F, F = sy_up (ya_get τ1 w (nI way) (decide (nI z = 0))) 52 1 0 := ⟨_, rfl⟩
  rw [← hF] at hg
  have IF : yn_I t F := by
    obtain ⟨L, hL⟩ := CP_mg (A := ya_get τ1 w (nI way) (decide (nI z = 0))) (σ := F) (fun k hk => by rw [hF]; exact up_ne (by omega))
    rw [hL]
    exact yn_I_mg (yn_get I1 hw _ _)
  have AFF : AF σ F := by
    rw [hF]
    exact get_AF g0 F1 (fun k h1 h2 => F1.1 k (by omega)) hw
  refine ⟨F, ?_, LI_AF L0 IF AFF⟩
  unfold LGt
  have hv51 : sy_iA 0 (sy_rL 8) (sy_iL 13) (eA2 x y kd w) σ = some (.inl vw, σ) := by
    rw [hvw]
    exact ee_An (j := w) (ee_R rfl) (ee_L rfl) (show w < 4 from hw) (by decide)
  exact es_eZb (c := true) (ee_iC (ee_cAt (ee_cAt (ee_cAt (ee_cb (c := true) (ee_M (ee_aR (ee_R rfl) (ee_aR (ee_R rfl) (ee_aR (ee_R rfl) (ee_aR (ee_R rfl) (ee_aR (ee_R rfl) (ee_aI hv51 (ee_aI (ee_B (ee_L rfl) ee_K) (ee_aI (ee_L rfl) (ee_aI ee_K ee_aN))))))))) (ee_cr c1 rfl))) (ee_cb (c := true) (ee_M (ee_aR (ee_R rfl) (ee_aR (ee_R rfl) (ee_aR (ee_R rfl) (ee_aR (ee_R rfl) (ee_aR (ee_R rfl) (ee_aR (ee_R rfl) (ee_aR (ee_R rfl) (ee_aR (ee_R rfl) (ee_aR (ee_R rfl) (ee_aR (ee_R rfl) (ee_aI (ee_L rfl) (ee_aI cway (ee_aI (ee_iC (ee_cB cz ee_K)) ee_aN))))))))))))) (ee_cr hg rfl)))) (ee_eq (ee_cB (ee_M (ee_aR (ee_R rfl) (ee_aI ee_K (ee_aI ee_K (ee_aI ee_K ee_aN)))) (ee_cr (h_getE1 IF rfl true) rfl)) ee_K) (decide_eq_true rfl))) (ee_eq (ee_cB (ee_M (ee_aR (ee_R rfl) (ee_aI ee_K (ee_aI ee_K (ee_aI ee_K ee_aN)))) (ee_cr (h_getE2 IF rfl rfl true) rfl)) ee_K) (decide_eq_true rfl))))
end LA57
