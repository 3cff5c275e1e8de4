section LA31
variable {A σ : sy_Mem} {t : Nat}
theorem ev_K (I : yn_I t A) (T : TT A σ) {ty : Int32} (h : ya_isT A ty = true) {env : List Value} {e : sy_IE} {r : sy_RE} (hr : r env σ = some (.inl 44, σ)) (he : e env σ = some (.inl ty, σ)) : sy_iDv false (sy_iDv true (sy_iA 0 r e) (sy_iK 64)) (sy_iK 4) env σ = some (.inl (tK A ty), σ) ∧ sy_iDv false (sy_iDv true (sy_iA 0 r e) (sy_iK 256)) (sy_iK 4) env σ = some (.inl (tR A ty), σ) ∧ sy_iDv false (sy_iDv true (sy_iA 0 r e) (sy_iK 131072)) (sy_iK 2) env σ = some (.inl (tC A ty), σ) ∧ sy_iDv false (sy_iDv true (sy_iA 0 r e) (sy_iK 262144)) (sy_iK 4) env σ = some (.inl (tO A ty), σ) := by
  obtain ⟨k1, k2, k3, k4⟩ := t_keys I.1 T h
  have hb : ∀ a b : Nat, 0 < b → b < 5 → tn A ty.toInt.toNat / a % b < 2 ^ 31 := fun a b h1 h2 => by
    have := Nat.mod_lt (tn A ty.toInt.toNat / a) h1
    omega
  exact ⟨ee_eq (t_at I.1 T h hr he (a := 64) (b := 4) (by omega) (by omega)) (ntI (hb _ _ (by omega) (by omega)) k1), ee_eq (t_at I.1 T h hr he (a := 256) (b := 4) (by omega) (by omega)) (ntI (hb _ _ (by omega) (by omega)) k2), ee_eq (t_at I.1 T h hr he (a := 131072) (b := 2) (by omega) (by omega)) (ntI (hb _ _ (by omega) (by omega)) k3), ee_eq (t_at I.1 T h hr he (a := 262144) (b := 4) (by omega) (by omega)) (ntI (hb _ _ (by omega) (by omega)) k4)⟩
/-- nothing, or at a place of the row -/
def inR (A : sy_Mem) (d : Nat) (x : Int32) : Prop := x = -1 ∨ ∃ q, q < cn A d ∧ x = sg A d q ∧ yL A x = nI q
theorem inR_of (I : yn_I t A) {d : Nat} (hd : d < 3) {x : Int32} (h : x = -1 ∨ (yl A x ∧ sD A x = nI d)) : inR A d x := by
  rcases h with h | ⟨h1, h2⟩
  · exact Or.inl h
  · exact Or.inr (sg_of I h1 hd h2)
theorem nI_m1 {q : Nat} (h : q < 1000) : nI q ≠ -1 := nI_nem h
theorem inR_eq (I : yn_I t A) {d : Nat} (hd : d < 3) {x y : Int32} (hx : inR A d x) (hy : inR A d y) : decide (yL A x = yL A y) = decide (x = y) := by
  have h60 := cn_le I hd
  rw [decide_eq_decide]
  refine ⟨fun e => ?_, fun e => by rw [e]⟩
  rcases hx with hx | ⟨q, q1, q2, q3⟩
  · rcases hy with hy | ⟨r, r1, r2, r3⟩
    · rw [hx, hy]
    · rw [hx, yL_m1, r3] at e
      exact absurd e.symm (nI_m1 (by omega))
  · rcases hy with hy | ⟨r, r1, r2, r3⟩
    · rw [hy, yL_m1, q3] at e
      exact absurd e (nI_m1 (by omega))
    · rw [q3, r3] at e
      have := congrArg Int32.toInt e
      rw [nI_toInt (by omega), nI_toInt (by omega)] at this
      rw [q2, r2, show q = r by omega]
theorem inR_ge (I : yn_I t A) {d : Nat} (hd : d < 3) {x : Int32} (hx : inR A d x) : decide ((0 : Int32) ≤ yL A x) = !decide (x = -1) ∧ decide (yL A x < 0) = decide (x = -1) := by
  have h60 := cn_le I hd
  rcases hx with hx | ⟨q, q1, q2, q3⟩
  · rw [hx]
    exact ⟨rfl, rfl⟩
  · have : x ≠ -1 := by
      rw [q2]
      exact yl_ne (sg_ok I hd q1).1
    rw [q3, ge0 (by omega), decide_eq_false this]
    refine ⟨rfl, decide_eq_false ?_⟩
    rw [Int32.lt_iff_toInt_lt, nI_toInt (by omega)]
    show ¬ (q : Int) < 0
    omega
/-- where the children of a segment begin, and where all below it ends -/
def c0 (A : sy_Mem) (p : Int32) : Nat := (yL A p + 1).toInt.toNat
variable {ty p key here : Int32}
/-- the row and where a new one comes -/
theorem comes_math (I : yn_I t A) (H : yb_ok A ty p key here) {d : Nat} (hd : d < 3) (hD : tD A ty = nI d) {st la : Nat} (hp : (p = -1 ∧ st = 0 ∧ la = cn A d) ∨ ∃ pp, pp < cn A d ∧ p = sg A d pp ∧ yL A p = nI pp ∧ st = pp + 1 ∧ la = yE A d pp) :
    st ≤ la ∧ la ≤ cn A d ∧ (st < la → yP A (sg A d st) = p) ∧ (∀ q, q < st → ya_beh A ty p key here (sg A d q) = true) ∧
    (∀ a, st ≤ a → a < la → yP A (sg A d a) = p → a < yE A d a ∧ yE A d a ≤ la ∧ (yE A d a < la → yP A (sg A d (yE A d a)) = p) ∧ ∀ q, a ≤ q → q < yE A d a → ya_beh A ty p key here (sg A d q) = ya_beh A ty p key here (sg A d a)) ∧
    (∀ a, a ≤ cn A d → (∀ q, q < a → ya_beh A ty p key here (sg A d q) = true) → (a = la ∨ (a < la ∧ ya_beh A ty p key here (sg A d a) = false)) → ya_plc A ty p key here = a) := by
  have h60 := cn_le I hd
  obtain ⟨P1, P2⟩ := yb_place I H
  rw [hD, (cnt_nI I hd).1, nI_clamp (by omega)] at P1
  have P3 : ∀ q, q < cn A d → (ya_beh A ty p key here (sg A d q) = true ↔ q < ya_plc A ty p key here) := fun q hq => by
    obtain ⟨a1, a2, a3⟩ := sg_ok I hd hq
    rw [P2 _ a1 (a2.trans hD.symm), a3, nI_toInt (by omega)]
    omega
  have fin : ∀ a, a ≤ cn A d → (∀ q, q < a → ya_beh A ty p key here (sg A d q) = true) → (a = cn A d ∨ (a < cn A d ∧ ya_beh A ty p key here (sg A d a) = false)) → ya_plc A ty p key here = a := fun a ha hq h => by
    have h1 : a ≤ ya_plc A ty p key here := by
      rcases Nat.eq_zero_or_pos a with e | e
      · omega
      · have := (P3 (a - 1) (by omega)).mp (hq (a - 1) (by omega))
        omega
    rcases h with h | ⟨h2, h3⟩
    · omega
    · have : ¬ a < ya_plc A ty p key here := fun q => by
        rw [(P3 a h2).mpr q] at h3
        cases h3
      omega
  have sub : ∀ a, a < cn A d → yP A (sg A d a) = p → ∀ q, a ≤ q → q < yE A d a → ya_beh A ty p key here (sg A d q) = ya_beh A ty p key here (sg A d a) := fun a ha hPa q hq1 hq2 => by
    obtain ⟨e1, e2, e3⟩ := yE_is I hd ha
    obtain ⟨a1, a2, a3⟩ := sg_ok I hd ha
    obtain ⟨b1, b2, b3⟩ := sg_ok I hd (show q < cn A d by omega)
    have hU : yU A (sg A d q) (sg A d a) := (e3 q (by omega)).mp ⟨hq1, hq2⟩
    have hb : ∀ s, yl A s → yU A s (sg A d a) → (p = -1 ∨ ya_X3_isBelow A s p = true) := fun s hs hu => by
      by_cases e : p = -1
      · exact Or.inl e
      · exact Or.inr (yo_below_of I hs hu hPa e)
    have hne : ∀ s, yl A s → yU A s (sg A d a) → s ≠ p := fun s hs hu e => by
      have h1 := (yU_l I hs hu).2.2.1
      by_cases e2 : p = -1
      · exact yl_ne hs (e.trans e2)
      · have := (yl_levS I a1 (by rw [hPa]; exact e2)).2
        rw [hPa, ← e] at this
        omega
    have hc := yo_ch_up I (p := p) (q := sg A d a) (hb _ a1 (Or.inl rfl)) _ b1 (Nat.le_refl _) hU
    rw [yb_in (hb _ b1 hU) (hne _ b1 hU), yb_in (hb _ a1 (Or.inl rfl)) (hne _ a1 (Or.inl rfl)), hc]
  rcases hp with ⟨rfl, rfl, rfl⟩ | ⟨pp, p1, p2, p3, rfl, rfl⟩
  · refine ⟨by omega, Nat.le_refl _, fun h => ?_, fun q hq => absurd hq (by omega), fun a _ ha hPa => ?_, fin⟩
    · obtain ⟨a1, a2, a3⟩ := sg_ok I hd h
      refine Classical.byContradiction fun e => ?_
      have h1 := I.2.2.2.1.1 _ a1 e
      obtain ⟨b1, b2, -⟩ := yl_par I.1 I.2.1 a1 e
      have := (yg_pl I b1).1
      rw [a3, nI_toInt (by omega)] at h1
      omega
    · obtain ⟨e1, e2, e3⟩ := yE_is I hd ha
      obtain ⟨a1, a2, a3⟩ := sg_ok I hd ha
      refine ⟨e1, e2, fun h => ?_, sub a ha hPa⟩
      have h1 := yE_lv I hd ha h
      have h2 := (yl_lev1 I a1).mpr hPa
      have b1 := (sg_ok I hd h).1
      have h3 := yl_lev I b1
      exact (yl_lev1 I b1).mp (by omega)
  · obtain ⟨e1, e2, e3⟩ := yE_is I hd p1
    have hpl : yl A p := by rw [p2]; exact (sg_ok I hd p1).1
    have hpne : p ≠ -1 := yl_ne hpl
    refine ⟨e1, e2, fun h => ?_, fun q hq => ?_, fun a ha1 ha hPa => ?_, fun a ha hq h => ?_⟩
    · obtain ⟨a1, a2, a3⟩ := sg_ok I hd (show pp + 1 < cn A d by omega)
      have hU : yU A (sg A d (pp + 1)) (sg A d pp) := (e3 (pp + 1) (by omega)).mp ⟨by omega, h⟩
      rcases (yU_l I a1 hU).2.2.2 with e | ⟨-, g1, g2⟩
      · have := sg_inj I hd p1 (by omega) e
        omega
      · obtain ⟨b1, b2, -⟩ := yl_par I.1 I.2.1 a1 g1
        obtain ⟨r, r1, r2, r3⟩ := sg_of I b1 hd (b2.trans a2)
        rw [r2] at g2
        have h1 := ((e3 r r1).mpr g2).1
        have h2 := I.2.2.2.1.1 _ a1 g1
        rw [r3, a3, nI_toInt (by omega), nI_toInt (by omega)] at h2
        rw [r2, p2, show r = pp by omega]
    · by_cases e : q = pp
      · rw [e, ← p2]
        exact yb_self I hpne
      · rw [yb_out hpne (fun hu => ?_)]
        · rw [p3, (sg_ok I hd (show q < cn A d by omega)).2.2, nI_ltd (by omega) (by omega)]
          exact decide_eq_true (by omega)
        · rw [p2] at hu
          have := ((e3 q (by omega)).mpr hu).1
          omega
    · obtain ⟨f1, f2, f3⟩ := yE_is I hd (show a < cn A d by omega)
      obtain ⟨a1, a2, a3⟩ := sg_ok I hd (show a < cn A d by omega)
      have hle : yE A d a ≤ yE A d pp := by
        have h1 : yU A (sg A d (yE A d a - 1)) (sg A d a) := (f3 _ (by omega)).mp ⟨by omega, by omega⟩
        have h2 : yU A (sg A d a) (sg A d pp) := (e3 a (by omega)).mp ⟨by omega, ha⟩
        have h3 := yU_trans I h2 _ (sg_ok I hd (show yE A d a - 1 < cn A d by omega)).1 (Nat.le_refl _) h1
        have := ((e3 _ (by omega)).mpr h3).2
        omega
      refine ⟨f1, hle, fun h => ?_, sub a (by omega) hPa⟩
      have h1 := yE_lv I hd (show a < cn A d by omega) (by omega)
      have b1 := (sg_ok I hd (show yE A d a < cn A d by omega)).1
      have h2 := (yl_levS I a1 (by rw [hPa]; exact hpne)).2
      rw [hPa] at h2
      have hU : yU A (sg A d (yE A d a)) (sg A d pp) := (e3 _ (by omega)).mp ⟨by omega, h⟩
      rw [← p2] at hU
      rcases (yU_l I b1 hU).2.2.2 with e | ⟨g0, g1, g2⟩
      · have := sg_inj I hd p1 (show yE A d a < cn A d by omega) (p2.symm.trans e)
        omega
      · obtain ⟨c1, c2⟩ := yl_levS I b1 g1
        rcases (yU_l I c1 g2).2.2.2 with e | ⟨g3, -⟩
        · exact e.symm
        · omega
    · refine fin a ha hq ?_
      rcases h with h | ⟨h1, h2⟩
      · by_cases e : a = cn A d
        · exact Or.inl e
        · right
          refine ⟨by omega, ?_⟩
          rw [yb_out hpne (fun hu => ?_)]
          · rw [p3, (sg_ok I hd (show a < cn A d by omega)).2.2, nI_ltd (by omega) (by omega)]
            exact decide_eq_false (by omega)
          · rw [p2] at hu
            have := ((e3 a (by omega)).mpr hu).2
            omega
      · exact Or.inr ⟨by omega, h2⟩
abbrev eCm (d n : Nat) (ty : Int32) (pL key hL : Int32) : List Value := [.ref 44, .ref (45 + d), .int (nI n), .int ty, .int pL, .int key, .int hL]
theorem t_comes (I : yn_I t A) (T : TT A σ) (R : RW A σ) (H : yb_ok A ty p key here) {d : Nat} (hd : d < 3) (hD : tD A ty = nI d) (hp : inR A d p) (hh : inR A d here) : sf_L_comes (eCm d (cn A d) ty (yL A p) key (yL A here)) σ = some (.inl (some (.int (nI (ya_plc A ty p key here)))), σ) := by
  have h60 := cn_le I hd
  have hT := H.1
  obtain ⟨st, la, hst, hla, hcase⟩ : ∃ st la, yL A p + 1 = nI st ∧ (∀ env : List Value, env[0]? = some (.ref 44) → env[1]? = some (.ref (45 + d)) → env[2]? = some (.int (nI (cn A d))) → env[4]? = some (.int (yL A p)) → sy_iQ (sy_clt (sy_iL 4) (sy_iK 0)) (sy_iL 2) (sy_iM (sy_cr 4 sf_L_end) (sy_aR (sy_rL 0) (sy_aR (sy_rL 1) (sy_aI (sy_iL 2) (sy_aI (sy_iL 4) sy_aN))))) env σ = some (.inl (nI la), σ)) ∧ ((p = -1 ∧ st = 0 ∧ la = cn A d) ∨ ∃ pp, pp < cn A d ∧ p = sg A d pp ∧ yL A p = nI pp ∧ st = pp + 1 ∧ la = yE A d pp) := by
    rcases hp with rfl | ⟨pp, p1, p2, p3⟩
    · exact ⟨0, cn A d, by rw [yL_m1]; rfl, fun env h0 h1 h2 h4 => ee_iQ (z := true) (x := nI (cn A d)) (y := 0) (ee_eq (ee_cB (ee_L h4) ee_K) rfl) (fun _ => ee_L h2) (fun e => by cases e), Or.inl ⟨rfl, rfl, rfl⟩⟩
    · refine ⟨pp + 1, yE A d pp, by rw [p3]; exact nadd (b := 1), fun env h0 h1 h2 h4 => ?_, Or.inr ⟨pp, p1, p2, p3, rfl, rfl⟩⟩
      rw [p3] at h4
      exact ee_iQ (z := false) (x := 0) (y := nI (yE A d pp)) (ee_eq (ee_cB (ee_L h4) ee_K) (decide_eq_false (by rw [Int32.lt_iff_toInt_lt, nI_toInt (by omega)]; show ¬ (pp : Int) < 0; omega))) (fun e => by cases e) (fun _ => ev_e I T R hd p1 (ee_R h0) (ee_R h1) (ee_L h2) (ee_L h4))
  obtain ⟨M1, M2, M3, M4, M5, M6⟩ := comes_math I H hd hD hcase
  obtain ⟨-, k2, k3, -, -, -, -, -⟩ := I.1.2.1 _ hT
  refine ke_meth ?_ (Nat.le_of_ble_eq_true rfl)
  refine es_Q (es_SI (ee_eq (ee_B (ee_L rfl) ee_K) hst) (es_Q (es_SI (hla _ rfl rfl rfl rfl) (es_Q (es_SI (ev_K I T hT (ee_R rfl) (ee_L rfl)).1 (es_Q (es_SI (ev_K I T hT (ee_R rfl) (ee_L rfl)).2.1 ?_)))))))
  -- the twin at which the view is
  obtain ⟨tw, htw⟩ : ∃ tw : Bool, tw = ((((!decide (here = -1)) && (decide (yT A here = ty) && decide (yP A here = p))) && (decide (tK A ty = 2) || decide (ya_N A here 0 = key)))) := ⟨_, rfl⟩
  have htv : sy_cA (sy_cA (sy_cA (sy_cge (sy_iL 6) (sy_iK 0)) (sy_ceq (sy_iM (sy_cr 1 sf_L_typeOf) (sy_aL (sy_lA (sy_rL 1) (sy_iL 6)) sy_aN)) (sy_iL 3))) (sy_ceq (sy_iM (sy_cr 3 sf_L_over) (sy_aR (sy_rL 0) (sy_aR (sy_rL 1) (sy_aI (sy_iL 6) sy_aN)))) (sy_iL 4))) (sy_cO (sy_ceq (sy_iL 9) (sy_iK 2)) (sy_ceq (sy_iM (sy_cr 2 sf_L_fieldOf) (sy_aL (sy_lA (sy_rL 1) (sy_iL 6)) (sy_aI (sy_iK 0) sy_aN))) (sy_iL 5))) (eCm d (cn A d) ty (yL A p) key (yL A here) ++ [.int (nI st), .int (nI la), .int (tK A ty), .int (tR A ty)]) σ = some (.inl tw, σ) := by
    rcases hh with h | ⟨q, q1, q2, q3⟩
    · rw [htw, h]
      exact ee_cA (x := false) (y := false) (ee_eq (ee_cA (x := false) (y := false) (ee_eq (ee_cA (x := false) (y := false) (ee_eq (ee_cB (ee_L rfl) ee_K) rfl) (fun e => by cases e)) rfl) (fun e => by cases e)) rfl) (fun e => by cases e)
    · have hne : here ≠ -1 := by rw [q2]; exact yl_ne (sg_ok I hd q1).1
      have hyP := inR_eq I hd (x := yP A (sg A d q)) (y := p) (yP_D I hd q1) hp
      rw [htw, decide_eq_false hne, q3, q2, ← hyP]
      refine ee_eq (ee_cA (ee_cA (ee_cA (x := true) (ee_eq (ee_cB (ee_L rfl) ee_K) (ge0 (by omega))) (fun _ => ee_cB (ev_t I R hd q1 (ee_R rfl) (ee_L rfl)) (ee_L rfl))) (fun _ => ee_cB (ev_o I T R hd q1 (ee_R rfl) (ee_R rfl) (ee_L rfl)) (ee_L rfl))) (fun _ => ee_cO (ee_cB (ee_L rfl) ee_K) (fun _ => ee_cB (ev_f I R (f := 0) hd q1 (by omega) (ee_R rfl) (ee_L rfl) ee_K) (ee_L rfl)))) ?_
      rw [Bool.true_and]
      rfl
  refine es_Q (es_SI (ee_iC htv) (es_Q ?_))
  -- the loop
  have loop : ∀ (m a : Nat), la - a < m → st ≤ a → a ≤ la → (a < la → yP A (sg A d a) = p) → (∀ q, q < a → ya_beh A ty p key here (sg A d q) = true) → sy_wh (sy_clt (sy_iL 7) (sy_iL 8)) (sy_sB 12 (sy_sQ (sy_sSI 12 (sy_iM (sy_cr 1 sf_L_typeOf) (sy_aL (sy_lA (sy_rL 1) (sy_iL 7)) sy_aN))) (sy_sQ (sy_sSI 13 (sy_iC (sy_clt (sy_iL 12) (sy_iL 3)))) (sy_sQ (sy_sI (sy_ceq (sy_iL 12) (sy_iL 3)) (sy_sB 14 (sy_sQ (sy_sSI 14 (sy_iM (sy_cr 2 sf_L_fieldOf) (sy_aL (sy_lA (sy_rL 1) (sy_iL 7)) (sy_aI (sy_iK 0) sy_aN)))) (sy_sSI 13 (sy_iQ (sy_cA (sy_clt (sy_iL 9) (sy_iK 2)) (sy_cne (sy_iL 14) (sy_iL 5))) (sy_iC (sy_clt (sy_iL 14) (sy_iL 5))) (sy_iQ (sy_ceq (sy_iL 10) (sy_iK 2)) (sy_iC (sy_cA (sy_cI (sy_iL 11)) (sy_clt (sy_iL 7) (sy_iL 6)))) (sy_iC (sy_ceq (sy_iL 10) (sy_iK 1)))))))) sy_sN) (sy_sQ (sy_sI (sy_cN (sy_cI (sy_iL 13))) (sy_eI (sy_iL 7)) sy_sN) (sy_sSI 7 (sy_iM (sy_cr 4 sf_L_end) (sy_aR (sy_rL 0) (sy_aR (sy_rL 1) (sy_aI (sy_iL 2) (sy_aI (sy_iL 7) sy_aN))))))))))) m (eCm d (cn A d) ty (yL A p) key (yL A here) ++ [.int (nI a), .int (nI la), .int (tK A ty), .int (tR A ty), .int (ya_b tw)]) (fun env' => sy_eI (sy_iL 7) env' (fun _ => sy_fail)) σ = some (.inl (some (.int (nI (ya_plc A ty p key here)))), σ) := fun m => by
    induction m with
    | zero => exact fun a h => absurd h (by omega)
    | succ m ih =>
      intro a hm h1 h2 h3 h4
      unfold sy_wh
      rw [sy_bnd_at (ee_eq (ee_cB (ee_L rfl) (ee_L rfl)) (nI_ltd (by omega) (by omega)))]
      by_cases hal : a < la
      · rw [if_pos (decide_eq_true hal)]
        have hPa := h3 hal
        have hac : a < cn A d := by omega
        obtain ⟨a1, a2, a3⟩ := sg_ok I hd hac
        obtain ⟨n1, n2, n3, n4⟩ := M5 a h1 hal hPa
        have hbeh := yb_sib I H a1 hPa
        refine es_B (es_Q (es_SI (ev_t I R hd hac (ee_R rfl) (ee_L rfl)) (es_Q (es_SI (ee_iC (ee_cB (ee_L rfl) (ee_L rfl))) (es_Q ?_)))))
        -- whether the new one comes behind
        have rest : ∀ g : Bool, ya_beh A ty p key here (sg A d a) = g → (sy_sQ (sy_sI (sy_cN (sy_cI (sy_iL 13))) (sy_eI (sy_iL 7)) sy_sN) (sy_sSI 7 (sy_iM (sy_cr 4 sf_L_end) (sy_aR (sy_rL 0) (sy_aR (sy_rL 1) (sy_aI (sy_iL 2) (sy_aI (sy_iL 7) sy_aN))))))) (eCm d (cn A d) ty (yL A p) key (yL A here) ++ [.int (nI a), .int (nI la), .int (tK A ty), .int (tR A ty), .int (ya_b tw), .int (yT A (sg A d a)), .int (ya_b g)]) (fun env' => sy_wh (sy_clt (sy_iL 7) (sy_iL 8)) (sy_sB 12 (sy_sQ (sy_sSI 12 (sy_iM (sy_cr 1 sf_L_typeOf) (sy_aL (sy_lA (sy_rL 1) (sy_iL 7)) sy_aN))) (sy_sQ (sy_sSI 13 (sy_iC (sy_clt (sy_iL 12) (sy_iL 3)))) (sy_sQ (sy_sI (sy_ceq (sy_iL 12) (sy_iL 3)) (sy_sB 14 (sy_sQ (sy_sSI 14 (sy_iM (sy_cr 2 sf_L_fieldOf) (sy_aL (sy_lA (sy_rL 1) (sy_iL 7)) (sy_aI (sy_iK 0) sy_aN)))) (sy_sSI 13 (sy_iQ (sy_cA (sy_clt (sy_iL 9) (sy_iK 2)) (sy_cne (sy_iL 14) (sy_iL 5))) (sy_iC (sy_clt (sy_iL 14) (sy_iL 5))) (sy_iQ (sy_ceq (sy_iL 10) (sy_iK 2)) (sy_iC (sy_cA (sy_cI (sy_iL 11)) (sy_clt (sy_iL 7) (sy_iL 6)))) (sy_iC (sy_ceq (sy_iL 10) (sy_iK 1)))))))) sy_sN) (sy_sQ (sy_sI (sy_cN (sy_cI (sy_iL 13))) (sy_eI (sy_iL 7)) sy_sN) (sy_sSI 7 (sy_iM (sy_cr 4 sf_L_end) (sy_aR (sy_rL 0) (sy_aR (sy_rL 1) (sy_aI (sy_iL 2) (sy_aI (sy_iL 7) sy_aN))))))))))) m (List.take 12 env') (fun env' => sy_eI (sy_iL 7) env' (fun _ => sy_fail))) σ = some (.inl (some (.int (nI (ya_plc A ty p key here)))), σ) := fun g hg => by
          cases g with
          | false =>
            rw [M6 a (by omega) h4 (Or.inr ⟨hal, hg⟩)]
            exact es_Q (es_It (ee_cN (x := false) (ee_cb (ee_L rfl))) (es_eI (ee_L rfl)))
          | true =>
            refine es_Q (es_IF (ee_cN (x := true) (ee_cb (ee_L rfl))) (es_SI (ev_e I T R hd hac (ee_R rfl) (ee_R rfl) (ee_L rfl) (ee_L rfl)) ?_))
            refine ih (yE A d a) (by omega) (by omega) n2 n3 (fun q hq => ?_)
            by_cases e : q < a
            · exact h4 q e
            · rw [n4 q (by omega) hq]
              exact hg
        by_cases eT : yT A (sg A d a) = ty
        · rw [if_pos eT] at hbeh
          refine es_It (ee_eq (ee_cB (ee_L rfl) (ee_L rfl)) (decide_eq_true eT)) (es_B (es_Q (es_SI (ev_f I R (f := 0) hd hac (by omega) (ee_R rfl) (ee_L rfl) ee_K) (es_SI (x := ya_b (ya_beh A ty p key here (sg A d a))) (σ1 := σ) ?_ (rest _ rfl)))))
          rw [hbeh]
          unfold ya_lies
          rw [a3]
          have hk2 : decide (tK A ty < 2) = !decide (tK A ty = 2) := by
            by_cases e : tK A ty = 2
            · rw [e]; rfl
            · rw [decide_eq_false e, decide_eq_true]
              · rfl
              · rw [Int32.lt_iff_toInt_lt]
                have : (tK A ty).toInt ≠ 2 := fun q => e (yi_ext q)
                show (tK A ty).toInt < 2
                omega
          refine ee_eq (ee_iQ (ee_eq (ee_cA (ee_cB (ee_L rfl) ee_K) (fun _ => ee_cB (ee_L rfl) (ee_L rfl))) (by rw [hk2])) (fun _ => ee_iC (ee_cB (ee_L rfl) (ee_L rfl))) (fun _ => ee_iQ (ee_cB (ee_L rfl) ee_K) (fun _ => ee_iC (ee_cA (ee_cb (ee_L rfl)) (fun _ => ee_cB (ee_L rfl) (ee_L rfl)))) (fun _ => ee_iC (ee_cB (ee_L rfl) ee_K)))) ?_
          rw [htw, eT, hPa]
          show _ = ya_b (if ((!decide (tK A ty = 2)) && (!decide (ya_N A (sg A d a) 0 = key))) = true then _ else _)
          by_cases c1 : ((!decide (tK A ty = 2)) && (!decide (ya_N A (sg A d a) 0 = key))) = true
          · rw [if_pos c1]
            exact if_pos c1
          · rw [if_neg c1]
            refine (if_neg c1).trans ?_
            by_cases c2 : tR A ty = 2
            · rw [decide_eq_true c2, if_pos rfl, if_neg (by decide)]
            · rw [decide_eq_false c2, if_neg (by decide), if_pos (by decide)]
        · rw [if_neg eT] at hbeh
          refine es_IF (ee_eq (ee_cB (ee_L rfl) (ee_L rfl)) (decide_eq_false eT)) ?_
          exact rest _ hbeh
      · rw [if_neg (by simpa using hal)]
        have : a = la := by omega
        rw [M6 a (by omega) h4 (Or.inl this)]
        exact es_eI (ee_L rfl)
  exact loop 1000 st (by omega) (Nat.le_refl _) M1 M3 M4
end LA31
