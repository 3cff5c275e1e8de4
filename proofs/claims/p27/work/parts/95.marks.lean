/-! what is deleted is marked -/
section YMa
variable {A τ : sy_Mem} {t : Nat} {got : Int32} {D : Nat → Bool} {F f : Nat → Int32}
def ya_rw (F f : Nat → Int32) (i : Nat) : Nat → Int32 := fun j => if j < i then F j else f j
theorem ya_rw_0 : ya_rw F f 0 = f := rfl
theorem ya_rw_up {i : Nat} : upd (ya_rw F f i) i (F i) = ya_rw F f (i + 1) := by
  funext j
  unfold ya_rw
  by_cases e : j = i
  · rw [e, upd_at, if_pos (by omega)]
  · rw [upd_ne e]
    by_cases h : j < i
    · rw [if_pos h, if_pos (by omega)]
    · rw [if_neg h, if_neg (by omega)]
theorem ya_rw_st {i : Nat} (h : F i = f i) : ya_rw F f (i + 1) = ya_rw F f i := by
  funext j
  unfold ya_rw
  by_cases e : j = i
  · rw [e, if_pos (by omega), if_neg (by omega), h]
  · by_cases h : j < i
    · rw [if_pos h, if_pos (by omega)]
    · rw [if_neg h, if_neg (by omega)]
theorem ya_rw_lt {i j : Nat} (h : j < i) : ya_rw F f i j = F j := if_pos h
theorem ya_rw_two {G : Nat → Int32} {i : Nat} : ya_rw F (ya_rw G f i) i = ya_rw F f i := by
  funext j
  unfold ya_rw
  by_cases h : j < i
  · rw [if_pos h, if_pos h]
  · rw [if_neg h, if_neg h, if_neg h]
def yd (A : sy_Mem) (D : Nat → Bool) : sy_Mem := ya_cell A 18 (ya_rw (fun j => ya_b (D j)) (A 18) 60)
def ye (τ : sy_Mem) (D : Nat → Bool) : sy_Mem := ya_cell τ 56 (ya_rw (fun j => ya_b (D j)) (τ 56) 60)
def ya_du (A : sy_Mem) (x : Int32) (i : Nat) : Bool := (!decide (A 11 i = -1)) && ya_under A (nI i) x
theorem yd_W (W : ya_W A) {g : Nat → Int32} : ya_W (ya_cell A 18 g) := ya_W_d W (yd_ne (by decide)) (yd_ne (by decide)) (yd_ne (by decide)) (fun d hd => by rw [yd_ne (by decide)]; exact W.2.2.2.1 d hd) (fun k h1 h2 => yd_ne (by omega))
theorem yt_X3_spareAll : sf_X3_spareAll [.ref 10] A = some (.inl none, ya_cell A 18 (ya_rw (fun _ => 0) (A 18) 60)) := by
  refine ee_meth ?_ rfl
  unfold sm_X3_spareAll
  refine es_Q (es_B (es_Q (es_SI ee_K0 ?_)))
  have h0 : A = ya_cell A 18 (ya_rw (fun _ => 0) (A 18) 0) := (yd_self (σ := A) (c := 18)).symm
  have hl := es_loop (c := sy_clt (sy_iL 1) (sy_iK 60)) (s := sy_sQ (sy_sWZ (sy_rF 3 8 (sy_rL 0)) (sy_iL 1) (sy_iK 0)) (sy_sIn 1 1)) (k := fun env' => sy_eV (env'.take 1) (fun _ => sy_fail)) (r := some (.inl none, ya_cell A 18 (ya_rw (fun _ => 0) (A 18) 60))) (E := fun i => [.ref 10, .int (nI i)]) (S := fun i => ya_cell A 18 (ya_rw (fun _ => 0) (A 18) i)) 60 0 1000 (by omega) (fun i _ hi => (es_c60 rfl (by omega)).trans (by rw [decide_eq_true (by omega)])) ((es_c60 rfl (by omega)).trans (by rw [decide_eq_false (by omega)])) (fun i _ hi k' => ?_) rfl
  · rw [← h0] at hl
    exact hl
  · refine es_Q (es_WZ (ee_rF (ee_R rfl) rfl) (ee_L rfl) ee_K (Or.inl rfl) (yi_inbN (show i < 60 by omega) (by omega)) ?_)
    rw [nI_clamp (by omega), yd_up, ya_rw_up (F := fun _ => 0)]
    exact es_In1 rfl rfl
theorem yt_X3_doom (W : ya_W A) (x : Int32) : sf_X3_doom [.ref 10, .int x] (yd A D) = some (.inl none, yd A (fun i => D i || ya_du A x i)) := by
  refine ee_meth ?_ rfl
  unfold sm_X3_doom
  refine es_Q (es_B (es_Q (es_SI ee_K0 ?_)))
  refine es_loop (E := fun i => [.ref 10, .int x, .int (nI i)]) (S := fun i => ya_cell A 18 (ya_rw (fun j => ya_b (D j || ya_du A x j)) (ya_rw (fun j => ya_b (D j)) (A 18) 60) i)) 60 0 1000 (by omega) (fun i _ hi => (es_c60 rfl (by omega)).trans (by rw [decide_eq_true (by omega)])) ((es_c60 rfl (by omega)).trans (by rw [decide_eq_false (by omega)])) (fun i _ hi k' => ?_) ?_
  · have hc : sy_cA (sy_cne (sy_iA 0 (sy_rF 3 1 (sy_rL 0)) (sy_iL 2)) (sy_iK (-1))) (sy_cO (sy_ceq (sy_iL 2) (sy_iL 1)) (sy_cI (sy_iM (sy_cv 3 2 sf_X3_isBelow) (sy_aR (sy_rL 0) (sy_aI (sy_iL 2) (sy_aI (sy_iL 1) sy_aN)))))) [.ref 10, .int x, .int (nI i)] (ya_cell A 18 (ya_rw (fun j => ya_b (D j || ya_du A x j)) (ya_rw (fun j => ya_b (D j)) (A 18) 60) i)) = some (.inl (ya_du A x i), ya_cell A 18 (ya_rw (fun j => ya_b (D j || ya_du A x j)) (ya_rw (fun j => ya_b (D j)) (A 18) 60) i)) :=
      ee_cA (ee_cB ((ee_An (kd := 0) (ee_rF (ee_R rfl) rfl) (ee_L rfl) (show i < 60 by omega) (by decide)).trans (by rw [yd_ne (by decide)])) ee_K) (fun _ => ee_cO (ee_cB (ee_L rfl) (ee_L rfl)) (fun _ => ee_cb (ee_M (ee_aR (ee_R rfl) (ee_aI (ee_L rfl) (ee_aI (ee_L rfl) ee_aN))) (ee_cv (yt_X3_isBelow (yd_W W) _ _) rfl))))
    by_cases e : ya_du A x i = true
    · refine es_Q (es_It (hc.trans (by rw [e])) (es_WZ (ee_rF (ee_R rfl) rfl) (ee_L rfl) ee_K (Or.inr rfl) (yi_inbN (show i < 60 by omega) (by omega)) ?_))
      have h1 : upd (ya_rw (fun j => ya_b (D j || ya_du A x j)) (ya_rw (fun j => ya_b (D j)) (A 18) 60) i) i 1 = ya_rw (fun j => ya_b (D j || ya_du A x j)) (ya_rw (fun j => ya_b (D j)) (A 18) 60) (i + 1) := by
        rw [← ya_rw_up (F := fun j => ya_b (D j || ya_du A x j)), e, Bool.or_true]
        rfl
      rw [nI_clamp (by omega), yd_up, h1]
      exact es_In1 rfl rfl
    · rw [ya_rw_st (i := i) (show ya_b (D i || ya_du A x i) = ya_rw (fun j => ya_b (D j)) (A 18) 60 i by rw [ya_rw_lt (show i < 60 by omega), show ya_du A x i = false by simpa using e, Bool.or_false])]
      exact es_Q (es_If (hc.trans (by rw [show ya_du A x i = false by simpa using e])) (es_N (es_In1 rfl rfl)))
  · rw [Nat.zero_add, ya_rw_two]
    rfl
/-- a segment that is tied to what is deleted, and goes with it -/
def ya_tq (A : sy_Mem) (got : Int32) (i : Nat) : Bool := ya_X3_isTied A (nI i) got && decide (tO A (yT A (nI i)) = 2)
def ya_dm (A : sy_Mem) (got : Int32) : Nat → (Nat → Bool)
  | 0 => ya_du A got
  | n + 1 => if ya_tq A got n = true then fun i => ya_dm A got n i || ya_du A (nI n) i else ya_dm A got n
def ya_bnd (A : sy_Mem) (D : Nat → Bool) (got : Int32) : Bool := (ya_ff (fun i => (ya_X3_isTied A (nI i) got && decide (tO A (yT A (nI i)) = 0)) && !D i) 60 0).isSome
theorem yd_dmd {i : Nat} (hi : i < 60) : ya_X3_isDoomed (yd A D) (nI i) = D i := by
  unfold ya_X3_isDoomed yd
  rw [yl_isS.mpr (yg_60 hi), yd_at, nI_clamp (by omega), ya_rw_lt hi, Bool.true_and, ya_b0]
theorem yd_bnd : ya_X5_isBound (yd A D) got = ya_bnd A D got := by
  unfold ya_X5_isBound ya_bnd
  rw [show ya_ff (fun i => (((ya_X3_isTied (yd A D) (nI i) got) && (decide ((ya_tg (yd A D) 9 (-1) (ya_sg (yd A D) 11 (nI i))) = 0))) && (!(ya_X3_isDoomed (yd A D) (nI i))))) 60 0 = ya_ff (fun i => (ya_X3_isTied A (nI i) got && decide (tO A (yT A (nI i)) = 0)) && !D i) 60 0 from ya_ff_congr (fun i _ hi => by rw [yd_dmd (by omega)]; rfl)]
  cases ya_ff (fun i => (ya_X3_isTied A (nI i) got && decide (tO A (yT A (nI i)) = 0)) && !D i) 60 0 <;> rfl
/-- the component's marks -/
theorem yt_marks (W : ya_W A) {k : List Value → sy_MM (Option Value)} {r : Option (((Option Value) ⊕ Nat) × sy_Mem)} {rest : sy_S} (hr : rest [.ref 0, .int got] k (yd A (ya_dm A got 60)) = r) :
    (sy_sQ (sy_sC (sy_cv 3 0 sf_X3_spareAll) (sy_aR (sy_rF 5 1 (sy_rL 0)) sy_aN)) (sy_sQ (sy_sC (sy_cv 3 1 sf_X3_doom) (sy_aR (sy_rF 5 1 (sy_rL 0)) (sy_aI (sy_iL 1) sy_aN))) (sy_sQ (sy_sB 2 (sy_sQ (sy_sSI 2 (sy_iK 0)) (sy_wh (sy_clt (sy_iL 2) (sy_iK 60)) (sy_sQ (sy_sI (sy_cA (sy_cI (sy_iM (sy_cv 3 2 sf_X3_isTied) (sy_aR (sy_rF 5 1 (sy_rL 0)) (sy_aI (sy_iL 2) (sy_aI (sy_iL 1) sy_aN))))) (sy_ceq (sy_iM (sy_cv 2 1 sf_X2_goingOf) (sy_aR (sy_rF 5 0 (sy_rL 0)) (sy_aI (sy_iM (sy_cv 3 1 sf_X3_typeOf) (sy_aR (sy_rF 5 1 (sy_rL 0)) (sy_aI (sy_iL 2) sy_aN))) sy_aN))) (sy_iK 2))) (sy_sC (sy_cv 3 1 sf_X3_doom) (sy_aR (sy_rF 5 1 (sy_rL 0)) (sy_aI (sy_iL 2) sy_aN))) sy_sN) (sy_sIn 2 1)) 1000))) rest))) [.ref 0, .int got] k A = r := by
  have W' : ∀ D, ya_W (yd A D) := fun D => yd_W W
  refine es_Q (es_C (ee_aR (ee_rF (ee_R rfl) rfl) ee_aN) (ee_cv yt_X3_spareAll rfl) (es_Q (es_C (σ2 := yd A (ya_dm A got 0)) (ee_aR (ee_rF (ee_R rfl) rfl) (ee_aI (ee_L rfl) ee_aN)) (ee_cv ((yt_X3_doom (D := fun _ => false) W got).trans ?_) rfl) (es_Q (es_B (es_Q (es_SI ee_K0 ?_)))))))
  · show some (Sum.inl none, yd A (fun i => false || ya_du A got i)) = some (Sum.inl none, yd A (ya_dm A got 0))
    rw [show (fun i => false || ya_du A got i) = ya_dm A got 0 from funext fun i => Bool.false_or _]
  · refine es_loop (E := fun i => [.ref 0, .int got, .int (nI i)]) (S := fun i => yd A (ya_dm A got i)) 60 0 1000 (by omega) (fun i _ hi => (es_c60 rfl (by omega)).trans (by rw [decide_eq_true (by omega)])) ((es_c60 rfl (by omega)).trans (by rw [decide_eq_false (by omega)])) (fun i _ hi k' => ?_) ?_
    · have hc : sy_cA (sy_cI (sy_iM (sy_cv 3 2 sf_X3_isTied) (sy_aR (sy_rF 5 1 (sy_rL 0)) (sy_aI (sy_iL 2) (sy_aI (sy_iL 1) sy_aN))))) (sy_ceq (sy_iM (sy_cv 2 1 sf_X2_goingOf) (sy_aR (sy_rF 5 0 (sy_rL 0)) (sy_aI (sy_iM (sy_cv 3 1 sf_X3_typeOf) (sy_aR (sy_rF 5 1 (sy_rL 0)) (sy_aI (sy_iL 2) sy_aN))) sy_aN))) (sy_iK 2)) [.ref 0, .int got, .int (nI i)] (yd A (ya_dm A got i)) = some (.inl (ya_tq A got i), yd A (ya_dm A got i)) :=
        ee_cA (ee_cb (ee_M (ee_aR (ee_rF (ee_R rfl) rfl) (ee_aI (ee_L rfl) (ee_aI (ee_L rfl) ee_aN))) (ee_cv (yt_X3_isTied (W' _) _ _) rfl))) (fun _ => ee_cB (ee_M (ee_aR (ee_rF (ee_R rfl) rfl) (ee_aI (ee_M (ee_aR (ee_rF (ee_R rfl) rfl) (ee_aI (ee_L rfl) ee_aN)) (ee_cv (yt_X3_typeOf _ _) rfl)) ee_aN)) (ee_cv (yt_X2_goingOf (W' _) _) rfl)) ee_K)
      by_cases e : ya_tq A got i = true
      · rw [show ya_dm A got (i + 1) = fun j => ya_dm A got i j || ya_du A (nI i) j from if_pos e]
        exact es_Q (es_It (hc.trans (by rw [e])) (es_C (ee_aR (ee_rF (ee_R rfl) rfl) (ee_aI (ee_L rfl) ee_aN)) (ee_cv (yt_X3_doom W _) rfl) (es_In1 rfl rfl)))
      · rw [show ya_dm A got (i + 1) = ya_dm A got i from if_neg e]
        exact es_Q (es_If (hc.trans (by rw [show ya_tq A got i = false by simpa using e])) (es_N (es_In1 rfl rfl)))
    · rw [Nat.zero_add]
      exact hr
end YMa
