section YG4
section
variable {env : List Value} {σ σ1 σ2 : sy_Mem} {k : List Value → sy_MM (Option Value)} {r : Option (((Option Value) ⊕ Nat) × sy_Mem)}
theorem es_It {c : sy_CE} {a b : sy_S} (hc : c env σ = some (.inl true, σ1)) (h : a env k σ1 = r) : sy_sI c a b env k σ = r := by
  unfold sy_sI; rw [sy_bnd_at hc]; exact h
theorem es_If {c : sy_CE} {a b : sy_S} (hc : c env σ = some (.inl false, σ1)) (h : b env k σ1 = r) : sy_sI c a b env k σ = r := by
  unfold sy_sI; rw [sy_bnd_at hc]; exact h
theorem sy_bnd_ex {α β : Type} {m : sy_MM α} {kk : α → sy_MM β} {E : Nat} (h : m σ = some (.inr E, σ1)) : sy_bnd m kk σ = some (.inr E, σ1) := by
  unfold sy_bnd
  rw [h]
theorem es_SRx {i a E : Nat} {c : List Value → sy_MM (Option Value)} {as : sy_AE} {vs : List Value} {x : Bool} (ha : as env σ = some (.inl vs, σ)) (hc : c vs σ = if x then some (.inl (some (.ref a)), σ) else some (.inr E, σ)) (hk : x = true → k (sy_set env i (.ref a)) σ = r) : sy_sSR i (sy_rM c as) env k σ = if x then r else some (.inr E, σ) := by
  unfold sy_sSR sy_rM
  cases x
  · have : sy_bnd (as env) (fun vs => sy_bnd (c vs) sy_toR) σ = some (.inr E, σ) := by
      rw [sy_bnd_at ha]
      exact sy_bnd_ex hc
    rw [sy_bnd_ex this]
    rfl
  · have : sy_bnd (as env) (fun vs => sy_bnd (c vs) sy_toR) σ = some (.inl a, σ) := by
      rw [sy_bnd_at ha, sy_bnd_at hc]
      rfl
    rw [sy_bnd_at this]
    exact hk rfl
end
variable {σ τ : sy_Mem} {t : Nat}
theorem yt_X5_miss (σ : sy_Mem) {v : Nat} (hv : v < 4) (how : Int32) : sf_X5_miss [.ref 0, .ref (sy_vw v), .int how] σ = if (!decide (how = 1) || decide (0 < σ 19 0)) then some (.inl (some (.int 7)), σ) else some (.inl (some (.int 3)), ya_stand σ v (-1) 0 0) := by
  refine ee_meth ?_ rfl
  unfold sm_X5_miss
  exact es_Q (es_I (ee_cO (ee_cB (ee_L rfl) ee_K) (fun _ => ee_cB (ee_M (ee_aR (ee_rF (ee_R rfl) rfl) ee_aN) (ee_cv (yt_X0_size σ) rfl)) ee_K)) (fun _ => es_eI ee_K) (fun _ => es_N (es_Q (es_C (ee_aR (ee_R rfl) ee_aN) (ee_cv (yt_X4_standAheadOfAll σ hv) (yv_rc hv rfl)) (es_eI ee_K)))))
def ya_got (σ : sy_Mem) (v : Nat) (how : Int32) (h : Bool) (x : Int32) : sy_Mem := ya_stand (if !decide (how = 2) then sy_up (ya_deliver σ v x h) (sy_vw v) 5 (ya_par σ x (σ 19 0).toNatClampNeg) else ya_deliver σ v x h) v x 1 0
def ya_seek (σ : sy_Mem) (v : Nat) (how : Int32) (h : Bool) : Int32 × sy_Mem :=
  if ya_X5_isListOrdered σ v = false then (4, σ) else
  if how = 2 ∧ σ (sy_vw v) 5 = -1 then (5, σ) else
  if ya_finds σ v how = -1 then (if (!decide (how = 1) || decide (0 < σ 19 0)) then (7, σ) else (3, ya_stand σ v (-1) 0 0)) else
  ((if how = 0 then 0 else ya_X5_statusOfStep σ (ya_here σ v) (ya_finds σ v how)), ya_got σ v how h (ya_finds σ v how))
theorem ya_deliver_ne (σ : sy_Mem) {v : Nat} {x : Int32} {h : Bool} {k : Nat} (hk : k ≠ 31) (h0 : k ≠ sy_vw v) (h1 : k ≠ sy_vw v + 1) (h2 : k ≠ sy_vw v + 2) : ya_deliver σ v x h k = σ k := by
  unfold ya_deliver
  rw [ya_one_ne _ hk h0 h1 h2, ya_dl_ne σ hk h0 h1 h2]
theorem yt_X5_seek (I : yn_I t σ) {v : Nat} (hv : v < 4) (how : Int32) (h : Bool) (h6 : σ (sy_vw v) 6 = 0) : sf_X5_seek [.ref 0, .ref (sy_vw v), .int how, .int (ya_b h)] σ = some (.inl (some (.int (ya_seek σ v how h).1)), (ya_seek σ v how h).2) := by
  have hb := yv_lt hv
  have W := yn_Wo I
  have h19 := yg_n19 I
  have e19 := yg_n19e I
  refine ee_meth ?_ rfl
  unfold sm_X5_seek ya_seek
  have hL : sy_cN (sy_cI (sy_iM (sy_cv 5 1 sf_X5_isListOrdered) (sy_aR (sy_rL 0) (sy_aR (sy_rL 1) sy_aN)))) [.ref 0, .ref (sy_vw v), .int how, .int (ya_b h)] σ = some (.inl (!ya_X5_isListOrdered σ v), σ) := ee_cN (ee_cb (ee_M (ee_aR (ee_R rfl) (ee_aR (ee_R rfl) ee_aN)) (ee_cv (yt_X5_isListOrdered W hv) rfl)))
  cases hLb : ya_X5_isListOrdered σ v with
  | false =>
    rw [if_pos rfl]
    exact es_Q (es_It (hL.trans (by rw [hLb]; rfl)) (es_eI ee_K))
  | true =>
    rw [if_neg (by decide)]
    refine es_Q (es_If (hL.trans (by rw [hLb]; rfl)) (es_N ?_))
    have hw : sy_iQ (sy_ceq (sy_iL 2) (sy_iK 2)) (sy_iM (sy_cv 4 0 sf_X4_parentSegment) (sy_aR (sy_rL 1) sy_aN)) (sy_iK (-1)) [.ref 0, .ref (sy_vw v), .int how, .int (ya_b h)] σ = some (.inl (ya_within σ v how), σ) := by
      refine (ee_iQ (ee_cB (ee_L rfl) ee_K) (fun _ => ee_M (ee_aR (ee_R rfl) ee_aN) (ee_cv (yt_X4_parentSegment σ hv) (yv_rc hv rfl))) (fun _ => ee_K)).trans ?_
      unfold ya_within
      by_cases e : how = 2
      · rw [decide_eq_true e, if_pos e, if_pos rfl]
      · rw [decide_eq_false e, if_neg e, if_neg (by decide)]
    refine es_Q (es_SI hw ?_)
    have hc2 : sy_cA (sy_ceq (sy_iL 2) (sy_iK 2)) (sy_ceq (sy_iL 4) (sy_iK (-1))) [.ref 0, .ref (sy_vw v), .int how, .int (ya_b h), .int (ya_within σ v how)] σ = some (.inl (decide (how = 2) && decide (ya_within σ v how = -1)), σ) := ee_cA (ee_cB (ee_L rfl) ee_K) (fun _ => ee_cB (ee_L rfl) ee_K)
    by_cases h2 : how = 2 ∧ σ (sy_vw v) 5 = -1
    · rw [if_pos h2]
      have e : (decide (how = 2) && decide (ya_within σ v how = -1)) = true := by
        unfold ya_within
        rw [if_pos h2.1, decide_eq_true h2.1, decide_eq_true h2.2]
        rfl
      exact es_Q (es_It (hc2.trans (by rw [e])) (es_eI ee_K))
    · rw [if_neg h2]
      have e : (decide (how = 2) && decide (ya_within σ v how = -1)) = false := by
        unfold ya_within
        by_cases e1 : how = 2
        · rw [if_pos e1, decide_eq_true e1, decide_eq_false (fun q => h2 ⟨e1, q⟩)]
          rfl
        · rw [decide_eq_false e1]
          rfl
      refine es_Q (es_If (hc2.trans (by rw [e])) (es_N ?_))
      have hst : sy_iQ (sy_ceq (sy_iL 2) (sy_iK 0)) (sy_iK 0) (sy_iM (sy_cv 5 1 sf_X5_placeBehind) (sy_aR (sy_rL 0) (sy_aR (sy_rL 1) sy_aN))) [.ref 0, .ref (sy_vw v), .int how, .int (ya_b h), .int (ya_within σ v how)] σ = some (.inl (ya_start σ v how), σ) := by
        refine (ee_iQ (ee_cB (ee_L rfl) ee_K) (fun _ => ee_K) (fun _ => ee_M (ee_aR (ee_R rfl) (ee_aR (ee_R rfl) ee_aN)) (ee_cv (yt_X5_placeBehind W hv) rfl))).trans ?_
        unfold ya_start
        by_cases e : how = 0
        · rw [decide_eq_true e, if_pos e, if_pos rfl]
        · rw [decide_eq_false e, if_neg e, if_neg (by decide)]
      have hs := yg_start I hv how
      refine es_Q (es_SI hst ?_)
      have hff : sf_X5_firstRight [.ref 0, .ref (sy_vw v), .int (σ 19 0), .int (ya_start σ v how), .int (ya_within σ v how)] σ = some (.inl (some (.int (ya_finds σ v how))), σ) := by
        have := yt_X5_firstRight W hv (σ 19 0).toNatClampNeg (by omega) (ya_start σ v how).toNatClampNeg (by rw [yi_clampInt]; omega) (ya_within σ v how)
        rw [← e19, ← yi_nat (yi_pos.mpr hs.1)] at this
        exact this
      refine es_Q (es_SI (ee_M (ee_aR (ee_R rfl) (ee_aR (ee_R rfl) (ee_aI (ee_M (ee_aR (ee_rF (ee_R rfl) rfl) ee_aN) (ee_cv (yt_X0_size σ) rfl)) (ee_aI (ee_L rfl) (ee_aI (ee_L rfl) ee_aN))))) (ee_cv hff rfl)) ?_)
      by_cases hx : ya_finds σ v how = -1
      · rw [if_pos hx]
        refine es_Q (es_It ((ee_cB (ee_L rfl) ee_K).trans (by rw [decide_eq_true hx])) ?_)
        have hm := yt_X5_miss σ hv how
        by_cases hq : (!decide (how = 1) || decide (0 < σ 19 0)) = true
        · rw [if_pos hq] at hm ⊢
          exact es_eI (ee_M (ee_aR (ee_R rfl) (ee_aR (ee_R rfl) (ee_aI (ee_L rfl) ee_aN))) (ee_cv hm rfl))
        · rw [if_neg hq] at hm ⊢
          exact es_eI (ee_M (ee_aR (ee_R rfl) (ee_aR (ee_R rfl) (ee_aI (ee_L rfl) ee_aN))) (ee_cv hm rfl))
      · rw [if_neg hx]
        refine es_Q (es_If ((ee_cB (ee_L rfl) ee_K).trans (by rw [decide_eq_false hx])) (es_N ?_))
        have hss : sy_iQ (sy_ceq (sy_iL 2) (sy_iK 0)) (sy_iK 0) (sy_iM (sy_cv 5 2 sf_X5_statusOfStep) (sy_aR (sy_rL 0) (sy_aI (sy_iM (sy_cv 4 0 sf_X4_segmentAt) (sy_aR (sy_rL 1) sy_aN)) (sy_aI (sy_iL 6) sy_aN)))) [.ref 0, .ref (sy_vw v), .int how, .int (ya_b h), .int (ya_within σ v how), .int (ya_start σ v how), .int (ya_finds σ v how)] σ = some (.inl (if how = 0 then 0 else ya_X5_statusOfStep σ (ya_here σ v) (ya_finds σ v how)), σ) := by
          refine (ee_iQ (ee_cB (ee_L rfl) ee_K) (fun _ => ee_K) (fun _ => ee_M (ee_aR (ee_R rfl) (ee_aI (ee_M (ee_aR (ee_R rfl) ee_aN) (ee_cv (yt_X4_segmentAt σ hv) (yv_rc hv rfl))) (ee_aI (ee_L rfl) ee_aN))) (ee_cv (yt_X5_statusOfStep W _ _) rfl))).trans ?_
          by_cases e : how = 0
          · rw [decide_eq_true e, if_pos e, if_pos rfl]
          · rw [decide_eq_false e, if_neg e, if_neg (by decide)]
        refine es_Q (es_SI hss ?_)
        refine es_Q (es_C (ee_aR (ee_R rfl) (ee_aR (ee_R rfl) (ee_aI (ee_L rfl) (ee_aI (ee_L rfl) ee_aN)))) (ee_cv (yt_X5_deliver I hv _ h h6) rfl) ?_)
        have hD : ∀ {k : Nat}, k ≠ 31 → k ≤ 31 → ya_deliver σ v (ya_finds σ v how) h k = σ k := fun h1 h2 => ya_deliver_ne σ h1 (by omega) (by omega) (by omega)
        have WD : ya_W (ya_deliver σ v (ya_finds σ v how) h) := by
          have hsl := ya_sl_le σ ((σ 19 0).toNatClampNeg - 1)
          refine ya_W_c (ya_dl_W W (x := ya_finds σ v how) (h := h) hv h6 (show (σ 19 0).toNatClampNeg - 1 ≤ 4 by omega)) (ya_one_ne _ (by decide) (by omega) (by omega) (by omega)) (ya_one_ne _ (by decide) (by omega) (by omega) (by omega)) (ya_one_ne _ (by decide) (by omega) (by omega) (by omega)) (ya_one_ne _ (by decide) (by omega) (by omega) (by omega)) (fun w hw4 => ?_)
          by_cases hvw : w = v
          · subst hvw
            refine ⟨?_, ya_one_vw _ hw4 (by decide), ya_one_vw _ hw4 (by decide)⟩
            show (ya_one _ _ _ _ _ _ (sy_vw w) 6).toInt ≤ 4
            rw [ya_one_6 _ hw4]
            cases h
            · show (ya_dl σ w _ false _ (sy_vw w) 6).toInt ≤ 4
              rw [ya_dl_6 σ hw4 h6]
              show (0 : Int32).toInt ≤ 4
              decide
            · show (nI _).toInt ≤ 4
              rw [nI_toInt (by omega)]
              omega
          · have hvn := yv_ne hvw
            have hbw := yv_lt hw4
            have e1 : ya_one (ya_dl σ v (ya_finds σ v how) h ((σ 19 0).toNatClampNeg - 1)) v (ya_sl σ ((σ 19 0).toNatClampNeg - 1)) (ya_finds σ v how) h (ya_code σ (σ 19 0 - 1) 32) (sy_vw w) = ya_dl σ v (ya_finds σ v how) h ((σ 19 0).toNatClampNeg - 1) (sy_vw w) := ya_one_ne _ (by omega) hvn.1 hvn.2.1 hvn.2.2.1
            refine ⟨?_, congrFun e1 4, congrFun e1 3⟩
            show (ya_one _ _ _ _ _ _ (sy_vw w) 6).toInt ≤ 4
            rw [e1, ya_dl_ne σ (by omega) hvn.1 hvn.2.1 hvn.2.2.1]
            exact (W.2.2.2.2 w hw4).1
        unfold ya_got
        have hcn : sy_cne (sy_iL 2) (sy_iK 2) [.ref 0, .ref (sy_vw v), .int how, .int (ya_b h), .int (ya_within σ v how), .int (ya_start σ v how), .int (ya_finds σ v how), .int (if how = 0 then 0 else ya_X5_statusOfStep σ (ya_here σ v) (ya_finds σ v how))] (ya_deliver σ v (ya_finds σ v how) h) = some (.inl (!decide (how = 2)), ya_deliver σ v (ya_finds σ v how) h) := ee_cB (ee_L rfl) ee_K
        cases hq : !decide (how = 2) with
        | true =>
          rw [if_pos rfl]
          have hp := yt_X5_parentageOf WD (ya_finds σ v how) (by rw [hD (by decide) (by decide)]; omega)
          rw [hD (by decide) (by decide), ya_par_c (fun k hk => hD (by omega) (by omega))] at hp
          exact es_Q (es_It (hcn.trans (by rw [hq])) (es_C (ee_aR (ee_R rfl) (ee_aI (ee_M (ee_aR (ee_R rfl) (ee_aI (ee_L rfl) ee_aN)) (ee_cv hp rfl)) ee_aN)) (ee_cv (yt_X4_setParent _ hv _) (yv_rc hv rfl)) (es_Q (es_C (ee_aR (ee_R rfl) (ee_aI (ee_L rfl) ee_aN)) (ee_cv (yt_X4_standAt _ hv _) (yv_rc hv rfl)) (es_eI (ee_L rfl))))))
        | false =>
          rw [if_neg (show ¬ (false = true) by decide)]
          exact es_Q (es_If (hcn.trans (by rw [hq])) (es_N (es_Q (es_C (ee_aR (ee_R rfl) (ee_aI (ee_L rfl) ee_aN)) (ee_cv (yt_X4_standAt _ hv _) (yv_rc hv rfl)) (es_eI (ee_L rfl))))))
/-- the whole call, behind its tests -/
def ya_get (σ : sy_Mem) (v : Nat) (how : Int32) (h : Bool) : sy_Mem := sy_up (ya_seek (sy_up σ (sy_vw v) 6 0) v how h).2 19 0 0
theorem yt_X5_get (I : yn_I t σ) (a1 how : Int32) (h : Bool) : sf_X5_get [.ref 0, .int a1, .int how, .int (ya_b h)] σ = if (decide (0 ≤ a1) && decide (a1 < 4)) then (if (decide (0 ≤ how) && decide (how < 3)) then some (.inl (some (.int (ya_seek (sy_up σ (sy_vw a1.toNatClampNeg) 6 0) a1.toNatClampNeg how h).1)), ya_get σ a1.toNatClampNeg how h) else some (.inr 2, σ)) else some (.inr 1, σ) := by
  refine ee_meth ?_ rfl
  unfold sm_X5_get
  refine es_Q (es_SRx (ee_aR (ee_R rfl) (ee_aI (ee_L rfl) ee_aN)) (ee_cv (yt_X5_viewOf σ a1) rfl) (fun hx => ?_))
  have hv : a1.toNatClampNeg < 4 := by
    have := yl_isL.mp hx
    rw [yi_clampInt]
    omega
  refine es_Q (es_need (ee_aI (ee_M (ee_aI (ee_L rfl) (ee_aI ee_K ee_aN)) (ee_cs (yt_X5_isIn σ how 3) rfl)) ee_aN) (ee_cs (yt_X5_needRange σ _) rfl) (fun _ => ?_))
  refine es_Q (es_C (ee_aR (ee_R rfl) ee_aN) (ee_cv (yt_X4_release σ hv) (yv_rc hv rfl)) ?_)
  refine es_Q (es_SI (ee_M (ee_aR (ee_R rfl) (ee_aR (ee_R rfl) (ee_aI (ee_L rfl) (ee_aI (ee_L rfl) ee_aN)))) (ee_cv (yt_X5_seek (yn_release I hv) hv how h yu_at) rfl)) ?_)
  exact es_Q (es_E (ee_M (ee_aR (ee_rF (ee_R rfl) rfl) ee_aN) (ee_cv (yt_X0_drop _) rfl)) (es_eI (ee_L rfl)))
end YG4
