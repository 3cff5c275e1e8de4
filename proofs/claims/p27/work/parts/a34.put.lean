section LA34
variable {A B σ τ σ1 : sy_Mem} {t m : Nat} {ty key p here : Int32} {env : List Value} {Q R : List Value → sy_Mem → Prop}
-- statements where passing rows come and go
def gd (σ : sy_Mem) : Prop := ∀ j, 53 ≤ j → j ≤ 57 → σ 58 j = 0
abbrev rOK (σF : sy_Mem) : Option (((Option Value) ⊕ Nat) × sy_Mem) := some (.inl (some (.int 1)), σF)
def SR (s : sy_S) (env : List Value) (σ : sy_Mem) (Q : List Value → sy_Mem → Prop) : Prop := ∃ env' τ, Q env' τ ∧ ∀ k σF, gd σF → k env' τ = rOK σF → s env k σ = rOK σF
theorem sr_of {s : sy_S} (h : SX s env σ Q) : SR s env σ Q := by
  obtain ⟨e, τ, q, k⟩ := h
  exact ⟨e, τ, q, fun kk σF _ h => (k kk).trans h⟩
theorem sr_Q {a b : sy_S} (h1 : SR a env σ R) (h2 : ∀ e τ, R e τ → SR b e τ Q) : SR (sy_sQ a b) env σ Q := by
  obtain ⟨e1, τ1, r, k1⟩ := h1
  obtain ⟨e2, τ2, q, k2⟩ := h2 e1 τ1 r
  exact ⟨e2, τ2, q, fun k σF g h => k1 _ σF g (k2 k σF g h)⟩
theorem sr_B {mm : Nat} {s : sy_S} (h : SR s env σ (fun e τ => Q (e.take mm) τ)) : SR (sy_sB mm s) env σ Q := by
  obtain ⟨e1, τ1, r, k1⟩ := h
  exact ⟨_, τ1, r, fun k σF g h => k1 _ σF g h⟩
theorem sr_I {c : sy_CE} {a b : sy_S} {x : Bool} (hc : c env σ = some (.inl x, σ1)) (h1 : x = true → SR a env σ1 Q) (h2 : x = false → SR b env σ1 Q) : SR (sy_sI c a b) env σ Q := by
  cases x with
  | true =>
    obtain ⟨e1, τ1, r, k1⟩ := h1 rfl
    exact ⟨e1, τ1, r, fun k σF g h => (es_It hc rfl).trans (k1 k σF g h)⟩
  | false =>
    obtain ⟨e1, τ1, r, k1⟩ := h2 rfl
    exact ⟨e1, τ1, r, fun k σF g h => (es_If hc rfl).trans (k1 k σF g h)⟩
theorem sr_wh {c : sy_CE} {s : sy_S} {Inv : Nat → List Value → sy_Mem → Prop} {N : Nat} (go : ∀ i env σ, i ≤ N → Inv i env σ → ∃ x, c env σ = some (.inl x, σ) ∧ (x = true → i < N ∧ SR s env σ (Inv (i + 1))) ∧ (x = false → Q env σ)) : ∀ (j i m : Nat) (env : List Value) (σ : sy_Mem), i + j = N → j < m → Inv i env σ → SR (sy_wh c s m) env σ Q
  | j, i, m + 1, env, σ, hi, hm, hI => by
    obtain ⟨x, hc, h1, h2⟩ := go i env σ (by omega) hI
    cases x with
    | false =>
      refine ⟨env, σ, h2 rfl, fun k σF g h => ?_⟩
      unfold sy_wh
      rw [sy_bnd_at hc]
      exact h
    | true =>
      obtain ⟨hN, e1, τ1, r, k1⟩ := h1 rfl
      obtain ⟨j', rfl⟩ : ∃ j', j = j' + 1 := ⟨j - 1, by omega⟩
      obtain ⟨e2, τ2, q, k2⟩ := sr_wh go j' (i + 1) m e1 τ1 (by omega) (by omega) r
      refine ⟨e2, τ2, q, fun k σF g h => ?_⟩
      unfold sy_wh
      rw [sy_bnd_at hc]
      exact k1 _ σF g (k2 k σF g h)
  | _, _, 0, _, _, _, hm, _ => absurd hm (by omega)
theorem sr_New {kk i : Nat} {s : sy_S} (h1 : (sy_top kk σ && sy_nor kk env) = true) (hk : 53 ≤ kk ∧ kk ≤ 57) (h : SR s (sy_set env i (.ref kk)) (sy_new kk σ) (fun e τ => (!(τ 58 kk == 1) && sy_nor kk e) = true ∧ Q e τ)) : SR (sy_sNew kk i s) env σ Q := by
  obtain ⟨e1, τ1, ⟨r1, r2⟩, k1⟩ := h
  refine ⟨e1, τ1, r2, fun k σF g h => ?_⟩
  have := k1 (fun env' τ => if !(τ 58 kk == 1) && sy_nor kk env' then k env' τ else none) σF g (by rw [if_pos r1]; exact h)
  refine es_New h1 this ?_
  rw [g kk hk.1 hk.2]
  rfl
def ER (s : sy_S) (env : List Value) (σ : sy_Mem) (P : sy_Mem → Prop) : Prop := ∃ τ, s env (fun _ => sy_fail) σ = rOK τ ∧ gd τ ∧ P τ
variable {P : sy_Mem → Prop}
theorem er_Q {a b : sy_S} (h1 : SR a env σ R) (h2 : ∀ e τ, R e τ → ER b e τ P) : ER (sy_sQ a b) env σ P := by
  obtain ⟨e1, τ1, r, k1⟩ := h1
  obtain ⟨τ2, q, g, p⟩ := h2 e1 τ1 r
  exact ⟨τ2, k1 _ τ2 g q, g, p⟩
theorem er_D {a b : sy_S} {env' : List Value} (h : ∀ k, a env k σ = k env' σ1) (q : ER b env' σ1 P) : ER (sy_sQ a b) env σ P := by
  obtain ⟨τ2, q, g, p⟩ := q
  exact ⟨τ2, (h _).trans q, g, p⟩
theorem er_SI {i : Nat} {e : sy_IE} {x : Int32} {b : sy_S} (h : e env σ = some (.inl x, σ1)) (q : ER b (sy_set env i (.int x)) σ1 P) : ER (sy_sQ (sy_sSI i e) b) env σ P := er_D (fun _ => es_SI h rfl) q
theorem er_SR {i : Nat} {e : sy_RE} {x : Nat} {b : sy_S} (h : e env σ = some (.inl x, σ1)) (q : ER b (sy_set env i (.ref x)) σ1 P) : ER (sy_sQ (sy_sSR i e) b) env σ P := er_D (fun _ => es_SR h rfl) q
theorem er_New {kk i : Nat} {s : sy_S} (h1 : (sy_top kk σ && sy_nor kk env) = true) (hk : 53 ≤ kk ∧ kk ≤ 57) (h : ∃ τ, s (sy_set env i (.ref kk)) (fun env' τ => if !(τ 58 kk == 1) && sy_nor kk env' then sy_fail τ else none) (sy_new kk σ) = rOK τ ∧ gd τ ∧ P τ) : ER (sy_sNew kk i s) env σ P := by
  obtain ⟨τ, q, g, p⟩ := h
  refine ⟨τ, es_New h1 q ?_, g, p⟩
  rw [g kk hk.1 hk.2]
  rfl
theorem gd_top (g : gd σ) (k : Nat) : sy_top k σ = true := by
  unfold sy_top
  rw [List.all_eq_true]
  intro j hj
  have : σ 58 j = 0 := by
    simp only [List.mem_cons, List.not_mem_nil, or_false] at hj
    exact g j (by omega) (by omega)
  rw [this, show ((0 : Int32) == 1) = false from rfl]
  simp
-- numbers of a new one
theorem i64_is {x : Int32} (hx : 0 ≤ x.toInt) : x.toInt64 = pL x.toInt.toNat := by
  have hlt := x.toInt_lt
  have ex : x = nI x.toInt.toNat := yi_ext (by rw [nI_toInt (by omega)]; omega)
  conv => lhs; rw [ex]
  exact nI_i64 (by omega)
theorem t_slot (I : yn_I t A) (hS : ∀ s f, ya_slot σ s f = ya_slot A s f) {s : Nat} (hs : s < 4) {ty : Int32} (ht : 0 ≤ ty.toInt ∧ ty.toInt < 12) : sf_L_slot [.ref 0, .int (nI s), .int ty] σ = some (.inl (some (.long (pL (pk ty.toInt.toNat (ya_slot A (nI s) (nI 0)).toInt.toNat (ya_slot A (nI s) (nI 1)).toInt.toNat (ya_slot A (nI s) (nI 2)).toInt.toNat)))), σ) := by
  have r := fun f => ya_slot_rng I (nI s) (nI f)
  refine ke_meth (es_eL (ee_eq (ee_lB (ee_lB (ee_lB (ee_lI (ee_L rfl)) (ee_lB ee_lK (ee_lI (ee_eq (c_area CP_self hs (f := 0) (by omega) (ee_R rfl) (ee_L rfl) ee_K) (hS _ _))))) (ee_lB ee_lK (ee_lI (ee_eq (c_area CP_self hs (f := 1) (by omega) (ee_R rfl) (ee_L rfl) ee_K) (hS _ _))))) (ee_lB ee_lK (ee_lI (ee_eq (c_area CP_self hs (f := 2) (by omega) (ee_R rfl) (ee_L rfl) ee_K) (hS _ _))))) ?_)) (Nat.le_of_ble_eq_true rfl)
  rw [i64_is ht.1, i64_is (r 0).1, i64_is (r 1).1, i64_is (r 2).1, show (16 : Int64) = pL 16 from rfl, show (16384 : Int64) = pL 16384 from rfl, show (16777216 : Int64) = pL 16777216 from rfl, pL_mul, pL_mul, pL_mul, pL_add, pL_add, pL_add]
  rfl
-- a place made free
def pS (σ : sy_Mem) (d n : Nat) : Nat → sy_Mem
  | 0 => σ
  | j + 1 => sy_upL (pS σ d n j) (45 + d) (n - j) (lg (pS σ d n j) (45 + d) (n - j - 1))
theorem pS_ne {d n k : Nat} (hk : k ≠ 45 + d) : ∀ j, pS σ d n j k = σ k
  | 0 => rfl
  | j + 1 => by
    unfold pS
    rw [upL_ne hk, pS_ne hk j]
theorem pS_lg {d n : Nat} : ∀ j, j ≤ n → ∀ i, lg (pS σ d n j) (45 + d) i = if n - j < i ∧ i ≤ n then lg σ (45 + d) (i - 1) else lg σ (45 + d) i
  | 0, _, i => by
    rw [if_neg (by omega)]
    rfl
  | j + 1, hj, i => by
    unfold pS
    rw [lg_up]
    by_cases e : i = n - j
    · rw [if_pos ⟨rfl, e⟩, if_pos (by omega), pS_lg j (by omega), if_neg (by omega), e]
    · rw [if_neg (fun q => e q.2), pS_lg j (by omega)]
      by_cases q : n - j < i ∧ i ≤ n
      · rw [if_pos q, if_pos (by omega)]
      · rw [if_neg q, if_neg (by omega)]
def pM (σ : sy_Mem) (d n P : Nat) (z : Int64) : sy_Mem := sy_up (sy_upL (pS σ d n (n - P)) (45 + d) P z) 48 d (nI (n + 1))
theorem t_putIn {d n P : Nat} (hd : d < 3) (hn : n < 60) (hP : P ≤ n) (h48 : σ 48 d = nI n) (z : Int64) : sf_L_putIn [.ref (45 + d), .ref 48, .int (nI d), .int (nI P), .long z] σ = some (.inl none, pM σ d n P z) := by
  refine ke_meth ?_ (Nat.le_of_ble_eq_true rfl)
  refine es_Q (es_Q (es_B (es_Q (es_SI (ee_eq (ee_An (ee_R rfl) (ee_L rfl) (show d < 3 from hd) (by decide)) h48) ?_))))
  refine Eq.trans (ks_wh (E := fun j => [.ref (45 + d), .ref 48, .int (nI d), .int (nI P), .long z, .null, .int (nI (n - j))]) (S := fun j => pS σ d n j) (N := n - P) (fun j hj => ⟨ee_eq (ee_cB (ee_L rfl) (ee_L rfl)) ?_, fun k' => ?_⟩) (ee_eq (ee_cB (ee_L rfl) (ee_L rfl)) ?_) (n - P) 0 1000 (by omega) (by omega)) ?_
  · show decide (nI P < nI (n - j)) = true
    rw [nI_ltd (by omega) (by omega)]
    exact decide_eq_true (by omega)
  · have hl1 : n - j - 1 < sy_len 3 (45 + d) := by
      rw [rw_len hd]
      omega
    have hl2 : n - j < sy_len 3 (45 + d) := by
      rw [rw_len hd]
      omega
    have hl3 : sy_len 3 (45 + d) ≤ 200 := by
      rw [rw_len hd]
      omega
    have hi : sy_iSub (sy_iL 6) (sy_iK 1) [.ref (45 + d), .ref 48, .int (nI d), .int (nI P), .long z, .null, .int (nI (n - j))] (pS σ d n j) = some (.inl (nI (n - j - 1)), pS σ d n j) := ee_eq (ee_B (ee_L rfl) ee_K) (nsub (a := n - j) (b := 1) (by omega))
    have hrd : sy_lA (sy_rL 0) (sy_iSub (sy_iL 6) (sy_iK 1)) [.ref (45 + d), .ref 48, .int (nI d), .int (nI P), .long z, .null, .int (nI (n - j))] (pS σ d n j) = some (.inl (lg (pS σ d n j) (45 + d) (n - j - 1)), pS σ d n j) := ee_lA (ee_R rfl) hi hl1 hl3
    refine es_Q (es_WL (j := n - j) (a := 45 + d) (ee_R rfl) (ee_L rfl) hrd hl2 hl3 (es_In rfl ?_))
    have e1 : nI (n - j) + -1 = nI (n - (j + 1)) := by
      rw [ndec (show 1 ≤ n - j by omega)]
      exact congrArg nI (by omega)
    exact congrArg (fun q => k' [.ref (45 + d), .ref 48, .int (nI d), .int (nI P), .long z, .null, .int q] (pS σ d n (j + 1))) e1
  · show decide (nI P < nI (n - (n - P))) = false
    rw [nI_ltd (by omega) (by omega)]
    exact decide_eq_false (by omega)
  · have hl2 : P < sy_len 3 (45 + d) := by
      rw [rw_len hd]
      omega
    have hl3 : sy_len 3 (45 + d) ≤ 200 := by
      rw [rw_len hd]
      omega
    refine es_Q (es_WL (j := P) (a := 45 + d) (ee_R rfl) (ee_L rfl) (ee_LL rfl) hl2 hl3 ?_)
    refine es_An (j := d) (ee_R rfl) (ee_L rfl) ee_K (show d < 3 from hd) (by decide) ?_
    have e : sy_upL (pS σ d n (n - P)) (45 + d) P z 48 d + 1 = nI (n + 1) := by
      rw [upL_ne (by omega), pS_ne (by omega), h48]
      exact nadd (b := 1)
    rw [e]
    rfl
theorem pM_ne {d n P k : Nat} {z : Int64} (hk : k ≠ 45 + d) (h2 : k ≠ 48) : pM σ d n P z k = σ k := by
  unfold pM
  rw [up_ne h2, upL_ne hk, pS_ne hk]
/-- the rows behind an adding -/
theorem put_RW (H : yx_H t A ty p key here) (hne : ∀ k, k = 11 ∨ k = 15 ∨ k = 16 → B k = ya_add A ty p key here k) (hN : ∀ s, yl A s → ∀ f : Nat, f < 3 → ya_N B s (nI f) = ya_N A s (nI f)) (Rw : RW A σ) {d : Nat} (hd : d < 3) (hD : tD A ty = nI d) : RW B (pM σ d (cn A d) (ya_plc A ty p key here) (pL (sk B (nI (ya_fr A))))) := by
  have I := H.1
  have h60 := cn_le I hd
  have hP := (yx_c H).2
  have hcl : (ya_cnt A (tD A ty)).toNatClampNeg = cn A d := by
    rw [hD, (cnt_nI I hd).1, nI_clamp (by omega)]
  rw [hcl] at hP
  have hc60 : cn A d < 60 := by
    have := H.2.2.2
    rw [hcl] at this
    exact this
  have eat : ∀ d' q : Nat, sg B d' q = ya_at (ya_add A ty p key here) (nI d') (nI q) := fun d' q => by
    show ya_at B (nI d') (nI q) = _
    unfold ya_at
    rw [hne 15 (by omega), hne 16 (by omega)]
  have esk : ∀ s, yl A s → sk B s = sk A s := fun s hs => by
    unfold sk
    have eT : yT B s = yT A s := by
      rw [show yT B s = yT (ya_add A ty p key here) s from ya_sg_c (hne 11 (by omega)) s, yx_To H hs]
    have e0 : ya_N B s 0 = ya_N A s 0 := hN s hs 0 (by omega)
    have e1 : ya_N B s 1 = ya_N A s 1 := hN s hs 1 (by omega)
    have e2 : ya_N B s 2 = ya_N A s 2 := hN s hs 2 (by omega)
    rw [eT, e0, e1, e2]
  intro d' hd'
  by_cases e : d' = d
  · subst e
    have ecn : cn B d' = cn A d' + 1 := by
      show (B 16 d').toInt.toNat = _
      rw [hne 16 (by omega)]
      have := yx_cntD H
      rw [hcl, hD, ya_cnt_in (by rw [nI_toInt (by omega)]; omega), nI_clamp (by omega)] at this
      rw [this, nI_toInt (by omega)]
      omega
    refine ⟨?_, fun q hq => ?_⟩
    · rw [ecn]
      unfold pM
      rw [up_at, if_pos rfl]
    · rw [ecn] at hq
      have hat := yx_at H (i := q) (by rw [hcl]; omega)
      rw [hD] at hat
      rw [eat, hat]
      have elg : lg (pM σ d' (cn A d') (ya_plc A ty p key here) (pL (sk B (nI (ya_fr A))))) (45 + d') q = if q = ya_plc A ty p key here then pL (sk B (nI (ya_fr A))) else if ya_plc A ty p key here < q then lg σ (45 + d') (q - 1) else lg σ (45 + d') q := by
        unfold pM
        rw [lg_up0 (by omega), lg_up]
        by_cases e1 : q = ya_plc A ty p key here
        · rw [if_pos ⟨rfl, e1⟩, if_pos e1]
        · rw [if_neg (fun h => e1 h.2), if_neg e1, pS_lg _ (by omega)]
          by_cases e2 : ya_plc A ty p key here < q
          · rw [if_pos (by omega), if_pos e2]
          · rw [if_neg (by omega), if_neg e2]
      rw [elg]
      by_cases e1 : q = ya_plc A ty p key here
      · rw [if_pos e1, if_neg (by omega), if_pos e1]
      · rw [if_neg e1]
        by_cases e2 : q < ya_plc A ty p key here
        · rw [if_pos e2, if_neg (by omega)]
          have hqa : q < cn A d' := by omega
          rw [(Rw d' hd').2 q hqa]
          exact congrArg pL (esk _ (sg_ok I hd' hqa).1).symm
        · rw [if_neg e2, if_neg e1, if_pos (by omega)]
          have hqa : q - 1 < cn A d' := by omega
          rw [(Rw d' hd').2 (q - 1) hqa]
          exact congrArg pL (esk _ (sg_ok I hd' hqa).1).symm
  · have hdne : nI d' ≠ tD A ty := fun h => by
      rw [hD] at h
      have := congrArg Int32.toInt h
      rw [nI_toInt (by omega), nI_toInt (by omega)] at this
      omega
    have ecn : cn B d' = cn A d' := by
      show (B 16 d').toInt.toNat = _
      rw [hne 16 (by omega)]
      have := yx_cnto H hdne
      rw [ya_cnt_in (by rw [nI_toInt (by omega)]; omega), ya_cnt_in (by rw [nI_toInt (by omega)]; omega), nI_clamp (by omega)] at this
      rw [this]
    obtain ⟨r1, r2⟩ := Rw d' hd'
    refine ⟨?_, fun q hq => ?_⟩
    · rw [ecn, ← r1]
      unfold pM
      rw [up_at, if_neg e, upL_ne (by omega), pS_ne (by omega)]
    · rw [ecn] at hq
      rw [eat, yx_ato H hdne]
      have elg : lg (pM σ d (cn A d) (ya_plc A ty p key here) (pL (sk B (nI (ya_fr A))))) (45 + d') q = lg σ (45 + d') q := by
        unfold pM
        rw [lg_up0 (by omega), lg_up, if_neg (fun h => e (by omega))]
        unfold lg
        rw [pS_ne (by omega)]
      rw [elg, r2 q hq]
      exact congrArg pL (esk _ (sg_ok I hd' hq).1).symm
theorem yx_NZ12 (H : yx_H t A ty p key here) : ya_N (ya_add A ty p key here) (nI (ya_fr A)) 1 = 0 ∧ ya_N (ya_add A ty p key here) (nI (ya_fr A)) 2 = 0 := by
  have hz := H.2.2.1
  have hin : 0 ≤ (nI (ya_fr A)).toInt ∧ (nI (ya_fr A)).toInt < 60 := by rw [nI_toInt (by omega)]; omega
  rw [ya_N_in hin (by decide), ya_N_in hin (by decide), nI_clamp (by omega), yx_14, show (1 : Int32).toNatClampNeg = 1 from rfl, show (2 : Int32).toNatClampNeg = 2 from rfl]
  refine ⟨?_, ?_⟩
  · rw [upd_ne (by omega), upd_ne (by omega), upd_at]
  · rw [upd_ne (by omega), upd_at]
/-- the types behind an adding -/
theorem add_TT (T : TT A σ) (hlo : ∀ k, k < 10 → B k = A k) (h44 : τ 44 = σ 44) : TT B τ := fun i hi => by
  rw [hlo 1 (by omega)] at hi
  obtain ⟨t1, t2⟩ := T i hi
  rw [h44, hlo 8 (by omega), hlo 9 (by omega)]
  refine ⟨?_, t2⟩
  rw [t1]
  unfold tn
  rw [hlo 2 (by omega), hlo 3 (by omega), hlo 4 (by omega), hlo 5 (by omega), hlo 6 (by omega), hlo 7 (by omega), hlo 8 (by omega), hlo 9 (by omega)]
/-- a list of roots, in the law's row -/
def mR (kk c : Nat) (u w : Nat → Int32) (σ : sy_Mem) : Prop := σ 58 kk = 1 ∧ σ kk 0 = nI c ∧ ∀ i, i < c → σ kk (1 + i) = 1000 * u i + w i
theorem code_dv {u w : Int32} (hu : 0 ≤ u.toInt ∧ u.toInt < 12) (hw : 0 ≤ w.toInt ∧ w.toInt ≤ 999) : (1000 * u + w) / 1000 = u ∧ (1000 * u + w) - (1000 * u + w) / 1000 * 1000 = w ∧ ∀ u' w' : Int32, (0 ≤ u'.toInt ∧ u'.toInt < 12) → (0 ≤ w'.toInt ∧ w'.toInt ≤ 999) → (1000 * u + w = 1000 * u' + w' ↔ (u = u' ∧ w = w')) := by
  have main : ∀ u w : Int32, (0 ≤ u.toInt ∧ u.toInt < 12) → (0 ≤ w.toInt ∧ w.toInt ≤ 999) → 1000 * u + w = nI (1000 * u.toInt.toNat + w.toInt.toNat) ∧ u = nI u.toInt.toNat ∧ w = nI w.toInt.toNat := fun u w hu hw => by
    have eu : u = nI u.toInt.toNat := (ntI (by omega) (by omega)).symm
    have ew : w = nI w.toInt.toNat := (ntI (by omega) (by omega)).symm
    refine ⟨?_, eu, ew⟩
    conv => lhs; rw [eu, ew]
    rw [show (1000 : Int32) = nI 1000 from rfl, nmul, nadd]
  obtain ⟨e, eu, ew⟩ := main u w hu hw
  refine ⟨?_, ?_, fun u' w' hu' hw' => ⟨fun h => ?_, fun h => by rw [h.1, h.2]⟩⟩
  · rw [e, show (1000 : Int32) = nI 1000 from rfl, ndiv (by omega) (by omega)]
    exact ntI (by omega) (by omega)
  · rw [e, show (1000 : Int32) = nI 1000 from rfl, nmod (by omega) (by omega)]
    exact ntI (by omega) (by omega)
  · obtain ⟨e', -, -⟩ := main u' w' hu' hw'
    rw [e, e'] at h
    have := congrArg Int32.toInt h
    rw [nI_toInt (by omega), nI_toInt (by omega)] at this
    exact ⟨yi_ext (by omega), yi_ext (by omega)⟩
/-- what one root more comes to -/
def MS (t : Nat) (A : sy_Mem) (u w : Int32) (B : sy_Mem) : Prop := yx_H t A u (-1) w (-1) ∧ (∀ k, k = 11 ∨ k = 15 ∨ k = 16 → B k = ya_add A u (-1) w (-1) k) ∧ (∀ s, yl A s → ∀ f : Nat, f < 3 → ya_N B s (nI f) = ya_N A s (nI f)) ∧ (ya_N B (nI (ya_fr A)) 0 = w ∧ ya_N B (nI (ya_fr A)) 1 = 0 ∧ ya_N B (nI (ya_fr A)) 2 = 0) ∧ ∀ k, k < 10 → B k = A k
theorem ms_add {u w : Int32} (H : yx_H t A u (-1) w (-1)) : MS t A u w (ya_add A u (-1) w (-1)) := ⟨H, fun _ _ => rfl, fun s hs f _ => yx_N H hs (nI f), ⟨yx_NZ H, yx_NZ12 H⟩, fun k hk => yx_lo hk⟩
/-- roots made, one after the other -/
theorem t_makesG {kk c : Nat} {u w : Nat → Int32} {C : Nat → sy_Mem} {tt : Nat → Nat} (hk : 53 ≤ kk ∧ kk ≤ 57) (hc : c < sy_tl kk) (hC : ∀ i, i < c → MS (tt i) (C i) (u i) (w i) (C (i + 1))) (M : mR kk c u w σ) (T : TT (C 0) σ) (Rw : RW (C 0) σ) : ∃ τ, sf_L_makes [.ref 44, .ref 45, .ref 46, .ref 47, .ref 48, .ref kk] σ = some (.inl none, τ) ∧ RW (C c) τ ∧ TT (C c) τ ∧ ∀ k, k < 45 ∨ 48 < k → τ k = σ k := by
  have h5 : sy_tl kk ≤ 5 := by unfold sy_tl; split <;> omega
  refine ex_m (σ := σ) (v := none) (P := fun τ => RW (C c) τ ∧ TT (C c) τ ∧ ∀ k, k < 45 ∨ 48 < k → τ k = σ k) ?_ (Nat.le_of_ble_eq_true rfl)
  refine ex_Q (R := fun e τ => e = [.ref 44, .ref 45, .ref 46, .ref 47, .ref 48, .ref kk] ∧ RW (C c) τ ∧ TT (C c) τ ∧ ∀ k, k < 45 ∨ 48 < k → τ k = σ k) (sx_B (sx_SIQ ee_K ?_)) (fun e τ h => ⟨τ, rfl, h.2⟩)
  refine sx_wh (N := c) (Inv := fun i env τ => env = [.ref 44, .ref 45, .ref 46, .ref 47, .ref 48, .ref kk, .int (nI i)] ∧ RW (C i) τ ∧ TT (C i) τ ∧ ∀ k, k < 45 ∨ 48 < k → τ k = σ k) (fun i env τ hi hI => ?_) c 0 1000 _ _ (by omega) (by omega) ⟨rfl, Rw, T, fun _ _ => rfl⟩
  obtain ⟨rfl, Rw', T', F⟩ := hI
  have hT : sy_isT kk τ = true := by
    unfold sy_isT
    rw [F 58 (by omega), M.1, decide_eq_true hk.1, decide_eq_true hk.2]
    rfl
  refine ⟨decide (i < c), ee_eq (ee_cB (ee_L rfl) (ee_eq (ee_T (j := 0) (ee_R rfl) ee_K hT (by omega)) (by rw [F kk (by omega)]; exact M.2.1))) (nI_ltd (by omega) (by omega)), fun hx => ?_, fun hx => ?_⟩
  · have hic := of_decide_eq_true hx
    refine ⟨hic, ?_⟩
    obtain ⟨H, hS2, hS3, hS4, hS5⟩ := hC i hic
    have I := H.1
    obtain ⟨hty, -, hw, -⟩ := H.2.1
    have hu := isT_12 I hty
    obtain ⟨cv1, cv2, -⟩ := code_dv hu hw
    obtain ⟨d, hd, hD⟩ := tD_nI I hty
    have h60 := cn_le I hd
    have hP := (yx_c H).2
    have hcl : (ya_cnt (C i) (tD (C i) (u i))).toNatClampNeg = cn (C i) d := by
      rw [hD, (cnt_nI I hd).1, nI_clamp (by omega)]
    have hc60 : cn (C i) d < 60 := by
      have := H.2.2.2
      rw [hcl] at this
      exact this
    rw [hcl] at hP
    have hread : ∀ env : List Value, env[5]? = some (.ref kk) → env[6]? = some (.int (nI i)) → sy_iT (sy_rL 5) (sy_iAdd (sy_iK 1) (sy_iL 6)) env τ = some (.inl (1000 * u i + w i), τ) := fun env h5' h6 => by
      rw [← M.2.2 i hic, ← F kk (by omega)]
      exact ee_T (ee_R h5') (ee_eq (ee_B ee_K (ee_L h6)) (show nI 1 + nI i = nI (1 + i) from nadd)) hT (by omega)
    refine sx_Q (R := fun e τ2 => e = [.ref 44, .ref 45, .ref 46, .ref 47, .ref 48, .ref kk, .int (nI i)] ∧ RW (C (i + 1)) τ2 ∧ TT (C (i + 1)) τ2 ∧ ∀ k, k < 45 ∨ 48 < k → τ2 k = σ k) (sx_B ?_) (fun e τ2 h => ⟨_, _, ⟨rfl, h.2⟩, fun k => ?_⟩)
    · refine sx_SIQ (ee_eq (ee_Dv (hread _ rfl rfl) ee_K (by decide)) cv1) (sx_SIQ (ee_eq (ev_b I T' hty (ee_R rfl) (ee_L rfl)) hD) (sx_SRQ (ee_rM (ee_aI (ee_L rfl) (ee_aR (ee_R rfl) (ee_aR (ee_R rfl) (ee_aR (ee_R rfl) ee_aN)))) (ee_cr (t_row hd) rfl)) ?_))
      have hcomes := t_comes I T' Rw' H.2.1 hd hD (Or.inl rfl) (Or.inl rfl)
      have hz : pk (u i).toInt.toNat (w i).toInt.toNat 0 0 = sk (C (i + 1)) (nI (ya_fr (C i))) := by
        unfold sk
        rw [show yT (C (i + 1)) (nI (ya_fr (C i))) = u i from (ya_sg_c (hS2 11 (by omega)) _).trans (yx_TZ H), hS4.1, hS4.2.1, hS4.2.2]
        rfl
      have hput := t_putIn (σ := τ) (P := ya_plc (C i) (u i) (-1) (w i) (-1)) hd hc60 hP (Rw' d hd).1 (pL (sk (C (i + 1)) (nI (ya_fr (C i)))))
      have hRW := put_RW (B := C (i + 1)) H hS2 hS3 Rw' hd hD
      refine ⟨_, _, ?_, fun k => es_C (ee_aR (ee_R rfl) (ee_aR (ee_R rfl) (ee_aI (ee_L rfl) (ee_aI (ee_M (ee_aR (ee_R rfl) (ee_aR (ee_R rfl) (ee_aI (ee_eq (ee_An (ee_R rfl) (ee_L rfl) (show d < 3 from hd) (by decide)) (Rw' d hd).1) (ee_aI (ee_L rfl) (ee_aI ee_K (ee_aI (ee_eq (ee_Dv (hread _ rfl rfl) ee_K (by decide)) cv2) (ee_aI ee_K ee_aN))))))) (ee_cr hcomes rfl)) (ee_aL (ee_eq (ee_lB (ee_lI (ee_L rfl)) (ee_lB ee_lK (ee_lI (ee_eq (ee_Dv (hread _ rfl rfl) ee_K (by decide)) cv2)))) ?_) ee_aN))))) (ee_cr hput rfl) rfl⟩
      · refine ⟨rfl, hRW, add_TT T' hS5 (pM_ne (by omega) (by omega)), fun k hk => ?_⟩
        rw [pM_ne (by omega) (by omega)]
        exact F k hk
      · rw [i64_is hu.1, i64_is hw.1, show (16 : Int64) = pL 16 from rfl, pL_mul, pL_add, ← hz]
        rfl
    · rw [h.1]
      refine es_In rfl ?_
      exact congrArg (fun z => k [.ref 44, .ref 45, .ref 46, .ref 47, .ref 48, .ref kk, .int z] τ2) (nadd (a := i) (b := 1))
  · have : i = c := by
      have := of_decide_eq_false hx
      omega
    rw [this] at Rw' T'
    exact ⟨rfl, Rw', T', F⟩
theorem t_makes {kk c : Nat} {u w : Nat → Int32} {C : Nat → sy_Mem} {tt : Nat → Nat} (hk : 53 ≤ kk ∧ kk ≤ 57) (hc : c < sy_tl kk) (hC : ∀ i, i < c → C (i + 1) = ya_add (C i) (u i) (-1) (w i) (-1) ∧ yx_H (tt i) (C i) (u i) (-1) (w i) (-1)) (M : mR kk c u w σ) (T : TT (C 0) σ) (Rw : RW (C 0) σ) : ∃ τ, sf_L_makes [.ref 44, .ref 45, .ref 46, .ref 47, .ref 48, .ref kk] σ = some (.inl none, τ) ∧ RW (C c) τ ∧ TT (C c) τ ∧ ∀ k, k < 45 ∨ 48 < k → τ k = σ k :=
  t_makesG (tt := tt) hk hc (fun i hi => by
    obtain ⟨h1, h2⟩ := hC i hi
    rw [h1]
    exact ms_add h2) M T Rw
end LA34
