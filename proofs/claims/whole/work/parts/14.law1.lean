section SYK
def sy_tr {α : Type} (m : sy_MM α) (k : α → sy_MM (Option Value)) (kx : Nat → sy_MM (Option Value)) : sy_MM (Option Value) := fun σ => match m σ with
  | some (.inl a, t) => k a t
  | some (.inr e, t) => kx e t
  | none => none
def sy_hx (nc E : Nat) : sy_MM (Option Value) := if 1 ≤ E ∧ E ≤ nc then sy_ret (some (.int (Int32.ofNat E))) else sy_fail
section SYK1
variable {X : sy_Cx} {μ : sy_Mu} {n pc : Nat} {env st : List Value}
theorem sy_B_widen {f : sy_MM (Option Value)} (h : n + 1 ≤ sy_xn X) (k : sy_B X (n + 1) pc env st f) : sy_B X n pc env st f := fun σ _ hf H locs ls hP hS hE => W.widen (Nat.le_succ n) (by omega) (k σ h hf H locs ls hP hS hE)
/-- a call, with what happens when it throws -/
theorem sy_invT (F : sy_FX X μ) {y : MethodName} {cy : ByteArray} {nLy hy m ix ci a : Nat} {rety : Option FieldType} {g : List Value → sy_MM (Option Value)} {fs : List (Option Nat)} {vs : List Value} (hM : sy_KM y cy nLy rety hy g) (hc : sy_cV μ.1 ix ci y cy nLy rety m) (hh : hy + 1 ≤ μ.2.2.2.1)
    (d : decode μ.2.1 pc = .ok (.invokevirtual ix, 3)) (hl : sy_lay a = .inl (ci, fs)) (hm : vs.length = m) (hs : (st.map fun v => v.category).sum ≤ 8) (h1 : n + 1 ≤ sy_xn X) {kk : Option Value → sy_MM (Option Value)} {fE : Nat → sy_MM (Option Value)} (k : ∀ r, sy_B X n (pc + 3) env (r.toList ++ st) (kk r))
    (kx : ∀ (E : Nat) (τ : sy_Mem) (H : Heap) (locs : List Loc) (ls : Array Slot) (q : Addr) (ce : Cell), fE E τ = some (sy_xg X) → sy_P X τ H → sy_Z X H locs → sy_eok (sy_xb X) ls (sy_xc X).maxLocals env → H[q]? = some ce → ce.vm = .none → (sy_xs X).vm.findClass (sy_ex E) = some ce.cls →
      vx_W (sy_xp X) (sy_xl X) (sy_xe X) (sy_xR X) (sy_xs X) (sy_xm X) (sy_xa X) (sy_xo X) (sy_xM X) (sy_xc X) H locs (n + 1) (6 * n + 6) (sy_xQ X) (F0 (sy_xm X) pc ls (st.map (sy_sh (sy_xb X)))) q) :
    sy_B X n pc env (vs.reverse ++ .ref a :: st) (sy_tr (g (.ref a :: vs)) kk fE) := by
  intro σ hn hf H locs ls hP hS hE
  unfold sy_tr at hf
  cases hg : g (.ref a :: vs) σ with
  | none => rw [hg] at hf; cases hf
  | some o =>
    obtain ⟨r, τ⟩ := o
    rw [hg] at hf
    obtain ⟨hw, hd, h23, T, N, hci⟩ := hc
    have hKM := hM (sy_xl X) (sy_xD X) (sy_xA X) (sy_xb X) (.ref a :: vs) σ r τ F.tr hg
    have hG : GoodIn sy_AL (wsV μ.1 ix y.cls y (Cond.code y cy nLy rety :: sy_AL)) := fun w h => sy_good (by
      simp only [wsV, List.mem_append, List.mem_cons, List.not_mem_nil, or_false] at h
      rcases h with (h | h | h | h) | h | h
      · exact hw w (by simp [h])
      · exact hw w (by simp [h])
      · exact hw w (by simp [h])
      · exact hw w (by simp [h])
      · exact hw w (by simp [h])
      · exact h)
    have hfr := F.fr
    have hce := F.ce
    have hroom : n + sy_mc r ≤ (sy_xR X).cells ∧ 6 * n + 6 * sy_mc r ≤ (sy_xR X).slots := by
      have : sy_mc r ≤ 1 := by cases r <;> simp [sy_mc]
      constructor <;> omega
    have hrun := vx_runV (e := sy_xe X) (below := sy_xo X) (meth := sy_xM X) (R := sy_xR X) (H := H) (locs := locs) (cells := n) (slots := 6 * n) (rest := st.map (sy_sh (sy_xb X))) (g := F0 (sy_xm X) pc ls ((vs.reverse ++ .ref a :: st).map (sy_sh (sy_xb X)))) (As := vs.map (sy_sh (sy_xb X))) (b := sy_xb X + a) (C := y.cls) ⟨F.e, F.c, rfl, F.o, F.w⟩ hKM (cwV m F.w hG rfl rfl rfl ⟨rfl, hd⟩ ⟨Nat.le_trans hh hfr.1, by show 8 + (nLy + 11) + 42 * hy ≤ (sy_xR X).locals; omega⟩) ⟨sy_blind _ _ _ _ _, va_recv F.k hP hci (sy_wd_o hl), fun U hU hW => ⟨rfl, sy_calledPW F hP hS U hU hW⟩⟩ rfl (by simpa using hm) hE.1 (by simp [F0, sy_sh]) (lv_room (by rw [sy_sh_sum]; exact hs)) d hroom
    intro T hT XS
    rcases hrun T hT XS with ⟨v, st₀, t, T', L, h0, X', hL, e1, e2, ⟨⟨w, hw, hoc, hP'⟩, hF⟩, sg⟩ | ⟨q, st₀, t, T', L, E, ce, h0, X', hL, e1, e2, ⟨⟨kE, hk1, hk2, hP'⟩, hF⟩, hce, hcv, hcl, sg⟩
    · subst hw
      cases hoc
      obtain ⟨-, -, k3⟩ := vx_keep h0 e1 hS (A1 := sy_ab (sy_xb X)) (fun _ _ h => h) (fun _ h => h) hL hF
      obtain ⟨t2, a1, b1⟩ := k w τ hn hf T'.heap (locs ++ L) ls (by rw [e1]; exact hP') k3 hE T' rfl X'
      refine ⟨t2, sg t2 ?_, b1⟩
      rw [List.map_append, show w.toList.map (sy_sh (sy_xb X)) = (w.map (sy_sh (sy_xb X))).toList by cases w <;> rfl] at a1
      exact a1
    · subst hk1
      obtain ⟨-, -, k3⟩ := vx_keep h0 e1 hS (A1 := sy_ab (sy_xb X)) (fun _ _ h => h) (fun _ h => h) hL hF
      subst hk2
      obtain ⟨t2, a1, b1⟩ := kx kE τ T'.heap (locs ++ L) ls q ce hf (by rw [e1]; exact hP') k3 hE (by rw [e1]; exact hce) hcv hcl T' rfl X'
      exact ⟨t2, sg.trans a1, b1⟩
def sy_hd (cc : ByteArray) (nL hp E : Nat) : Prop := ∃ p2 : Nat, ((∃ i : Fin 4, decode cc hp = .ok (.astore_n i, 1) ∧ p2 = hp + 1 ∧ (i : Nat) < nL) ∨ (∃ i : Nat, decode cc hp = .ok (.astore i, 2) ∧ p2 = hp + 2 ∧ i < nL)) ∧ decode cc p2 = .ok (.iconst (E : Int), 1) ∧ decode cc (p2 + 1) = .ok (.ireturn, 1)
theorem sy_hrun (F : sy_FX X μ) {hp E : Nat} (hd : sy_hd μ.2.1 μ.2.2.2.2.1 hp E) (hr : μ.2.2.1 = some .int) {τ : sy_Mem} (hg : sy_xg X = (.inl (some (.int (Int32.ofNat E))), τ)) (h1 : n + 1 ≤ sy_xn X) {H : Heap} {locs : List Loc} {ls : Array Slot} {q : Addr} (hP : sy_P X τ H) (hS : sy_Z X H locs) (hE : sy_eok (sy_xb X) ls (sy_xc X).maxLocals env) :
    sy_W X (n + 1) H locs (F0 (sy_xm X) hp ls [.ref q]) := by
  obtain ⟨p2, h, d2, d3⟩ := hd
  have fin : ∀ ls' : Array Slot, sy_W X (n + 1) H locs (F0 (sy_xm X) p2 ls' []) := fun ls' =>
    lv_iconst F.e F.c d2 rfl (F.re (some (.int (Int32.ofNat E))) τ hg (n + 1) H locs ls' (p2 + 1) h1 hP hS ⟨d3, Or.inl hr⟩)
  rcases h with ⟨i, d1, rfl, hi⟩ | ⟨i, d1, rfl, hi⟩
  · exact lv_astore_n F.e F.c d1 rfl hE.has (by rw [F.ml]; exact hi) rfl (fun ls' _ => fin ls')
  · exact lv_astore F.e F.c d1 hE.has (by rw [F.ml]; exact hi) rfl (fun ls' _ => fin ls')
/-- the tables of the law's calls: handlers in the order of the numbers of the exceptions -/
def sy_ct : Nat → Nat | 1 => 13 | 2 => 15 | _ => 17
def sy_hh (e : Nat) (hs : List Nat) : List (Nat × Nat × Nat × Nat) := hs.mapIdx fun i h => (0, e, h, sy_ct (i + 1))
def sy_lk : Prop := ∀ E, 1 ≤ E → E ≤ 3 → Cond.classLink "SegmentYardLaw" (sy_ct E) (sy_ex E) ∈ sy_AL ∧ Cond.castable (sy_ex E) (sy_ex E) ∈ sy_EX
theorem sy_caught (F : sy_FX X μ) (h0 : μ.1 = "SegmentYardLaw") (hk : sy_lk) (hN : sy_NC (sy_xs X)) {e E hp : Nat} {hs : List Nat} (hT : (sy_xc X).exceptionTable.toList = tableOf (sy_hh e hs)) (hE1 : 1 ≤ E) (hE3 : E ≤ 3) (hhp : hs[E - 1]? = some hp) (hpc : pc < e) {H : Heap} {locs : List Loc} {ls : Array Slot} {rest : List Value} {q : Addr} {ce : Cell}
    (hce : H[q]? = some ce) (hcv : ce.vm = .none) (hcl : (sy_xs X).vm.findClass (sy_ex E) = some ce.cls) (kk : sy_W X (n + 1) H locs (F0 (sy_xm X) hp ls [.ref q])) :
    vx_W (sy_xp X) (sy_xl X) (sy_xe X) (sy_xR X) (sy_xs X) (sy_xm X) (sy_xa X) (sy_xo X) (sy_xM X) (sy_xc X) H locs (n + 1) (6 * n + 6) (sy_xQ X) (F0 (sy_xm X) pc ls rest) q := by
  have ho : (sy_xs X).vm.findClass "SegmentYardLaw" = some (sy_xm X).cls := by have := F.o; rw [h0] at this; exact this
  have hcov : ∀ hp t, covers (⟨0, e, hp, t⟩ : ExceptionTableEntry) pc = true := fun hp t => by simp [covers, hpc]
  have hlk : ∀ k, 1 ≤ k → k ≤ 3 → (Cond.classLink "SegmentYardLaw" (sy_ct k) (sy_ex k)).before (sy_xa X) (sy_xs X) = true := fun k h1 h2 => F.w _ (hk k h1 h2).1
  have hca : (Cond.castable (sy_ex E) (sy_ex E)).before (sy_xa X) (sy_xs X) = true := va_Nw.use rfl (F.t.2.1 _ (hk E hE1 hE3).2)
  match E, hE1, hE3, hs, hhp with
  | 1, _, _, h1 :: tl, hhp =>
    simp at hhp
    subst hhp
    exact vx_catch ho [] ⟨0, e, h1, 13⟩ (tableOf ((tl.mapIdx fun i h => (0, e, h, sy_ct (i + 2))))) (by rw [hT]; simp [sy_hh, tableOf, List.mapIdx_cons, sy_ct, Function.comp]) (fun z hz => by cases hz) (hcov _ _) (by simp) (hlk 1 (by decide) (by decide)) hca hce hcv hcl kk
  | 2, _, _, h1 :: h2 :: tl, hhp =>
    simp at hhp
    subst hhp
    refine vx_catch ho [⟨0, e, h1, 13⟩] ⟨0, e, h2, 15⟩ (tableOf ((tl.mapIdx fun i h => (0, e, h, sy_ct (i + 3))))) (by rw [hT]; simp [sy_hh, tableOf, List.mapIdx_cons, sy_ct, Function.comp]) (fun z hz => ?_) (hcov _ _) (by simp) (hlk 2 (by decide) (by decide)) hca hce hcv hcl kk
    simp at hz
    subst hz
    exact Or.inr ⟨by simp, sy_ex 1, hlk 1 (by decide) (by decide), hN.1⟩
  | 3, _, _, h1 :: h2 :: h3 :: tl, hhp =>
    simp at hhp
    subst hhp
    refine vx_catch ho [⟨0, e, h1, 13⟩, ⟨0, e, h2, 15⟩] ⟨0, e, h3, 17⟩ (tableOf ((tl.mapIdx fun i h => (0, e, h, sy_ct (i + 4))))) (by rw [hT]; simp [sy_hh, tableOf, List.mapIdx_cons, sy_ct, Function.comp]) (fun z hz => ?_) (hcov _ _) (by simp) (hlk 3 (by decide) (by decide)) hca hce hcv hcl kk
    simp at hz
    rcases hz with rfl | rfl
    · exact Or.inr ⟨by simp, sy_ex 1, hlk 1 (by decide) (by decide), hN.2.1⟩
    · exact Or.inr ⟨by simp, sy_ex 2, hlk 2 (by decide) (by decide), hN.2.2⟩
end SYK1
def sy_mL (a : Nat) (v : Int64) : sy_MM Unit := fun σ => if sy_len 3 a = 1 then some (.inl (), sy_upL σ a v) else none
def sy_hI (ro : sy_RE) (as : sy_AE) (c : List Value → sy_MM (Option Value)) (nc : Nat) : sy_S := fun env _ => sy_bnd (ro env) fun a => sy_bnd (as env) fun vs => sy_tr (c vs) (fun r => sy_bnd (sy_toI r) fun x => sy_bnd (sy_mL a x.toInt64) fun _ => sy_ret (some (.int 0))) (sy_hx nc)
def sy_hL (ro : sy_RE) (as : sy_AE) (c : List Value → sy_MM (Option Value)) (nc : Nat) : sy_S := fun env _ => sy_bnd (ro env) fun a => sy_bnd (as env) fun vs => sy_tr (c vs) (fun r => sy_bnd (sy_toL r) fun x => sy_bnd (sy_mL a x) fun _ => sy_ret (some (.int 0))) (sy_hx nc)
def sy_hV (as : sy_AE) (c : List Value → sy_MM (Option Value)) (nc : Nat) : sy_S := fun env _ => sy_bnd (as env) fun vs => sy_tr (c vs) (fun r => match r with | none => sy_ret (some (.int 0)) | _ => sy_fail) (sy_hx nc)
/-- a body of the law's, that catches -/
def sy_OH (μ : sy_Mu) (e : Nat) (hs : List Nat) (s : sy_S) : Prop := ∀ X : sy_Cx, sy_FX X μ → sy_NC (sy_xs X) → (sy_xc X).exceptionTable.toList = tableOf (sy_hh e hs) → 1 ≤ sy_xn X → ∀ (env : List Value) (k : List Value → sy_MM (Option Value)), sy_B X 0 0 env [] (s env k)
section SYK2
variable {μ : sy_Mu} {p0 p1 e m nc L : Nat} {hs : List Nat} {as : sy_AE} {ro : sy_RE} {y : MethodName} {cy : ByteArray} {nLy hy ix : Nat} {rety : Option FieldType} {g : List Value → sy_MM (Option Value)}
theorem sy_hcall {X : sy_Cx} (F : sy_FX X μ) (hN : sy_NC (sy_xs X)) (hT : (sy_xc X).exceptionTable.toList = tableOf (sy_hh e hs)) (hn1 : 1 ≤ sy_xn X) (h0 : μ.1 = "SegmentYardLaw") (hlk : sy_lk) (hr : μ.2.2.1 = some .int) (hM : sy_KM y cy nLy rety hy g) (hc : sy_cV μ.1 ix 5 y cy nLy rety m) (hh : hy + 1 ≤ μ.2.2.2.1) (d : decode μ.2.1 p1 = .ok (.invokevirtual ix, 3)) (hpe : p1 < e)
    (hnc : nc ≤ 3) (hhs : ∀ E, 1 ≤ E → E ≤ nc → ∃ hp, hs[E - 1]? = some hp ∧ sy_hd μ.2.1 μ.2.2.2.2.1 hp E) {env st vs : List Value} (hst : sy_sum st ≤ 8) {kk : Option Value → sy_MM (Option Value)} (k : ∀ r, sy_B X 0 (p1 + 3) env (r.toList ++ st) (kk r)) : sy_B X 0 p1 env (vs.reverse ++ st) (sy_tr (sy_cv 5 m g vs) kk (sy_hx nc)) := by
  unfold sy_cv
  by_cases h : sy_rc 5 m vs = true
  · rw [if_pos h]
    unfold sy_rc at h
    split at h
    · rename_i a t
      simp only [Bool.and_eq_true, beq_iff_eq] at h
      obtain ⟨h1, h2⟩ := h
      unfold sy_isO at h1
      split at h1
      · rename_i c fs hl
        simp only [beq_iff_eq] at h1
        subst h1
        rw [List.reverse_cons, List.append_assoc]
        refine sy_invT F hM hc hh d hl h2 hst hn1 k ?_
        intro E τ H locs ls q ce hfE hP hS hE hce hcv hcl
        unfold sy_hx at hfE
        by_cases hE2 : 1 ≤ E ∧ E ≤ nc
        · rw [if_pos hE2] at hfE
          obtain ⟨hp, hhp, hhd⟩ := hhs E hE2.1 hE2.2
          exact sy_caught F h0 hlk hN hT hE2.1 (Nat.le_trans hE2.2 hnc) hhp hpe hce hcv hcl (sy_hrun F hhd hr (Option.some.inj hfE).symm hn1 hP hS hE)
        · rw [if_neg hE2] at hfE
          cases hfE
      · cases h1
    · cases h
  · rw [if_neg h]
    exact sy_vac (fun _ => rfl)
theorem sy_hout {X : sy_Cx} (F : sy_FX X μ) (hr : μ.2.2.1 = some .int) {off : Int} {p q : Nat} (hq : q = p + 1) (d2 : decode μ.2.1 p = .ok (.lastore, 1)) (d3 : decode μ.2.1 q = .ok (.goto off, 3)) (ht : (q : Int) + off = (L : Int)) (d4 : decode μ.2.1 L = .ok (.iconst 0, 1)) (d5 : decode μ.2.1 (L + 1) = .ok (.ireturn, 1)) {env : List Value} {a : Nat} {v : Int64} : sy_B X 0 p env [.long v, .int 0, .ref a] (sy_bnd (sy_mL a v) fun _ => sy_ret (some (.int 0))) := by
  subst hq
  by_cases h : sy_len 3 a = 1
  · have hl : sy_lay a = .inr (3, 1) := by
      have := sy_len_of (kd := 3) (a := a) (m := 0) (by omega)
      rw [h] at this
      exact this
    have e : (sy_bnd (sy_mL a v) fun _ => sy_ret (some (.int 0))) = fun σ => sy_ret (some (Value.int 0)) (sy_upL σ a v) := by
      funext σ
      simp only [sy_bnd, sy_mL, h, if_true]
    rw [e]
    refine sy_last F d2 hl (sy_inb_of (by decide)).1 ?_
    refine sy_goto F d3 ht ?_
    refine sy_iconst F d4 rfl ?_
    exact sy_retB F (some (.int 0)) ⟨d5, Or.inl hr⟩
  · refine sy_vac (fun σ => ?_)
    simp only [sy_bnd, sy_mL, if_neg h]
theorem oh_int (h0 : μ.1 = "SegmentYardLaw") (hlk : sy_lk) (hr : μ.2.2.1 = some .int) (hro : sy_OR μ 0 0 p0 ro) (d0 : decode μ.2.1 p0 = .ok (.iconst 0, 1)) (ha : sy_OA μ 2 (p0 + 1) p1 as) (hM : sy_KM y cy nLy rety hy g) (hc : sy_cV μ.1 ix 5 y cy nLy rety m) (hh : hy + 1 ≤ μ.2.2.2.1) (d : decode μ.2.1 p1 = .ok (.invokevirtual ix, 3)) (hpe : p1 < e)
    (hnc : nc ≤ 3) (hhs : ∀ E, 1 ≤ E → E ≤ nc → ∃ hp, hs[E - 1]? = some hp ∧ sy_hd μ.2.1 μ.2.2.2.2.1 hp E) {off : Int} (d1 : decode μ.2.1 (p1 + 3) = .ok (.i2l, 1)) (d2 : decode μ.2.1 (p1 + 4) = .ok (.lastore, 1)) (d3 : decode μ.2.1 (p1 + 5) = .ok (.goto off, 3)) (ht : ((p1 + 5 : Nat) : Int) + off = (L : Int)) (d4 : decode μ.2.1 L = .ok (.iconst 0, 1)) (d5 : decode μ.2.1 (L + 1) = .ok (.ireturn, 1)) : sy_OH μ e hs (sy_hI ro as (sy_cv 5 m g) nc) := by
  intro X F hN hT hn1 env k
  unfold sy_hI
  refine hro X F 0 env [] _ (Nat.le_refl _) (fun a => ?_)
  refine sy_iconst F d0 rfl ?_
  refine ha X F 0 env [.int 0, .ref a] _ (Nat.le_refl _) (fun vs => ?_)
  refine sy_hcall F hN hT hn1 h0 hlk hr hM hc hh d hpe hnc hhs (Nat.le_of_ble_eq_true rfl : sy_sum [.int 0, .ref a] ≤ 8) (fun r => ?_)
  unfold sy_toI
  split
  · rename_i x
    refine sy_i2l F d1 ?_
    exact sy_hout F hr rfl d2 d3 ht d4 d5
  · exact sy_vac (fun _ => rfl)
theorem oh_long (h0 : μ.1 = "SegmentYardLaw") (hlk : sy_lk) (hr : μ.2.2.1 = some .int) (hro : sy_OR μ 0 0 p0 ro) (d0 : decode μ.2.1 p0 = .ok (.iconst 0, 1)) (ha : sy_OA μ 2 (p0 + 1) p1 as) (hM : sy_KM y cy nLy rety hy g) (hc : sy_cV μ.1 ix 5 y cy nLy rety m) (hh : hy + 1 ≤ μ.2.2.2.1) (d : decode μ.2.1 p1 = .ok (.invokevirtual ix, 3)) (hpe : p1 < e)
    (hnc : nc ≤ 3) (hhs : ∀ E, 1 ≤ E → E ≤ nc → ∃ hp, hs[E - 1]? = some hp ∧ sy_hd μ.2.1 μ.2.2.2.2.1 hp E) {off : Int} (d2 : decode μ.2.1 (p1 + 3) = .ok (.lastore, 1)) (d3 : decode μ.2.1 (p1 + 4) = .ok (.goto off, 3)) (ht : ((p1 + 4 : Nat) : Int) + off = (L : Int)) (d4 : decode μ.2.1 L = .ok (.iconst 0, 1)) (d5 : decode μ.2.1 (L + 1) = .ok (.ireturn, 1)) : sy_OH μ e hs (sy_hL ro as (sy_cv 5 m g) nc) := by
  intro X F hN hT hn1 env k
  unfold sy_hL
  refine hro X F 0 env [] _ (Nat.le_refl _) (fun a => ?_)
  refine sy_iconst F d0 rfl ?_
  refine ha X F 0 env [.int 0, .ref a] _ (Nat.le_refl _) (fun vs => ?_)
  refine sy_hcall F hN hT hn1 h0 hlk hr hM hc hh d hpe hnc hhs (Nat.le_of_ble_eq_true rfl : sy_sum [.int 0, .ref a] ≤ 8) (fun r => ?_)
  unfold sy_toL
  split
  · rename_i x
    exact sy_hout F hr rfl d2 d3 ht d4 d5
  · exact sy_vac (fun _ => rfl)
theorem oh_void (h0 : μ.1 = "SegmentYardLaw") (hlk : sy_lk) (hr : μ.2.2.1 = some .int) (ha : sy_OA μ 0 0 p1 as) (hM : sy_KM y cy nLy rety hy g) (hc : sy_cV μ.1 ix 5 y cy nLy rety m) (hh : hy + 1 ≤ μ.2.2.2.1) (d : decode μ.2.1 p1 = .ok (.invokevirtual ix, 3)) (hpe : p1 < e)
    (hnc : nc ≤ 3) (hhs : ∀ E, 1 ≤ E → E ≤ nc → ∃ hp, hs[E - 1]? = some hp ∧ sy_hd μ.2.1 μ.2.2.2.2.1 hp E) {off : Int} (d3 : decode μ.2.1 (p1 + 3) = .ok (.goto off, 3)) (ht : ((p1 + 3 : Nat) : Int) + off = (L : Int)) (d4 : decode μ.2.1 L = .ok (.iconst 0, 1)) (d5 : decode μ.2.1 (L + 1) = .ok (.ireturn, 1)) : sy_OH μ e hs (sy_hV as (sy_cv 5 m g) nc) := by
  intro X F hN hT hn1 env k
  unfold sy_hV
  refine ha X F 0 env [] _ (Nat.le_refl _) (fun vs => ?_)
  refine sy_hcall F hN hT hn1 h0 hlk hr hM hc hh d hpe hnc hhs (by decide : sy_sum [] ≤ 8) (fun r => ?_)
  cases r with
  | none =>
    refine sy_goto F d3 ht ?_
    refine sy_iconst F d4 rfl ?_
    exact sy_retB F (some (.int 0)) ⟨d5, Or.inl hr⟩
  | some v => exact sy_vac (fun _ => rfl)
end SYK2
/-- the contract of such a body: it returns; one cell at most -/
def sy_PH (D : va_G) (cA : Nat → ClassId) (b : Nat) (σ : sy_Mem) (U : State) : Prop := sy_PW D cA b σ U ∧ sy_NC U
def sy_rH (h : Nat) : Room := { frames := h, cells := 1, slots := 6, locals := 42 * h }
def sy_KH (y : MethodName) (cc : ByteArray) (nL : Nat) (hh : List (Nat × Nat × Nat × Nat)) (h : Nat) (g : List Value → sy_MM (Option Value)) : Prop :=
  ∀ (l : Launch) (D : va_G) (cA : Nat → ClassId) (b : Nat) (vs : List Value) (σ : sy_Mem) (v : Option Value) (τ : sy_Mem), l.stackTraces = false → g vs σ = some (.inl v, τ) →
    vx_Met l y (Cond.codeWith y cc nL (some .int) hh :: sy_AL) (sy_rH h) (va_Pc (vs.map (sy_sh b)) (sy_PH D cA b σ)) (sy_Qc D cA b (.inl v) τ) (fun _ _ _ => False) 1 6 (sy_ab b)
theorem sy_kh {y : MethodName} {cc : ByteArray} {nL h m e : Nat} {hs : List Nat} {s : sy_S} (hy : plainName y.cls = true) (hm : m ≤ nL) (body : sy_OH (y.cls, cc, some .int, h, nL, none) e hs s) : sy_KH y cc nL (sy_hh e hs) h (sy_mth m (sy_bd s)) := by
  intro l D cA b vs σ v τ htr hg
  unfold sy_mth at hg
  by_cases hok : (vs.length == m && vs.all (fun v => v.category == 1)) = true
  · rw [if_pos hok] at hg
    simp only [Bool.and_eq_true, beq_iff_eq, List.all_eq_true] at hok
    obtain ⟨hlen, hcat⟩ := hok
    refine vx_ofWH (cc := cc) (maxL := nL) (ret := some .int) (hh := sy_hh e hs) hy rfl ?_
    intro p e' s' m' args below meth c s₁ B hml hv
    obtain ⟨rfl, ⟨hP, hK, hT⟩, hN⟩ := hv
    have hts := atoms_spec (ws := Cond.codeWith y cc nL (some .int) (sy_hh e hs) :: sy_AL) B.pre
    have hlocks := B.notSynchronized
    have hr := B.returns
    have hx := B.exec
    have hb := B.bytes
    have htb := vx_table (x := y) B (hts _ List.mem_cons_self)
    have F : sy_FX ((p, l, e', sy_rH h, s', m', (vs.map (sy_sh b)).toArray, below, meth, c), vx_MQ below (sy_Qc D cA b (.inl v) τ) (fun _ _ _ => False) (vs.map (sy_sh b)).toArray s' 1 6 (sy_ab b), D, cA, b, (.inl v, τ), 1) (y.cls, cc, some .int, h, nL, none) := by
      refine ⟨B.exec, B.bytes, findClass_of_methodNamed B.named, fun w hw => hts w (List.mem_cons_of_mem _ hw), hK, hT, htr, hml, ⟨Nat.le_refl _, Nat.le_refl _⟩, ⟨Nat.le_refl _, Nat.le_refl _⟩, ?_, ?_, ?_, ?_, trivial⟩
      · rintro ⟨E, σ', hG⟩
        cases hG
      · intro v' σ' hG n H locs ls pc hn hP' hS hrok
        cases hG
        have hq : ∀ t : State, t.heap = H → s'.WarmedH t.vm → sy_Qc D cA b (.inl v) τ (vs.map (sy_sh b)).toArray s' (.returned (v.map (sy_sh b))) t := fun t ht _ => ⟨⟨v, rfl, rfl, by rw [ht]; exact hP'⟩, hS.F ht⟩
        have hn' : n ≤ 1 := hn
        refine W.widen (k := 1) (n := 6) hn' (by omega) ?_
        cases v with
        | none => exact absurd hrok.1 (by simp)
        | some w =>
          cases w with
          | int x => exact vx_ret (W.iret hx hb hr hq hS.2.2 hrok.1 hlocks)
          | long x => exact absurd hrok.2 (by simp)
          | ref a => obtain ⟨-, C, hk⟩ := hrok; exact absurd hk (by simp)
          | float x => exact hrok.elim
          | double x => exact hrok.elim
          | null => exact hrok.elim
          | retAddr x => exact hrok.elim
      · intro E σ' hG
        cases hG
      · intro h0 h6 E σ' hG
        cases hG
    have hlv := lv_entry (vs.map (sy_sh b)) (n := nL) (by rw [sy_sl_len vs hcat]; omega)
    rw [lg_entry_eq]
    refine W.widen (Nat.le_refl _) (Nat.le_refl _) (body _ F hN htb (Nat.le_refl _) vs _ σ (Nat.zero_le _) hg s'.heap [] _ hP va_S.rf ⟨hlv.1.trans hml.symm, hlv.2.1, fun i v hi hv => ?_⟩)
    have hmem := sy_args (b := b) vs 0 hcat i v hi
    rw [Nat.zero_add] at hmem
    exact hlv.2.2 _ hmem
  · rw [if_neg hok] at hg
    cases hg
end SYK
