/-! THE LAW'S METHODS: those that catch, and those with a body of their own -/
section SNE
def sy_tr {α : Type} (m : sy_MM α) (k : α → sy_MM (Option Value)) (kx : Nat → sy_MM (Option Value)) : sy_MM (Option Value) := fun σ => match m σ with
  | some (.inl a, t) => k a t
  | some (.inr e, t) => kx e t
  | none => none

section SYK1
variable {X : sy_Cx} {μ : sy_Mu} {n pc : Nat} {env st : List Value}
/-- a call, with what happens when it throws -/
theorem sy_invT (F : sy_FX X μ) {y : MethodName} {cy : ByteArray} {nLy hy m ix ci a : Nat} {rety : Option FieldType} {g : List Value → sy_MM (Option Value)} {fs : List (Option Nat)} {vs : List Value} (hM : sy_KM y cy nLy rety hy g) (hc : sy_cV μ.1 ix ci y cy nLy rety m) (hh : hy + 1 ≤ μ.2.2.2.1)
    (d : decode μ.2.1 pc = .ok (.invokevirtual ix, 3)) (hl : sy_lay a = .inl (ci, fs)) (hm : vs.length = m) (hs : (st.map fun v => v.category).sum ≤ 8) (h1 : n + 1 ≤ sy_xn X) {kk : Option Value → sy_MM (Option Value)} {fE : Nat → sy_MM (Option Value)} (k : ∀ r, sy_B X n (pc + 3) env (r.toList ++ st) (kk r))
    (kx : ∀ (E : Nat) (τ : sy_Mem) (H : Heap) (locs : List Loc) (ls : Array Slot) (q : Addr) (ce : Cell), fE E τ = some (sy_xg X) → sy_P X τ H → sy_Z X H locs → sy_eok (sy_xb X) ls (sy_xc X).maxLocals env → H[q]? = some ce → ce.vm = .none → (sy_xs X).vm.findClass (sy_ex E) = some ce.cls →
      vx_W (sy_xp X) (sy_xl X) (sy_xe X) (sy_xR X) (sy_xs X) (sy_xm X) (sy_xa X) (sy_xo X) (sy_xM X) (sy_xc X) H locs (n + 1) (6 * n + 6) (sy_xQ X) (F0 (sy_xm X) pc ls (st.map (sy_sh (sy_xb X)))) q) :
    sy_B X n pc env (vs.reverse ++ .ref a :: st) (sy_tr (g (.ref a :: vs)) kk fE) := by
  intro σ hn hf H locs ls hP hS hE
  unfold sy_tr at hf
  cases hg : g (.ref a :: vs) σ with
  | none => rw [hg] at hf; cases hf
  | some o =>
    obtain ⟨r, τ⟩ := o
    rw [hg] at hf
    obtain ⟨hw, hd, h23, T, N, hci⟩ := hc
    have hKM := hM (sy_xl X) (sy_xD X) (sy_xA X) (sy_xb X) (.ref a :: vs) σ r τ F.tr hg
    have hG : GoodIn sy_AL (wsV μ.1 ix y.cls y (Cond.code y cy nLy rety :: sy_AL)) := fun w h => sy_good (by
      simp only [wsV, List.mem_append, List.mem_cons, List.not_mem_nil, or_false] at h
      rcases h with (h | h | h | h) | h | h
      · exact hw w (by simp [h])
      · exact hw w (by simp [h])
      · exact hw w (by simp [h])
      · exact hw w (by simp [h])
      · exact hw w (by simp [h])
      · exact h)
    have hfr := F.fr
    have hce := F.ce
    have hroom : n + sy_mc r ≤ (sy_xR X).cells ∧ 6 * n + 6 * sy_mc r ≤ (sy_xR X).slots := by
      have : sy_mc r ≤ 1 := by cases r <;> simp [sy_mc]
      constructor <;> omega
    have hrun := vx_runV (e := sy_xe X) (below := sy_xo X) (meth := sy_xM X) (R := sy_xR X) (H := H) (locs := locs) (cells := n) (slots := 6 * n) (rest := st.map (sy_sh (sy_xb X))) (g := F0 (sy_xm X) pc ls ((vs.reverse ++ .ref a :: st).map (sy_sh (sy_xb X)))) (As := vs.map (sy_sh (sy_xb X))) (b := sy_ad (sy_xb X) a) (C := y.cls) ⟨F.e, F.c, rfl, F.o, F.w⟩ hKM (cwV m F.w hG rfl rfl rfl ⟨rfl, hd⟩ ⟨Nat.le_trans hh hfr.1, by show 8 + (nLy + 11) + 42 * hy ≤ (sy_xR X).locals; omega⟩) ⟨sy_blind _ _ _ _ _, va_recv F.k hP.1 hci (sy_wd_o hl), fun U hU hW => ⟨rfl, sy_calledPW F hP hS U hU hW⟩⟩ rfl (by simpa using hm) hE.1 (by simp [F0, sy_sh]) (lv_room (by rw [sy_sh_sum]; exact hs)) d hroom
    intro T hT XS
    rcases hrun T hT XS with ⟨v, st₀, t, T', L, h0, X', hL, e1, e2, ⟨⟨w, hw, hoc, hP'⟩, hF⟩, sg⟩ | ⟨q, st₀, t, T', L, E, ce, h0, X', hL, e1, e2, ⟨⟨kE, hk1, hk2, hP'⟩, hF⟩, hce, hcv, hcl, sg⟩
    · subst hw
      cases hoc
      obtain ⟨-, -, k3⟩ := vx_keep h0 e1 hS (A1 := sy_ab (sy_xb X).1) (fun _ _ h => h) (fun _ h => h) hL hF
      obtain ⟨t2, a1, b1⟩ := k w τ hn hf T'.heap (locs ++ L) ls (by rw [e1]; exact hP') k3 hE T' rfl X'
      refine ⟨t2, sg t2 ?_, b1⟩
      rw [List.map_append, show w.toList.map (sy_sh (sy_xb X)) = (w.map (sy_sh (sy_xb X))).toList by cases w <;> rfl] at a1
      exact a1
    · subst hk1
      obtain ⟨-, -, k3⟩ := vx_keep h0 e1 hS (A1 := sy_ab (sy_xb X).1) (fun _ _ h => h) (fun _ h => h) hL hF
      subst hk2
      obtain ⟨t2, a1, b1⟩ := kx kE τ T'.heap (locs ++ L) ls q ce hf (by rw [e1]; exact hP') k3 hE (by rw [e1]; exact hce) hcv hcl T' rfl X'
      exact ⟨t2, sg.trans a1, b1⟩

/-- the tables of the law's calls: handlers in the order of the numbers of the exceptions -/
def sy_ct : Nat → Nat | 1 => 16 | 2 => 19 | _ => 22
def sy_hh (e : Nat) (hs : List Nat) : List (Nat × Nat × Nat × Nat) := hs.mapIdx fun i h => (0, e, h, sy_ct (i + 1))
def sy_lk : Prop := ∀ E, 1 ≤ E → E ≤ 3 → Cond.classLink "SegmentYardLaw" (sy_ct E) (sy_ex E) ∈ sy_AL ∧ Cond.castable (sy_ex E) (sy_ex E) ∈ sy_EX
theorem sy_caught (F : sy_FX X μ) (h0 : μ.1 = "SegmentYardLaw") (hk : sy_lk) (hN : sy_NC (sy_xs X)) {e E hp : Nat} {hs : List Nat} (hT : (sy_xc X).exceptionTable.toList = tableOf (sy_hh e hs)) (hE1 : 1 ≤ E) (hE3 : E ≤ 3) (hhp : hs[E - 1]? = some hp) (hpc : pc < e) {H : Heap} {locs : List Loc} {ls : Array Slot} {rest : List Value} {q : Addr} {ce : Cell}
    (hce : H[q]? = some ce) (hcv : ce.vm = .none) (hcl : (sy_xs X).vm.findClass (sy_ex E) = some ce.cls) (kk : sy_W X (n + 1) H locs (F0 (sy_xm X) hp ls [.ref q])) :
    vx_W (sy_xp X) (sy_xl X) (sy_xe X) (sy_xR X) (sy_xs X) (sy_xm X) (sy_xa X) (sy_xo X) (sy_xM X) (sy_xc X) H locs (n + 1) (6 * n + 6) (sy_xQ X) (F0 (sy_xm X) pc ls rest) q := by
  have ho : (sy_xs X).vm.findClass "SegmentYardLaw" = some (sy_xm X).cls := by have := F.o; rw [h0] at this; exact this
  have hcov : ∀ hp t, covers (⟨0, e, hp, t⟩ : ExceptionTableEntry) pc = true := fun hp t => by simp [covers, hpc]
  have hlk : ∀ k, 1 ≤ k → k ≤ 3 → (Cond.classLink "SegmentYardLaw" (sy_ct k) (sy_ex k)).before (sy_xa X) (sy_xs X) = true := fun k h1 h2 => F.w _ (hk k h1 h2).1
  have hca : (Cond.castable (sy_ex E) (sy_ex E)).before (sy_xa X) (sy_xs X) = true := va_Nw.use rfl (F.t.2.1 _ (hk E hE1 hE3).2)
  match E, hE1, hE3, hs, hhp with
  | 1, _, _, h1 :: tl, hhp =>
    simp at hhp
    subst hhp
    exact vx_catch ho [] ⟨0, e, h1, 16⟩ (tableOf ((tl.mapIdx fun i h => (0, e, h, sy_ct (i + 2))))) (by rw [hT]; simp [sy_hh, tableOf, List.mapIdx_cons, sy_ct, Function.comp]) (fun z hz => by cases hz) (hcov _ _) (by simp) (hlk 1 (by decide) (by decide)) hca hce hcv hcl kk
  | 2, _, _, h1 :: h2 :: tl, hhp =>
    simp at hhp
    subst hhp
    refine vx_catch ho [⟨0, e, h1, 16⟩] ⟨0, e, h2, 19⟩ (tableOf ((tl.mapIdx fun i h => (0, e, h, sy_ct (i + 3))))) (by rw [hT]; simp [sy_hh, tableOf, List.mapIdx_cons, sy_ct, Function.comp]) (fun z hz => ?_) (hcov _ _) (by simp) (hlk 2 (by decide) (by decide)) hca hce hcv hcl kk
    simp at hz
    subst hz
    exact Or.inr ⟨by simp, sy_ex 1, hlk 1 (by decide) (by decide), hN.1⟩
  | 3, _, _, h1 :: h2 :: h3 :: tl, hhp =>
    simp at hhp
    subst hhp
    refine vx_catch ho [⟨0, e, h1, 16⟩, ⟨0, e, h2, 19⟩] ⟨0, e, h3, 22⟩ (tableOf ((tl.mapIdx fun i h => (0, e, h, sy_ct (i + 4))))) (by rw [hT]; simp [sy_hh, tableOf, List.mapIdx_cons, sy_ct, Function.comp]) (fun z hz => ?_) (hcov _ _) (by simp) (hlk 3 (by decide) (by decide)) hca hce hcv hcl kk
    simp at hz
    rcases hz with rfl | rfl
    · exact Or.inr ⟨by simp, sy_ex 1, hlk 1 (by decide) (by decide), hN.2.1⟩
    · exact Or.inr ⟨by simp, sy_ex 2, hlk 2 (by decide) (by decide), hN.2.2⟩
end SYK1
def sy_xE (E : Nat) : Int32 := Int32.ofInt (-(1000000 + E))
def sy_hx (nc : Nat) (ret : Int32 → Value) (E : Nat) : sy_MM (Option Value) := if 1 ≤ E ∧ E ≤ nc then sy_ret (some (ret (sy_xE E))) else sy_fail
def sy_hI (as : sy_AE) (c : List Value → sy_MM (Option Value)) (nc : Nat) : sy_S := fun env _ => sy_bnd (as env) fun vs => sy_tr (c vs) (fun r => sy_bnd (sy_toI r) fun x => sy_ret (some (.int x))) (sy_hx nc .int)
def sy_hL (as : sy_AE) (c : List Value → sy_MM (Option Value)) (nc : Nat) : sy_S := fun env _ => sy_bnd (as env) fun vs => sy_tr (c vs) (fun r => sy_bnd (sy_toL r) fun x => sy_ret (some (.long x))) (sy_hx nc (fun x => .long x.toInt64))
def sy_hV (as : sy_AE) (c : List Value → sy_MM (Option Value)) (nc : Nat) : sy_S := fun env _ => sy_bnd (as env) fun vs => sy_tr (c vs) (fun r => match r with | none => sy_ret (some (.int 0)) | _ => sy_fail) (sy_hx nc .int)
/-- a handler: it puts the thrown away and answers a number of its own -/
def sy_hd (μ : sy_Mu) (hp : Nat) (v : Value) : Prop := ∃ p2 p3 : Nat, ((∃ i : Fin 4, decode μ.2.1 hp = .ok (.astore_n i, 1) ∧ p2 = hp + 1 ∧ (i : Nat) < μ.2.2.2.2.1) ∨ (∃ i : Nat, decode μ.2.1 hp = .ok (.astore i, 2) ∧ p2 = hp + 2 ∧ i < μ.2.2.2.2.1)) ∧
  ((∃ ix x, decode μ.2.1 p2 = .ok (.ldc ix, 2) ∧ Cond.constant μ.1 ix x ∈ sy_AL ∧ v = .int x ∧ p3 = p2 + 2) ∨ (∃ ix x, decode μ.2.1 p2 = .ok (.ldc2_w ix, 3) ∧ Cond.constantLong μ.1 ix x ∈ sy_AL ∧ v = .long x ∧ p3 = p2 + 3)) ∧ sy_rok μ p3 (some v)
section SYK3
variable {X : sy_Cx} {μ : sy_Mu} {n pc : Nat} {env st : List Value}
theorem sy_hrun (F : sy_FX X μ) {hp : Nat} {v : Value} (hd : sy_hd μ hp v) {τ : sy_Mem} (hg : sy_xg X = (.inl (some v), τ)) (h1 : n + 1 ≤ sy_xn X) {H : Heap} {locs : List Loc} {ls : Array Slot} {q : Addr} (hP : sy_P X τ H) (hS : sy_Z X H locs) (hE : sy_eok (sy_xb X) ls (sy_xc X).maxLocals env) :
    sy_W X (n + 1) H locs (F0 (sy_xm X) hp ls [.ref q]) := by
  obtain ⟨p2, p3, h, hc, hr⟩ := hd
  have fin : ∀ ls' : Array Slot, sy_W X (n + 1) H locs (F0 (sy_xm X) p2 ls' []) := fun ls' => by
    have K := F.re (some v) τ hg (n + 1) H locs ls' p3 h1 hP hS hr
    rcases hc with ⟨ix, x, d, hw, rfl, rfl⟩ | ⟨ix, x, d, hw, rfl, rfl⟩
    · exact lv_ldc F.e F.c F.o (F.w _ hw) d K
    · exact lv_ldc2 F.e F.c F.o (F.w _ hw) d K
  rcases h with ⟨i, d1, rfl, hi⟩ | ⟨i, d1, rfl, hi⟩
  · exact lv_astore_n F.e F.c d1 rfl hE.has (by rw [F.ml]; exact hi) rfl (fun ls' _ => fin ls')
  · exact lv_astore F.e F.c d1 hE.has (by rw [F.ml]; exact hi) rfl (fun ls' _ => fin ls')
end SYK3
/-- a body that catches -/
def sy_OH (μ : sy_Mu) (e : Nat) (hs : List Nat) (s : sy_S) : Prop := ∀ X : sy_Cx, sy_FX X μ → sy_NC (sy_xs X) → (sy_xc X).exceptionTable.toList = tableOf (sy_hh e hs) → 1 ≤ sy_xn X → ∀ (env : List Value) (k : List Value → sy_MM (Option Value)), sy_B X 0 0 env [] (s env k)
section SYK2
variable {μ : sy_Mu} {e m nc p1 : Nat} {hs : List Nat} {as : sy_AE} {y : MethodName} {cy : ByteArray} {nLy hy ix : Nat} {rety : Option FieldType} {g : List Value → sy_MM (Option Value)} {ret : Int32 → Value}
theorem sy_hcall {X : sy_Cx} (F : sy_FX X μ) (hN : sy_NC (sy_xs X)) (hT : (sy_xc X).exceptionTable.toList = tableOf (sy_hh e hs)) (hn1 : 1 ≤ sy_xn X) (h0 : μ.1 = "SegmentYardLaw") (hlk : sy_lk) (hM : sy_KM y cy nLy rety hy g) (hc : sy_cV μ.1 ix 5 y cy nLy rety m) (hh : hy + 1 ≤ μ.2.2.2.1) (d : decode μ.2.1 p1 = .ok (.invokevirtual ix, 3)) (hpe : p1 < e)
    (hnc : nc ≤ 3) (hhs : ∀ E, 1 ≤ E → E ≤ nc → ∃ hp, hs[E - 1]? = some hp ∧ sy_hd μ hp (ret (sy_xE E))) {env vs : List Value} {kk : Option Value → sy_MM (Option Value)} (k : ∀ r, sy_B X 0 (p1 + 3) env (r.toList ++ []) (kk r)) : sy_B X 0 p1 env (vs.reverse ++ []) (sy_tr (sy_cv 5 m g vs) kk (sy_hx nc ret)) := by
  unfold sy_cv
  by_cases h : sy_rc 5 m vs = true
  · rw [if_pos h]
    unfold sy_rc at h
    split at h
    · rename_i a t
      simp only [Bool.and_eq_true, beq_iff_eq] at h
      obtain ⟨h1, h2⟩ := h
      unfold sy_isO at h1
      split at h1
      · rename_i c fs hl
        simp only [beq_iff_eq] at h1
        subst h1
        rw [List.reverse_cons, List.append_assoc]
        refine sy_invT F hM hc hh d hl h2 (by decide) hn1 k ?_
        intro E τ H locs ls q ce hfE hP hS hE hce hcv hcl
        unfold sy_hx at hfE
        by_cases hE2 : 1 ≤ E ∧ E ≤ nc
        · rw [if_pos hE2] at hfE
          obtain ⟨hp, hhp, hhd⟩ := hhs E hE2.1 hE2.2
          exact sy_caught F h0 hlk hN hT hE2.1 (Nat.le_trans hE2.2 hnc) hhp hpe hce hcv hcl (sy_hrun F hhd (Option.some.inj hfE).symm hn1 hP hS hE)
        · rw [if_neg hE2] at hfE
          cases hfE
      · cases h1
    · cases h
  · rw [if_neg h]
    exact sy_vac (fun _ => rfl)
theorem oh_int (h0 : μ.1 = "SegmentYardLaw") (hlk : sy_lk) (hr : μ.2.2.1 = some .int) (ha : sy_OA μ 0 0 p1 as) (hM : sy_KM y cy nLy rety hy g) (hc : sy_cV μ.1 ix 5 y cy nLy rety m) (hh : hy + 1 ≤ μ.2.2.2.1) (d : decode μ.2.1 p1 = .ok (.invokevirtual ix, 3)) (hpe : p1 < e)
    (hnc : nc ≤ 3) (hhs : ∀ E, 1 ≤ E → E ≤ nc → ∃ hp, hs[E - 1]? = some hp ∧ sy_hd μ hp (.int (sy_xE E))) (d1 : decode μ.2.1 (p1 + 3) = .ok (.ireturn, 1)) : sy_OH μ e hs (sy_hI as (sy_cv 5 m g) nc) := by
  intro X F hN hT hn1 env k
  unfold sy_hI
  refine ha X F 0 env [] _ (Nat.le_refl _) (fun vs => ?_)
  refine sy_hcall F hN hT hn1 h0 hlk hM hc hh d hpe hnc hhs (fun r => ?_)
  unfold sy_toI
  split
  · exact sy_retB F (some (.int _)) ⟨d1, Or.inl hr⟩
  · exact sy_vac (fun _ => rfl)
theorem oh_long (h0 : μ.1 = "SegmentYardLaw") (hlk : sy_lk) (hr : μ.2.2.1 = some .long) (ha : sy_OA μ 0 0 p1 as) (hM : sy_KM y cy nLy rety hy g) (hc : sy_cV μ.1 ix 5 y cy nLy rety m) (hh : hy + 1 ≤ μ.2.2.2.1) (d : decode μ.2.1 p1 = .ok (.invokevirtual ix, 3)) (hpe : p1 < e)
    (hnc : nc ≤ 3) (hhs : ∀ E, 1 ≤ E → E ≤ nc → ∃ hp, hs[E - 1]? = some hp ∧ sy_hd μ hp (.long (sy_xE E).toInt64)) (d1 : decode μ.2.1 (p1 + 3) = .ok (.lreturn, 1)) : sy_OH μ e hs (sy_hL as (sy_cv 5 m g) nc) := by
  intro X F hN hT hn1 env k
  unfold sy_hL
  refine ha X F 0 env [] _ (Nat.le_refl _) (fun vs => ?_)
  refine sy_hcall (ret := fun x => .long x.toInt64) F hN hT hn1 h0 hlk hM hc hh d hpe hnc hhs (fun r => ?_)
  unfold sy_toL
  split
  · exact sy_retB F (some (.long _)) ⟨d1, hr⟩
  · exact sy_vac (fun _ => rfl)
theorem oh_void (h0 : μ.1 = "SegmentYardLaw") (hlk : sy_lk) (hr : μ.2.2.1 = some .int) (ha : sy_OA μ 0 0 p1 as) (hM : sy_KM y cy nLy rety hy g) (hc : sy_cV μ.1 ix 5 y cy nLy rety m) (hh : hy + 1 ≤ μ.2.2.2.1) (d : decode μ.2.1 p1 = .ok (.invokevirtual ix, 3)) (hpe : p1 < e)
    (hnc : nc ≤ 3) (hhs : ∀ E, 1 ≤ E → E ≤ nc → ∃ hp, hs[E - 1]? = some hp ∧ sy_hd μ hp (.int (sy_xE E))) (d1 : decode μ.2.1 (p1 + 3) = .ok (.iconst 0, 1)) (d2 : decode μ.2.1 (p1 + 4) = .ok (.ireturn, 1)) : sy_OH μ e hs (sy_hV as (sy_cv 5 m g) nc) := by
  intro X F hN hT hn1 env k
  unfold sy_hV
  refine ha X F 0 env [] _ (Nat.le_refl _) (fun vs => ?_)
  refine sy_hcall F hN hT hn1 h0 hlk hM hc hh d hpe hnc hhs (fun r => ?_)
  cases r with
  | none =>
    refine sy_iconst F d1 rfl ?_
    exact sy_retB F (some (.int 0)) ⟨d2, Or.inl hr⟩
  | some v => exact sy_vac (fun _ => rfl)
end SYK2
-- the locals at a method's entry: a long takes two
def sy_ea : List Value → List Value
  | [] => []
  | v :: t => if v.category = 2 then v :: .null :: sy_ea t else v :: sy_ea t
theorem sy_argsL {b : sy_Bs} : ∀ (vs : List Value) (k i : Nat) (v : Value), (sy_ea vs)[i]? = some v → v ≠ .null → (k + i, sy_sh b v) ∈ lv_args k (vs.map (sy_sh b))
  | [], k, i, v, hv, hn => by simp [sy_ea] at hv
  | x :: t, k, i, v, hv, hn => by
    by_cases hx : x.category = 2
    · have hx2 : (sy_sh b x).category = 2 := by rw [sy_sh_cat]; exact hx
      simp only [sy_ea, if_pos hx] at hv
      simp only [List.map_cons, lv_args, hx2, if_true]
      match i, hv with
      | 0, hv =>
        simp at hv
        subst hv
        exact List.mem_cons_self
      | 1, hv =>
        simp at hv
        exact absurd hv.symm hn
      | i + 2, hv =>
        have := sy_argsL (b := b) t (k + 2) i v (by simpa using hv) hn
        refine List.mem_cons_of_mem _ ?_
        rwa [show k + 2 + i = k + (i + 2) by omega] at this
    · have hx2 : ¬ (sy_sh b x).category = 2 := by rw [sy_sh_cat]; exact hx
      simp only [sy_ea, if_neg hx] at hv
      simp only [List.map_cons, lv_args, if_neg hx2]
      match i, hv with
      | 0, hv =>
        simp at hv
        subst hv
        exact List.mem_cons_self
      | i + 1, hv =>
        have := sy_argsL (b := b) t (k + 1) i v (by simpa using hv) hn
        refine List.mem_cons_of_mem _ ?_
        rwa [show k + 1 + i = k + (i + 1) by omega] at this
theorem sy_slL_len {b : sy_Bs} : ∀ (vs : List Value), (lg_sl (vs.map (sy_sh b))).length = (vs.map (fun v => if v.category = 2 then 2 else 1)).sum
  | [] => rfl
  | x :: t => by
    have ih := sy_slL_len (b := b) t
    simp only [lg_sl] at ih
    by_cases hx : x.category = 2
    · have hx2 : (sy_sh b x).category = 2 := by rw [sy_sh_cat]; exact hx
      simp only [List.map_cons, lg_sl, List.flatMap_cons, hx2, if_true, List.length_append, List.length_cons, List.length_nil, ih, List.sum_cons, if_pos hx]
    · have hx2 : ¬ (sy_sh b x).category = 2 := by rw [sy_sh_cat]; exact hx
      simp only [List.map_cons, lg_sl, List.flatMap_cons, if_neg hx2, List.length_append, List.length_cons, List.length_nil, ih, List.sum_cons, if_neg hx]
def sy_mthN (nL : Nat) (s : List Value → sy_MM (Option Value)) : List Value → sy_MM (Option Value) := fun vs => if (vs.map (fun v => if v.category = 2 then 2 else 1)).sum ≤ nL then (fun σ => match s (sy_ea vs) σ with | some (.inl v, τ) => some (.inl v, τ) | _ => none) else sy_fail
set_option maxHeartbeats 1000000 in
theorem sy_entN {y : MethodName} {cc : ByteArray} {nL h c : Nat} {ret : Option FieldType} {sc : Option (Nat × Nat × (Nat → Int32))} {w0 : Cond} {l : Launch} {D : va_G} {cA : Nat → ClassId} {b : sy_Bs} {vs : List Value} {σ : sy_Mem} {v : Option Value} {τ : sy_Mem} (htr : l.stackTraces = false) {p : Program} {e : Env} {s' : State} {m' : MethodId} {below : List Frame} {meth : Method} {c' : Code} {s₁ : State}
    (B : BodyLoose p l y (headSpec (w0 :: sy_AL) (sy_rN h c)) cc nL ret e s' m' (vs.map (sy_sh b)).toArray below meth c' s₁) (hml : c'.maxLocals = nL) (hv : sy_PN D cA b σ sc s') :
    ∃ X : sy_Cx, sy_FN X (y.cls, cc, ret, h, nL, sc) ∧ sy_xn X = c ∧ sy_xg X = (.inl v, τ) ∧ (sy_xc X) = c' ∧ ∀ s : sy_MM (Option Value), (vs.map (fun v => if v.category = 2 then 2 else 1)).sum ≤ nL → s σ = some (.inl v, τ) → sy_B X 0 0 (sy_ea vs) [] s →
      W p l e (headSpec (w0 :: sy_AL) (sy_rN h c)).room s' m' (vs.map (sy_sh b)).toArray below meth c' s'.heap [] 0 0 (vx_MQ below (sy_Qc D cA b (.inl v) τ) (fun _ _ _ => False) (vs.map (sy_sh b)).toArray s' c (6 * c) (sy_ab b.1)) (entryFrame m' (vs.map (sy_sh b)).toArray nL) := by
  obtain ⟨⟨hP, hK, hT⟩, hN, hsc⟩ := hv
  have hts := atoms_spec (ws := w0 :: sy_AL) B.pre
  have hlocks := B.notSynchronized
  have hr := B.returns
  have hx := B.exec
  have hb := B.bytes
  have hb0 : b.1 ≤ s'.heap.size := by
    have h0 := (hP.1 0 _ (sy_wd_at (show 0 < sy_N by decide))).lt
    have e0 : sy_ad b 0 = b.1 := sy_ad_lt (show 0 < sy_N by decide)
    rw [e0] at h0
    exact Nat.le_of_lt h0
  refine ⟨((p, l, e, sy_rN h c, s', m', (vs.map (sy_sh b)).toArray, below, meth, c'), vx_MQ below (sy_Qc D cA b (.inl v) τ) (fun _ _ _ => False) (vs.map (sy_sh b)).toArray s' c (6 * c) (sy_ab b.1), D, cA, b, (.inl v, τ), c), ⟨⟨B.exec, B.bytes, findClass_of_methodNamed B.named, fun w hw => hts w (List.mem_cons_of_mem _ hw), hK, hT, htr, hml, ⟨Nat.le_refl _, Nat.le_refl _⟩, ⟨Nat.le_refl _, Nat.le_refl _⟩, ?_, ?_, ?_, ?_, ?_⟩, hN, ⟨v, τ, rfl⟩, hb0⟩, rfl, rfl, rfl, ?_⟩
  · rintro ⟨E, σ', hG⟩
    cases hG
  · intro v' σ' hG n H locs ls pc hn hP' hS hrok
    cases hG
    have hq : ∀ t : State, t.heap = H → s'.WarmedH t.vm → sy_Qc D cA b (.inl v) τ (vs.map (sy_sh b)).toArray s' (.returned (v.map (sy_sh b))) t := fun t ht _ => ⟨⟨v, rfl, rfl, by rw [ht]; exact hP'⟩, hS.F ht⟩
    have hn' : n ≤ c := hn
    refine W.widen (k := c) (n := 6 * c) hn' (by omega) ?_
    cases v with
    | none => exact vx_ret (W.vret hx hb (hr.trans hrok.1) hq hS.2.2 hrok.2 hlocks)
    | some w =>
      cases w with
      | int x =>
        obtain ⟨hd, hk⟩ := hrok
        rcases hk with hk | ⟨hk, h01⟩
        · exact vx_ret (W.iret hx hb (hr.trans hk) hq hS.2.2 hd hlocks)
        · exact vx_ret (W.zret (ty := .boolean) hx hb (hr.trans hk) (by rcases h01 with rfl | rfl <;> rfl) hq hS.2.2 hd hlocks)
      | long x => exact vx_ret (W.lret hx hb (hr.trans hrok.2) hq hS.2.2 hrok.1 hlocks)
      | ref a =>
        obtain ⟨hd, ⟨C, hk⟩ | ⟨C, hk⟩⟩ := hrok
        · exact vx_ret (W.aret hx hb (hr.trans hk) (Or.inl ⟨C, rfl⟩) (Or.inr ⟨_, rfl⟩) hq hS.2.2 hd hlocks)
        · exact vx_ret (W.aret hx hb (hr.trans hk) (Or.inr ⟨C, rfl⟩) (Or.inr ⟨_, rfl⟩) hq hS.2.2 hd hlocks)
      | float x => exact hrok.elim
      | double x => exact hrok.elim
      | null => exact hrok.elim
      | retAddr x => exact hrok.elim
  · intro E σ' hG
    cases hG
  · intro h0 h6 E σ' hG
    cases hG
  · cases sc with
    | none => trivial
    | some x => exact hsc
  · intro s hsz hs body
    have hlv := lv_entry (vs.map (sy_sh b)) (n := nL) (by rw [sy_slL_len vs]; exact hsz)
    rw [lg_entry_eq]
    refine body σ (Nat.zero_le _) hs s'.heap [] _ hP va_S.rf ⟨hlv.1.trans hml.symm, hlv.2.1, fun i v hi hv => ?_⟩
    have hmem := sy_argsL (b := b) vs 0 i v hi hv
    rw [Nat.zero_add] at hmem
    exact hlv.2.2 _ hmem
theorem sy_mthN_of {nL : Nat} {s : List Value → sy_MM (Option Value)} {vs : List Value} {σ : sy_Mem} {v : Option Value} {τ : sy_Mem} (h : sy_mthN nL s vs σ = some (.inl v, τ)) : (vs.map (fun v => if v.category = 2 then 2 else 1)).sum ≤ nL ∧ s (sy_ea vs) σ = some (.inl v, τ) := by
  unfold sy_mthN at h
  split at h
  · rename_i hz
    refine ⟨hz, ?_⟩
    dsimp only at h
    split at h
    · rename_i w ρ hw
      cases h
      exact hw
    · cases h
  · cases h
theorem sy_kn {y : MethodName} {cc : ByteArray} {nL h c pc' : Nat} {ret : Option FieldType} {sc : Option (Nat × Nat × (Nat → Int32))} {s : sy_S} (hy : plainName y.cls = true) (body : sn_S c (y.cls, cc, ret, h, nL, sc) 0 pc' s) : sy_KN (.code y cc nL ret) y sc h c (sy_mthN nL (sy_bd s)) := by
  intro l D cA b vs σ v τ htr hg
  obtain ⟨hz, hs⟩ := sy_mthN_of hg
  refine sy_vxmono (vx_ofW (cc := cc) (maxL := nL) (ret := ret) hy rfl ?_) (fun E s t h => h)
  intro p e s' m' args below meth c' s₁ B hml ht hv
  obtain ⟨rfl, hv⟩ := hv
  obtain ⟨X, FN, hxn, hG, -, K⟩ := sy_entN (v := v) (τ := τ) htr B hml hv
  refine K _ hz hs (body X FN 0 c _ _ (by omega) (by omega) (fun env' => sy_vac (fun _ => rfl)))
theorem sy_knh {y : MethodName} {cc : ByteArray} {nL h e : Nat} {hs : List Nat} {ret : Option FieldType} {s : sy_S} (hy : plainName y.cls = true) (body : sy_OH (y.cls, cc, ret, h, nL, none) e hs s) : sy_KN (.codeWith y cc nL ret (sy_hh e hs)) y none h 1 (sy_mthN nL (sy_bd s)) := by
  intro l D cA b vs σ v τ htr hg
  obtain ⟨hz, hs'⟩ := sy_mthN_of hg
  refine sy_vxmono (vx_ofWH (cc := cc) (maxL := nL) (ret := ret) (hh := sy_hh e hs) hy rfl ?_) (fun E s t h => h)
  intro p e' s' m' args below meth c' s₁ B hml hv
  obtain ⟨rfl, hv⟩ := hv
  have htb := vx_table (x := y) B (atoms_spec (ws := Cond.codeWith y cc nL ret (sy_hh e hs) :: sy_AL) B.pre _ List.mem_cons_self)
  obtain ⟨X, FN, hxn, hG, hc, K⟩ := sy_entN (v := v) (τ := τ) htr B hml hv
  exact K _ hz hs' (body X FN.1 FN.2.1 (by rw [hc]; exact htb) (by omega) _ _)
end SNE
