section SYL
section SYL1
variable {X : sy_Cx} {μ : sy_Mu} {n pc : Nat} {env st : List Value}
theorem sy_aloadA (F : sy_FX X μ) {i : Fin 4} {a : Nat} (d : decode μ.2.1 pc = .ok (.aload_n i, 1)) (hv : env[(i : Nat)]? = some (.retAddr a)) {f : sy_MM (Option Value)} (k : sy_B X n (pc + 1) env (.retAddr a :: st) f) : sy_B X n pc env st f :=
  fun σ hn hf H locs ls hP hS hE => lv_aload_n F.e F.c d rfl (hE.at hv (by simp)) (k σ hn hf H locs ls hP hS hE)
theorem sy_sld (F : sy_FX X μ) {bs L : Nat} {xs : Nat → Int32} (hsc : μ.2.2.2.2.2 = some (bs, L, xs)) {j : Int32} (d : decode μ.2.1 pc = .ok (.iaload, 1)) (hin : vp_in j L) {f : sy_MM (Option Value)} (k : sy_B X n (pc + 1) env (.int (xs j.toNatClampNeg) :: st) f) : sy_B X n pc env (.int j :: .retAddr bs :: st) f := by
  intro σ hn hf H locs ls hP hS hE
  have h := F.sc
  rw [hsc] at h
  obtain ⟨h1, h2, h3, -⟩ := h
  exact va_sld F.e F.c h1 h2 (fun q => absurd h3 (Nat.not_lt.mpr q)) hS hin d (k σ hn hf H locs ls hP hS hE)
theorem sy_slen (F : sy_FX X μ) {bs L : Nat} {xs : Nat → Int32} (hsc : μ.2.2.2.2.2 = some (bs, L, xs)) (d : decode μ.2.1 pc = .ok (.arraylength, 1)) {f : sy_MM (Option Value)} (k : sy_B X n (pc + 1) env (.int (Int32.ofNat L) :: st) f) : sy_B X n pc env (.retAddr bs :: st) f := by
  intro σ hn hf H locs ls hP hS hE
  have h := F.sc
  rw [hsc] at h
  obtain ⟨h1, h2, h3, -⟩ := h
  exact va_slen F.e F.c h1 h2 (fun q => absurd h3 (Nat.not_lt.mpr q)) hS d (k σ hn hf H locs ls hP hS hE)
def sy_sA1 (v : Value) (bs : Nat) : Bool := match v with | .retAddr a => a == bs | _ => false
theorem sy_sA1_of {v : Value} {bs : Nat} (h : sy_sA1 v bs = true) : v = .retAddr bs := by
  unfold sy_sA1 at h
  split at h
  · rename_i a
    rw [beq_iff_eq.mp h]
  · cases h
end SYL1
variable {μ : sy_Mu} {sk pc pc' p1 p2 p3 : Nat}
def sy_iS (bs L : Nat) (xs : Nat → Int32) (i : sy_IE) : sy_IE := fun env => match env[0]? with
  | some v => if sy_sA1 v bs then sy_bnd (i env) fun j => if sy_inb j L then sy_ret (xs j.toNatClampNeg) else sy_fail else sy_fail
  | none => sy_fail
theorem oi_script {bs L : Nat} {xs : Nat → Int32} {i : sy_IE} (hsc : μ.2.2.2.2.2 = some (bs, L, xs)) (d0 : decode μ.2.1 pc = .ok (.aload_n 0, 1)) (hi : sy_OI μ (sk + 1) (pc + 1) p2 i) (d : decode μ.2.1 p2 = .ok (.iaload, 1)) : sy_OI μ sk pc (p2 + 1) (sy_iS bs L xs i) := by
  intro X F n env st k hs hk
  unfold sy_iS
  split
  · rename_i v hv
    by_cases h : sy_sA1 v bs = true
    · rw [if_pos h]
      have := sy_sA1_of h
      subst this
      rw [sy_bnd_bnd]
      refine sy_aloadA F d0 hv ?_
      refine hi X F n env _ _ (by show 1 + sy_sum st ≤ sk + 1; omega) (fun j => ?_)
      by_cases hj : sy_inb j L = true
      · rw [if_pos hj]
        exact sy_sld F hsc d (sy_inb_of hj).1 (hk _)
      · rw [if_neg hj]
        exact sy_vac (fun _ => rfl)
    · rw [if_neg h]
      exact sy_vac (fun _ => rfl)
  · exact sy_vac (fun _ => rfl)
def sy_iSn (bs L : Nat) : sy_IE := fun env => match env[0]? with
  | some v => if sy_sA1 v bs then sy_ret (Int32.ofNat L) else sy_fail
  | none => sy_fail
theorem oi_slen {bs L : Nat} {xs : Nat → Int32} (hsc : μ.2.2.2.2.2 = some (bs, L, xs)) (d0 : decode μ.2.1 pc = .ok (.aload_n 0, 1)) (d : decode μ.2.1 (pc + 1) = .ok (.arraylength, 1)) : sy_OI μ sk pc (pc + 2) (sy_iSn bs L) := by
  intro X F n env st k hs hk
  unfold sy_iSn
  split
  · rename_i v hv
    by_cases h : sy_sA1 v bs = true
    · rw [if_pos h]
      have := sy_sA1_of h
      subst this
      refine sy_aloadA F d0 hv ?_
      exact sy_slen F hsc d (hk _)
    · rw [if_neg h]
      exact sy_vac (fun _ => rfl)
  · exact sy_vac (fun _ => rfl)
def sy_lA (r : sy_RE) (i : sy_IE) : sy_LE := fun env => sy_bnd (r env) fun a => sy_bnd (i env) fun x => fun σ => if sy_len 3 a = 1 ∧ sy_inb x 1 = true then some (.inl (sy_jn (σ a 0) (σ a 1)), σ) else none
theorem ol_lald {r : sy_RE} {i : sy_IE} (hr : sy_OR μ sk pc p1 r) (hi : sy_OI μ (sk + 1) p1 p2 i) (d : decode μ.2.1 p2 = .ok (.laload, 1)) : sy_OL μ sk pc (p2 + 1) (sy_lA r i) := by
  intro X F n env st k hs hk
  unfold sy_lA
  rw [sy_bnd_bnd]
  refine hr X F n env st _ hs (fun a => ?_)
  rw [sy_bnd_bnd]
  refine hi X F n env _ _ (sy_sR hs) (fun x => ?_)
  by_cases h : sy_len 3 a = 1 ∧ sy_inb x 1 = true
  · have hl : sy_lay a = .inr (3, 1) := by
      have := sy_len_of (kd := 3) (a := a) (m := 0) (by omega)
      rw [h.1] at this
      exact this
    have e : (sy_bnd (fun σ => if sy_len 3 a = 1 ∧ sy_inb x 1 = true then some (Sum.inl (sy_jn (σ a 0) (σ a 1)), σ) else none) k) = fun σ => k (sy_jn (σ a 0) (σ a 1)) σ := by
      funext σ
      simp only [sy_bnd, h, and_self, if_true]
    rw [e]
    exact sy_lald F d hl (sy_inb_of h.2).1 hk
  · refine sy_vac (fun σ => ?_)
    simp only [sy_bnd, if_neg h]
def sy_cLn (a b : sy_LE) : sy_CE := fun env => sy_bnd (a env) fun x => sy_bnd (b env) fun y => sy_ret (!decide (x = y))
theorem sy_lg_cmp {x y : Int64} : lg_cmp x y = 0 ↔ x = y := by
  unfold lg_cmp
  by_cases h : x > y
  · rw [if_pos h]
    constructor
    · intro q; exact absurd q (by decide)
    · intro q; subst q; exact absurd h (by rw [gt_iff_lt, Int64.lt_iff_toInt_lt]; omega)
  · rw [if_neg h]
    by_cases h2 : x = y
    · simp [h2]
    · rw [if_neg h2]
      exact ⟨fun q => absurd q (by decide), fun q => absurd q h2⟩
theorem oc_lneF {a b : sy_LE} {off : Int} {tgt : Nat} (ha : sy_OL μ sk pc p1 a) (hb : sy_OL μ (sk + 2) p1 p2 b) (d : decode μ.2.1 p2 = .ok (.lcmp, 1)) (d2 : decode μ.2.1 (p2 + 1) = .ok (.ifCond .eq off, 3)) (ht : ((p2 + 1 : Nat) : Int) + off = (tgt : Int)) : sy_OC μ sk pc (p2 + 4) tgt (sy_cLn a b) := by
  intro X F n env st k hs hk
  unfold sy_cLn
  rw [sy_bnd_bnd]
  refine ha X F n env st _ hs (fun x => ?_)
  rw [sy_bnd_bnd]
  refine hb X F n env (.long x :: st) _ (sy_sL hs) (fun y => ?_)
  rw [sy_bnd_ret]
  refine fun σ hn hf H locs ls hP hS hE => W.lcmp F.e F.c d (lv_if_eq F.e F.c d2 ht (fun h => ?_) (fun h => ?_))
  · refine hk false σ hn ?_ H locs ls hP hS hE
    rw [← hf]; congr 1; simp [sy_lg_cmp.mp h]
  · refine hk true σ hn ?_ H locs ls hP hS hE
    have hne : ¬ x = y := fun q => h (sy_lg_cmp.mpr q)
    rw [← hf]; congr 1; simp [hne]
-- statements that spend a cell
def sy_O1 (μ : sy_Mu) (pc pc' : Nat) (s : sy_S) : Prop := ∀ X : sy_Cx, sy_FX X μ → ∀ (n : Nat) (env : List Value) (k : List Value → sy_MM (Option Value)), n + 1 ≤ sy_xn X → (∀ env', sy_B X (n + 1) pc' env' [] (k env')) → sy_B X n pc env [] (s env k)
theorem o1_of {s : sy_S} (h : sy_OS μ pc pc' s) : sy_O1 μ pc pc' s := fun X F n env k hn hk => sy_B_widen hn (h X F (n + 1) env k hk)
theorem o1_seq {a b : sy_S} (ha : sy_O1 μ pc p1 a) (hb : sy_OS μ p1 pc' b) : sy_O1 μ pc pc' (sy_sQ a b) := fun X F n env k hn hk => ha X F n env _ hn (fun env' => hb X F (n + 1) env' k hk)
theorem o1_block {m : Nat} {s : sy_S} (h : sy_O1 μ pc pc' s) : sy_O1 μ pc pc' (sy_sB m s) := fun X F n env k hn hk => h X F n env _ hn (fun env' => sy_take (hk _))
theorem o1_goto {s : sy_S} {off : Int} {tgt : Nat} (h : sy_O1 μ pc p1 s) (d : decode μ.2.1 p1 = .ok (.goto off, 3)) (ht : (p1 : Int) + off = (tgt : Int)) : sy_O1 μ pc tgt s := fun X F n env k hn hk => h X F n env k hn (fun env' => sy_goto F d ht (hk env'))
theorem o1_switch {e : sy_IE} {f : Int32 → sy_S} {dflt lo hi : Int} {offs : Array Int} {len : Nat} (h : sy_OI μ 0 pc p1 e) (d : decode μ.2.1 p1 = .ok (.tableswitch dflt lo hi offs, len)) (hz : offs.size = (hi - lo + 1).toNat) (hf : ∀ x : Int32, ∃ t : Nat, (p1 : Int) + sy_tgt dflt lo hi offs x = (t : Int) ∧ sy_O1 μ t pc' (f x)) : sy_O1 μ pc pc' (sy_sX e f) := by
  intro X F n env k hn1 hk
  refine h X F n env [] _ (Nat.le_refl _) (fun x => ?_)
  obtain ⟨t, ht, ho⟩ := hf x
  have hk' := ho X F n env k hn1 hk
  unfold sy_tgt at ht
  by_cases hx : x.toInt < lo ∨ hi < x.toInt
  · rw [if_pos hx] at ht
    exact fun σ hn hf H locs ls hP hS hE => lv_tableOut F.e F.c d hx ht (hk' σ hn hf H locs ls hP hS hE)
  · rw [if_neg hx] at ht
    have hlt : (x.toInt - lo).toNat < offs.size := by rw [hz]; omega
    rw [Array.getElem?_eq_getElem hlt, Option.getD_some] at ht
    exact fun σ hn hf H locs ls hP hS hE => lv_tableIn F.e F.c d (fun q => hx (Or.inl q)) (fun q => hx (Or.inr q)) (Array.getElem?_eq_getElem hlt) ht (hk' σ hn hf H locs ls hP hS hE)
theorem sy_whileL {c : sy_CE} {s : sy_S} (hc : sy_OC μ 0 pc p1 p2 c) (hs : sy_O1 μ p1 pc s) {X : sy_Cx} (F : sy_FX X μ) {k : List Value → sy_MM (Option Value)} (hk : ∀ n env, sy_B X n p2 env [] (k env)) : ∀ (m n : Nat) (env : List Value), n + m ≤ sy_xn X → sy_B X n pc env [] (sy_wh c s m env k)
  | 0, n, env, _ => sy_vac (fun _ => rfl)
  | m + 1, n, env, h => by
    unfold sy_wh
    refine hc X F n env [] _ (Nat.le_refl _) (fun x => ?_)
    cases x
    · simpa using hk n env
    · simpa using hs X F n env _ (by omega) (fun env' => sy_whileL hc hs F hk m (n + 1) env' (by omega))
theorem sy_NC.mv {u U : State} (h : sy_NC u) (hv : u.vm.Alike U.vm) : sy_NC U := ⟨h.1.moved hv, h.2.1.moved hv, h.2.2.moved hv⟩
theorem sy_blindH (D : va_G) (cA : Nat → ClassId) (b : Nat) (σ : sy_Mem) (av : List Value) : FrameBlind (va_Pc av (sy_PH D cA b σ)) := by
  intro a U g mk h
  obtain ⟨h0, h1, h2⟩ := h
  have hb := sy_blind D cA b σ av a U g mk ⟨h0, h1⟩
  exact ⟨h0, hb.2, h2.mv (U := U.calling g mk a) (Vm.Alike.refl U.vm)⟩
theorem sy_calledPH {X : sy_Cx} (F : sy_FX X μ) (hN : sy_NC (sy_xs X)) {σ : sy_Mem} {H : Heap} {locs : List Loc} (hP : sy_P X σ H) (hS : sy_Z X H locs) (vs : List Value) : ∀ U : State, U.heap = H → (sy_xs X).WarmedH U.vm → va_Pc (vs.map (sy_sh (sy_xb X))) (sy_PH (sy_xD X) (sy_xA X) (sy_xb X) σ) (vs.map (sy_sh (sy_xb X))).toArray U := fun U hU hW => ⟨rfl, sy_calledPW F hP hS U hU hW, hN.mv hW.alike⟩
/-- a call of a body of the law's that catches -/
def sy_cH (ix : Nat) (y : MethodName) (cy : ByteArray) (nLy : Nat) (hh : List (Nat × Nat × Nat × Nat)) (m : Nat) : Prop :=
  (∀ w ∈ [Cond.methodLink "SegmentYardLaw" ix y, .static y, .initialized y.cls, .codeWith y cy nLy (some .int) hh], w ∈ sy_AL) ∧ (y.cls ≠ "java/lang/invoke/MethodHandle" ∧ y.cls ≠ "java/lang/invoke/VarHandle" ∧ (parseMethodDescriptor y.desc).map (fun d => d.parameters.length) = some m) ∧ nLy ≤ 23
theorem o1_hcall {y : MethodName} {cy : ByteArray} {nLy hy m ix i : Nat} {hh : List (Nat × Nat × Nat × Nat)} {g : List Value → sy_MM (Option Value)} {as : sy_AE} {bs L : Nat} {xs : Nat → Int32} (hsc : μ.2.2.2.2.2 = some (bs, L, xs)) (h0 : μ.1 = "SegmentYardLaw") (ha : sy_OA μ 0 pc p1 as) (hM : sy_KH y cy nLy hh hy g) (hr0 : ∀ vs σ E τ, g vs σ = some (.inr E, τ) → False) (hc : sy_cH ix y cy nLy hh m) (d : decode μ.2.1 p1 = .ok (.invokestatic ix, 3)) (hh' : hy + 1 ≤ μ.2.2.2.1)
    (d2 : decode μ.2.1 (p1 + 3) = .ok (.istore i, 2)) (hi : i < μ.2.2.2.2.1) : sy_O1 μ pc (p1 + 5) (sy_sSI i (sy_iM (sy_cs m g) as)) := by
  intro X F n env k hn1 hk
  unfold sy_sSI sy_iM
  rw [sy_bnd_bnd]
  refine ha X F n env [] _ (Nat.le_refl _) (fun vs => ?_)
  rw [sy_bnd_bnd]
  unfold sy_cs
  by_cases h : (vs.length == m) = true
  · rw [if_pos h]
    intro σ hn hf H locs ls hP hS hE
    unfold sy_bnd at hf
    obtain ⟨hw, hd, h23⟩ := hc
    have hfr := F.fr
    have hsx := F.sc
    rw [hsc] at hsx
    obtain ⟨-, -, -, hN, hc1, hc2⟩ := hsx
    cases hg : g vs σ with
    | none => rw [hg] at hf; cases hf
    | some o =>
      obtain ⟨r, τ⟩ := o
      rw [hg] at hf
      cases r with
      | inr E => exact (hr0 _ _ _ _ hg).elim
      | inl v =>
        have hKM := sy_vxmono (hM (sy_xl X) (sy_xD X) (sy_xA X) (sy_xb X) vs σ v τ F.tr hg) (fun E s t h => h)
        have hG : GoodIn sy_AL (va_wsS "SegmentYardLaw" ix y (Cond.codeWith y cy nLy (some .int) hh :: sy_AL)) := fun w h => sy_good (by
          simp only [va_wsS, List.mem_append, List.mem_cons, List.not_mem_nil, or_false] at h
          rcases h with (h | h | h) | h | h
          · exact hw w (by simp [h])
          · exact hw w (by simp [h])
          · exact hw w (by simp [h])
          · exact hw w (by simp [h])
          · exact h)
        have ho : (sy_xs X).vm.findClass "SegmentYardLaw" = some (sy_xm X).cls := by have := F.o; rw [h0] at this; exact this
        have hrun := vx_runSW (e := sy_xe X) (below := sy_xo X) (meth := sy_xM X) (R := sy_xR X) (As := vs.map (sy_sh (sy_xb X))) (rest := []) (H := H) (locs := locs) (cells := n) (slots := 6 * n) (g := F0 (sy_xm X) p1 ls ((vs.reverse ++ []).map (sy_sh (sy_xb X)))) ⟨F.e, F.c, rfl, ho, F.w⟩ hKM
          (vx_cwSW m F.w hG rfl rfl rfl hd ⟨Nat.le_trans hh' hfr.1, by show 8 + (nLy + 11) + 42 * hy ≤ (sy_xR X).locals; omega⟩)
          ⟨sy_blindH _ _ _ _ _, sy_calledPH F hN hP hS vs⟩ rfl (by simpa using h) hE.1 (by simp [F0]) (lv_room (Nat.zero_le _)) d ⟨by omega, by omega⟩
        intro T hT XS
        obtain ⟨v', st₀, t, T', L', h0', X', hL, e1, e2, ⟨⟨w, hw', hoc, hP'⟩, hF⟩, sg⟩ := hrun T hT XS
        cases hw'
        cases hoc
        obtain ⟨-, -, k3⟩ := vx_keep h0' e1 hS (A1 := sy_ab (sy_xb X)) (fun _ _ h => h) (fun _ h => h) hL hF
        have kk : sy_B X (n + 1) (p1 + 3) env (v.toList ++ []) (sy_bnd (sy_toI v) fun x => k (sy_set env i (.int x))) := by
          unfold sy_toI
          split
          · exact sy_istore F d2 hi (hk _)
          · exact sy_vac (fun _ => rfl)
        obtain ⟨t2, a1, b1⟩ := kk τ hn1 hf T'.heap (locs ++ L') ls (by rw [e1]; exact hP') k3 hE T' rfl X'
        refine ⟨t2, sg t2 ?_, b1⟩
        rw [List.map_append, show v.toList.map (sy_sh (sy_xb X)) = (v.map (sy_sh (sy_xb X))).toList by cases v <;> rfl] at a1
        exact a1
  · rw [if_neg h]
    exact sy_vac (fun _ => rfl)
end SYL
