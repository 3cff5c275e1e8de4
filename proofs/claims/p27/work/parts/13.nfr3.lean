/-! 'new int[n]' in a frame of the law's; the law's own methods called -/
section SND
variable {μ : sy_Mu} {sk pc pc' p1 p2 p3 : Nat}
abbrev sy_xq (X : sy_Cx) (b : sy_Bs) : sy_Cx := (X.1, X.2.1, X.2.2.1, X.2.2.2.1, b, X.2.2.2.2.2.1, X.2.2.2.2.2.2)
theorem sy_PP_bq {D : va_G} {cA : Nat → ClassId} {b : sy_Bs} {k q : Nat} {σ : sy_Mem} {H : Heap} (hk : 53 ≤ k) (h : ¬ σ 58 k = 1) : sy_PP D cA (sy_bq b k q) σ H ↔ sy_PP D cA b σ H := by
  have e : sy_wd (sy_bq b k q) cA σ = sy_wd b cA σ := sy_wd_bq hk (fun hm => h (sy_tp_ge hm).2.2)
  unfold sy_PP
  rw [e]
  exact Iff.rfl
theorem sy_FN_bq {X : sy_Cx} {k q : Nat} (h0 : μ.1 = "SegmentYardLaw") (hk : 53 ≤ k) (FN : sy_FN X μ) {v : Option Value} {τ : sy_Mem} (hG : sy_xg X = (.inl v, τ)) (hτ : ¬ τ 58 k = 1) (hv : sy_rk k v = false) : sy_FN (sy_xq X (sy_bq (sy_xb X) k q)) μ := by
  obtain ⟨F, hN, hI⟩ := FN
  refine ⟨⟨F.e, F.c, F.o, F.w, F.k, F.t, F.tr, F.ml, F.fr, F.ce, F.cx, ?_, ?_, ?_, ?_⟩, hN, hI⟩
  · intro w σ hw n H locs ls pc hn hP hS hr
    have hw2 : sy_xg X = (.inl w, σ) := hw
    rw [hG] at hw2
    cases hw2
    have K := F.re v τ hG n H locs ls pc hn ((sy_PP_bq hk hτ).mp hP) hS hr
    have e : v.map (sy_sh (sy_bq (sy_xb X) k q)) = v.map (sy_sh (sy_xb X)) := by
      cases v with
      | none => rfl
      | some w =>
        cases w with
        | ref a =>
          have hne : a ≠ k := by simpa [sy_rk] using hv
          show some (Value.ref _) = some (Value.ref _)
          rw [sy_bq_ne hne]
        | _ => rfl
    show sy_W X n H locs (F0 (sy_xm X) pc ls ((v.map (sy_sh (sy_bq (sy_xb X) k q))).toList))
    rw [e]
    exact K
  · intro E σ hw
    have hw2 : sy_xg X = (.inr E, σ) := hw
    rw [hG] at hw2
    cases hw2
  · intro h
    exact absurd (h0.symm.trans h) (by decide)
  · have h := F.sc
    revert h
    cases μ.2.2.2.2.2 with
    | none => exact fun h => h
    | some x => exact fun h => h
theorem ns_new {c : Nat} {len : Int32} {k i p2 : Nat} {s : sy_S} {zi : Int} (h0 : μ.1 = "SegmentYardLaw") (hw : Cond.arrayClass .int ∈ sy_AL) (h1 : 53 ≤ k) (h2 : k ≤ 57) (d0 : decode μ.2.1 pc = .ok (.iconst zi, 1)) (hz : Int32.ofInt zi = len) (hl : ¬ len < 0 ∧ len.toNatClampNeg = sy_tl k) (d1 : decode μ.2.1 (pc + 1) = .ok (.newarray .int, 2))
    (d2 : (∃ q : Fin 4, decode μ.2.1 (pc + 3) = .ok (.astore_n q, 1) ∧ (q : Nat) = i ∧ p2 = pc + 4) ∨ (decode μ.2.1 (pc + 3) = .ok (.astore i, 2) ∧ p2 = pc + 5)) (hi : i < μ.2.2.2.2.1) (hs : sn_S c μ p2 pc' s) : sn_S (c + 1) μ pc pc' (sy_sNew k i s) := by
  intro X FN n n' env kk hc hx hk σ hn hf H locs ls hP hS hE
  have F := FN.1
  unfold sy_sNew at hf
  by_cases ht : (sy_top k σ && sy_nor k env) = true
  · rw [if_pos ht] at hf
    rw [Bool.and_eq_true] at ht
    revert hf
    generalize hr : s (sy_set env i (.ref k)) _ (sy_new k σ) = r
    intro hf
    cases r with
    | none => cases hf
    | some o =>
      obtain ⟨r, τ⟩ := o
      cases r with
      | inr E => cases hf
      | inl v =>
        dsimp only at hf
        by_cases hb : ((τ 58 k == 1) || sy_rk k v) = true
        · rw [if_pos hb] at hf; cases hf
        · rw [if_neg hb] at hf
          simp only [Bool.or_eq_true, beq_iff_eq, not_or, Bool.not_eq_true] at hb
          have hG : sy_xg X = (.inl v, τ) := (Option.some.inj hf).symm
          have hlt : sy_tl k ≤ 6 := by
            rcases (show k = 53 ∨ k = 54 ∨ k = 55 ∨ k = 56 ∨ k = 57 by omega) with rfl | rfl | rfl | rfl | rfl <;> decide
          have hce := F.ce
          refine lv_iconst F.e F.c d0 hz ?_
          refine va_newa (atype := .int) (N' := sy_tl k) (a0 := (sy_tl k, .inl (fun _ => 0))) F.e F.c (F.w _ hw) rfl F.k hP.1 hP.2 hS (fun q hq => ?_) (fun cA => rfl) hl.1 hl.2 (by show sy_tl k * 4 ≤ 536870912; omega) (by omega) (by omega) d1 (fun q cA' H1 hK1 hP1 hD1 hS1 => ?_)
          · exact Nat.le_trans FN.2.2.2 hq
          · have hcA : cA' = sy_xA X 0 := by
              have e1 : (sy_xs X).vm.findClass ("[" ++ FieldType.int.toString) = some cA' := (hK1.2 (sy_tys (sy_xA X)).length (cA', .int) (by rw [List.getElem?_append_right (Nat.le_refl _), Nat.sub_self]; rfl)).2
              have e2 : (sy_xs X).vm.findClass ("[" ++ FieldType.int.toString) = some (sy_xA X 0) := (F.k.2 0 (sy_xA X 0, .int) rfl).2
              exact Option.some.inj (e1.symm.trans e2)
            subst hcA
            have FN' := sy_FN_bq (q := q) h0 h1 FN hG hb.1 hb.2
            have F' := FN'.1
            have e := sy_wd_new (b := sy_xb X) (cA := sy_xA X) (q := q) h1 h2 ht.1
            have hP' : sy_P (sy_xq X (sy_bq (sy_xb X) k q)) (sy_new k σ) H1 := by
              refine ⟨?_, ?_⟩
              · show va_P _ _ (sy_wd _ _ _) _
                rw [e]; exact hP1
              · show va_D _ (sy_wd _ _ _)
                rw [e]; exact hD1
            have body : sy_B (sy_xq X (sy_bq (sy_xb X) k q)) (n + 1) p2 (sy_set env i (.ref k)) [] (s (sy_set env i (.ref k)) (fun env' τ => if !(τ 58 k == 1) && sy_nor k env' then kk env' τ else none)) := by
              refine hs _ FN' (n + 1) n' (sy_set env i (.ref k)) _ (by omega) hx (fun env' => ?_)
              intro σ1 hn1 hf1 H2 locs2 ls2 hP2 hS2 hE2
              dsimp only at hf1
              by_cases hq : (!(σ1 58 k == 1) && sy_nor k env') = true
              · rw [if_pos hq] at hf1
                simp only [Bool.and_eq_true, Bool.not_eq_true', beq_eq_false_iff_ne, ne_eq] at hq
                exact hk env' σ1 hn1 hf1 H2 locs2 ls2 ((sy_PP_bq h1 hq.1).mp hP2) hS2 ((sy_eok_bq hq.2).mp hE2)
              · rw [if_neg hq] at hf1
                cases hf1
            have hst : sy_B (sy_xq X (sy_bq (sy_xb X) k q)) (n + 1) (pc + 3) env [.ref k] (s (sy_set env i (.ref k)) (fun env' τ => if !(τ 58 k == 1) && sy_nor k env' then kk env' τ else none)) := by
              rcases d2 with ⟨qq, d2, hq, rfl⟩ | ⟨d2, rfl⟩
              · subst hq
                exact sy_astore_n F' d2 hi body
              · exact sy_astore F' d2 hi body
            have K := hst (sy_new k σ) (by show n + 1 ≤ sy_xn X; omega) (hr.trans (by rw [← hG])) H1 locs ls hP' hS1 ((sy_eok_bq ht.2).mpr hE)
            refine W.widen (Nat.le_refl _) (by omega : 6 * n + sy_tl k ≤ 6 * (n + 1)) ?_
            have ek : sy_ad (sy_bq (sy_xb X) k q) k = q := sy_bq_k h1
            simp only [List.map_cons, List.map_nil, sy_sh, ek] at K
            exact K
  · rw [if_neg ht] at hf
    cases hf
-- contracts of the law's methods
def sy_SP : Option (Nat × Nat × (Nat → Int32)) → sy_Bs → State → Prop
  | none, _, _ => True
  | some (bs, L, xs), b, U => va_X bs L xs U U.heap ∧ bs < U.heap.size ∧ bs < b.1
def sy_PN (D : va_G) (cA : Nat → ClassId) (b : sy_Bs) (σ : sy_Mem) (sc : Option (Nat × Nat × (Nat → Int32))) (U : State) : Prop := sy_PW D cA b σ U ∧ sy_NC U ∧ sy_SP sc b U
def sy_rN (h c : Nat) : Room := { frames := h, cells := c, slots := 6 * c, locals := 42 * h }
def sy_KN (w : Cond) (y : MethodName) (sc : Option (Nat × Nat × (Nat → Int32))) (h c : Nat) (g : List Value → sy_MM (Option Value)) : Prop :=
  ∀ (l : Launch) (D : va_G) (cA : Nat → ClassId) (b : sy_Bs) (vs : List Value) (σ : sy_Mem) (v : Option Value) (τ : sy_Mem), l.stackTraces = false → g vs σ = some (.inl v, τ) →
    Met l y (w :: sy_AL) (sy_rN h c) (va_Pc (vs.map (sy_sh b)) (sy_PN D cA b σ sc)) (sy_Qc D cA b (.inl v) τ) c (6 * c) (sy_ab b.1)
theorem sy_NC.mv {u U : State} (h : sy_NC u) (hv : u.vm.Alike U.vm) : sy_NC U := ⟨h.1.moved hv, h.2.1.moved hv, h.2.2.moved hv⟩
theorem sy_blindN (D : va_G) (cA : Nat → ClassId) (b : sy_Bs) (σ : sy_Mem) (sc : Option (Nat × Nat × (Nat → Int32))) (av : List Value) : FrameBlind (va_Pc av (sy_PN D cA b σ sc)) := by
  intro a U g mk h
  obtain ⟨h0, h1, h2, h3⟩ := h
  have hb := sy_blind D cA b σ av a U g mk ⟨h0, h1⟩
  refine ⟨h0, hb.2, h2.mv (U := U.calling g mk a) (Vm.Alike.refl U.vm), ?_⟩
  cases sc with
  | none => trivial
  | some x => exact ⟨h3.1.moved (u := U) (U := U.calling g mk a) (Vm.Alike.refl U.vm), h3.2⟩
theorem sy_calledPN {X : sy_Cx} (FN : sy_FN X μ) {sc : Option (Nat × Nat × (Nat → Int32))} (hsc : sc = none ∨ sc = μ.2.2.2.2.2) {σ : sy_Mem} {H : Heap} {locs : List Loc} (hP : sy_P X σ H) (hS : sy_Z X H locs) (vs : List Value) : ∀ U : State, U.heap = H → (sy_xs X).WarmedH U.vm → va_Pc (vs.map (sy_sh (sy_xb X))) (sy_PN (sy_xD X) (sy_xA X) (sy_xb X) σ sc) (vs.map (sy_sh (sy_xb X))).toArray U := by
  intro U hU hW
  refine ⟨rfl, sy_calledPW FN.1 hP hS U hU hW, FN.2.1.mv hW.alike, ?_⟩
  rcases hsc with rfl | rfl
  · trivial
  · have h := FN.1.sc
    revert h
    cases μ.2.2.2.2.2 with
    | none => exact fun _ => trivial
    | some x =>
      rintro ⟨h1, h2, h3⟩
      refine ⟨(h1.moved hW.alike).kept ?_, ?_, h3⟩
      · rw [hU]; exact hS.2.1 _ h2 (Nat.not_le.mpr h3)
      · rw [hU]; exact Nat.lt_of_lt_of_le h2 hS.1
def sy_wN (ix : Nat) (y : MethodName) (w : Cond) (m : Nat) : Prop :=
  (∀ w' ∈ [Cond.methodLink "SegmentYardLaw" ix y, .static y, .initialized y.cls, w], w' ∈ sy_AL) ∧ (y.cls ≠ "java/lang/invoke/MethodHandle" ∧ y.cls ≠ "java/lang/invoke/VarHandle" ∧ (parseMethodDescriptor y.desc).map (fun d => d.parameters.length) = some m)
/-- a law's method has been called and has returned -/
theorem sn_back {X : sy_Cx} (FN : sy_FN X μ) {n n' c : Nat} {env st : List Value} {v : Option Value} {τ : sy_Mem} {kk : Option Value → sy_MM (Option Value)} (hn : n + c ≤ n') (hx : n' ≤ sy_xn X) (hk : ∀ r, sy_B X n' (pc + 3) env (r.toList ++ st) (kk r)) (hf : kk v τ = some (sy_xg X)) {H : Heap} {locs : List Loc} {ls : Array Slot} {st0 : List Value} (hS : sy_Z X H locs) (hE : sy_eok (sy_xb X) ls (sy_xc X).maxLocals env)
    (hrun : va_Run (sy_xp X) (sy_xl X) (sy_xe X) (sy_xR X) (sy_xs X) (sy_xm X) (sy_xa X) (sy_xo X) (sy_xM X) (sy_xc X) H locs n (6 * n) c (6 * c) (F0 (sy_xm X) pc ls st0) (st.map (sy_sh (sy_xb X))) (fun a o t => ∃ args : Array Value, sy_Qc (sy_xD X) (sy_xA X) (sy_xb X) (.inl v) τ args a o t) (sy_ab (sy_xb X).1)) : sy_W X n H locs (F0 (sy_xm X) pc ls st0) := by
  intro T hT XS
  obtain ⟨v', st₀, t, T', L', h0', X', hL, e1, e2, ⟨args, ⟨w, hw', hoc, hP'⟩, hF⟩, sg⟩ := hrun T hT XS
  cases hw'
  cases hoc
  obtain ⟨-, -, k3⟩ := vx_keep h0' e1 hS (A1 := sy_ab (sy_xb X).1) (fun _ _ h => h) (fun _ h => h) hL hF
  have K := sn_wid (X := X) (by omega : n + c ≤ n') hx (hk v)
  obtain ⟨t2, a1, b1⟩ := K τ (by omega) hf T'.heap (locs ++ L') ls (by rw [e1]; exact hP') k3 hE T' rfl (by rw [Nat.mul_add]; exact X')
  refine ⟨t2, sg t2 ?_, b1⟩
  rw [List.map_append, show v.toList.map (sy_sh (sy_xb X)) = (v.map (sy_sh (sy_xb X))).toList by cases v <;> rfl] at a1
  exact a1
section SND2
variable {p : Program} {l : Launch} {e : Env} {R : Room} {s : State} {m : MethodId} {args : Array Value} {below : List Frame} {meth : Method} {c : Code} {H : Heap} {locs : List Loc} {cells slots : Nat}
/-- a static call over a stack of up to W words -/
theorem sn_runS {y : MethodName} {bytes cc : ByteArray} {maxL nL mc ms n index : Nat} {ret : Option FieldType} {ws ws' : List Cond} {rm : Room} {Pc : Array Value → State → Prop} {Qc : Array Value → State → Outcome → State → Prop} {free : Addr → Prop} {Ts : List Cond} {own : String} {As rest : List Value} {g : JFrame} (W : Nat)
    (S : CallFix p m c cc nL s args Ts own) (hM : Met l y ws rm Pc Qc mc ms free) (hT : GoodIn Ts (wsS own index y ws)) (hw : ws = Cond.code y bytes maxL ret :: ws') (hrc : rm.cells = mc) (hrs : rm.slots = ms)
    (hd : y.cls = own ∧ y.cls ≠ "java/lang/invoke/MethodHandle" ∧ y.cls ≠ "java/lang/invoke/VarHandle" ∧ (parseMethodDescriptor y.desc).map (fun d => d.parameters.length) = some n) (hR : rm.frames + 1 ≤ R.frames ∧ W + (maxL + 11) + rm.locals ≤ R.locals) (hp : PreS s H Pc As)
    (hg : g.method = m) (hn : As.length = n) (hsize : g.locals.size = nL) (hstack : g.stack = As.reverse ++ rest) (hW : 2 * g.monitorRoom + (rest.map fun v => v.category).sum ≤ W) (hdg : decode cc g.pc = .ok (.invokestatic index, 3)) (hf : cells + mc ≤ R.cells ∧ slots + ms ≤ R.slots) :
    va_Run p l e R s m args below meth c H locs cells slots mc ms g rest (Qc As.toArray) (free) := by
  obtain ⟨hx, hb, hml, ho, ht⟩ := S
  obtain ⟨hC, hy1, hy2, hlen'⟩ := hd
  have ok : ∀ w ∈ wsS own index y ws, w.before args s = true := fun w h => ht w (hT w h).1
  have hG : GoodIn Ts ws := fun w h => hT w (by unfold wsS; exact List.mem_append_right _ h)
  have hc : Cond.code y bytes maxL ret ∈ ws := by rw [hw]; exact List.mem_cons_self
  have hini : (Cond.initialized y.cls).before args s = true := by rw [hC]; exact ok _ (by simp [wsS])
  have hl : (Cond.methodLink own index y).before args s = true := ok _ (by simp [wsS])
  have hstt : (Cond.static y).before args s = true := ok _ (by simp [wsS])
  have hcode := ht _ (hG _ hc).1
  have hlen : ∀ sig, parseMethodDescriptor y.desc = some sig → n = sig.parameters.length := fun sig h => by
    rw [h] at hlen'
    exact (Option.some.inj hlen').symm
  have hK : Back l R p e below s args y 3 W (PreOf R mc ms Pc) (PostOf Qc mc ms free) := back_of (bytes := bytes) (maxL := maxL) (ret := ret) hM hp.1 hrc hrs hR.1 hR.2 (pay_in ht hG) hc (fun a' U hW => word_at hW (Or.inl (by first | rfl | simp [Cond.onTables, Cond.keeps, Cond.steady])) hini)
  intro T hT2 X
  obtain ⟨v, vm₁, ⟨U', l2, c2, s2⟩, hW₁, X', ⟨g', mk, t, L, e1, e2, hq, h1, hL, h2, h3⟩, st⟩ := callS X hx (bytes := bytes) (maxL := maxL) (ret := ret) ho hl hstt hini hcode ⟨hy1, hy2⟩ hK hg (hsize.trans hml.symm) (argsL := As) (rest := rest) (fun sig h => hn.trans (hlen sig h)) hstack hW (by rw [hb]; exact hdg)
    (fun vm₁ hW₁ => ⟨hf.1, hf.2, hp.2 (T.setVm vm₁) hT2 hW₁⟩)
  dsimp only [Pt.U, Pt.locs, Pt.cells, Pt.slots] at X' e1 e2 h1 h2 h3 st
  subst h1; subst h2; subst h3
  exact ⟨v, (T.setVm vm₁).calling g' mk As.toArray, t, U', L, hT2, X', hL, e1, e2, hq, st⟩
end SND2
def sy_cr (m : Nat) (g : List Value → sy_MM (Option Value)) : List Value → sy_MM (Option Value) := fun vs => if vs.length == m then (fun σ => match g vs σ with | some (.inl v, τ) => some (.inl v, τ) | _ => none) else sy_fail
theorem nk_s (W : Nat) {c : Nat} {y : MethodName} {cy : ByteArray} {nLy hy m ix : Nat} {rety : Option FieldType} {sc : Option (Nat × Nat × (Nat → Int32))} {g : List Value → sy_MM (Option Value)} (h0 : μ.1 = "SegmentYardLaw") (hy1 : y.cls = "SegmentYardLaw") (hsc : sc = none ∨ sc = μ.2.2.2.2.2) (hM : sy_KN (.code y cy nLy rety) y sc hy c g) (hcN : sy_wN ix y (.code y cy nLy rety) m) (d : decode μ.2.1 pc = .ok (.invokestatic ix, 3)) (hh : hy + 1 ≤ μ.2.2.2.1 ∧ W + 11 + nLy + 42 * hy ≤ 42 * μ.2.2.2.1) (h8 : sk ≤ W) : sn_K c μ sk pc (sy_cr m g) := by
  intro X FN n n' env st vs k hc hx hs hk
  have F := FN.1
  unfold sy_cr
  by_cases h : (vs.length == m) = true
  · rw [if_pos h]
    intro σ hn hf H locs ls hP hS hE
    unfold sy_bnd at hf
    dsimp only at hf
    cases hg : g vs σ with
    | none => rw [hg] at hf; cases hf
    | some o =>
      obtain ⟨r, τ⟩ := o
      rw [hg] at hf
      cases r with
      | inr E => cases hf
      | inl v =>
        obtain ⟨hw, hd⟩ := hcN
        have hfr := F.fr
        have hce := F.ce
        have hKM := hM (sy_xl X) (sy_xD X) (sy_xA X) (sy_xb X) vs σ v τ F.tr hg
        have hG : GoodIn sy_AL (wsS μ.1 ix y (Cond.code y cy nLy rety :: sy_AL)) := fun w h => sy_good (by
          simp only [wsS, List.mem_append, List.mem_cons, List.not_mem_nil, or_false] at h
          rw [h0] at h
          rcases h with (h | h | h) | h | h
          · exact hw w (by simp [h])
          · exact hw w (by simp [h])
          · exact hw w (by simp [h, hy1])
          · exact hw w (by simp [h])
          · exact h)
        have hsum : ((st.map (sy_sh (sy_xb X))).map fun v => v.category).sum ≤ W := by rw [sy_sh_sum]; exact Nat.le_trans hs h8
        have hmr : (F0 (sy_xm X) pc ls ((vs.reverse ++ st).map (sy_sh (sy_xb X)))).monitorRoom = 0 := rfl
        have hrun := sn_runS (e := sy_xe X) (below := sy_xo X) (meth := sy_xM X) (R := sy_xR X) (As := vs.map (sy_sh (sy_xb X))) (rest := st.map (sy_sh (sy_xb X))) (H := H) (locs := locs) (cells := n) (slots := 6 * n) (g := F0 (sy_xm X) pc ls ((vs.reverse ++ st).map (sy_sh (sy_xb X)))) W ⟨F.e, F.c, rfl, F.o, F.w⟩ hKM
          hG rfl rfl rfl ⟨hy1.trans h0.symm, hd⟩ ⟨Nat.le_trans hh.1 hfr.1, by show W + (nLy + 11) + 42 * hy ≤ (sy_xR X).locals; omega⟩
          ⟨sy_blindN _ _ _ _ _ _, sy_calledPN FN hsc hP hS vs⟩ rfl (by simpa using h) hE.1 (by simp [F0]) (by rw [hmr]; omega) d ⟨by omega, by omega⟩
        refine sn_back FN hc hx hk hf hS hE ?_
        intro T hT XS
        obtain ⟨v', st₀, t, T', L', a1, a2, a3, a4, a5, a6, a7⟩ := hrun T hT XS
        exact ⟨v', st₀, t, T', L', a1, a2, a3, a4, a5, ⟨_, a6⟩, a7⟩
  · rw [if_neg h]
    exact sy_vac (fun _ => rfl)
theorem nk_h {c : Nat} {y : MethodName} {cy : ByteArray} {nLy hy m ix : Nat} {rety : Option FieldType} {hh : List (Nat × Nat × Nat × Nat)} {g : List Value → sy_MM (Option Value)} (h0 : μ.1 = "SegmentYardLaw") (hM : sy_KN (.codeWith y cy nLy rety hh) y none hy c g) (hcN : sy_wN ix y (.codeWith y cy nLy rety hh) m) (d : decode μ.2.1 pc = .ok (.invokestatic ix, 3)) (hh' : hy + 1 ≤ μ.2.2.2.1 ∧ 19 + nLy + 42 * hy ≤ 42 * μ.2.2.2.1) (h8 : sk ≤ 8) : sn_K c μ sk pc (sy_cr m g) := by
  intro X FN n n' env st vs k hc hx hs hk
  have F := FN.1
  unfold sy_cr
  by_cases h : (vs.length == m) = true
  · rw [if_pos h]
    intro σ hn hf H locs ls hP hS hE
    unfold sy_bnd at hf
    dsimp only at hf
    cases hg : g vs σ with
    | none => rw [hg] at hf; cases hf
    | some o =>
      obtain ⟨r, τ⟩ := o
      rw [hg] at hf
      cases r with
      | inr E => cases hf
      | inl v =>
        obtain ⟨hw, hd⟩ := hcN
        have hfr := F.fr
        have hce := F.ce
        have hKM := hM (sy_xl X) (sy_xD X) (sy_xA X) (sy_xb X) vs σ v τ F.tr hg
        have hG : GoodIn sy_AL (va_wsS "SegmentYardLaw" ix y (Cond.codeWith y cy nLy rety hh :: sy_AL)) := fun w h => sy_good (by
          simp only [va_wsS, List.mem_append, List.mem_cons, List.not_mem_nil, or_false] at h
          rcases h with (h | h | h) | h | h
          · exact hw w (by simp [h])
          · exact hw w (by simp [h])
          · exact hw w (by simp [h])
          · exact hw w (by simp [h])
          · exact h)
        have ho : (sy_xs X).vm.findClass "SegmentYardLaw" = some (sy_xm X).cls := by have := F.o; rw [h0] at this; exact this
        have hrun := vx_runSW (e := sy_xe X) (below := sy_xo X) (meth := sy_xM X) (R := sy_xR X) (As := vs.map (sy_sh (sy_xb X))) (rest := st.map (sy_sh (sy_xb X))) (H := H) (locs := locs) (cells := n) (slots := 6 * n) (g := F0 (sy_xm X) pc ls ((vs.reverse ++ st).map (sy_sh (sy_xb X)))) ⟨F.e, F.c, rfl, ho, F.w⟩ hKM
          (vx_cwSW m F.w hG rfl rfl rfl hd ⟨Nat.le_trans hh'.1 hfr.1, by show 8 + (nLy + 11) + 42 * hy ≤ (sy_xR X).locals; omega⟩)
          ⟨sy_blindN _ _ _ _ _ _, sy_calledPN FN (Or.inl rfl) hP hS vs⟩ rfl (by simpa using h) hE.1 (by simp [F0]) (lv_room (by rw [sy_sh_sum]; exact Nat.le_trans hs h8)) d ⟨by omega, by omega⟩
        refine sn_back FN hc hx hk hf hS hE ?_
        intro T hT XS
        obtain ⟨v', st₀, t, T', L', a1, a2, a3, a4, a5, a6, a7⟩ := hrun T hT XS
        exact ⟨v', st₀, t, T', L', a1, a2, a3, a4, a5, ⟨_, a6⟩, a7⟩
  · rw [if_neg h]
    exact sy_vac (fun _ => rfl)
end SND
