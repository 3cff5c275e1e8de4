section SYO
/-- a constructor's contract: from n cells P0 to n' cells G -/
def sc_Pc (D : va_G) (cA : Nat → ClassId) (b n : Nat) (Pr : State → Prop) (T0 : List (ClassId × FieldType)) (F : Nat → va_E) : State → Prop := fun U => U.heap.size = b + n ∧ va_P D vwCl (sc_ws b n F) U.heap ∧ va_K D vwCl T0 U ∧ sc_A U cA ∧ Pr U
abbrev sc_G : Type := (Nat → ClassId) → Nat → (Nat → va_E) → Nat → va_E
def sc_M (y : MethodName) (cc : ByteArray) (nL h : Nat) (av : Nat → List Value) (n n' ms : Nat) (Pr : State → Prop) (t0 : (Nat → ClassId) → List (ClassId × FieldType)) (P0 G : sc_G) (ty : (Nat → ClassId) → List (ClassId × FieldType)) : Prop :=
  ∀ (l : Launch) (D : va_G) (cA : Nat → ClassId) (b : Nat) (F : Nat → va_E),
    Met l y (Cond.code y cc nL none :: sy_AL) ({ frames := h, cells := n' - n, slots := ms, locals := 42 * h } : Room) (va_Pc (av b) (sc_Pc D cA b n Pr (t0 cA) (P0 cA b F)))
      (va_Qv (fun _ : Unit => True) (fun _ t => va_P D vwCl (sc_ws b n' (G cA b F)) t.heap ∧ va_K D vwCl (ty cA) t) (sy_ab b)) (n' - n) ms (sy_ab b)
/-- a premise on the tables alone -/
def sc_tb (Pr : State → Prop) : Prop := (∀ u U : State, u.vm = U.vm → Pr u → Pr U) ∧ ∀ s U : State, s.WarmedH U.vm → Pr s → Pr U
theorem sc_tbT : sc_tb (fun _ => True) := ⟨fun _ _ _ _ => trivial, fun _ _ _ _ => trivial⟩
def sc_EX : List Cond := [.methodLinkNest "SegmentYard" 9 yX2_init "SegmentYard", .methodLinkNest "SegmentYard" 27 yX0_init "SegmentYard", .methodLinkNest "SegmentYard" 34 yX1_init "SegmentYard", .methodLinkNest "SegmentYard" 49 yX4_init "SegmentYard"]
def sc_Pr (U : State) : Prop := va_AO "SegmentYard$View" U ∧ ∀ w ∈ sc_EX, va_Nw w U
theorem sc_tbP : sc_tb sc_Pr := by
  refine ⟨fun u U h hP => ⟨va_AO.moved (u := u) (by rw [h]; exact Vm.Alike.refl _) hP.1, fun w hw => va_Nw.same (by revert w; decide) h (hP.2 w hw)⟩, fun s U h hP => ⟨hP.1.moved h.alike, fun w hw => ?_⟩⟩
  have h1 := hP.2 w hw
  simp only [sc_EX, List.mem_cons, List.not_mem_nil, or_false] at hw
  rcases hw with rfl | rfl | rfl | rfl <;> exact va_Nw.warmM h h1
theorem sc_blind {D : va_G} {cA : Nat → ClassId} {b n : Nat} {Pr : State → Prop} (hPr : sc_tb Pr) {T0 : List (ClassId × FieldType)} {F : Nat → va_E} {av : List Value} : FrameBlind (va_Pc av (sc_Pc D cA b n Pr T0 F)) := by
  intro a U g mk h
  obtain ⟨h0, h1, h2, h3, h4, h5⟩ := h
  exact ⟨h0, h1, h2, va_K.moved (u := U) (U := U.calling g mk a) (Vm.Alike.refl U.vm) h3, sc_A.moved (u := U) (U := U.calling g mk a) (Vm.Alike.refl U.vm) h4, hPr.1 U (U.calling g mk a) rfl h5⟩
section SYO1
variable {p : Program} {l : Launch} {e : Env} {R : Room} {s : State} {m : MethodId} {args : Array Value} {below : List Frame} {meth : Method} {c : Code} {H : Heap} {locs : List Loc} {cells slots : Nat} {Q : State → Prop}
variable {cc : ByteArray} {pc nL : Nat} {ls : Array Slot} {rest : List Value} {D : va_G} {b n n' : Nat} {F : Nat → va_E} {H0 : Heap} {cA : Nat → ClassId} {own : String}
theorem sc_pre {Pr : State → Prop} (hPr : sc_tb Pr) {av : List Value} (hsz : H.size = b + n) (hP : va_P D vwCl (sc_ws b n F) H) {T0 : List (ClassId × FieldType)} (hK : va_K D vwCl T0 s) (hcA : sc_A s cA) (hp : Pr s) : ∀ U : State, U.heap = H → s.WarmedH U.vm → va_Pc av (sc_Pc D cA b n Pr T0 F) av.toArray U := fun U hU hW => ⟨rfl, by rw [hU]; exact hsz, by rw [hU]; exact hP, va_K.moved hW.alike hK, hcA.moved hW.alike, hPr.2 s U hW hp⟩
theorem sc_size (hn : 0 < n) (hz : s.heap.size + cells = b + n) (hP : va_P D vwCl (sc_ws b n F) H) (hsz : H.size ≤ s.heap.size + cells) : H.size = b + n := by
  have h := (hP (n - 1) _ (sc_ws_at (by omega))).lt
  have h : b + (n - 1) < H.size := h
  omega
theorem sc_ran {ms : Nat} {G : sc_G} {ty : (Nat → ClassId) → List (ClassId × FieldType)} {st0 : List Value} {a : Array Value} {F : Nat → va_E}
    (hrun : va_Run p l e R s m args below meth c H locs cells slots (n' - n) ms (F0 m pc ls st0) rest (va_Qv (fun _ : Unit => True) (fun _ t => va_P D vwCl (sc_ws b n' (G cA b F)) t.heap ∧ va_K D vwCl (ty cA) t) (sy_ab b) a) (sy_ab b)) (hS : va_S (sy_ab b) H0 H locs)
    (kk : ∀ (H1 : Heap) (locs1 : List Loc), va_P D vwCl (sc_ws b n' (G cA b F)) H1 → va_K D vwCl (ty cA) s → va_S (sy_ab b) H0 H1 locs1 → W p l e R s m args below meth c H1 locs1 (cells + (n' - n)) (slots + ms) Q (F0 m (pc + 3) ls rest)) : W p l e R s m args below meth c H locs cells slots Q (F0 m pc ls st0) := by
  refine va_callv hrun hS (fun q _ h => h) (fun q h => h) (fun u t H1 locs1 ht hvm _ hB _ _ hS1 => ?_)
  obtain ⟨hP1, hK1⟩ := hB
  rw [ht] at hP1
  exact kk H1 locs1 hP1 (va_K.moved hvm.symm hK1) hS1
theorem sc_call {y : MethodName} {cy : ByteArray} {nLy h ms ix k mA : Nat} {av : Nat → List Value} {As : List Value} {Pr : State → Prop} {t0 : (Nat → ClassId) → List (ClassId × FieldType)} {P0 G : sc_G} {ty : (Nat → ClassId) → List (ClassId × FieldType)} (hexec : p.tables.exec = Jvm.exec) (hb : c.code = cc) (hml : c.maxLocals = nL) (hown : s.vm.findClass own = some m.cls) (hts : ∀ w ∈ sy_AL, w.before args s = true) (hM : sc_M y cy nLy h av n n' ms Pr t0 P0 G ty) (hPr : sc_tb Pr)
    (hw : ∀ w ∈ [Cond.methodLink own ix y, .instanceMethod y, .initialized y.cls, .code y cy nLy none], w ∈ sy_AL) (hy1 : y.name = "<init>") (hd : y.cls ≠ "java/lang/invoke/MethodHandle" ∧ y.cls ≠ "java/lang/invoke/VarHandle" ∧ (parseMethodDescriptor y.desc).map (fun d => d.parameters.length) = some mA) (hR : h + 1 ≤ R.frames ∧ 8 + (nLy + 11) + 42 * h ≤ R.locals)
    (hav : av b = .ref (b + k) :: As) (hmA : As.length = mA) (hls : ls.size = nL) (hrest : (rest.map fun v => v.category).sum ≤ 8) (hK : va_K D vwCl (t0 cA) s) (hcA : sc_A s cA) (hp : Pr s) (hP : va_P D vwCl (sc_ws b n (P0 cA b F)) H) (hS : va_S (sy_ab b) H0 H locs) (hn : 0 < n) (hz : s.heap.size + cells = b + n) (hcells : cells + (n' - n) ≤ R.cells) (hslots : slots + ms ≤ R.slots)
    (hdg : decode cc pc = .ok (.invokespecial ix, 3))
    (kk : ∀ (H1 : Heap) (locs1 : List Loc), va_P D vwCl (sc_ws b n' (G cA b F)) H1 → va_K D vwCl (ty cA) s → va_S (sy_ab b) H0 H1 locs1 → W p l e R s m args below meth c H1 locs1 (cells + (n' - n)) (slots + ms) Q (F0 m (pc + 3) ls rest)) : W p l e R s m args below meth c H locs cells slots Q (F0 m pc ls (As.reverse ++ .ref (b + k) :: rest)) := by
  refine sc_bd fun hsz => ?_
  have hH := sc_size hn hz hP hsz
  have hG : GoodIn sy_AL (Cond.code y cy nLy none :: sy_AL) := fun w hw' => sy_good (by
    rcases List.mem_cons.mp hw' with hw' | hw'
    · exact hw w (by simp [hw'])
    · exact hw')
  have hpre := sc_pre (b := b) (n := n) (F := P0 cA b F) hPr (av := av b) hH hP hK hcA hp
  refine sc_ran (va_runI (As := As) (rest := rest) (b := b + k) ⟨hexec, hb, hml, hown, hts⟩ (hM l D cA b F) (cwI mA hts hG rfl rfl rfl (hts _ (hw _ (by simp))) (hts _ (hw _ (by simp))) (hts _ (hw _ (by simp))) hy1 hd hR) ⟨sc_blind hPr, by rw [← hav]; exact hpre⟩ rfl hmA hls rfl (lv_room hrest) hdg ⟨hcells, hslots⟩) hS kk
theorem sc_callN {y : MethodName} {cy : ByteArray} {nLy h ms ix k mA : Nat} {av : Nat → List Value} {As : List Value} {Pr : State → Prop} {t0 : (Nat → ClassId) → List (ClassId × FieldType)} {P0 G : sc_G} {ty : (Nat → ClassId) → List (ClassId × FieldType)} {host : String} (hexec : p.tables.exec = Jvm.exec) (hb : c.code = cc) (hml : c.maxLocals = nL) (hown : s.vm.findClass own = some m.cls) (hts : ∀ w ∈ sy_AL, w.before args s = true) (hM : sc_M y cy nLy h av n n' ms Pr t0 P0 G ty) (hPr : sc_tb Pr)
    (hw : ∀ w ∈ [Cond.instanceMethod y, .initialized y.cls, .code y cy nLy none], w ∈ sy_AL) (hnw : va_Nw (.methodLinkNest own ix y host) s) (hy1 : y.name = "<init>") (hd : y.cls ≠ "java/lang/invoke/MethodHandle" ∧ y.cls ≠ "java/lang/invoke/VarHandle" ∧ (parseMethodDescriptor y.desc).map (fun d => d.parameters.length) = some mA) (hR : h + 1 ≤ R.frames ∧ 8 + (nLy + 11) + 42 * h ≤ R.locals)
    (hav : av b = .ref (b + k) :: As) (hmA : As.length = mA) (hls : ls.size = nL) (hrest : (rest.map fun v => v.category).sum ≤ 8) (hK : va_K D vwCl (t0 cA) s) (hcA : sc_A s cA) (hp : Pr s) (hP : va_P D vwCl (sc_ws b n (P0 cA b F)) H) (hS : va_S (sy_ab b) H0 H locs) (hn : 0 < n) (hz : s.heap.size + cells = b + n) (hcells : cells + (n' - n) ≤ R.cells) (hslots : slots + ms ≤ R.slots)
    (hdg : decode cc pc = .ok (.invokespecial ix, 3))
    (kk : ∀ (H1 : Heap) (locs1 : List Loc), va_P D vwCl (sc_ws b n' (G cA b F)) H1 → va_K D vwCl (ty cA) s → va_S (sy_ab b) H0 H1 locs1 → W p l e R s m args below meth c H1 locs1 (cells + (n' - n)) (slots + ms) Q (F0 m (pc + 3) ls rest)) : W p l e R s m args below meth c H locs cells slots Q (F0 m pc ls (As.reverse ++ .ref (b + k) :: rest)) := by
  refine sc_bd fun hsz => ?_
  have hH := sc_size hn hz hP hsz
  have hG : GoodIn sy_AL (Cond.code y cy nLy none :: sy_AL) := fun w hw' => sy_good (by
    rcases List.mem_cons.mp hw' with hw' | hw'
    · exact hw w (by simp [hw'])
    · exact hw')
  have hpre := sc_pre (b := b) (n := n) (F := P0 cA b F) hPr (av := av b) hH hP hK hcA hp
  refine sc_ran (va_runIN (As := As) (rest := rest) (b := b + k) ⟨hexec, hb, hml, hown, hts⟩ (hM l D cA b F) ⟨va_cnB mA hts hG rfl rfl rfl hnw (hts _ (hw _ (by simp))) hd hR, hy1, hts _ (hw _ (by simp))⟩ ⟨sc_blind hPr, by rw [← hav]; exact hpre⟩ rfl hmA hls rfl (lv_room hrest) hdg ⟨hcells, hslots⟩) hS kk
/-- a private method in a constructor -/
theorem sc_callV {y : MethodName} {cy : ByteArray} {nLy h ms ix k mA ci : Nat} {av : Nat → List Value} {As : List Value} {Pr : State → Prop} {t0 : (Nat → ClassId) → List (ClassId × FieldType)} {P0 G : sc_G} {ty : (Nat → ClassId) → List (ClassId × FieldType)} {T : u_T} {N : Nat} {fs : List Value} (hexec : p.tables.exec = Jvm.exec) (hb : c.code = cc) (hml : c.maxLocals = nL) (hown : s.vm.findClass own = some m.cls) (hts : ∀ w ∈ sy_AL, w.before args s = true) (hM : sc_M y cy nLy h av n n' ms Pr t0 P0 G ty) (hPr : sc_tb Pr)
    (hw : ∀ w ∈ [Cond.methodLink own ix y, .instanceMethod y, .selects y.cls y y, .initialized y.cls, .code y cy nLy none], w ∈ sy_AL) (hci : vwCl[ci]? = some (y.cls, T, N)) (hd : y.cls ≠ "java/lang/invoke/MethodHandle" ∧ y.cls ≠ "java/lang/invoke/VarHandle" ∧ (parseMethodDescriptor y.desc).map (fun d => d.parameters.length) = some mA) (hR : h + 1 ≤ R.frames ∧ 8 + (nLy + 11) + 42 * h ≤ R.locals)
    (hav : av b = .ref (b + k) :: As) (hmA : As.length = mA) (hls : ls.size = nL) (hrest : (rest.map fun v => v.category).sum ≤ 8) (hK : va_K D vwCl (t0 cA) s) (hcA : sc_A s cA) (hp : Pr s) (hP : va_P D vwCl (sc_ws b n (P0 cA b F)) H) (hS : va_S (sy_ab b) H0 H locs) (hk : k < n) (hF : P0 cA b F k = .inr (ci, fs)) (hz : s.heap.size + cells = b + n) (hcells : cells + (n' - n) ≤ R.cells) (hslots : slots + ms ≤ R.slots)
    (hdg : decode cc pc = .ok (.invokevirtual ix, 3))
    (kk : ∀ (H1 : Heap) (locs1 : List Loc), va_P D vwCl (sc_ws b n' (G cA b F)) H1 → va_K D vwCl (ty cA) s → va_S (sy_ab b) H0 H1 locs1 → W p l e R s m args below meth c H1 locs1 (cells + (n' - n)) (slots + ms) Q (F0 m (pc + 3) ls rest)) : W p l e R s m args below meth c H locs cells slots Q (F0 m pc ls (As.reverse ++ .ref (b + k) :: rest)) := by
  refine sc_bd fun hsz => ?_
  have hH := sc_size (by omega) hz hP hsz
  have hG : GoodIn sy_AL (wsV own ix y.cls y (Cond.code y cy nLy none :: sy_AL)) := fun w h => sy_good (by
    simp only [wsV, List.mem_append, List.mem_cons, List.not_mem_nil, or_false] at h
    rcases h with (h | h | h | h) | h | h
    · exact hw w (by simp [h])
    · exact hw w (by simp [h])
    · exact hw w (by simp [h])
    · exact hw w (by simp [h])
    · exact hw w (by simp [h])
    · exact h)
  have hpre := sc_pre (b := b) (n := n) (F := P0 cA b F) hPr (av := av b) hH hP hK hcA hp
  have hrecv := va_recv hK hP hci (q0 := k) (a := b + k) (fs := fs) (by rw [sc_ws_at hk, hF])
  refine sc_ran (va_runV (As := As) (rest := rest) (b := b + k) (C := y.cls) ⟨hexec, hb, hml, hown, hts⟩ (hM l D cA b F) (cwV mA hts hG rfl rfl rfl ⟨rfl, hd⟩ hR) ⟨sc_blind hPr, hrecv, by rw [← hav]; exact hpre⟩ rfl hmA hls rfl (lv_room hrest) hdg ⟨hcells, hslots⟩) hS kk
end SYO1
end SYO
section SYO2
variable {p : Program} {l : Launch} {e : Env} {R : Room} {s : State} {m : MethodId} {args : Array Value} {below : List Frame} {meth : Method} {c : Code} {H : Heap} {locs : List Loc} {cells slots : Nat} {Q : State → Prop}
variable {cc : ByteArray} {pc : Nat} {ls : Array Slot} {rest : List Value} {D : va_G} {b n : Nat} {G : Nat → va_E} {tys : List (ClassId × FieldType)} {H0 : Heap} {cA : Nat → ClassId}
/-- the same, with the object that is being made kept on top -/
theorem sc_newaT {k : Nat} {o : va_E} (hkn : k < n) (hexec : p.tables.exec = Jvm.exec) (hb : c.code = cc) (hts : ∀ w ∈ sy_AL, w.before args s = true) {atype : ArrayType} (harr : Cond.arrayClass (newarray.typeOf atype) ∈ sy_AL) {kd : Nat} (hcA : ∀ x, s.vm.findClass ("[" ++ (newarray.typeOf atype).toString) = some x → x = cA kd) (hra : ∀ (U : State) (x : ClassId), va_RA U x (newarray.typeOf atype) → U.vm.findClass ("[" ++ (newarray.typeOf atype).toString) = some x) (hK : va_K D vwCl tys s) (hP : va_P D vwCl (sc_ws b n (va_up G k o)) H) (hS : va_S (sy_ab b) H0 H locs) (hb0 : b ≤ H0.size) (hz : s.heap.size + cells = b + n)
    {x : Int32} {N' : Nat} {a0 : vp_A} (ha : ∀ cA : ClassId, vp_cell cA a0 = arrV cA N' (fun _ => defaultValue (newarray.typeOf atype))) (hn : ¬ x < 0) (hN : x.toNatClampNeg = N') (hbytes : N' * componentBytes (newarray.typeOf atype) ≤ 536870912) (hcells : cells + 1 ≤ R.cells) (hslots : slots + N' ≤ R.slots) (hdg : decode cc pc = .ok (.newarray atype, 2))
    (kk : ∀ H1 : Heap, va_K D vwCl (tys ++ [(cA kd, newarray.typeOf atype)]) s → va_P D vwCl (sc_ws b (n + 1) (va_up (sc_r G n (.inl (cA kd, a0))) k o)) H1 → va_S (sy_ab b) H0 H1 locs → W p l e R s m args below meth c H1 locs (cells + 1) (slots + N') Q (F0 m (pc + 2) ls (.ref (b + n) :: rest))) : W p l e R s m args below meth c H locs cells slots Q (F0 m pc ls (.int x :: rest)) := by
  refine sc_newa (cA := cA) (kd := kd) hexec hb hts harr hcA hra hK hP hS hb0 hz ha hn hN hbytes hcells hslots hdg (fun H1 hK1 hP1 hS1 => kk H1 hK1 ?_ hS1)
  have e : sc_r (va_up G k o) n (.inl (cA kd, a0)) = va_up (sc_r G n (.inl (cA kd, a0))) k o := by
    funext q
    by_cases h1 : q = k
    · subst h1; simp [sc_r, va_up, show q ≠ n by omega]
    · by_cases h2 : q = n
      · subst h2; simp [sc_r, va_up, h1]
      · simp [sc_r, va_up, h1, h2]
  rw [e] at hP1
  exact hP1
theorem sc_putT (hexec : p.tables.exec = Jvm.exec) (hb : c.code = cc) (hts : ∀ w ∈ sy_AL, w.before args s = true) {own : String} {ix ci k j : Nat} {ty : FieldType} {fin : Bool} (hf : sc_fC own ix ci j ty fin) (hown : s.vm.findClass own = some m.cls) (hinit : meth.name = "<init>") (hK : va_K D vwCl tys s) {fs fs' : List Value} (hP : va_P D vwCl (sc_ws b n (va_up G k (.inr (ci, fs)))) H) (hS : va_S (sy_ab b) H0 H locs) (hkn : k < n) {v : Value} (hset : fs.set j v = fs') (hnr : narrow ty v = v) (hfit : fits ty v = true) (hl : j < fs.length)
    (hdg : decode cc pc = .ok (.putfield ix, 3)) (kk : ∀ (H1 : Heap) (locs1 : List Loc), va_P D vwCl (sc_ws b n (va_up G k (.inr (ci, fs')))) H1 → va_S (sy_ab b) H0 H1 locs1 → W p l e R s m args below meth c H1 locs1 cells slots Q (F0 m (pc + 3) ls rest)) : W p l e R s m args below meth c H locs cells slots Q (F0 m pc ls (v :: .ref (b + k) :: rest)) := by
  subst hset
  refine sc_put hexec hb hts hf hown hinit hK hP hS (k := k) (fs := fs) (by simp [va_up]) hkn hnr hfit hl hdg (fun H1 locs1 hP1 hS1 => kk H1 locs1 ?_ hS1)
  have e : sc_p (va_up G k (.inr (ci, fs))) k j v = va_up G k (.inr (ci, fs.set j v)) := by
    funext q
    by_cases h1 : q = k
    · subst h1; simp [sc_p, va_up]
    · simp [sc_p, va_up, h1]
  rw [e] at hP1
  exact hP1
end SYO2
