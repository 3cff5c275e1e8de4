/-! CONSTRUCTORS: the cells made so far are b, b+1, .., b+n-1 -/
section SYN
def sc_ws (b n : Nat) (F : Nat → va_E) : va_W := (List.range n).map (fun k => (b + k, F k))
theorem sc_ws_at {b n k : Nat} {F : Nat → va_E} (h : k < n) : (sc_ws b n F)[k]? = some (b + k, F k) := by simp [sc_ws, h]
theorem sc_ws_len {b n : Nat} {F : Nat → va_E} : (sc_ws b n F).length = n := by simp [sc_ws]
theorem sc_ws_D {b n : Nat} {F : Nat → va_E} : va_D (sy_ab b) (sc_ws b n F) := by
  have ha : ∀ (i : Nat) (p : Nat × va_E), (sc_ws b n F)[i]? = some p → p.1 = b + i := by
    intro i p h
    have hi : i < n := by
      have := (List.getElem?_eq_some_iff.mp h).1
      rwa [sc_ws_len] at this
    rw [sc_ws_at hi] at h
    cases h
    rfl
  exact ⟨fun i j p q hp hq e => by have := ha i p hp; have := ha j q hq; omega, fun k q h => by show b ≤ q.1; have := ha k q h; omega⟩
theorem sc_ws_app {b n : Nat} {F : Nat → va_E} {e : va_E} : sc_ws b n F ++ [(b + n, e)] = sc_ws b (n + 1) (va_up F n e) := by
  apply List.ext_getElem?
  intro i
  by_cases hi : i < n
  · rw [List.getElem?_append_left (by rw [sc_ws_len]; exact hi), sc_ws_at hi, sc_ws_at (by omega)]
    simp [va_up, show i ≠ n by omega]
  · rw [List.getElem?_append_right (by rw [sc_ws_len]; omega), sc_ws_len]
    by_cases h2 : i = n
    · subst h2
      rw [sc_ws_at (by omega)]
      simp [va_up]
    · rw [List.getElem?_eq_none (by simp; omega), List.getElem?_eq_none (by rw [sc_ws_len]; omega)]
theorem sc_ws_set {b n k : Nat} {F : Nat → va_E} {e : va_E} (h : k < n) : (sc_ws b n F).set k (b + k, e) = sc_ws b n (va_up F k e) := by
  apply List.ext_getElem?
  intro i
  by_cases hi : i < n
  · by_cases hk : i = k
    · subst hk
      rw [List.getElem?_set_self (by rw [sc_ws_len]; exact hi), sc_ws_at hi]
      simp [va_up]
    · rw [List.getElem?_set_ne (fun q => hk q.symm), sc_ws_at hi, sc_ws_at hi]
      simp [va_up, hk]
  · rw [List.getElem?_eq_none (by rw [List.length_set, sc_ws_len]; omega), List.getElem?_eq_none (by rw [sc_ws_len]; omega)]
/-- what comes to the world: an object, a row; a field, a place of a row set -/
def sc_o (F : Nat → va_E) (n ci : Nat) (fs : List Value) : Nat → va_E := va_up F n (.inr (ci, fs))
def sc_r (F : Nat → va_E) (n : Nat) (e : va_E) : Nat → va_E := va_up F n e
def sc_p (F : Nat → va_E) (k j : Nat) (v : Value) : Nat → va_E := va_up F k (match F k with | .inr (ci, fs) => .inr (ci, fs.set j v) | e => e)
def sc_i (F : Nat → va_E) (k i : Nat) (x : Int32) : Nat → va_E := va_up F k (match F k with | .inl (c, len, .inl f) => .inl (c, len, .inl (upd f i x)) | e => e)
def sc_q (F : Nat → va_E) (k i : Nat) (a : Nat) : Nat → va_E := va_up F k (match F k with | .inl (c, len, .inr (.inr (.inr (.inr f)))) => .inl (c, len, .inr (.inr (.inr (.inr (va_up f i (some a)))))) | e => e)
/-- the names of the rows' classes -/
def sc_A (U : State) (cA : Nat → ClassId) : Prop := (∀ c, U.vm.findClass ("[" ++ FieldType.int.toString) = some c → c = cA 0) ∧ (∀ c, U.vm.findClass ("[" ++ FieldType.boolean.toString) = some c → c = cA 1) ∧ (∀ c, U.vm.findClass ("[" ++ (FieldType.object "SegmentYard$View").toString) = some c → c = cA 2) ∧ (∀ c, U.vm.findClass ("[" ++ FieldType.long.toString) = some c → c = cA 3)
theorem sc_A.moved {u U : State} {cA : Nat → ClassId} (hvm : u.vm.Alike U.vm) (h : sc_A u cA) : sc_A U cA := ⟨fun c hc => h.1 c (by rw [← hvm.findClass]; exact hc), fun c hc => h.2.1 c (by rw [← hvm.findClass]; exact hc), fun c hc => h.2.2.1 c (by rw [← hvm.findClass]; exact hc), fun c hc => h.2.2.2 c (by rw [← hvm.findClass]; exact hc)⟩
theorem sc_last {α : Type} (l : List α) (x : α) : (l ++ [x])[l.length]? = some x := by rw [List.getElem?_append_right (Nat.le_refl _), Nat.sub_self]; rfl
section SYN1
variable {p : Program} {l : Launch} {e : Env} {R : Room} {s : State} {m : MethodId} {args : Array Value} {below : List Frame} {meth : Method} {c : Code} {H : Heap} {locs : List Loc} {cells slots : Nat} {Q : State → Prop}
variable {cc : ByteArray} {pc : Nat} {ls : Array Slot} {rest : List Value} {D : va_G} {b n : Nat} {F : Nat → va_E} {tys : List (ClassId × FieldType)} {H0 : Heap} {cA : Nat → ClassId}
theorem sc_bd (h : H.size ≤ s.heap.size + cells → W p l e R s m args below meth c H locs cells slots Q (F0 m pc ls rest)) : W p l e R s m args below meth c H locs cells slots Q (F0 m pc ls rest) := fun T hT X => h (by rw [← hT]; exact X.heapSize) T hT X
theorem sc_addr {q : Nat} {x : va_E} {H1 : Heap} (hz : s.heap.size + cells = b + n) (hP : va_P D vwCl (sc_ws b n F ++ [(q, x)]) H1) (hD : va_D (sy_ab b) (sc_ws b n F ++ [(q, x)])) (hsz : H1.size ≤ s.heap.size + (cells + 1)) : q = b + n := by
  have hn : (sc_ws b n F ++ [(q, x)])[n]? = some (q, x) := by
    rw [List.getElem?_append_right (by rw [sc_ws_len]; exact Nat.le_refl _), sc_ws_len]
    simp
  have h1 := (hP n _ hn).lt
  have h2 : b ≤ q := hD.2 n _ hn
  rcases Nat.lt_or_ge q (b + n) with h | h
  · exfalso
    have hk : q - b < n := by omega
    have hk2 : (sc_ws b n F ++ [(q, x)])[q - b]? = some (b + (q - b), F (q - b)) := by
      rw [List.getElem?_append_left (by rw [sc_ws_len]; exact hk), sc_ws_at hk]
    have := hD.1 (q - b) n _ _ hk2 hn (by show b + (q - b) = q; omega)
    omega
  · have h1' : q < H1.size := h1
    omega
theorem sc_new (hexec : p.tables.exec = Jvm.exec) (hb : c.code = cc) {own C : String} {T : u_T} {N ci index : Nat} (hts : ∀ w ∈ sy_AL, w.before args s = true) (hin : ∀ w ∈ u_ws C T N, w ∈ sy_AL) (ty : Nat → FieldType) (hty : ∀ k, k < N → parseFieldDescriptor (T k).2.2.1 = some (ty k)) (hown : s.vm.findClass own = some m.cls) (hw : ∀ w ∈ [Cond.classLink own index C, .instantiable C N, .initialized C], w ∈ sy_AL)
    (hK : va_K D vwCl tys s) (hP : va_P D vwCl (sc_ws b n F) H) (hS : va_S (sy_ab b) H0 H locs) (hb0 : b ≤ H0.size) (hz : s.heap.size + cells = b + n) (hc : vwCl[ci]? = some (C, T, N)) {fs : List Value} (hfs : ∀ j, j < N → defaultValue (ty j) = vp_V fs j) (hcells : cells + 1 ≤ R.cells) (hslots : slots + N ≤ R.slots) (hdg : decode cc pc = .ok (.new index, 3))
    (kk : ∀ H1 : Heap, va_P D vwCl (sc_ws b (n + 1) (sc_o F n ci fs)) H1 → va_S (sy_ab b) H0 H1 locs → W p l e R s m args below meth c H1 locs (cells + 1) (slots + N) Q (F0 m (pc + 3) ls (.ref (b + n) :: rest))) : W p l e R s m args below meth c H locs cells slots Q (F0 m pc ls rest) := by
  refine va_new hexec hb hts hin ty hty hown (hts _ (hw _ (by simp))) (hts _ (hw _ (by simp))) (hts _ (hw _ (by simp))) hK hP sc_ws_D hS (fun q h => Nat.le_trans hb0 h) hc hfs hcells hslots hdg (fun q H1 hP1 hD1 hS1 => sc_bd fun hsz => ?_)
  have hq := sc_addr hz hP1 hD1 hsz
  subst hq
  rw [sc_ws_app] at hP1
  exact kk H1 hP1 hS1
theorem sc_newa (hexec : p.tables.exec = Jvm.exec) (hb : c.code = cc) (hts : ∀ w ∈ sy_AL, w.before args s = true) {atype : ArrayType} (harr : Cond.arrayClass (newarray.typeOf atype) ∈ sy_AL) {kd : Nat} (hcA : ∀ x, s.vm.findClass ("[" ++ (newarray.typeOf atype).toString) = some x → x = cA kd) (hra : ∀ (U : State) (x : ClassId), va_RA U x (newarray.typeOf atype) → U.vm.findClass ("[" ++ (newarray.typeOf atype).toString) = some x) (hK : va_K D vwCl tys s) (hP : va_P D vwCl (sc_ws b n F) H) (hS : va_S (sy_ab b) H0 H locs) (hb0 : b ≤ H0.size) (hz : s.heap.size + cells = b + n)
    {x : Int32} {N' : Nat} {a0 : vp_A} (ha : ∀ cA : ClassId, vp_cell cA a0 = arrV cA N' (fun _ => defaultValue (newarray.typeOf atype))) (hn : ¬ x < 0) (hN : x.toNatClampNeg = N') (hbytes : N' * componentBytes (newarray.typeOf atype) ≤ 536870912) (hcells : cells + 1 ≤ R.cells) (hslots : slots + N' ≤ R.slots) (hdg : decode cc pc = .ok (.newarray atype, 2))
    (kk : ∀ H1 : Heap, va_K D vwCl (tys ++ [(cA kd, newarray.typeOf atype)]) s → va_P D vwCl (sc_ws b (n + 1) (sc_r F n (.inl (cA kd, a0)))) H1 → va_S (sy_ab b) H0 H1 locs → W p l e R s m args below meth c H1 locs (cells + 1) (slots + N') Q (F0 m (pc + 2) ls (.ref (b + n) :: rest))) : W p l e R s m args below meth c H locs cells slots Q (F0 m pc ls (.int x :: rest)) := by
  refine va_newa hexec hb (hts _ harr) rfl hK hP sc_ws_D hS (fun q h => Nat.le_trans hb0 h) ha hn hN hbytes hcells hslots hdg (fun q cA' H1 hK1 hP1 hD1 hS1 => sc_bd fun hsz => ?_)
  have hq := sc_addr hz hP1 hD1 hsz
  subst hq
  rw [sc_ws_app] at hP1
  have hx := hcA cA' (hra s cA' (hK1.2 tys.length (cA', newarray.typeOf atype) (sc_last _ _)).2)
  subst hx
  exact kk H1 hK1 hP1 hS1
theorem sc_newq (hexec : p.tables.exec = Jvm.exec) (hb : c.code = cc) (hts : ∀ w ∈ sy_AL, w.before args s = true) {own : String} {index : Nat} (hown : s.vm.findClass own = some m.cls) (hclink : Cond.classLink own index "SegmentYard$View" ∈ sy_AL) (hover : va_AO "SegmentYard$View" s) (hcA : sc_A s cA) (hK : va_K D vwCl tys s) (hP : va_P D vwCl (sc_ws b n F) H) (hS : va_S (sy_ab b) H0 H locs) (hb0 : b ≤ H0.size) (hz : s.heap.size + cells = b + n)
    {x : Int32} {N' : Nat} (hn : ¬ x < 0) (hN : x.toNatClampNeg = N') (hbytes : N' * 4 ≤ 536870912) (hcells : cells + 1 ≤ R.cells) (hslots : slots + N' ≤ R.slots) (hdg : decode cc pc = .ok (.anewarray index, 3))
    (kk : ∀ H1 : Heap, va_K D vwCl (tys ++ [(cA 2, .object "SegmentYard$View")]) s → va_P D vwCl (sc_ws b (n + 1) (sc_r F n (.inl (cA 2, N', .inr (.inr (.inr (.inr (fun _ => none)))))))) H1 → va_S (sy_ab b) H0 H1 locs → W p l e R s m args below meth c H1 locs (cells + 1) (slots + N') Q (F0 m (pc + 3) ls (.ref (b + n) :: rest))) : W p l e R s m args below meth c H locs cells slots Q (F0 m pc ls (.int x :: rest)) := by
  refine va_newq hexec hb hown (hts _ hclink) hover hK hP sc_ws_D hS (fun q h => Nat.le_trans hb0 h) hn hN hbytes hcells hslots hdg (fun q cA' H1 hK1 hP1 hD1 hS1 => sc_bd fun hsz => ?_)
  have hq := sc_addr hz hP1 hD1 hsz
  subst hq
  rw [sc_ws_app] at hP1
  obtain ⟨-, -, -, -, -, h4⟩ := (hK1.2 tys.length (cA', .object "SegmentYard$View") (sc_last _ _)).2
  have hx := hcA.2.2.1 cA' h4
  subst hx
  exact kk H1 hK1 hP1 hS1
def sc_fC (own : String) (ix ci k : Nat) (ty : FieldType) (fin : Bool) : Prop := ∃ (C : String) (T : u_T) (N : Nat) (ty0 : Nat → FieldType), vwCl[ci]? = some (C, T, N) ∧ k < N ∧ (∀ w ∈ u_ws C T N, w ∈ sy_AL) ∧ Cond.fieldLink own ix (T k).1 (T k).2.1 (T k).2.2.1 ∈ sy_AL ∧
  (∀ k, k < N → parseFieldDescriptor (T k).2.2.1 = some (ty0 k)) ∧ (∀ a, a < N → ∀ b, b < N → a ≠ b → (T a).2.1 ≠ (T b).2.1) ∧ (T k).2.2.2 = fin ∧ parseFieldDescriptor (T k).2.2.1 = some ty ∧ (T k).1 = own
theorem sc_put (hexec : p.tables.exec = Jvm.exec) (hb : c.code = cc) (hts : ∀ w ∈ sy_AL, w.before args s = true) {own : String} {ix ci k j : Nat} {ty : FieldType} {fin : Bool} (hf : sc_fC own ix ci j ty fin) (hown : s.vm.findClass own = some m.cls) (hinit : meth.name = "<init>") (hK : va_K D vwCl tys s) (hP : va_P D vwCl (sc_ws b n F) H) (hS : va_S (sy_ab b) H0 H locs) {fs : List Value} (hF : F k = .inr (ci, fs)) (hkn : k < n) {v : Value} (hnr : narrow ty v = v) (hfit : fits ty v = true) (hl : j < fs.length)
    (hdg : decode cc pc = .ok (.putfield ix, 3)) (kk : ∀ (H1 : Heap) (locs1 : List Loc), va_P D vwCl (sc_ws b n (sc_p F k j v)) H1 → va_S (sy_ab b) H0 H1 locs1 → W p l e R s m args below meth c H1 locs1 cells slots Q (F0 m (pc + 3) ls rest)) : W p l e R s m args below meth c H locs cells slots Q (F0 m pc ls (v :: .ref (b + k) :: rest)) := by
  obtain ⟨C, T, N, ty0, hc, hkN, hin, hw, hty, hnm, hfin, hd, hdecl⟩ := hf
  have he : (sc_ws b n F)[k]? = some (b + k, .inr (ci, fs)) := by rw [sc_ws_at hkn, hF]
  have hset : (sc_ws b n F).set k (b + k, .inr (ci, fs.set j v)) = sc_ws b n (sc_p F k j v) := by
    rw [sc_ws_set hkn]
    simp only [sc_p, hF]
  cases fin with
  | false =>
    refine va_put hexec hb hts hin ty0 hty hnm hown hK hP sc_ws_D hS k he hc j hkN (hts _ hw) (fun _ h => h) hfin hd hnr hfit hl hdg (fun H1 locs1 hP1 _ hS1 => ?_)
    rw [hset] at hP1
    exact kk H1 locs1 hP1 hS1
  | true =>
    refine va_putF hexec hb hts hin ty0 hty hnm hown hK hP sc_ws_D hS k he hc j hkN (hts _ hw) (fun _ h => h) hfin hinit hdecl hd hnr hfit hl hdg (fun H1 locs1 hP1 _ hS1 => ?_)
    rw [hset] at hP1
    exact kk H1 locs1 hP1 hS1
theorem sc_get (hexec : p.tables.exec = Jvm.exec) (hb : c.code = cc) (hts : ∀ w ∈ sy_AL, w.before args s = true) {own : String} {ix ci k j : Nat} (hf : sy_fI own ix ci j) (hown : s.vm.findClass own = some m.cls) (hK : va_K D vwCl tys s) (hP : va_P D vwCl (sc_ws b n F) H) {fs : List Value} (hF : F k = .inr (ci, fs)) (hkn : k < n) {v : Value} (hv : fs[j]? = some v)
    (hdg : decode cc pc = .ok (.getfield ix, 3)) (kk : W p l e R s m args below meth c H locs cells slots Q (F0 m (pc + 3) ls (v :: rest))) : W p l e R s m args below meth c H locs cells slots Q (F0 m pc ls (.ref (b + k) :: rest)) := by
  obtain ⟨C, T, N, hc, hkN, hin, hw⟩ := hf
  exact va_get hexec hb hts hin hown hK hP k (by rw [sc_ws_at hkn, hF]) hc j hkN (hts _ hw) (fun _ h => h) hv hdg kk
theorem sc_iast (hexec : p.tables.exec = Jvm.exec) (hb : c.code = cc) (hK : va_K D vwCl [(cA 0, .int)] s) (hP : va_P D vwCl (sc_ws b n F) H) (hS : va_S (sy_ab b) H0 H locs) {k len : Nat} {f : Nat → Int32} (hF : F k = .inl (cA 0, len, .inl f)) (hkn : k < n) {i x : Int32} (hin : vp_in i len) (hdg : decode cc pc = .ok (.iastore, 1))
    (kk : ∀ (H1 : Heap) (locs1 : List Loc), va_P D vwCl (sc_ws b n (sc_i F k i.toNatClampNeg x)) H1 → va_S (sy_ab b) H0 H1 locs1 → W p l e R s m args below meth c H1 locs1 cells slots Q (F0 m (pc + 1) ls rest)) : W p l e R s m args below meth c H locs cells slots Q (F0 m pc ls (.int x :: .int i :: .ref (b + k) :: rest)) := by
  refine va_iast hexec hb hK hP sc_ws_D hS k 0 (by rw [sc_ws_at hkn, hF]) rfl hin hdg (fun H1 locs1 hP1 _ hS1 => ?_)
  rw [sc_ws_set hkn] at hP1
  refine kk H1 locs1 ?_ hS1
  simp only [sc_i, hF]
  exact hP1
theorem sc_astq (hexec : p.tables.exec = Jvm.exec) (hb : c.code = cc) (hK : va_K D vwCl [(cA 2, .object "SegmentYard$View")] s) (hP : va_P D vwCl (sc_ws b n F) H) (hS : va_S (sy_ab b) H0 H locs) {k len q : Nat} {f : Nat → Option Nat} {vs : List Value} (hF : F k = .inl (cA 2, len, .inr (.inr (.inr (.inr f))))) (hkn : k < n) (hq : F q = .inr (4, vs)) (hqn : q < n) {i : Int32} (hin : vp_in i len) (hdg : decode cc pc = .ok (.aastore, 1))
    (kk : ∀ (H1 : Heap) (locs1 : List Loc), va_P D vwCl (sc_ws b n (sc_q F k i.toNatClampNeg (b + q))) H1 → va_S (sy_ab b) H0 H1 locs1 → W p l e R s m args below meth c H1 locs1 cells slots Q (F0 m (pc + 1) ls rest)) : W p l e R s m args below meth c H locs cells slots Q (F0 m pc ls (.ref (b + q) :: .int i :: .ref (b + k) :: rest)) := by
  refine va_astq (r := (RX4, TX4, 9)) hexec hb hK hP sc_ws_D hS k 0 q 4 (by rw [sc_ws_at hkn, hF]) rfl (by rw [sc_ws_at hqn, hq]) rfl hin hdg (fun H1 locs1 hP1 _ hS1 => ?_)
  rw [sc_ws_set hkn] at hP1
  refine kk H1 locs1 ?_ hS1
  simp only [sc_q, hF]
  exact hP1
theorem sc_alen (hexec : p.tables.exec = Jvm.exec) (hb : c.code = cc) {ty : FieldType} {kd : Nat} (hK : va_K D vwCl [(cA kd, ty)] s) (hP : va_P D vwCl (sc_ws b n F) H) {k : Nat} {x : vp_A} (hF : F k = .inl (cA kd, x)) (hkn : k < n) {v : Int32} (hv : Int32.ofNat x.1 = v) (hdg : decode cc pc = .ok (.arraylength, 1))
    (kk : W p l e R s m args below meth c H locs cells slots Q (F0 m (pc + 1) ls (.int v :: rest))) : W p l e R s m args below meth c H locs cells slots Q (F0 m pc ls (.ref (b + k) :: rest)) :=
  va_alen hexec hb hK hP k 0 (by rw [sc_ws_at hkn, hF]) rfl hv hdg kk
end SYN1
end SYN
