section SYB
abbrev vwCl : List vw_C := [(RX0, TX0, 8), (RX1, TX1, 4), (RX2, TX2, 9), (RX3, TX3, 10), (RX4, TX4, 9), (RX5, TX5, 6)]
def sy_AL : List Cond := lw_tbl.filter goodWord
theorem sy_in {w : Cond} (i : Nat) (h : lw_tbl[i]? = some w) (g : goodWord w = true) : w ∈ sy_AL := List.mem_filter.mpr ⟨List.mem_of_getElem? h, g⟩
theorem sy_good {w : Cond} (h : w ∈ sy_AL) : w ∈ sy_AL ∧ ((w.onTables && w.keeps) = true ∨ ∃ ty, w = .arrayClass ty) := ⟨h, good_of_word (List.mem_filter.mp h).2⟩
theorem sy_tbl {args : Array Value} {s : State} (h : ∀ w ∈ lw_tbl, w.before args s = true) : ∀ w ∈ sy_AL, w.before args s = true := fun w hw => h w (List.mem_filter.mp hw).1
def sy_tys (cA : Nat → ClassId) : List (ClassId × FieldType) := [(cA 0, .int), (cA 1, .boolean), (cA 2, .object "SegmentYard$View"), (cA 3, .long)]
abbrev sy_Rs : Type := Option Value ⊕ Nat
/-- what stands round a body: the machine, the invocation, what is to be reached, the world's names, the answer that is due, the cells spent at most -/
abbrev sy_Cx : Type := (Program × Launch × Env × Room × State × MethodId × Array Value × List Frame × Method × Code) × (State → Prop) × va_G × (Nat → ClassId) × sy_Bs × (sy_Rs × sy_Mem) × Nat
abbrev sy_xp (X : sy_Cx) : Program := X.1.1
abbrev sy_xl (X : sy_Cx) : Launch := X.1.2.1
abbrev sy_xe (X : sy_Cx) : Env := X.1.2.2.1
abbrev sy_xR (X : sy_Cx) : Room := X.1.2.2.2.1
abbrev sy_xs (X : sy_Cx) : State := X.1.2.2.2.2.1
abbrev sy_xm (X : sy_Cx) : MethodId := X.1.2.2.2.2.2.1
abbrev sy_xa (X : sy_Cx) : Array Value := X.1.2.2.2.2.2.2.1
abbrev sy_xo (X : sy_Cx) : List Frame := X.1.2.2.2.2.2.2.2.1
abbrev sy_xM (X : sy_Cx) : Method := X.1.2.2.2.2.2.2.2.2.1
abbrev sy_xc (X : sy_Cx) : Code := X.1.2.2.2.2.2.2.2.2.2
abbrev sy_xQ (X : sy_Cx) : State → Prop := X.2.1
abbrev sy_xD (X : sy_Cx) : va_G := X.2.2.1
abbrev sy_xA (X : sy_Cx) : Nat → ClassId := X.2.2.2.1
abbrev sy_xb (X : sy_Cx) : sy_Bs := X.2.2.2.2.1
abbrev sy_xg (X : sy_Cx) : sy_Rs × sy_Mem := X.2.2.2.2.2.1
abbrev sy_xn (X : sy_Cx) : Nat := X.2.2.2.2.2.2
abbrev sy_W (X : sy_Cx) (n : Nat) (H : Heap) (locs : List Loc) (g : JFrame) : Prop := W (sy_xp X) (sy_xl X) (sy_xe X) (sy_xR X) (sy_xs X) (sy_xm X) (sy_xa X) (sy_xo X) (sy_xM X) (sy_xc X) H locs n (6 * n) (sy_xQ X) g
def sy_PP (D : va_G) (cA : Nat → ClassId) (b : sy_Bs) (σ : sy_Mem) (H : Heap) : Prop := va_P D vwCl (sy_wd b cA σ) H ∧ va_D (sy_ab b.1) (sy_wd b cA σ)
abbrev sy_P (X : sy_Cx) (σ : sy_Mem) (H : Heap) : Prop := sy_PP (sy_xD X) (sy_xA X) (sy_xb X) σ H
abbrev sy_Z (X : sy_Cx) (H : Heap) (locs : List Loc) : Prop := va_S (sy_ab (sy_xb X).1) (sy_xs X).heap H locs
/-- from here on the code computes f -/
def sy_B (X : sy_Cx) (n : Nat) (pc : Nat) (env st : List Value) (f : sy_MM (Option Value)) : Prop :=
  ∀ σ : sy_Mem, n ≤ sy_xn X → f σ = some (sy_xg X) → ∀ (H : Heap) (locs : List Loc) (ls : Array Slot), sy_P X σ H → sy_Z X H locs → sy_eok (sy_xb X) ls (sy_xc X).maxLocals env → sy_W X n H locs (F0 (sy_xm X) pc ls (st.map (sy_sh (sy_xb X))))
def sy_mc : sy_Rs → Nat | .inl _ => 0 | .inr _ => 1
def sy_rm (h : Nat) (r : sy_Rs) : Room := { frames := h, cells := sy_mc r, slots := 6 * sy_mc r, locals := 42 * h }
def sy_ex : Nat → String | 1 => "java/lang/IndexOutOfBoundsException" | 2 => "java/lang/IllegalArgumentException" | _ => "java/lang/IllegalStateException"
def sy_EX : List Cond := [(Jvm.Cond.castable "java/lang/IndexOutOfBoundsException" "java/lang/IndexOutOfBoundsException"), (Jvm.Cond.declares ({ cls := "java/lang/RuntimeException", name := "<init>", desc := "()V" } : Jvm.MethodName)), (Jvm.Cond.declares ({ cls := "java/lang/RuntimeException", name := "<init>", desc := "(Ljava/lang/String;)V" } : Jvm.MethodName)), (Jvm.Cond.declares ({ cls := "java/lang/Exception", name := "<init>", desc := "()V" } : Jvm.MethodName)), (Jvm.Cond.declares ({ cls := "java/lang/Exception", name := "<init>", desc := "(Ljava/lang/String;)V" } : Jvm.MethodName)), (Jvm.Cond.declares ({ cls := "java/lang/Throwable", name := "<init>", desc := "()V" } : Jvm.MethodName)), (Jvm.Cond.declares ({ cls := "java/lang/Throwable", name := "<init>", desc := "(Ljava/lang/String;)V" } : Jvm.MethodName)), (Jvm.Cond.castable "java/lang/IllegalArgumentException" "java/lang/IllegalArgumentException"), (Jvm.Cond.castable "java/lang/IllegalStateException" "java/lang/IllegalStateException"), (Jvm.Cond.methodLinkNest "SegmentYard$Store" (107 : Nat) ({ cls := "SegmentYard", name := "isIn", desc := "(II)Z" } : Jvm.MethodName) "SegmentYard")]
def sy_tx (k : Nat) : String := if k = 197 then "there is no such one" else if k = 204 then "this is out of range" else if k = 209 then "this is not to be done now" else "there is no such view"
def sy_tk : List Nat := [197, 204, 209, 212]
def sy_T1 (b : Nat) (U : State) (H : Heap) : Prop := (vx_Zq Bundle.tN "UNASSIGNED_STACK" Bundle.steD (sy_ab b) U H ∧ vx_Zq Bundle.tN "SUPPRESSED_SENTINEL" Bundle.listD (sy_ab b) U H) ∧ (∀ w ∈ sy_EX, va_Nw w U) ∧ ∀ k ∈ sy_tk, ∃ a, vk_R "SegmentYard" k (sy_tx k) a U
def sy_PW (D : va_G) (cA : Nat → ClassId) (b : sy_Bs) (σ : sy_Mem) (U : State) : Prop := sy_PP D cA b σ U.heap ∧ va_K D vwCl (sy_tys cA) U ∧ sy_T1 b.1 U U.heap
def sy_Qc (D : va_G) (cA : Nat → ClassId) (b : sy_Bs) (r : sy_Rs) (σ : sy_Mem) : Array Value → State → Outcome → State → Prop := fun _ st oc t => (∃ v, r = .inl v ∧ oc = .returned (v.map (sy_sh b)) ∧ sy_PP D cA b σ t.heap) ∧ va_F (sy_ab b.1) st t
def sy_XC (D : va_G) (cA : Nat → ClassId) (b : sy_Bs) (r : sy_Rs) (σ : sy_Mem) : String → State → State → Prop := fun E st t => (∃ k, r = .inr k ∧ E = sy_ex k ∧ sy_PP D cA b σ t.heap) ∧ va_F (sy_ab b.1) st t
/-- a method's contract: it computes g -/
def sy_KM (y : MethodName) (cc : ByteArray) (nL : Nat) (ret : Option FieldType) (h : Nat) (g : List Value → sy_MM (Option Value)) : Prop :=
  ∀ (l : Launch) (D : va_G) (cA : Nat → ClassId) (b : sy_Bs) (vs : List Value) (σ : sy_Mem) (r : sy_Rs) (τ : sy_Mem), l.stackTraces = false → g vs σ = some (r, τ) →
    vx_Met l y (Cond.code y cc nL ret :: sy_AL) (sy_rm h r) (va_Pc (vs.map (sy_sh b)) (sy_PW D cA b σ)) (sy_Qc D cA b r τ) (sy_XC D cA b r τ) (sy_mc r) (6 * sy_mc r) (sy_ab b.1)
/-- a body's constants: its class, its bytes, its answer's type, its height, its locals -/
abbrev sy_Mu : Type := String × ByteArray × Option FieldType × Nat × Nat × Option (Nat × Nat × (Nat → Int32))
def sy_NC (s : State) : Prop := va_Nc (sy_ex 2) (sy_ex 1) s ∧ va_Nc (sy_ex 3) (sy_ex 1) s ∧ va_Nc (sy_ex 3) (sy_ex 2) s
def sy_rok (μ : sy_Mu) (pc : Nat) : Option Value → Prop
  | none => μ.2.2.1 = none ∧ decode μ.2.1 pc = .ok (.return_, 1)
  | some (.int x) => decode μ.2.1 pc = .ok (.ireturn, 1) ∧ ((μ.2.2.1 = some .int) ∨ (μ.2.2.1 = some .boolean ∧ (x = 0 ∨ x = 1)))
  | some (.long _) => decode μ.2.1 pc = .ok (.lreturn, 1) ∧ μ.2.2.1 = some .long
  | some (.ref _) => decode μ.2.1 pc = .ok (.areturn, 1) ∧ ((∃ C, μ.2.2.1 = some (.object C)) ∨ ∃ e, μ.2.2.1 = some (.array e))
  | _ => False
def sy_RET (X : sy_Cx) (μ : sy_Mu) : Prop := ∀ (v : Option Value) (σ : sy_Mem), sy_xg X = (.inl v, σ) → ∀ (n : Nat) (H : Heap) (locs : List Loc) (ls : Array Slot) (pc : Nat), n ≤ sy_xn X → sy_P X σ H → sy_Z X H locs → sy_rok μ pc v → sy_W X n H locs (F0 (sy_xm X) pc ls ((v.map (sy_sh (sy_xb X))).toList))
def sy_OUT (X : sy_Cx) : Prop := ∀ (E : Nat) (σ : sy_Mem), sy_xg X = (.inr E, σ) → ∀ (n : Nat) (H : Heap) (locs : List Loc) (ls : Array Slot) (pc : Nat) (rest : List Value) (q : Addr) (ce : Cell), n ≤ sy_xn X → sy_P X σ H → sy_Z X H locs → H[q]? = some ce → ce.vm = .none → (sy_xs X).vm.findClass (sy_ex E) = some ce.cls →
  vx_W (sy_xp X) (sy_xl X) (sy_xe X) (sy_xR X) (sy_xs X) (sy_xm X) (sy_xa X) (sy_xo X) (sy_xM X) (sy_xc X) H locs (n + 1) (6 * n + 6) (sy_xQ X) (F0 (sy_xm X) pc ls rest) q
def sy_names : List String := ["java/lang/RuntimeException", "java/lang/Exception"]
/-- 'throw new E(text)' on an empty stack -/
def sy_thw (cc : ByteArray) (pc E ik is ic : Nat) : Prop := (1 ≤ E ∧ E ≤ 3) ∧ is ∈ sy_tk ∧ Cond.classLink "SegmentYard" ik (sy_ex E) ∈ sy_AL ∧ Cond.initialized (sy_ex E) ∈ sy_AL ∧ (∀ w ∈ (vx_atS "SegmentYard" ic (sy_ex E) sy_names).filter goodWord, w ∈ sy_AL) ∧ (∀ w ∈ (vx_atS "SegmentYard" ic (sy_ex E) sy_names).filter (fun w => !goodWord w), w ∈ sy_EX) ∧
  (∀ w ∈ Cond.classLink "SegmentYard" ik (sy_ex E) :: Cond.initialized (sy_ex E) :: vx_atS "SegmentYard" ic (sy_ex E) sy_names, vx_ot w = true) ∧ Bundle.fit (sy_ex E) = true ∧
  decode cc pc = .ok (.new ik, 3) ∧ decode cc (pc + 3) = .ok (.dup, 1) ∧ decode cc (pc + 4) = .ok (.ldc is, 2) ∧ decode cc (pc + 6) = .ok (.invokespecial ic, 3) ∧ decode cc (pc + 9) = .ok (.athrow, 1)
def sy_THR (X : sy_Cx) (μ : sy_Mu) : Prop := μ.1 = "SegmentYard" → 6 ≤ μ.2.2.2.1 → ∀ (E : Nat) (σ : sy_Mem), sy_xg X = (.inr E, σ) → ∀ (n : Nat) (H : Heap) (locs : List Loc) (ls : Array Slot) (pc ik is ic : Nat), n ≤ sy_xn X → sy_P X σ H → sy_Z X H locs → ls.size = (sy_xc X).maxLocals → sy_thw μ.2.1 pc E ik is ic → sy_W X n H locs (F0 (sy_xm X) pc ls [])
def sy_SC (X : sy_Cx) : Option (Nat × Nat × (Nat → Int32)) → Prop
  | none => True
  | some (bs, L, xs) => va_X bs L xs (sy_xs X) (sy_xs X).heap ∧ bs < (sy_xs X).heap.size ∧ bs < (sy_xb X).1
def sy_FX (X : sy_Cx) (μ : sy_Mu) : Prop :=
  (sy_xp X).tables.exec = Jvm.exec ∧ (sy_xc X).code = μ.2.1 ∧ (sy_xs X).vm.findClass μ.1 = some (sy_xm X).cls ∧ (∀ w ∈ sy_AL, w.before (sy_xa X) (sy_xs X) = true) ∧
  va_K (sy_xD X) vwCl (sy_tys (sy_xA X)) (sy_xs X) ∧ sy_T1 (sy_xb X).1 (sy_xs X) (sy_xs X).heap ∧ (sy_xl X).stackTraces = false ∧ (sy_xc X).maxLocals = μ.2.2.2.2.1 ∧
  (μ.2.2.2.1 ≤ (sy_xR X).frames ∧ 42 * μ.2.2.2.1 ≤ (sy_xR X).locals) ∧ (sy_xn X ≤ (sy_xR X).cells ∧ 6 * sy_xn X ≤ (sy_xR X).slots) ∧
  ((∃ E σ, sy_xg X = (.inr E, σ)) → sy_xn X + 1 ≤ (sy_xR X).cells ∧ 6 * sy_xn X + 6 ≤ (sy_xR X).slots) ∧ sy_RET X μ ∧ sy_OUT X ∧ sy_THR X μ ∧ sy_SC X μ.2.2.2.2.2
section SYB1
variable {X : sy_Cx} {μ : sy_Mu} {n pc : Nat} {env st : List Value} {f : sy_MM (Option Value)}
theorem sy_FX.e (F : sy_FX X μ) : (sy_xp X).tables.exec = Jvm.exec := F.1
theorem sy_FX.c (F : sy_FX X μ) : (sy_xc X).code = μ.2.1 := F.2.1
theorem sy_FX.o (F : sy_FX X μ) : (sy_xs X).vm.findClass μ.1 = some (sy_xm X).cls := F.2.2.1
theorem sy_FX.w (F : sy_FX X μ) : ∀ w ∈ sy_AL, w.before (sy_xa X) (sy_xs X) = true := F.2.2.2.1
theorem sy_FX.k (F : sy_FX X μ) : va_K (sy_xD X) vwCl (sy_tys (sy_xA X)) (sy_xs X) := F.2.2.2.2.1
theorem sy_FX.t (F : sy_FX X μ) : sy_T1 (sy_xb X).1 (sy_xs X) (sy_xs X).heap := F.2.2.2.2.2.1
theorem sy_FX.tr (F : sy_FX X μ) : (sy_xl X).stackTraces = false := F.2.2.2.2.2.2.1
theorem sy_FX.ml (F : sy_FX X μ) : (sy_xc X).maxLocals = μ.2.2.2.2.1 := F.2.2.2.2.2.2.2.1
theorem sy_FX.fr (F : sy_FX X μ) : μ.2.2.2.1 ≤ (sy_xR X).frames ∧ 42 * μ.2.2.2.1 ≤ (sy_xR X).locals := F.2.2.2.2.2.2.2.2.1
theorem sy_FX.ce (F : sy_FX X μ) : sy_xn X ≤ (sy_xR X).cells ∧ 6 * sy_xn X ≤ (sy_xR X).slots := F.2.2.2.2.2.2.2.2.2.1
theorem sy_FX.cx (F : sy_FX X μ) : (∃ E σ, sy_xg X = (.inr E, σ)) → sy_xn X + 1 ≤ (sy_xR X).cells ∧ 6 * sy_xn X + 6 ≤ (sy_xR X).slots := F.2.2.2.2.2.2.2.2.2.2.1
theorem sy_FX.re (F : sy_FX X μ) : sy_RET X μ := F.2.2.2.2.2.2.2.2.2.2.2.1
theorem sy_FX.ou (F : sy_FX X μ) : sy_OUT X := F.2.2.2.2.2.2.2.2.2.2.2.2.1
theorem sy_FX.th (F : sy_FX X μ) : sy_THR X μ := F.2.2.2.2.2.2.2.2.2.2.2.2.2.1
theorem sy_FX.sc (F : sy_FX X μ) : sy_SC X μ.2.2.2.2.2 := F.2.2.2.2.2.2.2.2.2.2.2.2.2.2
theorem sy_vac (h : ∀ σ, f σ = none) : sy_B X n pc env st f := fun σ _ hf => by rw [h σ] at hf; cases hf
theorem sy_take {m : Nat} (k : sy_B X n pc (env.take m) st f) : sy_B X n pc env st f := fun σ hn hf H locs ls hP hS hE => k σ hn hf H locs ls hP hS (hE.take m)
-- loads, constants
theorem sy_iload_n (F : sy_FX X μ) {i : Fin 4} {x : Int32} (d : decode μ.2.1 pc = .ok (.iload_n i, 1)) (hv : env[(i : Nat)]? = some (.int x)) (k : sy_B X n (pc + 1) env (.int x :: st) f) : sy_B X n pc env st f :=
  fun σ hn hf H locs ls hP hS hE => lv_iload_n F.e F.c d rfl (hE.at hv (by simp)) (k σ hn hf H locs ls hP hS hE)
theorem sy_iload (F : sy_FX X μ) {i : Nat} {x : Int32} (d : decode μ.2.1 pc = .ok (.iload i, 2)) (hv : env[i]? = some (.int x)) (k : sy_B X n (pc + 2) env (.int x :: st) f) : sy_B X n pc env st f :=
  fun σ hn hf H locs ls hP hS hE => lv_iload F.e F.c d (hE.at hv (by simp)) (k σ hn hf H locs ls hP hS hE)
theorem sy_lload_n (F : sy_FX X μ) {i : Fin 4} {x : Int64} (d : decode μ.2.1 pc = .ok (.lload_n i, 1)) (hv : env[(i : Nat)]? = some (.long x)) (k : sy_B X n (pc + 1) env (.long x :: st) f) : sy_B X n pc env st f :=
  fun σ hn hf H locs ls hP hS hE => lv_lload_n F.e F.c d rfl (hE.at hv (by simp)) (k σ hn hf H locs ls hP hS hE)
theorem sy_lload (F : sy_FX X μ) {i : Nat} {x : Int64} (d : decode μ.2.1 pc = .ok (.lload i, 2)) (hv : env[i]? = some (.long x)) (k : sy_B X n (pc + 2) env (.long x :: st) f) : sy_B X n pc env st f :=
  fun σ hn hf H locs ls hP hS hE => lv_lload F.e F.c d (hE.at hv (by simp)) (k σ hn hf H locs ls hP hS hE)
theorem sy_aload_n (F : sy_FX X μ) {i : Fin 4} {x : Nat} (d : decode μ.2.1 pc = .ok (.aload_n i, 1)) (hv : env[(i : Nat)]? = some (.ref x)) (k : sy_B X n (pc + 1) env (.ref x :: st) f) : sy_B X n pc env st f :=
  fun σ hn hf H locs ls hP hS hE => lv_aload_n F.e F.c d rfl (hE.at hv (by simp)) (k σ hn hf H locs ls hP hS hE)
theorem sy_aload (F : sy_FX X μ) {i : Nat} {x : Nat} (d : decode μ.2.1 pc = .ok (.aload i, 2)) (hv : env[i]? = some (.ref x)) (k : sy_B X n (pc + 2) env (.ref x :: st) f) : sy_B X n pc env st f :=
  fun σ hn hf H locs ls hP hS hE => lv_aload F.e F.c d (hE.at hv (by simp)) (k σ hn hf H locs ls hP hS hE)
theorem sy_iconst (F : sy_FX X μ) {z : Int} {v : Int32} (d : decode μ.2.1 pc = .ok (.iconst z, 1)) (hv : Int32.ofInt z = v) (k : sy_B X n (pc + 1) env (.int v :: st) f) : sy_B X n pc env st f :=
  fun σ hn hf H locs ls hP hS hE => lv_iconst F.e F.c d hv (k σ hn hf H locs ls hP hS hE)
theorem sy_bipush (F : sy_FX X μ) {z : Int} {v : Int32} (d : decode μ.2.1 pc = .ok (.bipush z, 2)) (hv : (Int8.ofInt z).toInt32 = v) (k : sy_B X n (pc + 2) env (.int v :: st) f) : sy_B X n pc env st f :=
  fun σ hn hf H locs ls hP hS hE => lv_bipush F.e F.c d hv (k σ hn hf H locs ls hP hS hE)
theorem sy_sipush (F : sy_FX X μ) {z : Int} {v : Int32} (d : decode μ.2.1 pc = .ok (.sipush z, 3)) (hv : (Int16.ofInt z).toInt32 = v) (k : sy_B X n (pc + 3) env (.int v :: st) f) : sy_B X n pc env st f :=
  fun σ hn hf H locs ls hP hS hE => lv_sipush F.e F.c d hv (k σ hn hf H locs ls hP hS hE)
theorem sy_lconst (F : sy_FX X μ) {z : Fin 2} {v : Int64} (d : decode μ.2.1 pc = .ok (.lconst z, 1)) (hv : Int64.ofNat (z : Nat) = v) (k : sy_B X n (pc + 1) env (.long v :: st) f) : sy_B X n pc env st f :=
  fun σ hn hf H locs ls hP hS hE => lv_lconst F.e F.c d hv (k σ hn hf H locs ls hP hS hE)
theorem sy_ldc2 (F : sy_FX X μ) {ix : Nat} {v : Int64} (d : decode μ.2.1 pc = .ok (.ldc2_w ix, 3)) (hw : Cond.constantLong μ.1 ix v ∈ sy_AL) (k : sy_B X n (pc + 3) env (.long v :: st) f) : sy_B X n pc env st f :=
  fun σ hn hf H locs ls hP hS hE => lv_ldc2 F.e F.c F.o (F.w _ hw) d (k σ hn hf H locs ls hP hS hE)
-- stores
theorem sy_istore_n (F : sy_FX X μ) {i : Fin 4} {x : Int32} (d : decode μ.2.1 pc = .ok (.istore_n i, 1)) (hi : (i : Nat) < μ.2.2.2.2.1) (k : sy_B X n (pc + 1) (sy_set env i (.int x)) st f) : sy_B X n pc env (.int x :: st) f :=
  fun σ hn hf H locs ls hP hS hE => lv_istore_n F.e F.c d rfl hE.has (by rw [F.ml]; exact hi) rfl (fun ls' h => k σ hn hf H locs ls' hP hS (sy_eok.st (w := .int x) h))
theorem sy_istore (F : sy_FX X μ) {i : Nat} {x : Int32} (d : decode μ.2.1 pc = .ok (.istore i, 2)) (hi : i < μ.2.2.2.2.1) (k : sy_B X n (pc + 2) (sy_set env i (.int x)) st f) : sy_B X n pc env (.int x :: st) f :=
  fun σ hn hf H locs ls hP hS hE => lv_istore F.e F.c d hE.has (by rw [F.ml]; exact hi) rfl (fun ls' h => k σ hn hf H locs ls' hP hS (sy_eok.st (w := .int x) h))
theorem sy_astore_n (F : sy_FX X μ) {i : Fin 4} {x : Nat} (d : decode μ.2.1 pc = .ok (.astore_n i, 1)) (hi : (i : Nat) < μ.2.2.2.2.1) (k : sy_B X n (pc + 1) (sy_set env i (.ref x)) st f) : sy_B X n pc env (.ref x :: st) f :=
  fun σ hn hf H locs ls hP hS hE => lv_astore_n F.e F.c d rfl hE.has (by rw [F.ml]; exact hi) rfl (fun ls' h => k σ hn hf H locs ls' hP hS (sy_eok.st (w := .ref x) h))
theorem sy_astore (F : sy_FX X μ) {i : Nat} {x : Nat} (d : decode μ.2.1 pc = .ok (.astore i, 2)) (hi : i < μ.2.2.2.2.1) (k : sy_B X n (pc + 2) (sy_set env i (.ref x)) st f) : sy_B X n pc env (.ref x :: st) f :=
  fun σ hn hf H locs ls hP hS hE => lv_astore F.e F.c d hE.has (by rw [F.ml]; exact hi) rfl (fun ls' h => k σ hn hf H locs ls' hP hS (sy_eok.st (w := .ref x) h))
theorem sy_lstore_n (F : sy_FX X μ) {i : Fin 4} {x : Int64} (d : decode μ.2.1 pc = .ok (.lstore_n i, 1)) (hi : (i : Nat) + 1 < μ.2.2.2.2.1) (k : sy_B X n (pc + 1) (sy_set (sy_set env (i + 1) .null) i (.long x)) st f) : sy_B X n pc env (.long x :: st) f :=
  fun σ hn hf H locs ls hP hS hE => lv_lstore_n F.e F.c d rfl hE.has (by rw [F.ml]; exact hi) rfl (fun ls' h => k σ hn hf H locs ls' hP hS (sy_eok.stL (x := x) h))
theorem sy_lstore (F : sy_FX X μ) {i : Nat} {x : Int64} (d : decode μ.2.1 pc = .ok (.lstore i, 2)) (hi : i + 1 < μ.2.2.2.2.1) (k : sy_B X n (pc + 2) (sy_set (sy_set env (i + 1) .null) i (.long x)) st f) : sy_B X n pc env (.long x :: st) f :=
  fun σ hn hf H locs ls hP hS hE => lv_lstore F.e F.c d hE.has (by rw [F.ml]; exact hi) rfl (fun ls' h => k σ hn hf H locs ls' hP hS (sy_eok.stL (x := x) h))
theorem sy_iinc (F : sy_FX X μ) {i : Nat} {z : Int} {x v : Int32} (d : decode μ.2.1 pc = .ok (.iinc i z, 3)) (hx : env[i]? = some (.int x)) (hv : x + Int32.ofInt z = v) (hi : i < μ.2.2.2.2.1) (k : sy_B X n (pc + 3) (sy_set env i (.int v)) st f) : sy_B X n pc env st f := by
  intro σ hn hf H locs ls hP hS hE
  have hm := sy_lv_mem (b := sy_xb X) hx (by simp)
  obtain ⟨j, hj⟩ := List.getElem?_of_mem hm
  exact lv_iinc F.e F.c d hE.has hj hv (by rw [F.ml]; exact hi) rfl (fun ls' h => k σ hn hf H locs ls' hP hS (sy_eok.st (w := .int v) h))
-- arithmetic, stack
theorem sy_iadd (F : sy_FX X μ) {x y : Int32} (d : decode μ.2.1 pc = .ok (.iadd, 1)) (k : sy_B X n (pc + 1) env (.int (x + y) :: st) f) : sy_B X n pc env (.int y :: .int x :: st) f :=
  fun σ hn hf H locs ls hP hS hE => lv_iadd F.e F.c d (k σ hn hf H locs ls hP hS hE)
theorem sy_isub (F : sy_FX X μ) {x y : Int32} (d : decode μ.2.1 pc = .ok (.isub, 1)) (k : sy_B X n (pc + 1) env (.int (x - y) :: st) f) : sy_B X n pc env (.int y :: .int x :: st) f :=
  fun σ hn hf H locs ls hP hS hE => lv_isub F.e F.c d (k σ hn hf H locs ls hP hS hE)
theorem sy_imul (F : sy_FX X μ) {x y : Int32} (d : decode μ.2.1 pc = .ok (.imul, 1)) (k : sy_B X n (pc + 1) env (.int (x * y) :: st) f) : sy_B X n pc env (.int y :: .int x :: st) f :=
  fun σ hn hf H locs ls hP hS hE => lv_imul F.e F.c d (k σ hn hf H locs ls hP hS hE)
theorem sy_iand (F : sy_FX X μ) {x y : Int32} (d : decode μ.2.1 pc = .ok (.iand, 1)) (k : sy_B X n (pc + 1) env (.int (x &&& y) :: st) f) : sy_B X n pc env (.int y :: .int x :: st) f :=
  fun σ hn hf H locs ls hP hS hE => lv_iand F.e F.c d (k σ hn hf H locs ls hP hS hE)
theorem sy_pop (F : sy_FX X μ) {v : Value} (d : decode μ.2.1 pc = .ok (.pop, 1)) (hc : v.category = 1) (k : sy_B X n (pc + 1) env st f) : sy_B X n pc env (v :: st) f :=
  fun σ hn hf H locs ls hP hS hE => lv_pop F.e F.c d (by rw [sy_sh_cat]; exact hc) (k σ hn hf H locs ls hP hS hE)
theorem sy_dup (F : sy_FX X μ) {v : Value} (d : decode μ.2.1 pc = .ok (.dup, 1)) (hc : v.category = 1) (k : sy_B X n (pc + 1) env (v :: v :: st) f) : sy_B X n pc env (v :: st) f :=
  fun σ hn hf H locs ls hP hS hE => lv_dup F.e F.c d (by rw [sy_sh_cat]; exact hc) (k σ hn hf H locs ls hP hS hE)
theorem sy_dup2 (F : sy_FX X μ) {v w : Value} (d : decode μ.2.1 pc = .ok (.dup2, 1)) (hc : v.category = 1) (hc2 : w.category = 1) (k : sy_B X n (pc + 1) env (v :: w :: v :: w :: st) f) : sy_B X n pc env (v :: w :: st) f :=
  fun σ hn hf H locs ls hP hS hE => lv_dup2_11 F.e F.c d (by rw [sy_sh_cat]; exact hc) (by rw [sy_sh_cat]; exact hc2) (k σ hn hf H locs ls hP hS hE)
theorem sy_i2l (F : sy_FX X μ) {x : Int32} (d : decode μ.2.1 pc = .ok (.i2l, 1)) (k : sy_B X n (pc + 1) env (.long x.toInt64 :: st) f) : sy_B X n pc env (.int x :: st) f :=
  fun σ hn hf H locs ls hP hS hE => lv_i2l F.e F.c d rfl (k σ hn hf H locs ls hP hS hE)
theorem sy_ladd (F : sy_FX X μ) {x y : Int64} (d : decode μ.2.1 pc = .ok (.ladd, 1)) (k : sy_B X n (pc + 1) env (.long (x + y) :: st) f) : sy_B X n pc env (.long y :: .long x :: st) f :=
  fun σ hn hf H locs ls hP hS hE => lv_ladd F.e F.c d (k σ hn hf H locs ls hP hS hE)
theorem sy_lmul (F : sy_FX X μ) {x y : Int64} (d : decode μ.2.1 pc = .ok (.lmul, 1)) (k : sy_B X n (pc + 1) env (.long (x * y) :: st) f) : sy_B X n pc env (.long y :: .long x :: st) f :=
  fun σ hn hf H locs ls hP hS hE => lv_lmul F.e F.c d (k σ hn hf H locs ls hP hS hE)
theorem sy_goto (F : sy_FX X μ) {off : Int} {tgt : Nat} (d : decode μ.2.1 pc = .ok (.goto off, 3)) (ht : (pc : Int) + off = (tgt : Int)) (k : sy_B X n tgt env st f) : sy_B X n pc env st f :=
  fun σ hn hf H locs ls hP hS hE => lv_goto F.e F.c d ht (k σ hn hf H locs ls hP hS hE)
end SYB1
end SYB
