/-! THE CLAIM OUT OF ONE WALK OF THE LAW'S BODY. Your part is whole_start (and what it stands on); all else here is the same for every law, but numbers. -/
def R_law : String := "SegmentYardLaw"
def lw_P (b : Addr) (xs : List Int32) (args : Array Value) (s : State) : Prop := args = #[.ref b] ∧ s.IntsAt b xs ∧ xs.length ≤ 260 ∧ (Jvm.Cond.and given_1 narrow_1).before args s = true
def lw_Q (_ : Array Value) (s : State) (o : Outcome) (t : State) : Prop := o = .returned (some (.int 1)) ∧ Framed s o t [] 681971 7055710
def lw_Z (below : List Frame) (a : Array Value) (s : State) : State → Prop := fun t => ∃ o, t.status = .running ∧ Ended t below o ∧ lw_Q a s o t
/-- the law's own end, with 1 on the stack, nothing written that was there before, its room as the claim has it -/
theorem lw_ret {p : Program} {l : Launch} {e : Env} {s : State} {m : MethodId} {below : List Frame} {meth : Method} {c : Code} {b : Nat} (hx : p.tables.exec = Jvm.exec) (hb : c.code = code) (hr : meth.sig.returnType = ret) (hlocks : meth.locks = false) {pc : Nat} {H : Heap} {ls : Array Slot} (hdg : decode code pc = .ok (.ireturn, 1)) : W p l e room_1 s m #[Value.ref b] below meth c H [] 681971 7055710 (lw_Z below #[Value.ref b] s) (F0 m pc ls [.int 1]) := by
  intro T hT X
  obtain ⟨fs, hret, hrun, hended, hW, hframe⟩ := X.leave (v := some (.int 1)) (hlocks := hlocks) (fun h => by rw [hr] at h; cases h)
  have hmeth' : T.vm.method? m = some meth := X.method'
  refine ⟨T.setFrames fs, ?_, .returned (some (.int 1)), hrun, hended, rfl, ⟨_, rfl⟩, hW, hframe⟩
  jvm_step X.here [X.here.top, hx, hb, hdg, hmeth', hr, ret, narrow_b1]
  (try refine ⟨rfl, ?_⟩); (try refine ⟨rfl, ?_⟩)
  first | (intro acts; rw [hret _ acts rfl rfl rfl]) | rw [hret _ _ rfl rfl rfl]
  exact Steps.refl _
/-- what holds at the law's entry: the machine, the code, the tables' words (any of lw_tbl by 'hts w (by decide +kernel)'), the script of L ints xs at the cell b, what the Statement gives of the start (any of its parts by flat_of_before) -/
def lw_At (p : Program) (s : State) (m : MethodId) (meth : Method) (c : Code) (b L : Nat) (xs : Nat → Int32) : Prop :=
  p.tables.exec = Jvm.exec ∧ c.code = code ∧ meth.sig.returnType = ret ∧ c.maxLocals = 13 ∧ s.vm.findClass R_law = some m.cls ∧ (∀ w ∈ lw_tbl, w.before #[Value.ref b] s = true) ∧ va_X b L xs s s.heap ∧ b < s.heap.size ∧ meth.locks = false ∧ (Jvm.Cond.and given_1 narrow_1).before #[Value.ref b] s = true
section SYT
theorem lw_in {w : Cond} (i : Nat) (h : lw_tbl[i]? = some w) : w ∈ lw_tbl := List.mem_of_getElem? h
def sy_env0 (bs : Nat) : List Value := [.retAddr bs, .ref 0, .ref 44, .ref 45, .ref 46, .ref 47, .ref 48, .ref 49, .ref 50, .ref 51, .ref 52]
/-- the law behind its prelude -/
def sy_lawM (bs L : Nat) (xs : Nat → Int32) : sy_MM (Option Value) := sm_L_law bs L xs (sy_env0 bs) (fun _ => sy_fail)
theorem law_str {s : State} {args : Array Value} {cur : ClassId} (hc : s.vm.findClass "SegmentYard" = some cur) {k : Nat} {tx : String} (h : (Cond.stringRef "SegmentYard" k tx).before args s = true) : ∃ a, vk_R "SegmentYard" k tx a s := by
  have h0 : (Cond.stringRef "SegmentYard" k tx).before #[] s = true := h
  obtain ⟨_, _, _, a, _, _, _, _, _, he⟩ := Cond.stringRef_spec hc h0
  exact ⟨a, h0, he⟩
theorem law_T1 {s : State} {args : Array Value} {cur : ClassId} (hc : s.vm.findClass "SegmentYard" = some cur) (hts : ∀ w ∈ lw_tbl, w.before args s = true) (hgv : (Jvm.Cond.and given_1 narrow_1).before args s = true) : sy_T1 s.heap.size s s.heap := by
  have hf := flat_of_before _ hgv
  have hA : ∀ a : Nat, a < s.heap.size → ¬ sy_ab s.heap.size a := fun a h h' => absurd (show s.heap.size ≤ a from h') (by omega)
  have hi := hts (Cond.initialized "java/lang/Throwable") (lw_in 52 (by decide +kernel))
  refine ⟨⟨vx_Zqof (hts (Cond.laysStatic "java/lang/Throwable" "UNASSIGNED_STACK" "[Ljava/lang/StackTraceElement;") (lw_in 297 (by decide +kernel))) hi (hf _ (by decide +kernel)) hA, vx_Zqof (hts (Cond.laysStatic "java/lang/Throwable" "SUPPRESSED_SENTINEL" "Ljava/util/List;") (lw_in 299 (by decide +kernel))) hi (hf _ (by decide +kernel)) hA⟩, fun w hw => ?_, fun k hk => ?_⟩
  · exact va_Nw.of ((by decide +kernel : ∀ w ∈ sy_EX, w.onTables = true) w hw) (hts w ((by decide +kernel : ∀ w ∈ sy_EX, w ∈ lw_tbl) w hw))
  · rcases (show k = 197 ∨ k = 204 ∨ k = 209 ∨ k = 212 by simpa [sy_tk] using hk) with rfl | rfl | rfl | rfl
    · exact law_str hc (hts (Cond.stringRef "SegmentYard" 197 "there is no such one") (lw_in 732 (by decide +kernel)))
    · exact law_str hc (hts (Cond.stringRef "SegmentYard" 204 "this is out of range") (lw_in 353 (by decide +kernel)))
    · exact law_str hc (hts (Cond.stringRef "SegmentYard" 209 "this is not to be done now") (lw_in 770 (by decide +kernel)))
    · exact law_str hc (hts (Cond.stringRef "SegmentYard" 212 "there is no such view") (lw_in 311 (by decide +kernel)))
theorem law_NC {s : State} {args : Array Value} (hgv : (Jvm.Cond.and given_1 narrow_1).before args s = true) : sy_NC s := by
  have hf := flat_of_before _ hgv
  exact ⟨va_Nc.of (hf (Cond.not (.castable (sy_ex 2) (sy_ex 1))) (by decide +kernel)), va_Nc.of (hf (Cond.not (.castable (sy_ex 3) (sy_ex 1))) (by decide +kernel)), va_Nc.of (hf (Cond.not (.castable (sy_ex 3) (sy_ex 2))) (by decide +kernel))⟩
theorem law_Pr {s : State} {args : Array Value} (hts : ∀ w ∈ lw_tbl, w.before args s = true) : sc_Pr s :=
  ⟨va_AO.of (hts (Cond.arrayOver (.object "SegmentYard$View")) (lw_in 191 (by decide +kernel))), fun w hw => va_Nw.of ((by decide +kernel : ∀ w ∈ sc_EX, w.onTables = true) w hw) (hts w ((by decide +kernel : ∀ w ∈ sc_EX, w ∈ lw_tbl) w hw))⟩
theorem law_K {s : State} {args : Array Value} (hts : ∀ w ∈ sy_AL, w.before args s = true) : ∃ D : va_G, va_K D vwCl [] s := by
  obtain ⟨c0, i0, h0⟩ := u_known hts sy_kw0 (hts _ (sy_in (w := Cond.instantiable RX0 8) 141 (by decide +kernel) (by decide +kernel)))
  obtain ⟨c1, i1, h1⟩ := u_known hts sy_kw1 (hts _ (sy_in (w := Cond.instantiable RX1 4) 172 (by decide +kernel) (by decide +kernel)))
  obtain ⟨c2, i2, h2⟩ := u_known hts sy_kw2 (hts _ (sy_in (w := Cond.instantiable RX2 9) 68 (by decide +kernel) (by decide +kernel)))
  obtain ⟨c3, i3, h3⟩ := u_known hts sy_kw3 (hts _ (sy_in (w := Cond.instantiable RX3 10) 103 (by decide +kernel) (by decide +kernel)))
  obtain ⟨c4, i4, h4⟩ := u_known hts sy_kw4 (hts _ (sy_in (w := Cond.instantiable RX4 9) 192 (by decide +kernel) (by decide +kernel)))
  obtain ⟨c5, i5, h5⟩ := u_known hts sy_kw5 (hts _ (sy_in (w := Cond.instantiable RX5 6) 60 (by decide +kernel) (by decide +kernel)))
  refine ⟨(fun k => match k with | 0 => c0 | 1 => c1 | 2 => c2 | 3 => c3 | 4 => c4 | _ => c5, fun k => match k with | 0 => i0 | 1 => i1 | 2 => i2 | 3 => i3 | 4 => i4 | _ => i5), fun k q hq => ?_, fun k q hq => absurd hq (by simp)⟩
  match k, hq with
  | 0, hq => obtain rfl := Option.some.inj hq; exact h0
  | 1, hq => obtain rfl := Option.some.inj hq; exact h1
  | 2, hq => obtain rfl := Option.some.inj hq; exact h2
  | 3, hq => obtain rfl := Option.some.inj hq; exact h3
  | 4, hq => obtain rfl := Option.some.inj hq; exact h4
  | 5, hq => obtain rfl := Option.some.inj hq; exact h5
  | k + 6, hq => exact absurd hq (by simp [vwCl])
end SYT
