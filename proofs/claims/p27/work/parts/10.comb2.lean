section SYG
variable {μ : sy_Mu} {sk pc pc' p1 p2 p3 : Nat}
-- longs
def sy_lK (v : Int64) : sy_LE := fun _ => sy_ret v
theorem ol_const {z : Fin 2} {v : Int64} (d : decode μ.2.1 pc = .ok (.lconst z, 1)) (hv : Int64.ofNat (z : Nat) = v) : sy_OL μ sk pc (pc + 1) (sy_lK v) := fun X F n env st k hs hk => sy_lconst F d hv (hk v)
theorem ol_ldc {ix : Nat} {v : Int64} (d : decode μ.2.1 pc = .ok (.ldc2_w ix, 3)) (hw : Cond.constantLong μ.1 ix v ∈ sy_AL) : sy_OL μ sk pc (pc + 3) (sy_lK v) := fun X F n env st k hs hk => sy_ldc2 F d hw (hk v)
def sy_lI (e : sy_IE) : sy_LE := fun env => sy_bnd (e env) fun x => sy_ret x.toInt64
theorem ol_i2l {e : sy_IE} (h : sy_OI μ sk pc p1 e) (d : decode μ.2.1 p1 = .ok (.i2l, 1)) : sy_OL μ sk pc (p1 + 1) (sy_lI e) := by
  intro X F n env st k hs hk
  unfold sy_lI
  rw [sy_bnd_bnd]
  refine h X F n env st _ hs (fun x => ?_)
  exact sy_i2l F d (hk _)
def sy_lB (f : Int64 → Int64 → Int64) (a b : sy_LE) : sy_LE := fun env => sy_bnd (a env) fun x => sy_bnd (b env) fun y => sy_ret (f x y)
theorem ol_mul {a b : sy_LE} (ha : sy_OL μ sk pc p1 a) (hb : sy_OL μ (sk + 2) p1 p2 b) (d : decode μ.2.1 p2 = .ok (.lmul, 1)) : sy_OL μ sk pc (p2 + 1) (sy_lB (fun x y => x * y) a b) := by
  intro X F n env st k hs hk
  unfold sy_lB
  rw [sy_bnd_bnd]
  refine ha X F n env st _ hs (fun x => ?_)
  rw [sy_bnd_bnd]
  refine hb X F n env (.long x :: st) _ (sy_sL hs) (fun y => ?_)
  exact sy_lmul F d (hk _)
theorem ol_add {a b : sy_LE} (ha : sy_OL μ sk pc p1 a) (hb : sy_OL μ (sk + 2) p1 p2 b) (d : decode μ.2.1 p2 = .ok (.ladd, 1)) : sy_OL μ sk pc (p2 + 1) (sy_lB (fun x y => x + y) a b) := by
  intro X F n env st k hs hk
  unfold sy_lB
  rw [sy_bnd_bnd]
  refine ha X F n env st _ hs (fun x => ?_)
  rw [sy_bnd_bnd]
  refine hb X F n env (.long x :: st) _ (sy_sL hs) (fun y => ?_)
  exact sy_ladd F d (hk _)
def sy_lQ (c : sy_CE) (a b : sy_LE) : sy_LE := fun env => sy_bnd (c env) fun x => if x then a env else b env
theorem ol_cond {c : sy_CE} {a b : sy_LE} (hc : sy_OC μ sk pc p1 p2 c) (ha : sy_OL μ sk p1 pc' a) (hb : sy_OL μ sk p2 pc' b) : sy_OL μ sk pc pc' (sy_lQ c a b) := by
  intro X F n env st k hs hk
  unfold sy_lQ
  rw [sy_bnd_bnd]
  refine hc X F n env st _ hs (fun x => ?_)
  cases x
  · simpa using hb X F n env st k hs hk
  · simpa using ha X F n env st k hs hk
theorem ol_goto {e : sy_LE} {off : Int} {tgt : Nat} (h : sy_OL μ sk pc p1 e) (d : decode μ.2.1 p1 = .ok (.goto off, 3)) (ht : (p1 : Int) + off = (tgt : Int)) : sy_OL μ sk pc tgt e := fun X F n env st k hs hk => h X F n env st k hs (fun v => sy_goto F d ht (hk v))
-- arguments
def sy_aN : sy_AE := fun _ => sy_ret []
def sy_aI (e : sy_IE) (as : sy_AE) : sy_AE := fun env => sy_bnd (e env) fun x => sy_bnd (as env) fun vs => sy_ret (.int x :: vs)
def sy_aR (e : sy_RE) (as : sy_AE) : sy_AE := fun env => sy_bnd (e env) fun x => sy_bnd (as env) fun vs => sy_ret (.ref x :: vs)
theorem oa_nil : sy_OA μ sk pc pc sy_aN := fun X F n env st k hs hk => hk []
theorem oa_int {e : sy_IE} {as : sy_AE} (he : sy_OI μ sk pc p1 e) (ha : sy_OA μ (sk + 1) p1 p2 as) : sy_OA μ sk pc p2 (sy_aI e as) := by
  intro X F n env st k hs hk
  unfold sy_aI
  rw [sy_bnd_bnd]
  refine he X F n env st _ hs (fun x => ?_)
  rw [sy_bnd_bnd]
  refine ha X F n env (.int x :: st) _ (sy_s1 hs) (fun vs => ?_)
  rw [sy_bnd_ret]
  have := hk (.int x :: vs)
  rwa [List.reverse_cons, List.append_assoc] at this
theorem oa_ref {e : sy_RE} {as : sy_AE} (he : sy_OR μ sk pc p1 e) (ha : sy_OA μ (sk + 1) p1 p2 as) : sy_OA μ sk pc p2 (sy_aR e as) := by
  intro X F n env st k hs hk
  unfold sy_aR
  rw [sy_bnd_bnd]
  refine he X F n env st _ hs (fun x => ?_)
  rw [sy_bnd_bnd]
  refine ha X F n env (.ref x :: st) _ (sy_sR hs) (fun vs => ?_)
  rw [sy_bnd_ret]
  have := hk (.ref x :: vs)
  rwa [List.reverse_cons, List.append_assoc] at this
-- calls
def sy_isO (ci a : Nat) : Bool := match sy_lay a with | .inl (c, _) => c == ci | _ => false
def sy_rc (ci m : Nat) : List Value → Bool
  | .ref a :: t => sy_isO ci a && t.length == m
  | _ => false
def sy_cv (ci m : Nat) (g : List Value → sy_MM (Option Value)) : List Value → sy_MM (Option Value) := fun vs => if sy_rc ci m vs then g vs else sy_fail
def sy_cs (m : Nat) (g : List Value → sy_MM (Option Value)) : List Value → sy_MM (Option Value) := fun vs => if vs.length == m then g vs else sy_fail
theorem ok_v {y : MethodName} {cy : ByteArray} {nLy hy m ix ci : Nat} {rety : Option FieldType} {g : List Value → sy_MM (Option Value)} (hM : sy_KM y cy nLy rety hy g) (hc : sy_cV μ.1 ix ci y cy nLy rety m) (d : decode μ.2.1 pc = .ok (.invokevirtual ix, 3)) (hh : hy + 1 ≤ μ.2.2.2.1) (h8 : sk ≤ 8) : sy_OK μ sk pc (sy_cv ci m g) := by
  intro X F n env st vs k hs hk
  unfold sy_cv
  by_cases h : sy_rc ci m vs = true
  · rw [if_pos h]
    unfold sy_rc at h
    split at h
    · rename_i a t
      simp only [Bool.and_eq_true, beq_iff_eq] at h
      obtain ⟨h1, h2⟩ := h
      unfold sy_isO at h1
      split at h1
      · rename_i c fs hl
        simp only [beq_iff_eq] at h1
        subst h1
        rw [List.reverse_cons, List.append_assoc]
        exact sy_invV F hM hc hh d hl h2 (Nat.le_trans hs h8) hk
      · cases h1
    · cases h
  · rw [if_neg h]
    exact sy_vac (fun _ => rfl)
theorem ok_s {y : MethodName} {cy : ByteArray} {nLy hy m ix : Nat} {rety : Option FieldType} {g : List Value → sy_MM (Option Value)} (hM : sy_KM y cy nLy rety hy g) (hc : sy_cS μ.1 ix y cy nLy rety m) (hy1 : y.cls = μ.1) (d : decode μ.2.1 pc = .ok (.invokestatic ix, 3)) (hh : hy + 1 ≤ μ.2.2.2.1) (h8 : sk ≤ 8) : sy_OK μ sk pc (sy_cs m g) := by
  intro X F n env st vs k hs hk
  unfold sy_cs
  by_cases h : (vs.length == m) = true
  · rw [if_pos h]
    exact sy_invS F hM hc hy1 hh d (by simpa using h) (Nat.le_trans hs h8) hk
  · rw [if_neg h]
    exact sy_vac (fun _ => rfl)
/-- a static call of a nest mate's method, which returns -/
def sy_cn (m : Nat) (g : List Value → sy_MM (Option Value)) : List Value → sy_MM (Option Value) := fun vs => if vs.length == m then (fun σ => match g vs σ with | some (.inl v, τ) => some (.inl v, τ) | _ => none) else sy_fail
def sy_cX (own : String) (ix : Nat) (host : String) (y : MethodName) (cy : ByteArray) (nLy : Nat) (rety : Option FieldType) (m : Nat) : Prop :=
  (∀ w ∈ [Cond.static y, .initialized y.cls, .code y cy nLy rety], w ∈ sy_AL) ∧ Cond.methodLinkNest own ix y host ∈ sy_EX ∧ (y.cls ≠ "java/lang/invoke/MethodHandle" ∧ y.cls ≠ "java/lang/invoke/VarHandle" ∧ (parseMethodDescriptor y.desc).map (fun d => d.parameters.length) = some m) ∧ nLy ≤ 23
theorem ok_n {y : MethodName} {cy : ByteArray} {nLy hy m ix : Nat} {host : String} {rety : Option FieldType} {g : List Value → sy_MM (Option Value)} (hM : sy_KM y cy nLy rety hy g) (hc : sy_cX μ.1 ix host y cy nLy rety m) (d : decode μ.2.1 pc = .ok (.invokestatic ix, 3)) (hh : hy + 1 ≤ μ.2.2.2.1) (h8 : sk ≤ 8) : sy_OK μ sk pc (sy_cn m g) := by
  intro X F n env st vs k hs hk
  unfold sy_cn
  by_cases h : (vs.length == m) = true
  · rw [if_pos h]
    intro σ hn hf H locs ls hP hS hE
    unfold sy_bnd at hf
    dsimp only at hf
    obtain ⟨hw, hl, hd, h23⟩ := hc
    have hfr := F.fr
    cases hg : g vs σ with
    | none => rw [hg] at hf; cases hf
    | some o =>
      obtain ⟨r, τ⟩ := o
      rw [hg] at hf
      cases r with
      | inr E => cases hf
      | inl v =>
        have hKM := sy_vxmono (hM (sy_xl X) (sy_xD X) (sy_xA X) (sy_xb X) vs σ (.inl v) τ F.tr hg) (fun E s t h => by obtain ⟨⟨k, h, -⟩, -⟩ := h; cases h)
        have hG : GoodIn sy_AL (Cond.code y cy nLy rety :: sy_AL) := fun w h => sy_good (by
          rcases List.mem_cons.mp h with h | h
          · exact hw w (by simp [h])
          · exact h)
        have hrun := va_runSN (e := sy_xe X) (below := sy_xo X) (meth := sy_xM X) (As := vs.map (sy_sh (sy_xb X))) (rest := st.map (sy_sh (sy_xb X))) (H := H) (locs := locs) (cells := n) (slots := 6 * n) (g := F0 (sy_xm X) pc ls ((vs.reverse ++ st).map (sy_sh (sy_xb X)))) ⟨F.e, F.c, rfl, F.o, F.w⟩ hKM
          ⟨va_cnB m F.w hG rfl rfl rfl (F.t.2.1 _ hl) (F.w _ (hw _ (by simp))) hd ⟨Nat.le_trans hh hfr.1, by show 8 + (nLy + 11) + 42 * hy ≤ (sy_xR X).locals; omega⟩, F.w _ (hw _ (by simp)), trivial⟩
          ⟨sy_blind _ _ _ _ _, fun U hU hW => ⟨rfl, sy_calledPW F hP hS U hU hW⟩⟩ rfl (by simpa using h) hE.1 (by simp [F0]) (lv_room (by rw [sy_sh_sum]; exact Nat.le_trans hs h8)) d ⟨by have := F.ce; simp only [sy_mc]; omega, by have := F.ce; simp only [sy_mc]; omega⟩
        intro T hT XS
        obtain ⟨v', st₀, t, T', L, h0, X', hL, e1, e2, ⟨⟨w, hw', hoc, hP'⟩, hF⟩, sg⟩ := hrun T hT XS
        cases hw'
        cases hoc
        obtain ⟨-, -, k3⟩ := vx_keep h0 e1 hS (A1 := sy_ab (sy_xb X).1) (fun _ _ h => h) (fun _ h => h) hL hF
        obtain ⟨t2, a1, b1⟩ := hk v τ hn hf T'.heap (locs ++ L) ls (by rw [e1]; exact hP') k3 hE T' rfl X'
        refine ⟨t2, sg t2 ?_, b1⟩
        rw [List.map_append, show v.toList.map (sy_sh (sy_xb X)) = (v.map (sy_sh (sy_xb X))).toList by cases v <;> rfl] at a1
        exact a1
  · rw [if_neg h]
    exact sy_vac (fun _ => rfl)
def sy_toI : Option Value → sy_MM Int32 | some (.int x) => sy_ret x | _ => sy_fail
def sy_toR : Option Value → sy_MM Nat | some (.ref x) => sy_ret x | _ => sy_fail
def sy_toL : Option Value → sy_MM Int64 | some (.long x) => sy_ret x | _ => sy_fail
def sy_iM (c : List Value → sy_MM (Option Value)) (as : sy_AE) : sy_IE := fun env => sy_bnd (as env) fun vs => sy_bnd (c vs) sy_toI
def sy_rM (c : List Value → sy_MM (Option Value)) (as : sy_AE) : sy_RE := fun env => sy_bnd (as env) fun vs => sy_bnd (c vs) sy_toR
def sy_lM (c : List Value → sy_MM (Option Value)) (as : sy_AE) : sy_LE := fun env => sy_bnd (as env) fun vs => sy_bnd (c vs) sy_toL
theorem oi_call {c : List Value → sy_MM (Option Value)} {as : sy_AE} (ha : sy_OA μ sk pc p1 as) (hc : sy_OK μ sk p1 c) : sy_OI μ sk pc (p1 + 3) (sy_iM c as) := by
  intro X F n env st k hs hk
  unfold sy_iM
  rw [sy_bnd_bnd]
  refine ha X F n env st _ hs (fun vs => ?_)
  rw [sy_bnd_bnd]
  refine hc X F n env st vs _ hs (fun r => ?_)
  unfold sy_toI
  split
  · exact hk _
  · exact sy_vac (fun _ => rfl)
theorem or_call {c : List Value → sy_MM (Option Value)} {as : sy_AE} (ha : sy_OA μ sk pc p1 as) (hc : sy_OK μ sk p1 c) : sy_OR μ sk pc (p1 + 3) (sy_rM c as) := by
  intro X F n env st k hs hk
  unfold sy_rM
  rw [sy_bnd_bnd]
  refine ha X F n env st _ hs (fun vs => ?_)
  rw [sy_bnd_bnd]
  refine hc X F n env st vs _ hs (fun r => ?_)
  unfold sy_toR
  split
  · exact hk _
  · exact sy_vac (fun _ => rfl)
theorem ol_call {c : List Value → sy_MM (Option Value)} {as : sy_AE} (ha : sy_OA μ sk pc p1 as) (hc : sy_OK μ sk p1 c) : sy_OL μ sk pc (p1 + 3) (sy_lM c as) := by
  intro X F n env st k hs hk
  unfold sy_lM
  rw [sy_bnd_bnd]
  refine ha X F n env st _ hs (fun vs => ?_)
  rw [sy_bnd_bnd]
  refine hc X F n env st vs _ hs (fun r => ?_)
  unfold sy_toL
  split
  · exact hk _
  · exact sy_vac (fun _ => rfl)
abbrev sy_iMax := sy_iB (fun x y => if x < y then y else x)
theorem oi_max {ix : Nat} {a b : sy_IE} (ha : sy_OI μ sk pc p1 a) (hb : sy_OI μ (sk + 1) p1 p2 b) (d : decode μ.2.1 p2 = .ok (.invokestatic ix, 3)) (hw : ∀ w ∈ [Cond.methodLink μ.1 ix Lib.Math.max.name, .static Lib.Math.max.name, .initialized "java/lang/Math", .code Lib.Math.max.name Lib.Math.max.code 2 (some .int)], w ∈ sy_AL) (h1 : 1 ≤ μ.2.2.2.1) (h8 : sk ≤ 8) : sy_OI μ sk pc (p2 + 3) (sy_iMax a b) := by
  intro X F n env st k hs hk
  have hfr := F.fr
  have hce := F.ce
  unfold sy_iMax sy_iB
  rw [sy_bnd_bnd]
  refine ha X F n env st _ hs (fun x => ?_)
  rw [sy_bnd_bnd]
  refine hb X F n env (.int x :: st) _ (sy_s1 hs) (fun y => ?_)
  rw [sy_bnd_ret]
  exact fun σ hn hf H locs ls hP hS hE => va_mmax F.e F.c hE.1.symm F.o (F.w _ (hw _ (by simp))) (F.w _ (hw _ (by simp))) (F.w _ (hw _ (by simp))) (F.w _ (hw _ (by simp))) (by omega) (by rw [sy_sh_sum]; have : sy_sum st ≤ sk := hs; simp only [sy_sum] at this; omega) (by omega) (by omega) d (hk _ σ hn hf H locs ls hP hS hE)
-- statements
def sy_sN : sy_S := fun env k => k env
theorem os_skip : sy_OS μ pc pc sy_sN := fun X F n env k hk => hk env
def sy_sQ (a b : sy_S) : sy_S := fun env k => a env (fun env' => b env' k)
theorem os_seq {a b : sy_S} (ha : sy_OS μ pc p1 a) (hb : sy_OS μ p1 pc' b) : sy_OS μ pc pc' (sy_sQ a b) := fun X F n env k hk => ha X F n env _ (fun env' => hb X F n env' k hk)
def sy_sB (m : Nat) (s : sy_S) : sy_S := fun env k => s env (fun env' => k (env'.take m))
theorem os_block {m : Nat} {s : sy_S} (h : sy_OS μ pc pc' s) : sy_OS μ pc pc' (sy_sB m s) := fun X F n env k hk => h X F n env _ (fun env' => sy_take (hk _))
theorem os_goto {s : sy_S} {off : Int} {tgt : Nat} (h : sy_OS μ pc p1 s) (d : decode μ.2.1 p1 = .ok (.goto off, 3)) (ht : (p1 : Int) + off = (tgt : Int)) : sy_OS μ pc tgt s := fun X F n env k hk => h X F n env k (fun env' => sy_goto F d ht (hk env'))
def sy_sI (c : sy_CE) (a b : sy_S) : sy_S := fun env k => sy_bnd (c env) fun x => if x then a env k else b env k
theorem os_if {c : sy_CE} {a b : sy_S} (hc : sy_OC μ 0 pc p1 p2 c) (ha : sy_OS μ p1 pc' a) (hb : sy_OS μ p2 pc' b) : sy_OS μ pc pc' (sy_sI c a b) := by
  intro X F n env k hk
  unfold sy_sI
  refine hc X F n env [] _ (Nat.le_refl _) (fun x => ?_)
  cases x
  · simpa using hb X F n env k hk
  · simpa using ha X F n env k hk
def sy_wh (c : sy_CE) (s : sy_S) : Nat → sy_S
  | 0 => fun _ _ => sy_fail
  | m + 1 => fun env k => sy_bnd (c env) fun x => if x then s env (fun env' => sy_wh c s m env' k) else k env
theorem os_while {c : sy_CE} {s : sy_S} {m : Nat} (hc : sy_OC μ 0 pc p1 p2 c) (hs : sy_OS μ p1 pc s) : sy_OS μ pc p2 (sy_wh c s m) := by
  induction m with
  | zero => exact fun X F n env k hk => sy_vac (fun _ => rfl)
  | succ m ih =>
    intro X F n env k hk
    unfold sy_wh
    refine hc X F n env [] _ (Nat.le_refl _) (fun x => ?_)
    cases x
    · simpa using hk env
    · simpa using hs X F n env _ (fun env' => ih X F n env' k hk)
def sy_sSI (i : Nat) (e : sy_IE) : sy_S := fun env k => sy_bnd (e env) fun x => k (sy_set env i (.int x))
def sy_sSR (i : Nat) (e : sy_RE) : sy_S := fun env k => sy_bnd (e env) fun x => k (sy_set env i (.ref x))
def sy_sSL (i : Nat) (e : sy_LE) : sy_S := fun env k => sy_bnd (e env) fun x => k (sy_set (sy_set env (i + 1) .null) i (.long x))
theorem os_istore_n {q : Fin 4} {i : Nat} {e : sy_IE} (h : sy_OI μ 0 pc p1 e) (d : decode μ.2.1 p1 = .ok (.istore_n q, 1)) (hq : (q : Nat) = i) (hi : i < μ.2.2.2.2.1) : sy_OS μ pc (p1 + 1) (sy_sSI i e) := by
  subst hq
  exact fun X F n env k hk => h X F n env [] _ (Nat.le_refl _) (fun x => sy_istore_n F d hi (hk _))
theorem os_istore {i : Nat} {e : sy_IE} (h : sy_OI μ 0 pc p1 e) (d : decode μ.2.1 p1 = .ok (.istore i, 2)) (hi : i < μ.2.2.2.2.1) : sy_OS μ pc (p1 + 2) (sy_sSI i e) := fun X F n env k hk => h X F n env [] _ (Nat.le_refl _) (fun x => sy_istore F d hi (hk _))
theorem os_astore_n {q : Fin 4} {i : Nat} {e : sy_RE} (h : sy_OR μ 0 pc p1 e) (d : decode μ.2.1 p1 = .ok (.astore_n q, 1)) (hq : (q : Nat) = i) (hi : i < μ.2.2.2.2.1) : sy_OS μ pc (p1 + 1) (sy_sSR i e) := by
  subst hq
  exact fun X F n env k hk => h X F n env [] _ (Nat.le_refl _) (fun x => sy_astore_n F d hi (hk _))
theorem os_astore {i : Nat} {e : sy_RE} (h : sy_OR μ 0 pc p1 e) (d : decode μ.2.1 p1 = .ok (.astore i, 2)) (hi : i < μ.2.2.2.2.1) : sy_OS μ pc (p1 + 2) (sy_sSR i e) := fun X F n env k hk => h X F n env [] _ (Nat.le_refl _) (fun x => sy_astore F d hi (hk _))
theorem os_lstore_n {q : Fin 4} {i : Nat} {e : sy_LE} (h : sy_OL μ 0 pc p1 e) (d : decode μ.2.1 p1 = .ok (.lstore_n q, 1)) (hq : (q : Nat) = i) (hi : i + 1 < μ.2.2.2.2.1) : sy_OS μ pc (p1 + 1) (sy_sSL i e) := by
  subst hq
  exact fun X F n env k hk => h X F n env [] _ (Nat.le_refl _) (fun x => sy_lstore_n F d hi (hk _))
theorem os_lstore {i : Nat} {e : sy_LE} (h : sy_OL μ 0 pc p1 e) (d : decode μ.2.1 p1 = .ok (.lstore i, 2)) (hi : i + 1 < μ.2.2.2.2.1) : sy_OS μ pc (p1 + 2) (sy_sSL i e) := fun X F n env k hk => h X F n env [] _ (Nat.le_refl _) (fun x => sy_lstore F d hi (hk _))
def sy_sIn (i : Nat) (z : Int32) : sy_S := fun env k => match env[i]? with | some (.int x) => k (sy_set env i (.int (x + z))) | _ => sy_fail
theorem os_iinc {i : Nat} {z : Int} {v : Int32} (d : decode μ.2.1 pc = .ok (.iinc i z, 3)) (hv : Int32.ofInt z = v) (hi : i < μ.2.2.2.2.1) : sy_OS μ pc (pc + 3) (sy_sIn i v) := by
  intro X F n env k hk
  unfold sy_sIn
  split
  · rename_i x h
    exact sy_iinc F d h (by rw [hv]) hi (hk _)
  · exact sy_vac (fun _ => rfl)
def sy_sP (ci k : Nat) (r : sy_RE) (e : sy_IE) : sy_S := fun env kk => sy_bnd (r env) fun a => sy_bnd (e env) fun x => sy_bnd (sy_mP ci k a x) fun _ => kk env
theorem sy_mP_B {X : sy_Cx} {n : Nat} {env st : List Value} {kk : sy_MM (Option Value)} (F : sy_FX X μ) {ix ci k a : Nat} {x : Int32} {ty : FieldType} (hf : sy_fP μ.1 ix ci k ty) (d : decode μ.2.1 pc = .ok (.putfield ix, 3)) (hnr : narrow ty (.int x) = .int x) (hft : fits ty (.int x) = true) (hk : sy_B X n (pc + 3) env st kk) : sy_B X n pc env (.int x :: .ref a :: st) (sy_bnd (sy_mP ci k a x) fun _ => kk) := by
  by_cases h : sy_isI ci k a = true
  · obtain ⟨fs, hl, hkk⟩ := sy_isI_of h
    unfold sy_mP
    rw [sy_bnd_ift h]
    exact sy_put F hf d hl hkk hnr hft hk
  · exact sy_vac (sy_bnd_iff h)
theorem os_put {ix ci k : Nat} {r : sy_RE} {e : sy_IE} (hr : sy_OR μ 0 pc p1 r) (he : sy_OI μ 1 p1 p2 e) (hf : sy_fP μ.1 ix ci k .int) (d : decode μ.2.1 p2 = .ok (.putfield ix, 3)) : sy_OS μ pc (p2 + 3) (sy_sP ci k r e) := by
  intro X F n env kk hk
  unfold sy_sP
  refine hr X F n env [] _ (Nat.le_refl _) (fun a => ?_)
  refine he X F n env _ _ (sy_sR (Nat.le_refl _)) (fun x => ?_)
  exact sy_mP_B F hf d (vp_nar_int x) rfl (hk env)
def sy_sPZ (ci k : Nat) (r : sy_RE) (e : sy_IE) : sy_S := fun env kk => sy_bnd (r env) fun a => sy_bnd (e env) fun x => sy_bnd (sy_01 x) fun x => sy_bnd (sy_mP ci k a x) fun _ => kk env
theorem sy_01_B {X : sy_Cx} {n : Nat} {env st : List Value} {x : Int32} {f : Int32 → sy_MM (Option Value)} (h : (x = 0 ∨ x = 1) → sy_B X n pc env st (f x)) : sy_B X n pc env st (sy_bnd (sy_01 x) f) := by
  unfold sy_01
  by_cases hx : x = 0 ∨ x = 1
  · rw [if_pos hx]; exact h hx
  · rw [if_neg hx]; exact sy_vac (fun _ => rfl)
theorem os_putZ {ix ci k : Nat} {r : sy_RE} {e : sy_IE} (hr : sy_OR μ 0 pc p1 r) (he : sy_OI μ 1 p1 p2 e) (hf : sy_fP μ.1 ix ci k .boolean) (d : decode μ.2.1 p2 = .ok (.putfield ix, 3)) : sy_OS μ pc (p2 + 3) (sy_sPZ ci k r e) := by
  intro X F n env kk hk
  unfold sy_sPZ
  refine hr X F n env [] _ (Nat.le_refl _) (fun a => ?_)
  refine he X F n env _ _ (sy_sR (Nat.le_refl _)) (fun x => ?_)
  refine sy_01_B (fun hx => ?_)
  exact sy_mP_B F hf d (by rcases hx with rfl | rfl <;> rfl) (by rcases hx with rfl | rfl <;> rfl) (hk env)
def sy_sW (r : sy_RE) (i e : sy_IE) : sy_S := fun env kk => sy_bnd (r env) fun a => sy_bnd (i env) fun x => sy_bnd (e env) fun v => sy_bnd (sy_mW 0 a x v) fun _ => kk env
theorem sy_mW_B {X : sy_Cx} {n : Nat} {env st : List Value} {kk : sy_MM (Option Value)} (F : sy_FX X μ) {a : Nat} {x v : Int32} (d : decode μ.2.1 pc = .ok (.iastore, 1)) (hk : sy_B X n (pc + 1) env st kk) : sy_B X n pc env (.int v :: .int x :: .ref a :: st) (sy_bnd (sy_mW 0 a x v) fun _ => kk) := by
  by_cases h : sy_inb x (sy_len 0 a) = true
  · obtain ⟨h1, h2⟩ := sy_inb_of h
    unfold sy_mW
    rw [sy_bnd_ift h]
    exact sy_iast F d (sy_len_of h2) h1 hk
  · exact sy_vac (sy_bnd_iff h)
theorem os_iast {r : sy_RE} {i e : sy_IE} (hr : sy_OR μ 0 pc p1 r) (hi : sy_OI μ 1 p1 p2 i) (he : sy_OI μ 2 p2 p3 e) (d : decode μ.2.1 p3 = .ok (.iastore, 1)) : sy_OS μ pc (p3 + 1) (sy_sW r i e) := by
  intro X F n env kk hk
  unfold sy_sW
  refine hr X F n env [] _ (Nat.le_refl _) (fun a => ?_)
  refine hi X F n env _ _ (sy_sR (Nat.le_refl _)) (fun x => ?_)
  refine he X F n env _ _ (sy_s1 (sy_sR (Nat.le_refl _))) (fun v => ?_)
  exact sy_mW_B F d (hk env)
def sy_sWZ (r : sy_RE) (i e : sy_IE) : sy_S := fun env kk => sy_bnd (r env) fun a => sy_bnd (i env) fun x => sy_bnd (e env) fun v => sy_bnd (sy_01 v) fun v => sy_bnd (sy_mW 1 a x v) fun _ => kk env
theorem os_zast {r : sy_RE} {i e : sy_IE} (hr : sy_OR μ 0 pc p1 r) (hi : sy_OI μ 1 p1 p2 i) (he : sy_OI μ 2 p2 p3 e) (d : decode μ.2.1 p3 = .ok (.bastore, 1)) : sy_OS μ pc (p3 + 1) (sy_sWZ r i e) := by
  intro X F n env kk hk
  unfold sy_sWZ
  refine hr X F n env [] _ (Nat.le_refl _) (fun a => ?_)
  refine hi X F n env _ _ (sy_sR (Nat.le_refl _)) (fun x => ?_)
  refine he X F n env _ _ (sy_s1 (sy_sR (Nat.le_refl _))) (fun v => ?_)
  refine sy_01_B (fun hx => ?_)
  by_cases h : sy_inb x (sy_len 1 a) = true
  · obtain ⟨h1, h2⟩ := sy_inb_of h
    unfold sy_mW
    rw [sy_bnd_ift h]
    exact sy_zast F d (sy_len_of h2) h1 hx (hk env)
  · exact sy_vac (sy_bnd_iff h)
/-- a[i] += e -/
def sy_sA (r : sy_RE) (i e : sy_IE) : sy_S := fun env kk => sy_bnd (r env) fun a => sy_bnd (i env) fun x => sy_bnd (sy_mA 0 a x) fun v => sy_bnd (e env) fun w => sy_bnd (sy_mW 0 a x (v + w)) fun _ => kk env
theorem os_aop {r : sy_RE} {i e : sy_IE} (hr : sy_OR μ 0 pc p1 r) (hi : sy_OI μ 1 p1 p2 i) (d0 : decode μ.2.1 p2 = .ok (.dup2, 1)) (d1 : decode μ.2.1 (p2 + 1) = .ok (.iaload, 1)) (he : sy_OI μ 3 (p2 + 2) p3 e) (d2 : decode μ.2.1 p3 = .ok (.iadd, 1)) (d3 : decode μ.2.1 (p3 + 1) = .ok (.iastore, 1)) : sy_OS μ pc (p3 + 2) (sy_sA r i e) := by
  intro X F n env kk hk
  unfold sy_sA
  refine hr X F n env [] _ (Nat.le_refl _) (fun a => ?_)
  refine hi X F n env _ _ (sy_sR (Nat.le_refl _)) (fun x => ?_)
  by_cases h : sy_inb x (sy_len 0 a) = true
  · obtain ⟨h1, h2⟩ := sy_inb_of h
    refine sy_dup2 F d0 rfl rfl ?_
    rw [show sy_mA 0 a x = (fun σ => if sy_inb x (sy_len 0 a) then some (.inl (σ a x.toNatClampNeg), σ) else none) from rfl, sy_bnd_ift h]
    refine sy_iald (f := fun v => sy_bnd (e env) fun w => sy_bnd (sy_mW 0 a x (v + w)) fun _ => kk env) F d1 (sy_len_of h2) h1 (fun v => ?_)
    refine he X F n env _ _ (sy_s1 (sy_s1 (sy_sR (Nat.le_refl _)))) (fun w => ?_)
    refine sy_iadd F d2 ?_
    exact sy_mW_B F d3 (hk env)
  · refine sy_vac (fun σ => ?_)
    rw [show sy_mA 0 a x = (fun σ => if sy_inb x (sy_len 0 a) then some (.inl (σ a x.toNatClampNeg), σ) else none) from rfl]
    exact sy_bnd_iff h σ
/-- r.f += e, or -= -/
def sy_sF (f : Int32 → Int32 → Int32) (ci k : Nat) (r : sy_RE) (e : sy_IE) : sy_S := fun env kk => sy_bnd (r env) fun a => sy_bnd (sy_mG ci k a) fun v => sy_bnd (e env) fun w => sy_bnd (sy_mP ci k a (f v w)) fun _ => kk env
theorem os_fop {f : Int32 → Int32 → Int32} {ix ci k : Nat} {r : sy_RE} {e : sy_IE} (hr : sy_OR μ 0 pc p1 r) (d0 : decode μ.2.1 p1 = .ok (.dup, 1)) (hf : sy_fI μ.1 ix ci k) (d1 : decode μ.2.1 (p1 + 1) = .ok (.getfield ix, 3)) (he : sy_OI μ 2 (p1 + 4) p2 e) (hop : ∀ X : sy_Cx, sy_FX X μ → ∀ (n : Nat) (env st : List Value) (x y : Int32) (g : sy_MM (Option Value)), sy_B X n p3 env (.int (f x y) :: st) g → sy_B X n p2 env (.int y :: .int x :: st) g) (hp : sy_fP μ.1 ix ci k .int) (d3 : decode μ.2.1 p3 = .ok (.putfield ix, 3)) : sy_OS μ pc (p3 + 3) (sy_sF f ci k r e) := by
  intro X F n env kk hk
  unfold sy_sF
  refine hr X F n env [] _ (Nat.le_refl _) (fun a => ?_)
  by_cases h : sy_isI ci k a = true
  · obtain ⟨fs, hl, hkk⟩ := sy_isI_of h
    refine sy_dup F d0 rfl ?_
    rw [show sy_mG ci k a = (fun σ => if sy_isI ci k a then some (.inl (σ a k), σ) else none) from rfl, sy_bnd_ift h]
    refine sy_get (f := fun v => sy_bnd (e env) fun w => sy_bnd (sy_mP ci k a (f v w)) fun _ => kk env) F hf d1 hl hkk (fun v => ?_)
    refine he X F n env _ _ (sy_s1 (sy_sR (Nat.le_refl _))) (fun w => ?_)
    refine hop X F n env _ v w _ ?_
    exact sy_mP_B F hp d3 (vp_nar_int _) rfl (hk env)
  · refine sy_vac (fun σ => ?_)
    rw [show sy_mG ci k a = (fun σ => if sy_isI ci k a then some (.inl (σ a k), σ) else none) from rfl]
    exact sy_bnd_iff h σ
theorem os_fadd {ix ci k : Nat} {r : sy_RE} {e : sy_IE} (hr : sy_OR μ 0 pc p1 r) (d0 : decode μ.2.1 p1 = .ok (.dup, 1)) (hf : sy_fI μ.1 ix ci k) (d1 : decode μ.2.1 (p1 + 1) = .ok (.getfield ix, 3)) (he : sy_OI μ 2 (p1 + 4) p2 e) (d2 : decode μ.2.1 p2 = .ok (.iadd, 1)) (hp : sy_fP μ.1 ix ci k .int) (d3 : decode μ.2.1 (p2 + 1) = .ok (.putfield ix, 3)) : sy_OS μ pc (p2 + 4) (sy_sF (fun x y => x + y) ci k r e) := os_fop hr d0 hf d1 he (fun _ F _ _ _ _ _ _ h => sy_iadd F d2 h) hp d3
theorem os_fsub {ix ci k : Nat} {r : sy_RE} {e : sy_IE} (hr : sy_OR μ 0 pc p1 r) (d0 : decode μ.2.1 p1 = .ok (.dup, 1)) (hf : sy_fI μ.1 ix ci k) (d1 : decode μ.2.1 (p1 + 1) = .ok (.getfield ix, 3)) (he : sy_OI μ 2 (p1 + 4) p2 e) (d2 : decode μ.2.1 p2 = .ok (.isub, 1)) (hp : sy_fP μ.1 ix ci k .int) (d3 : decode μ.2.1 (p2 + 1) = .ok (.putfield ix, 3)) : sy_OS μ pc (p2 + 4) (sy_sF (fun x y => x - y) ci k r e) := os_fop hr d0 hf d1 he (fun _ F _ _ _ _ _ _ h => sy_isub F d2 h) hp d3
def sy_sC (c : List Value → sy_MM (Option Value)) (as : sy_AE) : sy_S := fun env k => sy_bnd (as env) fun vs => sy_bnd (c vs) fun r => match r with | none => k env | _ => sy_fail
theorem os_call {c : List Value → sy_MM (Option Value)} {as : sy_AE} (ha : sy_OA μ 0 pc p1 as) (hc : sy_OK μ 0 p1 c) : sy_OS μ pc (p1 + 3) (sy_sC c as) := by
  intro X F n env k hk
  unfold sy_sC
  refine ha X F n env [] _ (Nat.le_refl _) (fun vs => ?_)
  refine hc X F n env [] vs _ (Nat.le_refl _) (fun r => ?_)
  cases r with
  | none => exact hk env
  | some v => exact sy_vac (fun _ => rfl)
def sy_sE (e : sy_IE) : sy_S := fun env k => sy_bnd (e env) fun _ => k env
theorem os_pop {e : sy_IE} (h : sy_OI μ 0 pc p1 e) (d : decode μ.2.1 p1 = .ok (.pop, 1)) : sy_OS μ pc (p1 + 1) (sy_sE e) := fun X F n env k hk => h X F n env [] _ (Nat.le_refl _) (fun x => sy_pop F d rfl (hk env))
-- the ends
def sy_eI (e : sy_IE) : sy_S := fun env _ => sy_bnd (e env) fun x => sy_ret (some (.int x))
def sy_eZ (e : sy_IE) : sy_S := fun env _ => sy_bnd (e env) fun x => sy_bnd (sy_01 x) fun x => sy_ret (some (.int x))
def sy_eL (e : sy_LE) : sy_S := fun env _ => sy_bnd (e env) fun x => sy_ret (some (.long x))
def sy_eR (e : sy_RE) : sy_S := fun env _ => sy_bnd (e env) fun x => sy_ret (some (.ref x))
def sy_eV : sy_S := fun _ _ => sy_ret none
def sy_eT (E : Nat) : sy_S := fun _ _ => fun σ => some (.inr E, σ)
theorem os_retI {e : sy_IE} (h : sy_OI μ 0 pc p1 e) (d : decode μ.2.1 p1 = .ok (.ireturn, 1)) (hr : μ.2.2.1 = some .int) : sy_OS μ pc pc' (sy_eI e) := fun X F n env k hk => h X F n env [] _ (Nat.le_refl _) (fun x => sy_retB F (some (.int x)) ⟨d, Or.inl hr⟩)
theorem os_retZ {e : sy_IE} (h : sy_OI μ 0 pc p1 e) (d : decode μ.2.1 p1 = .ok (.ireturn, 1)) (hr : μ.2.2.1 = some .boolean) : sy_OS μ pc pc' (sy_eZ e) := fun X F n env k hk => h X F n env [] _ (Nat.le_refl _) (fun x => sy_01_B (fun hx => sy_retB F (some (.int x)) ⟨d, Or.inr ⟨hr, hx⟩⟩))
theorem os_retL {e : sy_LE} (h : sy_OL μ 0 pc p1 e) (d : decode μ.2.1 p1 = .ok (.lreturn, 1)) (hr : μ.2.2.1 = some .long) : sy_OS μ pc pc' (sy_eL e) := fun X F n env k hk => h X F n env [] _ (Nat.le_refl _) (fun x => sy_retB F (some (.long x)) ⟨d, hr⟩)
theorem os_retR {e : sy_RE} {C : String} (h : sy_OR μ 0 pc p1 e) (d : decode μ.2.1 p1 = .ok (.areturn, 1)) (hr : μ.2.2.1 = some (.object C)) : sy_OS μ pc pc' (sy_eR e) := fun X F n env k hk => h X F n env [] _ (Nat.le_refl _) (fun x => sy_retB F (some (.ref x)) ⟨d, Or.inl ⟨C, hr⟩⟩)
theorem os_retV (d : decode μ.2.1 pc = .ok (.return_, 1)) (hr : μ.2.2.1 = none) : sy_OS μ pc pc' sy_eV := fun X F n env k hk => sy_retB F none ⟨hr, d⟩
theorem os_thr {E ik is ic : Nat} (h0 : μ.1 = "SegmentYard") (h6 : 6 ≤ μ.2.2.2.1) (h : sy_thw μ.2.1 pc E ik is ic) : sy_OS μ pc pc' (sy_eT E) := fun X F n env k hk => sy_thrB F h0 h6 h
-- a switch
def sy_tgt (dflt lo hi : Int) (offs : Array Int) (x : Int32) : Int := if x.toInt < lo ∨ hi < x.toInt then dflt else (offs[(x.toInt - lo).toNat]?).getD 0
def sy_sX (e : sy_IE) (f : Int32 → sy_S) : sy_S := fun env k => sy_bnd (e env) fun x => f x env k
theorem os_switch {e : sy_IE} {f : Int32 → sy_S} {dflt lo hi : Int} {offs : Array Int} {len : Nat} (h : sy_OI μ 0 pc p1 e) (d : decode μ.2.1 p1 = .ok (.tableswitch dflt lo hi offs, len)) (hz : offs.size = (hi - lo + 1).toNat) (hf : ∀ x : Int32, ∃ t : Nat, (p1 : Int) + sy_tgt dflt lo hi offs x = (t : Int) ∧ sy_OS μ t pc' (f x)) : sy_OS μ pc pc' (sy_sX e f) := by
  intro X F n env k hk
  refine h X F n env [] _ (Nat.le_refl _) (fun x => ?_)
  obtain ⟨t, ht, ho⟩ := hf x
  have hk' := ho X F n env k hk
  unfold sy_tgt at ht
  by_cases hx : x.toInt < lo ∨ hi < x.toInt
  · rw [if_pos hx] at ht
    exact fun σ hn hf H locs ls hP hS hE => lv_tableOut F.e F.c d hx ht (hk' σ hn hf H locs ls hP hS hE)
  · rw [if_neg hx] at ht
    have hlt : (x.toInt - lo).toNat < offs.size := by rw [hz]; omega
    rw [Array.getElem?_eq_getElem hlt, Option.getD_some] at ht
    exact fun σ hn hf H locs ls hP hS hE => lv_tableIn F.e F.c d (fun q => hx (Or.inl q)) (fun q => hx (Or.inr q)) (Array.getElem?_eq_getElem hlt) ht (hk' σ hn hf H locs ls hP hS hE)
def sy_bd (s : sy_S) : List Value → sy_MM (Option Value) := fun vs => s vs (fun _ => sy_fail)
theorem sy_km {y : MethodName} {cc : ByteArray} {nL h m : Nat} {ret : Option FieldType} {s : sy_S} (hy : plainName y.cls = true) (hm : m ≤ nL) (body : sy_OS (y.cls, cc, ret, h, nL, none) 0 pc' s) : sy_KM y cc nL ret h (sy_mth m (sy_bd s)) :=
  sy_meth hy hm (fun X F vs => body X F 0 vs _ (fun env' => sy_vac (fun _ => rfl)))
end SYG
