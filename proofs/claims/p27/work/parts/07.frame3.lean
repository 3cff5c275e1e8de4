section SYC
def sy_fI (own : String) (ix ci k : Nat) : Prop := ∃ (C : String) (T : u_T) (N : Nat), vwCl[ci]? = some (C, T, N) ∧ k < N ∧ (∀ w ∈ u_ws C T N, w ∈ sy_AL) ∧ Cond.fieldLink own ix (T k).1 (T k).2.1 (T k).2.2.1 ∈ sy_AL
def sy_fP (own : String) (ix ci k : Nat) (ty : FieldType) : Prop := ∃ (C : String) (T : u_T) (N : Nat) (ty0 : Nat → FieldType), vwCl[ci]? = some (C, T, N) ∧ k < N ∧ (∀ w ∈ u_ws C T N, w ∈ sy_AL) ∧ Cond.fieldLink own ix (T k).1 (T k).2.1 (T k).2.2.1 ∈ sy_AL ∧
  (∀ k, k < N → parseFieldDescriptor (T k).2.2.1 = some (ty0 k)) ∧ (∀ a, a < N → ∀ b, b < N → a ≠ b → (T a).2.1 ≠ (T b).2.1) ∧ (T k).2.2.2 = false ∧ parseFieldDescriptor (T k).2.2.1 = some ty
def sy_g (b : sy_Bs) (σ : sy_Mem) (a : Nat) : Nat → Option Nat → Value := fun i f => match f with | some j => Value.ref (sy_ad b j) | none => Value.int (σ a i)
theorem sy_wd_o {b : sy_Bs} {cA : Nat → ClassId} {σ : sy_Mem} {a ci : Nat} {fs : List (Option Nat)} (hl : sy_lay a = .inl (ci, fs)) : (sy_wd b cA σ)[a]? = some (sy_ad b a, .inr (ci, fs.mapIdx (sy_g b σ a))) := by
  rw [sy_wd_at (sy_lay_lt hl)]
  simp only [sy_cell, hl]
  rfl
theorem sy_wd_os {b : sy_Bs} {cA : Nat → ClassId} {σ : sy_Mem} {a ci k : Nat} {x : Int32} {fs : List (Option Nat)} (hl : sy_lay a = .inl (ci, fs)) (hk : fs[k]? = some none) : (sy_wd b cA σ).set a (sy_ad b a, .inr (ci, (fs.mapIdx (sy_g b σ a)).set k (.int x))) = sy_wd b cA (sy_up σ a k x) := by
  refine sy_wd_set (sy_lay_lt hl) ?_ (fun j hj => by simp [sy_up, hj])
  simp only [sy_cell, hl]
  congr 2
  apply List.ext_getElem?
  intro i
  rw [List.getElem?_mapIdx]
  by_cases h : i = k
  · subst h
    have hi : i < fs.length := (List.getElem?_eq_some_iff.mp hk).1
    rw [List.getElem?_set_self (by simpa using hi), hk]
    simp [sy_up, upd]
  · rw [List.getElem?_set_ne (fun q => h q.symm), List.getElem?_mapIdx]
    cases hf : fs[i]? with
    | none => rfl
    | some o => cases o <;> simp [sy_g, sy_up, upd, h]
theorem sy_wd_a {b : sy_Bs} {cA : Nat → ClassId} {σ : sy_Mem} {a kd len : Nat} (hl : sy_lay a = .inr (kd, len)) (hk : kd < 9) : (sy_wd b cA σ)[a]? = some (sy_ad b a, sy_cell b cA σ a) := sy_wd_at (sy_lay_ltA hl hk)
section SYC1
variable {X : sy_Cx} {μ : sy_Mu} {n pc : Nat} {env st : List Value}
theorem sy_get (F : sy_FX X μ) {ix ci k a : Nat} {fs : List (Option Nat)} (hf : sy_fI μ.1 ix ci k) (d : decode μ.2.1 pc = .ok (.getfield ix, 3)) (hl : sy_lay a = .inl (ci, fs)) (hk : fs[k]? = some none) {f : Int32 → sy_MM (Option Value)} (kk : ∀ v, sy_B X n (pc + 3) env (.int v :: st) (f v)) :
    sy_B X n pc env (.ref a :: st) (fun σ => f (σ a k) σ) := by
  obtain ⟨C, T, N, hc, hkN, hin, hw⟩ := hf
  intro σ hn hf H locs ls hP hS hE
  exact va_get F.e F.c F.w hin F.o F.k hP.1 a (sy_wd_o hl) hc k hkN (F.w _ hw) (fun _ h => h) (v := .int (σ a k)) (by simp [hk, sy_g]) d (kk _ σ hn hf H locs ls hP hS hE)
theorem sy_getR (F : sy_FX X μ) {ix ci k a j : Nat} {fs : List (Option Nat)} (hf : sy_fI μ.1 ix ci k) (d : decode μ.2.1 pc = .ok (.getfield ix, 3)) (hl : sy_lay a = .inl (ci, fs)) (hk : fs[k]? = some (some j)) {f : sy_MM (Option Value)} (kk : sy_B X n (pc + 3) env (.ref j :: st) f) :
    sy_B X n pc env (.ref a :: st) f := by
  obtain ⟨C, T, N, hc, hkN, hin, hw⟩ := hf
  intro σ hn hf H locs ls hP hS hE
  exact va_get F.e F.c F.w hin F.o F.k hP.1 a (sy_wd_o hl) hc k hkN (F.w _ hw) (fun _ h => h) (v := .ref (sy_ad (sy_xb X) j)) (by simp [hk, sy_g]) d (kk σ hn hf H locs ls hP hS hE)
theorem sy_put (F : sy_FX X μ) {ix ci k a : Nat} {x : Int32} {ty : FieldType} {fs : List (Option Nat)} (hf : sy_fP μ.1 ix ci k ty) (d : decode μ.2.1 pc = .ok (.putfield ix, 3)) (hl : sy_lay a = .inl (ci, fs)) (hk : fs[k]? = some none) (hnr : narrow ty (.int x) = .int x) (hft : fits ty (.int x) = true) {f : sy_MM (Option Value)} (kk : sy_B X n (pc + 3) env st f) :
    sy_B X n pc env (.int x :: .ref a :: st) (fun σ => f (sy_up σ a k x)) := by
  obtain ⟨C, T, N, ty0, hc, hkN, hin, hw, hty, hnm, hfin, hd⟩ := hf
  intro σ hn hf H locs ls hP hS hE
  refine va_put F.e F.c F.w hin ty0 hty hnm F.o F.k hP.1 hP.2 hS a (sy_wd_o hl) hc k hkN (F.w _ hw) (fun _ h => h) hfin hd hnr hft (by simpa using (List.getElem?_eq_some_iff.mp hk).1) d (fun H1 locs1 hP1 hD1 hS1 => ?_)
  exact kk _ hn hf H1 locs1 ls (by have e := sy_wd_os (b := sy_xb X) (cA := sy_xA X) (σ := σ) (x := x) hl hk; exact ⟨by show va_P _ _ (sy_wd _ _ _) _; rw [← e]; exact hP1, by show va_D _ (sy_wd _ _ _); rw [← e]; exact hD1⟩) hS1 hE
theorem sy_iald (F : sy_FX X μ) {a len : Nat} {x : Int32} (d : decode μ.2.1 pc = .ok (.iaload, 1)) (hl : sy_lay a = .inr (0, len)) (hin : vp_in x len) {f : Int32 → sy_MM (Option Value)} (kk : ∀ v, sy_B X n (pc + 1) env (.int v :: st) (f v)) :
    sy_B X n pc env (.int x :: .ref a :: st) (fun σ => f (σ a x.toNatClampNeg) σ) := by
  intro σ hn hf H locs ls hP hS hE
  have h : (sy_wd (sy_xb X) (sy_xA X) σ)[a]? = some (sy_ad (sy_xb X) a, .inl (sy_xA X 0, len, .inl (σ a))) := by rw [sy_wd_a hl (by omega)]; simp only [sy_cell, hl]
  exact va_iald F.e F.c F.k hP.1 a 0 h rfl hin d (kk _ σ hn hf H locs ls hP hS hE)
theorem sy_zald (F : sy_FX X μ) {a len : Nat} {x : Int32} (d : decode μ.2.1 pc = .ok (.baload, 1)) (hl : sy_lay a = .inr (1, len)) (hin : vp_in x len) {f : Int32 → sy_MM (Option Value)} (kk : ∀ v, sy_B X n (pc + 1) env (.int v :: st) (f v)) :
    sy_B X n pc env (.int x :: .ref a :: st) (fun σ => f (σ a x.toNatClampNeg) σ) := by
  intro σ hn hf H locs ls hP hS hE
  have h : (sy_wd (sy_xb X) (sy_xA X) σ)[a]? = some (sy_ad (sy_xb X) a, .inl (sy_xA X 1, len, .inl (σ a))) := by rw [sy_wd_a hl (by omega)]; simp only [sy_cell, hl]
  exact va_zald F.e F.c F.k hP.1 a 1 h rfl hin d (kk _ σ hn hf H locs ls hP hS hE)
theorem sy_aald (F : sy_FX X μ) {a len : Nat} {x : Int32} (d : decode μ.2.1 pc = .ok (.aaload, 1)) (hl : sy_lay a = .inr (2, len)) (hin : vp_in x len) {f : sy_MM (Option Value)} (kk : sy_B X n (pc + 1) env (.ref (sy_vw x.toNatClampNeg) :: st) f) :
    sy_B X n pc env (.int x :: .ref a :: st) f := by
  intro σ hn hf H locs ls hP hS hE
  have h : (sy_wd (sy_xb X) (sy_xA X) σ)[a]? = some (sy_ad (sy_xb X) a, .inl (sy_xA X 2, len, .inr (.inr (.inr (.inr (fun i => some ((sy_xb X).1 + sy_vw i))))))) := by rw [sy_wd_a hl (by omega)]; simp only [sy_cell, hl]
  have hlt : x.toNatClampNeg < 4 := by
    have h4 : len = 4 := by
      unfold sy_lay at hl
      split at hl <;> first | (cases hl; rfl) | (cases hl)
    subst h4
    exact Nat.not_le.mp fun q => hin (Or.inr q)
  have e : sy_ad (sy_xb X) (sy_vw x.toNatClampNeg) = (sy_xb X).1 + sy_vw x.toNatClampNeg := sy_ad_lt (by unfold sy_vw sy_N; omega)
  have K := kk σ hn hf H locs ls hP hS hE
  simp only [List.map_cons, sy_sh, e] at K
  exact va_aldq F.e F.c F.k hP.1 a 2 h rfl hin d K
theorem sy_lald (F : sy_FX X μ) {a len : Nat} {x : Int32} (d : decode μ.2.1 pc = .ok (.laload, 1)) (hl : sy_lay a = .inr (3, len)) (hin : vp_in x len) {f : Int64 → sy_MM (Option Value)} (kk : ∀ v, sy_B X n (pc + 1) env (.long v :: st) (f v)) :
    sy_B X n pc env (.int x :: .ref a :: st) (fun σ => f (sy_jn (σ a (2 * x.toNatClampNeg)) (σ a (2 * x.toNatClampNeg + 1))) σ) := by
  intro σ hn hf H locs ls hP hS hE
  have h : (sy_wd (sy_xb X) (sy_xA X) σ)[a]? = some (sy_ad (sy_xb X) a, .inl (sy_xA X 3, len, .inr (.inl (fun j => sy_jn (σ a (2 * j)) (σ a (2 * j + 1)))))) := by rw [sy_wd_a hl (by omega)]; simp only [sy_cell, hl]
  exact va_lald F.e F.c F.k hP.1 a 3 h rfl hin d (kk _ σ hn hf H locs ls hP hS hE)
theorem sy_alen (F : sy_FX X μ) {a kd len : Nat} (d : decode μ.2.1 pc = .ok (.arraylength, 1)) (hl : sy_lay a = .inr (kd, len)) (hk : kd < 4) {f : sy_MM (Option Value)} (kk : sy_B X n (pc + 1) env (.int (Int32.ofNat len) :: st) f) : sy_B X n pc env (.ref a :: st) f := by
  intro σ hn hf H locs ls hP hS hE
  have hw := sy_wd_a (b := sy_xb X) (cA := sy_xA X) (σ := σ) hl (by omega)
  rcases (show kd = 0 ∨ kd = 1 ∨ kd = 2 ∨ kd = 3 by omega) with rfl | rfl | rfl | rfl
  · exact va_alen (x := (len, .inl (σ a))) F.e F.c F.k hP.1 a 0 (by rw [hw]; simp only [sy_cell, hl]) (ty := .int) rfl rfl d (kk σ hn hf H locs ls hP hS hE)
  · exact va_alen (x := (len, .inl (σ a))) F.e F.c F.k hP.1 a 1 (by rw [hw]; simp only [sy_cell, hl]) (ty := .boolean) rfl rfl d (kk σ hn hf H locs ls hP hS hE)
  · exact va_alen (x := (len, .inr (.inr (.inr (.inr (fun i => some ((sy_xb X).1 + sy_vw i))))))) F.e F.c F.k hP.1 a 2 (by rw [hw]; simp only [sy_cell, hl]) (ty := .object "SegmentYard$View") rfl rfl d (kk σ hn hf H locs ls hP hS hE)
  · exact va_alen (x := (len, .inr (.inl (fun j => sy_jn (σ a (2 * j)) (σ a (2 * j + 1)))))) F.e F.c F.k hP.1 a 3 (by rw [hw]; simp only [sy_cell, hl]) (ty := .long) rfl rfl d (kk σ hn hf H locs ls hP hS hE)
theorem sy_iast (F : sy_FX X μ) {a len : Nat} {x v : Int32} (d : decode μ.2.1 pc = .ok (.iastore, 1)) (hl : sy_lay a = .inr (0, len)) (hin : vp_in x len) {f : sy_MM (Option Value)} (kk : sy_B X n (pc + 1) env st f) :
    sy_B X n pc env (.int v :: .int x :: .ref a :: st) (fun σ => f (sy_up σ a x.toNatClampNeg v)) := by
  intro σ hn hf H locs ls hP hS hE
  have h : (sy_wd (sy_xb X) (sy_xA X) σ)[a]? = some (sy_ad (sy_xb X) a, .inl (sy_xA X 0, len, .inl (σ a))) := by rw [sy_wd_a hl (by omega)]; simp only [sy_cell, hl]
  refine va_iast F.e F.c F.k hP.1 hP.2 hS a 0 h rfl hin d (fun H1 locs1 hP1 hD1 hS1 => ?_)
  rw [sy_wd_set (sy_lay_ltA hl (by omega)) (τ := sy_up σ a x.toNatClampNeg v) (by simp only [sy_cell, hl]; simp [sy_up]) (fun j hj => by simp [sy_up, hj])] at hP1 hD1
  exact kk _ hn hf H1 locs1 ls ⟨hP1, hD1⟩ hS1 hE
theorem sy_zast (F : sy_FX X μ) {a len : Nat} {x v : Int32} (d : decode μ.2.1 pc = .ok (.bastore, 1)) (hl : sy_lay a = .inr (1, len)) (hin : vp_in x len) (hv : v = 0 ∨ v = 1) {f : sy_MM (Option Value)} (kk : sy_B X n (pc + 1) env st f) :
    sy_B X n pc env (.int v :: .int x :: .ref a :: st) (fun σ => f (sy_up σ a x.toNatClampNeg v)) := by
  intro σ hn hf H locs ls hP hS hE
  have h : (sy_wd (sy_xb X) (sy_xA X) σ)[a]? = some (sy_ad (sy_xb X) a, .inl (sy_xA X 1, len, .inl (σ a))) := by rw [sy_wd_a hl (by omega)]; simp only [sy_cell, hl]
  have hv2 : vp_nar .boolean v = v := by rcases hv with rfl | rfl <;> rfl
  refine va_zast F.e F.c F.k hP.1 hP.2 hS a 1 h rfl hin d (fun H1 locs1 hP1 hD1 hS1 => ?_)
  rw [hv2, sy_wd_set (sy_lay_ltA hl (by omega)) (τ := sy_up σ a x.toNatClampNeg v) (by simp only [sy_cell, hl]; simp [sy_up]) (fun j hj => by simp [sy_up, hj])] at hP1 hD1
  exact kk _ hn hf H1 locs1 ls ⟨hP1, hD1⟩ hS1 hE
def sy_upL (σ : sy_Mem) (a j : Nat) (v : Int64) : sy_Mem := sy_up (sy_up σ a (2 * j) (sy_hi v)) a (2 * j + 1) (sy_lo v)
theorem sy_last (F : sy_FX X μ) {a len : Nat} {x : Int32} {v : Int64} (d : decode μ.2.1 pc = .ok (.lastore, 1)) (hl : sy_lay a = .inr (3, len)) (hin : vp_in x len) {f : sy_MM (Option Value)} (kk : sy_B X n (pc + 1) env st f) :
    sy_B X n pc env (.long v :: .int x :: .ref a :: st) (fun σ => f (sy_upL σ a x.toNatClampNeg v)) := by
  intro σ hn hf H locs ls hP hS hE
  have h : (sy_wd (sy_xb X) (sy_xA X) σ)[a]? = some (sy_ad (sy_xb X) a, .inl (sy_xA X 3, len, .inr (.inl (fun j => sy_jn (σ a (2 * j)) (σ a (2 * j + 1)))))) := by rw [sy_wd_a hl (by omega)]; simp only [sy_cell, hl]
  refine va_last F.e F.c F.k hP.1 hP.2 hS a 3 h rfl hin d (fun H1 locs1 hP1 hD1 hS1 => ?_)
  refine kk _ hn hf H1 locs1 ls ?_ hS1 hE
  have he := sy_wd_set (b := sy_xb X) (cA := sy_xA X) (σ := σ) (sy_lay_ltA hl (by omega)) (τ := sy_upL σ a x.toNatClampNeg v) (e := .inl (sy_xA X 3, len, .inr (.inl (vp_updL (fun j => sy_jn (σ a (2 * j)) (σ a (2 * j + 1))) x.toNatClampNeg v)))) ?_ (fun j hj => by simp [sy_upL, sy_up, hj])
  · rw [he] at hP1 hD1
    exact ⟨hP1, hD1⟩
  · simp only [sy_cell, hl]
    congr 4
    congr 1
    funext j
    by_cases hj : j = x.toNatClampNeg
    · subst hj
      simp [vp_updL, sy_upL, sy_up, upd, sy_jn_hl]
    · have e1 : ¬ 2 * j = 2 * x.toNatClampNeg := by omega
      have e2 : ¬ 2 * j = 2 * x.toNatClampNeg + 1 := by omega
      have e3 : ¬ 2 * j + 1 = 2 * x.toNatClampNeg := by omega
      have e4 : ¬ 2 * j + 1 = 2 * x.toNatClampNeg + 1 := by omega
      simp [vp_updL, hj, sy_upL, sy_up, upd, e1, e2, e3, e4]
/-- the end of a body -/
theorem sy_retB (F : sy_FX X μ) (v : Option Value) (hr : sy_rok μ pc v) : sy_B X n pc env v.toList (sy_ret v) := by
  intro σ hn hf H locs ls hP hS hE
  have hg : sy_xg X = (.inl v, σ) := (Option.some.inj hf).symm
  have h := F.re v σ hg n H locs ls pc hn hP hS hr
  cases v <;> exact h
theorem sy_thrB (F : sy_FX X μ) (h0 : μ.1 = "SegmentYard") (h6 : 6 ≤ μ.2.2.2.1) {E ik is ic : Nat} (h : sy_thw μ.2.1 pc E ik is ic) : sy_B X n pc env [] (fun σ => some (.inr E, σ)) := by
  intro σ hn hf H locs ls hP hS hE
  exact F.th h0 h6 E σ (Option.some.inj hf).symm n H locs ls pc ik is ic hn hP hS hE.1 h
end SYC1
end SYC
section SYD
theorem sy_vxmono {l : Launch} {y : MethodName} {ws : List Cond} {rm : Room} {Pc : Array Value → State → Prop} {Qc : Array Value → State → Outcome → State → Prop} {XC : String → State → State → Prop} {mc ms : Nat} {free : Addr → Prop} (h : vx_Met l y ws rm Pc Qc XC mc ms free) (hx : ∀ E s t, ¬ XC E s t) : Met l y ws rm Pc Qc mc ms free := by
  intro p e h1 h2 h3 s m args below h4 h5 h6 h7
  obtain ⟨n, o, a1, a2, a3, a4⟩ := h p e h1 h2 h3 s m args below h4 h5 h6 h7
  refine ⟨n, o, a1, a2, a3, ?_⟩
  rcases a4 with a4 | ⟨q, -, E, ce, L, b1, -⟩
  · exact a4
  · exact absurd b1 (hx _ _ _)
theorem sy_T1.same {b : Nat} {u U : State} {H : Heap} (h : sy_T1 b u H) (hv : u.vm = U.vm) : sy_T1 b U H := by
  have hA : u.vm.Alike U.vm := by rw [hv]; exact Vm.Alike.refl _
  refine ⟨⟨h.1.1.moved hA, h.1.2.moved hA⟩, fun w hw => va_Nw.same ?_ hv (h.2.1 w hw), fun k hk => ?_⟩
  · revert w; decide
  · obtain ⟨a, ha⟩ := h.2.2 k hk
    exact ⟨a, vk_R.same hv.symm ha⟩
theorem sy_T1.warm {b : Nat} {s U : State} {H H1 : Heap} (h : sy_T1 b s H) (hW : s.WarmedH U.vm) (hq : ∀ a : Nat, a < H.size → ¬ sy_ab b a → H1[a]? = H[a]?) : sy_T1 b U H1 := by
  refine ⟨⟨(h.1.1.moved hW.alike).kept hq, (h.1.2.moved hW.alike).kept hq⟩, fun w hw => ?_, fun k hk => ?_⟩
  · have h1 := h.2.1 w hw
    simp only [sy_EX, List.mem_cons, List.not_mem_nil, or_false] at hw
    rcases hw with rfl | rfl | rfl | rfl | rfl | rfl | rfl | rfl | rfl | rfl <;> first | exact va_Nw.warmC hW h1 | exact va_Nw.warmD hW h1 | exact va_Nw.warmM hW h1
  · obtain ⟨a, ha⟩ := h.2.2 k hk
    exact ⟨a, vk_R.warm hW ha⟩
theorem sy_blind (D : va_G) (cA : Nat → ClassId) (b : sy_Bs) (σ : sy_Mem) (av : List Value) : FrameBlind (va_Pc av (sy_PW D cA b σ)) := by
  intro a U g mk h
  obtain ⟨h0, h1, h2, h3⟩ := h
  exact ⟨h0, h1, va_K.moved (u := U) (U := U.calling g mk a) (Vm.Alike.refl U.vm) h2, h3.same (U := U.calling g mk a) rfl⟩
def sy_cV (own : String) (ix ci : Nat) (y : MethodName) (cy : ByteArray) (nLy : Nat) (rety : Option FieldType) (m : Nat) : Prop :=
  (∀ w ∈ [Cond.methodLink own ix y, .instanceMethod y, .selects y.cls y y, .initialized y.cls, .code y cy nLy rety], w ∈ sy_AL) ∧ (y.cls ≠ "java/lang/invoke/MethodHandle" ∧ y.cls ≠ "java/lang/invoke/VarHandle" ∧ (parseMethodDescriptor y.desc).map (fun d => d.parameters.length) = some m) ∧ nLy ≤ 23 ∧ ∃ (T : u_T) (N : Nat), vwCl[ci]? = some (y.cls, T, N)
def sy_cS (own : String) (ix : Nat) (y : MethodName) (cy : ByteArray) (nLy : Nat) (rety : Option FieldType) (m : Nat) : Prop :=
  (∀ w ∈ [Cond.methodLink own ix y, .static y, .initialized y.cls, .code y cy nLy rety], w ∈ sy_AL) ∧ (y.cls ≠ "java/lang/invoke/MethodHandle" ∧ y.cls ≠ "java/lang/invoke/VarHandle" ∧ (parseMethodDescriptor y.desc).map (fun d => d.parameters.length) = some m) ∧ nLy ≤ 23
variable {X : sy_Cx} {μ : sy_Mu} {n pc : Nat} {env st : List Value}
theorem sy_calledPW (F : sy_FX X μ) {σ : sy_Mem} {H : Heap} {locs : List Loc} (hP : sy_P X σ H) (hS : sy_Z X H locs) : ∀ U : State, U.heap = H → (sy_xs X).WarmedH U.vm → sy_PW (sy_xD X) (sy_xA X) (sy_xb X) σ U := fun U hU hW => ⟨by rw [hU]; exact hP, va_K.moved hW.alike F.k, F.t.warm hW (fun a h1 h2 => by rw [hU]; exact hS.2.1 a h1 h2)⟩
def sy_go (G : sy_Rs × sy_Mem) (kk : Option Value → sy_MM (Option Value)) (r : sy_Rs) (τ : sy_Mem) : Prop := match r with | .inl v => kk v τ = some G | .inr E => G = (.inr E, τ)
/-- a call that has run: it goes on, or it goes out -/
theorem sy_ran (F : sy_FX X μ) {r : sy_Rs} {τ : sy_Mem} {kk : Option Value → sy_MM (Option Value)} (k : ∀ r, sy_B X n (pc + 3) env (r.toList ++ st) (kk r)) (hn : n ≤ sy_xn X)
    (hr : sy_go (sy_xg X) kk r τ) {H : Heap} {locs : List Loc} {ls : Array Slot} {st0 : List Value} {Qa : State → Outcome → State → Prop}
    (hQ : ∀ st oc t, Qa st oc t → (∃ v, r = .inl v ∧ oc = .returned (v.map (sy_sh (sy_xb X))) ∧ sy_P X τ t.heap) ∧ va_F (sy_ab (sy_xb X).1) st t) (hS : sy_Z X H locs) (hE : sy_eok (sy_xb X) ls (sy_xc X).maxLocals env)
    (hrun : vx_Run (sy_xp X) (sy_xl X) (sy_xe X) (sy_xR X) (sy_xs X) (sy_xm X) (sy_xa X) (sy_xo X) (sy_xM X) (sy_xc X) H locs n (6 * n) (sy_mc r) (6 * sy_mc r) (F0 (sy_xm X) pc ls st0) (st.map (sy_sh (sy_xb X))) Qa (sy_XC (sy_xD X) (sy_xA X) (sy_xb X) r τ) (sy_ab (sy_xb X).1)) :
    sy_W X n H locs (F0 (sy_xm X) pc ls st0) := by
  intro T hT XS
  rcases hrun T hT XS with ⟨v, st₀, t, T', L, h0, X', hL, e1, e2, hq, sg⟩ | ⟨q, st₀, t, T', L, E, ce, h0, X', hL, e1, e2, ⟨⟨kx, hk1, hk2, hP'⟩, hF⟩, hce, hcv, hcl, sg⟩
  · obtain ⟨⟨w, hw, hoc, hP'⟩, hF⟩ := hQ _ _ _ hq
    subst hw
    cases hoc
    obtain ⟨-, -, k3⟩ := vx_keep h0 e1 hS (A1 := sy_ab (sy_xb X).1) (fun _ _ h => h) (fun _ h => h) hL hF
    obtain ⟨t2, a1, b1⟩ := k w τ hn hr T'.heap (locs ++ L) ls (by rw [e1]; exact hP') k3 hE T' rfl X'
    refine ⟨t2, sg t2 ?_, b1⟩
    rw [List.map_append, show w.toList.map (sy_sh (sy_xb X)) = (w.map (sy_sh (sy_xb X))).toList by cases w <;> rfl] at a1
    exact a1
  · subst hk1
    obtain ⟨-, -, k3⟩ := vx_keep h0 e1 hS (A1 := sy_ab (sy_xb X).1) (fun _ _ h => h) (fun _ h => h) hL hF
    subst hk2
    obtain ⟨t2, a1, b1⟩ := F.ou kx τ hr n T'.heap (locs ++ L) ls pc (st.map (sy_sh (sy_xb X))) q ce hn (by rw [e1]; exact hP') k3 (by rw [e1]; exact hce) hcv hcl T' rfl X'
    exact ⟨t2, sg.trans a1, b1⟩
theorem sy_room (F : sy_FX X μ) {r : sy_Rs} {τ : sy_Mem} {kk : Option Value → sy_MM (Option Value)} (hn : n ≤ sy_xn X) (hr : sy_go (sy_xg X) kk r τ) : n + sy_mc r ≤ (sy_xR X).cells ∧ 6 * n + 6 * sy_mc r ≤ (sy_xR X).slots := by
  cases r with
  | inl v =>
    have := F.ce
    simp only [sy_mc]
    omega
  | inr E =>
    have := F.cx ⟨E, τ, hr⟩
    simp only [sy_mc]
    omega
theorem sy_hr {g : sy_MM (Option Value)} {kk : Option Value → sy_MM (Option Value)} {σ : sy_Mem} {G : sy_Rs × sy_Mem} (h : sy_bnd g kk σ = some G) : ∃ (r : sy_Rs) (τ : sy_Mem), g σ = some (r, τ) ∧ sy_go G kk r τ := by
  unfold sy_bnd at h
  cases hg : g σ with
  | none => rw [hg] at h; cases h
  | some o =>
    obtain ⟨r, τ⟩ := o
    rw [hg] at h
    cases r with
    | inl v => exact ⟨.inl v, τ, rfl, h⟩
    | inr E => exact ⟨.inr E, τ, rfl, (Option.some.inj h).symm⟩
theorem sy_goodIn {own : String} {L ws : List Cond} (h : ∀ w ∈ L, w ∈ sy_AL) : GoodIn sy_AL L := fun w hw => sy_good (h w hw)
theorem sy_invV (F : sy_FX X μ) {y : MethodName} {cy : ByteArray} {nLy hy m ix ci a : Nat} {rety : Option FieldType} {g : List Value → sy_MM (Option Value)} {fs : List (Option Nat)} {vs : List Value} (hM : sy_KM y cy nLy rety hy g) (hc : sy_cV μ.1 ix ci y cy nLy rety m) (hh : hy + 1 ≤ μ.2.2.2.1)
    (d : decode μ.2.1 pc = .ok (.invokevirtual ix, 3)) (hl : sy_lay a = .inl (ci, fs)) (hm : vs.length = m) (hs : (st.map fun v => v.category).sum ≤ 8) {kk : Option Value → sy_MM (Option Value)} (k : ∀ r, sy_B X n (pc + 3) env (r.toList ++ st) (kk r)) :
    sy_B X n pc env (vs.reverse ++ .ref a :: st) (sy_bnd (g (.ref a :: vs)) kk) := by
  intro σ hn hf H locs ls hP hS hE
  obtain ⟨r, τ, hg, hr⟩ := sy_hr hf
  obtain ⟨hw, hd, h23, T, N, hci⟩ := hc
  have hKM := hM (sy_xl X) (sy_xD X) (sy_xA X) (sy_xb X) (.ref a :: vs) σ r τ F.tr hg
  have hG : GoodIn sy_AL (wsV μ.1 ix y.cls y (Cond.code y cy nLy rety :: sy_AL)) := fun w h => sy_good (by
    simp only [wsV, List.mem_append, List.mem_cons, List.not_mem_nil, or_false] at h
    rcases h with (h | h | h | h) | h | h
    · exact hw w (by simp [h])
    · exact hw w (by simp [h])
    · exact hw w (by simp [h])
    · exact hw w (by simp [h])
    · exact hw w (by simp [h])
    · exact h)
  have hfr := F.fr
  refine sy_ran F k hn hr (fun _ _ _ h => h) hS hE (vx_runV (As := vs.map (sy_sh (sy_xb X))) (b := sy_ad (sy_xb X) a) (C := y.cls) ⟨F.e, F.c, rfl, F.o, F.w⟩ hKM (cwV m F.w hG rfl rfl rfl ⟨rfl, hd⟩ ⟨?_, ?_⟩) ⟨sy_blind _ _ _ _ _, va_recv F.k hP.1 hci (sy_wd_o hl), fun U hU hW => ⟨rfl, sy_calledPW F hP hS U hU hW⟩⟩ rfl (by simpa using hm) hE.1 (by simp [F0, sy_sh]) (lv_room (by rw [sy_sh_sum]; exact hs)) d (sy_room F hn hr))
  · show hy + 1 ≤ _; omega
  · show 8 + (nLy + 11) + 42 * hy ≤ _; omega
theorem sy_invS (F : sy_FX X μ) {y : MethodName} {cy : ByteArray} {nLy hy m ix : Nat} {rety : Option FieldType} {g : List Value → sy_MM (Option Value)} {vs : List Value} (hM : sy_KM y cy nLy rety hy g) (hc : sy_cS μ.1 ix y cy nLy rety m) (hy1 : y.cls = μ.1) (hh : hy + 1 ≤ μ.2.2.2.1)
    (d : decode μ.2.1 pc = .ok (.invokestatic ix, 3)) (hm : vs.length = m) (hs : (st.map fun v => v.category).sum ≤ 8) {kk : Option Value → sy_MM (Option Value)} (k : ∀ r, sy_B X n (pc + 3) env (r.toList ++ st) (kk r)) :
    sy_B X n pc env (vs.reverse ++ st) (sy_bnd (g vs) kk) := by
  intro σ hn hf H locs ls hP hS hE
  obtain ⟨r, τ, hg, hr⟩ := sy_hr hf
  obtain ⟨hw, hd, h23⟩ := hc
  have hKM := hM (sy_xl X) (sy_xD X) (sy_xA X) (sy_xb X) vs σ r τ F.tr hg
  have hG : GoodIn sy_AL (wsS μ.1 ix y (Cond.code y cy nLy rety :: sy_AL)) := fun w h => sy_good (by
    simp only [wsS, List.mem_append, List.mem_cons, List.not_mem_nil, or_false] at h
    rw [← hy1] at h
    rcases h with (h | h | h) | h | h
    · exact hw w (by rw [← hy1]; simp [h])
    · exact hw w (by simp [h])
    · exact hw w (by simp [h])
    · exact hw w (by simp [h])
    · exact h)
  have hfr := F.fr
  refine sy_ran F k hn hr (fun _ _ _ h => h) hS hE (vx_runS (As := vs.map (sy_sh (sy_xb X))) ⟨F.e, F.c, rfl, F.o, F.w⟩ hKM (cwS m F.w hG rfl rfl rfl ⟨hy1, hd⟩ ⟨?_, ?_⟩) ⟨sy_blind _ _ _ _ _, fun U hU hW => ⟨rfl, sy_calledPW F hP hS U hU hW⟩⟩ rfl (by simpa using hm) hE.1 (by simp [F0]) (lv_room (by rw [sy_sh_sum]; exact hs)) d (sy_room F hn hr))
  · show hy + 1 ≤ _; omega
  · show 8 + (nLy + 11) + 42 * hy ≤ _; omega
end SYD
