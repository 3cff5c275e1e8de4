section SYF
abbrev sy_IE : Type := List Value → sy_MM Int32
abbrev sy_RE : Type := List Value → sy_MM Nat
abbrev sy_LE : Type := List Value → sy_MM Int64
abbrev sy_CE : Type := List Value → sy_MM Bool
abbrev sy_AE : Type := List Value → sy_MM (List Value)
abbrev sy_S : Type := List Value → (List Value → sy_MM (Option Value)) → sy_MM (Option Value)
abbrev sy_sum (st : List Value) : Nat := (st.map fun v => v.category).sum
def sy_OI (μ : sy_Mu) (sk pc pc' : Nat) (e : sy_IE) : Prop := ∀ X : sy_Cx, sy_FX X μ → ∀ (n : Nat) (env st : List Value) (k : Int32 → sy_MM (Option Value)), sy_sum st ≤ sk → (∀ v, sy_B X n pc' env (.int v :: st) (k v)) → sy_B X n pc env st (sy_bnd (e env) k)
def sy_OR (μ : sy_Mu) (sk pc pc' : Nat) (e : sy_RE) : Prop := ∀ X : sy_Cx, sy_FX X μ → ∀ (n : Nat) (env st : List Value) (k : Nat → sy_MM (Option Value)), sy_sum st ≤ sk → (∀ v, sy_B X n pc' env (.ref v :: st) (k v)) → sy_B X n pc env st (sy_bnd (e env) k)
def sy_OL (μ : sy_Mu) (sk pc pc' : Nat) (e : sy_LE) : Prop := ∀ X : sy_Cx, sy_FX X μ → ∀ (n : Nat) (env st : List Value) (k : Int64 → sy_MM (Option Value)), sy_sum st ≤ sk → (∀ v, sy_B X n pc' env (.long v :: st) (k v)) → sy_B X n pc env st (sy_bnd (e env) k)
def sy_OC (μ : sy_Mu) (sk pc pT pF : Nat) (e : sy_CE) : Prop := ∀ X : sy_Cx, sy_FX X μ → ∀ (n : Nat) (env st : List Value) (k : Bool → sy_MM (Option Value)), sy_sum st ≤ sk → (∀ b : Bool, sy_B X n (if b then pT else pF) env st (k b)) → sy_B X n pc env st (sy_bnd (e env) k)
def sy_OA (μ : sy_Mu) (sk pc pc' : Nat) (e : sy_AE) : Prop := ∀ X : sy_Cx, sy_FX X μ → ∀ (n : Nat) (env st : List Value) (k : List Value → sy_MM (Option Value)), sy_sum st ≤ sk → (∀ vs, sy_B X n pc' env (vs.reverse ++ st) (k vs)) → sy_B X n pc env st (sy_bnd (e env) k)
def sy_OK (μ : sy_Mu) (sk pc : Nat) (c : List Value → sy_MM (Option Value)) : Prop := ∀ X : sy_Cx, sy_FX X μ → ∀ (n : Nat) (env st vs : List Value) (k : Option Value → sy_MM (Option Value)), sy_sum st ≤ sk → (∀ r, sy_B X n (pc + 3) env (r.toList ++ st) (k r)) → sy_B X n pc env (vs.reverse ++ st) (sy_bnd (c vs) k)
def sy_OS (μ : sy_Mu) (pc pc' : Nat) (s : sy_S) : Prop := ∀ X : sy_Cx, sy_FX X μ → ∀ (n : Nat) (env : List Value) (k : List Value → sy_MM (Option Value)), (∀ env', sy_B X n pc' env' [] (k env')) → sy_B X n pc env [] (s env k)
section SYF1
variable {μ : sy_Mu} {sk pc pc' p1 p2 p3 : Nat}
theorem sy_s1 {st : List Value} {x : Int32} (h : sy_sum st ≤ sk) : sy_sum (.int x :: st) ≤ sk + 1 := by show 1 + sy_sum st ≤ sk + 1; omega
theorem sy_sR {st : List Value} {x : Nat} (h : sy_sum st ≤ sk) : sy_sum (.ref x :: st) ≤ sk + 1 := by show 1 + sy_sum st ≤ sk + 1; omega
theorem sy_sL {st : List Value} {x : Int64} (h : sy_sum st ≤ sk) : sy_sum (.long x :: st) ≤ sk + 2 := by show 2 + sy_sum st ≤ sk + 2; omega
-- ints
def sy_iK (v : Int32) : sy_IE := fun _ => sy_ret v
def sy_iL (i : Nat) : sy_IE := fun env => match env[i]? with | some (.int x) => sy_ret x | _ => sy_fail
def sy_rL (i : Nat) : sy_RE := fun env => match env[i]? with | some (.ref x) => sy_ret x | _ => sy_fail
def sy_lL (i : Nat) : sy_LE := fun env => match env[i]? with | some (.long x) => sy_ret x | _ => sy_fail
theorem oi_const {z : Int} {v : Int32} (d : decode μ.2.1 pc = .ok (.iconst z, 1)) (hv : Int32.ofInt z = v) : sy_OI μ sk pc (pc + 1) (sy_iK v) := fun X F n env st k hs hk => sy_iconst F d hv (hk v)
theorem oi_bipush {z : Int} {v : Int32} (d : decode μ.2.1 pc = .ok (.bipush z, 2)) (hv : (Int8.ofInt z).toInt32 = v) : sy_OI μ sk pc (pc + 2) (sy_iK v) := fun X F n env st k hs hk => sy_bipush F d hv (hk v)
theorem oi_sipush {z : Int} {v : Int32} (d : decode μ.2.1 pc = .ok (.sipush z, 3)) (hv : (Int16.ofInt z).toInt32 = v) : sy_OI μ sk pc (pc + 3) (sy_iK v) := fun X F n env st k hs hk => sy_sipush F d hv (hk v)

theorem oi_load_n {q : Fin 4} {i : Nat} (d : decode μ.2.1 pc = .ok (.iload_n q, 1)) (hi : (q : Nat) = i) : sy_OI μ sk pc (pc + 1) (sy_iL i) := by
  subst hi
  intro X F n env st k hs hk
  unfold sy_iL
  split
  · rename_i x h
    exact sy_iload_n F d h (hk x)
  · exact sy_vac (fun _ => rfl)
theorem oi_load {i : Nat} (d : decode μ.2.1 pc = .ok (.iload i, 2)) : sy_OI μ sk pc (pc + 2) (sy_iL i) := by
  intro X F n env st k hs hk
  unfold sy_iL
  split
  · rename_i x h
    exact sy_iload F d h (hk x)
  · exact sy_vac (fun _ => rfl)
theorem oa_load_n {q : Fin 4} {i : Nat} (d : decode μ.2.1 pc = .ok (.aload_n q, 1)) (hi : (q : Nat) = i) : sy_OR μ sk pc (pc + 1) (sy_rL i) := by
  subst hi
  intro X F n env st k hs hk
  unfold sy_rL
  split
  · rename_i x h
    exact sy_aload_n F d h (hk x)
  · exact sy_vac (fun _ => rfl)
theorem oa_load {i : Nat} (d : decode μ.2.1 pc = .ok (.aload i, 2)) : sy_OR μ sk pc (pc + 2) (sy_rL i) := by
  intro X F n env st k hs hk
  unfold sy_rL
  split
  · rename_i x h
    exact sy_aload F d h (hk x)
  · exact sy_vac (fun _ => rfl)
theorem ol_load_n {q : Fin 4} {i : Nat} (d : decode μ.2.1 pc = .ok (.lload_n q, 1)) (hi : (q : Nat) = i) : sy_OL μ sk pc (pc + 1) (sy_lL i) := by
  subst hi
  intro X F n env st k hs hk
  unfold sy_lL
  split
  · rename_i x h
    exact sy_lload_n F d h (hk x)
  · exact sy_vac (fun _ => rfl)
theorem ol_load {i : Nat} (d : decode μ.2.1 pc = .ok (.lload i, 2)) : sy_OL μ sk pc (pc + 2) (sy_lL i) := by
  intro X F n env st k hs hk
  unfold sy_lL
  split
  · rename_i x h
    exact sy_lload F d h (hk x)
  · exact sy_vac (fun _ => rfl)
def sy_iB (f : Int32 → Int32 → Int32) (a b : sy_IE) : sy_IE := fun env => sy_bnd (a env) fun x => sy_bnd (b env) fun y => sy_ret (f x y)
theorem oi_bin {f : Int32 → Int32 → Int32} {a b : sy_IE} (ha : sy_OI μ sk pc p1 a) (hb : sy_OI μ (sk + 1) p1 p2 b) (hf : ∀ X : sy_Cx, sy_FX X μ → ∀ (n : Nat) (env st : List Value) (x y : Int32) (g : sy_MM (Option Value)), sy_B X n pc' env (.int (f x y) :: st) g → sy_B X n p2 env (.int y :: .int x :: st) g) : sy_OI μ sk pc pc' (sy_iB f a b) := by
  intro X F n env st k hs hk
  unfold sy_iB
  rw [sy_bnd_bnd]
  refine ha X F n env st _ hs (fun x => ?_)
  rw [sy_bnd_bnd]
  refine hb X F n env (.int x :: st) _ (sy_s1 hs) (fun y => ?_)
  exact hf X F n env st x y _ (hk (f x y))
abbrev sy_iAdd := sy_iB (fun x y => x + y)
abbrev sy_iSub := sy_iB (fun x y => x - y)
abbrev sy_iMul := sy_iB (fun x y => x * y)
abbrev sy_iAnd := sy_iB (fun x y => x &&& y)
abbrev sy_iShr := sy_iB (fun x y => x >>> (y &&& 31))
theorem sy_ishr {X : sy_Cx} {n : Nat} {env st : List Value} {f : sy_MM (Option Value)} (F : sy_FX X μ) {x y : Int32} (d : decode μ.2.1 pc = .ok (.ishr, 1)) (k : sy_B X n (pc + 1) env (.int (x >>> (y &&& 31)) :: st) f) : sy_B X n pc env (.int y :: .int x :: st) f :=
  fun σ hn hf H locs ls hP hS hE => lv_ishr F.e F.c d (k σ hn hf H locs ls hP hS hE)
theorem oi_iadd {a b : sy_IE} (ha : sy_OI μ sk pc p1 a) (hb : sy_OI μ (sk + 1) p1 p2 b) (d : decode μ.2.1 p2 = .ok (.iadd, 1)) : sy_OI μ sk pc (p2 + 1) (sy_iAdd a b) := oi_bin ha hb (fun _ F _ _ _ _ _ _ h => sy_iadd F d h)
theorem oi_isub {a b : sy_IE} (ha : sy_OI μ sk pc p1 a) (hb : sy_OI μ (sk + 1) p1 p2 b) (d : decode μ.2.1 p2 = .ok (.isub, 1)) : sy_OI μ sk pc (p2 + 1) (sy_iSub a b) := oi_bin ha hb (fun _ F _ _ _ _ _ _ h => sy_isub F d h)
theorem oi_imul {a b : sy_IE} (ha : sy_OI μ sk pc p1 a) (hb : sy_OI μ (sk + 1) p1 p2 b) (d : decode μ.2.1 p2 = .ok (.imul, 1)) : sy_OI μ sk pc (p2 + 1) (sy_iMul a b) := oi_bin ha hb (fun _ F _ _ _ _ _ _ h => sy_imul F d h)
theorem oi_iand {a b : sy_IE} (ha : sy_OI μ sk pc p1 a) (hb : sy_OI μ (sk + 1) p1 p2 b) (d : decode μ.2.1 p2 = .ok (.iand, 1)) : sy_OI μ sk pc (p2 + 1) (sy_iAnd a b) := oi_bin ha hb (fun _ F _ _ _ _ _ _ h => sy_iand F d h)
theorem oi_ishr {a b : sy_IE} (ha : sy_OI μ sk pc p1 a) (hb : sy_OI μ (sk + 1) p1 p2 b) (d : decode μ.2.1 p2 = .ok (.ishr, 1)) : sy_OI μ sk pc (p2 + 1) (sy_iShr a b) := oi_bin ha hb (fun _ F _ _ _ _ _ _ h => sy_ishr F d h)
def sy_iDv (q : Bool) (a b : sy_IE) : sy_IE := fun env => sy_bnd (a env) fun x => sy_bnd (b env) fun y => if y = 0 then sy_fail else sy_ret (if q then x / y else x - x / y * y)
theorem oi_idiv {a b : sy_IE} (ha : sy_OI μ sk pc p1 a) (hb : sy_OI μ (sk + 1) p1 p2 b) (d : decode μ.2.1 p2 = .ok (.idiv, 1)) : sy_OI μ sk pc (p2 + 1) (sy_iDv true a b) := by
  intro X F n env st k hs hk
  unfold sy_iDv
  rw [sy_bnd_bnd]
  refine ha X F n env st _ hs (fun x => ?_)
  rw [sy_bnd_bnd]
  refine hb X F n env (.int x :: st) _ (sy_s1 hs) (fun y => ?_)
  by_cases hy : y = 0
  · rw [if_pos hy]; exact sy_vac (fun _ => rfl)
  · rw [if_neg hy, sy_bnd_ret]
    exact fun σ hn hf H locs ls hP hS hE => lv_idiv F.e F.c d hy (hk _ σ hn hf H locs ls hP hS hE)
theorem oi_irem {a b : sy_IE} (ha : sy_OI μ sk pc p1 a) (hb : sy_OI μ (sk + 1) p1 p2 b) (d : decode μ.2.1 p2 = .ok (.irem, 1)) : sy_OI μ sk pc (p2 + 1) (sy_iDv false a b) := by
  intro X F n env st k hs hk
  unfold sy_iDv
  rw [sy_bnd_bnd]
  refine ha X F n env st _ hs (fun x => ?_)
  rw [sy_bnd_bnd]
  refine hb X F n env (.int x :: st) _ (sy_s1 hs) (fun y => ?_)
  by_cases hy : y = 0
  · rw [if_pos hy]; exact sy_vac (fun _ => rfl)
  · rw [if_neg hy, sy_bnd_ret]
    exact fun σ hn hf H locs ls hP hS hE => lv_irem F.e F.c d hy (hk _ σ hn hf H locs ls hP hS hE)
theorem oi_goto {e : sy_IE} {off : Int} {tgt : Nat} (h : sy_OI μ sk pc p1 e) (d : decode μ.2.1 p1 = .ok (.goto off, 3)) (ht : (p1 : Int) + off = (tgt : Int)) : sy_OI μ sk pc tgt e := fun X F n env st k hs hk => h X F n env st k hs (fun v => sy_goto F d ht (hk v))
-- fields, rows
def sy_isI (ci k a : Nat) : Bool := match sy_lay a with | .inl (c, fs) => c == ci && fs[k]? == some none | _ => false
theorem sy_isI_of {ci k a : Nat} (h : sy_isI ci k a = true) : ∃ fs, sy_lay a = .inl (ci, fs) ∧ fs[k]? = some none := by
  unfold sy_isI at h
  split at h
  · rename_i c fs hl
    simp only [Bool.and_eq_true, beq_iff_eq] at h
    obtain ⟨rfl, h2⟩ := h
    exact ⟨fs, hl, h2⟩
  · cases h
def sy_isF (ci k a : Nat) : Option Nat := match sy_lay a with | .inl (c, fs) => if c = ci then (fs[k]?).join else none | _ => none
theorem sy_isF_of {ci k a j : Nat} (h : sy_isF ci k a = some j) : ∃ fs, sy_lay a = .inl (ci, fs) ∧ fs[k]? = some (some j) := by
  unfold sy_isF at h
  split at h
  · rename_i c fs hl
    split at h
    · rename_i hc
      subst hc
      refine ⟨fs, hl, ?_⟩
      cases hf : fs[k]? with
      | none => rw [hf] at h; cases h
      | some o => rw [hf] at h; simp at h; rw [h]
    · cases h
  · cases h
def sy_len (kd a : Nat) : Nat := match sy_lay a with | .inr (c, m) => if c = kd then m else 0 | _ => 0
theorem sy_len_of {kd a m : Nat} (h : m < sy_len kd a) : sy_lay a = .inr (kd, sy_len kd a) := by
  unfold sy_len at h ⊢
  split at h
  · rename_i c m' hl
    split at h
    · rename_i hc
      subst hc
      simp [hl]
    · exact absurd h (Nat.not_lt_zero _)
  · exact absurd h (Nat.not_lt_zero _)
def sy_inb (x : Int32) (m : Nat) : Bool := decide (0 ≤ x) && decide (x.toNatClampNeg < m)
theorem sy_inb_of {x : Int32} {m : Nat} (h : sy_inb x m = true) : vp_in x m ∧ x.toNatClampNeg < m := by
  unfold sy_inb at h
  simp only [Bool.and_eq_true, decide_eq_true_eq] at h
  refine ⟨?_, h.2⟩
  rintro (q | q)
  · rw [Int32.lt_iff_toInt_lt] at q
    have := Int32.le_iff_toInt_le.mp h.1
    omega
  · omega
def sy_mG (ci k a : Nat) : sy_MM Int32 := fun σ => if sy_isI ci k a then some (.inl (σ a k), σ) else none
def sy_mA (kd a : Nat) (x : Int32) : sy_MM Int32 := fun σ => if sy_inb x (sy_len kd a) then some (.inl (σ a x.toNatClampNeg), σ) else none
def sy_mP (ci k a : Nat) (x : Int32) : sy_MM Unit := fun σ => if sy_isI ci k a then some (.inl (), sy_up σ a k x) else none
def sy_mW (kd a : Nat) (x v : Int32) : sy_MM Unit := fun σ => if sy_inb x (sy_len kd a) then some (.inl (), sy_up σ a x.toNatClampNeg v) else none
def sy_01 (x : Int32) : sy_MM Int32 := if x = 0 ∨ x = 1 then sy_ret x else sy_fail
theorem sy_bnd_ift {α : Type} {c : Bool} {o : sy_Mem → (α ⊕ Nat) × sy_Mem} {k : α → sy_MM (Option Value)} (h : c = true) : sy_bnd (fun σ => if c then some (o σ) else none) k = sy_bnd (fun σ => some (o σ)) k := by
  funext σ; simp only [sy_bnd, h, if_true]
theorem sy_bnd_iff {α : Type} {c : Bool} {o : sy_Mem → (α ⊕ Nat) × sy_Mem} {k : α → sy_MM (Option Value)} (h : ¬ c = true) : ∀ σ, sy_bnd (fun σ => if c then some (o σ) else none) k σ = none := by
  intro σ; simp only [sy_bnd, if_neg h]
def sy_iF (ci k : Nat) (r : sy_RE) : sy_IE := fun env => sy_bnd (r env) fun a => sy_mG ci k a
theorem oi_get {ix ci k : Nat} {r : sy_RE} (hr : sy_OR μ sk pc p1 r) (hf : sy_fI μ.1 ix ci k) (d : decode μ.2.1 p1 = .ok (.getfield ix, 3)) : sy_OI μ sk pc (p1 + 3) (sy_iF ci k r) := by
  intro X F n env st k' hs hk
  unfold sy_iF
  rw [sy_bnd_bnd]
  refine hr X F n env st _ hs (fun a => ?_)
  by_cases h : sy_isI ci k a = true
  · obtain ⟨fs, hl, hkk⟩ := sy_isI_of h
    unfold sy_mG
    rw [sy_bnd_ift h]
    exact sy_get F hf d hl hkk hk
  · exact sy_vac (sy_bnd_iff h)
def sy_rF (ci k : Nat) (r : sy_RE) : sy_RE := fun env => sy_bnd (r env) fun a => match sy_isF ci k a with | some j => sy_ret j | none => sy_fail
theorem or_get {ix ci k : Nat} {r : sy_RE} (hr : sy_OR μ sk pc p1 r) (hf : sy_fI μ.1 ix ci k) (d : decode μ.2.1 p1 = .ok (.getfield ix, 3)) : sy_OR μ sk pc (p1 + 3) (sy_rF ci k r) := by
  intro X F n env st k' hs hk
  unfold sy_rF
  rw [sy_bnd_bnd]
  refine hr X F n env st _ hs (fun a => ?_)
  cases h : sy_isF ci k a with
  | none => exact sy_vac (fun _ => rfl)
  | some j =>
    obtain ⟨fs, hl, hkk⟩ := sy_isF_of h
    exact sy_getR F hf d hl hkk (hk j)
def sy_iA (kd : Nat) (r : sy_RE) (i : sy_IE) : sy_IE := fun env => sy_bnd (r env) fun a => sy_bnd (i env) fun x => sy_mA kd a x
theorem oi_iald {r : sy_RE} {i : sy_IE} (hr : sy_OR μ sk pc p1 r) (hi : sy_OI μ (sk + 1) p1 p2 i) (d : decode μ.2.1 p2 = .ok (.iaload, 1)) : sy_OI μ sk pc (p2 + 1) (sy_iA 0 r i) := by
  intro X F n env st k' hs hk
  unfold sy_iA
  rw [sy_bnd_bnd]
  refine hr X F n env st _ hs (fun a => ?_)
  rw [sy_bnd_bnd]
  refine hi X F n env _ _ (sy_sR hs) (fun x => ?_)
  by_cases h : sy_inb x (sy_len 0 a) = true
  · obtain ⟨h1, h2⟩ := sy_inb_of h
    unfold sy_mA
    rw [sy_bnd_ift h]
    exact sy_iald F d (sy_len_of h2) h1 hk
  · exact sy_vac (sy_bnd_iff h)
theorem oi_zald {r : sy_RE} {i : sy_IE} (hr : sy_OR μ sk pc p1 r) (hi : sy_OI μ (sk + 1) p1 p2 i) (d : decode μ.2.1 p2 = .ok (.baload, 1)) : sy_OI μ sk pc (p2 + 1) (sy_iA 1 r i) := by
  intro X F n env st k' hs hk
  unfold sy_iA
  rw [sy_bnd_bnd]
  refine hr X F n env st _ hs (fun a => ?_)
  rw [sy_bnd_bnd]
  refine hi X F n env _ _ (sy_sR hs) (fun x => ?_)
  by_cases h : sy_inb x (sy_len 1 a) = true
  · obtain ⟨h1, h2⟩ := sy_inb_of h
    unfold sy_mA
    rw [sy_bnd_ift h]
    exact sy_zald F d (sy_len_of h2) h1 hk
  · exact sy_vac (sy_bnd_iff h)
def sy_rV (r : sy_RE) (i : sy_IE) : sy_RE := fun env => sy_bnd (r env) fun a => sy_bnd (i env) fun x => if sy_inb x (sy_len 2 a) then sy_ret (sy_vw x.toNatClampNeg) else sy_fail
theorem or_aald {r : sy_RE} {i : sy_IE} (hr : sy_OR μ sk pc p1 r) (hi : sy_OI μ (sk + 1) p1 p2 i) (d : decode μ.2.1 p2 = .ok (.aaload, 1)) : sy_OR μ sk pc (p2 + 1) (sy_rV r i) := by
  intro X F n env st k' hs hk
  unfold sy_rV
  rw [sy_bnd_bnd]
  refine hr X F n env st _ hs (fun a => ?_)
  rw [sy_bnd_bnd]
  refine hi X F n env _ _ (sy_sR hs) (fun x => ?_)
  by_cases h : sy_inb x (sy_len 2 a) = true
  · obtain ⟨h1, h2⟩ := sy_inb_of h
    rw [if_pos h]
    exact sy_aald F d (sy_len_of h2) h1 (hk _)
  · rw [if_neg h]
    exact sy_vac (fun _ => rfl)
def sy_al (a : Nat) : Option Nat := match sy_lay a with | .inr (c, m) => if c < 4 then some m else none | _ => none
def sy_iN (r : sy_RE) : sy_IE := fun env => sy_bnd (r env) fun a => match sy_al a with | some m => sy_ret (Int32.ofNat m) | none => sy_fail
theorem oi_alen {r : sy_RE} (hr : sy_OR μ sk pc p1 r) (d : decode μ.2.1 p1 = .ok (.arraylength, 1)) : sy_OI μ sk pc (p1 + 1) (sy_iN r) := by
  intro X F n env st k' hs hk
  unfold sy_iN
  rw [sy_bnd_bnd]
  refine hr X F n env st _ hs (fun a => ?_)
  cases h : sy_al a with
  | none => exact sy_vac (fun _ => rfl)
  | some m =>
    unfold sy_al at h
    split at h
    · rename_i c m' hl
      split at h
      · rename_i hc
        cases h
        exact sy_alen F d hl hc (hk _)
      · cases h
    · cases h
-- conditions
def sy_cB (f : Int32 → Int32 → Bool) (a b : sy_IE) : sy_CE := fun env => sy_bnd (a env) fun x => sy_bnd (b env) fun y => sy_ret (f x y)
theorem sy_nlt {x y : Int32} : ¬ x < y ↔ y ≤ x := by rw [Int32.lt_iff_toInt_lt, Int32.le_iff_toInt_le]; omega
theorem sy_nle {x y : Int32} : ¬ x ≤ y ↔ y < x := by rw [Int32.lt_iff_toInt_lt, Int32.le_iff_toInt_le]; omega
abbrev sy_ceq := sy_cB (fun x y => decide (x = y))
abbrev sy_cne := sy_cB (fun x y => !decide (x = y))
abbrev sy_clt := sy_cB (fun x y => decide (x < y))
abbrev sy_cge := sy_cB (fun x y => decide (y ≤ x))
abbrev sy_cgt := sy_cB (fun x y => decide (y < x))
abbrev sy_cle := sy_cB (fun x y => decide (x ≤ y))
theorem oc_eqT {a b : sy_IE} {off : Int} {tgt : Nat} (ha : sy_OI μ sk pc p1 a) (hb : sy_OI μ (sk + 1) p1 p2 b) (d : decode μ.2.1 p2 = .ok (.if_icmp .eq off, 3)) (ht : (p2 : Int) + off = (tgt : Int)) : sy_OC μ sk pc tgt (p2 + 3) (sy_ceq a b) := by
  intro X F n env st k hs hk
  unfold sy_ceq sy_cB
  rw [sy_bnd_bnd]
  refine ha X F n env st _ hs (fun x => ?_)
  rw [sy_bnd_bnd]
  refine hb X F n env (.int x :: st) _ (sy_s1 hs) (fun y => ?_)
  rw [sy_bnd_ret]
  refine fun σ hn hf H locs ls hP hS hE => lv_icmp_eq F.e F.c d ht (fun h => ?_) (fun h => ?_)
  · refine hk true σ hn ?_ H locs ls hP hS hE
    rw [← hf]; congr 1; simp [h]
  · refine hk false σ hn ?_ H locs ls hP hS hE
    rw [← hf]; congr 1; simp [h]
theorem oc_eq0T {a : sy_IE} {off : Int} {tgt : Nat} (ha : sy_OI μ sk pc p1 a) (d : decode μ.2.1 p1 = .ok (.ifCond .eq off, 3)) (ht : (p1 : Int) + off = (tgt : Int)) : sy_OC μ sk pc tgt (p1 + 3) (sy_ceq a (sy_iK 0)) := by
  intro X F n env st k hs hk
  unfold sy_ceq sy_cB sy_iK
  rw [sy_bnd_bnd]
  refine ha X F n env st _ hs (fun x => ?_)
  rw [sy_bnd_ret, sy_bnd_ret]
  refine fun σ hn hf H locs ls hP hS hE => lv_if_eq F.e F.c d ht (fun h => ?_) (fun h => ?_)
  · refine hk true σ hn ?_ H locs ls hP hS hE
    rw [← hf]; congr 1; simp [h]
  · refine hk false σ hn ?_ H locs ls hP hS hE
    rw [← hf]; congr 1; simp [h]
theorem oc_eqF {a b : sy_IE} {off : Int} {tgt : Nat} (ha : sy_OI μ sk pc p1 a) (hb : sy_OI μ (sk + 1) p1 p2 b) (d : decode μ.2.1 p2 = .ok (.if_icmp .ne off, 3)) (ht : (p2 : Int) + off = (tgt : Int)) : sy_OC μ sk pc (p2 + 3) tgt (sy_ceq a b) := by
  intro X F n env st k hs hk
  unfold sy_ceq sy_cB
  rw [sy_bnd_bnd]
  refine ha X F n env st _ hs (fun x => ?_)
  rw [sy_bnd_bnd]
  refine hb X F n env (.int x :: st) _ (sy_s1 hs) (fun y => ?_)
  rw [sy_bnd_ret]
  refine fun σ hn hf H locs ls hP hS hE => lv_icmp_ne F.e F.c d ht (fun h => ?_) (fun h => ?_)
  · refine hk false σ hn ?_ H locs ls hP hS hE
    rw [← hf]; congr 1; simp [h]
  · refine hk true σ hn ?_ H locs ls hP hS hE
    rw [← hf]; congr 1; simp [h]
theorem oc_eq0F {a : sy_IE} {off : Int} {tgt : Nat} (ha : sy_OI μ sk pc p1 a) (d : decode μ.2.1 p1 = .ok (.ifCond .ne off, 3)) (ht : (p1 : Int) + off = (tgt : Int)) : sy_OC μ sk pc (p1 + 3) tgt (sy_ceq a (sy_iK 0)) := by
  intro X F n env st k hs hk
  unfold sy_ceq sy_cB sy_iK
  rw [sy_bnd_bnd]
  refine ha X F n env st _ hs (fun x => ?_)
  rw [sy_bnd_ret, sy_bnd_ret]
  refine fun σ hn hf H locs ls hP hS hE => lv_if_ne F.e F.c d ht (fun h => ?_) (fun h => ?_)
  · refine hk false σ hn ?_ H locs ls hP hS hE
    rw [← hf]; congr 1; simp [h]
  · refine hk true σ hn ?_ H locs ls hP hS hE
    rw [← hf]; congr 1; simp [h]
theorem oc_neT {a b : sy_IE} {off : Int} {tgt : Nat} (ha : sy_OI μ sk pc p1 a) (hb : sy_OI μ (sk + 1) p1 p2 b) (d : decode μ.2.1 p2 = .ok (.if_icmp .ne off, 3)) (ht : (p2 : Int) + off = (tgt : Int)) : sy_OC μ sk pc tgt (p2 + 3) (sy_cne a b) := by
  intro X F n env st k hs hk
  unfold sy_cne sy_cB
  rw [sy_bnd_bnd]
  refine ha X F n env st _ hs (fun x => ?_)
  rw [sy_bnd_bnd]
  refine hb X F n env (.int x :: st) _ (sy_s1 hs) (fun y => ?_)
  rw [sy_bnd_ret]
  refine fun σ hn hf H locs ls hP hS hE => lv_icmp_ne F.e F.c d ht (fun h => ?_) (fun h => ?_)
  · refine hk true σ hn ?_ H locs ls hP hS hE
    rw [← hf]; congr 1; simp [h]
  · refine hk false σ hn ?_ H locs ls hP hS hE
    rw [← hf]; congr 1; simp [h]
theorem oc_ne0T {a : sy_IE} {off : Int} {tgt : Nat} (ha : sy_OI μ sk pc p1 a) (d : decode μ.2.1 p1 = .ok (.ifCond .ne off, 3)) (ht : (p1 : Int) + off = (tgt : Int)) : sy_OC μ sk pc tgt (p1 + 3) (sy_cne a (sy_iK 0)) := by
  intro X F n env st k hs hk
  unfold sy_cne sy_cB sy_iK
  rw [sy_bnd_bnd]
  refine ha X F n env st _ hs (fun x => ?_)
  rw [sy_bnd_ret, sy_bnd_ret]
  refine fun σ hn hf H locs ls hP hS hE => lv_if_ne F.e F.c d ht (fun h => ?_) (fun h => ?_)
  · refine hk true σ hn ?_ H locs ls hP hS hE
    rw [← hf]; congr 1; simp [h]
  · refine hk false σ hn ?_ H locs ls hP hS hE
    rw [← hf]; congr 1; simp [h]
theorem oc_neF {a b : sy_IE} {off : Int} {tgt : Nat} (ha : sy_OI μ sk pc p1 a) (hb : sy_OI μ (sk + 1) p1 p2 b) (d : decode μ.2.1 p2 = .ok (.if_icmp .eq off, 3)) (ht : (p2 : Int) + off = (tgt : Int)) : sy_OC μ sk pc (p2 + 3) tgt (sy_cne a b) := by
  intro X F n env st k hs hk
  unfold sy_cne sy_cB
  rw [sy_bnd_bnd]
  refine ha X F n env st _ hs (fun x => ?_)
  rw [sy_bnd_bnd]
  refine hb X F n env (.int x :: st) _ (sy_s1 hs) (fun y => ?_)
  rw [sy_bnd_ret]
  refine fun σ hn hf H locs ls hP hS hE => lv_icmp_eq F.e F.c d ht (fun h => ?_) (fun h => ?_)
  · refine hk false σ hn ?_ H locs ls hP hS hE
    rw [← hf]; congr 1; simp [h]
  · refine hk true σ hn ?_ H locs ls hP hS hE
    rw [← hf]; congr 1; simp [h]
theorem oc_ne0F {a : sy_IE} {off : Int} {tgt : Nat} (ha : sy_OI μ sk pc p1 a) (d : decode μ.2.1 p1 = .ok (.ifCond .eq off, 3)) (ht : (p1 : Int) + off = (tgt : Int)) : sy_OC μ sk pc (p1 + 3) tgt (sy_cne a (sy_iK 0)) := by
  intro X F n env st k hs hk
  unfold sy_cne sy_cB sy_iK
  rw [sy_bnd_bnd]
  refine ha X F n env st _ hs (fun x => ?_)
  rw [sy_bnd_ret, sy_bnd_ret]
  refine fun σ hn hf H locs ls hP hS hE => lv_if_eq F.e F.c d ht (fun h => ?_) (fun h => ?_)
  · refine hk false σ hn ?_ H locs ls hP hS hE
    rw [← hf]; congr 1; simp [h]
  · refine hk true σ hn ?_ H locs ls hP hS hE
    rw [← hf]; congr 1; simp [h]
theorem oc_ltT {a b : sy_IE} {off : Int} {tgt : Nat} (ha : sy_OI μ sk pc p1 a) (hb : sy_OI μ (sk + 1) p1 p2 b) (d : decode μ.2.1 p2 = .ok (.if_icmp .lt off, 3)) (ht : (p2 : Int) + off = (tgt : Int)) : sy_OC μ sk pc tgt (p2 + 3) (sy_clt a b) := by
  intro X F n env st k hs hk
  unfold sy_clt sy_cB
  rw [sy_bnd_bnd]
  refine ha X F n env st _ hs (fun x => ?_)
  rw [sy_bnd_bnd]
  refine hb X F n env (.int x :: st) _ (sy_s1 hs) (fun y => ?_)
  rw [sy_bnd_ret]
  refine fun σ hn hf H locs ls hP hS hE => lv_icmp_lt F.e F.c d ht (fun h => ?_) (fun h => ?_)
  · refine hk true σ hn ?_ H locs ls hP hS hE
    rw [← hf]; congr 1; simp [h]
  · refine hk false σ hn ?_ H locs ls hP hS hE
    rw [← hf]; congr 1; simp [h]
theorem oc_lt0T {a : sy_IE} {off : Int} {tgt : Nat} (ha : sy_OI μ sk pc p1 a) (d : decode μ.2.1 p1 = .ok (.ifCond .lt off, 3)) (ht : (p1 : Int) + off = (tgt : Int)) : sy_OC μ sk pc tgt (p1 + 3) (sy_clt a (sy_iK 0)) := by
  intro X F n env st k hs hk
  unfold sy_clt sy_cB sy_iK
  rw [sy_bnd_bnd]
  refine ha X F n env st _ hs (fun x => ?_)
  rw [sy_bnd_ret, sy_bnd_ret]
  refine fun σ hn hf H locs ls hP hS hE => lv_if_lt F.e F.c d ht (fun h => ?_) (fun h => ?_)
  · refine hk true σ hn ?_ H locs ls hP hS hE
    rw [← hf]; congr 1; simp [h]
  · refine hk false σ hn ?_ H locs ls hP hS hE
    rw [← hf]; congr 1; simp [h]
theorem oc_ltF {a b : sy_IE} {off : Int} {tgt : Nat} (ha : sy_OI μ sk pc p1 a) (hb : sy_OI μ (sk + 1) p1 p2 b) (d : decode μ.2.1 p2 = .ok (.if_icmp .ge off, 3)) (ht : (p2 : Int) + off = (tgt : Int)) : sy_OC μ sk pc (p2 + 3) tgt (sy_clt a b) := by
  intro X F n env st k hs hk
  unfold sy_clt sy_cB
  rw [sy_bnd_bnd]
  refine ha X F n env st _ hs (fun x => ?_)
  rw [sy_bnd_bnd]
  refine hb X F n env (.int x :: st) _ (sy_s1 hs) (fun y => ?_)
  rw [sy_bnd_ret]
  refine fun σ hn hf H locs ls hP hS hE => lv_icmp_ge F.e F.c d ht (fun h => ?_) (fun h => ?_)
  · refine hk false σ hn ?_ H locs ls hP hS hE
    rw [← hf]; congr 1; simp [sy_nlt.mpr h]
  · refine hk true σ hn ?_ H locs ls hP hS hE
    rw [← hf]; congr 1; simp [sy_nle.mp h]
theorem oc_lt0F {a : sy_IE} {off : Int} {tgt : Nat} (ha : sy_OI μ sk pc p1 a) (d : decode μ.2.1 p1 = .ok (.ifCond .ge off, 3)) (ht : (p1 : Int) + off = (tgt : Int)) : sy_OC μ sk pc (p1 + 3) tgt (sy_clt a (sy_iK 0)) := by
  intro X F n env st k hs hk
  unfold sy_clt sy_cB sy_iK
  rw [sy_bnd_bnd]
  refine ha X F n env st _ hs (fun x => ?_)
  rw [sy_bnd_ret, sy_bnd_ret]
  refine fun σ hn hf H locs ls hP hS hE => lv_if_ge F.e F.c d ht (fun h => ?_) (fun h => ?_)
  · refine hk false σ hn ?_ H locs ls hP hS hE
    rw [← hf]; congr 1; simp [sy_nlt.mpr h]
  · refine hk true σ hn ?_ H locs ls hP hS hE
    rw [← hf]; congr 1; simp [sy_nle.mp h]
theorem oc_geT {a b : sy_IE} {off : Int} {tgt : Nat} (ha : sy_OI μ sk pc p1 a) (hb : sy_OI μ (sk + 1) p1 p2 b) (d : decode μ.2.1 p2 = .ok (.if_icmp .ge off, 3)) (ht : (p2 : Int) + off = (tgt : Int)) : sy_OC μ sk pc tgt (p2 + 3) (sy_cge a b) := by
  intro X F n env st k hs hk
  unfold sy_cge sy_cB
  rw [sy_bnd_bnd]
  refine ha X F n env st _ hs (fun x => ?_)
  rw [sy_bnd_bnd]
  refine hb X F n env (.int x :: st) _ (sy_s1 hs) (fun y => ?_)
  rw [sy_bnd_ret]
  refine fun σ hn hf H locs ls hP hS hE => lv_icmp_ge F.e F.c d ht (fun h => ?_) (fun h => ?_)
  · refine hk true σ hn ?_ H locs ls hP hS hE
    rw [← hf]; congr 1; simp [h]
  · refine hk false σ hn ?_ H locs ls hP hS hE
    rw [← hf]; congr 1; simp [h]
theorem oc_ge0T {a : sy_IE} {off : Int} {tgt : Nat} (ha : sy_OI μ sk pc p1 a) (d : decode μ.2.1 p1 = .ok (.ifCond .ge off, 3)) (ht : (p1 : Int) + off = (tgt : Int)) : sy_OC μ sk pc tgt (p1 + 3) (sy_cge a (sy_iK 0)) := by
  intro X F n env st k hs hk
  unfold sy_cge sy_cB sy_iK
  rw [sy_bnd_bnd]
  refine ha X F n env st _ hs (fun x => ?_)
  rw [sy_bnd_ret, sy_bnd_ret]
  refine fun σ hn hf H locs ls hP hS hE => lv_if_ge F.e F.c d ht (fun h => ?_) (fun h => ?_)
  · refine hk true σ hn ?_ H locs ls hP hS hE
    rw [← hf]; congr 1; simp [h]
  · refine hk false σ hn ?_ H locs ls hP hS hE
    rw [← hf]; congr 1; simp [h]
theorem oc_geF {a b : sy_IE} {off : Int} {tgt : Nat} (ha : sy_OI μ sk pc p1 a) (hb : sy_OI μ (sk + 1) p1 p2 b) (d : decode μ.2.1 p2 = .ok (.if_icmp .lt off, 3)) (ht : (p2 : Int) + off = (tgt : Int)) : sy_OC μ sk pc (p2 + 3) tgt (sy_cge a b) := by
  intro X F n env st k hs hk
  unfold sy_cge sy_cB
  rw [sy_bnd_bnd]
  refine ha X F n env st _ hs (fun x => ?_)
  rw [sy_bnd_bnd]
  refine hb X F n env (.int x :: st) _ (sy_s1 hs) (fun y => ?_)
  rw [sy_bnd_ret]
  refine fun σ hn hf H locs ls hP hS hE => lv_icmp_lt F.e F.c d ht (fun h => ?_) (fun h => ?_)
  · refine hk false σ hn ?_ H locs ls hP hS hE
    rw [← hf]; congr 1; simp [sy_nle.mpr h]
  · refine hk true σ hn ?_ H locs ls hP hS hE
    rw [← hf]; congr 1; simp [sy_nlt.mp h]
theorem oc_ge0F {a : sy_IE} {off : Int} {tgt : Nat} (ha : sy_OI μ sk pc p1 a) (d : decode μ.2.1 p1 = .ok (.ifCond .lt off, 3)) (ht : (p1 : Int) + off = (tgt : Int)) : sy_OC μ sk pc (p1 + 3) tgt (sy_cge a (sy_iK 0)) := by
  intro X F n env st k hs hk
  unfold sy_cge sy_cB sy_iK
  rw [sy_bnd_bnd]
  refine ha X F n env st _ hs (fun x => ?_)
  rw [sy_bnd_ret, sy_bnd_ret]
  refine fun σ hn hf H locs ls hP hS hE => lv_if_lt F.e F.c d ht (fun h => ?_) (fun h => ?_)
  · refine hk false σ hn ?_ H locs ls hP hS hE
    rw [← hf]; congr 1; simp [sy_nle.mpr h]
  · refine hk true σ hn ?_ H locs ls hP hS hE
    rw [← hf]; congr 1; simp [sy_nlt.mp h]
theorem oc_gtT {a b : sy_IE} {off : Int} {tgt : Nat} (ha : sy_OI μ sk pc p1 a) (hb : sy_OI μ (sk + 1) p1 p2 b) (d : decode μ.2.1 p2 = .ok (.if_icmp .gt off, 3)) (ht : (p2 : Int) + off = (tgt : Int)) : sy_OC μ sk pc tgt (p2 + 3) (sy_cgt a b) := by
  intro X F n env st k hs hk
  unfold sy_cgt sy_cB
  rw [sy_bnd_bnd]
  refine ha X F n env st _ hs (fun x => ?_)
  rw [sy_bnd_bnd]
  refine hb X F n env (.int x :: st) _ (sy_s1 hs) (fun y => ?_)
  rw [sy_bnd_ret]
  refine fun σ hn hf H locs ls hP hS hE => lv_icmp_gt F.e F.c d ht (fun h => ?_) (fun h => ?_)
  · refine hk true σ hn ?_ H locs ls hP hS hE
    rw [← hf]; congr 1; simp [h]
  · refine hk false σ hn ?_ H locs ls hP hS hE
    rw [← hf]; congr 1; simp [h]
theorem oc_gt0T {a : sy_IE} {off : Int} {tgt : Nat} (ha : sy_OI μ sk pc p1 a) (d : decode μ.2.1 p1 = .ok (.ifCond .gt off, 3)) (ht : (p1 : Int) + off = (tgt : Int)) : sy_OC μ sk pc tgt (p1 + 3) (sy_cgt a (sy_iK 0)) := by
  intro X F n env st k hs hk
  unfold sy_cgt sy_cB sy_iK
  rw [sy_bnd_bnd]
  refine ha X F n env st _ hs (fun x => ?_)
  rw [sy_bnd_ret, sy_bnd_ret]
  refine fun σ hn hf H locs ls hP hS hE => lv_if_gt F.e F.c d ht (fun h => ?_) (fun h => ?_)
  · refine hk true σ hn ?_ H locs ls hP hS hE
    rw [← hf]; congr 1; simp [h]
  · refine hk false σ hn ?_ H locs ls hP hS hE
    rw [← hf]; congr 1; simp [h]
theorem oc_gtF {a b : sy_IE} {off : Int} {tgt : Nat} (ha : sy_OI μ sk pc p1 a) (hb : sy_OI μ (sk + 1) p1 p2 b) (d : decode μ.2.1 p2 = .ok (.if_icmp .le off, 3)) (ht : (p2 : Int) + off = (tgt : Int)) : sy_OC μ sk pc (p2 + 3) tgt (sy_cgt a b) := by
  intro X F n env st k hs hk
  unfold sy_cgt sy_cB
  rw [sy_bnd_bnd]
  refine ha X F n env st _ hs (fun x => ?_)
  rw [sy_bnd_bnd]
  refine hb X F n env (.int x :: st) _ (sy_s1 hs) (fun y => ?_)
  rw [sy_bnd_ret]
  refine fun σ hn hf H locs ls hP hS hE => lv_icmp_le F.e F.c d ht (fun h => ?_) (fun h => ?_)
  · refine hk false σ hn ?_ H locs ls hP hS hE
    rw [← hf]; congr 1; simp [sy_nlt.mpr h]
  · refine hk true σ hn ?_ H locs ls hP hS hE
    rw [← hf]; congr 1; simp [sy_nle.mp h]
theorem oc_gt0F {a : sy_IE} {off : Int} {tgt : Nat} (ha : sy_OI μ sk pc p1 a) (d : decode μ.2.1 p1 = .ok (.ifCond .le off, 3)) (ht : (p1 : Int) + off = (tgt : Int)) : sy_OC μ sk pc (p1 + 3) tgt (sy_cgt a (sy_iK 0)) := by
  intro X F n env st k hs hk
  unfold sy_cgt sy_cB sy_iK
  rw [sy_bnd_bnd]
  refine ha X F n env st _ hs (fun x => ?_)
  rw [sy_bnd_ret, sy_bnd_ret]
  refine fun σ hn hf H locs ls hP hS hE => lv_if_le F.e F.c d ht (fun h => ?_) (fun h => ?_)
  · refine hk false σ hn ?_ H locs ls hP hS hE
    rw [← hf]; congr 1; simp [sy_nlt.mpr h]
  · refine hk true σ hn ?_ H locs ls hP hS hE
    rw [← hf]; congr 1; simp [sy_nle.mp h]
theorem oc_leT {a b : sy_IE} {off : Int} {tgt : Nat} (ha : sy_OI μ sk pc p1 a) (hb : sy_OI μ (sk + 1) p1 p2 b) (d : decode μ.2.1 p2 = .ok (.if_icmp .le off, 3)) (ht : (p2 : Int) + off = (tgt : Int)) : sy_OC μ sk pc tgt (p2 + 3) (sy_cle a b) := by
  intro X F n env st k hs hk
  unfold sy_cle sy_cB
  rw [sy_bnd_bnd]
  refine ha X F n env st _ hs (fun x => ?_)
  rw [sy_bnd_bnd]
  refine hb X F n env (.int x :: st) _ (sy_s1 hs) (fun y => ?_)
  rw [sy_bnd_ret]
  refine fun σ hn hf H locs ls hP hS hE => lv_icmp_le F.e F.c d ht (fun h => ?_) (fun h => ?_)
  · refine hk true σ hn ?_ H locs ls hP hS hE
    rw [← hf]; congr 1; simp [h]
  · refine hk false σ hn ?_ H locs ls hP hS hE
    rw [← hf]; congr 1; simp [h]
theorem oc_le0T {a : sy_IE} {off : Int} {tgt : Nat} (ha : sy_OI μ sk pc p1 a) (d : decode μ.2.1 p1 = .ok (.ifCond .le off, 3)) (ht : (p1 : Int) + off = (tgt : Int)) : sy_OC μ sk pc tgt (p1 + 3) (sy_cle a (sy_iK 0)) := by
  intro X F n env st k hs hk
  unfold sy_cle sy_cB sy_iK
  rw [sy_bnd_bnd]
  refine ha X F n env st _ hs (fun x => ?_)
  rw [sy_bnd_ret, sy_bnd_ret]
  refine fun σ hn hf H locs ls hP hS hE => lv_if_le F.e F.c d ht (fun h => ?_) (fun h => ?_)
  · refine hk true σ hn ?_ H locs ls hP hS hE
    rw [← hf]; congr 1; simp [h]
  · refine hk false σ hn ?_ H locs ls hP hS hE
    rw [← hf]; congr 1; simp [h]
theorem oc_leF {a b : sy_IE} {off : Int} {tgt : Nat} (ha : sy_OI μ sk pc p1 a) (hb : sy_OI μ (sk + 1) p1 p2 b) (d : decode μ.2.1 p2 = .ok (.if_icmp .gt off, 3)) (ht : (p2 : Int) + off = (tgt : Int)) : sy_OC μ sk pc (p2 + 3) tgt (sy_cle a b) := by
  intro X F n env st k hs hk
  unfold sy_cle sy_cB
  rw [sy_bnd_bnd]
  refine ha X F n env st _ hs (fun x => ?_)
  rw [sy_bnd_bnd]
  refine hb X F n env (.int x :: st) _ (sy_s1 hs) (fun y => ?_)
  rw [sy_bnd_ret]
  refine fun σ hn hf H locs ls hP hS hE => lv_icmp_gt F.e F.c d ht (fun h => ?_) (fun h => ?_)
  · refine hk false σ hn ?_ H locs ls hP hS hE
    rw [← hf]; congr 1; simp [sy_nle.mpr h]
  · refine hk true σ hn ?_ H locs ls hP hS hE
    rw [← hf]; congr 1; simp [sy_nlt.mp h]
theorem oc_le0F {a : sy_IE} {off : Int} {tgt : Nat} (ha : sy_OI μ sk pc p1 a) (d : decode μ.2.1 p1 = .ok (.ifCond .gt off, 3)) (ht : (p1 : Int) + off = (tgt : Int)) : sy_OC μ sk pc (p1 + 3) tgt (sy_cle a (sy_iK 0)) := by
  intro X F n env st k hs hk
  unfold sy_cle sy_cB sy_iK
  rw [sy_bnd_bnd]
  refine ha X F n env st _ hs (fun x => ?_)
  rw [sy_bnd_ret, sy_bnd_ret]
  refine fun σ hn hf H locs ls hP hS hE => lv_if_gt F.e F.c d ht (fun h => ?_) (fun h => ?_)
  · refine hk false σ hn ?_ H locs ls hP hS hE
    rw [← hf]; congr 1; simp [sy_nle.mpr h]
  · refine hk true σ hn ?_ H locs ls hP hS hE
    rw [← hf]; congr 1; simp [sy_nlt.mp h]
def sy_cI (e : sy_IE) : sy_CE := fun env => sy_bnd (e env) fun x => sy_ret (!decide (x = 0))
theorem oc_nzF {a : sy_IE} {off : Int} {tgt : Nat} (ha : sy_OI μ sk pc p1 a) (d : decode μ.2.1 p1 = .ok (.ifCond .eq off, 3)) (ht : (p1 : Int) + off = (tgt : Int)) : sy_OC μ sk pc (p1 + 3) tgt (sy_cI a) := by
  intro X F n env st k hs hk
  unfold sy_cI
  rw [sy_bnd_bnd]
  refine ha X F n env st _ hs (fun x => ?_)
  rw [sy_bnd_ret]
  refine fun σ hn hf H locs ls hP hS hE => lv_if_eq F.e F.c d ht (fun h => ?_) (fun h => ?_)
  · refine hk false σ hn ?_ H locs ls hP hS hE
    rw [← hf]; congr 1; simp [h]
  · refine hk true σ hn ?_ H locs ls hP hS hE
    rw [← hf]; congr 1; simp [h]
theorem oc_nzT {a : sy_IE} {off : Int} {tgt : Nat} (ha : sy_OI μ sk pc p1 a) (d : decode μ.2.1 p1 = .ok (.ifCond .ne off, 3)) (ht : (p1 : Int) + off = (tgt : Int)) : sy_OC μ sk pc tgt (p1 + 3) (sy_cI a) := by
  intro X F n env st k hs hk
  unfold sy_cI
  rw [sy_bnd_bnd]
  refine ha X F n env st _ hs (fun x => ?_)
  rw [sy_bnd_ret]
  refine fun σ hn hf H locs ls hP hS hE => lv_if_ne F.e F.c d ht (fun h => ?_) (fun h => ?_)
  · refine hk true σ hn ?_ H locs ls hP hS hE
    rw [← hf]; congr 1; simp [h]
  · refine hk false σ hn ?_ H locs ls hP hS hE
    rw [← hf]; congr 1; simp [h]
def sy_cN (c : sy_CE) : sy_CE := fun env => sy_bnd (c env) fun b => sy_ret (!b)
theorem oc_not {c : sy_CE} (h : sy_OC μ sk pc p1 p2 c) : sy_OC μ sk pc p2 p1 (sy_cN c) := by
  intro X F n env st k hs hk
  unfold sy_cN
  rw [sy_bnd_bnd]
  refine h X F n env st _ hs (fun b => ?_)
  rw [sy_bnd_ret]
  have := hk (!b)
  cases b <;> simpa using this
def sy_cA (a b : sy_CE) : sy_CE := fun env => sy_bnd (a env) fun x => if x then b env else sy_ret false
theorem oc_and {a b : sy_CE} (ha : sy_OC μ sk pc p1 p3 a) (hb : sy_OC μ sk p1 p2 p3 b) : sy_OC μ sk pc p2 p3 (sy_cA a b) := by
  intro X F n env st k hs hk
  unfold sy_cA
  rw [sy_bnd_bnd]
  refine ha X F n env st _ hs (fun x => ?_)
  cases x
  · simpa [sy_bnd_ret] using hk false
  · simpa using hb X F n env st k hs hk
def sy_cO (a b : sy_CE) : sy_CE := fun env => sy_bnd (a env) fun x => if x then sy_ret true else b env
theorem oc_or {a b : sy_CE} (ha : sy_OC μ sk pc p3 p1 a) (hb : sy_OC μ sk p1 p3 p2 b) : sy_OC μ sk pc p3 p2 (sy_cO a b) := by
  intro X F n env st k hs hk
  unfold sy_cO
  rw [sy_bnd_bnd]
  refine ha X F n env st _ hs (fun x => ?_)
  cases x
  · simpa using hb X F n env st k hs hk
  · simpa [sy_bnd_ret] using hk true
def sy_cQ (c a b : sy_CE) : sy_CE := fun env => sy_bnd (c env) fun x => if x then a env else b env
theorem oc_cond {c a b : sy_CE} {pT pF : Nat} (hc : sy_OC μ sk pc p1 p2 c) (ha : sy_OC μ sk p1 pT pF a) (hb : sy_OC μ sk p2 pT pF b) : sy_OC μ sk pc pT pF (sy_cQ c a b) := by
  intro X F n env st k hs hk
  unfold sy_cQ
  rw [sy_bnd_bnd]
  refine hc X F n env st _ hs (fun x => ?_)
  cases x
  · simpa using hb X F n env st k hs hk
  · simpa using ha X F n env st k hs hk
theorem oc_gotoT {c : sy_CE} {off : Int} {tgt : Nat} (h : sy_OC μ sk pc p1 p2 c) (d : decode μ.2.1 p1 = .ok (.goto off, 3)) (ht : (p1 : Int) + off = (tgt : Int)) : sy_OC μ sk pc tgt p2 c := by
  intro X F n env st k hs hk
  refine h X F n env st k hs (fun b => ?_)
  cases b
  · exact hk false
  · exact sy_goto F d ht (hk true)
theorem oc_gotoF {c : sy_CE} {off : Int} {tgt : Nat} (h : sy_OC μ sk pc p1 p2 c) (d : decode μ.2.1 p2 = .ok (.goto off, 3)) (ht : (p2 : Int) + off = (tgt : Int)) : sy_OC μ sk pc p1 tgt c := by
  intro X F n env st k hs hk
  refine h X F n env st k hs (fun b => ?_)
  cases b
  · exact sy_goto F d ht (hk false)
  · exact hk true
def sy_c0 (r : sy_RE) : sy_CE := fun env => sy_bnd (r env) fun _ => sy_ret false
theorem oc_null {r : sy_RE} {off : Int} {tgt : Nat} (hr : sy_OR μ sk pc p1 r) (d : decode μ.2.1 p1 = .ok (.ifnonnull off, 3)) (ht : (p1 : Int) + off = (tgt : Int)) : sy_OC μ sk pc (p1 + 3) tgt (sy_c0 r) := by
  intro X F n env st k hs hk
  unfold sy_c0
  rw [sy_bnd_bnd]
  refine hr X F n env st _ hs (fun x => ?_)
  rw [sy_bnd_ret]
  exact fun σ hn hf H locs ls hP hS hE => lv_ifnonnull F.e F.c d ht (hk false σ hn hf H locs ls hP hS hE)
-- a condition's value, a choice
def sy_iC (c : sy_CE) : sy_IE := fun env => sy_bnd (c env) fun b => sy_ret (if b then 1 else 0)
theorem oi_ofC {c : sy_CE} {off : Int} {tgt : Nat} (hc : sy_OC μ sk pc p1 p2 c) (d1 : decode μ.2.1 p1 = .ok (.iconst 1, 1)) (d2 : decode μ.2.1 (p1 + 1) = .ok (.goto off, 3)) (ht : ((p1 + 1 : Nat) : Int) + off = (tgt : Int)) (d3 : decode μ.2.1 p2 = .ok (.iconst 0, 1)) (h2 : p2 + 1 = tgt) : sy_OI μ sk pc tgt (sy_iC c) := by
  intro X F n env st k hs hk
  unfold sy_iC
  rw [sy_bnd_bnd]
  refine hc X F n env st _ hs (fun b => ?_)
  rw [sy_bnd_ret]
  cases b
  · subst h2
    exact sy_iconst F d3 rfl (hk _)
  · exact sy_iconst F d1 rfl (sy_goto F d2 ht (hk _))
def sy_iQ (c : sy_CE) (a b : sy_IE) : sy_IE := fun env => sy_bnd (c env) fun x => if x then a env else b env
theorem oi_cond {c : sy_CE} {a b : sy_IE} (hc : sy_OC μ sk pc p1 p2 c) (ha : sy_OI μ sk p1 pc' a) (hb : sy_OI μ sk p2 pc' b) : sy_OI μ sk pc pc' (sy_iQ c a b) := by
  intro X F n env st k hs hk
  unfold sy_iQ
  rw [sy_bnd_bnd]
  refine hc X F n env st _ hs (fun x => ?_)
  cases x
  · simpa using hb X F n env st k hs hk
  · simpa using ha X F n env st k hs hk
end SYF1
end SYF
