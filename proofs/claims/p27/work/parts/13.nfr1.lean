section SNA
def sy_FN (X : sy_Cx) (μ : sy_Mu) : Prop := sy_FX X μ ∧ sy_NC (sy_xs X) ∧ (∃ v τ, sy_xg X = (.inl v, τ)) ∧ (sy_xb X).1 ≤ (sy_xs X).heap.size
def sn_I (c : Nat) (μ : sy_Mu) (sk pc pc' : Nat) (e : sy_IE) : Prop := ∀ X : sy_Cx, sy_FN X μ → ∀ (n n' : Nat) (env st : List Value) (k : Int32 → sy_MM (Option Value)), n + c ≤ n' → n' ≤ sy_xn X → sy_sum st ≤ sk → (∀ v, sy_B X n' pc' env (.int v :: st) (k v)) → sy_B X n pc env st (sy_bnd (e env) k)
def sn_R (c : Nat) (μ : sy_Mu) (sk pc pc' : Nat) (e : sy_RE) : Prop := ∀ X : sy_Cx, sy_FN X μ → ∀ (n n' : Nat) (env st : List Value) (k : Nat → sy_MM (Option Value)), n + c ≤ n' → n' ≤ sy_xn X → sy_sum st ≤ sk → (∀ v, sy_B X n' pc' env (.ref v :: st) (k v)) → sy_B X n pc env st (sy_bnd (e env) k)
def sn_L (c : Nat) (μ : sy_Mu) (sk pc pc' : Nat) (e : sy_LE) : Prop := ∀ X : sy_Cx, sy_FN X μ → ∀ (n n' : Nat) (env st : List Value) (k : Int64 → sy_MM (Option Value)), n + c ≤ n' → n' ≤ sy_xn X → sy_sum st ≤ sk → (∀ v, sy_B X n' pc' env (.long v :: st) (k v)) → sy_B X n pc env st (sy_bnd (e env) k)
def sn_C (c : Nat) (μ : sy_Mu) (sk pc pT pF : Nat) (e : sy_CE) : Prop := ∀ X : sy_Cx, sy_FN X μ → ∀ (n n' : Nat) (env st : List Value) (k : Bool → sy_MM (Option Value)), n + c ≤ n' → n' ≤ sy_xn X → sy_sum st ≤ sk → (∀ b : Bool, sy_B X n' (if b then pT else pF) env st (k b)) → sy_B X n pc env st (sy_bnd (e env) k)
def sn_A (c : Nat) (μ : sy_Mu) (sk pc pc' : Nat) (e : sy_AE) : Prop := ∀ X : sy_Cx, sy_FN X μ → ∀ (n n' : Nat) (env st : List Value) (k : List Value → sy_MM (Option Value)), n + c ≤ n' → n' ≤ sy_xn X → sy_sum st ≤ sk → (∀ vs, sy_B X n' pc' env (vs.reverse ++ st) (k vs)) → sy_B X n pc env st (sy_bnd (e env) k)
def sn_K (c : Nat) (μ : sy_Mu) (sk pc : Nat) (g : List Value → sy_MM (Option Value)) : Prop := ∀ X : sy_Cx, sy_FN X μ → ∀ (n n' : Nat) (env st vs : List Value) (k : Option Value → sy_MM (Option Value)), n + c ≤ n' → n' ≤ sy_xn X → sy_sum st ≤ sk → (∀ r, sy_B X n' (pc + 3) env (r.toList ++ st) (k r)) → sy_B X n pc env (vs.reverse ++ st) (sy_bnd (g vs) k)
def sn_S (c : Nat) (μ : sy_Mu) (pc pc' : Nat) (s : sy_S) : Prop := ∀ X : sy_Cx, sy_FN X μ → ∀ (n n' : Nat) (env : List Value) (k : List Value → sy_MM (Option Value)), n + c ≤ n' → n' ≤ sy_xn X → (∀ env', sy_B X n' pc' env' [] (k env')) → sy_B X n pc env [] (s env k)
theorem sn_wid {X : sy_Cx} {n n' pc : Nat} {env st : List Value} {f : sy_MM (Option Value)} (h : n ≤ n') (hx : n' ≤ sy_xn X) (k : sy_B X n' pc env st f) : sy_B X n pc env st f := fun σ _ hf H locs ls hP hS hE => W.widen h (Nat.mul_le_mul_left 6 h) (k σ hx hf H locs ls hP hS hE)
section SNA1
variable {μ : sy_Mu} {sk pc pc' p1 p2 p3 : Nat}
theorem ni_of {e : sy_IE} (h : sy_OI μ sk pc pc' e) : sn_I 0 μ sk pc pc' e := fun X F n n' env st k hc hx hs hk => h X F.1 n env st k hs (fun v => sn_wid hc hx (hk v))
theorem nr_of {e : sy_RE} (h : sy_OR μ sk pc pc' e) : sn_R 0 μ sk pc pc' e := fun X F n n' env st k hc hx hs hk => h X F.1 n env st k hs (fun v => sn_wid hc hx (hk v))
theorem nl_of {e : sy_LE} (h : sy_OL μ sk pc pc' e) : sn_L 0 μ sk pc pc' e := fun X F n n' env st k hc hx hs hk => h X F.1 n env st k hs (fun v => sn_wid hc hx (hk v))
theorem nk_of {g : List Value → sy_MM (Option Value)} (h : sy_OK μ sk pc g) : sn_K 0 μ sk pc g := fun X F n n' env st vs k hc hx hs hk => h X F.1 n env st vs k hs (fun v => sn_wid hc hx (hk v))
theorem ns_of {s : sy_S} (h : sy_OS μ pc pc' s) : sn_S 0 μ pc pc' s := fun X F n n' env k hc hx hk => h X F.1 n env k (fun v => sn_wid hc hx (hk v))
theorem ns_mono {c c' : Nat} {s : sy_S} (h : sn_S c μ pc pc' s) (hc : c ≤ c') : sn_S c' μ pc pc' s := fun X F n n' env k h1 hx hk => h X F n n' env k (by omega) hx hk
theorem ni_bin {ca cb : Nat} {f : Int32 → Int32 → Int32} {a b : sy_IE} (ha : sn_I ca μ sk pc p1 a) (hb : sn_I cb μ (sk + 1) p1 p2 b) (hf : ∀ X : sy_Cx, sy_FX X μ → ∀ (n : Nat) (env st : List Value) (x y : Int32) (g : sy_MM (Option Value)), sy_B X n pc' env (.int (f x y) :: st) g → sy_B X n p2 env (.int y :: .int x :: st) g) : sn_I (ca + cb) μ sk pc pc' (sy_iB f a b) := by
  intro X FN n n' env st k hc hx hs hk
  have F := FN.1
  unfold sy_iB
  rw [sy_bnd_bnd]
  refine ha X FN n (n + ca) env st _ (Nat.le_refl _) (by omega) hs (fun x => ?_)
  rw [sy_bnd_bnd]
  refine hb X FN (n + ca) n' env (.int x :: st) _ (by omega) hx (sy_s1 hs) (fun y => ?_)
  exact hf X F n' env st x y _ (hk (f x y))
theorem ni_iadd {ca cb : Nat} {a b : sy_IE} (ha : sn_I ca μ sk pc p1 a) (hb : sn_I cb μ (sk + 1) p1 p2 b) (d : decode μ.2.1 p2 = .ok (.iadd, 1)) : sn_I (ca + cb) μ sk pc (p2 + 1) (sy_iAdd a b) := ni_bin ha hb (fun _ F _ _ _ _ _ _ h => sy_iadd F d h)
theorem ni_isub {ca cb : Nat} {a b : sy_IE} (ha : sn_I ca μ sk pc p1 a) (hb : sn_I cb μ (sk + 1) p1 p2 b) (d : decode μ.2.1 p2 = .ok (.isub, 1)) : sn_I (ca + cb) μ sk pc (p2 + 1) (sy_iSub a b) := ni_bin ha hb (fun _ F _ _ _ _ _ _ h => sy_isub F d h)
theorem ni_imul {ca cb : Nat} {a b : sy_IE} (ha : sn_I ca μ sk pc p1 a) (hb : sn_I cb μ (sk + 1) p1 p2 b) (d : decode μ.2.1 p2 = .ok (.imul, 1)) : sn_I (ca + cb) μ sk pc (p2 + 1) (sy_iMul a b) := ni_bin ha hb (fun _ F _ _ _ _ _ _ h => sy_imul F d h)
theorem ni_iand {ca cb : Nat} {a b : sy_IE} (ha : sn_I ca μ sk pc p1 a) (hb : sn_I cb μ (sk + 1) p1 p2 b) (d : decode μ.2.1 p2 = .ok (.iand, 1)) : sn_I (ca + cb) μ sk pc (p2 + 1) (sy_iAnd a b) := ni_bin ha hb (fun _ F _ _ _ _ _ _ h => sy_iand F d h)
theorem ni_ishr {ca cb : Nat} {a b : sy_IE} (ha : sn_I ca μ sk pc p1 a) (hb : sn_I cb μ (sk + 1) p1 p2 b) (d : decode μ.2.1 p2 = .ok (.ishr, 1)) : sn_I (ca + cb) μ sk pc (p2 + 1) (sy_iShr a b) := ni_bin ha hb (fun _ F _ _ _ _ _ _ h => sy_ishr F d h)
theorem ni_idiv {ca cb : Nat} {a b : sy_IE} (ha : sn_I ca μ sk pc p1 a) (hb : sn_I cb μ (sk + 1) p1 p2 b) (d : decode μ.2.1 p2 = .ok (.idiv, 1)) : sn_I (ca + cb) μ sk pc (p2 + 1) (sy_iDv true a b) := by
  intro X FN n n' env st k hc hx hs hk
  have F := FN.1
  unfold sy_iDv
  rw [sy_bnd_bnd]
  refine ha X FN n (n + ca) env st _ (Nat.le_refl _) (by omega) hs (fun x => ?_)
  rw [sy_bnd_bnd]
  refine hb X FN (n + ca) n' env (.int x :: st) _ (by omega) hx (sy_s1 hs) (fun y => ?_)
  by_cases hy : y = 0
  · rw [if_pos hy]; exact sy_vac (fun _ => rfl)
  · rw [if_neg hy, sy_bnd_ret]
    exact fun σ hn hf H locs ls hP hS hE => lv_idiv F.e F.c d hy (hk _ σ hn hf H locs ls hP hS hE)
theorem ni_irem {ca cb : Nat} {a b : sy_IE} (ha : sn_I ca μ sk pc p1 a) (hb : sn_I cb μ (sk + 1) p1 p2 b) (d : decode μ.2.1 p2 = .ok (.irem, 1)) : sn_I (ca + cb) μ sk pc (p2 + 1) (sy_iDv false a b) := by
  intro X FN n n' env st k hc hx hs hk
  have F := FN.1
  unfold sy_iDv
  rw [sy_bnd_bnd]
  refine ha X FN n (n + ca) env st _ (Nat.le_refl _) (by omega) hs (fun x => ?_)
  rw [sy_bnd_bnd]
  refine hb X FN (n + ca) n' env (.int x :: st) _ (by omega) hx (sy_s1 hs) (fun y => ?_)
  by_cases hy : y = 0
  · rw [if_pos hy]; exact sy_vac (fun _ => rfl)
  · rw [if_neg hy, sy_bnd_ret]
    exact fun σ hn hf H locs ls hP hS hE => lv_irem F.e F.c d hy (hk _ σ hn hf H locs ls hP hS hE)
theorem ni_iald {cr ci : Nat} {r : sy_RE} {i : sy_IE} (hr : sn_R cr μ sk pc p1 r) (hi : sn_I ci μ (sk + 1) p1 p2 i) (d : decode μ.2.1 p2 = .ok (.iaload, 1)) : sn_I (cr + ci) μ sk pc (p2 + 1) (sy_iA 0 r i) := by
  intro X FN n n' env st k' hc hx hs hk
  have F := FN.1
  unfold sy_iA
  rw [sy_bnd_bnd]
  refine hr X FN n (n + cr) env st _ (Nat.le_refl _) (by omega) hs (fun a => ?_)
  rw [sy_bnd_bnd]
  refine hi X FN (n + cr) n' env _ _ (by omega) hx (sy_sR hs) (fun x => ?_)
  by_cases h : sy_inb x (sy_len 0 a) = true
  · obtain ⟨h1, h2⟩ := sy_inb_of h
    unfold sy_mA
    rw [sy_bnd_ift h]
    exact sy_iald F d (sy_len_of h2) h1 hk
  · exact sy_vac (sy_bnd_iff h)
theorem ni_get {cr : Nat} {ix ci k : Nat} {r : sy_RE} (hr : sn_R cr μ sk pc p1 r) (hf : sy_fI μ.1 ix ci k) (d : decode μ.2.1 p1 = .ok (.getfield ix, 3)) : sn_I (cr) μ sk pc (p1 + 3) (sy_iF ci k r) := by
  intro X FN n n' env st k' hc hx hs hk
  have F := FN.1
  unfold sy_iF
  rw [sy_bnd_bnd]
  refine hr X FN n n' env st _ (by omega) hx hs (fun a => ?_)
  by_cases h : sy_isI ci k a = true
  · obtain ⟨fs, hl, hkk⟩ := sy_isI_of h
    unfold sy_mG
    rw [sy_bnd_ift h]
    exact sy_get F hf d hl hkk hk
  · exact sy_vac (sy_bnd_iff h)
theorem nr_get {cr : Nat} {ix ci k : Nat} {r : sy_RE} (hr : sn_R cr μ sk pc p1 r) (hf : sy_fI μ.1 ix ci k) (d : decode μ.2.1 p1 = .ok (.getfield ix, 3)) : sn_R (cr) μ sk pc (p1 + 3) (sy_rF ci k r) := by
  intro X FN n n' env st k' hc hx hs hk
  have F := FN.1
  unfold sy_rF
  rw [sy_bnd_bnd]
  refine hr X FN n n' env st _ (by omega) hx hs (fun a => ?_)
  cases h : sy_isF ci k a with
  | none => exact sy_vac (fun _ => rfl)
  | some j =>
    obtain ⟨fs, hl, hkk⟩ := sy_isF_of h
    exact sy_getR F hf d hl hkk (hk j)
theorem nc_eqT {ca cb : Nat} {a b : sy_IE} {off : Int} {tgt : Nat} (ha : sn_I ca μ sk pc p1 a) (hb : sn_I cb μ (sk + 1) p1 p2 b) (d : decode μ.2.1 p2 = .ok (.if_icmp .eq off, 3)) (ht : (p2 : Int) + off = (tgt : Int)) : sn_C (ca + cb) μ sk pc tgt (p2 + 3) (sy_ceq a b) := by
  intro X FN n n' env st k hc hx hs hk
  have F := FN.1
  unfold sy_ceq sy_cB
  rw [sy_bnd_bnd]
  refine ha X FN n (n + ca) env st _ (Nat.le_refl _) (by omega) hs (fun x => ?_)
  rw [sy_bnd_bnd]
  refine hb X FN (n + ca) n' env (.int x :: st) _ (by omega) hx (sy_s1 hs) (fun y => ?_)
  rw [sy_bnd_ret]
  refine fun σ hn hf H locs ls hP hS hE => lv_icmp_eq F.e F.c d ht (fun h => ?_) (fun h => ?_)
  · refine hk true σ hn ?_ H locs ls hP hS hE
    rw [← hf]; congr 1; simp [h]
  · refine hk false σ hn ?_ H locs ls hP hS hE
    rw [← hf]; congr 1; simp [h]
theorem nc_eq0T {ca : Nat} {a : sy_IE} {off : Int} {tgt : Nat} (ha : sn_I ca μ sk pc p1 a) (d : decode μ.2.1 p1 = .ok (.ifCond .eq off, 3)) (ht : (p1 : Int) + off = (tgt : Int)) : sn_C (ca) μ sk pc tgt (p1 + 3) (sy_ceq a (sy_iK 0)) := by
  intro X FN n n' env st k hc hx hs hk
  have F := FN.1
  unfold sy_ceq sy_cB sy_iK
  rw [sy_bnd_bnd]
  refine ha X FN n n' env st _ (by omega) hx hs (fun x => ?_)
  rw [sy_bnd_ret, sy_bnd_ret]
  refine fun σ hn hf H locs ls hP hS hE => lv_if_eq F.e F.c d ht (fun h => ?_) (fun h => ?_)
  · refine hk true σ hn ?_ H locs ls hP hS hE
    rw [← hf]; congr 1; simp [h]
  · refine hk false σ hn ?_ H locs ls hP hS hE
    rw [← hf]; congr 1; simp [h]
theorem nc_eqF {ca cb : Nat} {a b : sy_IE} {off : Int} {tgt : Nat} (ha : sn_I ca μ sk pc p1 a) (hb : sn_I cb μ (sk + 1) p1 p2 b) (d : decode μ.2.1 p2 = .ok (.if_icmp .ne off, 3)) (ht : (p2 : Int) + off = (tgt : Int)) : sn_C (ca + cb) μ sk pc (p2 + 3) tgt (sy_ceq a b) := by
  intro X FN n n' env st k hc hx hs hk
  have F := FN.1
  unfold sy_ceq sy_cB
  rw [sy_bnd_bnd]
  refine ha X FN n (n + ca) env st _ (Nat.le_refl _) (by omega) hs (fun x => ?_)
  rw [sy_bnd_bnd]
  refine hb X FN (n + ca) n' env (.int x :: st) _ (by omega) hx (sy_s1 hs) (fun y => ?_)
  rw [sy_bnd_ret]
  refine fun σ hn hf H locs ls hP hS hE => lv_icmp_ne F.e F.c d ht (fun h => ?_) (fun h => ?_)
  · refine hk false σ hn ?_ H locs ls hP hS hE
    rw [← hf]; congr 1; simp [h]
  · refine hk true σ hn ?_ H locs ls hP hS hE
    rw [← hf]; congr 1; simp [h]
theorem nc_eq0F {ca : Nat} {a : sy_IE} {off : Int} {tgt : Nat} (ha : sn_I ca μ sk pc p1 a) (d : decode μ.2.1 p1 = .ok (.ifCond .ne off, 3)) (ht : (p1 : Int) + off = (tgt : Int)) : sn_C (ca) μ sk pc (p1 + 3) tgt (sy_ceq a (sy_iK 0)) := by
  intro X FN n n' env st k hc hx hs hk
  have F := FN.1
  unfold sy_ceq sy_cB sy_iK
  rw [sy_bnd_bnd]
  refine ha X FN n n' env st _ (by omega) hx hs (fun x => ?_)
  rw [sy_bnd_ret, sy_bnd_ret]
  refine fun σ hn hf H locs ls hP hS hE => lv_if_ne F.e F.c d ht (fun h => ?_) (fun h => ?_)
  · refine hk false σ hn ?_ H locs ls hP hS hE
    rw [← hf]; congr 1; simp [h]
  · refine hk true σ hn ?_ H locs ls hP hS hE
    rw [← hf]; congr 1; simp [h]
theorem nc_neT {ca cb : Nat} {a b : sy_IE} {off : Int} {tgt : Nat} (ha : sn_I ca μ sk pc p1 a) (hb : sn_I cb μ (sk + 1) p1 p2 b) (d : decode μ.2.1 p2 = .ok (.if_icmp .ne off, 3)) (ht : (p2 : Int) + off = (tgt : Int)) : sn_C (ca + cb) μ sk pc tgt (p2 + 3) (sy_cne a b) := by
  intro X FN n n' env st k hc hx hs hk
  have F := FN.1
  unfold sy_cne sy_cB
  rw [sy_bnd_bnd]
  refine ha X FN n (n + ca) env st _ (Nat.le_refl _) (by omega) hs (fun x => ?_)
  rw [sy_bnd_bnd]
  refine hb X FN (n + ca) n' env (.int x :: st) _ (by omega) hx (sy_s1 hs) (fun y => ?_)
  rw [sy_bnd_ret]
  refine fun σ hn hf H locs ls hP hS hE => lv_icmp_ne F.e F.c d ht (fun h => ?_) (fun h => ?_)
  · refine hk true σ hn ?_ H locs ls hP hS hE
    rw [← hf]; congr 1; simp [h]
  · refine hk false σ hn ?_ H locs ls hP hS hE
    rw [← hf]; congr 1; simp [h]
theorem nc_ne0T {ca : Nat} {a : sy_IE} {off : Int} {tgt : Nat} (ha : sn_I ca μ sk pc p1 a) (d : decode μ.2.1 p1 = .ok (.ifCond .ne off, 3)) (ht : (p1 : Int) + off = (tgt : Int)) : sn_C (ca) μ sk pc tgt (p1 + 3) (sy_cne a (sy_iK 0)) := by
  intro X FN n n' env st k hc hx hs hk
  have F := FN.1
  unfold sy_cne sy_cB sy_iK
  rw [sy_bnd_bnd]
  refine ha X FN n n' env st _ (by omega) hx hs (fun x => ?_)
  rw [sy_bnd_ret, sy_bnd_ret]
  refine fun σ hn hf H locs ls hP hS hE => lv_if_ne F.e F.c d ht (fun h => ?_) (fun h => ?_)
  · refine hk true σ hn ?_ H locs ls hP hS hE
    rw [← hf]; congr 1; simp [h]
  · refine hk false σ hn ?_ H locs ls hP hS hE
    rw [← hf]; congr 1; simp [h]
theorem nc_neF {ca cb : Nat} {a b : sy_IE} {off : Int} {tgt : Nat} (ha : sn_I ca μ sk pc p1 a) (hb : sn_I cb μ (sk + 1) p1 p2 b) (d : decode μ.2.1 p2 = .ok (.if_icmp .eq off, 3)) (ht : (p2 : Int) + off = (tgt : Int)) : sn_C (ca + cb) μ sk pc (p2 + 3) tgt (sy_cne a b) := by
  intro X FN n n' env st k hc hx hs hk
  have F := FN.1
  unfold sy_cne sy_cB
  rw [sy_bnd_bnd]
  refine ha X FN n (n + ca) env st _ (Nat.le_refl _) (by omega) hs (fun x => ?_)
  rw [sy_bnd_bnd]
  refine hb X FN (n + ca) n' env (.int x :: st) _ (by omega) hx (sy_s1 hs) (fun y => ?_)
  rw [sy_bnd_ret]
  refine fun σ hn hf H locs ls hP hS hE => lv_icmp_eq F.e F.c d ht (fun h => ?_) (fun h => ?_)
  · refine hk false σ hn ?_ H locs ls hP hS hE
    rw [← hf]; congr 1; simp [h]
  · refine hk true σ hn ?_ H locs ls hP hS hE
    rw [← hf]; congr 1; simp [h]
theorem nc_ne0F {ca : Nat} {a : sy_IE} {off : Int} {tgt : Nat} (ha : sn_I ca μ sk pc p1 a) (d : decode μ.2.1 p1 = .ok (.ifCond .eq off, 3)) (ht : (p1 : Int) + off = (tgt : Int)) : sn_C (ca) μ sk pc (p1 + 3) tgt (sy_cne a (sy_iK 0)) := by
  intro X FN n n' env st k hc hx hs hk
  have F := FN.1
  unfold sy_cne sy_cB sy_iK
  rw [sy_bnd_bnd]
  refine ha X FN n n' env st _ (by omega) hx hs (fun x => ?_)
  rw [sy_bnd_ret, sy_bnd_ret]
  refine fun σ hn hf H locs ls hP hS hE => lv_if_eq F.e F.c d ht (fun h => ?_) (fun h => ?_)
  · refine hk false σ hn ?_ H locs ls hP hS hE
    rw [← hf]; congr 1; simp [h]
  · refine hk true σ hn ?_ H locs ls hP hS hE
    rw [← hf]; congr 1; simp [h]
theorem nc_ltT {ca cb : Nat} {a b : sy_IE} {off : Int} {tgt : Nat} (ha : sn_I ca μ sk pc p1 a) (hb : sn_I cb μ (sk + 1) p1 p2 b) (d : decode μ.2.1 p2 = .ok (.if_icmp .lt off, 3)) (ht : (p2 : Int) + off = (tgt : Int)) : sn_C (ca + cb) μ sk pc tgt (p2 + 3) (sy_clt a b) := by
  intro X FN n n' env st k hc hx hs hk
  have F := FN.1
  unfold sy_clt sy_cB
  rw [sy_bnd_bnd]
  refine ha X FN n (n + ca) env st _ (Nat.le_refl _) (by omega) hs (fun x => ?_)
  rw [sy_bnd_bnd]
  refine hb X FN (n + ca) n' env (.int x :: st) _ (by omega) hx (sy_s1 hs) (fun y => ?_)
  rw [sy_bnd_ret]
  refine fun σ hn hf H locs ls hP hS hE => lv_icmp_lt F.e F.c d ht (fun h => ?_) (fun h => ?_)
  · refine hk true σ hn ?_ H locs ls hP hS hE
    rw [← hf]; congr 1; simp [h]
  · refine hk false σ hn ?_ H locs ls hP hS hE
    rw [← hf]; congr 1; simp [h]
theorem nc_lt0T {ca : Nat} {a : sy_IE} {off : Int} {tgt : Nat} (ha : sn_I ca μ sk pc p1 a) (d : decode μ.2.1 p1 = .ok (.ifCond .lt off, 3)) (ht : (p1 : Int) + off = (tgt : Int)) : sn_C (ca) μ sk pc tgt (p1 + 3) (sy_clt a (sy_iK 0)) := by
  intro X FN n n' env st k hc hx hs hk
  have F := FN.1
  unfold sy_clt sy_cB sy_iK
  rw [sy_bnd_bnd]
  refine ha X FN n n' env st _ (by omega) hx hs (fun x => ?_)
  rw [sy_bnd_ret, sy_bnd_ret]
  refine fun σ hn hf H locs ls hP hS hE => lv_if_lt F.e F.c d ht (fun h => ?_) (fun h => ?_)
  · refine hk true σ hn ?_ H locs ls hP hS hE
    rw [← hf]; congr 1; simp [h]
  · refine hk false σ hn ?_ H locs ls hP hS hE
    rw [← hf]; congr 1; simp [h]
theorem nc_ltF {ca cb : Nat} {a b : sy_IE} {off : Int} {tgt : Nat} (ha : sn_I ca μ sk pc p1 a) (hb : sn_I cb μ (sk + 1) p1 p2 b) (d : decode μ.2.1 p2 = .ok (.if_icmp .ge off, 3)) (ht : (p2 : Int) + off = (tgt : Int)) : sn_C (ca + cb) μ sk pc (p2 + 3) tgt (sy_clt a b) := by
  intro X FN n n' env st k hc hx hs hk
  have F := FN.1
  unfold sy_clt sy_cB
  rw [sy_bnd_bnd]
  refine ha X FN n (n + ca) env st _ (Nat.le_refl _) (by omega) hs (fun x => ?_)
  rw [sy_bnd_bnd]
  refine hb X FN (n + ca) n' env (.int x :: st) _ (by omega) hx (sy_s1 hs) (fun y => ?_)
  rw [sy_bnd_ret]
  refine fun σ hn hf H locs ls hP hS hE => lv_icmp_ge F.e F.c d ht (fun h => ?_) (fun h => ?_)
  · refine hk false σ hn ?_ H locs ls hP hS hE
    rw [← hf]; congr 1; simp [sy_nlt.mpr h]
  · refine hk true σ hn ?_ H locs ls hP hS hE
    rw [← hf]; congr 1; simp [sy_nle.mp h]
theorem nc_lt0F {ca : Nat} {a : sy_IE} {off : Int} {tgt : Nat} (ha : sn_I ca μ sk pc p1 a) (d : decode μ.2.1 p1 = .ok (.ifCond .ge off, 3)) (ht : (p1 : Int) + off = (tgt : Int)) : sn_C (ca) μ sk pc (p1 + 3) tgt (sy_clt a (sy_iK 0)) := by
  intro X FN n n' env st k hc hx hs hk
  have F := FN.1
  unfold sy_clt sy_cB sy_iK
  rw [sy_bnd_bnd]
  refine ha X FN n n' env st _ (by omega) hx hs (fun x => ?_)
  rw [sy_bnd_ret, sy_bnd_ret]
  refine fun σ hn hf H locs ls hP hS hE => lv_if_ge F.e F.c d ht (fun h => ?_) (fun h => ?_)
  · refine hk false σ hn ?_ H locs ls hP hS hE
    rw [← hf]; congr 1; simp [sy_nlt.mpr h]
  · refine hk true σ hn ?_ H locs ls hP hS hE
    rw [← hf]; congr 1; simp [sy_nle.mp h]
theorem nc_geT {ca cb : Nat} {a b : sy_IE} {off : Int} {tgt : Nat} (ha : sn_I ca μ sk pc p1 a) (hb : sn_I cb μ (sk + 1) p1 p2 b) (d : decode μ.2.1 p2 = .ok (.if_icmp .ge off, 3)) (ht : (p2 : Int) + off = (tgt : Int)) : sn_C (ca + cb) μ sk pc tgt (p2 + 3) (sy_cge a b) := by
  intro X FN n n' env st k hc hx hs hk
  have F := FN.1
  unfold sy_cge sy_cB
  rw [sy_bnd_bnd]
  refine ha X FN n (n + ca) env st _ (Nat.le_refl _) (by omega) hs (fun x => ?_)
  rw [sy_bnd_bnd]
  refine hb X FN (n + ca) n' env (.int x :: st) _ (by omega) hx (sy_s1 hs) (fun y => ?_)
  rw [sy_bnd_ret]
  refine fun σ hn hf H locs ls hP hS hE => lv_icmp_ge F.e F.c d ht (fun h => ?_) (fun h => ?_)
  · refine hk true σ hn ?_ H locs ls hP hS hE
    rw [← hf]; congr 1; simp [h]
  · refine hk false σ hn ?_ H locs ls hP hS hE
    rw [← hf]; congr 1; simp [h]
theorem nc_ge0T {ca : Nat} {a : sy_IE} {off : Int} {tgt : Nat} (ha : sn_I ca μ sk pc p1 a) (d : decode μ.2.1 p1 = .ok (.ifCond .ge off, 3)) (ht : (p1 : Int) + off = (tgt : Int)) : sn_C (ca) μ sk pc tgt (p1 + 3) (sy_cge a (sy_iK 0)) := by
  intro X FN n n' env st k hc hx hs hk
  have F := FN.1
  unfold sy_cge sy_cB sy_iK
  rw [sy_bnd_bnd]
  refine ha X FN n n' env st _ (by omega) hx hs (fun x => ?_)
  rw [sy_bnd_ret, sy_bnd_ret]
  refine fun σ hn hf H locs ls hP hS hE => lv_if_ge F.e F.c d ht (fun h => ?_) (fun h => ?_)
  · refine hk true σ hn ?_ H locs ls hP hS hE
    rw [← hf]; congr 1; simp [h]
  · refine hk false σ hn ?_ H locs ls hP hS hE
    rw [← hf]; congr 1; simp [h]
theorem nc_geF {ca cb : Nat} {a b : sy_IE} {off : Int} {tgt : Nat} (ha : sn_I ca μ sk pc p1 a) (hb : sn_I cb μ (sk + 1) p1 p2 b) (d : decode μ.2.1 p2 = .ok (.if_icmp .lt off, 3)) (ht : (p2 : Int) + off = (tgt : Int)) : sn_C (ca + cb) μ sk pc (p2 + 3) tgt (sy_cge a b) := by
  intro X FN n n' env st k hc hx hs hk
  have F := FN.1
  unfold sy_cge sy_cB
  rw [sy_bnd_bnd]
  refine ha X FN n (n + ca) env st _ (Nat.le_refl _) (by omega) hs (fun x => ?_)
  rw [sy_bnd_bnd]
  refine hb X FN (n + ca) n' env (.int x :: st) _ (by omega) hx (sy_s1 hs) (fun y => ?_)
  rw [sy_bnd_ret]
  refine fun σ hn hf H locs ls hP hS hE => lv_icmp_lt F.e F.c d ht (fun h => ?_) (fun h => ?_)
  · refine hk false σ hn ?_ H locs ls hP hS hE
    rw [← hf]; congr 1; simp [sy_nle.mpr h]
  · refine hk true σ hn ?_ H locs ls hP hS hE
    rw [← hf]; congr 1; simp [sy_nlt.mp h]
theorem nc_ge0F {ca : Nat} {a : sy_IE} {off : Int} {tgt : Nat} (ha : sn_I ca μ sk pc p1 a) (d : decode μ.2.1 p1 = .ok (.ifCond .lt off, 3)) (ht : (p1 : Int) + off = (tgt : Int)) : sn_C (ca) μ sk pc (p1 + 3) tgt (sy_cge a (sy_iK 0)) := by
  intro X FN n n' env st k hc hx hs hk
  have F := FN.1
  unfold sy_cge sy_cB sy_iK
  rw [sy_bnd_bnd]
  refine ha X FN n n' env st _ (by omega) hx hs (fun x => ?_)
  rw [sy_bnd_ret, sy_bnd_ret]
  refine fun σ hn hf H locs ls hP hS hE => lv_if_lt F.e F.c d ht (fun h => ?_) (fun h => ?_)
  · refine hk false σ hn ?_ H locs ls hP hS hE
    rw [← hf]; congr 1; simp [sy_nle.mpr h]
  · refine hk true σ hn ?_ H locs ls hP hS hE
    rw [← hf]; congr 1; simp [sy_nlt.mp h]
theorem nc_gtT {ca cb : Nat} {a b : sy_IE} {off : Int} {tgt : Nat} (ha : sn_I ca μ sk pc p1 a) (hb : sn_I cb μ (sk + 1) p1 p2 b) (d : decode μ.2.1 p2 = .ok (.if_icmp .gt off, 3)) (ht : (p2 : Int) + off = (tgt : Int)) : sn_C (ca + cb) μ sk pc tgt (p2 + 3) (sy_cgt a b) := by
  intro X FN n n' env st k hc hx hs hk
  have F := FN.1
  unfold sy_cgt sy_cB
  rw [sy_bnd_bnd]
  refine ha X FN n (n + ca) env st _ (Nat.le_refl _) (by omega) hs (fun x => ?_)
  rw [sy_bnd_bnd]
  refine hb X FN (n + ca) n' env (.int x :: st) _ (by omega) hx (sy_s1 hs) (fun y => ?_)
  rw [sy_bnd_ret]
  refine fun σ hn hf H locs ls hP hS hE => lv_icmp_gt F.e F.c d ht (fun h => ?_) (fun h => ?_)
  · refine hk true σ hn ?_ H locs ls hP hS hE
    rw [← hf]; congr 1; simp [h]
  · refine hk false σ hn ?_ H locs ls hP hS hE
    rw [← hf]; congr 1; simp [h]
theorem nc_gt0T {ca : Nat} {a : sy_IE} {off : Int} {tgt : Nat} (ha : sn_I ca μ sk pc p1 a) (d : decode μ.2.1 p1 = .ok (.ifCond .gt off, 3)) (ht : (p1 : Int) + off = (tgt : Int)) : sn_C (ca) μ sk pc tgt (p1 + 3) (sy_cgt a (sy_iK 0)) := by
  intro X FN n n' env st k hc hx hs hk
  have F := FN.1
  unfold sy_cgt sy_cB sy_iK
  rw [sy_bnd_bnd]
  refine ha X FN n n' env st _ (by omega) hx hs (fun x => ?_)
  rw [sy_bnd_ret, sy_bnd_ret]
  refine fun σ hn hf H locs ls hP hS hE => lv_if_gt F.e F.c d ht (fun h => ?_) (fun h => ?_)
  · refine hk true σ hn ?_ H locs ls hP hS hE
    rw [← hf]; congr 1; simp [h]
  · refine hk false σ hn ?_ H locs ls hP hS hE
    rw [← hf]; congr 1; simp [h]
theorem nc_gtF {ca cb : Nat} {a b : sy_IE} {off : Int} {tgt : Nat} (ha : sn_I ca μ sk pc p1 a) (hb : sn_I cb μ (sk + 1) p1 p2 b) (d : decode μ.2.1 p2 = .ok (.if_icmp .le off, 3)) (ht : (p2 : Int) + off = (tgt : Int)) : sn_C (ca + cb) μ sk pc (p2 + 3) tgt (sy_cgt a b) := by
  intro X FN n n' env st k hc hx hs hk
  have F := FN.1
  unfold sy_cgt sy_cB
  rw [sy_bnd_bnd]
  refine ha X FN n (n + ca) env st _ (Nat.le_refl _) (by omega) hs (fun x => ?_)
  rw [sy_bnd_bnd]
  refine hb X FN (n + ca) n' env (.int x :: st) _ (by omega) hx (sy_s1 hs) (fun y => ?_)
  rw [sy_bnd_ret]
  refine fun σ hn hf H locs ls hP hS hE => lv_icmp_le F.e F.c d ht (fun h => ?_) (fun h => ?_)
  · refine hk false σ hn ?_ H locs ls hP hS hE
    rw [← hf]; congr 1; simp [sy_nlt.mpr h]
  · refine hk true σ hn ?_ H locs ls hP hS hE
    rw [← hf]; congr 1; simp [sy_nle.mp h]
theorem nc_gt0F {ca : Nat} {a : sy_IE} {off : Int} {tgt : Nat} (ha : sn_I ca μ sk pc p1 a) (d : decode μ.2.1 p1 = .ok (.ifCond .le off, 3)) (ht : (p1 : Int) + off = (tgt : Int)) : sn_C (ca) μ sk pc (p1 + 3) tgt (sy_cgt a (sy_iK 0)) := by
  intro X FN n n' env st k hc hx hs hk
  have F := FN.1
  unfold sy_cgt sy_cB sy_iK
  rw [sy_bnd_bnd]
  refine ha X FN n n' env st _ (by omega) hx hs (fun x => ?_)
  rw [sy_bnd_ret, sy_bnd_ret]
  refine fun σ hn hf H locs ls hP hS hE => lv_if_le F.e F.c d ht (fun h => ?_) (fun h => ?_)
  · refine hk false σ hn ?_ H locs ls hP hS hE
    rw [← hf]; congr 1; simp [sy_nlt.mpr h]
  · refine hk true σ hn ?_ H locs ls hP hS hE
    rw [← hf]; congr 1; simp [sy_nle.mp h]
theorem nc_leT {ca cb : Nat} {a b : sy_IE} {off : Int} {tgt : Nat} (ha : sn_I ca μ sk pc p1 a) (hb : sn_I cb μ (sk + 1) p1 p2 b) (d : decode μ.2.1 p2 = .ok (.if_icmp .le off, 3)) (ht : (p2 : Int) + off = (tgt : Int)) : sn_C (ca + cb) μ sk pc tgt (p2 + 3) (sy_cle a b) := by
  intro X FN n n' env st k hc hx hs hk
  have F := FN.1
  unfold sy_cle sy_cB
  rw [sy_bnd_bnd]
  refine ha X FN n (n + ca) env st _ (Nat.le_refl _) (by omega) hs (fun x => ?_)
  rw [sy_bnd_bnd]
  refine hb X FN (n + ca) n' env (.int x :: st) _ (by omega) hx (sy_s1 hs) (fun y => ?_)
  rw [sy_bnd_ret]
  refine fun σ hn hf H locs ls hP hS hE => lv_icmp_le F.e F.c d ht (fun h => ?_) (fun h => ?_)
  · refine hk true σ hn ?_ H locs ls hP hS hE
    rw [← hf]; congr 1; simp [h]
  · refine hk false σ hn ?_ H locs ls hP hS hE
    rw [← hf]; congr 1; simp [h]
theorem nc_le0T {ca : Nat} {a : sy_IE} {off : Int} {tgt : Nat} (ha : sn_I ca μ sk pc p1 a) (d : decode μ.2.1 p1 = .ok (.ifCond .le off, 3)) (ht : (p1 : Int) + off = (tgt : Int)) : sn_C (ca) μ sk pc tgt (p1 + 3) (sy_cle a (sy_iK 0)) := by
  intro X FN n n' env st k hc hx hs hk
  have F := FN.1
  unfold sy_cle sy_cB sy_iK
  rw [sy_bnd_bnd]
  refine ha X FN n n' env st _ (by omega) hx hs (fun x => ?_)
  rw [sy_bnd_ret, sy_bnd_ret]
  refine fun σ hn hf H locs ls hP hS hE => lv_if_le F.e F.c d ht (fun h => ?_) (fun h => ?_)
  · refine hk true σ hn ?_ H locs ls hP hS hE
    rw [← hf]; congr 1; simp [h]
  · refine hk false σ hn ?_ H locs ls hP hS hE
    rw [← hf]; congr 1; simp [h]
theorem nc_leF {ca cb : Nat} {a b : sy_IE} {off : Int} {tgt : Nat} (ha : sn_I ca μ sk pc p1 a) (hb : sn_I cb μ (sk + 1) p1 p2 b) (d : decode μ.2.1 p2 = .ok (.if_icmp .gt off, 3)) (ht : (p2 : Int) + off = (tgt : Int)) : sn_C (ca + cb) μ sk pc (p2 + 3) tgt (sy_cle a b) := by
  intro X FN n n' env st k hc hx hs hk
  have F := FN.1
  unfold sy_cle sy_cB
  rw [sy_bnd_bnd]
  refine ha X FN n (n + ca) env st _ (Nat.le_refl _) (by omega) hs (fun x => ?_)
  rw [sy_bnd_bnd]
  refine hb X FN (n + ca) n' env (.int x :: st) _ (by omega) hx (sy_s1 hs) (fun y => ?_)
  rw [sy_bnd_ret]
  refine fun σ hn hf H locs ls hP hS hE => lv_icmp_gt F.e F.c d ht (fun h => ?_) (fun h => ?_)
  · refine hk false σ hn ?_ H locs ls hP hS hE
    rw [← hf]; congr 1; simp [sy_nle.mpr h]
  · refine hk true σ hn ?_ H locs ls hP hS hE
    rw [← hf]; congr 1; simp [sy_nlt.mp h]
theorem nc_le0F {ca : Nat} {a : sy_IE} {off : Int} {tgt : Nat} (ha : sn_I ca μ sk pc p1 a) (d : decode μ.2.1 p1 = .ok (.ifCond .gt off, 3)) (ht : (p1 : Int) + off = (tgt : Int)) : sn_C (ca) μ sk pc (p1 + 3) tgt (sy_cle a (sy_iK 0)) := by
  intro X FN n n' env st k hc hx hs hk
  have F := FN.1
  unfold sy_cle sy_cB sy_iK
  rw [sy_bnd_bnd]
  refine ha X FN n n' env st _ (by omega) hx hs (fun x => ?_)
  rw [sy_bnd_ret, sy_bnd_ret]
  refine fun σ hn hf H locs ls hP hS hE => lv_if_gt F.e F.c d ht (fun h => ?_) (fun h => ?_)
  · refine hk false σ hn ?_ H locs ls hP hS hE
    rw [← hf]; congr 1; simp [sy_nle.mpr h]
  · refine hk true σ hn ?_ H locs ls hP hS hE
    rw [← hf]; congr 1; simp [sy_nlt.mp h]
theorem nc_nzF {ca : Nat} {a : sy_IE} {off : Int} {tgt : Nat} (ha : sn_I ca μ sk pc p1 a) (d : decode μ.2.1 p1 = .ok (.ifCond .eq off, 3)) (ht : (p1 : Int) + off = (tgt : Int)) : sn_C (ca) μ sk pc (p1 + 3) tgt (sy_cI a) := by
  intro X FN n n' env st k hc hx hs hk
  have F := FN.1
  unfold sy_cI
  rw [sy_bnd_bnd]
  refine ha X FN n n' env st _ (by omega) hx hs (fun x => ?_)
  rw [sy_bnd_ret]
  refine fun σ hn hf H locs ls hP hS hE => lv_if_eq F.e F.c d ht (fun h => ?_) (fun h => ?_)
  · refine hk false σ hn ?_ H locs ls hP hS hE
    rw [← hf]; congr 1; simp [h]
  · refine hk true σ hn ?_ H locs ls hP hS hE
    rw [← hf]; congr 1; simp [h]
theorem nc_nzT {ca : Nat} {a : sy_IE} {off : Int} {tgt : Nat} (ha : sn_I ca μ sk pc p1 a) (d : decode μ.2.1 p1 = .ok (.ifCond .ne off, 3)) (ht : (p1 : Int) + off = (tgt : Int)) : sn_C (ca) μ sk pc tgt (p1 + 3) (sy_cI a) := by
  intro X FN n n' env st k hc hx hs hk
  have F := FN.1
  unfold sy_cI
  rw [sy_bnd_bnd]
  refine ha X FN n n' env st _ (by omega) hx hs (fun x => ?_)
  rw [sy_bnd_ret]
  refine fun σ hn hf H locs ls hP hS hE => lv_if_ne F.e F.c d ht (fun h => ?_) (fun h => ?_)
  · refine hk true σ hn ?_ H locs ls hP hS hE
    rw [← hf]; congr 1; simp [h]
  · refine hk false σ hn ?_ H locs ls hP hS hE
    rw [← hf]; congr 1; simp [h]
theorem nc_not {cc : Nat} {c : sy_CE} (h : sn_C cc μ sk pc p1 p2 c) : sn_C cc μ sk pc p2 p1 (sy_cN c) := by
  intro X F n n' env st k hc hx hs hk
  unfold sy_cN
  rw [sy_bnd_bnd]
  refine h X F n n' env st _ hc hx hs (fun b => ?_)
  rw [sy_bnd_ret]
  have := hk (!b)
  cases b <;> simpa using this
theorem nc_and {ca cb : Nat} {a b : sy_CE} (ha : sn_C ca μ sk pc p1 p3 a) (hb : sn_C cb μ sk p1 p2 p3 b) : sn_C (ca + cb) μ sk pc p2 p3 (sy_cA a b) := by
  intro X F n n' env st k hc hx hs hk
  unfold sy_cA
  rw [sy_bnd_bnd]
  refine ha X F n (n + ca) env st _ (Nat.le_refl _) (by omega) hs (fun x => ?_)
  cases x
  · simpa [sy_bnd_ret] using sn_wid (by omega) hx (hk false)
  · simpa using hb X F (n + ca) n' env st k (by omega) hx hs hk
theorem nc_or {ca cb : Nat} {a b : sy_CE} (ha : sn_C ca μ sk pc p3 p1 a) (hb : sn_C cb μ sk p1 p3 p2 b) : sn_C (ca + cb) μ sk pc p3 p2 (sy_cO a b) := by
  intro X F n n' env st k hc hx hs hk
  unfold sy_cO
  rw [sy_bnd_bnd]
  refine ha X F n (n + ca) env st _ (Nat.le_refl _) (by omega) hs (fun x => ?_)
  cases x
  · simpa using hb X F (n + ca) n' env st k (by omega) hx hs hk
  · simpa [sy_bnd_ret] using sn_wid (by omega) hx (hk true)
theorem nc_cond {c0 ca cb : Nat} {c a b : sy_CE} {pT pF : Nat} (hc0 : sn_C c0 μ sk pc p1 p2 c) (ha : sn_C ca μ sk p1 pT pF a) (hb : sn_C cb μ sk p2 pT pF b) : sn_C (c0 + (ca + cb)) μ sk pc pT pF (sy_cQ c a b) := by
  intro X F n n' env st k hc hx hs hk
  unfold sy_cQ
  rw [sy_bnd_bnd]
  refine hc0 X F n (n + c0) env st _ (Nat.le_refl _) (by omega) hs (fun x => ?_)
  cases x
  · simpa using hb X F (n + c0) n' env st k (by omega) hx hs hk
  · simpa using ha X F (n + c0) n' env st k (by omega) hx hs hk
theorem nc_gotoT {cc : Nat} {c : sy_CE} {off : Int} {tgt : Nat} (h : sn_C cc μ sk pc p1 p2 c) (d : decode μ.2.1 p1 = .ok (.goto off, 3)) (ht : (p1 : Int) + off = (tgt : Int)) : sn_C cc μ sk pc tgt p2 c := by
  intro X F n n' env st k hc hx hs hk
  refine h X F n n' env st k hc hx hs (fun b => ?_)
  cases b
  · exact hk false
  · exact sy_goto F.1 d ht (hk true)
theorem nc_gotoF {cc : Nat} {c : sy_CE} {off : Int} {tgt : Nat} (h : sn_C cc μ sk pc p1 p2 c) (d : decode μ.2.1 p2 = .ok (.goto off, 3)) (ht : (p2 : Int) + off = (tgt : Int)) : sn_C cc μ sk pc p1 tgt c := by
  intro X F n n' env st k hc hx hs hk
  refine h X F n n' env st k hc hx hs (fun b => ?_)
  cases b
  · exact sy_goto F.1 d ht (hk false)
  · exact hk true
/-- 'true', 'false' as a condition: no code -/
def sy_cK (b : Bool) : sy_CE := fun _ => sy_ret b
theorem nc_true {pF : Nat} : sn_C 0 μ sk pc pc pF (sy_cK true) := fun X F n n' env st k hc hx hs hk => sn_wid hc hx (hk true)
theorem ni_goto {c : Nat} {e : sy_IE} {off : Int} {tgt : Nat} (h : sn_I c μ sk pc p1 e) (d : decode μ.2.1 p1 = .ok (.goto off, 3)) (ht : (p1 : Int) + off = (tgt : Int)) : sn_I c μ sk pc tgt e := fun X F n n' env st k hc hx hs hk => h X F n n' env st k hc hx hs (fun v => sy_goto F.1 d ht (hk v))
theorem nl_goto {c : Nat} {e : sy_LE} {off : Int} {tgt : Nat} (h : sn_L c μ sk pc p1 e) (d : decode μ.2.1 p1 = .ok (.goto off, 3)) (ht : (p1 : Int) + off = (tgt : Int)) : sn_L c μ sk pc tgt e := fun X F n n' env st k hc hx hs hk => h X F n n' env st k hc hx hs (fun v => sy_goto F.1 d ht (hk v))
theorem nr_goto {c : Nat} {e : sy_RE} {off : Int} {tgt : Nat} (h : sn_R c μ sk pc p1 e) (d : decode μ.2.1 p1 = .ok (.goto off, 3)) (ht : (p1 : Int) + off = (tgt : Int)) : sn_R c μ sk pc tgt e := fun X F n n' env st k hc hx hs hk => h X F n n' env st k hc hx hs (fun v => sy_goto F.1 d ht (hk v))
/-- a condition's value: each of its two ends goes on at pc' -/
theorem ni_ofC {cc : Nat} {c : sy_CE} (hc0 : sn_C cc μ sk pc p1 p2 c) (h1 : sy_OI μ sk p1 pc' (sy_iK 1)) (h0 : sy_OI μ sk p2 pc' (sy_iK 0)) : sn_I cc μ sk pc pc' (sy_iC c) := by
  intro X F n n' env st k hc hx hs hk
  unfold sy_iC
  rw [sy_bnd_bnd]
  refine hc0 X F n n' env st _ hc hx hs (fun b => ?_)
  rw [sy_bnd_ret]
  cases b
  · exact h0 X F.1 n' env st k hs hk
  · exact h1 X F.1 n' env st k hs hk
theorem ni_cond {c0 ca cb : Nat} {c : sy_CE} {a b : sy_IE} (hc0 : sn_C c0 μ sk pc p1 p2 c) (ha : sn_I ca μ sk p1 pc' a) (hb : sn_I cb μ sk p2 pc' b) : sn_I (c0 + (ca + cb)) μ sk pc pc' (sy_iQ c a b) := by
  intro X F n n' env st k hc hx hs hk
  unfold sy_iQ
  rw [sy_bnd_bnd]
  refine hc0 X F n (n + c0) env st _ (Nat.le_refl _) (by omega) hs (fun x => ?_)
  cases x
  · simpa using hb X F (n + c0) n' env st k (by omega) hx hs hk
  · simpa using ha X F (n + c0) n' env st k (by omega) hx hs hk
theorem nl_cond {c0 ca cb : Nat} {c : sy_CE} {a b : sy_LE} (hc0 : sn_C c0 μ sk pc p1 p2 c) (ha : sn_L ca μ sk p1 pc' a) (hb : sn_L cb μ sk p2 pc' b) : sn_L (c0 + (ca + cb)) μ sk pc pc' (sy_lQ c a b) := by
  intro X F n n' env st k hc hx hs hk
  unfold sy_lQ
  rw [sy_bnd_bnd]
  refine hc0 X F n (n + c0) env st _ (Nat.le_refl _) (by omega) hs (fun x => ?_)
  cases x
  · simpa using hb X F (n + c0) n' env st k (by omega) hx hs hk
  · simpa using ha X F (n + c0) n' env st k (by omega) hx hs hk
def sy_rQ (c : sy_CE) (a b : sy_RE) : sy_RE := fun env => sy_bnd (c env) fun x => if x then a env else b env
theorem nr_cond {c0 ca cb : Nat} {c : sy_CE} {a b : sy_RE} (hc0 : sn_C c0 μ sk pc p1 p2 c) (ha : sn_R ca μ sk p1 pc' a) (hb : sn_R cb μ sk p2 pc' b) : sn_R (c0 + (ca + cb)) μ sk pc pc' (sy_rQ c a b) := by
  intro X F n n' env st k hc hx hs hk
  unfold sy_rQ
  rw [sy_bnd_bnd]
  refine hc0 X F n (n + c0) env st _ (Nat.le_refl _) (by omega) hs (fun x => ?_)
  cases x
  · simpa using hb X F (n + c0) n' env st k (by omega) hx hs hk
  · simpa using ha X F (n + c0) n' env st k (by omega) hx hs hk
-- constants of the pool
theorem ni_ldc {ix : Nat} {v : Int32} (d : decode μ.2.1 pc = .ok (.ldc ix, 2)) (hw : Cond.constant μ.1 ix v ∈ sy_AL) : sn_I 0 μ sk pc (pc + 2) (sy_iK v) := fun X FN n n' env st k hc hx hs hk =>
  have F := FN.1
  fun σ hn hf H locs ls hP hS hE => lv_ldc F.e F.c F.o (F.w _ hw) d (sn_wid hc hx (hk v) σ hn hf H locs ls hP hS hE)
end SNA1
end SNA
section SNB
variable {μ : sy_Mu} {sk pc pc' p1 p2 p3 : Nat}
theorem nl_i2l {c : Nat} {e : sy_IE} (h : sn_I c μ sk pc p1 e) (d : decode μ.2.1 p1 = .ok (.i2l, 1)) : sn_L (c) μ sk pc (p1 + 1) (sy_lI e) := by
  intro X FN n n' env st k hc hx hs hk
  have F := FN.1
  unfold sy_lI
  rw [sy_bnd_bnd]
  refine h X FN n n' env st _ (by omega) hx hs (fun x => ?_)
  exact sy_i2l F d (hk _)
theorem nl_mul {ca cb : Nat} {a b : sy_LE} (ha : sn_L ca μ sk pc p1 a) (hb : sn_L cb μ (sk + 2) p1 p2 b) (d : decode μ.2.1 p2 = .ok (.lmul, 1)) : sn_L (ca + cb) μ sk pc (p2 + 1) (sy_lB (fun x y => x * y) a b) := by
  intro X FN n n' env st k hc hx hs hk
  have F := FN.1
  unfold sy_lB
  rw [sy_bnd_bnd]
  refine ha X FN n (n + ca) env st _ (Nat.le_refl _) (by omega) hs (fun x => ?_)
  rw [sy_bnd_bnd]
  refine hb X FN (n + ca) n' env (.long x :: st) _ (by omega) hx (sy_sL hs) (fun y => ?_)
  exact sy_lmul F d (hk _)
theorem nl_add {ca cb : Nat} {a b : sy_LE} (ha : sn_L ca μ sk pc p1 a) (hb : sn_L cb μ (sk + 2) p1 p2 b) (d : decode μ.2.1 p2 = .ok (.ladd, 1)) : sn_L (ca + cb) μ sk pc (p2 + 1) (sy_lB (fun x y => x + y) a b) := by
  intro X FN n n' env st k hc hx hs hk
  have F := FN.1
  unfold sy_lB
  rw [sy_bnd_bnd]
  refine ha X FN n (n + ca) env st _ (Nat.le_refl _) (by omega) hs (fun x => ?_)
  rw [sy_bnd_bnd]
  refine hb X FN (n + ca) n' env (.long x :: st) _ (by omega) hx (sy_sL hs) (fun y => ?_)
  exact sy_ladd F d (hk _)
theorem nl_bin {ca cb : Nat} {f : Int64 → Int64 → Int64} {a b : sy_LE} (ha : sn_L ca μ sk pc p1 a) (hb : sn_L cb μ (sk + 2) p1 p2 b) (hf : ∀ X : sy_Cx, sy_FX X μ → ∀ (n : Nat) (env st : List Value) (x y : Int64) (g : sy_MM (Option Value)), sy_B X n pc' env (.long (f x y) :: st) g → sy_B X n p2 env (.long y :: .long x :: st) g) : sn_L (ca + cb) μ sk pc pc' (sy_lB f a b) := by
  intro X FN n n' env st k hc hx hs hk
  have F := FN.1
  unfold sy_lB
  rw [sy_bnd_bnd]
  refine ha X FN n (n + ca) env st _ (Nat.le_refl _) (by omega) hs (fun x => ?_)
  rw [sy_bnd_bnd]
  refine hb X FN (n + ca) n' env (.long x :: st) _ (by omega) hx (sy_sL hs) (fun y => ?_)
  exact hf X F n' env st x y _ (hk (f x y))
theorem nl_sub {ca cb : Nat} {a b : sy_LE} (ha : sn_L ca μ sk pc p1 a) (hb : sn_L cb μ (sk + 2) p1 p2 b) (d : decode μ.2.1 p2 = .ok (.lsub, 1)) : sn_L (ca + cb) μ sk pc (p2 + 1) (sy_lB (fun x y => x - y) a b) := nl_bin ha hb (fun _ F _ _ _ _ _ _ h => fun σ hn hf H locs ls hP hS hE => lv_lsub F.e F.c d (h σ hn hf H locs ls hP hS hE))
theorem nl_and {ca cb : Nat} {a b : sy_LE} (ha : sn_L ca μ sk pc p1 a) (hb : sn_L cb μ (sk + 2) p1 p2 b) (d : decode μ.2.1 p2 = .ok (.land, 1)) : sn_L (ca + cb) μ sk pc (p2 + 1) (sy_lB (fun x y => x &&& y) a b) := nl_bin ha hb (fun _ F _ _ _ _ _ _ h => fun σ hn hf H locs ls hP hS hE => lv_land F.e F.c d (h σ hn hf H locs ls hP hS hE))
/-- shifts of longs by ints -/
def sy_lS (f : Int64 → Int64 → Int64) (a : sy_LE) (b : sy_IE) : sy_LE := fun env => sy_bnd (a env) fun x => sy_bnd (b env) fun y => sy_ret (f x (y.toInt64 &&& 63))
theorem nl_shf {ca cb : Nat} {f : Int64 → Int64 → Int64} {a : sy_LE} {b : sy_IE} (ha : sn_L ca μ sk pc p1 a) (hb : sn_I cb μ (sk + 2) p1 p2 b) (hf : ∀ X : sy_Cx, sy_FX X μ → ∀ (n : Nat) (env st : List Value) (x : Int64) (y : Int32) (g : sy_MM (Option Value)), sy_B X n pc' env (.long (f x (y.toInt64 &&& 63)) :: st) g → sy_B X n p2 env (.int y :: .long x :: st) g) : sn_L (ca + cb) μ sk pc pc' (sy_lS f a b) := by
  intro X FN n n' env st k hc hx hs hk
  have F := FN.1
  unfold sy_lS
  rw [sy_bnd_bnd]
  refine ha X FN n (n + ca) env st _ (Nat.le_refl _) (by omega) hs (fun x => ?_)
  rw [sy_bnd_bnd]
  refine hb X FN (n + ca) n' env (.long x :: st) _ (by omega) hx (sy_sL hs) (fun y => ?_)
  exact hf X F n' env st x y _ (hk _)
theorem nl_shl {ca cb : Nat} {a : sy_LE} {b : sy_IE} (ha : sn_L ca μ sk pc p1 a) (hb : sn_I cb μ (sk + 2) p1 p2 b) (d : decode μ.2.1 p2 = .ok (.lshl, 1)) : sn_L (ca + cb) μ sk pc (p2 + 1) (sy_lS (fun x y => x <<< y) a b) := nl_shf ha hb (fun _ F _ _ _ _ _ _ h => fun σ hn hf H locs ls hP hS hE => lv_lshl F.e F.c d rfl (h σ hn hf H locs ls hP hS hE))
theorem nl_shr {ca cb : Nat} {a : sy_LE} {b : sy_IE} (ha : sn_L ca μ sk pc p1 a) (hb : sn_I cb μ (sk + 2) p1 p2 b) (d : decode μ.2.1 p2 = .ok (.lshr, 1)) : sn_L (ca + cb) μ sk pc (p2 + 1) (sy_lS (fun x y => x >>> y) a b) := nl_shf ha hb (fun _ F _ _ _ _ _ _ h => fun σ hn hf H locs ls hP hS hE => lv_lshr F.e F.c d rfl (h σ hn hf H locs ls hP hS hE))
def sy_iX (a : sy_LE) : sy_IE := fun env => sy_bnd (a env) fun x => sy_ret x.toInt32
theorem ni_l2i {c : Nat} {a : sy_LE} (h : sn_L c μ sk pc p1 a) (d : decode μ.2.1 p1 = .ok (.l2i, 1)) : sn_I c μ sk pc (p1 + 1) (sy_iX a) := by
  intro X FN n n' env st k hc hx hs hk
  have F := FN.1
  unfold sy_iX
  rw [sy_bnd_bnd]
  refine h X FN n n' env st _ hc hx hs (fun x => ?_)
  rw [sy_bnd_ret]
  exact fun σ hn hf H locs ls hP hS hE => lv_l2i F.e F.c d rfl (hk _ σ hn hf H locs ls hP hS hE)
-- rows of longs
def sy_mL (a : Nat) (x : Int32) : sy_MM Int64 := fun σ => if sy_inb x (sy_len 3 a) then some (.inl (sy_jn (σ a (2 * x.toNatClampNeg)) (σ a (2 * x.toNatClampNeg + 1))), σ) else none
def sy_mV (a : Nat) (x : Int32) (v : Int64) : sy_MM Unit := fun σ => if sy_inb x (sy_len 3 a) then some (.inl (), sy_upL σ a x.toNatClampNeg v) else none
def sy_lA (r : sy_RE) (i : sy_IE) : sy_LE := fun env => sy_bnd (r env) fun a => sy_bnd (i env) fun x => sy_mL a x
theorem sn_mL {X : sy_Cx} {n : Nat} {env st : List Value} (F : sy_FX X μ) {a : Nat} {x : Int32} {k : Int64 → sy_MM (Option Value)} (d : decode μ.2.1 pc = .ok (.laload, 1)) (hk : ∀ v, sy_B X n (pc + 1) env (.long v :: st) (k v)) : sy_B X n pc env (.int x :: .ref a :: st) (sy_bnd (sy_mL a x) k) := by
  by_cases h : sy_inb x (sy_len 3 a) = true
  · obtain ⟨h1, h2⟩ := sy_inb_of h
    unfold sy_mL
    rw [sy_bnd_ift h]
    exact sy_lald F d (sy_len_of h2) h1 hk
  · exact sy_vac (sy_bnd_iff h)
theorem sn_mV {X : sy_Cx} {n : Nat} {env st : List Value} (F : sy_FX X μ) {a : Nat} {x : Int32} {v : Int64} {kk : sy_MM (Option Value)} (d : decode μ.2.1 pc = .ok (.lastore, 1)) (hk : sy_B X n (pc + 1) env st kk) : sy_B X n pc env (.long v :: .int x :: .ref a :: st) (sy_bnd (sy_mV a x v) fun _ => kk) := by
  by_cases h : sy_inb x (sy_len 3 a) = true
  · obtain ⟨h1, h2⟩ := sy_inb_of h
    unfold sy_mV
    rw [sy_bnd_ift h]
    exact sy_last F d (sy_len_of h2) h1 hk
  · exact sy_vac (sy_bnd_iff h)
theorem nl_lald {ca cb : Nat} {r : sy_RE} {i : sy_IE} (hr : sn_R ca μ sk pc p1 r) (hi : sn_I cb μ (sk + 1) p1 p2 i) (d : decode μ.2.1 p2 = .ok (.laload, 1)) : sn_L (ca + cb) μ sk pc (p2 + 1) (sy_lA r i) := by
  intro X FN n n' env st k hc hx hs hk
  unfold sy_lA
  rw [sy_bnd_bnd]
  refine hr X FN n (n + ca) env st _ (Nat.le_refl _) (by omega) hs (fun a => ?_)
  rw [sy_bnd_bnd]
  refine hi X FN (n + ca) n' env _ _ (by omega) hx (sy_sR hs) (fun x => ?_)
  exact sn_mL FN.1 d hk
def sy_sWL (r : sy_RE) (i : sy_IE) (e : sy_LE) : sy_S := fun env kk => sy_bnd (r env) fun a => sy_bnd (i env) fun x => sy_bnd (e env) fun v => sy_bnd (sy_mV a x v) fun _ => kk env
theorem ns_last {ca cb cd : Nat} {r : sy_RE} {i : sy_IE} {e : sy_LE} (hr : sn_R ca μ 0 pc p1 r) (hi : sn_I cb μ 1 p1 p2 i) (he : sn_L cd μ 2 p2 p3 e) (d : decode μ.2.1 p3 = .ok (.lastore, 1)) : sn_S (ca + cb + cd) μ pc (p3 + 1) (sy_sWL r i e) := by
  intro X FN n n' env kk hc hx hk
  unfold sy_sWL
  refine hr X FN n (n + ca) env [] _ (Nat.le_refl _) (by omega) (Nat.le_refl _) (fun a => ?_)
  refine hi X FN (n + ca) (n + ca + cb) env _ _ (Nat.le_refl _) (by omega) (sy_sR (Nat.le_refl _)) (fun x => ?_)
  refine he X FN (n + ca + cb) n' env _ _ (by omega) hx (sy_s1 (sy_sR (Nat.le_refl _))) (fun v => ?_)
  exact sn_mV FN.1 d (hk env)
/-- a[i] += e, longs -/
def sy_sAL (r : sy_RE) (i : sy_IE) (e : sy_LE) : sy_S := fun env kk => sy_bnd (r env) fun a => sy_bnd (i env) fun x => sy_bnd (sy_mL a x) fun v => sy_bnd (e env) fun w => sy_bnd (sy_mV a x (v + w)) fun _ => kk env
theorem ns_aopL {ca cb cd : Nat} {r : sy_RE} {i : sy_IE} {e : sy_LE} (hr : sn_R ca μ 0 pc p1 r) (hi : sn_I cb μ 1 p1 p2 i) (d0 : decode μ.2.1 p2 = .ok (.dup2, 1)) (d1 : decode μ.2.1 (p2 + 1) = .ok (.laload, 1)) (he : sn_L cd μ 4 (p2 + 2) p3 e) (d2 : decode μ.2.1 p3 = .ok (.ladd, 1)) (d3 : decode μ.2.1 (p3 + 1) = .ok (.lastore, 1)) : sn_S (ca + cb + cd) μ pc (p3 + 2) (sy_sAL r i e) := by
  intro X FN n n' env kk hc hx hk
  unfold sy_sAL
  refine hr X FN n (n + ca) env [] _ (Nat.le_refl _) (by omega) (Nat.le_refl _) (fun a => ?_)
  refine hi X FN (n + ca) (n + ca + cb) env _ _ (Nat.le_refl _) (by omega) (sy_sR (Nat.le_refl _)) (fun x => ?_)
  refine sy_dup2 FN.1 d0 rfl rfl ?_
  refine sn_mL FN.1 d1 (fun v => ?_)
  refine he X FN (n + ca + cb) n' env _ _ (by omega) hx (sy_sL (sy_s1 (sy_sR (Nat.le_refl _)))) (fun w => ?_)
  refine sy_ladd FN.1 d2 ?_
  exact sn_mV FN.1 d3 (hk env)
-- comparing longs
def sy_cL (f : Int64 → Int64 → Bool) (a b : sy_LE) : sy_CE := fun env => sy_bnd (a env) fun x => sy_bnd (b env) fun y => sy_ret (f x y)
theorem sy_lg_cmp {x y : Int64} : lg_cmp x y = 0 ↔ x = y := by
  unfold lg_cmp
  by_cases h : x > y
  · rw [if_pos h]
    constructor
    · intro q; exact absurd q (by decide)
    · intro q; subst q; exact absurd h (by rw [gt_iff_lt, Int64.lt_iff_toInt_lt]; omega)
  · rw [if_neg h]
    by_cases h2 : x = y
    · simp [h2]
    · rw [if_neg h2]
      exact ⟨fun q => absurd q (by decide), fun q => absurd q h2⟩
abbrev sy_cLe := sy_cL (fun x y => decide (x = y))
abbrev sy_cLn := sy_cL (fun x y => !decide (x = y))
theorem nc_LeqF {ca cb : Nat} {a b : sy_LE} {off : Int} {tgt : Nat} (ha : sn_L ca μ sk pc p1 a) (hb : sn_L cb μ (sk + 2) p1 p2 b) (d : decode μ.2.1 p2 = .ok (.lcmp, 1)) (d2 : decode μ.2.1 (p2 + 1) = .ok (.ifCond .ne off, 3)) (ht : ((p2 + 1 : Nat) : Int) + off = (tgt : Int)) : sn_C (ca + cb) μ sk pc (p2 + 4) tgt (sy_cLe a b) := by
  intro X FN n n' env st k hc hx hs hk
  have F := FN.1
  unfold sy_cLe sy_cL
  rw [sy_bnd_bnd]
  refine ha X FN n (n + ca) env st _ (Nat.le_refl _) (by omega) hs (fun x => ?_)
  rw [sy_bnd_bnd]
  refine hb X FN (n + ca) n' env (.long x :: st) _ (by omega) hx (sy_sL hs) (fun y => ?_)
  rw [sy_bnd_ret]
  refine fun σ hn hf H locs ls hP hS hE => W.lcmp F.e F.c d (lv_if_ne F.e F.c d2 ht (fun h => ?_) (fun h => ?_))
  · refine hk false σ hn ?_ H locs ls hP hS hE
    have hne : ¬ x = y := fun q => h (sy_lg_cmp.mpr q)
    rw [← hf]; congr 1; simp [hne]
  · refine hk true σ hn ?_ H locs ls hP hS hE
    have he : x = y := sy_lg_cmp.mp h
    rw [← hf]; congr 1; simp [he]
theorem nc_LeqT {ca cb : Nat} {a b : sy_LE} {off : Int} {tgt : Nat} (ha : sn_L ca μ sk pc p1 a) (hb : sn_L cb μ (sk + 2) p1 p2 b) (d : decode μ.2.1 p2 = .ok (.lcmp, 1)) (d2 : decode μ.2.1 (p2 + 1) = .ok (.ifCond .eq off, 3)) (ht : ((p2 + 1 : Nat) : Int) + off = (tgt : Int)) : sn_C (ca + cb) μ sk pc tgt (p2 + 4) (sy_cLe a b) := by
  intro X FN n n' env st k hc hx hs hk
  have F := FN.1
  unfold sy_cLe sy_cL
  rw [sy_bnd_bnd]
  refine ha X FN n (n + ca) env st _ (Nat.le_refl _) (by omega) hs (fun x => ?_)
  rw [sy_bnd_bnd]
  refine hb X FN (n + ca) n' env (.long x :: st) _ (by omega) hx (sy_sL hs) (fun y => ?_)
  rw [sy_bnd_ret]
  refine fun σ hn hf H locs ls hP hS hE => W.lcmp F.e F.c d (lv_if_eq F.e F.c d2 ht (fun h => ?_) (fun h => ?_))
  · refine hk true σ hn ?_ H locs ls hP hS hE
    have he : x = y := sy_lg_cmp.mp h
    rw [← hf]; congr 1; simp [he]
  · refine hk false σ hn ?_ H locs ls hP hS hE
    have hne : ¬ x = y := fun q => h (sy_lg_cmp.mpr q)
    rw [← hf]; congr 1; simp [hne]
theorem nc_LneF {ca cb : Nat} {a b : sy_LE} {off : Int} {tgt : Nat} (ha : sn_L ca μ sk pc p1 a) (hb : sn_L cb μ (sk + 2) p1 p2 b) (d : decode μ.2.1 p2 = .ok (.lcmp, 1)) (d2 : decode μ.2.1 (p2 + 1) = .ok (.ifCond .eq off, 3)) (ht : ((p2 + 1 : Nat) : Int) + off = (tgt : Int)) : sn_C (ca + cb) μ sk pc (p2 + 4) tgt (sy_cLn a b) := by
  intro X FN n n' env st k hc hx hs hk
  have F := FN.1
  unfold sy_cLn sy_cL
  rw [sy_bnd_bnd]
  refine ha X FN n (n + ca) env st _ (Nat.le_refl _) (by omega) hs (fun x => ?_)
  rw [sy_bnd_bnd]
  refine hb X FN (n + ca) n' env (.long x :: st) _ (by omega) hx (sy_sL hs) (fun y => ?_)
  rw [sy_bnd_ret]
  refine fun σ hn hf H locs ls hP hS hE => W.lcmp F.e F.c d (lv_if_eq F.e F.c d2 ht (fun h => ?_) (fun h => ?_))
  · refine hk false σ hn ?_ H locs ls hP hS hE
    have he : x = y := sy_lg_cmp.mp h
    rw [← hf]; congr 1; simp [he]
  · refine hk true σ hn ?_ H locs ls hP hS hE
    have hne : ¬ x = y := fun q => h (sy_lg_cmp.mpr q)
    rw [← hf]; congr 1; simp [hne]
theorem nc_LneT {ca cb : Nat} {a b : sy_LE} {off : Int} {tgt : Nat} (ha : sn_L ca μ sk pc p1 a) (hb : sn_L cb μ (sk + 2) p1 p2 b) (d : decode μ.2.1 p2 = .ok (.lcmp, 1)) (d2 : decode μ.2.1 (p2 + 1) = .ok (.ifCond .ne off, 3)) (ht : ((p2 + 1 : Nat) : Int) + off = (tgt : Int)) : sn_C (ca + cb) μ sk pc tgt (p2 + 4) (sy_cLn a b) := by
  intro X FN n n' env st k hc hx hs hk
  have F := FN.1
  unfold sy_cLn sy_cL
  rw [sy_bnd_bnd]
  refine ha X FN n (n + ca) env st _ (Nat.le_refl _) (by omega) hs (fun x => ?_)
  rw [sy_bnd_bnd]
  refine hb X FN (n + ca) n' env (.long x :: st) _ (by omega) hx (sy_sL hs) (fun y => ?_)
  rw [sy_bnd_ret]
  refine fun σ hn hf H locs ls hP hS hE => W.lcmp F.e F.c d (lv_if_ne F.e F.c d2 ht (fun h => ?_) (fun h => ?_))
  · refine hk true σ hn ?_ H locs ls hP hS hE
    have hne : ¬ x = y := fun q => h (sy_lg_cmp.mpr q)
    rw [← hf]; congr 1; simp [hne]
  · refine hk false σ hn ?_ H locs ls hP hS hE
    have he : x = y := sy_lg_cmp.mp h
    rw [← hf]; congr 1; simp [he]
-- arguments
def sy_aL (e : sy_LE) (as : sy_AE) : sy_AE := fun env => sy_bnd (e env) fun x => sy_bnd (as env) fun vs => sy_ret (.long x :: vs)
theorem na_nil : sn_A 0 μ sk pc pc sy_aN := fun X F n n' env st k hc hx hs hk => sn_wid hc hx (hk [])
theorem na_int {ca cb : Nat} {e : sy_IE} {as : sy_AE} (he : sn_I ca μ sk pc p1 e) (ha : sn_A cb μ (sk + 1) p1 p2 as) : sn_A (ca + cb) μ sk pc p2 (sy_aI e as) := by
  intro X F n n' env st k hc hx hs hk
  unfold sy_aI
  rw [sy_bnd_bnd]
  refine he X F n (n + ca) env st _ (Nat.le_refl _) (by omega) hs (fun x => ?_)
  rw [sy_bnd_bnd]
  refine ha X F (n + ca) n' env (.int x :: st) _ (by omega) hx (sy_s1 hs) (fun vs => ?_)
  rw [sy_bnd_ret]
  have := hk (.int x :: vs)
  rwa [List.reverse_cons, List.append_assoc] at this
theorem na_ref {ca cb : Nat} {e : sy_RE} {as : sy_AE} (he : sn_R ca μ sk pc p1 e) (ha : sn_A cb μ (sk + 1) p1 p2 as) : sn_A (ca + cb) μ sk pc p2 (sy_aR e as) := by
  intro X F n n' env st k hc hx hs hk
  unfold sy_aR
  rw [sy_bnd_bnd]
  refine he X F n (n + ca) env st _ (Nat.le_refl _) (by omega) hs (fun x => ?_)
  rw [sy_bnd_bnd]
  refine ha X F (n + ca) n' env (.ref x :: st) _ (by omega) hx (sy_sR hs) (fun vs => ?_)
  rw [sy_bnd_ret]
  have := hk (.ref x :: vs)
  rwa [List.reverse_cons, List.append_assoc] at this
theorem na_long {ca cb : Nat} {e : sy_LE} {as : sy_AE} (he : sn_L ca μ sk pc p1 e) (ha : sn_A cb μ (sk + 2) p1 p2 as) : sn_A (ca + cb) μ sk pc p2 (sy_aL e as) := by
  intro X F n n' env st k hc hx hs hk
  unfold sy_aL
  rw [sy_bnd_bnd]
  refine he X F n (n + ca) env st _ (Nat.le_refl _) (by omega) hs (fun x => ?_)
  rw [sy_bnd_bnd]
  refine ha X F (n + ca) n' env (.long x :: st) _ (by omega) hx (sy_sL hs) (fun vs => ?_)
  rw [sy_bnd_ret]
  have := hk (.long x :: vs)
  rwa [List.reverse_cons, List.append_assoc] at this
-- calls
theorem ni_call {ca cb : Nat} {c : List Value → sy_MM (Option Value)} {as : sy_AE} (ha : sn_A ca μ sk pc p1 as) (hc0 : sn_K cb μ sk p1 c) : sn_I (ca + cb) μ sk pc (p1 + 3) (sy_iM c as) := by
  intro X F n n' env st k hc hx hs hk
  unfold sy_iM
  rw [sy_bnd_bnd]
  refine ha X F n (n + ca) env st _ (Nat.le_refl _) (by omega) hs (fun vs => ?_)
  rw [sy_bnd_bnd]
  refine hc0 X F (n + ca) n' env st vs _ (by omega) hx hs (fun r => ?_)
  unfold sy_toI
  split
  · exact hk _
  · exact sy_vac (fun _ => rfl)
theorem nr_call {ca cb : Nat} {c : List Value → sy_MM (Option Value)} {as : sy_AE} (ha : sn_A ca μ sk pc p1 as) (hc0 : sn_K cb μ sk p1 c) : sn_R (ca + cb) μ sk pc (p1 + 3) (sy_rM c as) := by
  intro X F n n' env st k hc hx hs hk
  unfold sy_rM
  rw [sy_bnd_bnd]
  refine ha X F n (n + ca) env st _ (Nat.le_refl _) (by omega) hs (fun vs => ?_)
  rw [sy_bnd_bnd]
  refine hc0 X F (n + ca) n' env st vs _ (by omega) hx hs (fun r => ?_)
  unfold sy_toR
  split
  · exact hk _
  · exact sy_vac (fun _ => rfl)
theorem nl_call {ca cb : Nat} {c : List Value → sy_MM (Option Value)} {as : sy_AE} (ha : sn_A ca μ sk pc p1 as) (hc0 : sn_K cb μ sk p1 c) : sn_L (ca + cb) μ sk pc (p1 + 3) (sy_lM c as) := by
  intro X F n n' env st k hc hx hs hk
  unfold sy_lM
  rw [sy_bnd_bnd]
  refine ha X F n (n + ca) env st _ (Nat.le_refl _) (by omega) hs (fun vs => ?_)
  rw [sy_bnd_bnd]
  refine hc0 X F (n + ca) n' env st vs _ (by omega) hx hs (fun r => ?_)
  unfold sy_toL
  split
  · exact hk _
  · exact sy_vac (fun _ => rfl)
-- statements
theorem ns_skip : sn_S 0 μ pc pc sy_sN := ns_of os_skip
theorem ns_seq {ca cb : Nat} {a b : sy_S} (ha : sn_S ca μ pc p1 a) (hb : sn_S cb μ p1 pc' b) : sn_S (ca + cb) μ pc pc' (sy_sQ a b) := fun X F n n' env k hc hx hk => ha X F n (n + ca) env _ (Nat.le_refl _) (by omega) (fun env' => hb X F (n + ca) n' env' k (by omega) hx hk)
theorem ns_block {c m : Nat} {s : sy_S} (h : sn_S c μ pc pc' s) : sn_S c μ pc pc' (sy_sB m s) := fun X F n n' env k hc hx hk => h X F n n' env _ hc hx (fun env' => sy_take (hk _))
theorem ns_goto {c : Nat} {s : sy_S} {off : Int} {tgt : Nat} (h : sn_S c μ pc p1 s) (d : decode μ.2.1 p1 = .ok (.goto off, 3)) (ht : (p1 : Int) + off = (tgt : Int)) : sn_S c μ pc tgt s := fun X F n n' env k hc hx hk => h X F n n' env k hc hx (fun env' => sy_goto F.1 d ht (hk env'))
theorem ns_if {c0 ca cb : Nat} {c : sy_CE} {a b : sy_S} (hc0 : sn_C c0 μ 0 pc p1 p2 c) (ha : sn_S ca μ p1 pc' a) (hb : sn_S cb μ p2 pc' b) : sn_S (c0 + max ca cb) μ pc pc' (sy_sI c a b) := by
  intro X F n n' env k hc hx hk
  unfold sy_sI
  refine hc0 X F n (n + c0) env [] _ (Nat.le_refl _) (by omega) (Nat.le_refl _) (fun x => ?_)
  cases x
  · simpa using hb X F (n + c0) n' env k (by omega) hx hk
  · simpa using ha X F (n + c0) n' env k (by omega) hx hk
theorem ns_whil {c0 cb : Nat} {c : sy_CE} {s : sy_S} (hc0 : sn_C c0 μ 0 pc p1 p2 c) (hs : sn_S cb μ p1 pc s) : ∀ m : Nat, sn_S (m * (c0 + cb)) μ pc p2 (sy_wh c s m)
  | 0 => fun X F n n' env k hc hx hk => sy_vac (fun _ => rfl)
  | m + 1 => by
    intro X F n n' env k hc hx hk
    have hm : (m + 1) * (c0 + cb) = m * (c0 + cb) + (c0 + cb) := Nat.succ_mul _ _
    unfold sy_wh
    refine hc0 X F n (n + c0) env [] _ (Nat.le_refl _) (by omega) (Nat.le_refl _) (fun x => ?_)
    cases x
    · simpa using sn_wid (by omega) hx (hk env)
    · simpa using hs X F (n + c0) (n + c0 + cb) env _ (Nat.le_refl _) (by omega) (fun env' => ns_whil hc0 hs m X F (n + c0 + cb) n' env' k (by omega) hx hk)
theorem ns_while {c0 cb m : Nat} {c : sy_CE} {s : sy_S} (hc0 : sn_C c0 μ 0 pc p1 p2 c) (hs : sn_S cb μ p1 pc s) : sn_S (m * (c0 + cb)) μ pc p2 (sy_wh c s m) := ns_whil hc0 hs m
theorem ns_istore_n {c : Nat} {q : Fin 4} {i : Nat} {e : sy_IE} (h : sn_I c μ 0 pc p1 e) (d : decode μ.2.1 p1 = .ok (.istore_n q, 1)) (hq : (q : Nat) = i) (hi : i < μ.2.2.2.2.1) : sn_S c μ pc (p1 + 1) (sy_sSI i e) := by
  subst hq
  exact fun X F n n' env k hc hx hk => h X F n n' env [] _ hc hx (Nat.le_refl _) (fun x => sy_istore_n F.1 d hi (hk _))
theorem ns_istore {c : Nat} {i : Nat} {e : sy_IE} (h : sn_I c μ 0 pc p1 e) (d : decode μ.2.1 p1 = .ok (.istore i, 2)) (hi : i < μ.2.2.2.2.1) : sn_S c μ pc (p1 + 2) (sy_sSI i e) := fun X F n n' env k hc hx hk => h X F n n' env [] _ hc hx (Nat.le_refl _) (fun x => sy_istore F.1 d hi (hk _))
theorem ns_astore_n {c : Nat} {q : Fin 4} {i : Nat} {e : sy_RE} (h : sn_R c μ 0 pc p1 e) (d : decode μ.2.1 p1 = .ok (.astore_n q, 1)) (hq : (q : Nat) = i) (hi : i < μ.2.2.2.2.1) : sn_S c μ pc (p1 + 1) (sy_sSR i e) := by
  subst hq
  exact fun X F n n' env k hc hx hk => h X F n n' env [] _ hc hx (Nat.le_refl _) (fun x => sy_astore_n F.1 d hi (hk _))
theorem ns_astore {c : Nat} {i : Nat} {e : sy_RE} (h : sn_R c μ 0 pc p1 e) (d : decode μ.2.1 p1 = .ok (.astore i, 2)) (hi : i < μ.2.2.2.2.1) : sn_S c μ pc (p1 + 2) (sy_sSR i e) := fun X F n n' env k hc hx hk => h X F n n' env [] _ hc hx (Nat.le_refl _) (fun x => sy_astore F.1 d hi (hk _))
theorem ns_lstore_n {c : Nat} {q : Fin 4} {i : Nat} {e : sy_LE} (h : sn_L c μ 0 pc p1 e) (d : decode μ.2.1 p1 = .ok (.lstore_n q, 1)) (hq : (q : Nat) = i) (hi : i + 1 < μ.2.2.2.2.1) : sn_S c μ pc (p1 + 1) (sy_sSL i e) := by
  subst hq
  exact fun X F n n' env k hc hx hk => h X F n n' env [] _ hc hx (Nat.le_refl _) (fun x => sy_lstore_n F.1 d hi (hk _))
theorem ns_lstore {c : Nat} {i : Nat} {e : sy_LE} (h : sn_L c μ 0 pc p1 e) (d : decode μ.2.1 p1 = .ok (.lstore i, 2)) (hi : i + 1 < μ.2.2.2.2.1) : sn_S c μ pc (p1 + 2) (sy_sSL i e) := fun X F n n' env k hc hx hk => h X F n n' env [] _ hc hx (Nat.le_refl _) (fun x => sy_lstore F.1 d hi (hk _))
theorem ns_iinc {i : Nat} {z : Int} {v : Int32} (d : decode μ.2.1 pc = .ok (.iinc i z, 3)) (hv : Int32.ofInt z = v) (hi : i < μ.2.2.2.2.1) : sn_S 0 μ pc (pc + 3) (sy_sIn i v) := ns_of (os_iinc d hv hi)
theorem ns_iast {ca cb cd : Nat} {r : sy_RE} {i e : sy_IE} (hr : sn_R ca μ 0 pc p1 r) (hi : sn_I cb μ 1 p1 p2 i) (he : sn_I cd μ 2 p2 p3 e) (d : decode μ.2.1 p3 = .ok (.iastore, 1)) : sn_S (ca + cb + cd) μ pc (p3 + 1) (sy_sW r i e) := by
  intro X FN n n' env kk hc hx hk
  unfold sy_sW
  refine hr X FN n (n + ca) env [] _ (Nat.le_refl _) (by omega) (Nat.le_refl _) (fun a => ?_)
  refine hi X FN (n + ca) (n + ca + cb) env _ _ (Nat.le_refl _) (by omega) (sy_sR (Nat.le_refl _)) (fun x => ?_)
  refine he X FN (n + ca + cb) n' env _ _ (by omega) hx (sy_s1 (sy_sR (Nat.le_refl _))) (fun v => ?_)
  exact sy_mW_B FN.1 d (hk env)
theorem sn_mA {X : sy_Cx} {n : Nat} {env st : List Value} (F : sy_FX X μ) {a : Nat} {x : Int32} {k : Int32 → sy_MM (Option Value)} (d : decode μ.2.1 pc = .ok (.iaload, 1)) (hk : ∀ v, sy_B X n (pc + 1) env (.int v :: st) (k v)) : sy_B X n pc env (.int x :: .ref a :: st) (sy_bnd (sy_mA 0 a x) k) := by
  by_cases h : sy_inb x (sy_len 0 a) = true
  · obtain ⟨h1, h2⟩ := sy_inb_of h
    unfold sy_mA
    rw [sy_bnd_ift h]
    exact sy_iald F d (sy_len_of h2) h1 hk
  · exact sy_vac (sy_bnd_iff h)
theorem ns_aop {ca cb cd : Nat} {r : sy_RE} {i e : sy_IE} (hr : sn_R ca μ 0 pc p1 r) (hi : sn_I cb μ 1 p1 p2 i) (d0 : decode μ.2.1 p2 = .ok (.dup2, 1)) (d1 : decode μ.2.1 (p2 + 1) = .ok (.iaload, 1)) (he : sn_I cd μ 3 (p2 + 2) p3 e) (d2 : decode μ.2.1 p3 = .ok (.iadd, 1)) (d3 : decode μ.2.1 (p3 + 1) = .ok (.iastore, 1)) : sn_S (ca + cb + cd) μ pc (p3 + 2) (sy_sA r i e) := by
  intro X FN n n' env kk hc hx hk
  unfold sy_sA
  refine hr X FN n (n + ca) env [] _ (Nat.le_refl _) (by omega) (Nat.le_refl _) (fun a => ?_)
  refine hi X FN (n + ca) (n + ca + cb) env _ _ (Nat.le_refl _) (by omega) (sy_sR (Nat.le_refl _)) (fun x => ?_)
  refine sy_dup2 FN.1 d0 rfl rfl ?_
  refine sn_mA FN.1 d1 (fun v => ?_)
  refine he X FN (n + ca + cb) n' env _ _ (by omega) hx (sy_s1 (sy_s1 (sy_sR (Nat.le_refl _)))) (fun w => ?_)
  refine sy_iadd FN.1 d2 ?_
  exact sy_mW_B FN.1 d3 (hk env)
theorem ns_call {ca cb : Nat} {c : List Value → sy_MM (Option Value)} {as : sy_AE} (ha : sn_A ca μ 0 pc p1 as) (hc0 : sn_K cb μ 0 p1 c) : sn_S (ca + cb) μ pc (p1 + 3) (sy_sC c as) := by
  intro X F n n' env k hc hx hk
  unfold sy_sC
  refine ha X F n (n + ca) env [] _ (Nat.le_refl _) (by omega) (Nat.le_refl _) (fun vs => ?_)
  refine hc0 X F (n + ca) n' env [] vs _ (by omega) hx (Nat.le_refl _) (fun r => ?_)
  cases r with
  | none => exact hk env
  | some v => exact sy_vac (fun _ => rfl)
theorem ns_retI {c : Nat} {e : sy_IE} (h : sn_I c μ 0 pc p1 e) (d : decode μ.2.1 p1 = .ok (.ireturn, 1)) (hr : μ.2.2.1 = some .int) : sn_S c μ pc pc' (sy_eI e) := fun X F n n' env k hc hx hk => h X F n n' env [] _ hc hx (Nat.le_refl _) (fun x => sy_retB F.1 (some (.int x)) ⟨d, Or.inl hr⟩)
theorem ns_retZ {c : Nat} {e : sy_IE} (h : sn_I c μ 0 pc p1 e) (d : decode μ.2.1 p1 = .ok (.ireturn, 1)) (hr : μ.2.2.1 = some .boolean) : sn_S c μ pc pc' (sy_eZ e) := fun X F n n' env k hc hx hk => h X F n n' env [] _ hc hx (Nat.le_refl _) (fun x => sy_01_B (fun hx => sy_retB F.1 (some (.int x)) ⟨d, Or.inr ⟨hr, hx⟩⟩))
theorem ns_retL {c : Nat} {e : sy_LE} (h : sn_L c μ 0 pc p1 e) (d : decode μ.2.1 p1 = .ok (.lreturn, 1)) (hr : μ.2.2.1 = some .long) : sn_S c μ pc pc' (sy_eL e) := fun X F n n' env k hc hx hk => h X F n n' env [] _ hc hx (Nat.le_refl _) (fun x => sy_retB F.1 (some (.long x)) ⟨d, hr⟩)
theorem ns_retA {c : Nat} {e : sy_RE} {E : FieldType} (h : sn_R c μ 0 pc p1 e) (d : decode μ.2.1 p1 = .ok (.areturn, 1)) (hr : μ.2.2.1 = some (.array E)) : sn_S c μ pc pc' (sy_eR e) := fun X F n n' env k hc hx hk => h X F n n' env [] _ hc hx (Nat.le_refl _) (fun x => sy_retB F.1 (some (.ref x)) ⟨d, Or.inr ⟨E, hr⟩⟩)
theorem ns_retV (d : decode μ.2.1 pc = .ok (.return_, 1)) (hr : μ.2.2.1 = none) : sn_S 0 μ pc pc' sy_eV := ns_of (os_retV d hr)
end SNB
