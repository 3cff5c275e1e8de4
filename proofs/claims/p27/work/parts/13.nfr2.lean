/-! PASSING ROWS of the law's (new int[5] ..), their making and leaving; calls of the law's own methods -/
section SNC
def sy_isT (a : Nat) (σ : sy_Mem) : Bool := decide (53 ≤ a) && decide (a ≤ 57) && (σ 58 a == 1)
theorem sy_isT_of {a : Nat} {σ : sy_Mem} (h : sy_isT a σ = true) : a ∈ sy_tp σ := by
  unfold sy_isT at h
  simp only [Bool.and_eq_true, decide_eq_true_eq, beq_iff_eq] at h
  exact sy_tp_of h.1.1 h.1.2 h.2
def sy_mT (a : Nat) (x : Int32) : sy_MM Int32 := fun σ => if sy_isT a σ && sy_inb x (sy_tl a) then some (.inl (σ a x.toNatClampNeg), σ) else none
def sy_mU (a : Nat) (x v : Int32) : sy_MM Unit := fun σ => if sy_isT a σ && sy_inb x (sy_tl a) then some (.inl (), sy_up σ a x.toNatClampNeg v) else none
section SNC1
variable {X : sy_Cx} {μ : sy_Mu} {n pc : Nat} {env st : List Value}
theorem sn_mT (F : sy_FX X μ) {a : Nat} {x : Int32} {k : Int32 → sy_MM (Option Value)} (d : decode μ.2.1 pc = .ok (.iaload, 1)) (hk : ∀ v, sy_B X n (pc + 1) env (.int v :: st) (k v)) : sy_B X n pc env (.int x :: .ref a :: st) (sy_bnd (sy_mT a x) k) := by
  intro σ hn hf H locs ls hP hS hE
  by_cases h : (sy_isT a σ && sy_inb x (sy_tl a)) = true
  · have h2 := h
    rw [Bool.and_eq_true] at h2
    obtain ⟨j, hj, hw⟩ := sy_wd_t (b := sy_xb X) (cA := sy_xA X) (sy_isT_of h2.1)
    simp only [sy_bnd, sy_mT, if_pos h] at hf
    exact va_iald F.e F.c F.k hP.1 (sy_N + j) 0 hw rfl (sy_inb_of h2.2).1 d (hk _ σ hn hf H locs ls hP hS hE)
  · simp only [sy_bnd, sy_mT, if_neg h] at hf
    cases hf
theorem sn_mU (F : sy_FX X μ) {a : Nat} {x v : Int32} {kk : sy_MM (Option Value)} (d : decode μ.2.1 pc = .ok (.iastore, 1)) (hk : sy_B X n (pc + 1) env st kk) : sy_B X n pc env (.int v :: .int x :: .ref a :: st) (sy_bnd (sy_mU a x v) fun _ => kk) := by
  intro σ hn hf H locs ls hP hS hE
  by_cases h : (sy_isT a σ && sy_inb x (sy_tl a)) = true
  · have h2 := h
    rw [Bool.and_eq_true] at h2
    obtain ⟨j, hj, hw⟩ := sy_wd_t (b := sy_xb X) (cA := sy_xA X) (sy_isT_of h2.1)
    simp only [sy_bnd, sy_mU, if_pos h] at hf
    refine va_iast F.e F.c F.k hP.1 hP.2 hS (sy_N + j) 0 hw rfl (sy_inb_of h2.2).1 d (fun H1 locs1 hP1 hD1 hS1 => ?_)
    have e := sy_wd_ts (b := sy_xb X) (cA := sy_xA X) (σ := σ) (τ := sy_up σ a x.toNatClampNeg v) hj (fun i hi => by simp [sy_up, hi])
    have e2 : sy_te (sy_xb X) (sy_xA X) (sy_up σ a x.toNatClampNeg v) a = (sy_ad (sy_xb X) a, .inl (sy_xA X 0, sy_tl a, .inl (upd (σ a) x.toNatClampNeg v))) := by simp [sy_te, sy_up]
    rw [e2] at e
    rw [e] at hP1 hD1
    exact hk _ hn hf H1 locs1 ls ⟨hP1, hD1⟩ hS1 hE
  · simp only [sy_bnd, sy_mU, if_neg h] at hf
    cases hf
end SNC1
variable {μ : sy_Mu} {sk pc pc' p1 p2 p3 : Nat}
def sy_iT (r : sy_RE) (i : sy_IE) : sy_IE := fun env => sy_bnd (r env) fun a => sy_bnd (i env) fun x => sy_mT a x
theorem ni_tald {ca cb : Nat} {r : sy_RE} {i : sy_IE} (hr : sn_R ca μ sk pc p1 r) (hi : sn_I cb μ (sk + 1) p1 p2 i) (d : decode μ.2.1 p2 = .ok (.iaload, 1)) : sn_I (ca + cb) μ sk pc (p2 + 1) (sy_iT r i) := by
  intro X FN n n' env st k hc hx hs hk
  unfold sy_iT
  rw [sy_bnd_bnd]
  refine hr X FN n (n + ca) env st _ (Nat.le_refl _) (by omega) hs (fun a => ?_)
  rw [sy_bnd_bnd]
  refine hi X FN (n + ca) n' env _ _ (by omega) hx (sy_sR hs) (fun x => ?_)
  exact sn_mT FN.1 d hk
def sy_sWT (r : sy_RE) (i e : sy_IE) : sy_S := fun env kk => sy_bnd (r env) fun a => sy_bnd (i env) fun x => sy_bnd (e env) fun v => sy_bnd (sy_mU a x v) fun _ => kk env
theorem ns_tast {ca cb cd : Nat} {r : sy_RE} {i e : sy_IE} (hr : sn_R ca μ 0 pc p1 r) (hi : sn_I cb μ 1 p1 p2 i) (he : sn_I cd μ 2 p2 p3 e) (d : decode μ.2.1 p3 = .ok (.iastore, 1)) : sn_S (ca + cb + cd) μ pc (p3 + 1) (sy_sWT r i e) := by
  intro X FN n n' env kk hc hx hk
  unfold sy_sWT
  refine hr X FN n (n + ca) env [] _ (Nat.le_refl _) (by omega) (Nat.le_refl _) (fun a => ?_)
  refine hi X FN (n + ca) (n + ca + cb) env _ _ (Nat.le_refl _) (by omega) (sy_sR (Nat.le_refl _)) (fun x => ?_)
  refine he X FN (n + ca + cb) n' env _ _ (by omega) hx (sy_s1 (sy_sR (Nat.le_refl _))) (fun v => ?_)
  exact sn_mU FN.1 d (hk env)
def sy_sAT (r : sy_RE) (i e : sy_IE) : sy_S := fun env kk => sy_bnd (r env) fun a => sy_bnd (i env) fun x => sy_bnd (sy_mT a x) fun v => sy_bnd (e env) fun w => sy_bnd (sy_mU a x (v + w)) fun _ => kk env
theorem ns_taop {ca cb cd : Nat} {r : sy_RE} {i e : sy_IE} (hr : sn_R ca μ 0 pc p1 r) (hi : sn_I cb μ 1 p1 p2 i) (d0 : decode μ.2.1 p2 = .ok (.dup2, 1)) (d1 : decode μ.2.1 (p2 + 1) = .ok (.iaload, 1)) (he : sn_I cd μ 3 (p2 + 2) p3 e) (d2 : decode μ.2.1 p3 = .ok (.iadd, 1)) (d3 : decode μ.2.1 (p3 + 1) = .ok (.iastore, 1)) : sn_S (ca + cb + cd) μ pc (p3 + 2) (sy_sAT r i e) := by
  intro X FN n n' env kk hc hx hk
  unfold sy_sAT
  refine hr X FN n (n + ca) env [] _ (Nat.le_refl _) (by omega) (Nat.le_refl _) (fun a => ?_)
  refine hi X FN (n + ca) (n + ca + cb) env _ _ (Nat.le_refl _) (by omega) (sy_sR (Nat.le_refl _)) (fun x => ?_)
  refine sy_dup2 FN.1 d0 rfl rfl ?_
  refine sn_mT FN.1 d1 (fun v => ?_)
  refine he X FN (n + ca + cb) n' env _ _ (by omega) hx (sy_s1 (sy_s1 (sy_sR (Nat.le_refl _)))) (fun w => ?_)
  refine sy_iadd FN.1 d2 ?_
  exact sn_mU FN.1 d3 (hk env)
-- a row comes
def sy_new (k : Nat) (σ : sy_Mem) : sy_Mem := fun j => if j = k then (fun _ => 0) else if j = 58 then upd (σ 58) k 1 else σ j
def sy_drp (k : Nat) (σ : sy_Mem) : sy_Mem := sy_up σ 58 k 0
def sy_top (k : Nat) (σ : sy_Mem) : Bool := [53, 54, 55, 56, 57].all (fun j => decide (j < k) || !(σ 58 j == 1))
theorem sy_top_of {k j : Nat} {σ : sy_Mem} (h : sy_top k σ = true) (hj : j ∈ sy_tp σ) : j < k := by
  obtain ⟨h1, h2⟩ := List.mem_filter.mp hj
  have := List.all_eq_true.mp h j h1
  simp only [Bool.or_eq_true, decide_eq_true_eq, Bool.not_eq_true'] at this
  rcases this with q | q
  · exact q
  · rw [h2] at q; cases q
theorem sy_tp_new {k : Nat} {σ : sy_Mem} (h1 : 53 ≤ k) (h2 : k ≤ 57) (h : sy_top k σ = true) : sy_tp (sy_new k σ) = sy_tp σ ++ [k] := by
  have hp : ∀ j, j < k → ((sy_new k σ) 58 j == 1) = (σ 58 j == 1) := fun j hj => by
    have e1 : ¬ 58 = k := by omega
    have e2 : j ≠ k := by omega
    simp [sy_new, e1, upd, e2]
  have hk : ((sy_new k σ) 58 k == 1) = true := by
    have e1 : ¬ 58 = k := by omega
    simp [sy_new, e1, upd]
  have hq : ∀ j, k < j → j ≤ 57 → ((sy_new k σ) 58 j == 1) = false := fun j hj hj2 => by
    have e1 : ¬ 58 = k := by omega
    have e2 : j ≠ k := by omega
    have e3 : ((sy_new k σ) 58 j == 1) = (σ 58 j == 1) := by simp [sy_new, e1, upd, e2]
    rw [e3]
    cases hc : (σ 58 j == 1) with
    | false => rfl
    | true => exact absurd (sy_top_of h (sy_tp_of (by omega) hj2 (by simpa using hc))) (by omega)
  have hr : ∀ j, k ≤ j → j ≤ 57 → (σ 58 j == 1) = false := fun j hj hj2 => by
    cases hc : (σ 58 j == 1) with
    | false => rfl
    | true => exact absurd (sy_top_of h (sy_tp_of (by omega) hj2 (by simpa using hc))) (by omega)
  unfold sy_tp
  rcases (show k = 53 ∨ k = 54 ∨ k = 55 ∨ k = 56 ∨ k = 57 by omega) with rfl | rfl | rfl | rfl | rfl
  · simp [List.filter_cons, hk, hq 54 (by omega) (by omega), hq 55 (by omega) (by omega), hq 56 (by omega) (by omega), hq 57 (by omega) (by omega), hr 53 (by omega) (by omega), hr 54 (by omega) (by omega), hr 55 (by omega) (by omega), hr 56 (by omega) (by omega), hr 57 (by omega) (by omega)]
  · simp only [List.filter_cons, List.filter_nil, hk, hp 53 (by omega), hq 55 (by omega) (by omega), hq 56 (by omega) (by omega), hq 57 (by omega) (by omega), hr 54 (by omega) (by omega), hr 55 (by omega) (by omega), hr 56 (by omega) (by omega), hr 57 (by omega) (by omega)]
    cases (σ 58 53 == 1) <;> rfl
  · simp only [List.filter_cons, List.filter_nil, hk, hp 53 (by omega), hp 54 (by omega), hq 56 (by omega) (by omega), hq 57 (by omega) (by omega), hr 55 (by omega) (by omega), hr 56 (by omega) (by omega), hr 57 (by omega) (by omega)]
    cases (σ 58 53 == 1) <;> cases (σ 58 54 == 1) <;> rfl
  · simp only [List.filter_cons, List.filter_nil, hk, hp 53 (by omega), hp 54 (by omega), hp 55 (by omega), hq 57 (by omega) (by omega), hr 56 (by omega) (by omega), hr 57 (by omega) (by omega)]
    cases (σ 58 53 == 1) <;> cases (σ 58 54 == 1) <;> cases (σ 58 55 == 1) <;> rfl
  · simp only [List.filter_cons, List.filter_nil, hk, hp 53 (by omega), hp 54 (by omega), hp 55 (by omega), hp 56 (by omega), hr 57 (by omega) (by omega)]
    cases (σ 58 53 == 1) <;> cases (σ 58 54 == 1) <;> cases (σ 58 55 == 1) <;> cases (σ 58 56 == 1) <;> rfl
/-- the base with a row at q -/
def sy_bq (b : sy_Bs) (k q : Nat) : sy_Bs := (b.1, fun j => if j = k then q else b.2 j)
theorem sy_bq_ne {b : sy_Bs} {k q j : Nat} (h : j ≠ k) : sy_ad (sy_bq b k q) j = sy_ad b j := by
  unfold sy_ad sy_bq
  simp [h]
theorem sy_bq_k {b : sy_Bs} {k q : Nat} (h : 53 ≤ k) : sy_ad (sy_bq b k q) k = q := by
  rw [sy_ad_ge h]
  simp [sy_bq]
theorem sy_lay_j {k ci i j : Nat} {fs : List (Option Nat)} (h : sy_lay k = .inl (ci, fs)) (hj : fs[i]? = some (some j)) : j < 53 := by
  have hm : some j ∈ fs := List.mem_of_getElem? hj
  unfold sy_lay at h
  split at h <;> first
    | (cases h; simp only [List.mem_cons, List.not_mem_nil, or_false, Option.some.injEq, reduceCtorEq, false_or] at hm; omega)
    | cases h
/-- the cells that are always there don't see where a passing row lies -/
theorem sy_w0_bq {b : sy_Bs} {cA : Nat → ClassId} {σ : sy_Mem} {k q : Nat} (hk : 53 ≤ k) (i : Nat) (hi : i < 53) : (sy_ad (sy_bq b k q) i, sy_cell (sy_bq b k q) cA σ i) = (sy_ad b i, sy_cell b cA σ i) := by
  have e1 : sy_ad (sy_bq b k q) i = sy_ad b i := sy_bq_ne (by omega)
  rw [e1]
  congr 1
  unfold sy_cell
  cases hl : sy_lay i with
  | inl x =>
    obtain ⟨ci, fs⟩ := x
    simp only [Sum.inr.injEq, Prod.mk.injEq, true_and]
    apply List.ext_getElem?
    intro j
    rw [List.getElem?_mapIdx, List.getElem?_mapIdx]
    cases hf : fs[j]? with
    | none => rfl
    | some o =>
      cases o with
      | none => rfl
      | some z =>
        have := sy_lay_j hl hf
        simp only [Option.map_some]
        rw [sy_bq_ne (by omega)]
  | inr x =>
    obtain ⟨kd, m⟩ := x
    match kd with
    | 0 => rfl
    | 1 => rfl
    | 2 => rfl
    | (_ + 3) => rfl
theorem sy_wd_bq {b : sy_Bs} {cA : Nat → ClassId} {σ : sy_Mem} {k q : Nat} (hk : 53 ≤ k) (h : k ∉ sy_tp σ) : sy_wd (sy_bq b k q) cA σ = sy_wd b cA σ := by
  unfold sy_wd
  have e0 : sy_w0 (sy_bq b k q) cA σ = sy_w0 b cA σ := List.map_congr_left fun i hi => sy_w0_bq hk i (List.mem_range.mp hi)
  have e1 : sy_w1 (sy_bq b k q) cA σ = sy_w1 b cA σ := List.map_congr_left fun i hi => by
    have hik : i ≠ k := fun e => h (e ▸ hi)
    unfold sy_te
    rw [sy_bq_ne hik]
  rw [e0, e1]
theorem sy_wd_new {b : sy_Bs} {cA : Nat → ClassId} {σ : sy_Mem} {k q : Nat} (h1 : 53 ≤ k) (h2 : k ≤ 57) (h : sy_top k σ = true) : sy_wd (sy_bq b k q) cA (sy_new k σ) = sy_wd b cA σ ++ [(q, .inl (cA 0, sy_tl k, .inl (fun _ => 0)))] := by
  have hn : ∀ i, i ≠ k → i ≠ 58 → sy_new k σ i = σ i := fun i a c => by simp [sy_new, a, c]
  have h0 : sy_w0 (sy_bq b k q) cA (sy_new k σ) = sy_w0 b cA σ := by
    unfold sy_w0
    refine List.map_congr_left fun i hi => ?_
    have hi' : i < 53 := List.mem_range.mp hi
    rw [sy_w0_bq h1 i hi']
    simp only [sy_cell, hn i (by omega) (by omega)]
  unfold sy_wd
  rw [h0, List.append_assoc]
  congr 1
  unfold sy_w1
  rw [sy_tp_new h1 h2 h, List.map_append]
  congr 1
  · refine List.map_congr_left fun i hi => ?_
    have hi' := sy_top_of h hi
    have hi2 := sy_tp_ge hi
    unfold sy_te
    rw [sy_bq_ne (by omega), hn i (by omega) (by omega)]
  · simp only [List.map_cons, List.map_nil, sy_te, sy_bq_k h1]
    simp [sy_new]
theorem sy_drp_tp {k : Nat} {σ : sy_Mem} (h1 : 53 ≤ k) (h2 : k ≤ 57) (hp : σ 58 k = 1) (h : sy_top (k + 1) σ = true) : sy_top k (sy_drp k σ) = true ∧ sy_tp σ = sy_tp (sy_drp k σ) ++ [k] := by
  have hd : ∀ j, j ≠ k → (sy_drp k σ) 58 j = σ 58 j := fun j hj => by simp [sy_drp, sy_up, upd, hj]
  have hdk : (sy_drp k σ) 58 k = 0 := by simp [sy_drp, sy_up, upd]
  have ht : sy_top k (sy_drp k σ) = true := by
    refine List.all_eq_true.mpr fun j hj => ?_
    have := List.all_eq_true.mp h j hj
    simp only [Bool.or_eq_true, decide_eq_true_eq, Bool.not_eq_true'] at this ⊢
    by_cases e : j = k
    · subst e
      right
      rw [hdk]
      rfl
    · rcases this with q | q
      · left; omega
      · right
        rw [hd j e]
        exact q
  refine ⟨ht, ?_⟩
  rw [← sy_tp_new h1 h2 ht]
  refine (sy_tp_set ?_).symm
  funext j
  have e1 : ¬ 58 = k := by omega
  by_cases e : j = k
  · subst e
    simp [sy_new, e1, upd, hp]
  · simp [sy_new, e1, upd, e, sy_drp, sy_up]
theorem sy_wd_drp {b : sy_Bs} {cA : Nat → ClassId} {σ : sy_Mem} {k : Nat} (h1 : 53 ≤ k) (h2 : k ≤ 57) (hp : σ 58 k = 1) (h : sy_top (k + 1) σ = true) : sy_wd b cA σ = sy_wd b cA (sy_drp k σ) ++ [sy_te b cA σ k] := by
  have hd : ∀ i, i ≠ 58 → sy_drp k σ i = σ i := fun i hi => by simp [sy_drp, sy_up, hi]
  have e0 : sy_w0 b cA σ = sy_w0 b cA (sy_drp k σ) := List.map_congr_left fun i hi => by
    have hi' : i < 53 := List.mem_range.mp hi
    simp only [sy_cell, hd i (by omega)]
  have e1 : sy_w1 b cA σ = sy_w1 b cA (sy_drp k σ) ++ [sy_te b cA σ k] := by
    unfold sy_w1
    rw [(sy_drp_tp h1 h2 hp h).2, List.map_append]
    refine congrArg (· ++ _) (List.map_congr_left fun i hi => ?_)
    have := sy_tp_ge hi
    unfold sy_te
    rw [hd i (by omega)]
  unfold sy_wd
  rw [e0, e1, List.append_assoc]
theorem va_P_left {D : va_G} {cl : List vw_C} {w1 w2 : va_W} {H : Heap} (h : va_P D cl (w1 ++ w2) H) : va_P D cl w1 H := fun i q hi => h i q (by rw [List.getElem?_append_left (List.getElem?_eq_some_iff.mp hi).1]; exact hi)
theorem va_D_left {A : Nat → Prop} {w1 w2 : va_W} (h : va_D A (w1 ++ w2)) : va_D A w1 := by
  have e : ∀ (i : Nat) (q : Nat × va_E), w1[i]? = some q → (w1 ++ w2)[i]? = some q := fun i q hi => by rw [List.getElem?_append_left (List.getElem?_eq_some_iff.mp hi).1]; exact hi
  exact ⟨fun i j p q hp hq => h.1 i j p q (e i p hp) (e j q hq), fun k q hk => h.2 k q (e k q hk)⟩
-- the locals don't name it
def sy_nor (k : Nat) (env : List Value) : Bool := env.all (fun v => match v with | .ref a => !(a == k) | _ => true)
theorem sy_nor_of {k : Nat} {env : List Value} (h : sy_nor k env = true) {b : sy_Bs} {q i : Nat} {v : Value} (hv : env[i]? = some v) : sy_sh (sy_bq b k q) v = sy_sh b v := by
  have := List.all_eq_true.mp h v (List.mem_of_getElem? hv)
  cases v with
  | ref a =>
    simp only [Bool.not_eq_true', beq_eq_false_iff_ne, ne_eq] at this
    show Value.ref _ = Value.ref _
    rw [sy_bq_ne this]
  | _ => rfl
theorem sy_eok_bq {b : sy_Bs} {k q nL : Nat} {env : List Value} {ls : Array Slot} (h : sy_nor k env = true) : sy_eok (sy_bq b k q) ls nL env ↔ sy_eok b ls nL env := by
  constructor
  · rintro ⟨a, c, d⟩
    exact ⟨a, c, fun i v hv hn => by rw [← sy_nor_of h hv (b := b) (q := q)]; exact d i v hv hn⟩
  · rintro ⟨a, c, d⟩
    exact ⟨a, c, fun i v hv hn => by rw [sy_nor_of h hv]; exact d i v hv hn⟩
/-- 'int[] x = new int[n]', and what follows up to the row's leaving -/
def sy_rk (k : Nat) : Option Value → Bool | some (.ref a) => a == k | _ => false
def sy_sNew (k i : Nat) (s : sy_S) : sy_S := fun env kk σ =>
  if sy_top k σ && sy_nor k env then
    match s (sy_set env i (.ref k)) (fun env' τ => if !(τ 58 k == 1) && sy_nor k env' then kk env' τ else none) (sy_new k σ) with
    | some (.inl v, τ) => if (τ 58 k == 1) || sy_rk k v then none else some (.inl v, τ)
    | _ => none
  else none
def sy_sDrp (k i : Nat) : sy_S := fun env kk σ => if (σ 58 k == 1) && sy_top (k + 1) σ then kk (sy_set env i .null) (sy_drp k σ) else none
theorem sy_set_null {env : List Value} {i j : Nat} {v : Value} (h : (sy_set env i .null)[j]? = some v) (hv : v ≠ .null) : env[j]? = some v := by
  rcases sy_set_get h hv with ⟨-, e⟩ | ⟨-, e, -⟩
  · exact absurd e hv
  · exact e
theorem ns_drp {k i : Nat} (h1 : 53 ≤ k) (h2 : k ≤ 57) : sn_S 0 μ pc pc (sy_sDrp k i) := by
  intro X FN n n' env kk hc hx hk σ hn hf H locs ls hP hS hE
  unfold sy_sDrp at hf
  split at hf
  · rename_i h
    simp only [Bool.and_eq_true, beq_iff_eq] at h
    have e := sy_wd_drp (b := sy_xb X) (cA := sy_xA X) h1 h2 h.1 h.2
    have hP1 : sy_P X (sy_drp k σ) H := ⟨va_P_left (by rw [← e]; exact hP.1), va_D_left (by rw [← e]; exact hP.2)⟩
    exact sn_wid hc hx (hk _) (sy_drp k σ) hn hf H locs ls hP1 hS ⟨hE.1, hE.2.1, fun j v hj hv => hE.2.2 j v (sy_set_null hj hv) hv⟩
  · cases hf
end SNC
