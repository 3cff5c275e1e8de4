/-! EVALUATION of the law's expressions and statements -/
section LA2
def lg (σ : sy_Mem) (a j : Nat) : Int64 := sy_jn (σ a (2 * j)) (σ a (2 * j + 1))
theorem hl_jn (a b : Int32) : sy_hi (sy_jn a b) = a ∧ sy_lo (sy_jn a b) = b := by
  constructor
  · apply Int32.toBitVec_inj.mp
    show (a.toBitVec ++ b.toBitVec : BitVec 64).extractLsb' 32 32 = a.toBitVec
    apply BitVec.eq_of_getLsbD_eq
    intro i hi
    rw [BitVec.getLsbD_extractLsb', BitVec.getLsbD_append]
    simp [hi, show ¬ 32 + i < 32 by omega, show 32 + i - 32 = i by omega]
  · apply Int32.toBitVec_inj.mp
    show (a.toBitVec ++ b.toBitVec : BitVec 64).extractLsb' 0 32 = b.toBitVec
    apply BitVec.eq_of_getLsbD_eq
    intro i hi
    rw [BitVec.getLsbD_extractLsb', BitVec.getLsbD_append]
    simp [hi]
theorem lg_up {σ : sy_Mem} {a j b i : Nat} {v : Int64} : lg (sy_upL σ a j v) b i = if b = a ∧ i = j then v else lg σ b i := by
  unfold lg sy_upL sy_up upd
  by_cases hb : b = a
  · subst hb
    by_cases hi : i = j
    · subst hi
      simp [sy_jn_hl]
    · have e1 : ¬ 2 * i = 2 * j := by omega
      have e2 : ¬ 2 * i = 2 * j + 1 := by omega
      have e3 : ¬ 2 * i + 1 = 2 * j := by omega
      have e4 : ¬ 2 * i + 1 = 2 * j + 1 := by omega
      simp [hi, e1, e2, e3, e4]
  · simp [hb]
theorem upL_ne {σ : sy_Mem} {a j b : Nat} {v : Int64} (h : b ≠ a) : sy_upL σ a j v b = σ b := by simp [sy_upL, sy_up, h]
theorem up_ne {σ : sy_Mem} {a j b : Nat} {v : Int32} (h : b ≠ a) : sy_up σ a j v b = σ b := by simp [sy_up, h]
theorem up_at {σ : sy_Mem} {a j i : Nat} {v : Int32} : sy_up σ a j v a i = if i = j then v else σ a i := by simp [sy_up, upd]
theorem lg_up0 {σ : sy_Mem} {a j b i : Nat} {v : Int32} (h : b ≠ a) : lg (sy_up σ a j v) b i = lg σ b i := by unfold lg; rw [up_ne h]
theorem ki_inb {i n : Nat} (h : i < n) (hn : n ≤ 2 ^ 31) : sy_inb (nI i) n = true := by
  unfold sy_inb
  rw [nI_clamp (by omega)]
  simp only [Bool.and_eq_true, decide_eq_true_eq]
  exact ⟨by rw [Int32.le_iff_toInt_le, nI_toInt (by omega)]; show (0 : Int) ≤ i; omega, h⟩
variable {σ σ1 σ2 σ3 : sy_Mem} {env : List Value} {k : List Value → sy_MM (Option Value)} {r : Option (((Option Value) ⊕ Nat) × sy_Mem)}
theorem ee_X {a : sy_LE} {x : Int64} (h : a env σ = some (.inl x, σ1)) : sy_iX a env σ = some (.inl x.toInt32, σ1) := by unfold sy_iX; rw [sy_bnd_at h]; rfl
theorem ee_lS {f : Int64 → Int64 → Int64} {a : sy_LE} {b : sy_IE} {x : Int64} {y : Int32} (ha : a env σ = some (.inl x, σ1)) (hb : b env σ1 = some (.inl y, σ2)) : sy_lS f a b env σ = some (.inl (f x (y.toInt64 &&& 63)), σ2) := by
  unfold sy_lS; rw [sy_bnd_at ha, sy_bnd_at hb]; rfl
theorem ee_lA {rr : sy_RE} {i : sy_IE} {a j : Nat} (hr : rr env σ = some (.inl a, σ1)) (hi : i env σ1 = some (.inl (nI j), σ2)) (h : j < sy_len 3 a) (h2 : sy_len 3 a ≤ 200) : sy_lA rr i env σ = some (.inl (lg σ2 a j), σ2) := by
  unfold sy_lA
  rw [sy_bnd_at hr, sy_bnd_at hi]
  unfold sy_mL
  rw [if_pos (ki_inb h (by omega)), nI_clamp (by omega)]
  rfl
theorem ee_T {rr : sy_RE} {i : sy_IE} {a j : Nat} (hr : rr env σ = some (.inl a, σ1)) (hi : i env σ1 = some (.inl (nI j), σ2)) (ht : sy_isT a σ2 = true) (h : j < sy_tl a) : sy_iT rr i env σ = some (.inl (σ2 a j), σ2) := by
  have h5 : sy_tl a ≤ 5 := by unfold sy_tl; split <;> omega
  unfold sy_iT
  rw [sy_bnd_at hr, sy_bnd_at hi]
  unfold sy_mT
  rw [if_pos (by rw [ht, ki_inb h (by omega)]; rfl), nI_clamp (by omega)]
theorem ee_aL {e : sy_LE} {as : sy_AE} {x : Int64} {vs : List Value} (he : e env σ = some (.inl x, σ1)) (ha : as env σ1 = some (.inl vs, σ2)) : sy_aL e as env σ = some (.inl (.long x :: vs), σ2) := by
  unfold sy_aL; rw [sy_bnd_at he, sy_bnd_at ha]; rfl
theorem ee_rQ {c : sy_CE} {a b : sy_RE} {z : Bool} {x y : Nat} (hc : c env σ = some (.inl z, σ1)) (ha : z = true → a env σ1 = some (.inl x, σ1)) (hb : z = false → b env σ1 = some (.inl y, σ1)) : sy_rQ c a b env σ = some (.inl (if z then x else y), σ1) := by
  unfold sy_rQ; rw [sy_bnd_at hc]
  cases z
  · exact hb rfl
  · exact ha rfl
theorem ee_lQ {c : sy_CE} {a b : sy_LE} {z : Bool} {x y : Int64} (hc : c env σ = some (.inl z, σ1)) (ha : z = true → a env σ1 = some (.inl x, σ1)) (hb : z = false → b env σ1 = some (.inl y, σ1)) : sy_lQ c a b env σ = some (.inl (if z then x else y), σ1) := by
  unfold sy_lQ; rw [sy_bnd_at hc]
  cases z
  · exact hb rfl
  · exact ha rfl
theorem ee_cL {f : Int64 → Int64 → Bool} {a b : sy_LE} {x y : Int64} (ha : a env σ = some (.inl x, σ1)) (hb : b env σ1 = some (.inl y, σ2)) : sy_cL f a b env σ = some (.inl (f x y), σ2) := by
  unfold sy_cL; rw [sy_bnd_at ha, sy_bnd_at hb]; rfl
theorem ee_lM {c : List Value → sy_MM (Option Value)} {as : sy_AE} {vs : List Value} {x : Int64} (ha : as env σ = some (.inl vs, σ1)) (hc : c vs σ1 = some (.inl (some (.long x)), σ2)) : sy_lM c as env σ = some (.inl x, σ2) := by
  unfold sy_lM; rw [sy_bnd_at ha, sy_bnd_at hc]; rfl
theorem ee_cr {m : Nat} {g : List Value → sy_MM (Option Value)} {vs : List Value} {v : Option Value} (h : g vs σ = some (.inl v, σ1)) (hm : (vs.length == m) = true) : sy_cr m g vs σ = some (.inl v, σ1) := by
  unfold sy_cr
  rw [if_pos hm, h]
theorem ke_meth {nL : Nat} {s : sy_S} {vs : List Value} {v : Option Value} (h : s (sy_ea vs) (fun _ => sy_fail) σ = some (.inl v, σ1)) (hz : (vs.map (fun v => if v.category = 2 then 2 else 1)).sum ≤ nL) : sy_mthN nL (sy_bd s) vs σ = some (.inl v, σ1) := by
  unfold sy_mthN
  rw [if_pos hz]
  unfold sy_bd
  rw [h]
theorem es_WL {rr : sy_RE} {i : sy_IE} {e : sy_LE} {a j : Nat} {v : Int64} (hr : rr env σ = some (.inl a, σ)) (hi : i env σ = some (.inl (nI j), σ)) (he : e env σ = some (.inl v, σ1)) (h : j < sy_len 3 a) (h2 : sy_len 3 a ≤ 200) (hk : k env (sy_upL σ1 a j v) = r) : sy_sWL rr i e env k σ = r := by
  unfold sy_sWL
  rw [sy_bnd_at hr, sy_bnd_at hi, sy_bnd_at he]
  have hm : sy_mV a (nI j) v σ1 = some (.inl (), sy_upL σ1 a j v) := by
    unfold sy_mV
    rw [if_pos (ki_inb h (by omega)), nI_clamp (by omega)]
  rw [sy_bnd_at hm]
  exact hk
theorem es_AL {rr : sy_RE} {i : sy_IE} {e : sy_LE} {a j : Nat} {w : Int64} (hr : rr env σ = some (.inl a, σ)) (hi : i env σ = some (.inl (nI j), σ)) (he : e env σ = some (.inl w, σ1)) (h : j < sy_len 3 a) (h2 : sy_len 3 a ≤ 200) (hk : k env (sy_upL σ1 a j (lg σ a j + w)) = r) : sy_sAL rr i e env k σ = r := by
  unfold sy_sAL
  have hm1 : sy_mL a (nI j) σ = some (.inl (lg σ a j), σ) := by
    unfold sy_mL
    rw [if_pos (ki_inb h (by omega)), nI_clamp (by omega)]
    rfl
  rw [sy_bnd_at hr, sy_bnd_at hi, sy_bnd_at hm1, sy_bnd_at he]
  have hm : sy_mV a (nI j) (lg σ a j + w) σ1 = some (.inl (), sy_upL σ1 a j (lg σ a j + w)) := by
    unfold sy_mV
    rw [if_pos (ki_inb h (by omega)), nI_clamp (by omega)]
  rw [sy_bnd_at hm]
  exact hk
theorem es_Wn {rr : sy_RE} {i e : sy_IE} {a j : Nat} {v : Int32} (hr : rr env σ = some (.inl a, σ)) (hi : i env σ = some (.inl (nI j), σ)) (he : e env σ = some (.inl v, σ1)) (h : j < sy_len 0 a) (h2 : sy_len 0 a ≤ 200) (hk : k env (sy_up σ1 a j v) = r) : sy_sW rr i e env k σ = r := by
  refine es_W hr hi he (ki_inb h (by omega)) ?_
  rw [nI_clamp (by omega)]
  exact hk
theorem es_An {rr : sy_RE} {i e : sy_IE} {a j : Nat} {w : Int32} (hr : rr env σ = some (.inl a, σ)) (hi : i env σ = some (.inl (nI j), σ)) (he : e env σ = some (.inl w, σ1)) (h : j < sy_len 0 a) (h2 : sy_len 0 a ≤ 200) (hk : k env (sy_up σ1 a j (σ a j + w)) = r) : sy_sA rr i e env k σ = r := by
  unfold sy_sA
  have hm1 : sy_mA 0 a (nI j) σ = some (.inl (σ a j), σ) := by
    unfold sy_mA
    rw [if_pos (ki_inb h (by omega)), nI_clamp (by omega)]
  rw [sy_bnd_at hr, sy_bnd_at hi, sy_bnd_at hm1, sy_bnd_at he]
  have hm : sy_mW 0 a (nI j) (σ a j + w) σ1 = some (.inl (), sy_up σ1 a j (σ a j + w)) := by
    unfold sy_mW
    rw [if_pos (ki_inb h (by omega)), nI_clamp (by omega)]
  rw [sy_bnd_at hm]
  exact hk
theorem es_WT {rr : sy_RE} {i e : sy_IE} {a j : Nat} {v : Int32} (hr : rr env σ = some (.inl a, σ)) (hi : i env σ = some (.inl (nI j), σ)) (he : e env σ = some (.inl v, σ1)) (ht : sy_isT a σ1 = true) (h : j < sy_tl a) (hk : k env (sy_up σ1 a j v) = r) : sy_sWT rr i e env k σ = r := by
  have h5 : sy_tl a ≤ 5 := by unfold sy_tl; split <;> omega
  unfold sy_sWT
  rw [sy_bnd_at hr, sy_bnd_at hi, sy_bnd_at he]
  have hm : sy_mU a (nI j) v σ1 = some (.inl (), sy_up σ1 a j v) := by
    unfold sy_mU
    rw [if_pos (by rw [ht, ki_inb h (by omega)]; rfl), nI_clamp (by omega)]
  rw [sy_bnd_at hm]
  exact hk
theorem es_AT {rr : sy_RE} {i e : sy_IE} {a j : Nat} {w : Int32} (hr : rr env σ = some (.inl a, σ)) (hi : i env σ = some (.inl (nI j), σ)) (ht0 : sy_isT a σ = true) (he : e env σ = some (.inl w, σ1)) (ht : sy_isT a σ1 = true) (h : j < sy_tl a) (hk : k env (sy_up σ1 a j (σ a j + w)) = r) : sy_sAT rr i e env k σ = r := by
  have h5 : sy_tl a ≤ 5 := by unfold sy_tl; split <;> omega
  unfold sy_sAT
  have hm1 : sy_mT a (nI j) σ = some (.inl (σ a j), σ) := by
    unfold sy_mT
    rw [if_pos (by rw [ht0, ki_inb h (by omega)]; rfl), nI_clamp (by omega)]
  rw [sy_bnd_at hr, sy_bnd_at hi, sy_bnd_at hm1, sy_bnd_at he]
  have hm : sy_mU a (nI j) (σ a j + w) σ1 = some (.inl (), sy_up σ1 a j (σ a j + w)) := by
    unfold sy_mU
    rw [if_pos (by rw [ht, ki_inb h (by omega)]; rfl), nI_clamp (by omega)]
  rw [sy_bnd_at hm]
  exact hk
theorem es_New {kk i : Nat} {s : sy_S} {v : Option Value} (h1 : (sy_top kk σ && sy_nor kk env) = true) (h : s (sy_set env i (.ref kk)) (fun env' τ => if !(τ 58 kk == 1) && sy_nor kk env' then k env' τ else none) (sy_new kk σ) = some (.inl v, σ1)) (h2 : ((σ1 58 kk == 1) || sy_rk kk v) = false) : sy_sNew kk i s env k σ = some (.inl v, σ1) := by
  unfold sy_sNew
  rw [if_pos h1, h]
  dsimp only
  rw [h2]
  rfl
theorem es_Drp {kk i : Nat} (h : ((σ 58 kk == 1) && sy_top (kk + 1) σ) = true) (hk : k (sy_set env i .null) (sy_drp kk σ) = r) : sy_sDrp kk i env k σ = r := by
  unfold sy_sDrp
  rw [if_pos h]
  exact hk
/-- a loop without an end inside: N turns -/
theorem ks_wh {c : sy_CE} {s : sy_S} {E : Nat → List Value} {S : Nat → sy_Mem} {N : Nat} (hs : ∀ i, i < N → c (E i) (S i) = some (.inl true, S i) ∧ ∀ k', s (E i) k' (S i) = k' (E (i + 1)) (S (i + 1))) (he : c (E N) (S N) = some (.inl false, S N)) : ∀ (n a m : Nat), a + n = N → n < m → sy_wh c s m (E a) k (S a) = k (E N) (S N)
  | 0, a, m + 1, ha, hm => by
    have : a = N := by omega
    subst this
    unfold sy_wh
    rw [sy_bnd_at he]
    simp
  | n + 1, a, m + 1, ha, hm => by
    obtain ⟨h1, h2⟩ := hs a (by omega)
    unfold sy_wh
    rw [sy_bnd_at h1]
    simp only [if_true]
    rw [h2]
    exact ks_wh hs he n (a + 1) m (by omega) (by omega)
end LA2
