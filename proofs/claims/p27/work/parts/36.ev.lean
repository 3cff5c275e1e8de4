/-! evaluation rows: an expression, a condition, a statement in a given list of locals and memory -/
section YE
abbrev ya_b (c : Bool) : Int32 := if c then 1 else 0
theorem ya_b01 (c : Bool) : ya_b c = 0 ∨ ya_b c = 1 := by cases c <;> simp [ya_b]
theorem ya_b0 (c : Bool) : (!decide (ya_b c = 0)) = c := by cases c <;> decide
theorem ya_b_inj {c d : Bool} (h : ya_b c = ya_b d) : c = d := by cases c <;> cases d <;> first | rfl | exact absurd h (by decide)
/-- the first i from a on, among n, with P -/
def ya_ff (P : Nat → Bool) : Nat → Nat → Option Nat
  | 0, _ => none
  | n + 1, a => if P a then some a else ya_ff P n (a + 1)
/-- a walk upward of at most n steps, to the first one with Q -/
def ya_walk (nx : Int32 → Int32) (Q : Int32 → Bool) : Nat → Int32 → Option Int32
  | 0, _ => none
  | n + 1, s => if s = -1 then none else if Q s then some s else ya_walk nx Q n (nx s)
theorem ya_ff_some {P : Nat → Bool} : ∀ {n a i : Nat}, ya_ff P n a = some i ↔ a ≤ i ∧ i < a + n ∧ P i = true ∧ ∀ j, a ≤ j → j < i → P j = false
  | 0, a, i => by simp [ya_ff]; omega
  | n + 1, a, i => by
    unfold ya_ff
    by_cases h : P a = true
    · rw [if_pos h]
      constructor
      · rintro h2
        cases h2
        exact ⟨Nat.le_refl _, by omega, h, fun j h1 h2 => absurd h1 (by omega)⟩
      · rintro ⟨h1, h2, h3, h4⟩
        rcases Nat.lt_or_ge a i with q | q
        · exact absurd (h4 a (Nat.le_refl _) q) (by simp [h])
        · rw [show i = a by omega]
    · rw [if_neg h, ya_ff_some]
      constructor
      · rintro ⟨h1, h2, h3, h4⟩
        refine ⟨by omega, by omega, h3, fun j g1 g2 => ?_⟩
        rcases Nat.lt_or_ge a j with q | q
        · exact h4 j q g2
        · rw [show j = a by omega]
          simpa using h
      · rintro ⟨h1, h2, h3, h4⟩
        have : i ≠ a := fun e => h (e ▸ h3)
        exact ⟨by omega, by omega, h3, fun j g1 g2 => h4 j (by omega) g2⟩
theorem ya_ff_none {P : Nat → Bool} : ∀ {n a : Nat}, ya_ff P n a = none ↔ ∀ j, a ≤ j → j < a + n → P j = false
  | 0, a => by simp [ya_ff]; omega
  | n + 1, a => by
    unfold ya_ff
    by_cases h : P a = true
    · rw [if_pos h]
      constructor
      · intro h2
        cases h2
      · intro h2
        exact absurd (h2 a (Nat.le_refl _) (by omega)) (by simp [h])
    · rw [if_neg h, ya_ff_none]
      constructor
      · intro h2 j g1 g2
        rcases Nat.lt_or_ge a j with q | q
        · exact h2 j q (by omega)
        · rw [show j = a by omega]
          simpa using h
      · intro h2 j g1 g2
        exact h2 j (by omega) (by omega)
variable {env : List Value} {σ σ1 σ2 : sy_Mem}
-- expressions
theorem ee_K {v : Int32} : sy_iK v env σ = some (.inl v, σ) := rfl
theorem ee_lK {v : Int64} : sy_lK v env σ = some (.inl v, σ) := rfl
theorem ee_L {i : Nat} {x : Int32} (h : env[i]? = some (.int x)) : sy_iL i env σ = some (.inl x, σ) := by unfold sy_iL; rw [h]; rfl
theorem ee_R {i : Nat} {x : Nat} (h : env[i]? = some (.ref x)) : sy_rL i env σ = some (.inl x, σ) := by unfold sy_rL; rw [h]; rfl
theorem ee_LL {i : Nat} {x : Int64} (h : env[i]? = some (.long x)) : sy_lL i env σ = some (.inl x, σ) := by unfold sy_lL; rw [h]; rfl
theorem ee_B {f : Int32 → Int32 → Int32} {a b : sy_IE} {x y : Int32} (ha : a env σ = some (.inl x, σ1)) (hb : b env σ1 = some (.inl y, σ2)) : sy_iB f a b env σ = some (.inl (f x y), σ2) := by
  unfold sy_iB; rw [sy_bnd_at ha, sy_bnd_at hb]; rfl
theorem ee_Dv {q : Bool} {a b : sy_IE} {x y : Int32} (ha : a env σ = some (.inl x, σ1)) (hb : b env σ1 = some (.inl y, σ2)) (hy : ¬ y = 0) : sy_iDv q a b env σ = some (.inl (if q then x / y else x - x / y * y), σ2) := by
  unfold sy_iDv; rw [sy_bnd_at ha, sy_bnd_at hb, if_neg hy]; rfl
theorem ee_cB {f : Int32 → Int32 → Bool} {a b : sy_IE} {x y : Int32} (ha : a env σ = some (.inl x, σ1)) (hb : b env σ1 = some (.inl y, σ2)) : sy_cB f a b env σ = some (.inl (f x y), σ2) := by
  unfold sy_cB; rw [sy_bnd_at ha, sy_bnd_at hb]; rfl
theorem ee_lB {f : Int64 → Int64 → Int64} {a b : sy_LE} {x y : Int64} (ha : a env σ = some (.inl x, σ1)) (hb : b env σ1 = some (.inl y, σ2)) : sy_lB f a b env σ = some (.inl (f x y), σ2) := by
  unfold sy_lB; rw [sy_bnd_at ha, sy_bnd_at hb]; rfl
theorem ee_lI {e : sy_IE} {x : Int32} (h : e env σ = some (.inl x, σ1)) : sy_lI e env σ = some (.inl x.toInt64, σ1) := by unfold sy_lI; rw [sy_bnd_at h]; rfl
theorem ee_cI {e : sy_IE} {x : Int32} (h : e env σ = some (.inl x, σ1)) : sy_cI e env σ = some (.inl (!decide (x = 0)), σ1) := by unfold sy_cI; rw [sy_bnd_at h]; rfl
theorem ee_cb {e : sy_IE} {c : Bool} (h : e env σ = some (.inl (ya_b c), σ1)) : sy_cI e env σ = some (.inl c, σ1) := by rw [ee_cI h, ya_b0]
theorem ee_cN {c : sy_CE} {x : Bool} (h : c env σ = some (.inl x, σ1)) : sy_cN c env σ = some (.inl (!x), σ1) := by unfold sy_cN; rw [sy_bnd_at h]; rfl
theorem ee_cA {a b : sy_CE} {x y : Bool} (ha : a env σ = some (.inl x, σ1)) (hb : x = true → b env σ1 = some (.inl y, σ1)) : sy_cA a b env σ = some (.inl (x && y), σ1) := by
  unfold sy_cA; rw [sy_bnd_at ha]
  cases x
  · rfl
  · exact hb rfl
theorem ee_cO {a b : sy_CE} {x y : Bool} (ha : a env σ = some (.inl x, σ1)) (hb : x = false → b env σ1 = some (.inl y, σ1)) : sy_cO a b env σ = some (.inl (x || y), σ1) := by
  unfold sy_cO; rw [sy_bnd_at ha]
  cases x
  · exact hb rfl
  · rfl
theorem ee_cQ {c a b : sy_CE} {z x y : Bool} (hc : c env σ = some (.inl z, σ1)) (ha : z = true → a env σ1 = some (.inl x, σ1)) (hb : z = false → b env σ1 = some (.inl y, σ1)) : sy_cQ c a b env σ = some (.inl (if z then x else y), σ1) := by
  unfold sy_cQ; rw [sy_bnd_at hc]
  cases z
  · exact hb rfl
  · exact ha rfl
theorem ee_c0 {r : sy_RE} {x : Nat} (h : r env σ = some (.inl x, σ1)) : sy_c0 r env σ = some (.inl false, σ1) := by unfold sy_c0; rw [sy_bnd_at h]; rfl
theorem ee_iC {c : sy_CE} {x : Bool} (h : c env σ = some (.inl x, σ1)) : sy_iC c env σ = some (.inl (ya_b x), σ1) := by unfold sy_iC; rw [sy_bnd_at h]; rfl
theorem ee_iQ {c : sy_CE} {a b : sy_IE} {z : Bool} {x y : Int32} (hc : c env σ = some (.inl z, σ1)) (ha : z = true → a env σ1 = some (.inl x, σ1)) (hb : z = false → b env σ1 = some (.inl y, σ1)) : sy_iQ c a b env σ = some (.inl (if z then x else y), σ1) := by
  unfold sy_iQ; rw [sy_bnd_at hc]
  cases z
  · exact hb rfl
  · exact ha rfl
theorem ee_F {ci k : Nat} {r : sy_RE} {a : Nat} (hr : r env σ = some (.inl a, σ1)) (h : sy_isI ci k a = true) : sy_iF ci k r env σ = some (.inl (σ1 a k), σ1) := by
  unfold sy_iF; rw [sy_bnd_at hr]; unfold sy_mG; rw [if_pos h]
theorem ee_rF {ci k : Nat} {r : sy_RE} {a j : Nat} (hr : r env σ = some (.inl a, σ1)) (h : sy_isF ci k a = some j) : sy_rF ci k r env σ = some (.inl j, σ1) := by
  unfold sy_rF; rw [sy_bnd_at hr, h]; rfl
theorem ee_A {kd : Nat} {r : sy_RE} {i : sy_IE} {a : Nat} {x : Int32} (hr : r env σ = some (.inl a, σ1)) (hi : i env σ1 = some (.inl x, σ2)) (h : sy_inb x (sy_len kd a) = true) : sy_iA kd r i env σ = some (.inl (σ2 a x.toNatClampNeg), σ2) := by
  unfold sy_iA; rw [sy_bnd_at hr, sy_bnd_at hi]; unfold sy_mA; rw [if_pos h]
theorem ee_V {r : sy_RE} {i : sy_IE} {a : Nat} {x : Int32} (hr : r env σ = some (.inl a, σ1)) (hi : i env σ1 = some (.inl x, σ2)) (h : sy_inb x (sy_len 2 a) = true) : sy_rV r i env σ = some (.inl (sy_vw x.toNatClampNeg), σ2) := by
  unfold sy_rV; rw [sy_bnd_at hr, sy_bnd_at hi, if_pos h]; rfl
theorem ee_N {r : sy_RE} {a m : Nat} (hr : r env σ = some (.inl a, σ1)) (h : sy_al a = some m) : sy_iN r env σ = some (.inl (Int32.ofNat m), σ1) := by
  unfold sy_iN; rw [sy_bnd_at hr, h]; rfl
theorem ee_aN : sy_aN env σ = some (.inl [], σ) := rfl
theorem ee_aI {e : sy_IE} {as : sy_AE} {x : Int32} {vs : List Value} (he : e env σ = some (.inl x, σ1)) (ha : as env σ1 = some (.inl vs, σ2)) : sy_aI e as env σ = some (.inl (.int x :: vs), σ2) := by
  unfold sy_aI; rw [sy_bnd_at he, sy_bnd_at ha]; rfl
theorem ee_aR {e : sy_RE} {as : sy_AE} {x : Nat} {vs : List Value} (he : e env σ = some (.inl x, σ1)) (ha : as env σ1 = some (.inl vs, σ2)) : sy_aR e as env σ = some (.inl (.ref x :: vs), σ2) := by
  unfold sy_aR; rw [sy_bnd_at he, sy_bnd_at ha]; rfl
theorem ee_cv {ci m : Nat} {g : List Value → sy_MM (Option Value)} {vs : List Value} {r : Option (((Option Value) ⊕ Nat) × sy_Mem)} (h : g vs σ = r) (hr : sy_rc ci m vs = true) : sy_cv ci m g vs σ = r := by
  unfold sy_cv; rw [if_pos hr]; exact h
theorem ee_cs {m : Nat} {g : List Value → sy_MM (Option Value)} {vs : List Value} {r : Option (((Option Value) ⊕ Nat) × sy_Mem)} (h : g vs σ = r) (hr : (vs.length == m) = true) : sy_cs m g vs σ = r := by
  unfold sy_cs; rw [if_pos hr]; exact h
theorem ee_cn {m : Nat} {g : List Value → sy_MM (Option Value)} {vs : List Value} {v : Option Value} (h : g vs σ = some (.inl v, σ1)) (hr : (vs.length == m) = true) : sy_cn m g vs σ = some (.inl v, σ1) := by
  unfold sy_cn; rw [if_pos hr]
  simp only [h]
theorem ee_M {c : List Value → sy_MM (Option Value)} {as : sy_AE} {vs : List Value} {x : Int32} (ha : as env σ = some (.inl vs, σ1)) (hc : c vs σ1 = some (.inl (some (.int x)), σ2)) : sy_iM c as env σ = some (.inl x, σ2) := by
  unfold sy_iM; rw [sy_bnd_at ha, sy_bnd_at hc]; rfl
theorem ee_rM {c : List Value → sy_MM (Option Value)} {as : sy_AE} {vs : List Value} {x : Nat} (ha : as env σ = some (.inl vs, σ1)) (hc : c vs σ1 = some (.inl (some (.ref x)), σ2)) : sy_rM c as env σ = some (.inl x, σ2) := by
  unfold sy_rM; rw [sy_bnd_at ha, sy_bnd_at hc]; rfl
theorem ee_mth {m : Nat} {s : List Value → sy_MM (Option Value)} {vs : List Value} {r : Option (((Option Value) ⊕ Nat) × sy_Mem)} (h : s vs σ = r) (h1 : (vs.length == m && vs.all (fun v => v.category == 1)) = true) : sy_mth m s vs σ = r := by
  unfold sy_mth; rw [if_pos h1]; exact h
theorem ee_meth {m : Nat} {s : sy_S} {vs : List Value} {r : Option (((Option Value) ⊕ Nat) × sy_Mem)} (h : s vs (fun _ => sy_fail) σ = r) (h1 : (vs.length == m && vs.all (fun v => v.category == 1)) = true) : sy_mth m (sy_bd s) vs σ = r := ee_mth h h1
-- statements
variable {k : List Value → sy_MM (Option Value)} {r r1 r2 : Option (((Option Value) ⊕ Nat) × sy_Mem)}
theorem es_N (h : k env σ = r) : sy_sN env k σ = r := h
theorem es_Q {a b : sy_S} (h : a env (fun env' => b env' k) σ = r) : sy_sQ a b env k σ = r := h
theorem es_B {m : Nat} {s : sy_S} (h : s env (fun env' => k (env'.take m)) σ = r) : sy_sB m s env k σ = r := h
theorem es_I {c : sy_CE} {a b : sy_S} {x : Bool} (hc : c env σ = some (.inl x, σ1)) (h1 : x = true → a env k σ1 = r1) (h2 : x = false → b env k σ1 = r2) : sy_sI c a b env k σ = if x then r1 else r2 := by
  unfold sy_sI; rw [sy_bnd_at hc]
  cases x
  · exact h2 rfl
  · exact h1 rfl
theorem es_IP {c : sy_CE} {a b : sy_S} {x : Bool} {u v : Int32} (hc : c env σ = some (.inl x, σ1)) (h1 : x = true → a env k σ1 = some (.inl (some (.int u)), σ2)) (h2 : x = false → b env k σ1 = some (.inl (some (.int v)), σ2)) : sy_sI c a b env k σ = some (.inl (some (.int (if x then u else v))), σ2) := by
  unfold sy_sI; rw [sy_bnd_at hc]
  cases x
  · exact h2 rfl
  · exact h1 rfl
theorem es_IB {c : sy_CE} {a b : sy_S} {x u v : Bool} (hc : c env σ = some (.inl x, σ1)) (h1 : x = true → a env k σ1 = some (.inl (some (.int (ya_b u))), σ2)) (h2 : x = false → b env k σ1 = some (.inl (some (.int (ya_b v))), σ2)) : sy_sI c a b env k σ = some (.inl (some (.int (ya_b (if x then u else v)))), σ2) := by
  unfold sy_sI; rw [sy_bnd_at hc]
  cases x
  · exact h2 rfl
  · exact h1 rfl
theorem es_IL {c : sy_CE} {a b : sy_S} {x p1 p2 : Bool} (hc : c env σ = some (.inl x, σ1)) (h1 : x = true → a env k σ1 = if p1 then r1 else r2) (h2 : x = false → b env k σ1 = if p2 then r1 else r2) : sy_sI c a b env k σ = if (if x then p1 else p2) then r1 else r2 := by
  unfold sy_sI; rw [sy_bnd_at hc]
  cases x
  · exact h2 rfl
  · exact h1 rfl
theorem es_IT {c : sy_CE} {a b : sy_S} {x p2 : Bool} (hc : c env σ = some (.inl x, σ1)) (h1 : x = true → a env k σ1 = r1) (h2 : x = false → b env k σ1 = if p2 then r1 else r2) : sy_sI c a b env k σ = if (x || p2) then r1 else r2 := by
  unfold sy_sI; rw [sy_bnd_at hc]
  cases x
  · exact h2 rfl
  · exact h1 rfl
theorem es_lT (h : r = r1) : r = if true then r1 else r2 := h
theorem es_lF (h : r = r2) : r = if false then r1 else r2 := h
theorem es_SI {i : Nat} {e : sy_IE} {x : Int32} (h : e env σ = some (.inl x, σ1)) (hk : k (sy_set env i (.int x)) σ1 = r) : sy_sSI i e env k σ = r := by
  unfold sy_sSI; rw [sy_bnd_at h]; exact hk
theorem es_SR {i : Nat} {e : sy_RE} {x : Nat} (h : e env σ = some (.inl x, σ1)) (hk : k (sy_set env i (.ref x)) σ1 = r) : sy_sSR i e env k σ = r := by
  unfold sy_sSR; rw [sy_bnd_at h]; exact hk
theorem es_SL {i : Nat} {e : sy_LE} {x : Int64} (h : e env σ = some (.inl x, σ1)) (hk : k (sy_set (sy_set env (i + 1) .null) i (.long x)) σ1 = r) : sy_sSL i e env k σ = r := by
  unfold sy_sSL; rw [sy_bnd_at h]; exact hk
theorem es_In {i : Nat} {z x : Int32} (h : env[i]? = some (.int x)) (hk : k (sy_set env i (.int (x + z))) σ = r) : sy_sIn i z env k σ = r := by
  unfold sy_sIn; rw [h]; exact hk
theorem es_eI {e : sy_IE} {x : Int32} (h : e env σ = some (.inl x, σ1)) : sy_eI e env k σ = some (.inl (some (.int x)), σ1) := by
  unfold sy_eI; rw [sy_bnd_at h]; rfl
theorem es_eL {e : sy_LE} {x : Int64} (h : e env σ = some (.inl x, σ1)) : sy_eL e env k σ = some (.inl (some (.long x)), σ1) := by
  unfold sy_eL; rw [sy_bnd_at h]; rfl
theorem es_eR {e : sy_RE} {x : Nat} (h : e env σ = some (.inl x, σ1)) : sy_eR e env k σ = some (.inl (some (.ref x)), σ1) := by
  unfold sy_eR; rw [sy_bnd_at h]; rfl
theorem es_01 {x : Int32} (h : x = 0 ∨ x = 1) : sy_01 x σ = some (.inl x, σ) := by
  unfold sy_01; rw [if_pos h]; rfl
theorem es_eZ {e : sy_IE} {x : Int32} (h : e env σ = some (.inl x, σ1)) (h1 : x = 0 ∨ x = 1) : sy_eZ e env k σ = some (.inl (some (.int x)), σ1) := by
  unfold sy_eZ; rw [sy_bnd_at h, sy_bnd_at (es_01 h1)]; rfl
theorem es_eZb {e : sy_IE} {c : Bool} (h : e env σ = some (.inl (ya_b c), σ1)) : sy_eZ e env k σ = some (.inl (some (.int (ya_b c))), σ1) := es_eZ h (ya_b01 c)
theorem es_eZ0 : sy_eZ (sy_iK 0) env k σ = some (.inl (some (.int (ya_b false))), σ) := rfl
theorem es_eZ1 : sy_eZ (sy_iK 1) env k σ = some (.inl (some (.int (ya_b true))), σ) := rfl
theorem es_eV : sy_eV env k σ = some (.inl none, σ) := rfl
theorem es_eT {E : Nat} : sy_eT E env k σ = some (.inr E, σ) := rfl
theorem es_C {c : List Value → sy_MM (Option Value)} {as : sy_AE} {vs : List Value} (ha : as env σ = some (.inl vs, σ1)) (hc : c vs σ1 = some (.inl none, σ2)) (hk : k env σ2 = r) : sy_sC c as env k σ = r := by
  unfold sy_sC; rw [sy_bnd_at ha, sy_bnd_at hc]; exact hk
theorem es_E {e : sy_IE} {x : Int32} (h : e env σ = some (.inl x, σ1)) (hk : k env σ1 = r) : sy_sE e env k σ = r := by
  unfold sy_sE; rw [sy_bnd_at h]; exact hk
/-- a call that throws unless c, and does nothing else -/
theorem es_need {c : List Value → sy_MM (Option Value)} {as : sy_AE} {vs : List Value} {x : Bool} {E : Nat} (ha : as env σ = some (.inl vs, σ)) (hc : c vs σ = if x then some (.inl none, σ) else some (.inr E, σ)) (hk : x = true → k env σ = r) : sy_sC c as env k σ = if x then r else some (.inr E, σ) := by
  unfold sy_sC; rw [sy_bnd_at ha]
  cases x
  · show sy_bnd _ _ σ = _
    unfold sy_bnd
    rw [hc]
    rfl
  · exact (sy_bnd_at hc).trans (hk rfl)
theorem es_X {e : sy_IE} {f : Int32 → sy_S} {x : Int32} (h : e env σ = some (.inl x, σ1)) (hk : f x env k σ1 = r) : sy_sX e f env k σ = r := by
  unfold sy_sX; rw [sy_bnd_at h]; exact hk
theorem es_P {ci j : Nat} {rr : sy_RE} {e : sy_IE} {a : Nat} {x : Int32} (hr : rr env σ = some (.inl a, σ)) (he : e env σ = some (.inl x, σ1)) (h : sy_isI ci j a = true) (hk : k env (sy_up σ1 a j x) = r) : sy_sP ci j rr e env k σ = r := by
  unfold sy_sP; rw [sy_bnd_at hr, sy_bnd_at he]; unfold sy_mP
  exact (sy_bnd_at (if_pos h)).trans hk
theorem es_PZ {ci j : Nat} {rr : sy_RE} {e : sy_IE} {a : Nat} {x : Int32} (hr : rr env σ = some (.inl a, σ)) (he : e env σ = some (.inl x, σ1)) (h1 : x = 0 ∨ x = 1) (h : sy_isI ci j a = true) (hk : k env (sy_up σ1 a j x) = r) : sy_sPZ ci j rr e env k σ = r := by
  unfold sy_sPZ; rw [sy_bnd_at hr, sy_bnd_at he, sy_bnd_at (es_01 h1)]; unfold sy_mP
  exact (sy_bnd_at (if_pos h)).trans hk
theorem es_W {rr : sy_RE} {i e : sy_IE} {a : Nat} {x v : Int32} (hr : rr env σ = some (.inl a, σ)) (hi : i env σ = some (.inl x, σ)) (he : e env σ = some (.inl v, σ1)) (h : sy_inb x (sy_len 0 a) = true) (hk : k env (sy_up σ1 a x.toNatClampNeg v) = r) : sy_sW rr i e env k σ = r := by
  unfold sy_sW; rw [sy_bnd_at hr, sy_bnd_at hi, sy_bnd_at he]; unfold sy_mW
  exact (sy_bnd_at (if_pos h)).trans hk
theorem es_WZ {rr : sy_RE} {i e : sy_IE} {a : Nat} {x v : Int32} (hr : rr env σ = some (.inl a, σ)) (hi : i env σ = some (.inl x, σ)) (he : e env σ = some (.inl v, σ1)) (h1 : v = 0 ∨ v = 1) (h : sy_inb x (sy_len 1 a) = true) (hk : k env (sy_up σ1 a x.toNatClampNeg v) = r) : sy_sWZ rr i e env k σ = r := by
  unfold sy_sWZ; rw [sy_bnd_at hr, sy_bnd_at hi, sy_bnd_at he, sy_bnd_at (es_01 h1)]; unfold sy_mW
  exact (sy_bnd_at (if_pos h)).trans hk
theorem es_A {rr : sy_RE} {i e : sy_IE} {a : Nat} {x v : Int32} (hr : rr env σ = some (.inl a, σ)) (hi : i env σ = some (.inl x, σ)) (he : e env σ = some (.inl v, σ)) (h : sy_inb x (sy_len 0 a) = true) (hk : k env (sy_up σ a x.toNatClampNeg (σ a x.toNatClampNeg + v)) = r) : sy_sA rr i e env k σ = r := by
  unfold sy_sA; rw [sy_bnd_at hr, sy_bnd_at hi]; unfold sy_mA sy_mW
  rw [sy_bnd_at (if_pos h), sy_bnd_at he]
  exact (sy_bnd_at (if_pos h)).trans hk
theorem es_F {f : Int32 → Int32 → Int32} {ci j : Nat} {rr : sy_RE} {e : sy_IE} {a : Nat} {v : Int32} (hr : rr env σ = some (.inl a, σ)) (he : e env σ = some (.inl v, σ)) (h : sy_isI ci j a = true) (hk : k env (sy_up σ a j (f (σ a j) v)) = r) : sy_sF f ci j rr e env k σ = r := by
  unfold sy_sF; rw [sy_bnd_at hr]; unfold sy_mG sy_mP
  rw [sy_bnd_at (if_pos h), sy_bnd_at he]
  exact (sy_bnd_at (if_pos h)).trans hk
-- loops
/-- a search: the memory stays, the locals but the counter stay -/
theorem es_for {c : sy_CE} {s : sy_S} {E : Nat → List Value} {P : Nat → Bool} {R : Nat → Option (((Option Value) ⊕ Nat) × sy_Mem)} : ∀ (n a m : Nat), n < m →
    (∀ i, a ≤ i → i < a + n → c (E i) σ = some (.inl true, σ)) → c (E (a + n)) σ = some (.inl false, σ) →
    (∀ i, a ≤ i → i < a + n → ∀ k', s (E i) k' σ = if P i then R i else k' (E (i + 1)) σ) →
    sy_wh c s m (E a) k σ = (ya_ff P n a).elim (k (E (a + n)) σ) R
  | 0, a, m + 1, _, _, he, _ => by
    rw [Nat.add_zero] at he
    unfold sy_wh
    rw [sy_bnd_at he]
    rfl
  | n + 1, a, m + 1, hm, hc, he, hs => by
    unfold sy_wh
    rw [sy_bnd_at (hc a (Nat.le_refl _) (by omega))]
    simp only [if_true]
    rw [hs a (Nat.le_refl _) (by omega)]
    unfold ya_ff
    by_cases hP : P a = true
    · rw [if_pos hP, if_pos hP]
      rfl
    · rw [if_neg hP, if_neg hP, es_for n (a + 1) m (by omega) (fun i h1 h2 => hc i (by omega) (by omega)) (by rw [show a + 1 + n = a + (n + 1) by omega]; exact he) (fun i h1 h2 => hs i (by omega) (by omega)), show a + 1 + n = a + (n + 1) by omega]
  | _, _, 0, hm, _, _, _ => absurd hm (by omega)
theorem es_forP {c : sy_CE} {s : sy_S} {E : Nat → List Value} {P : Nat → Bool} {R : Nat → Int32} {v : Int32} {n a m : Nat} (hm : n < m)
    (hc : ∀ i, a ≤ i → i < a + n → c (E i) σ = some (.inl true, σ)) (he : c (E (a + n)) σ = some (.inl false, σ))
    (hs : ∀ i, a ≤ i → i < a + n → ∀ k', s (E i) k' σ = if P i then some (.inl (some (.int (R i))), σ) else k' (E (i + 1)) σ) (hk : ya_ff P n a = none → k (E (a + n)) σ = some (.inl (some (.int v)), σ)) :
    sy_wh c s m (E a) k σ = some (.inl (some (.int ((ya_ff P n a).elim v R))), σ) := by
  rw [es_for (R := fun i => some (.inl (some (.int (R i))), σ)) n a m hm hc he hs]
  cases h : ya_ff P n a with
  | some i => rfl
  | none => exact hk h
theorem es_forB {c : sy_CE} {s : sy_S} {E : Nat → List Value} {P : Nat → Bool} {b v : Bool} {n a m : Nat} (hm : n < m)
    (hc : ∀ i, a ≤ i → i < a + n → c (E i) σ = some (.inl true, σ)) (he : c (E (a + n)) σ = some (.inl false, σ))
    (hs : ∀ i, a ≤ i → i < a + n → ∀ k', s (E i) k' σ = if P i then some (.inl (some (.int (ya_b b))), σ) else k' (E (i + 1)) σ) (hk : ya_ff P n a = none → k (E (a + n)) σ = some (.inl (some (.int (ya_b v))), σ)) :
    sy_wh c s m (E a) k σ = some (.inl (some (.int (ya_b (if (ya_ff P n a).isSome then b else v)))), σ) := by
  rw [es_for (R := fun _ => some (.inl (some (.int (ya_b b))), σ)) n a m hm hc he hs]
  cases h : ya_ff P n a with
  | some i => rfl
  | none => exact hk h
/-- a walk upward -/
theorem es_walk {c : sy_CE} {s : sy_S} {E : Int32 → Nat → List Value} {nx : Int32 → Int32} {Q : Int32 → Bool} {R : Int32 → Option (((Option Value) ⊕ Nat) × sy_Mem)} {N : Nat} (hc : ∀ x l, l ≤ N → c (E x l) σ = some (.inl (decide (l < N) && !decide (x = -1)), σ))
    (hs : ∀ x l, l < N → ¬ x = -1 → ∀ k', s (E x l) k' σ = if Q x then R x else k' (E (nx x) (l + 1)) σ) (hk : ∀ x l, k (E x l) σ = r) : ∀ (j l m : Nat) (x : Int32), l + j = N → j < m →
    sy_wh c s m (E x l) k σ = (ya_walk nx Q j x).elim r R
  | 0, l, m + 1, x, hl, _ => by
    unfold sy_wh
    rw [sy_bnd_at (hc x l (by omega)), decide_eq_false (by omega)]
    exact hk x l
  | j + 1, l, m + 1, x, hl, hm => by
    unfold sy_wh
    rw [sy_bnd_at (hc x l (by omega)), decide_eq_true (by omega)]
    unfold ya_walk
    by_cases hx : x = -1
    · rw [if_pos hx, decide_eq_true hx]
      exact hk x l
    · rw [if_neg hx, decide_eq_false hx]
      show s (E x l) _ σ = _
      rw [hs x l (by omega) hx]
      by_cases hQ : Q x = true
      · rw [if_pos hQ, if_pos hQ]
        rfl
      · rw [if_neg hQ, if_neg hQ]
        exact es_walk hc hs hk j (l + 1) m (nx x) (by omega) (by omega)
  | _, _, 0, _, _, hm => absurd hm (by omega)
theorem es_walkP {c : sy_CE} {s : sy_S} {E : Int32 → Nat → List Value} {nx : Int32 → Int32} {Q : Int32 → Bool} {R : Int32 → Int32} {v : Int32} {m : Nat} {x : Int32} (hm : 4 < m) (hc : ∀ x l, l ≤ 4 → c (E x l) σ = some (.inl (decide (l < 4) && !decide (x = -1)), σ))
    (hs : ∀ x l, l < 4 → ¬ x = -1 → ∀ k', s (E x l) k' σ = if Q x then some (.inl (some (.int (R x))), σ) else k' (E (nx x) (l + 1)) σ) (hk : ∀ x l, k (E x l) σ = some (.inl (some (.int v)), σ)) :
    sy_wh c s m (E x 0) k σ = some (.inl (some (.int ((ya_walk nx Q 4 x).elim v R))), σ) := by
  rw [es_walk (R := fun x => some (.inl (some (.int (R x))), σ)) hc hs hk 4 0 m x rfl hm]
  cases h : ya_walk nx Q 4 x <;> rfl
theorem es_walkB {c : sy_CE} {s : sy_S} {E : Int32 → Nat → List Value} {nx : Int32 → Int32} {Q : Int32 → Bool} {R : Int32 → Bool} {v : Bool} {m : Nat} {x : Int32} (hm : 4 < m) (hc : ∀ x l, l ≤ 4 → c (E x l) σ = some (.inl (decide (l < 4) && !decide (x = -1)), σ))
    (hs : ∀ x l, l < 4 → ¬ x = -1 → ∀ k', s (E x l) k' σ = if Q x then some (.inl (some (.int (ya_b (R x)))), σ) else k' (E (nx x) (l + 1)) σ) (hk : ∀ x l, k (E x l) σ = some (.inl (some (.int (ya_b v))), σ)) :
    sy_wh c s m (E x 0) k σ = some (.inl (some (.int (ya_b ((ya_walk nx Q 4 x).elim v R)))), σ) := by
  rw [es_walk (R := fun x => some (.inl (some (.int (ya_b (R x)))), σ)) hc hs hk 4 0 m x rfl hm]
  cases h : ya_walk nx Q 4 x <;> rfl
/-- a loop of n turns without an early end -/
theorem es_loop {c : sy_CE} {s : sy_S} {E : Nat → List Value} {S : Nat → sy_Mem} : ∀ (n a m : Nat), n < m →
    (∀ i, a ≤ i → i < a + n → c (E i) (S i) = some (.inl true, S i)) → c (E (a + n)) (S (a + n)) = some (.inl false, S (a + n)) →
    (∀ i, a ≤ i → i < a + n → ∀ k', s (E i) k' (S i) = k' (E (i + 1)) (S (i + 1))) → k (E (a + n)) (S (a + n)) = r → sy_wh c s m (E a) k (S a) = r
  | 0, a, m + 1, _, _, he, _, hk => by
    rw [Nat.add_zero] at he hk
    unfold sy_wh
    rw [sy_bnd_at he]
    exact hk
  | n + 1, a, m + 1, hm, hc, he, hs, hk => by
    unfold sy_wh
    rw [sy_bnd_at (hc a (Nat.le_refl _) (by omega))]
    simp only [if_true]
    rw [hs a (Nat.le_refl _) (by omega)]
    rw [show a + (n + 1) = a + 1 + n by omega] at he hk
    exact es_loop n (a + 1) m (by omega) (fun i h1 h2 => hc i (by omega) (by omega)) he (fun i h1 h2 => hs i (by omega) (by omega)) hk
  | _, _, 0, hm, _, _, _, _ => absurd hm (by omega)
-- small facts of ints
theorem yi_lt {i : Nat} {n : Int32} {N : Nat} (hN : n = nI N) (hi : i < 2 ^ 31) (h2 : N < 2 ^ 31) : decide (nI i < n) = decide (i < N) := by
  subst hN
  exact decide_eq_decide.mpr (nI_ltI hi h2)
theorem yi_pos {x : Int32} : 0 ≤ x ↔ 0 ≤ x.toInt := by rw [Int32.le_iff_toInt_le]; rfl
theorem yi_nat {x : Int32} (h : 0 ≤ x) : x = nI x.toNatClampNeg := by
  obtain ⟨j, hj, rfl⟩ := nI_of (x := x) (by rw [Int32.lt_iff_toInt_lt]; rw [Int32.le_iff_toInt_le] at h; omega)
  rw [nI_clamp hj]
theorem yi_clampInt (x : Int32) : x.toNatClampNeg = x.toInt.toNat := rfl
theorem yi_ltB {i : Nat} {x : Int32} (hi : i < 2 ^ 31) : decide (nI i < x) = decide (i < x.toNatClampNeg) := by
  apply decide_eq_decide.mpr
  rw [Int32.lt_iff_toInt_lt, nI_toInt hi, yi_clampInt]
  omega
theorem yi_inb {x : Int32} {n : Nat} : sy_inb x n = true ↔ 0 ≤ x.toInt ∧ x.toInt < n := by
  unfold sy_inb
  rw [Bool.and_eq_true, decide_eq_true_iff, decide_eq_true_iff, yi_pos, yi_clampInt]
  omega
theorem yi_inbN {i n : Nat} (h : i < n) (hi : i < 2 ^ 31) : sy_inb (nI i) n = true := by
  rw [yi_inb, nI_toInt hi]
  omega
theorem es_In1 {j i : Nat} (h : env[j]? = some (.int (nI i))) (hk : k (sy_set env j (.int (nI (i + 1)))) σ = r) : sy_sIn j 1 env k σ = r := es_In h (by rw [nI_1]; exact hk)
theorem ee_K0 : sy_iK 0 env σ = some (.inl (nI 0), σ) := by rw [nI_0]; rfl
section
variable {b : sy_IE} {s : sy_S} {E : Nat → List Value} {P : Nat → Bool} {B : Int32} {a j : Nat}
theorem es_ltc (hE : ∀ i, (E i)[j]? = some (.int (nI i))) (hb : ∀ i, b (E i) σ = some (.inl B, σ)) {i : Nat} (hi : i < 2000) : sy_clt (sy_iL j) b (E i) σ = some (.inl (decide (i < B.toNatClampNeg)), σ) :=
  (ee_cB (ee_L (hE i)) (hb i)).trans (by rw [show decide (nI i < B) = decide (i < B.toNatClampNeg) from yi_ltB (by omega)])
theorem es_forPL {R : Nat → Int32} {v : Int32} (hE : ∀ i, (E i)[j]? = some (.int (nI i))) (hb : ∀ i, b (E i) σ = some (.inl B, σ)) (hB : B.toNatClampNeg ≤ 900) (ha : a ≤ 900)
    (hs : ∀ i, a ≤ i → i < B.toNatClampNeg → ∀ k', s (E i) k' σ = if P i then some (.inl (some (.int (R i))), σ) else k' (E (i + 1)) σ) (hk : ya_ff P (B.toNatClampNeg - a) a = none → k (E (a + (B.toNatClampNeg - a))) σ = some (.inl (some (.int v)), σ)) :
    sy_wh (sy_clt (sy_iL j) b) s 1000 (E a) k σ = some (.inl (some (.int ((ya_ff P (B.toNatClampNeg - a) a).elim v R))), σ) :=
  es_forP (by omega) (fun i h1 h2 => by rw [es_ltc hE hb (by omega), decide_eq_true (by omega)]) (by rw [es_ltc hE hb (by omega), decide_eq_false (by omega)]) (fun i h1 h2 => hs i h1 (by omega)) hk
theorem es_forBL {w v : Bool} (hE : ∀ i, (E i)[j]? = some (.int (nI i))) (hb : ∀ i, b (E i) σ = some (.inl B, σ)) (hB : B.toNatClampNeg ≤ 900) (ha : a ≤ 900)
    (hs : ∀ i, a ≤ i → i < B.toNatClampNeg → ∀ k', s (E i) k' σ = if P i then some (.inl (some (.int (ya_b w))), σ) else k' (E (i + 1)) σ) (hk : ya_ff P (B.toNatClampNeg - a) a = none → k (E (a + (B.toNatClampNeg - a))) σ = some (.inl (some (.int (ya_b v))), σ)) :
    sy_wh (sy_clt (sy_iL j) b) s 1000 (E a) k σ = some (.inl (some (.int (ya_b (if (ya_ff P (B.toNatClampNeg - a) a).isSome then w else v)))), σ) :=
  es_forB (by omega) (fun i h1 h2 => by rw [es_ltc hE hb (by omega), decide_eq_true (by omega)]) (by rw [es_ltc hE hb (by omega), decide_eq_false (by omega)]) (fun i h1 h2 => hs i h1 (by omega)) hk
end
theorem ee_An {kd : Nat} {r : sy_RE} {i : sy_IE} {a j : Nat} (hr : r env σ = some (.inl a, σ1)) (hi : i env σ1 = some (.inl (nI j), σ2)) (h : j < sy_len kd a) (h2 : sy_len kd a ≤ 200) : sy_iA kd r i env σ = some (.inl (σ2 a j), σ2) := by
  rw [ee_A hr hi (yi_inbN h (by omega)), nI_clamp (by omega)]
-- the views' cells
theorem yv_I {v k : Nat} (hv : v < 4) (hk : k < 7) : sy_isI 4 k (sy_vw v) = true := by
  rcases (show v = 0 ∨ v = 1 ∨ v = 2 ∨ v = 3 by omega) with rfl | rfl | rfl | rfl <;>
  rcases (show k = 0 ∨ k = 1 ∨ k = 2 ∨ k = 3 ∨ k = 4 ∨ k = 5 ∨ k = 6 by omega) with rfl | rfl | rfl | rfl | rfl | rfl | rfl <;> rfl
theorem yv_F7 {v : Nat} (hv : v < 4) : sy_isF 4 7 (sy_vw v) = some (sy_vw v + 1) := by
  rcases (show v = 0 ∨ v = 1 ∨ v = 2 ∨ v = 3 by omega) with rfl | rfl | rfl | rfl <;> rfl
theorem yv_F8 {v : Nat} (hv : v < 4) : sy_isF 4 8 (sy_vw v) = some (sy_vw v + 2) := by
  rcases (show v = 0 ∨ v = 1 ∨ v = 2 ∨ v = 3 by omega) with rfl | rfl | rfl | rfl <;> rfl
theorem yv_L7 {v : Nat} (hv : v < 4) : sy_len 0 (sy_vw v + 1) = 4 := by
  rcases (show v = 0 ∨ v = 1 ∨ v = 2 ∨ v = 3 by omega) with rfl | rfl | rfl | rfl <;> rfl
theorem yv_L8 {v : Nat} (hv : v < 4) : sy_len 1 (sy_vw v + 2) = 4 := by
  rcases (show v = 0 ∨ v = 1 ∨ v = 2 ∨ v = 3 by omega) with rfl | rfl | rfl | rfl <;> rfl
theorem yv_rc {v m : Nat} {vs : List Value} (hv : v < 4) (h : (vs.length == m) = true) : sy_rc 4 m (.ref (sy_vw v) :: vs) = true := by
  show (sy_isO 4 (sy_vw v) && vs.length == m) = true
  rw [h]
  rcases (show v = 0 ∨ v = 1 ∨ v = 2 ∨ v = 3 by omega) with rfl | rfl | rfl | rfl <;> rfl
end YE
