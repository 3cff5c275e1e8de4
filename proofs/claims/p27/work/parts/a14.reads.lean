section LA14
variable {A σ : sy_Mem} {t : Nat}
theorem lv1_root (I : yn_I t A) {s : Int32} (h : yl A s) : ya_lv A s = 1 ↔ yP A s = -1 := by
  have hl := lv_pos I h
  constructor
  · intro e
    refine Classical.byContradiction fun hp => ?_
    obtain ⟨b1, b2, b3, -⟩ := yl_par I.1 I.2.1 h hp
    have := lv_pos I b1
    omega
  · intro e
    have h1 : tP A (yT A s) = -1 := by
      rcases (I.2.1.1 s h).2 with ⟨q, -⟩ | ⟨q, -⟩
      · exact q
      · exact absurd e (yl_ne q)
    obtain ⟨-, -, -, -, -, -, g, -⟩ := I.1.2.1 _ (I.2.1.1 s h).1
    rcases g with ⟨-, g, -⟩ | ⟨g, -⟩
    · omega
    · rw [h1, ya_isT_m] at g
      cases g
/-- the nearest ahead of the same level, with only deeper ones between: a brother -/
theorem near_par (I : yn_I t A) {d j p : Nat} (hd : d < 3) (hp : p < cn A d) (hj : j < p) (hl : ya_lv A (sg A d j) = ya_lv A (sg A d p)) (hb : ∀ q, j < q → q < p → ya_lv A (sg A d p) < ya_lv A (sg A d q)) : yP A (sg A d j) = yP A (sg A d p) := by
  have h60 := cn_le I hd
  obtain ⟨a1, a2, a3⟩ := sg_ok I hd hp
  obtain ⟨b1, b2, b3⟩ := sg_ok I hd (show j < cn A d by omega)
  by_cases hr : yP A (sg A d p) = -1
  · rw [hr, ← lv1_root I b1, hl, lv1_root I a1]
    exact hr
  · obtain ⟨c1, c2, c3, -⟩ := yl_par I.1 I.2.1 a1 hr
    obtain ⟨q, q1, q2, q3⟩ := sg_of I c1 hd (c2.trans a2)
    have hlv := lv_pos I c1
    have hlv2 := lv_pos I a1
    have hqp : q < p := by
      have := I.2.2.2.1.1 _ a1 hr
      rw [q3, a3] at this
      exact (nI_lt2 (by omega) (by omega)).1.mp this
    have hqj : q < j := by
      rcases Nat.lt_trichotomy q j with h | h | h
      · exact h
      · rw [← h, ← q2] at hl
        omega
      · have := hb q h hqp
        rw [← q2] at this
        omega
    have hU : yU A (sg A d p) (sg A d q) := by
      rw [← q2]
      exact yU_up I a1 hr (Or.inl rfl)
    have hUj := sg_between I hd hp (show q ≤ j by omega) (by omega) hU
    obtain ⟨-, -, -, e⟩ := yU_l I b1 hUj
    rcases e with e | ⟨-, e1, e2⟩
    · have := sg_inj I hd q1 (by omega) e
      omega
    · obtain ⟨d1, d2, d3, -⟩ := yl_par I.1 I.2.1 b1 e1
      obtain ⟨-, -, -, f⟩ := yU_l I d1 e2
      rcases f with f | ⟨f, -⟩
      · rw [← f, q2]
      · have hlv3 := lv_pos I d1
        have hlv4 := lv_pos I b1
        rw [← q2] at f
        omega
/-- brothers lie by their types, twins by their keys: what the law asks of a place and the nearest ahead -/
theorem near_ok (I : yn_I t A) {d j p : Nat} (hd : d < 3) (hp : p < cn A d) (hj : j < p) (hP : yP A (sg A d j) = yP A (sg A d p)) : (yT A (sg A d j)).toInt ≤ (yT A (sg A d p)).toInt ∧ (yT A (sg A d j) = yT A (sg A d p) → (tK A (yT A (sg A d p))).toInt < 2 → (ya_N A (sg A d j) 0).toInt ≤ (ya_N A (sg A d p) 0).toInt ∧ (tK A (yT A (sg A d p)) = 0 → (ya_N A (sg A d j) 0).toInt < (ya_N A (sg A d p) 0).toInt)) := by
  have h60 := cn_le I hd
  obtain ⟨a1, a2, a3⟩ := sg_ok I hd hp
  obtain ⟨b1, b2, b3⟩ := sg_ok I hd (show j < cn A d by omega)
  have O := I.2.2.2.1
  have hlt : (yL A (sg A d j)).toInt < (yL A (sg A d p)).toInt := by
    rw [a3, b3]
    exact (nI_lt2 (by omega) (by omega)).1.mpr hj
  refine ⟨?_, fun hT hK => ?_⟩
  · refine Int.not_lt.mp fun h => ?_
    have := O.2.2.1 _ _ a1 b1 (by rw [a2, b2]) hP.symm h
    omega
  · have hle := O.2.2.2.1 _ _ b1 a1 hT hP (by rw [hT]; intro e; rw [e] at hK; exact absurd hK (by decide)) hlt
    refine ⟨hle, fun h0 => ?_⟩
    rcases Int.lt_or_eq_of_le hle with h | h
    · exact h
    · have := O.2.2.2.2.1 _ _ b1 a1 hT hP (by rw [hT]; exact h0) (yi_ext h)
      have := sg_inj I hd (by omega) hp this
      omega
-- the memories that come about
def rP (A σ : sy_Mem) (d : Nat) : Nat → sy_Mem
  | 0 => σ
  | p + 1 => sy_upL (rP A σ d p) (45 + d) p (pL (sk A (sg A d p)))
def rB (A σ : sy_Mem) : Nat → sy_Mem
  | 0 => σ
  | d + 1 => rP A (sy_up (rB A σ d) 48 d (nI (cn A d))) d (cn A d)
theorem rP_ne {d k : Nat} (hk : k ≠ 45 + d) : ∀ p, rP A σ d p k = σ k
  | 0 => rfl
  | p + 1 => by
    unfold rP
    rw [upL_ne hk, rP_ne hk p]
theorem rP_lg {d : Nat} : ∀ p j, j < p → lg (rP A σ d p) (45 + d) j = pL (sk A (sg A d j))
  | p + 1, j, hj => by
    unfold rP
    rw [lg_up]
    by_cases e : j = p
    · subst e
      rw [if_pos ⟨rfl, rfl⟩]
    · rw [if_neg (fun q => e q.2)]
      exact rP_lg p j (by omega)
theorem rB_ne {k : Nat} (hk : k < 45 ∨ 48 < k) : ∀ d, d ≤ 3 → rB A σ d k = σ k
  | 0, _ => rfl
  | d + 1, h => by
    unfold rB
    rw [rP_ne (by omega), up_ne (by omega), rB_ne hk d (by omega)]
theorem rB_48 : ∀ d, d ≤ 3 → ∀ i, i < d → rB A σ d 48 i = nI (cn A i)
  | d + 1, h, i, hi => by
    unfold rB
    rw [rP_ne (by omega), up_at]
    by_cases e : i = d
    · rw [if_pos e, e]
    · rw [if_neg e]
      exact rB_48 d (by omega) i (by omega)
theorem rB_row : ∀ d, d ≤ 3 → ∀ i, i < d → ∀ p, p < cn A i → lg (rB A σ d) (45 + i) p = pL (sk A (sg A i p))
  | d + 1, h, i, hi, p, hp => by
    unfold rB
    by_cases e : i = d
    · subst e
      exact rP_lg _ p hp
    · unfold lg
      rw [rP_ne (by omega), up_ne (by omega)]
      exact rB_row d (by omega) i (by omega) p hp
theorem rB_RW : RW A (rB A σ 3) := fun d hd => ⟨rB_48 3 (by omega) d hd, fun p hp => rB_row 3 (by omega) d hd p hp⟩
end LA14
