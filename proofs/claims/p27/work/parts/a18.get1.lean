section LA18
variable {A σ : sy_Mem} {t : Nat}
theorem v4c {v : Nat} (hv : v < 4) : v = 0 ∨ v = 1 ∨ v = 2 ∨ v = 3 := by omega
theorem rel_list {v w : Nat} (hv : v < 4) (hw : w < 4) : ya_X5_isListOrdered (sy_up σ (sy_vw w) 6 0) v = ya_X5_isListOrdered σ v := by
  rcases v4c hv with rfl | rfl | rfl | rfl <;> rcases v4c hw with rfl | rfl | rfl | rfl <;> rfl
theorem rel_here {v w : Nat} (hv : v < 4) (hw : w < 4) : ya_here (sy_up σ (sy_vw w) 6 0) v = ya_here σ v := by
  rcases v4c hv with rfl | rfl | rfl | rfl <;> rcases v4c hw with rfl | rfl | rfl | rfl <;> rfl
theorem rel_right {v : Nat} (hv : v < 4) (x : Int32) (n : Nat) : ya_X5_isRight (sy_up σ (sy_vw v) 6 0) v x n = ya_X5_isRight σ v x n := by
  rcases v4c hv with rfl | rfl | rfl | rfl <;> rfl
theorem rel_start {v : Nat} (hv : v < 4) (way : Int32) : ya_start (sy_up σ (sy_vw v) 6 0) v way = ya_start σ v way := by
  rcases v4c hv with rfl | rfl | rfl | rfl <;> rfl
theorem rel_within {v : Nat} (hv : v < 4) (way : Int32) : ya_within (sy_up σ (sy_vw v) 6 0) v way = ya_within σ v way := by
  rcases v4c hv with rfl | rfl | rfl | rfl <;> rfl
theorem rel_finds {v : Nat} (hv : v < 4) (way : Int32) : ya_finds (sy_up σ (sy_vw v) 6 0) v way = ya_finds σ v way := by
  have hD : sy_up σ (sy_vw v) 6 0 (sy_vw v) 0 = σ (sy_vw v) 0 := yu_an (by decide)
  have h19 : sy_up σ (sy_vw v) 6 0 19 = σ 19 := yu_ne (by have := yv_lt hv; omega)
  have hc : ∀ d, ya_cnt (sy_up σ (sy_vw v) 6 0) d = ya_cnt σ d := fun d => by
    unfold ya_cnt
    rw [yu_ne (by have := yv_lt hv; omega)]
  have ha : ∀ d p, ya_at (sy_up σ (sy_vw v) 6 0) d p = ya_at σ d p := fun d p => by
    unfold ya_at
    rw [yu_ne (by have := yv_lt hv; omega), yu_ne (by have := yv_lt hv; omega)]
  have hb : ∀ x y, ya_X3_isBelow (sy_up σ (sy_vw v) 6 0) x y = ya_X3_isBelow σ x y := fun x y => by
    rcases v4c hv with rfl | rfl | rfl | rfl <;> rfl
  unfold ya_finds ya_X5_firstRight
  simp only [hD, h19, hc, ha, hb, rel_start hv, rel_within hv, rel_right hv]
def gQ (σ : sy_Mem) (v : Nat) : sy_Mem := sy_up (sy_up σ (sy_vw v) 6 0) 19 0 0
def gE (σ : sy_Mem) (v : Nat) : sy_Mem := sy_up (ya_stand (sy_up σ (sy_vw v) 6 0) v (-1) 0 0) 19 0 0
def gG (σ : sy_Mem) (v : Nat) (how : Int32) (h : Bool) (x : Int32) : sy_Mem := sy_up (ya_got (sy_up σ (sy_vw v) 6 0) v how h x) 19 0 0
theorem gQ_is {v : Nat} (hv : v < 4) : ya_here (gQ σ v) v = ya_here σ v ∧ (∀ x, yL (gQ σ v) x = yL σ x) ∧ ya_X5_countAhead (gQ σ v) v = ya_X5_countAhead σ v ∧ gQ σ v (sy_vw v) 5 = σ (sy_vw v) 5 ∧ gQ σ v (sy_vw v) 6 = 0 ∧ (∀ a b, ya_slot (gQ σ v) a b = ya_slot σ a b) := by
  rcases v4c hv with rfl | rfl | rfl | rfl <;> exact ⟨rfl, fun _ => rfl, rfl, rfl, rfl, fun _ _ => rfl⟩
theorem gE_is {v : Nat} (hv : v < 4) : ya_here (gE σ v) v = -1 ∧ (∀ x, yL (gE σ v) x = yL σ x) ∧ ya_X5_countAhead (gE σ v) v = 0 ∧ gE σ v (sy_vw v) 5 = σ (sy_vw v) 5 ∧ gE σ v (sy_vw v) 6 = 0 ∧ (∀ a b, ya_slot (gE σ v) a b = ya_slot σ a b) := by
  rcases v4c hv with rfl | rfl | rfl | rfl <;> exact ⟨rfl, fun _ => rfl, rfl, rfl, rfl, fun _ _ => rfl⟩
theorem get_is {v : Nat} (hv : v < 4) (how : Int32) (h : Bool) :
    (ya_X5_isListOrdered σ v = false → (ya_seek (sy_up σ (sy_vw v) 6 0) v how h).1 = 4 ∧ ya_get σ v how h = gQ σ v) ∧
    (ya_X5_isListOrdered σ v = true → (how = 2 ∧ σ (sy_vw v) 5 = -1) → (ya_seek (sy_up σ (sy_vw v) 6 0) v how h).1 = 5 ∧ ya_get σ v how h = gQ σ v) ∧
    (ya_X5_isListOrdered σ v = true → ¬ (how = 2 ∧ σ (sy_vw v) 5 = -1) → ya_finds σ v how = -1 → (how ≠ 1 ∨ 0 < σ 19 0) → (ya_seek (sy_up σ (sy_vw v) 6 0) v how h).1 = 7 ∧ ya_get σ v how h = gQ σ v) ∧
    (ya_X5_isListOrdered σ v = true → ¬ (how = 2 ∧ σ (sy_vw v) 5 = -1) → ya_finds σ v how = -1 → ¬ (how ≠ 1 ∨ 0 < σ 19 0) → (ya_seek (sy_up σ (sy_vw v) 6 0) v how h).1 = 3 ∧ ya_get σ v how h = gE σ v) ∧
    (ya_X5_isListOrdered σ v = true → ¬ (how = 2 ∧ σ (sy_vw v) 5 = -1) → ya_finds σ v how ≠ -1 → (ya_seek (sy_up σ (sy_vw v) 6 0) v how h).1 = (if how = 0 then 0 else ya_X5_statusOfStep σ (ya_here σ v) (ya_finds σ v how)) ∧ ya_get σ v how h = gG σ v how h (ya_finds σ v how)) := by
  have hb := yv_lt hv
  have h5 : sy_up σ (sy_vw v) 6 0 (sy_vw v) 5 = σ (sy_vw v) 5 := yu_an (by decide)
  have h19 : sy_up σ (sy_vw v) 6 0 19 = σ 19 := yu_ne (by omega)
  have hs : ∀ a b, ya_X5_statusOfStep (sy_up σ (sy_vw v) 6 0) a b = ya_X5_statusOfStep σ a b := fun a b => by
    rcases v4c hv with rfl | rfl | rfl | rfl <;> rfl
  unfold ya_get ya_seek gQ gE gG
  rw [rel_list hv hv, rel_finds hv, rel_here hv hv, h5, h19, hs]
  refine ⟨fun h1 => ?_, fun h1 h2 => ?_, fun h1 h2 h3 h4 => ?_, fun h1 h2 h3 h4 => ?_, fun h1 h2 h3 => ?_⟩
  · rw [if_pos h1]
    exact ⟨rfl, rfl⟩
  · rw [if_neg (by rw [h1]; decide), if_pos h2]
    exact ⟨rfl, rfl⟩
  · rw [if_neg (by rw [h1]; decide), if_neg h2, if_pos h3, if_pos (by rcases h4 with q | q <;> simp [q])]
    exact ⟨rfl, rfl⟩
  · rw [if_neg (by rw [h1]; decide), if_neg h2, if_pos h3, if_neg (by intro q; apply h4; simpa using q)]
    exact ⟨rfl, rfl⟩
  · rw [if_neg (by rw [h1]; decide), if_neg h2, if_neg h3]
    exact ⟨rfl, rfl⟩
theorem yn_get (I : yn_I t σ) {v : Nat} (hv : v < 4) (how : Int32) (h : Bool) : yn_I t (ya_get σ v how h) := by
  have hb := yv_lt hv
  have IA := yn_release I hv
  unfold ya_get
  refine yn_drop ?_
  unfold ya_seek
  by_cases h1 : ya_X5_isListOrdered (sy_up σ (sy_vw v) 6 0) v = false
  · rw [if_pos h1]
    exact IA
  · rw [if_neg h1]
    by_cases h2 : how = 2 ∧ sy_up σ (sy_vw v) 6 0 (sy_vw v) 5 = -1
    · rw [if_pos h2]
      exact IA
    · rw [if_neg h2]
      by_cases h3 : ya_finds (sy_up σ (sy_vw v) 6 0) v how = -1
      · rw [if_pos h3]
        split
        · exact IA
        · exact yn_stand IA hv (Or.inl rfl) (Or.inl rfl) (Or.inl rfl)
      · rw [if_neg h3]
        obtain ⟨f1, f2, f3⟩ := yg_finds IA hv h3
        exact yn_got IA hv _ how h yu_at (by simpa using h1) f1 f2 f3
/-- get leaves the rows, the types and the law's own rows -/
theorem get_ne {v : Nat} (hv : v < 4) {how : Int32} {h : Bool} {k : Nat} (hk : k ≤ 18 ∨ 20 ≤ k ∧ k ≤ 30 ∨ 44 ≤ k) : ya_get σ v how h k = σ k := by
  have hb := yv_lt hv
  have hst : ∀ (S : sy_Mem) m a b, ya_stand S v m a b k = S k := fun S m a b => ya_stand_ne (by omega)
  have hr : sy_up σ (sy_vw v) 6 0 k = σ k := yu_ne (by omega)
  unfold ya_get
  rw [yu_ne (by omega)]
  unfold ya_seek
  by_cases h1 : ya_X5_isListOrdered (sy_up σ (sy_vw v) 6 0) v = false
  · rw [if_pos h1]
    exact hr
  · rw [if_neg h1]
    by_cases h2 : how = 2 ∧ sy_up σ (sy_vw v) 6 0 (sy_vw v) 5 = -1
    · rw [if_pos h2]
      exact hr
    · rw [if_neg h2]
      by_cases h3 : ya_finds (sy_up σ (sy_vw v) 6 0) v how = -1
      · rw [if_pos h3]
        split
        · exact hr
        · exact (hst _ _ _ _).trans hr
      · rw [if_neg h3]
        have hd : ya_deliver (sy_up σ (sy_vw v) 6 0) v (ya_finds (sy_up σ (sy_vw v) 6 0) v how) h k = σ k := (ya_deliver_ne _ (by omega) (by omega) (by omega) (by omega)).trans hr
        show ya_got _ _ _ _ _ k = _
        unfold ya_got
        rw [hst]
        split
        · rw [yu_ne (by omega), hd]
        · exact hd
theorem get_cell {v : Nat} {how : Int32} {h : Bool} : ya_get σ v how h 19 0 = 0 := by
  unfold ya_get
  rw [yu_at]
-- the rows and the types, of another memory with the same cells up to 18
theorem RW_b {B τ : sy_Mem} (hb : yc_base A B) (hc : ∀ k, 45 ≤ k → k ≤ 48 → τ k = σ k) (R : RW A σ) : RW B τ := by
  have e : ∀ A : sy_Mem, RW (ya_re A) τ = RW A τ := fun _ => rfl
  have R2 : RW A τ := fun d hd => by
    obtain ⟨r1, r2⟩ := R d hd
    refine ⟨by rw [hc 48 (by omega) (by omega)]; exact r1, fun p hp => ?_⟩
    rw [← r2 p hp]
    unfold lg
    rw [hc (45 + d) (by omega) (by omega)]
  rw [← e B, ya_re_c hb, e A]
  exact R2
theorem TT_b {B τ : sy_Mem} (hb : yc_base A B) (hc : τ 44 = σ 44) (T : TT A σ) : TT B τ := by
  have e : ∀ A : sy_Mem, TT (ya_re A) τ = TT A τ := fun _ => rfl
  have T2 : TT A τ := fun i hi => by
    obtain ⟨r1, r2⟩ := T i hi
    exact ⟨by rw [hc]; exact r1, r2⟩
  rw [← e B, ya_re_c hb, e A]
  exact T2
theorem h_get (I : yn_I t σ) {v : Nat} (hv : v < 4) {way : Nat} (hw : way < 3) (b : Bool) : sf_L_get [.ref 0, .int (nI v), .int (nI way), .int (ya_b b)] σ = some (.inl (some (.int (ya_seek (sy_up σ (sy_vw v) 6 0) v (nI way) b).1)), ya_get σ v (nI way) b) := by
  have hc := yt_X5_get I (nI v) (nI way) b
  rw [(vw4 hv).1, if_pos rfl, (vw4 hv).2, show (decide ((0 : Int32) ≤ nI way) && decide (nI way < 3)) = true by rcases (show way = 0 ∨ way = 1 ∨ way = 2 by omega) with rfl | rfl | rfl <;> rfl, if_pos rfl] at hc
  exact ke_meth (kh_I (ee_aR (ee_R rfl) (ee_aI (ee_L rfl) (ee_aI (ee_L rfl) (ee_aI (ee_L rfl) ee_aN)))) (ee_cv hc rfl)) (Nat.le_of_ble_eq_true rfl)
end LA18
