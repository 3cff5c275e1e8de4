section LA23
variable {A σ τ : sy_Mem} {t : Nat}
theorem pL_shl {a : Nat} (s : Nat) (hs : s ≤ 63) : pL a <<< ((nI s).toInt64 &&& 63) = pL (a * 2 ^ s) := by
  have e : (nI s).toInt64 &&& 63 = pL s := by
    rw [nI_i64 (by omega), show (63 : Int64) = pL (2 ^ 6 - 1) from rfl, pL_and 6 (by omega) (by omega), Nat.mod_eq_of_lt (by omega)]
  rw [e]
  apply Int64.toBitVec_inj.mp
  rw [Int64.toBitVec_shiftLeft, pL_bv, pL_bv, pL_bv, BitVec.shiftLeft_eq']
  have e1 : ((BitVec.ofNat 64 s).smod 64).toNat = s := by
    have m1 : (BitVec.ofNat 64 s).msb = false := BitVec.msb_eq_false_iff_two_mul_lt.mpr (by rw [BitVec.toNat_ofNat]; omega)
    have m2 : (64 : BitVec 64).msb = false := by decide
    rw [BitVec.smod_eq, m1, m2]
    show (BitVec.ofNat 64 s % 64).toNat = s
    rw [BitVec.toNat_umod, BitVec.toNat_ofNat]
    show s % 2 ^ 64 % 64 = s
    omega
  rw [e1]
  apply BitVec.eq_of_toNat_eq
  rw [BitVec.toNat_shiftLeft, BitVec.toNat_ofNat, BitVec.toNat_ofNat, Nat.shiftLeft_eq]
  simp [Nat.mod_mul_mod]
theorem yn_list (I : yn_I t σ) {n : Nat} (hn : lsN σ = n) (h4 : n < 4) {a b : Int32} (h1 : ya_isT σ a = true) (h2 : 0 ≤ b.toInt ∧ b.toInt ≤ 63) : yn_I t (ya_list σ n a b) ∧ (∀ k, k < 19 ∨ 22 < k → ya_list σ n a b k = σ k) ∧ ya_list σ n a b 19 0 = nI (n + 1) ∧ (∀ i, ya_list σ n a b 20 i = if i = n then a else σ 20 i) ∧ (∀ i, ya_list σ n a b 21 i = if i = n then b else σ 21 i) ∧ (∀ i, ya_list σ n a b 22 i = if i = n then 0 else σ 22 i) := by
  have h19 := yg_n19 I
  have hn' : (σ 19 0).toNatClampNeg = n := hn
  have hk : ∀ k, k < 19 ∨ 22 < k → ya_list σ n a b k = σ k := fun k h => by
    unfold ya_list
    rw [yu_ne (by omega), yu_ne (by omega), yu_ne (by omega), yu_ne (by omega)]
  obtain ⟨a1, a2, a3, a4, a5⟩ := I.2.2.2.2.2.2
  have k19 : ya_list σ n a b 19 0 = nI (n + 1) := by unfold ya_list; rw [yu_at]
  have k20 : ∀ i, ya_list σ n a b 20 i = if i = n then a else σ 20 i := fun i => by
    unfold ya_list
    rw [yu_ne (by decide), yu_ne (by decide), yu_ne (by decide)]
    by_cases e : i = n
    · rw [e, yu_at, if_pos rfl]
    · rw [yu_an e, if_neg e]
  have k21 : ∀ i, ya_list σ n a b 21 i = if i = n then b else σ 21 i := fun i => by
    unfold ya_list
    rw [yu_ne (by decide), yu_ne (by decide)]
    by_cases e : i = n
    · rw [e, yu_at, if_pos rfl]
    · rw [yu_an e, if_neg e, yu_ne (by decide)]
  have k22 : ∀ i, ya_list σ n a b 22 i = if i = n then 0 else σ 22 i := fun i => by
    unfold ya_list
    rw [yu_ne (by decide)]
    by_cases e : i = n
    · rw [e, yu_at, if_pos rfl]
    · rw [yu_an e, if_neg e, yu_ne (by decide), yu_ne (by decide)]
  have e1 : ya_isT (ya_list σ n a b) = ya_isT σ := funext fun s => ya_isT_c (hk 1 (by decide)) s
  refine ⟨yn_I_n I (fun k h => hk k (by omega)) (fun k h1 h2 => hk k (by omega)) ⟨?_, fun i hi => ?_, by rw [hk 31 (by decide)]; exact a3, by rw [hk 27 (by decide)]; exact a4, by rw [hk 27 (by decide)]; exact a5⟩, hk, k19, k20, k21, k22⟩
  · rw [k19, nI_toInt (by omega)]; omega
  · rw [k19, nI_toInt (by omega)] at hi
    rw [k20, k21, k22, e1, hk 23 (by decide), hk 24 (by decide)]
    by_cases e : i = n
    · rw [if_pos e, if_pos e, if_pos e]
      exact ⟨h1, by omega, ⟨by decide, by decide⟩, fun j hj => by rw [yl_c0] at hj; omega⟩
    · rw [if_neg e, if_neg e, if_neg e]
      exact a2 i (by omega)
theorem yn_cond (I : yn_I t σ) {l q : Nat} (hl : l < 4) (hq : q < 3) (e19 : σ 19 0 = nI (l + 1)) (h22 : σ 22 l = nI q) (o : Bool) {f : Int32} (hf : 0 ≤ f.toInt ∧ f.toInt < 3) (c x : Int32) : yn_I t (ya_cond σ l q (ya_b o) f c x) ∧ (∀ k, k < 22 ∨ 26 < k → ya_cond σ l q (ya_b o) f c x k = σ k) ∧ (∀ i, ya_cond σ l q (ya_b o) f c x 22 i = if i = l then nI (q + 1) else σ 22 i) ∧ (∀ i, ya_cond σ l q (ya_b o) f c x 23 i = if i = 3 * l + q then ya_b o else σ 23 i) ∧ (∀ i, ya_cond σ l q (ya_b o) f c x 24 i = if i = 3 * l + q then f else σ 24 i) ∧ (∀ i, ya_cond σ l q (ya_b o) f c x 25 i = if i = 3 * l + q then c else σ 25 i) ∧ (∀ i, ya_cond σ l q (ya_b o) f c x 26 i = if i = 3 * l + q then x else σ 26 i) := by
  have h19 := yg_n19 I
  have hk : ∀ k, k < 22 ∨ 26 < k → ya_cond σ l q (ya_b o) f c x k = σ k := fun k h => by
    unfold ya_cond
    rw [yu_ne (by omega), yu_ne (by omega), yu_ne (by omega), yu_ne (by omega), yu_ne (by omega)]
  obtain ⟨a1, a2, a3, a4, a5⟩ := I.2.2.2.2.2.2
  have k22 : ∀ i, ya_cond σ l q (ya_b o) f c x 22 i = if i = l then nI (q + 1) else σ 22 i := fun i => by
    unfold ya_cond
    by_cases e : i = l
    · rw [e, yu_at, if_pos rfl]
    · rw [yu_an e, if_neg e, yu_ne (by decide), yu_ne (by decide), yu_ne (by decide), yu_ne (by decide)]
  have k23 : ∀ i, ya_cond σ l q (ya_b o) f c x 23 i = if i = 3 * l + q then ya_b o else σ 23 i := fun i => by
    unfold ya_cond
    rw [yu_ne (k := 22) (by decide), yu_ne (k := 26) (by decide), yu_ne (k := 25) (by decide), yu_ne (k := 24) (by decide)]
    by_cases e : i = 3 * l + q
    · rw [e, yu_at, if_pos rfl]
    · rw [yu_an e, if_neg e]
  have k24 : ∀ i, ya_cond σ l q (ya_b o) f c x 24 i = if i = 3 * l + q then f else σ 24 i := fun i => by
    unfold ya_cond
    rw [yu_ne (k := 22) (by decide), yu_ne (k := 26) (by decide), yu_ne (k := 25) (by decide)]
    by_cases e : i = 3 * l + q
    · rw [e, yu_at, if_pos rfl]
    · rw [yu_an e, if_neg e, yu_ne (by decide)]
  have k25 : ∀ i, ya_cond σ l q (ya_b o) f c x 25 i = if i = 3 * l + q then c else σ 25 i := fun i => by
    unfold ya_cond
    rw [yu_ne (k := 22) (by decide), yu_ne (k := 26) (by decide)]
    by_cases e : i = 3 * l + q
    · rw [e, yu_at, if_pos rfl]
    · rw [yu_an e, if_neg e, yu_ne (by decide), yu_ne (by decide)]
  have k26 : ∀ i, ya_cond σ l q (ya_b o) f c x 26 i = if i = 3 * l + q then x else σ 26 i := fun i => by
    unfold ya_cond
    rw [yu_ne (k := 22) (by decide)]
    by_cases e : i = 3 * l + q
    · rw [e, yu_at, if_pos rfl]
    · rw [yu_an e, if_neg e, yu_ne (by decide), yu_ne (by decide), yu_ne (by decide)]
  have e1 : ya_isT (ya_cond σ l q (ya_b o) f c x) = ya_isT σ := funext fun s => ya_isT_c (hk 1 (by decide)) s
  have hl4 : (σ 19 0).toInt = l + 1 := by rw [e19, nI_toInt (by omega)]; omega
  have hc22 : (σ 22 l).toInt = q := by rw [h22, nI_toInt (by omega)]
  refine ⟨yn_I_n I (fun k h => hk k (by omega)) (fun k h1 h2 => hk k (by omega)) ⟨by rw [hk 19 (by decide)]; exact a1, fun i hi => ?_, by rw [hk 31 (by decide)]; exact a3, by rw [hk 27 (by decide)]; exact a4, by rw [hk 27 (by decide)]; exact a5⟩, hk, k22, k23, k24, k25, k26⟩
  rw [hk 19 (by decide)] at hi
  obtain ⟨b1, b2, b3, b4⟩ := a2 i hi
  rw [hk 20 (by decide), hk 21 (by decide), e1, k22]
  refine ⟨b1, b2, ?_, ?_⟩
  · by_cases e : i = l
    · rw [if_pos e, nI_toInt (by omega)]; omega
    · rw [if_neg e]; exact b3
  · intro j hj
    rw [k23, k24]
    by_cases e : i = l
    · subst e
      rw [if_pos rfl, nI_toInt (by omega)] at hj
      by_cases ej : j = q
      · rw [ej, if_pos rfl, if_pos rfl]
        exact ⟨ya_b01 o, hf⟩
      · rw [if_neg (by omega), if_neg (by omega)]
        exact b4 j (by omega)
    · rw [if_neg e] at hj
      rw [if_neg (by omega), if_neg (by omega)]
      exact b4 j hj
theorem qn_c {i : Nat} : ∀ n, (∀ m, m < n → ∀ k, 23 ≤ k → k ≤ 26 → τ k (3 * i + m) = σ k (3 * i + m)) → qn τ i n = qn σ i n
  | 0, _ => rfl
  | n + 1, h => by
    show qn τ i n + 2 ^ (2 + 16 * n) * q1 τ i n = qn σ i n + 2 ^ (2 + 16 * n) * q1 σ i n
    rw [qn_c n (fun m hm => h m (by omega))]
    unfold q1
    rw [h n (by omega) 23 (by omega) (by omega), h n (by omega) 24 (by omega) (by omega), h n (by omega) 25 (by omega) (by omega), h n (by omega) 26 (by omega) (by omega)]
theorem qi_c {i : Nat} (h22 : τ 22 i = σ 22 i) (h : ∀ m, m < qc σ i → ∀ k, 23 ≤ k → k ≤ 26 → τ k (3 * i + m) = σ k (3 * i + m)) (hB : ∀ n, n < qc σ i → QB σ i n) : qh τ i = qh σ i ∧ ∀ n, n < qc τ i → QB τ i n := by
  have e : qc τ i = qc σ i := congrArg (fun z : Int32 => z.toInt.toNat) h22
  refine ⟨?_, fun n hn => ?_⟩
  · unfold qh
    rw [e, qn_c _ h]
  · rw [e] at hn
    have := hB n hn
    unfold QB at this ⊢
    rw [h n hn 23 (by omega) (by omega), h n hn 24 (by omega) (by omega), h n hn 25 (by omega) (by omega), h n hn 26 (by omega) (by omega)]
    exact this
/-- what a list leaves as it was -/
def LF (σ τ : sy_Mem) : Prop := (∀ k, (k ≤ 18 ∨ (27 ≤ k ∧ k ≤ 48) ∨ k = 51 ∨ 53 ≤ k) → τ k = σ k) ∧ τ 52 0 = σ 52 0
def LL (t : Nat) (σ τ : sy_Mem) : Prop := yn_I t τ ∧ QQ τ τ ∧ LF σ τ
/-- one more argument, in the law's rows and the component's -/
def mA (τ : sy_Mem) (n y c : Nat) : sy_Mem := sy_up (sy_upL (sy_up τ 49 n (nI (y + 16 * c))) 50 n 0) 52 1 (nI (n + 1))
theorem ll_add (L : LL t σ τ) {n y c : Nat} (hn : lsN τ = n) (h4 : n < 4) (hy : y < 12) (h1 : ya_isT τ (nI y) = true) (hc : c < 64) : yn_I t (mA τ n y c) ∧ mA τ n y c 19 0 = nI n ∧ LL t σ (ya_list (mA τ n y c) n (nI y) (nI c)) ∧ lsN (ya_list (mA τ n y c) n (nI y) (nI c)) = n + 1 ∧ ya_list (mA τ n y c) n (nI y) (nI c) 22 n = nI 0 := by
  obtain ⟨I, Q, F⟩ := L
  have hm : ∀ k, k < 49 ∨ k = 51 ∨ 52 < k → mA τ n y c k = τ k := fun k hk => by
    unfold mA
    rw [up_ne (by omega), upL_ne (by omega), up_ne (by omega)]
  have I1 : yn_I t (mA τ n y c) := yn_I_lt I (fun k hk => hm k (by omega))
  have hn1 : lsN (mA τ n y c) = n := by
    show (mA τ n y c 19 0).toInt.toNat = n
    rw [hm 19 (by omega)]
    exact hn
  have h19 : τ 19 0 = nI n := by
    have := yg_n19e I
    rw [show (τ 19 0).toNatClampNeg = n from hn] at this
    exact this
  obtain ⟨I2, hk, k19, k20, k21, k22⟩ := yn_list I1 hn1 h4 (a := nI y) (b := nI c) (by rw [ya_isT_c (hm 1 (by omega))]; exact h1) (by rw [nI_toInt (by omega)]; omega)
  generalize ya_list (mA τ n y c) n (nI y) (nI c) = τ2 at *
  have hl2 : lsN τ2 = n + 1 := by
    show (τ2 19 0).toInt.toNat = n + 1
    rw [k19, nI_toInt (by omega)]
    omega
  refine ⟨I1, by rw [hm 19 (by omega)]; exact h19, ⟨I2, ⟨?_, fun i hi => ?_⟩, ⟨fun k q => ?_, ?_⟩⟩, hl2, ?_⟩
  · rw [hl2, hk 52 (by omega)]
    unfold mA
    rw [up_at, if_pos rfl]
  · rw [hl2] at hi
    by_cases e : i = n
    · subst e
      refine ⟨?_, ?_, fun m hm => ?_⟩
      · rw [hk 49 (by omega), k20, k21, if_pos rfl, if_pos rfl, nI_toInt (by omega), nI_toInt (by omega)]
        unfold mA
        rw [up_ne (by omega), upL_ne (by omega), up_at, if_pos rfl]
        rfl
      · have e0 : qc τ2 i = 0 := by
          show (τ2 22 i).toInt.toNat = 0
          rw [k22, if_pos rfl]
          rfl
        unfold qh
        rw [e0]
        unfold lg
        rw [hk 50 (by omega)]
        show lg (mA τ i y c) 50 i = _
        unfold mA
        rw [lg_up0 (by omega), lg_up, if_pos ⟨rfl, rfl⟩]
        rfl
      · have e0 : qc τ2 i = 0 := by
          show (τ2 22 i).toInt.toNat = 0
          rw [k22, if_pos rfl]
          rfl
        rw [e0] at hm
        exact absurd hm (by omega)
    · obtain ⟨b1, b2, b3⟩ := Q.2 i (by rw [hn]; omega)
      obtain ⟨c1, c2⟩ := qi_c (σ := τ) (τ := τ2) (i := i) (by rw [k22, if_neg e, hm 22 (by omega)]) (fun m _ k q1 q2 => by rw [hk k (by omega), hm k (by omega)]) b3
      refine ⟨?_, ?_, c2⟩
      · rw [hk 49 (by omega), k20, k21, if_neg e, if_neg e, hm 20 (by omega), hm 21 (by omega), ← b1]
        unfold mA
        rw [up_ne (by omega), upL_ne (by omega), up_at, if_neg e]
      · rw [c1, ← b2]
        unfold lg
        rw [hk 50 (by omega)]
        show lg (mA τ n y c) 50 i = lg τ 50 i
        unfold mA
        rw [lg_up0 (by omega), lg_up, if_neg (fun q => e q.2), lg_up0 (by omega)]
  · rw [hk k (by omega), hm k (by omega)]
    exact F.1 k q
  · rw [hk 52 (by omega)]
    unfold mA
    rw [up_at, if_neg (by omega), upL_ne (by omega), up_ne (by omega)]
    exact F.2
  · rw [k22, if_pos rfl]
    rfl
/-- one more condition -/
def mC (τ : sy_Mem) (l m w : Nat) : sy_Mem := sy_upL τ 50 l (lg τ 50 l + pL (1 + w * 2 ^ (2 + 16 * m)))
theorem ll_cond (L : LL t σ τ) {l m o f c x : Nat} (hn : lsN τ = l + 1) (h4 : l < 4) (h22 : τ 22 l = nI m) (hm : m < 3) (ho : o < 2) (hf : f < 3) (hc : c < 6) (hx : x < 1000) : yn_I t (mC τ l m (o + 2 * f + 8 * c + 64 * x)) ∧ mC τ l m (o + 2 * f + 8 * c + 64 * x) 19 0 = nI (l + 1) ∧ mC τ l m (o + 2 * f + 8 * c + 64 * x) 22 l = nI m ∧ LL t σ (ya_cond (mC τ l m (o + 2 * f + 8 * c + 64 * x)) l m (ya_b (decide (nI o = 1))) (nI f) (nI c) (nI x)) ∧ lsN (ya_cond (mC τ l m (o + 2 * f + 8 * c + 64 * x)) l m (ya_b (decide (nI o = 1))) (nI f) (nI c) (nI x)) = l + 1 ∧ ya_cond (mC τ l m (o + 2 * f + 8 * c + 64 * x)) l m (ya_b (decide (nI o = 1))) (nI f) (nI c) (nI x) 22 l = nI (m + 1) := by
  obtain ⟨I, Q, F⟩ := L
  generalize hw : o + 2 * f + 8 * c + 64 * x = w
  have hmm : ∀ k, k ≠ 50 → mC τ l m w k = τ k := fun k hk => upL_ne hk
  have I1 : yn_I t (mC τ l m w) := yn_I_lt I (fun k hk => hmm k (by omega))
  have h19 : τ 19 0 = nI (l + 1) := by
    have := yg_n19e I
    rw [show (τ 19 0).toNatClampNeg = l + 1 from hn] at this
    exact this
  have e19 : mC τ l m w 19 0 = nI (l + 1) := by rw [hmm 19 (by omega)]; exact h19
  have e22 : mC τ l m w 22 l = nI m := by rw [hmm 22 (by omega)]; exact h22
  obtain ⟨I2, hk, k22, k23, k24, k25, k26⟩ := yn_cond I1 h4 hm e19 e22 (decide (nI o = 1)) (f := nI f) (by rw [nI_toInt (by omega)]; omega) (nI c) (nI x)
  generalize ya_cond (mC τ l m w) l m (ya_b (decide (nI o = 1))) (nI f) (nI c) (nI x) = τ2 at *
  have hl2 : lsN τ2 = l + 1 := by
    show (τ2 19 0).toInt.toNat = l + 1
    rw [hk 19 (by omega), hmm 19 (by omega), h19, nI_toInt (by omega)]
    omega
  have ob : ya_b (decide (nI o = 1)) = nI o := by
    rcases (show o = 0 ∨ o = 1 by omega) with rfl | rfl <;> rfl
  refine ⟨I1, e19, e22, ⟨I2, ⟨?_, fun i hi => ?_⟩, ⟨fun k q => ?_, ?_⟩⟩, hl2, by rw [k22, if_pos rfl]⟩
  · rw [hl2, ← hn, hk 52 (by omega), hmm 52 (by omega)]
    exact Q.1
  · rw [hl2] at hi
    obtain ⟨b1, b2, b3⟩ := Q.2 i (by rw [hn]; exact hi)
    refine ⟨by rw [hk 49 (by omega), hk 20 (by omega), hk 21 (by omega), hmm 49 (by omega), hmm 20 (by omega), hmm 21 (by omega)]; exact b1, ?_⟩
    have hlg : lg τ2 50 i = lg (mC τ l m w) 50 i := by
      unfold lg
      rw [hk 50 (by omega)]
    rw [hlg]
    have hcell : ∀ j, j ≠ 3 * l + m → ∀ k, 23 ≤ k → k ≤ 26 → τ2 k j = τ k j := fun j hj k h1 h2 => by
      rcases (show k = 23 ∨ k = 24 ∨ k = 25 ∨ k = 26 by omega) with rfl | rfl | rfl | rfl
      · rw [k23, if_neg hj, hmm 23 (by omega)]
      · rw [k24, if_neg hj, hmm 24 (by omega)]
      · rw [k25, if_neg hj, hmm 25 (by omega)]
      · rw [k26, if_neg hj, hmm 26 (by omega)]
    by_cases e : i = l
    · subst e
      have q0 : qc τ i = m := by
        show (τ 22 i).toInt.toNat = m
        rw [h22, nI_toInt (by omega)]
        omega
      have q2 : qc τ2 i = m + 1 := by
        show (τ2 22 i).toInt.toNat = m + 1
        rw [k22, if_pos rfl, nI_toInt (by omega)]
        omega
      have hw1 : q1 τ2 i m = w := by
        unfold q1
        rw [k23, k24, k25, k26, if_pos rfl, if_pos rfl, if_pos rfl, if_pos rfl, ob, nI_toInt (by omega), nI_toInt (by omega), nI_toInt (by omega), nI_toInt (by omega), ← hw]
        simp
      refine ⟨?_, fun j hj => ?_⟩
      · unfold mC
        rw [lg_up, if_pos ⟨rfl, rfl⟩, b2, pL_add]
        unfold qh
        rw [q0, q2]
        show _ = pL (m + 1 + (qn τ2 i m + 2 ^ (2 + 16 * m) * q1 τ2 i m))
        rw [hw1, qn_c (σ := τ) (τ := τ2) m (fun j hj k h1 h2 => hcell _ (by omega) k h1 h2), Nat.mul_comm w]
        congr 1
        omega
      · rw [q2] at hj
        by_cases ej : j = m
        · subst ej
          unfold QB
          rw [k23, k24, k25, k26, if_pos rfl, if_pos rfl, if_pos rfl, if_pos rfl, nI_toInt (by omega), nI_toInt (by omega), nI_toInt (by omega)]
          exact ⟨ya_b01 _, by omega, by omega, by omega⟩
        · have := b3 j (by rw [q0]; omega)
          unfold QB at this ⊢
          rw [hcell _ (by omega) 23 (by omega) (by omega), hcell _ (by omega) 24 (by omega) (by omega), hcell _ (by omega) 25 (by omega) (by omega), hcell _ (by omega) 26 (by omega) (by omega)]
          exact this
    · have h3 : qc τ i ≤ 3 := by
        have := (I.2.2.2.2.2.2.2.1 i (by have : (τ 19 0).toInt = (l + 1 : Nat) := by rw [h19, nI_toInt (by omega)]
                                         omega)).2.2.1
        show (τ 22 i).toInt.toNat ≤ 3
        omega
      obtain ⟨c1, c2⟩ := qi_c (σ := τ) (τ := τ2) (i := i) (by rw [k22, if_neg e, hmm 22 (by omega)]) (fun j hj k h1 h2 => hcell _ (by omega) k h1 h2) b3
      refine ⟨?_, c2⟩
      rw [c1, ← b2]
      unfold mC
      rw [lg_up, if_neg (fun q => e q.2)]
  · rw [hk k (by omega), hmm k (by omega)]
    exact F.1 k q
  · rw [hk 52 (by omega), hmm 52 (by omega)]
    exact F.2
end LA23
