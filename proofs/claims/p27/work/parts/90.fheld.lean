/-! held ones filled -/
section YFh
variable {K B ρ : sy_Mem} {t n N v : Nat} {hl : Nat → Int32} {kp : Nat → Bool}
def ya_fk (K : sy_Mem) (hl : Nat → Int32) (kp : Nat → Bool) : Nat → sy_Mem
  | 0 => K
  | k + 1 => if kp (k / 3) = true then ya_fk K hl kp k else sy_up (ya_fk K hl kp k) 14 (3 * (hl (k / 3)).toNatClampNeg + k % 3) (K 31 k)
theorem ya_fk_ne {k : Nat} (h : k ≠ 14) : ∀ n, ya_fk K hl kp n k = K k
  | 0 => rfl
  | n + 1 => by
    unfold ya_fk
    by_cases e : kp (n / 3) = true
    · rw [if_pos e]; exact ya_fk_ne h n
    · rw [if_neg e, yu_ne h]; exact ya_fk_ne h n
theorem ya_fk_rng (I : yn_I t K) : ∀ n, n ≤ 12 → ∀ i, i < 180 → 0 ≤ (ya_fk K hl kp n 14 i).toInt ∧ (ya_fk K hl kp n 14 i).toInt ≤ 999
  | 0, _ => I.2.1.2
  | n + 1, hn => fun i hi => by
    unfold ya_fk
    by_cases e : kp (n / 3) = true
    · rw [if_pos e]; exact ya_fk_rng I n (by omega) i hi
    · rw [if_neg e, yu_eq]
      by_cases ei : i = 3 * (hl (n / 3)).toNatClampNeg + n % 3
      · rw [ei, upd_at]
        exact I.2.2.2.2.2.2.2.2.1 n (by omega)
      · rw [upd_ne ei]
        exact ya_fk_rng I n (by omega) i hi
theorem ya_fk_key (hN : N ≤ 4) (hlv : ∀ i, i < N → yl K (hl i)) (hk : ∀ j, j < N → kp j = false → tK K (yT K (hl j)) ≠ 2 → K 31 (3 * j) = K 14 (3 * (hl j).toNatClampNeg)) {s : Int32} (hs : yl K s) (h2 : tK K (yT K s) ≠ 2) : ∀ n, n ≤ 3 * N → ya_fk K hl kp n 14 (3 * s.toNatClampNeg) = K 14 (3 * s.toNatClampNeg)
  | 0, _ => rfl
  | n + 1, hn => by
    unfold ya_fk
    by_cases e : kp (n / 3) = true
    · rw [if_pos e]; exact ya_fk_key hN hlv hk hs h2 n (by omega)
    · rw [if_neg e, yu_eq]
      by_cases ei : 3 * s.toNatClampNeg = 3 * (hl (n / 3)).toNatClampNeg + n % 3
      · have hj : n / 3 < N := by omega
        have hl1 := yl_in (hlv _ hj)
        have hl2 := yl_in hs
        have es : s = hl (n / 3) := yi_ext (by
          have e1 : s.toNatClampNeg = s.toInt.toNat := yi_clampInt s
          have e2 : (hl (n / 3)).toNatClampNeg = (hl (n / 3)).toInt.toNat := yi_clampInt _
          omega)
        have h0 : n % 3 = 0 := by omega
        have en : n = 3 * (n / 3) := by omega
        rw [ei, upd_at, h0, Nat.add_zero]
        rw [es] at h2
        have := hk _ hj (by simpa using e) h2
        rw [← en] at this
        exact this
      · rw [upd_ne ei]
        exact ya_fk_key hN hlv hk hs h2 n (by omega)
theorem yn_fk (I : yn_I t K) (hN : N ≤ 4) (hlv : ∀ i, i < N → yl K (hl i)) (hk : ∀ j, j < N → kp j = false → tK K (yT K (hl j)) ≠ 2 → K 31 (3 * j) = K 14 (3 * (hl j).toNatClampNeg)) : yn_I t (ya_fk K hl kp (3 * N)) := by
  refine yn_I_num I (fun k h => ya_fk_ne h _) (fun i hi => ya_fk_rng I (3 * N) (by omega) i hi) (fun s hs h2 => ?_)
  have hin := yl_in hs
  rw [ya_N_in hin (by decide), ya_N_in hin (by decide), show (0 : Int32).toNatClampNeg = 0 from rfl, Nat.add_zero]
  exact ya_fk_key hN hlv hk hs h2 (3 * N) (Nat.le_refl _)
theorem ya_fk_lo (h : yo_lo K B) : ∀ n, yo_lo (ya_fk K hl kp n) (ya_fk B hl kp n)
  | 0 => h
  | n + 1 => by
    unfold ya_fk
    rw [h 31 (by decide)]
    by_cases e : kp (n / 3) = true
    · rw [if_pos e, if_pos e]; exact ya_fk_lo h n
    · rw [if_neg e, if_neg e]; exact yo_lo_up (ya_fk_lo h n)
theorem ya_fk_3 (hn : n < 4) : ya_fk K hl kp (3 * (n + 1)) = if kp n = true then ya_fk K hl kp (3 * n) else ya_fil (ya_fk K hl kp (3 * n)) (hl n).toNatClampNeg n 3 := by
  have q0 : (3 * n) / 3 = n := by omega
  have q1 : (3 * n + 1) / 3 = n := by omega
  have q2 : (3 * n + 2) / 3 = n := by omega
  have r0 : (3 * n) % 3 = 0 := by omega
  have r1 : (3 * n + 1) % 3 = 1 := by omega
  have r2 : (3 * n + 2) % 3 = 2 := by omega
  have e : ∀ k, ya_fk K hl kp (k + 1) = if kp (k / 3) = true then ya_fk K hl kp k else sy_up (ya_fk K hl kp k) 14 (3 * (hl (k / 3)).toNatClampNeg + k % 3) (K 31 k) := fun _ => rfl
  rw [show 3 * (n + 1) = 3 * n + 2 + 1 by omega, e, show 3 * n + 2 = 3 * n + 1 + 1 by omega, e (3 * n + 1), e (3 * n), show 3 * n + 1 + 1 = 3 * n + 2 by omega, q0, q1, q2, r0, r1, r2]
  by_cases h : kp n = true
  · rw [if_pos h, if_pos h, if_pos h, if_pos h]
  · rw [if_neg h, if_neg h, if_neg h, if_neg h]
    have hs : ∀ j : Nat, j < 3 → ya_slot (ya_fk K hl kp (3 * n)) (nI n) (nI j) = K 31 (3 * n + j) := fun j hj => by
      rw [ya_slot_in (by rw [nI_toInt (by omega)]; omega) (by rw [nI_toInt (by omega)]; omega), nI_clamp (by omega), nI_clamp (by omega), ya_fk_ne (by decide)]
    have e0 := hs 0 (by decide)
    have e1 := hs 1 (by decide)
    have e2 := hs 2 (by decide)
    have s1 : ∀ X : sy_Mem, X 31 = ya_fk K hl kp (3 * n) 31 → ∀ a b, ya_slot X a b = ya_slot (ya_fk K hl kp (3 * n)) a b := fun X hX a b => ya_slot_c hX a b
    show _ = sy_up (sy_up (sy_up (ya_fk K hl kp (3 * n)) 14 (3 * (hl n).toNatClampNeg + 0) (ya_slot (ya_fk K hl kp (3 * n)) (nI n) (nI 0))) 14 (3 * (hl n).toNatClampNeg + 1) (ya_slot (ya_fk K hl kp (3 * n)) (nI n) (nI 1))) 14 (3 * (hl n).toNatClampNeg + 2) (ya_slot (ya_fk K hl kp (3 * n)) (nI n) (nI 2))
    rw [e0, e1, e2]
    rfl
theorem yt_X5_fillHeld (hv : v < 4) (h6 : K (sy_vw v) 6 = nI N) (hN : N ≤ 4) (hlv : ∀ i, i < N → yl K (ya_held K v (nI i))) : sf_X5_fillHeld [.ref 0, .ref (sy_vw v)] K = some (.inl none, ya_fk K (fun i => ya_held K v (nI i)) (fun i => ya_kept K v (nI i)) (3 * N)) := by
  have hb := yv_lt hv
  refine ee_meth ?_ rfl
  unfold sm_X5_fillHeld
  refine es_Q (es_B (es_Q (es_SI ee_K0 ?_)))
  have hne : ∀ (n k : Nat), k ≠ 14 → ya_fk K (fun i => ya_held K v (nI i)) (fun i => ya_kept K v (nI i)) n k = K k := fun n k h => ya_fk_ne h n
  refine es_loop (E := fun n => [.ref 0, .ref (sy_vw v), .int (nI n)]) (S := fun n => ya_fk K (fun i => ya_held K v (nI i)) (fun i => ya_kept K v (nI i)) (3 * n)) N 0 1000 (by omega) (fun n _ h2 => ?_) ?_ (fun n _ h2 k' => ?_) ?_
  · exact (es_cB (B := nI N) rfl ((ee_M (ee_aR (ee_R rfl) ee_aN) (ee_cv (yt_X4_heldCount _ hv) (yv_rc hv rfl))).trans (by rw [hne _ _ (by omega), h6])) (by omega)).trans (by rw [nI_clamp (by omega), decide_eq_true (by omega)])
  · exact (es_cB (B := nI N) rfl ((ee_M (ee_aR (ee_R rfl) ee_aN) (ee_cv (yt_X4_heldCount _ hv) (yv_rc hv rfl))).trans (by rw [hne _ _ (by omega), h6])) (by omega)).trans (by rw [nI_clamp (by omega), decide_eq_false (by omega)])
  · have hl' := hlv n (by omega)
    have hin := yl_in hl'
    have hz : (ya_held K v (nI n)).toNatClampNeg < 60 := by rw [yi_clampInt]; omega
    have eh : ∀ m, ya_held (ya_fk K (fun i => ya_held K v (nI i)) (fun i => ya_kept K v (nI i)) m) v (nI n) = ya_held K v (nI n) := fun m => ya_held_c (hne m _ (by omega)) (hne m _ (by omega)) _
    have ek : ∀ m, ya_kept (ya_fk K (fun i => ya_held K v (nI i)) (fun i => ya_kept K v (nI i)) m) v (nI n) = ya_kept K v (nI n) := fun m => ya_kept_c (hne m _ (by omega)) (hne m _ (by omega)) _
    rw [ya_fk_3 (by omega)]
    have hc : sy_cN (sy_cI (sy_iM (sy_cv 4 1 sf_X4_isKept) (sy_aR (sy_rL 1) (sy_aI (sy_iL 2) sy_aN)))) [.ref 0, .ref (sy_vw v), .int (nI n)] (ya_fk K (fun i => ya_held K v (nI i)) (fun i => ya_kept K v (nI i)) (3 * n)) = some (.inl (!ya_kept K v (nI n)), ya_fk K (fun i => ya_held K v (nI i)) (fun i => ya_kept K v (nI i)) (3 * n)) := (ee_cN (ee_cb (ee_M (ee_aR (ee_R rfl) (ee_aI (ee_L rfl) ee_aN)) (ee_cv (yt_X4_isKept _ hv _) (yv_rc hv rfl))))).trans (by rw [ek])
    by_cases e : ya_kept K v (nI n) = true
    · rw [if_pos e]
      exact es_Q (es_If (hc.trans (by rw [e]; rfl)) (es_N (es_In1 rfl rfl)))
    · rw [if_neg e]
      refine es_Q (es_It (hc.trans (by rw [show ya_kept K v (nI n) = false by simpa using e]; rfl)) ?_)
      refine es_C (ee_aR (ee_R rfl) (ee_aI (x := nI (ya_held K v (nI n)).toNatClampNeg) ((ee_M (ee_aR (ee_R rfl) (ee_aI (ee_L rfl) ee_aN)) (ee_cv (yt_X4_heldAt _ hv _) (yv_rc hv rfl))).trans (by rw [eh, ← yi_nat (yi_pos.mpr hin.1)])) (ee_aI (ee_L rfl) ee_aN))) (ee_cv (yt_X5_fillSegment _ hz) rfl) (es_In1 rfl rfl)
  · rw [Nat.zero_add]
    rfl
theorem yi_div3 : ∀ k : Nat, k < 12 → (if true = true then nI k / 3 else nI k - nI k / 3 * 3) = nI (k / 3) ∧ (if false = true then nI k / 3 else nI k - nI k / 3 * 3) = nI (k % 3) := by decide
theorem yi_mul3 : ∀ k : Nat, k < 5 → 3 * nI k = nI (3 * k) := by decide
end YFh
