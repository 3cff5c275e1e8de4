/-! get: what is kept by the component's, and the model's -/
section YG5
variable {σ τ A A' τ' : sy_Mem} {t : Nat}
/-- the model's frame -/
def ym_fr (τ τ' : sy_Mem) : Prop := ∀ k, (k < 45 ∨ 76 < k) → τ' k = τ k
/-- the same, but that its own object may change -/
def ym_fw (τ τ' : sy_Mem) : Prop := ∀ k, (k < 44 ∨ 76 < k) → τ' k = τ k
theorem ym_fr_refl : ym_fr τ τ := fun _ _ => rfl
theorem ym_fr_trans {τ'' : sy_Mem} (h1 : ym_fr τ τ') (h2 : ym_fr τ' τ'') : ym_fr τ τ'' := fun k hk => (h2 k hk).trans (h1 k hk)
theorem ym_fr_up {k i : Nat} {x : Int32} (h : 45 ≤ k ∧ k ≤ 76) : ym_fr τ (sy_up τ k i x) := fun j hj => yu_ne (by omega)
theorem ym_fw_of (h : ym_fr τ τ') : ym_fw τ τ' := fun k hk => h k (by omega)
theorem ym_fw_trans {τ'' : sy_Mem} (h1 : ym_fw τ τ') (h2 : ym_fw τ' τ'') : ym_fw τ τ'' := fun k hk => (h2 k hk).trans (h1 k hk)
theorem ym_fw_up {k i : Nat} {x : Int32} (h : 44 ≤ k ∧ k ≤ 76) : ym_fw τ (sy_up τ k i x) := fun j hj => yu_ne (by omega)
theorem ya_mode_c {v w : Nat} (h : A' (sy_vw w) = A (sy_vw w)) : ya_mode A' w = ya_mode A w := by
  unfold ya_mode
  rw [h]
theorem yr_S_c (M : yr_S A τ) (hb : yc_base A A') (h44 : τ' 44 0 = τ 44 0) (hm : ∀ k, 45 ≤ k → k ≤ 52 → τ' k = τ k) : yr_S A' τ' := by
  obtain ⟨s0, s1, s2, s3, s4, s5, s6, s7, s8⟩ := M
  refine ⟨?_, ?_, ?_, ?_, ?_, ?_, ?_, ?_, ?_⟩
  · rw [h44, hb 1 (by decide)]; exact s0
  · rw [hm 45 (by decide) (by decide), hb 2 (by decide)]; exact s1
  · rw [hm 46 (by decide) (by decide), hb 3 (by decide)]; exact s2
  · rw [hm 47 (by decide) (by decide), hb 5 (by decide)]; exact s3
  · rw [hm 48 (by decide) (by decide), hb 6 (by decide)]; exact s4
  · rw [hm 49 (by decide) (by decide), hb 4 (by decide)]; exact s5
  · rw [hm 50 (by decide) (by decide), hb 7 (by decide)]; exact s6
  · rw [hm 51 (by decide) (by decide), hb 8 (by decide)]; exact s7
  · rw [hm 52 (by decide) (by decide), hb 9 (by decide)]; exact s8
theorem yr_G_c (M : yr_G A τ) (hb : yc_base A A') (hm : ∀ k, 53 ≤ k → k ≤ 58 → τ' k = τ k) : yr_G A' τ' := by
  obtain ⟨g0, g1, g2, g3, g4⟩ := M
  refine ⟨?_, ?_, ?_, ?_, ?_⟩
  · rw [hm 53 (by decide) (by decide), hb 11 (by decide)]; exact g0
  · rw [hm 54 (by decide) (by decide), hb 11 (by decide), hb 12 (by decide)]; exact g1
  · rw [hm 55 (by decide) (by decide), hb 14 (by decide)]; exact g2
  · rw [hm 57 (by decide) (by decide), hb 16 (by decide)]; exact g3
  · rw [hm 58 (by decide) (by decide), hb 15 (by decide)]; exact g4
/-- a change of one view, the area and the list alone -/
theorem yr_M_v (M : yr_M A τ) (I : yn_I t A) {v : Nat} (hb : yc_base A A') (h44 : τ' 44 0 = τ 44 0) (hm : ∀ k, 45 ≤ k → k ≤ 58 → τ' k = τ k)
    (hw : ∀ w, w < 4 → w ≠ v → (A' (sy_vw w) = A (sy_vw w) ∧ A' (sy_vw w + 1) = A (sy_vw w + 1) ∧ A' (sy_vw w + 2) = A (sy_vw w + 2)) ∧ (∀ k, 59 ≤ k → k ≤ 64 → τ' k w = τ k w) ∧ (∀ i, i < 4 → τ' 65 (4 * w + i) = τ 65 (4 * w + i) ∧ τ' 66 (4 * w + i) = τ 66 (4 * w + i)))
    (hv : yr_v A' τ' v) (hA : yr_A A' τ') : yr_M A' τ' := by
  refine ⟨yr_S_c M.1 hb h44 (fun k h1 h2 => hm k h1 (by omega)), yr_G_c M.2.1 hb (fun k h1 h2 => hm k (by omega) h2), fun w hw4 => ?_, hA⟩
  by_cases e : w = v
  · rw [e]; exact hv
  · obtain ⟨⟨a0, a1, a2⟩, b, c⟩ := hw w hw4 e
    obtain ⟨m0, m1, m2, m3, m4, m5, m6⟩ := M.2.2.1 w hw4
    refine ⟨?_, ?_, ?_, ?_, ?_, ?_, ?_⟩
    · rw [b 59 (by decide) (by decide), a0]; exact m0
    · rw [b 60 (by decide) (by decide), a0]; exact m1
    · rw [b 61 (by decide) (by decide), ya_mode_c (v := v) a0]; exact m2
    · rw [b 62 (by decide) (by decide), a0]; exact m3
    · rw [b 63 (by decide) (by decide), a0]; exact m4
    · rw [b 64 (by decide) (by decide), a0]; exact m5
    · rw [a0, a1, a2]
      intro i hi
      have h4 := (I.2.2.2.2.2.1 w hw4).2.2.2.2.2.2.1.2
      obtain ⟨c1, c2⟩ := c i (by omega)
      rw [c1, c2]
      exact m6 i hi
theorem yr_A_c (M : yr_A A τ) (hA : ∀ k, 19 ≤ k → k ≤ 26 → A' k = A k) (h24 : τ' 44 24 = τ 44 24) (hm : ∀ k, 67 ≤ k → k ≤ 73 → τ' k = τ k) (h74 : τ' 74 = A' 31) : yr_A A' τ' := by
  obtain ⟨a0, a1, a2, a3, a4, a5, a6, a7, a8⟩ := M
  refine ⟨?_, ?_, ?_, ?_, ?_, ?_, ?_, ?_, h74⟩
  · rw [h24, hA 19 (by decide) (by decide)]; exact a0
  · rw [hm 67 (by decide) (by decide), hA 20 (by decide) (by decide)]; exact a1
  · rw [hm 68 (by decide) (by decide), hA 21 (by decide) (by decide)]; exact a2
  · rw [hm 69 (by decide) (by decide), hA 22 (by decide) (by decide)]; exact a3
  · rw [hm 70 (by decide) (by decide), hA 23 (by decide) (by decide)]; exact a4
  · rw [hm 71 (by decide) (by decide), hA 24 (by decide) (by decide)]; exact a5
  · rw [hm 72 (by decide) (by decide), hA 25 (by decide) (by decide)]; exact a6
  · rw [hm 73 (by decide) (by decide), hA 26 (by decide) (by decide)]; exact a7
/-- cells of the model that its calls use for themselves change: nothing else -/
theorem yr_M_own (M : yr_M A τ) (h44 : τ' 44 0 = τ 44 0 ∧ τ' 44 24 = τ 44 24) (hm : ∀ k, 45 ≤ k → k ≠ 56 → k < 75 → τ' k = τ k) : yr_M A τ' := by
  obtain ⟨mS, ⟨g0, g1, g2, g3, g4⟩, mV, mA⟩ := M
  refine ⟨yr_S_c mS (fun _ _ => rfl) h44.1 (fun k h1 h2 => hm k (by omega) (by omega) (by omega)), ⟨?_, ?_, ?_, ?_, ?_⟩, fun w hw => ?_, yr_A_c mA (fun _ _ _ => rfl) h44.2 (fun k h1 h2 => hm k (by omega) (by omega) (by omega)) (by rw [hm 74 (by decide) (by decide) (by decide)]; exact mA.2.2.2.2.2.2.2.2)⟩
  · rw [hm 53 (by decide) (by decide) (by decide)]; exact g0
  · rw [hm 54 (by decide) (by decide) (by decide)]; exact g1
  · rw [hm 55 (by decide) (by decide) (by decide)]; exact g2
  · rw [hm 57 (by decide) (by decide) (by decide)]; exact g3
  · rw [hm 58 (by decide) (by decide) (by decide)]; exact g4
  · obtain ⟨m0, m1, m2, m3, m4, m5, m6⟩ := mV w hw
    refine ⟨?_, ?_, ?_, ?_, ?_, ?_, ?_⟩
    · rw [hm 59 (by decide) (by decide) (by decide)]; exact m0
    · rw [hm 60 (by decide) (by decide) (by decide)]; exact m1
    · rw [hm 61 (by decide) (by decide) (by decide)]; exact m2
    · rw [hm 62 (by decide) (by decide) (by decide)]; exact m3
    · rw [hm 63 (by decide) (by decide) (by decide)]; exact m4
    · rw [hm 64 (by decide) (by decide) (by decide)]; exact m5
    · rw [hm 65 (by decide) (by decide) (by decide), hm 66 (by decide) (by decide) (by decide)]; exact m6
theorem yr_M_44 (M : yr_M A τ) {i : Nat} {x : Int32} (h : i ≠ 0 ∧ i ≠ 24) : yr_M A (sy_up τ 44 i x) :=
  yr_M_own M ⟨yu_an (Ne.symm h.1), yu_an (Ne.symm h.2)⟩ (fun k hk _ _ => yu_ne (by omega))
/-- the model's part of a slot filled -/
def ym_fillN (τ A : sy_Mem) (n : Nat) (x : Int32) : Nat → sy_Mem
  | 0 => τ
  | i + 1 => sy_up (ym_fillN τ A n x i) 74 (3 * n + i) (ya_N A x (nI i))
theorem ym_fillN_ne {n : Nat} {x : Int32} {k : Nat} (hk : k ≠ 74) : ∀ i, ym_fillN τ A n x i k = τ k
  | 0 => rfl
  | i + 1 => by
    show sy_up _ 74 _ _ k = _
    rw [yu_ne hk, ym_fillN_ne hk i]
theorem ym_fillN_74 {n : Nat} {x : Int32} (h : τ 74 = A 31) : ∀ i, ym_fillN τ A n x i 74 = ya_fillN A n x i 31
  | 0 => h
  | i + 1 => by
    show sy_up _ 74 _ _ 74 = sy_up _ 31 _ _ 31
    rw [yu_eq, yu_eq, ym_fillN_74 h i]
def ym_one (τ A : sy_Mem) (v n : Nat) (x : Int32) (h q : Bool) : sy_Mem := if h then sy_up (sy_up (sy_up (ym_fillN τ A n x 3) 65 (4 * v + n) x) 66 (4 * v + n) (ya_b q)) 64 v (nI (n + 1)) else ym_fillN τ A n x 3
theorem em_55c {env : List Value} {r : sy_RE} {i e : sy_IE} {x f : Int32} (h55 : τ 55 = A 14) (hr : r env τ = some (.inl 55, τ)) (hi : i env τ = some (.inl x, τ)) (he : e env τ = some (.inl f, τ)) (h : 0 ≤ x.toInt ∧ x.toInt < 60) (hf : 0 ≤ f.toInt ∧ f.toInt < 3) : sy_iA 0 r (sy_iAdd (sy_iMul (sy_iK 3) i) e) env τ = some (.inl (ya_N A x f), τ) := by
  have e1 := yl_ix (c := 3) (n := 60) (m := 3) yl_c3 h.1 h.2 (by omega) hf.1 hf.2
  rw [Int32.mul_comm] at e1
  rw [ee_A (kd := 0) hr (ee_B (ee_B ee_K hi) he) e1.2.2, e1.2.1, h55, ya_N_in h hf]
theorem ym_fills (h55 : τ 55 = A 14) {v n : Nat} (hv : v < 4) (hn : n < 4) (x : Int32) (h q : Bool) (hx : yl A x) : sf_X6_fills [.ref 44, .int (nI v), .int (nI n), .int x, .int (ya_b h), .int (ya_b q)] τ = some (.inl none, ym_one τ A v n x h q) := by
  refine ee_meth ?_ rfl
  unfold sm_X6_fills
  refine es_Q (es_Q (es_B (es_Q (es_SI ee_K0 ?_))))
  refine es_loop (E := fun i => [.ref 44, .int (nI v), .int (nI n), .int x, .int (ya_b h), .int (ya_b q), .int (nI i)]) (S := fun i => ym_fillN τ A n x i) 3 0 1000 (by omega) (fun i _ hi => ?_) ?_ (fun i _ hi k' => ?_) ?_
  · refine (ee_cB (ee_L rfl) ee_K).trans ?_
    rw [show decide (nI i < 3) = decide (i < 3) from yi_lt (N := 3) rfl (by omega) (by omega), decide_eq_true (by omega)]
  · rfl
  · have e1 := yl_ix (x := nI n) (y := nI i) (c := 3) (n := 4) (m := 3) yl_c3 (by rw [nI_toInt (by omega)]; omega) (by rw [nI_toInt (by omega)]; omega) (by omega) (by rw [nI_toInt (by omega)]; omega) (by rw [nI_toInt (by omega)]; omega)
    rw [Int32.mul_comm, nI_clamp (by omega), nI_clamp (by omega)] at e1
    refine es_Q (es_W (ee_rF (ee_R rfl) rfl) (ee_B (ee_B ee_K (ee_L rfl)) (ee_L rfl)) (em_55c (A := A) (by rw [ym_fillN_ne (by decide) i, h55]) (ee_rF (ee_R rfl) rfl) (ee_L rfl) (ee_L rfl) (yl_in hx) (by rw [nI_toInt (by omega)]; omega)) e1.2.2 (es_In1 rfl ?_))
    rw [e1.2.1]
    rfl
  · have e1 := yl_ix (x := nI v) (y := nI n) (c := 4) (n := 4) (m := 4) yl_c4 (by rw [nI_toInt (by omega)]; omega) (by rw [nI_toInt (by omega)]; omega) (by omega) (by rw [nI_toInt (by omega)]; omega) (by rw [nI_toInt (by omega)]; omega)
    rw [Int32.mul_comm, nI_clamp (by omega), nI_clamp (by omega)] at e1
    refine (es_I (ee_cb (ee_L rfl)) (fun _ => es_Q (es_W (ee_rF (ee_R rfl) rfl) (ee_B (ee_B ee_K (ee_L rfl)) (ee_L rfl)) (ee_L rfl) e1.2.2 (es_Q (es_W (ee_rF (ee_R rfl) rfl) (ee_B (ee_B ee_K (ee_L rfl)) (ee_L rfl)) (ee_L rfl) e1.2.2 (es_W (ee_rF (ee_R rfl) rfl) (ee_L rfl) (ee_B (ee_L rfl) ee_K) (yi_inbN (n := 4) hv (by omega)) es_eV))))) (fun _ => es_N es_eV)).trans ?_
    rw [e1.2.1, nI_clamp (by omega), nI_1]
    cases h <;> rfl
theorem ym_one_ne {v n : Nat} {x : Int32} {h q : Bool} {k : Nat} (h1 : k ≠ 74) (h2 : k ≠ 64) (h3 : k ≠ 65) (h4 : k ≠ 66) : ym_one τ A v n x h q k = τ k := by
  unfold ym_one
  cases h
  · exact ym_fillN_ne h1 3
  · show sy_up (sy_up (sy_up _ _ _ _) _ _ _) _ _ _ k = _
    rw [yu_ne h2, yu_ne h4, yu_ne h3, ym_fillN_ne h1 3]
theorem ym_one_fr {v n : Nat} {x : Int32} {h q : Bool} : ym_fr τ (ym_one τ A v n x h q) := fun k hk => ym_one_ne (by omega) (by omega) (by omega) (by omega)
theorem ym_one_t {v n : Nat} {x : Int32} {q : Bool} : ym_one τ A v n x true q = sy_up (sy_up (sy_up (ym_fillN τ A n x 3) 65 (4 * v + n) x) 66 (4 * v + n) (ya_b q)) 64 v (nI (n + 1)) := rfl
theorem ym_one_f {v n : Nat} {x : Int32} {q : Bool} : ym_one τ A v n x false q = ym_fillN τ A n x 3 := rfl
theorem yr_one (M : yr_M A τ) (I : yn_I t A) {v n : Nat} {h : Bool} (hv : v < 4) (hn : h = true → A (sy_vw v) 6 = nI n) (h4 : n < 4) {x : Int32} {q : Bool} : yr_M (ya_one A v n x h q) (ym_one τ A v n x h q) := by
  have hb := yv_lt hv
  have hne : ∀ {k : Nat}, k ≠ 31 → k ≠ sy_vw v → k ≠ sy_vw v + 1 → k ≠ sy_vw v + 2 → ya_one A v n x h q k = A k := fun a b c d => ya_one_ne A a b c d
  have hbase : yc_base A (ya_one A v n x h q) := fun k hk => hne (by omega) (by omega) (by omega) (by omega)
  have e64 : ∀ w, ym_one τ A v n x h q 64 w = if h = true ∧ w = v then nI (n + 1) else τ 64 w := fun w => by
    cases h
    · rw [ym_one_f, ym_fillN_ne (by decide) 3, if_neg (fun q => absurd q.1 (by decide))]
    · rw [ym_one_t]
      by_cases e : w = v
      · rw [e, yu_at, if_pos ⟨rfl, rfl⟩]
      · rw [yu_an e, yu_ne (by decide), yu_ne (by decide), ym_fillN_ne (by decide) 3, if_neg (fun q => e q.2)]
  have e65 : ∀ j, ym_one τ A v n x h q 65 j = if h = true ∧ j = 4 * v + n then x else τ 65 j := fun j => by
    cases h
    · rw [ym_one_f, ym_fillN_ne (by decide) 3, if_neg (fun q => absurd q.1 (by decide))]
    · rw [ym_one_t]
      rw [yu_ne (by decide), yu_ne (by decide)]
      by_cases e : j = 4 * v + n
      · rw [e, yu_at, if_pos ⟨rfl, rfl⟩]
      · rw [yu_an e, ym_fillN_ne (by decide) 3, if_neg (fun q => e q.2)]
  have e66 : ∀ j, ym_one τ A v n x h q 66 j = if h = true ∧ j = 4 * v + n then ya_b q else τ 66 j := fun j => by
    cases h
    · rw [ym_one_f, ym_fillN_ne (by decide) 3, if_neg (fun q => absurd q.1 (by decide))]
    · rw [ym_one_t]
      rw [yu_ne (by decide)]
      by_cases e : j = 4 * v + n
      · rw [e, yu_at, if_pos ⟨rfl, rfl⟩]
      · rw [yu_an e, yu_ne (by decide), ym_fillN_ne (by decide) 3, if_neg (fun q => e q.2)]
  have hkk : ∀ {k : Nat}, k ≠ 74 → k ≠ 64 → k ≠ 65 → k ≠ 66 → ym_one τ A v n x h q k = τ k := fun a b c d => ym_one_ne a b c d
  refine yr_M_v M I (v := v) hbase (congrFun (hkk (by decide) (by decide) (by decide) (by decide)) 0) (fun k h1 h2 => hkk (by omega) (by omega) (by omega) (by omega)) (fun w hw hwv => ?_) ?_ ?_
  · have hvn := yv_ne hwv
    have hbw := yv_lt hw
    refine ⟨⟨hne (by omega) hvn.1 hvn.2.1 hvn.2.2.1, hne (by omega) hvn.2.2.2.1 hvn.2.2.2.2.1 hvn.2.2.2.2.2.1, hne (by omega) hvn.2.2.2.2.2.2.1 hvn.2.2.2.2.2.2.2.1 hvn.2.2.2.2.2.2.2.2⟩, fun k h1 h2 => ?_, fun i hi => ?_⟩
    · by_cases e : k = 64
      · rw [e, e64, if_neg (fun q => hwv q.2)]
      · rw [hkk (by omega) e (by omega) (by omega)]
    · rw [e65, e66, if_neg (fun q => by omega), if_neg (fun q => by omega)]
      exact ⟨rfl, rfl⟩
  · obtain ⟨m0, m1, m2, m3, m4, m5, m6⟩ := M.2.2.1 v hv
    have hmode : ya_mode (ya_one A v n x h q) v = ya_mode A v := by
      unfold ya_mode
      rw [ya_one_vw A hv (by decide), ya_one_vw A hv (by decide), ya_one_vw A hv (by decide)]
    refine ⟨?_, ?_, ?_, ?_, ?_, ?_, ?_⟩
    · rw [hkk (by decide) (by decide) (by decide) (by decide), ya_one_vw A hv (by decide)]; exact m0
    · rw [hkk (by decide) (by decide) (by decide) (by decide), ya_one_vw A hv (by decide)]; exact m1
    · rw [hkk (by decide) (by decide) (by decide) (by decide), hmode]; exact m2
    · rw [hkk (by decide) (by decide) (by decide) (by decide), ya_one_vw A hv (by decide)]; exact m3
    · rw [hkk (by decide) (by decide) (by decide) (by decide), ya_one_vw A hv (by decide)]; exact m4
    · rw [e64, ya_one_6 A hv]
      cases h
      · rw [if_neg (fun q => absurd q.1 (by decide))]; exact m5
      · rw [if_pos ⟨rfl, rfl⟩]; rfl
    · rw [ya_one_6 A hv, ya_one_h1 A hv, ya_one_h2 A hv]
      intro i hi
      rw [e65, e66]
      cases h
      · have hz : ¬ (false = true ∧ 4 * v + i = 4 * v + n) := fun z => absurd z.1 (by decide)
        rw [if_neg hz, if_neg hz]
        exact m6 i hi
      · have hi : (i : Int) < (nI (n + 1)).toInt := hi
        rw [nI_toInt (by omega)] at hi
        show (if true = true ∧ 4 * v + i = 4 * v + n then x else τ 65 (4 * v + i)) = upd (A (sy_vw v + 1)) n x i ∧ (if true = true ∧ 4 * v + i = 4 * v + n then ya_b q else τ 66 (4 * v + i)) = upd (A (sy_vw v + 2)) n (ya_b q) i
        by_cases e : i = n
        · rw [e, if_pos ⟨rfl, rfl⟩, if_pos ⟨rfl, rfl⟩, pk_us, pk_us]
          exact ⟨rfl, rfl⟩
        · rw [if_neg (fun q => e (by omega)), if_neg (fun q => e (by omega)), pk_un e, pk_un e]
          exact m6 i (by rw [hn rfl, nI_toInt (by omega)]; omega)
  · refine yr_A_c M.2.2.2 (fun k h1 h2 => hne (by omega) (by omega) (by omega) (by omega)) (congrFun (hkk (by decide) (by decide) (by decide) (by decide)) 24) (fun k h1 h2 => hkk (by omega) (by omega) (by omega) (by omega)) ?_
    rw [ya_one_31 A hv]
    have : ym_one τ A v n x h q 74 = ym_fillN τ A n x 3 74 := by
      cases h
      · rfl
      · rw [ym_one_t, yu_ne (by decide), yu_ne (by decide), yu_ne (by decide)]
    rw [this]
    exact ym_fillN_74 M.2.2.2.2.2.2.2.2.2.2.2 3
end YG5
