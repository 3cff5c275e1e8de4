section SYE
def sy_mth (m : Nat) (s : List Value → sy_MM (Option Value)) : List Value → sy_MM (Option Value) := fun vs => if vs.length == m && vs.all (fun v => v.category == 1) then s vs else sy_fail
theorem sy_args {b : sy_Bs} : ∀ (vs : List Value) (k : Nat), (∀ v ∈ vs, v.category = 1) → ∀ (i : Nat) (v : Value), vs[i]? = some v → (k + i, sy_sh b v) ∈ lv_args k (vs.map (sy_sh b))
  | [], k, h, i, v, hv => by simp at hv
  | x :: t, k, h, i, v, hv => by
    have hx : (sy_sh b x).category = 1 := by rw [sy_sh_cat]; exact h x List.mem_cons_self
    simp only [List.map_cons, lv_args, hx, show ¬ (1 : Nat) = 2 by decide, if_false]
    cases i with
    | zero =>
      simp at hv
      subst hv
      exact List.mem_cons_self
    | succ i =>
      refine List.mem_cons_of_mem _ ?_
      have := sy_args (b := b) t (k + 1) (fun w hw => h w (List.mem_cons_of_mem _ hw)) i v (by simpa using hv)
      rwa [show k + 1 + i = k + (i + 1) by omega] at this
theorem sy_sl_len {b : sy_Bs} : ∀ (vs : List Value), (∀ v ∈ vs, v.category = 1) → (lg_sl (vs.map (sy_sh b))).length = vs.length
  | [], _ => rfl
  | x :: t, h => by
    have hx : (sy_sh b x).category = 1 := by rw [sy_sh_cat]; exact h x List.mem_cons_self
    have ih := sy_sl_len (b := b) t (fun w hw => h w (List.mem_cons_of_mem _ hw))
    simp only [lg_sl] at ih
    simp only [List.map_cons, lg_sl, List.flatMap_cons, hx, show ¬ (1 : Nat) = 2 by decide, if_false, List.length_append, List.length_cons, List.length_nil, ih]
    omega
set_option maxHeartbeats 1000000 in
theorem sy_meth {y : MethodName} {cc : ByteArray} {nL h m : Nat} {ret : Option FieldType} {s : List Value → sy_MM (Option Value)} (hy : plainName y.cls = true) (hm : m ≤ nL)
    (body : ∀ X : sy_Cx, sy_FX X (y.cls, cc, ret, h, nL, none) → ∀ vs : List Value, sy_B X 0 0 vs [] (s vs)) : sy_KM y cc nL ret h (sy_mth m s) := by
  intro l D cA b vs σ r τ htr hg
  unfold sy_mth at hg
  by_cases hok : (vs.length == m && vs.all (fun v => v.category == 1)) = true
  · rw [if_pos hok] at hg
    simp only [Bool.and_eq_true, beq_iff_eq, List.all_eq_true] at hok
    obtain ⟨hlen, hcat⟩ := hok
    refine vx_ofW (cc := cc) (maxL := nL) (ret := ret) hy rfl ?_
    intro p e s' m' args below meth c s₁ B hml ht hv
    obtain ⟨rfl, hP, hK, hT⟩ := hv
    have hts := atoms_spec (ws := Cond.code y cc nL ret :: sy_AL) B.pre
    have hlocks := B.notSynchronized
    have hr := B.returns
    have hx := B.exec
    have hb := B.bytes
    have F : sy_FX ((p, l, e, sy_rm h r, s', m', (vs.map (sy_sh b)).toArray, below, meth, c), vx_MQ below (sy_Qc D cA b r τ) (sy_XC D cA b r τ) (vs.map (sy_sh b)).toArray s' (sy_mc r) (6 * sy_mc r) (sy_ab b.1), D, cA, b, (r, τ), 0) (y.cls, cc, ret, h, nL, none) := by
      refine ⟨B.exec, B.bytes, findClass_of_methodNamed B.named, fun w hw => hts w (List.mem_cons_of_mem _ hw), hK, hT, htr, hml, ⟨Nat.le_refl _, Nat.le_refl _⟩, ⟨Nat.zero_le _, Nat.zero_le _⟩, ?_, ?_, ?_, ?_, trivial⟩
      · rintro ⟨E, σ', hG⟩
        cases hG
        exact ⟨Nat.le_refl _, Nat.le_refl _⟩
      · intro v σ' hG n H locs ls pc hn hP' hS hrok
        cases hG
        have hn0 : n = 0 := Nat.le_zero.mp hn
        subst hn0
        have hq : ∀ t : State, t.heap = H → s'.WarmedH t.vm → sy_Qc D cA b (.inl v) τ (vs.map (sy_sh b)).toArray s' (.returned (v.map (sy_sh b))) t := fun t ht _ => ⟨⟨v, rfl, rfl, by rw [ht]; exact hP'⟩, hS.F ht⟩
        cases v with
        | none => exact vx_ret (W.vret hx hb (hr.trans hrok.1) hq hS.2.2 hrok.2 hlocks)
        | some w =>
          cases w with
          | int x =>
            obtain ⟨hd, hk⟩ := hrok
            rcases hk with hk | ⟨hk, h01⟩
            · exact vx_ret (W.iret hx hb (hr.trans hk) hq hS.2.2 hd hlocks)
            · exact vx_ret (W.zret (ty := .boolean) hx hb (hr.trans hk) (by rcases h01 with rfl | rfl <;> rfl) hq hS.2.2 hd hlocks)
          | long x => exact vx_ret (W.lret hx hb (hr.trans hrok.2) hq hS.2.2 hrok.1 hlocks)
          | ref a =>
            obtain ⟨hd, ⟨C, hk⟩ | ⟨C, hk⟩⟩ := hrok
            · exact vx_ret (W.aret hx hb (hr.trans hk) (Or.inl ⟨C, rfl⟩) (Or.inr ⟨_, rfl⟩) hq hS.2.2 hd hlocks)
            · exact vx_ret (W.aret hx hb (hr.trans hk) (Or.inr ⟨C, rfl⟩) (Or.inr ⟨_, rfl⟩) hq hS.2.2 hd hlocks)
          | float x => exact hrok.elim
          | double x => exact hrok.elim
          | null => exact hrok.elim
          | retAddr x => exact hrok.elim
      · intro E σ' hG n H locs ls pc rest q ce hn hP' hS hce hcv hcl
        cases hG
        have hn0 : n = 0 := Nat.le_zero.mp hn
        subst hn0
        exact vx_out (fun x hx' => (ht x hx').elim) hlocks hce hcv hcl (fun t ht' _ => ⟨⟨E, rfl, rfl, by rw [ht']; exact hP'⟩, hS.F ht'⟩) hS.2.2 (Nat.le_refl _) (Nat.le_refl _)
      · intro h0 h6 E σ' hG n H locs ls pc ik is ic hn hP' hS hsz hthw
        cases hG
        have hn0 : n = 0 := Nat.le_zero.mp hn
        subst hn0
        obtain ⟨-, his, hk, hini, hw1, hw2, hot, hfit, d0, d3, d4, d6, d9⟩ := hthw
        obtain ⟨sa, hsa⟩ := hT.2.2 is his
        have ho : s'.vm.findClass "SegmentYard" = some m'.cls := by
          have := findClass_of_methodNamed B.named
          rw [show y.cls = "SegmentYard" from h0] at this
          exact this
        have hAL : ∀ w ∈ sy_AL, w.before (vs.map (sy_sh b)).toArray s' = true := fun w hw => hts w (List.mem_cons_of_mem _ hw)
        refine vx_throwS (A := sy_ab b.1) (cls := sy_ex E) (names := sy_names) hx hb htr ho hfit (by decide +kernel) (hAL _ hk) (hAL _ hini) hsa (vx_hat (fun w hw => hAL w (hw1 w hw)) hw2 (fun w hw => va_Nw.use (by revert w; decide) (hT.2.1 w hw))) hot hT.1.1 hT.1.2 hS hsz d0 d3 d4 d6 d9 (fun x hx' => (ht x hx').elim) ?_ ?_ ?_ ?_ hlocks ?_ hS.2.2 (Nat.le_refl _) (Nat.le_refl _)
        · show 2 + 3 < h
          exact h6
        · show 0 + (13 * (2 + 1) + 43) ≤ 42 * h
          have : 6 ≤ h := h6
          omega
        · exact Nat.le_refl _
        · exact Nat.le_refl _
        · intro t hA hsz' hq
          refine ⟨⟨E, rfl, rfl, fun k q hkq => ?_, hP'.2⟩, Nat.le_trans hS.1 hsz', fun q h1 h2 => ?_⟩
          · exact (hP'.1 k q hkq).kept (hq _ (hP'.1 k q hkq).lt)
          · rw [hq q (Nat.lt_of_lt_of_le h1 hS.1)]
            exact hS.2.1 q h1 h2
    have hlv := lv_entry (vs.map (sy_sh b)) (n := nL) (by rw [sy_sl_len vs hcat]; omega)
    rw [lg_entry_eq]
    refine W.widen (Nat.le_refl _) (Nat.le_refl _) (body _ F vs σ (Nat.le_refl _) hg s'.heap [] _ hP va_S.rf ⟨hlv.1.trans hml.symm, hlv.2.1, fun i v hi hv => ?_⟩)
    have hmem := sy_args (b := b) vs 0 hcat i v hi
    rw [Nat.zero_add] at hmem
    exact hlv.2.2 _ hmem
  · rw [if_neg hok] at hg
    cases hg
end SYE
