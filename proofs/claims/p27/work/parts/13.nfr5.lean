section SNF
section SYL1
variable {X : sy_Cx} {μ : sy_Mu} {n pc : Nat} {env st : List Value}
theorem sy_aloadA (F : sy_FX X μ) {i : Fin 4} {a : Nat} (d : decode μ.2.1 pc = .ok (.aload_n i, 1)) (hv : env[(i : Nat)]? = some (.retAddr a)) {f : sy_MM (Option Value)} (k : sy_B X n (pc + 1) env (.retAddr a :: st) f) : sy_B X n pc env st f :=
  fun σ hn hf H locs ls hP hS hE => lv_aload_n F.e F.c d rfl (hE.at hv (by simp)) (k σ hn hf H locs ls hP hS hE)
theorem sy_sld (F : sy_FX X μ) {bs L : Nat} {xs : Nat → Int32} (hsc : μ.2.2.2.2.2 = some (bs, L, xs)) {j : Int32} (d : decode μ.2.1 pc = .ok (.iaload, 1)) (hin : vp_in j L) {f : sy_MM (Option Value)} (k : sy_B X n (pc + 1) env (.int (xs j.toNatClampNeg) :: st) f) : sy_B X n pc env (.int j :: .retAddr bs :: st) f := by
  intro σ hn hf H locs ls hP hS hE
  have h := F.sc
  rw [hsc] at h
  obtain ⟨h1, h2, h3⟩ := h
  exact va_sld F.e F.c h1 h2 (fun q => absurd h3 (Nat.not_lt.mpr q)) hS hin d (k σ hn hf H locs ls hP hS hE)
theorem sy_slen (F : sy_FX X μ) {bs L : Nat} {xs : Nat → Int32} (hsc : μ.2.2.2.2.2 = some (bs, L, xs)) (d : decode μ.2.1 pc = .ok (.arraylength, 1)) {f : sy_MM (Option Value)} (k : sy_B X n (pc + 1) env (.int (Int32.ofNat L) :: st) f) : sy_B X n pc env (.retAddr bs :: st) f := by
  intro σ hn hf H locs ls hP hS hE
  have h := F.sc
  rw [hsc] at h
  obtain ⟨h1, h2, h3⟩ := h
  exact va_slen F.e F.c h1 h2 (fun q => absurd h3 (Nat.not_lt.mpr q)) hS d (k σ hn hf H locs ls hP hS hE)
def sy_sA1 (v : Value) (bs : Nat) : Bool := match v with | .retAddr a => a == bs | _ => false
theorem sy_sA1_of {v : Value} {bs : Nat} (h : sy_sA1 v bs = true) : v = .retAddr bs := by
  unfold sy_sA1 at h
  split at h
  · rename_i a
    rw [beq_iff_eq.mp h]
  · cases h
end SYL1
variable {μ : sy_Mu} {sk pc pc' p1 p2 p3 : Nat}
def sy_iS (bs L : Nat) (xs : Nat → Int32) (i : sy_IE) : sy_IE := fun env => match env[0]? with
  | some v => if sy_sA1 v bs then sy_bnd (i env) fun j => if sy_inb j L then sy_ret (xs j.toNatClampNeg) else sy_fail else sy_fail
  | none => sy_fail
theorem oi_script {bs L : Nat} {xs : Nat → Int32} {i : sy_IE} (hsc : μ.2.2.2.2.2 = some (bs, L, xs)) (d0 : decode μ.2.1 pc = .ok (.aload_n 0, 1)) (hi : sy_OI μ (sk + 1) (pc + 1) p2 i) (d : decode μ.2.1 p2 = .ok (.iaload, 1)) : sy_OI μ sk pc (p2 + 1) (sy_iS bs L xs i) := by
  intro X F n env st k hs hk
  unfold sy_iS
  split
  · rename_i v hv
    by_cases h : sy_sA1 v bs = true
    · rw [if_pos h]
      have := sy_sA1_of h
      subst this
      rw [sy_bnd_bnd]
      refine sy_aloadA F d0 hv ?_
      refine hi X F n env _ _ (by show 1 + sy_sum st ≤ sk + 1; omega) (fun j => ?_)
      by_cases hj : sy_inb j L = true
      · rw [if_pos hj]
        exact sy_sld F hsc d (sy_inb_of hj).1 (hk _)
      · rw [if_neg hj]
        exact sy_vac (fun _ => rfl)
    · rw [if_neg h]
      exact sy_vac (fun _ => rfl)
  · exact sy_vac (fun _ => rfl)
def sy_iSn (bs L : Nat) : sy_IE := fun env => match env[0]? with
  | some v => if sy_sA1 v bs then sy_ret (Int32.ofNat L) else sy_fail
  | none => sy_fail
theorem oi_slen {bs L : Nat} {xs : Nat → Int32} (hsc : μ.2.2.2.2.2 = some (bs, L, xs)) (d0 : decode μ.2.1 pc = .ok (.aload_n 0, 1)) (d : decode μ.2.1 (pc + 1) = .ok (.arraylength, 1)) : sy_OI μ sk pc (pc + 2) (sy_iSn bs L) := by
  intro X F n env st k hs hk
  unfold sy_iSn
  split
  · rename_i v hv
    by_cases h : sy_sA1 v bs = true
    · rw [if_pos h]
      have := sy_sA1_of h
      subst this
      refine sy_aloadA F d0 hv ?_
      exact sy_slen F hsc d (hk _)
    · rw [if_neg h]
      exact sy_vac (fun _ => rfl)
  · exact sy_vac (fun _ => rfl)
/-- the script as an argument -/
def sy_aS (bs : Nat) (as : sy_AE) : sy_AE := fun env => match env[0]? with
  | some v => if sy_sA1 v bs then sy_bnd (as env) fun vs => sy_ret (.retAddr bs :: vs) else sy_fail
  | none => sy_fail
theorem na_script {ca bs : Nat} {as : sy_AE} (d0 : decode μ.2.1 pc = .ok (.aload_n 0, 1)) (ha : sn_A ca μ (sk + 1) (pc + 1) p2 as) : sn_A ca μ sk pc p2 (sy_aS bs as) := by
  intro X FN n n' env st k hc hx hs hk
  unfold sy_aS
  split
  · rename_i v hv
    by_cases h : sy_sA1 v bs = true
    · rw [if_pos h]
      have := sy_sA1_of h
      subst this
      rw [sy_bnd_bnd]
      refine sy_aloadA FN.1 d0 hv ?_
      refine ha X FN n n' env (.retAddr bs :: st) _ hc hx (by show 1 + sy_sum st ≤ sk + 1; omega) (fun vs => ?_)
      rw [sy_bnd_ret]
      have := hk (.retAddr bs :: vs)
      rwa [List.reverse_cons, List.append_assoc] at this
    · rw [if_neg h]
      exact sy_vac (fun _ => rfl)
  · exact sy_vac (fun _ => rfl)
end SNF
