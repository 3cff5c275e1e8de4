/-! all views leave; the component removes -/
section YVl
variable {X τ : sy_Mem} {t : Nat} {D : Nat → Bool}
end YVl
section YRm
variable {X : sy_Mem} {t : Nat} {D : Nat → Bool} {a b c e : Nat → Int32}
def ya_m4 (X : sy_Mem) (a b c e : Nat → Int32) : sy_Mem := fun k => if k = 15 then a else if k = 16 then b else if k = 17 then c else if k = 10 then e else X k
theorem m4_ne {k : Nat} (h1 : k ≠ 15) (h2 : k ≠ 16) (h3 : k ≠ 17) (h4 : k ≠ 10) : ya_m4 X a b c e k = X k := by
  unfold ya_m4
  rw [if_neg h1, if_neg h2, if_neg h3, if_neg h4]
theorem m4_15 : ya_m4 X a b c e 15 = a := rfl
theorem m4_16 : ya_m4 X a b c e 16 = b := rfl
theorem m4_17 : ya_m4 X a b c e 17 = c := rfl
theorem m4_10 : ya_m4 X a b c e 10 = e := rfl
theorem m4_u15 {i : Nat} {x : Int32} : sy_up (ya_m4 X a b c e) 15 i x = ya_m4 X (upd a i x) b c e := by
  funext k
  by_cases h : k = 15
  · rw [h, yu_eq]; rfl
  · rw [yu_ne h]
    unfold ya_m4
    rw [if_neg h, if_neg h]
theorem m4_u16 {i : Nat} {x : Int32} : sy_up (ya_m4 X a b c e) 16 i x = ya_m4 X a (upd b i x) c e := by
  funext k
  by_cases h : k = 16
  · rw [h, yu_eq]; rfl
  · rw [yu_ne h]
    unfold ya_m4
    rw [if_neg h, if_neg h]
theorem m4_u10 {i : Nat} {x : Int32} : sy_up (ya_m4 X a b c e) 10 i x = ya_m4 X a b c (upd e i x) := by
  funext k
  by_cases h : k = 10
  · rw [h, yu_eq]; rfl
  · rw [yu_ne h]
    unfold ya_m4
    rw [if_neg h, if_neg h]
theorem m4_c17 {g : Nat → Int32} : ya_cell (ya_m4 X a b c e) 17 g = ya_m4 X a b g e := by
  funext k
  by_cases h : k = 17
  · rw [h, yd_at]; rfl
  · rw [yd_ne h]
    unfold ya_m4
    rw [if_neg h, if_neg h]
theorem m4_self {x : Nat} : ya_m4 X (X 15) (X 16) (X 17) (upd (X 10) x (X 10 x)) = X := by
  funext k
  unfold ya_m4
  by_cases h1 : k = 15
  · rw [if_pos h1, h1]
  · rw [if_neg h1]
    by_cases h2 : k = 16
    · rw [if_pos h2, h2]
    · rw [if_neg h2]
      by_cases h3 : k = 17
      · rw [if_pos h3, h3]
      · rw [if_neg h3]
        by_cases h4 : k = 10
        · rw [if_pos h4, h4]
          funext i
          by_cases hi : i = x
          · rw [hi, upd_at]
          · rw [upd_ne hi]
        · rw [if_neg h4]
/-- how many are spared -/
def ya_nc (X : sy_Mem) (D : Nat → Bool) (d : Nat) : Nat := ya_cw (ya_sp (X 15) D d) (X 16 d).toNatClampNeg
def ya_rp (X : sy_Mem) (D : Nat → Bool) : Nat → (Nat → Int32)
  | 0 => X 17
  | d + 1 => ya_pls (ya_m4 X (ya_rr (X 15) (X 16) D (d + 1)) (ya_rc (X 15) (X 16) D (d + 1)) (ya_rp X D d) (X 10)) (nI d) (ya_nc X D d)
def ya_rt (X : sy_Mem) (D : Nat → Bool) : Nat → Int32
  | 0 => X 10 9
  | d + 1 => ya_rt X D d - (X 16 d - nI (ya_nc X D d))
def ya_rd (X : sy_Mem) (D : Nat → Bool) (d : Nat) : sy_Mem := ya_m4 X (ya_rr (X 15) (X 16) D d) (ya_rc (X 15) (X 16) D d) (ya_rp X D d) (upd (X 10) 9 (ya_rt X D d))
theorem ya_rd_0 : ya_rd X D 0 = X := m4_self
theorem ya_cnt_n {Z : sy_Mem} {d : Nat} (hd : d < 3) : ya_cnt Z (nI d) = Z 16 d := by
  rw [ya_cnt_in (by rw [nI_toInt (by omega)]; omega), nI_clamp (by omega)]
theorem yg_m (I : yn_I t X) : ∀ e, e < 3 → (X 16 e).toNatClampNeg ≤ 60 := fun e he => by
  have := I.2.2.1.1 e he
  rw [yi_clampInt]
  omega
theorem yg_row (I : yn_I t X) {d i : Nat} (hd : d < 3) (hi : i < (X 16 d).toNatClampNeg) : yl X (X 15 (60 * d + i)) ∧ sD X (X 15 (60 * d + i)) = nI d ∧ yL X (X 15 (60 * d + i)) = nI i := by
  have h1 : 0 ≤ (nI d).toInt ∧ (nI d).toInt < 3 := by rw [nI_toInt (by omega)]; omega
  have hm := yg_m I d hd
  have hw := I.2.2.1.1 d hd
  have hc := ya_cnt_n (Z := X) hd
  have hp : 0 ≤ (nI i).toInt ∧ (nI i).toInt < (ya_cnt X (nI d)).toInt := yg_pn I h1 (by rw [hc]; exact hi)
  have := yg_at I h1 hp
  rw [ya_at_in h1 hp (by rw [hc]; exact hw.2), nI_clamp (by omega), nI_clamp (by omega)] at this
  exact this
theorem ya_rcb (I : yn_I t X) : ∀ k, k ≤ 3 → ∀ e, e < 3 → (ya_rc (X 15) (X 16) D k e).toInt ≤ 60 := fun k hk e he => by
  have hm := yg_m I
  rcases Nat.lt_or_ge e k with q | q
  · rw [yp_rcat hm q hk]
    have := yp_le (P := ya_sp (X 15) D e) (X 16 e).toNatClampNeg
    have := hm e he
    rw [nI_toInt (by omega)]
    omega
  · rw [yp_rc q]
    exact (I.2.2.1.1 e he).2
theorem m4_W (I : yn_I t X) (hb : ∀ d, d < 3 → (b d).toInt ≤ 60) : ya_W (ya_m4 X a b c e) := ya_W_d (yn_Wo I) (m4_ne (by decide) (by decide) (by decide) (by decide)) (m4_ne (by decide) (by decide) (by decide) (by decide)) (m4_ne (by decide) (by decide) (by decide) (by decide)) hb (fun k h1 h2 => m4_ne (by omega) (by omega) (by omega) (by omega))
end YRm
