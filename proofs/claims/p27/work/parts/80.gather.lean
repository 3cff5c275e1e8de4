/-! what new ones need, gathered -/
section YGa
variable {A τ τ' σ σ1 σ2 : sy_Mem} {t n f : Nat} {ty key : Int32} {env : List Value}
theorem ee_cOt {a b : sy_CE} (ha : a env σ = some (.inl true, σ1)) : sy_cO a b env σ = some (.inl true, σ1) := by
  unfold sy_cO; rw [sy_bnd_at ha]; rfl
theorem ee_cOf {a b : sy_CE} {y : Bool} (ha : a env σ = some (.inl false, σ1)) (hb : b env σ1 = some (.inl y, σ2)) : sy_cO a b env σ = some (.inl y, σ2) := by
  unfold sy_cO; rw [sy_bnd_at ha]; exact hb
theorem ee_cAt {a b : sy_CE} {y : Bool} (ha : a env σ = some (.inl true, σ1)) (hb : b env σ1 = some (.inl y, σ2)) : sy_cA a b env σ = some (.inl y, σ2) := by
  unfold sy_cA; rw [sy_bnd_at ha]; exact hb
theorem nI_subn {i j : Nat} (h : j ≤ i) (hi : i < 10000) : nI i - nI j = nI (i - j) := by
  apply yi_ext
  rw [yl_sub (by rw [nI_toInt (by omega)]; omega) (by rw [nI_toInt (by omega)]; omega) (by rw [nI_toInt (by omega)]; omega) (by rw [nI_toInt (by omega)]; omega), nI_toInt (by omega), nI_toInt (by omega), nI_toInt (by omega)]
  omega
theorem ya_slot_c (h : τ 31 = σ 31) (s f : Int32) : ya_slot τ s f = ya_slot σ s f := by
  unfold ya_slot
  rw [h]
/-- the needed root is the first new one itself -/
def ya_own (A : sy_Mem) (f n : Nat) : Bool := decide (tG A (ya_ag A 20 (-1) (nI (f + n))) = ya_ag A 20 (-1) (nI f)) && decide (ya_slot A (nI n) 2 = ya_slot A 0 0)
def ya_gn (A : sy_Mem) (f : Nat) : Nat → sy_Mem
  | 0 => sy_up (sy_up A 27 0 0) 27 1 0
  | n + 1 => if ya_own A f n = true then ya_gn A f n else ya_nr (ya_gn A f n) (ya_ag A 20 (-1) (nI (f + n))) (ya_slot A (nI n) 2)
/-- what holds of every need -/
def yq_x (A : sy_Mem) (P : Int32 → Int32 → Prop) : Prop := ∀ i : Nat, (i : Int) < (A 27 0).toInt → P (A 28 i) (A 29 i)
theorem yq_x_nr {P : Int32 → Int32 → Prop} (h0 : 0 ≤ (A 27 0).toInt ∧ (A 27 0).toInt < 4) (h : yq_x A P) (hp : P (tG A ty) key) : yq_x (ya_nr A ty key) P := by
  unfold ya_nr
  by_cases e0 : ya_nc0 A ty key = true
  · rw [if_pos e0]; exact h
  · rw [if_neg e0]
    by_cases e1 : tC A ty = 0
    · rw [if_pos e1]
      intro i hi
      rw [yu_an (by decide)] at hi
      rw [yu_ne (by decide), yu_ne (by decide)]
      exact h i hi
    · rw [if_neg e1]
      unfold ya_ndd
      cases ya_nf A (tG A ty) key with
      | some i => exact h
      | none =>
        show yq_x (sy_up (sy_up (sy_up A 28 (A 27 0).toNatClampNeg (tG A ty)) 29 (A 27 0).toNatClampNeg key) 27 0 (A 27 0 + 1)) P
        intro i hi
        rw [yu_at, yl_add (by omega) (by omega) (by decide) (by decide), yl_c1] at hi
        have e28 : sy_up (sy_up (sy_up A 28 (A 27 0).toNatClampNeg (tG A ty)) 29 (A 27 0).toNatClampNeg key) 27 0 (A 27 0 + 1) 28 = upd (A 28) (A 27 0).toNatClampNeg (tG A ty) := by rw [yu_ne (by decide), yu_ne (by decide), yu_eq]
        have e29 : sy_up (sy_up (sy_up A 28 (A 27 0).toNatClampNeg (tG A ty)) 29 (A 27 0).toNatClampNeg key) 27 0 (A 27 0 + 1) 29 = upd (A 29) (A 27 0).toNatClampNeg key := by rw [yu_ne (by decide), yu_eq, yu_ne (by decide)]
        rw [e28, e29]
        have hcl : (A 27 0).toNatClampNeg = (A 27 0).toInt.toNat := yi_clampInt _
        by_cases ei : i = (A 27 0).toNatClampNeg
        · rw [ei, upd_at, upd_at]; exact hp
        · rw [upd_ne ei, upd_ne ei]
          exact h i (by omega)
end YGa
