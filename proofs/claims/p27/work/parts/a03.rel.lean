/-! THE LAW'S TABLES AND ROWS over a memory A of the component's: types packed (cell 44), rows packed (45-47), their lengths (48) -/
section LA3
def tn (A : sy_Mem) (i : Nat) : Nat := (A 2 i).toInt.toNat + 4 * ((A 3 i).toInt + 1).toNat + 64 * (A 5 i).toInt.toNat + 256 * (A 6 i).toInt.toNat + 1024 * (A 4 i).toInt.toNat + 8192 * ((A 7 i).toInt + 1).toNat + 131072 * (A 8 i).toInt.toNat + 262144 * (A 9 i).toInt.toNat
/-- the table of the types -/
def TT (A σ : sy_Mem) : Prop := ∀ i : Nat, (i : Int) < (A 1 0).toInt → σ 44 i = nI (tn A i) ∧ (0 ≤ (A 8 i).toInt ∧ (A 8 i).toInt ≤ 1) ∧ (0 ≤ (A 9 i).toInt ∧ (A 9 i).toInt ≤ 2)
/-- a segment packed -/
def sk (A : sy_Mem) (s : Int32) : Nat := pk (yT A s).toInt.toNat (ya_N A s 0).toInt.toNat (ya_N A s 1).toInt.toNat (ya_N A s 2).toInt.toNat
/-- the segment at a place -/
abbrev sg (A : sy_Mem) (d p : Nat) : Int32 := ya_at A (nI d) (nI p)
abbrev cn (A : sy_Mem) (d : Nat) : Nat := (A 16 d).toInt.toNat
/-- the rows -/
def RW (A σ : sy_Mem) : Prop := ∀ d, d < 3 → σ 48 d = nI (cn A d) ∧ ∀ p, p < cn A d → lg σ (45 + d) p = pL (sk A (sg A d p))
variable {A σ : sy_Mem} {t : Nat}
theorem isT_nI {ty : Int32} (S : yn_S A) (h : ya_isT A ty = true) : ∃ i : Nat, ty = nI i ∧ i < 12 ∧ (i : Int) < (A 1 0).toInt := by
  obtain ⟨h1, h2⟩ := yl_isT.mp h
  have h12 := S.1.2
  refine ⟨ty.toInt.toNat, ?_, by omega, by omega⟩
  apply yi_ext
  rw [nI_toInt (by omega)]
  omega
theorem isT_of {i : Nat} (S : yn_S A) (h : (i : Int) < (A 1 0).toInt) : ya_isT A (nI i) = true ∧ i < 12 := by
  have h12 := S.1.2
  refine ⟨yl_isT.mpr ?_, by omega⟩
  rw [nI_toInt (by omega)]
  omega
theorem tg_nI {i k : Nat} {d : Int32} (S : yn_S A) (h : (i : Int) < (A 1 0).toInt) : ya_tg A k d (nI i) = A k i := by
  rw [ya_tg_in (isT_of S h).1, nI_clamp (by have := (isT_of S h).2; omega)]
/-- what the packed number tells -/
theorem tn_is (S : yn_S A) (T : TT A σ) {i : Nat} (h : (i : Int) < (A 1 0).toInt) :
    tn A i < 2 ^ 31 ∧ ((tn A i % 4 : Nat) : Int) = (A 2 i).toInt ∧ ((tn A i / 4 % 16 : Nat) : Int) = (A 3 i).toInt + 1 ∧ ((tn A i / 64 % 4 : Nat) : Int) = (A 5 i).toInt ∧ ((tn A i / 256 % 4 : Nat) : Int) = (A 6 i).toInt ∧ ((tn A i / 1024 % 8 : Nat) : Int) = (A 4 i).toInt ∧ ((tn A i / 8192 % 16 : Nat) : Int) = (A 7 i).toInt + 1 ∧ ((tn A i / 131072 % 2 : Nat) : Int) = (A 8 i).toInt ∧ ((tn A i / 262144 % 4 : Nat) : Int) = (A 9 i).toInt := by
  obtain ⟨hT, h12⟩ := isT_of S h
  obtain ⟨-, c1, c2⟩ := T i h
  obtain ⟨b1, b2, b3, -, -, b4, b5, b6⟩ := S.2.1 _ hT
  have hS := S.1.2
  have e2 := tg_nI (k := 2) (d := -1) S h
  have e3 := tg_nI (k := 3) (d := -1) S h
  have e4 := tg_nI (k := 4) (d := 0) S h
  have e5 := tg_nI (k := 5) (d := -1) S h
  have e6 := tg_nI (k := 6) (d := -1) S h
  have e7 := tg_nI (k := 7) (d := -1) S h
  simp only [tD, tP, tV, tK, tR, tG, e2, e3, e4, e5, e6, e7] at b1 b2 b3 b4 b5 b6
  have p3 : -1 ≤ (A 3 i).toInt ∧ (A 3 i).toInt < 12 := by
    rcases b5 with ⟨q, -⟩ | ⟨q, q2, -⟩
    · rw [q]; decide
    · have := yl_isT.mp q
      rw [nI_toInt (by omega)] at q2
      omega
  have p7 : -1 ≤ (A 7 i).toInt ∧ (A 7 i).toInt < 12 := by
    rcases b6 with q | ⟨q, -⟩
    · rw [q]; decide
    · have := yl_isT.mp q
      omega
  obtain ⟨x2, h2⟩ : ∃ x : Nat, (A 2 i).toInt = x := ⟨(A 2 i).toInt.toNat, by omega⟩
  obtain ⟨x3, h3⟩ : ∃ x : Nat, (A 3 i).toInt + 1 = x := ⟨((A 3 i).toInt + 1).toNat, by omega⟩
  obtain ⟨x4, h4⟩ : ∃ x : Nat, (A 4 i).toInt = x := ⟨(A 4 i).toInt.toNat, by omega⟩
  obtain ⟨x5, h5⟩ : ∃ x : Nat, (A 5 i).toInt = x := ⟨(A 5 i).toInt.toNat, by omega⟩
  obtain ⟨x6, h6⟩ : ∃ x : Nat, (A 6 i).toInt = x := ⟨(A 6 i).toInt.toNat, by omega⟩
  obtain ⟨x7, h7⟩ : ∃ x : Nat, (A 7 i).toInt + 1 = x := ⟨((A 7 i).toInt + 1).toNat, by omega⟩
  obtain ⟨x8, h8⟩ : ∃ x : Nat, (A 8 i).toInt = x := ⟨(A 8 i).toInt.toNat, by omega⟩
  obtain ⟨x9, h9⟩ : ∃ x : Nat, (A 9 i).toInt = x := ⟨(A 9 i).toInt.toNat, by omega⟩
  have e : tn A i = x2 + 4 * x3 + 64 * x5 + 256 * x6 + 1024 * x4 + 8192 * x7 + 131072 * x8 + 262144 * x9 := by
    unfold tn
    rw [h2, h3, h4, h5, h6, h7, h8, h9]
    simp
  rw [e, h2, h3, h4, h5, h6, h7, h8, h9]
  rw [h2] at b1
  rw [h5] at b2
  rw [h6] at b3
  rw [h4] at b4
  refine ⟨by omega, by omega, by omega, by omega, by omega, by omega, by omega, by omega, by omega⟩
end LA3
