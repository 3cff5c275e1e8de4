/-! memories that agree below the views -/
section YLo
variable {A B τ : sy_Mem} {t n : Nat} {ty p key here : Int32}
def yo_lo (A B : sy_Mem) : Prop := ∀ k, k < 32 → B k = A k
def yo_m (A : sy_Mem) : sy_Mem := fun k => if k < 32 then A k else fun _ => 0
theorem yo_m_eq (h : yo_lo A B) : yo_m B = yo_m A := by
  funext k
  unfold yo_m
  by_cases hk : k < 32
  · rw [if_pos hk, if_pos hk, h k hk]
  · rw [if_neg hk, if_neg hk]
theorem yo_lo_up (h : yo_lo A B) {c i : Nat} {x : Int32} : yo_lo (sy_up A c i x) (sy_up B c i x) := fun k hk => by
  by_cases e : k = c
  · rw [e, yu_eq, yu_eq, h c (by omega)]
  · rw [yu_ne e, yu_ne e, h k hk]
theorem yo_m_nc0 : ya_nc0 (yo_m A) ty key = ya_nc0 A ty key := rfl
theorem yo_m_nf : ya_nf (yo_m A) ty key = ya_nf A ty key := rfl
theorem ya_nr_lo (h : yo_lo A B) : yo_lo (ya_nr A ty key) (ya_nr B ty key) := by
  have e0 : ya_nc0 B ty key = ya_nc0 A ty key := by rw [← yo_m_nc0, yo_m_eq h, yo_m_nc0]
  have e1 : tC B ty = tC A ty := ya_tg_c (h 1 (by decide)) (h 8 (by decide)) _ _
  have e2 : tG B ty = tG A ty := ya_tg_c (h 1 (by decide)) (h 7 (by decide)) _ _
  have e3 : ya_nf B (tG A ty) key = ya_nf A (tG A ty) key := by rw [← yo_m_nf, yo_m_eq h, yo_m_nf]
  unfold ya_nr
  rw [e0, e1, e2]
  by_cases h0 : ya_nc0 A ty key = true
  · rw [if_pos h0, if_pos h0]; exact h
  · rw [if_neg h0, if_neg h0]
    by_cases h1 : tC A ty = 0
    · rw [if_pos h1, if_pos h1]; exact yo_lo_up h
    · rw [if_neg h1, if_neg h1]
      unfold ya_ndd
      rw [e3, h 27 (by decide)]
      cases ya_nf A (tG A ty) key with
      | some i => exact h
      | none => exact yo_lo_up (yo_lo_up (yo_lo_up h))
theorem yo_m_10 : ya_add (yo_m A) ty p key here 10 = ya_add A ty p key here 10 := by rw [yx_10, yx_10]; rfl
theorem yo_m_fr : ya_fr (yo_m A) = ya_fr A := rfl
theorem yo_m_11 : ya_add (yo_m A) ty p key here 11 = ya_add A ty p key here 11 := by rw [yx_11, yx_11]; rfl
theorem yo_m_12 : ya_add (yo_m A) ty p key here 12 = ya_add A ty p key here 12 := by rw [yx_12, yx_12]; rfl
theorem yo_m_tw : ya_twin (yo_m A) ty p key here = ya_twin A ty p key here := rfl
theorem yo_m_rks {tw : Int32} : ya_rks (yo_m A) ty p tw = ya_rks A ty p tw := rfl
theorem yo_m_mx : ∀ n, ya_mx (yo_m A) ty p n = ya_mx A ty p n
  | 0 => rfl
  | n + 1 => by
    unfold ya_mx
    rw [yo_m_mx n]
    rfl
theorem yo_m_rank {tw : Int32} : ya_rank (yo_m A) ty p tw = ya_rank A ty p tw := by
  unfold ya_rank
  rw [yo_m_mx]
  rfl
theorem yo_m_13 : ya_add (yo_m A) ty p key here 13 = ya_add A ty p key here 13 := by rw [yx_13, yx_13, yo_m_tw, yo_m_rks, yo_m_rank, yo_m_fr]
theorem yo_m_14 : ya_add (yo_m A) ty p key here 14 = ya_add A ty p key here 14 := by rw [yx_14, yx_14]; rfl
theorem yo_m_15 : ya_add (yo_m A) ty p key here 15 = ya_add A ty p key here 15 := by rw [yx_15, yx_15]; rfl
theorem yo_m_16 : ya_add (yo_m A) ty p key here 16 = ya_add A ty p key here 16 := by rw [yx_16, yx_16]; rfl
theorem ya_pls_c {d : Int32} (h : ∀ q, ya_at B d q = ya_at A d q) (h17 : B 17 = A 17) : ∀ n, ya_pls B d n = ya_pls A d n
  | 0 => h17
  | n + 1 => by
    unfold ya_pls
    rw [h, ya_pls_c h h17 n]
theorem yo_m_17 : ya_add (yo_m A) ty p key here 17 = ya_add A ty p key here 17 := by
  rw [yx_17, yx_17]
  refine (ya_pls_c (A := ya_add2 A ty p key here) (fun q => ?_) ?_ _).trans rfl
  · rw [yx_2_at, yx_2_at]
    unfold ya_at
    rw [yo_m_15, yo_m_16]
  · rw [yx_2_17, yx_2_17]
    rfl
theorem ya_add_lo (h : yo_lo A B) : yo_lo (ya_add A ty p key here) (ya_add B ty p key here) := fun k hk => by
  have e := yo_m_eq h
  rcases (show k = 10 ∨ k = 11 ∨ k = 12 ∨ k = 13 ∨ k = 14 ∨ k = 15 ∨ k = 16 ∨ k = 17 ∨ k < 10 ∨ 17 < k by omega) with q | q | q | q | q | q | q | q | q | q
  · rw [q, ← yo_m_10, e, yo_m_10]
  · rw [q, ← yo_m_11, e, yo_m_11]
  · rw [q, ← yo_m_12, e, yo_m_12]
  · rw [q, ← yo_m_13, e, yo_m_13]
  · rw [q, ← yo_m_14, e, yo_m_14]
  · rw [q, ← yo_m_15, e, yo_m_15]
  · rw [q, ← yo_m_16, e, yo_m_16]
  · rw [q, ← yo_m_17, e, yo_m_17]
  · rw [yx_lo q, yx_lo q, h k hk]
  · rw [yx_hi q, yx_hi q, h k hk]
theorem ya_mk_lo (h : yo_lo A B) : ∀ n, yo_lo (ya_mk A n) (ya_mk B n)
  | 0 => h
  | n + 1 => by
    show yo_lo (ya_add (ya_mk A n) (A 28 n) (-1) (A 29 n) (-1)) (ya_add (ya_mk B n) (B 28 n) (-1) (B 29 n) (-1))
    rw [h 28 (by decide), h 29 (by decide)]
    exact ya_add_lo (ya_mk_lo h n)
end YLo
