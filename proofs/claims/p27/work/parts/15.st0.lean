section SYR
theorem wd_59 : Cond.classLink RL 11 RX5 ∈ sy_AL := sy_in 59 (by decide +kernel) (by decide +kernel)
theorem wd_60 : Cond.instantiable RX5 6 ∈ sy_AL := sy_in 60 (by decide +kernel) (by decide +kernel)
theorem wd_46 : Cond.initialized RX5 ∈ sy_AL := sy_in 46 (by decide +kernel) (by decide +kernel)
theorem wd_61 : Cond.methodLink RL 295 yX5_init ∈ sy_AL := sy_in 61 (by decide +kernel) (by decide +kernel)
theorem wd_62 : Cond.instanceMethod yX5_init ∈ sy_AL := sy_in 62 (by decide +kernel) (by decide +kernel)
theorem wd_63 : Cond.code yX5_init cX5_init 2 none ∈ sy_AL := sy_in 63 (by decide +kernel) (by decide +kernel)
theorem wd_1142 : Cond.arrayClass (newarray.typeOf .long) ∈ sy_AL := sy_in 1142 (by decide +kernel) (by decide +kernel)
def sc_Fin : sc_G := fun cA b F => (sc_r (sc_r (sc_r (sc_r (sc_r (sc_r (sc_r (sc_r (sc_r (sc_G_Yard cA b F) 44 (.inl (cA 0, (12, (.inl (fun _ => 0)))))) 45 (.inl (cA 3, (64, (.inr (.inl (fun _ => 0))))))) 46 (.inl (cA 3, (64, (.inr (.inl (fun _ => 0))))))) 47 (.inl (cA 3, (64, (.inr (.inl (fun _ => 0))))))) 48 (.inl (cA 0, (3, (.inl (fun _ => 0)))))) 49 (.inl (cA 0, (4, (.inl (fun _ => 0)))))) 50 (.inl (cA 3, (4, (.inr (.inl (fun _ => 0))))))) 51 (.inl (cA 0, (4, (.inl (fun _ => 0)))))) 52 (.inl (cA 0, (2, (.inl (fun _ => 0))))))
/-- the ints with which all begins -/
def sy_s0 : sy_Mem := fun k => match sc_Fin (fun _ => 0) 0 (fun _ => .inr (0, [])) k with
  | .inr (_, fs) => fun i => match fs.getD i .null with | .int x => x | _ => 0
  | .inl (_, _, .inl f) => f
  | _ => fun _ => 0
theorem sc_jn0 : sy_jn 0 0 = 0 := by decide
set_option maxRecDepth 100000 in
theorem sc_Fin_0 (cA : Nat → ClassId) (b : Nat) (f : Nat → Nat) (F : Nat → va_E) : sc_Fin cA b F 0 = sy_cell (b, f) cA sy_s0 0 := rfl
set_option maxRecDepth 100000 in
theorem sc_Fin_1 (cA : Nat → ClassId) (b : Nat) (f : Nat → Nat) (F : Nat → va_E) : sc_Fin cA b F 1 = sy_cell (b, f) cA sy_s0 1 := rfl
set_option maxRecDepth 100000 in
theorem sc_Fin_2 (cA : Nat → ClassId) (b : Nat) (f : Nat → Nat) (F : Nat → va_E) : sc_Fin cA b F 2 = sy_cell (b, f) cA sy_s0 2 := rfl
set_option maxRecDepth 100000 in
theorem sc_Fin_3 (cA : Nat → ClassId) (b : Nat) (f : Nat → Nat) (F : Nat → va_E) : sc_Fin cA b F 3 = sy_cell (b, f) cA sy_s0 3 := rfl
set_option maxRecDepth 100000 in
theorem sc_Fin_4 (cA : Nat → ClassId) (b : Nat) (f : Nat → Nat) (F : Nat → va_E) : sc_Fin cA b F 4 = sy_cell (b, f) cA sy_s0 4 := rfl
set_option maxRecDepth 100000 in
theorem sc_Fin_5 (cA : Nat → ClassId) (b : Nat) (f : Nat → Nat) (F : Nat → va_E) : sc_Fin cA b F 5 = sy_cell (b, f) cA sy_s0 5 := rfl
set_option maxRecDepth 100000 in
theorem sc_Fin_6 (cA : Nat → ClassId) (b : Nat) (f : Nat → Nat) (F : Nat → va_E) : sc_Fin cA b F 6 = sy_cell (b, f) cA sy_s0 6 := rfl
set_option maxRecDepth 100000 in
theorem sc_Fin_7 (cA : Nat → ClassId) (b : Nat) (f : Nat → Nat) (F : Nat → va_E) : sc_Fin cA b F 7 = sy_cell (b, f) cA sy_s0 7 := rfl
set_option maxRecDepth 100000 in
theorem sc_Fin_8 (cA : Nat → ClassId) (b : Nat) (f : Nat → Nat) (F : Nat → va_E) : sc_Fin cA b F 8 = sy_cell (b, f) cA sy_s0 8 := rfl
set_option maxRecDepth 100000 in
theorem sc_Fin_9 (cA : Nat → ClassId) (b : Nat) (f : Nat → Nat) (F : Nat → va_E) : sc_Fin cA b F 9 = sy_cell (b, f) cA sy_s0 9 := rfl
set_option maxRecDepth 100000 in
theorem sc_Fin_10 (cA : Nat → ClassId) (b : Nat) (f : Nat → Nat) (F : Nat → va_E) : sc_Fin cA b F 10 = sy_cell (b, f) cA sy_s0 10 := rfl
set_option maxRecDepth 100000 in
theorem sc_Fin_11 (cA : Nat → ClassId) (b : Nat) (f : Nat → Nat) (F : Nat → va_E) : sc_Fin cA b F 11 = sy_cell (b, f) cA sy_s0 11 := rfl
set_option maxRecDepth 100000 in
theorem sc_Fin_12 (cA : Nat → ClassId) (b : Nat) (f : Nat → Nat) (F : Nat → va_E) : sc_Fin cA b F 12 = sy_cell (b, f) cA sy_s0 12 := rfl
set_option maxRecDepth 100000 in
theorem sc_Fin_13 (cA : Nat → ClassId) (b : Nat) (f : Nat → Nat) (F : Nat → va_E) : sc_Fin cA b F 13 = sy_cell (b, f) cA sy_s0 13 := rfl
set_option maxRecDepth 100000 in
theorem sc_Fin_14 (cA : Nat → ClassId) (b : Nat) (f : Nat → Nat) (F : Nat → va_E) : sc_Fin cA b F 14 = sy_cell (b, f) cA sy_s0 14 := rfl
set_option maxRecDepth 100000 in
theorem sc_Fin_15 (cA : Nat → ClassId) (b : Nat) (f : Nat → Nat) (F : Nat → va_E) : sc_Fin cA b F 15 = sy_cell (b, f) cA sy_s0 15 := rfl
set_option maxRecDepth 100000 in
theorem sc_Fin_16 (cA : Nat → ClassId) (b : Nat) (f : Nat → Nat) (F : Nat → va_E) : sc_Fin cA b F 16 = sy_cell (b, f) cA sy_s0 16 := rfl
set_option maxRecDepth 100000 in
theorem sc_Fin_17 (cA : Nat → ClassId) (b : Nat) (f : Nat → Nat) (F : Nat → va_E) : sc_Fin cA b F 17 = sy_cell (b, f) cA sy_s0 17 := rfl
set_option maxRecDepth 100000 in
theorem sc_Fin_18 (cA : Nat → ClassId) (b : Nat) (f : Nat → Nat) (F : Nat → va_E) : sc_Fin cA b F 18 = sy_cell (b, f) cA sy_s0 18 := rfl
set_option maxRecDepth 100000 in
theorem sc_Fin_19 (cA : Nat → ClassId) (b : Nat) (f : Nat → Nat) (F : Nat → va_E) : sc_Fin cA b F 19 = sy_cell (b, f) cA sy_s0 19 := rfl
set_option maxRecDepth 100000 in
theorem sc_Fin_20 (cA : Nat → ClassId) (b : Nat) (f : Nat → Nat) (F : Nat → va_E) : sc_Fin cA b F 20 = sy_cell (b, f) cA sy_s0 20 := rfl
set_option maxRecDepth 100000 in
theorem sc_Fin_21 (cA : Nat → ClassId) (b : Nat) (f : Nat → Nat) (F : Nat → va_E) : sc_Fin cA b F 21 = sy_cell (b, f) cA sy_s0 21 := rfl
set_option maxRecDepth 100000 in
theorem sc_Fin_22 (cA : Nat → ClassId) (b : Nat) (f : Nat → Nat) (F : Nat → va_E) : sc_Fin cA b F 22 = sy_cell (b, f) cA sy_s0 22 := rfl
set_option maxRecDepth 100000 in
theorem sc_Fin_23 (cA : Nat → ClassId) (b : Nat) (f : Nat → Nat) (F : Nat → va_E) : sc_Fin cA b F 23 = sy_cell (b, f) cA sy_s0 23 := rfl
set_option maxRecDepth 100000 in
theorem sc_Fin_24 (cA : Nat → ClassId) (b : Nat) (f : Nat → Nat) (F : Nat → va_E) : sc_Fin cA b F 24 = sy_cell (b, f) cA sy_s0 24 := rfl
set_option maxRecDepth 100000 in
theorem sc_Fin_25 (cA : Nat → ClassId) (b : Nat) (f : Nat → Nat) (F : Nat → va_E) : sc_Fin cA b F 25 = sy_cell (b, f) cA sy_s0 25 := rfl
set_option maxRecDepth 100000 in
theorem sc_Fin_26 (cA : Nat → ClassId) (b : Nat) (f : Nat → Nat) (F : Nat → va_E) : sc_Fin cA b F 26 = sy_cell (b, f) cA sy_s0 26 := rfl
set_option maxRecDepth 100000 in
theorem sc_Fin_27 (cA : Nat → ClassId) (b : Nat) (f : Nat → Nat) (F : Nat → va_E) : sc_Fin cA b F 27 = sy_cell (b, f) cA sy_s0 27 := rfl
set_option maxRecDepth 100000 in
theorem sc_Fin_28 (cA : Nat → ClassId) (b : Nat) (f : Nat → Nat) (F : Nat → va_E) : sc_Fin cA b F 28 = sy_cell (b, f) cA sy_s0 28 := rfl
set_option maxRecDepth 100000 in
theorem sc_Fin_29 (cA : Nat → ClassId) (b : Nat) (f : Nat → Nat) (F : Nat → va_E) : sc_Fin cA b F 29 = sy_cell (b, f) cA sy_s0 29 := rfl
set_option maxRecDepth 100000 in
theorem sc_Fin_31 (cA : Nat → ClassId) (b : Nat) (f : Nat → Nat) (F : Nat → va_E) : sc_Fin cA b F 31 = sy_cell (b, f) cA sy_s0 31 := rfl
set_option maxRecDepth 100000 in
theorem sc_Fin_32 (cA : Nat → ClassId) (b : Nat) (f : Nat → Nat) (F : Nat → va_E) : sc_Fin cA b F 32 = sy_cell (b, f) cA sy_s0 32 := rfl
set_option maxRecDepth 100000 in
theorem sc_Fin_33 (cA : Nat → ClassId) (b : Nat) (f : Nat → Nat) (F : Nat → va_E) : sc_Fin cA b F 33 = sy_cell (b, f) cA sy_s0 33 := rfl
set_option maxRecDepth 100000 in
theorem sc_Fin_34 (cA : Nat → ClassId) (b : Nat) (f : Nat → Nat) (F : Nat → va_E) : sc_Fin cA b F 34 = sy_cell (b, f) cA sy_s0 34 := rfl
set_option maxRecDepth 100000 in
theorem sc_Fin_35 (cA : Nat → ClassId) (b : Nat) (f : Nat → Nat) (F : Nat → va_E) : sc_Fin cA b F 35 = sy_cell (b, f) cA sy_s0 35 := rfl
set_option maxRecDepth 100000 in
theorem sc_Fin_36 (cA : Nat → ClassId) (b : Nat) (f : Nat → Nat) (F : Nat → va_E) : sc_Fin cA b F 36 = sy_cell (b, f) cA sy_s0 36 := rfl
set_option maxRecDepth 100000 in
theorem sc_Fin_37 (cA : Nat → ClassId) (b : Nat) (f : Nat → Nat) (F : Nat → va_E) : sc_Fin cA b F 37 = sy_cell (b, f) cA sy_s0 37 := rfl
set_option maxRecDepth 100000 in
theorem sc_Fin_38 (cA : Nat → ClassId) (b : Nat) (f : Nat → Nat) (F : Nat → va_E) : sc_Fin cA b F 38 = sy_cell (b, f) cA sy_s0 38 := rfl
set_option maxRecDepth 100000 in
theorem sc_Fin_39 (cA : Nat → ClassId) (b : Nat) (f : Nat → Nat) (F : Nat → va_E) : sc_Fin cA b F 39 = sy_cell (b, f) cA sy_s0 39 := rfl
set_option maxRecDepth 100000 in
theorem sc_Fin_40 (cA : Nat → ClassId) (b : Nat) (f : Nat → Nat) (F : Nat → va_E) : sc_Fin cA b F 40 = sy_cell (b, f) cA sy_s0 40 := rfl
set_option maxRecDepth 100000 in
theorem sc_Fin_41 (cA : Nat → ClassId) (b : Nat) (f : Nat → Nat) (F : Nat → va_E) : sc_Fin cA b F 41 = sy_cell (b, f) cA sy_s0 41 := rfl
set_option maxRecDepth 100000 in
theorem sc_Fin_42 (cA : Nat → ClassId) (b : Nat) (f : Nat → Nat) (F : Nat → va_E) : sc_Fin cA b F 42 = sy_cell (b, f) cA sy_s0 42 := rfl
set_option maxRecDepth 100000 in
theorem sc_Fin_43 (cA : Nat → ClassId) (b : Nat) (f : Nat → Nat) (F : Nat → va_E) : sc_Fin cA b F 43 = sy_cell (b, f) cA sy_s0 43 := rfl
set_option maxRecDepth 100000 in
theorem sc_Fin_44 (cA : Nat → ClassId) (b : Nat) (f : Nat → Nat) (F : Nat → va_E) : sc_Fin cA b F 44 = sy_cell (b, f) cA sy_s0 44 := rfl
theorem sc_Fin_45 (cA : Nat → ClassId) (b : Nat) (f : Nat → Nat) (F : Nat → va_E) : sc_Fin cA b F 45 = sy_cell (b, f) cA sy_s0 45 := by
  show Sum.inl (cA 3, (64, Sum.inr (Sum.inl (fun _ => (0 : Int64))))) = Sum.inl (cA 3, (64, Sum.inr (Sum.inl (fun j : Nat => sy_jn 0 0))))
  rw [sc_jn0]
theorem sc_Fin_46 (cA : Nat → ClassId) (b : Nat) (f : Nat → Nat) (F : Nat → va_E) : sc_Fin cA b F 46 = sy_cell (b, f) cA sy_s0 46 := by
  show Sum.inl (cA 3, (64, Sum.inr (Sum.inl (fun _ => (0 : Int64))))) = Sum.inl (cA 3, (64, Sum.inr (Sum.inl (fun j : Nat => sy_jn 0 0))))
  rw [sc_jn0]
theorem sc_Fin_47 (cA : Nat → ClassId) (b : Nat) (f : Nat → Nat) (F : Nat → va_E) : sc_Fin cA b F 47 = sy_cell (b, f) cA sy_s0 47 := by
  show Sum.inl (cA 3, (64, Sum.inr (Sum.inl (fun _ => (0 : Int64))))) = Sum.inl (cA 3, (64, Sum.inr (Sum.inl (fun j : Nat => sy_jn 0 0))))
  rw [sc_jn0]
set_option maxRecDepth 100000 in
theorem sc_Fin_48 (cA : Nat → ClassId) (b : Nat) (f : Nat → Nat) (F : Nat → va_E) : sc_Fin cA b F 48 = sy_cell (b, f) cA sy_s0 48 := rfl
set_option maxRecDepth 100000 in
theorem sc_Fin_49 (cA : Nat → ClassId) (b : Nat) (f : Nat → Nat) (F : Nat → va_E) : sc_Fin cA b F 49 = sy_cell (b, f) cA sy_s0 49 := rfl
theorem sc_Fin_50 (cA : Nat → ClassId) (b : Nat) (f : Nat → Nat) (F : Nat → va_E) : sc_Fin cA b F 50 = sy_cell (b, f) cA sy_s0 50 := by
  show Sum.inl (cA 3, (4, Sum.inr (Sum.inl (fun _ => (0 : Int64))))) = Sum.inl (cA 3, (4, Sum.inr (Sum.inl (fun j : Nat => sy_jn 0 0))))
  rw [sc_jn0]
set_option maxRecDepth 100000 in
theorem sc_Fin_51 (cA : Nat → ClassId) (b : Nat) (f : Nat → Nat) (F : Nat → va_E) : sc_Fin cA b F 51 = sy_cell (b, f) cA sy_s0 51 := rfl
set_option maxRecDepth 100000 in
theorem sc_Fin_52 (cA : Nat → ClassId) (b : Nat) (f : Nat → Nat) (F : Nat → va_E) : sc_Fin cA b F 52 = sy_cell (b, f) cA sy_s0 52 := rfl
theorem sc_Fin_is (cA : Nat → ClassId) (b : Nat) (f : Nat → Nat) (F : Nat → va_E) : ∀ k, k < 53 → k ≠ 30 → sc_Fin cA b F k = sy_cell (b, f) cA sy_s0 k
  | 0, _, _ => sc_Fin_0 cA b f F
  | 1, _, _ => sc_Fin_1 cA b f F
  | 2, _, _ => sc_Fin_2 cA b f F
  | 3, _, _ => sc_Fin_3 cA b f F
  | 4, _, _ => sc_Fin_4 cA b f F
  | 5, _, _ => sc_Fin_5 cA b f F
  | 6, _, _ => sc_Fin_6 cA b f F
  | 7, _, _ => sc_Fin_7 cA b f F
  | 8, _, _ => sc_Fin_8 cA b f F
  | 9, _, _ => sc_Fin_9 cA b f F
  | 10, _, _ => sc_Fin_10 cA b f F
  | 11, _, _ => sc_Fin_11 cA b f F
  | 12, _, _ => sc_Fin_12 cA b f F
  | 13, _, _ => sc_Fin_13 cA b f F
  | 14, _, _ => sc_Fin_14 cA b f F
  | 15, _, _ => sc_Fin_15 cA b f F
  | 16, _, _ => sc_Fin_16 cA b f F
  | 17, _, _ => sc_Fin_17 cA b f F
  | 18, _, _ => sc_Fin_18 cA b f F
  | 19, _, _ => sc_Fin_19 cA b f F
  | 20, _, _ => sc_Fin_20 cA b f F
  | 21, _, _ => sc_Fin_21 cA b f F
  | 22, _, _ => sc_Fin_22 cA b f F
  | 23, _, _ => sc_Fin_23 cA b f F
  | 24, _, _ => sc_Fin_24 cA b f F
  | 25, _, _ => sc_Fin_25 cA b f F
  | 26, _, _ => sc_Fin_26 cA b f F
  | 27, _, _ => sc_Fin_27 cA b f F
  | 28, _, _ => sc_Fin_28 cA b f F
  | 29, _, _ => sc_Fin_29 cA b f F
  | 30, _, h => absurd rfl h
  | 31, _, _ => sc_Fin_31 cA b f F
  | 32, _, _ => sc_Fin_32 cA b f F
  | 33, _, _ => sc_Fin_33 cA b f F
  | 34, _, _ => sc_Fin_34 cA b f F
  | 35, _, _ => sc_Fin_35 cA b f F
  | 36, _, _ => sc_Fin_36 cA b f F
  | 37, _, _ => sc_Fin_37 cA b f F
  | 38, _, _ => sc_Fin_38 cA b f F
  | 39, _, _ => sc_Fin_39 cA b f F
  | 40, _, _ => sc_Fin_40 cA b f F
  | 41, _, _ => sc_Fin_41 cA b f F
  | 42, _, _ => sc_Fin_42 cA b f F
  | 43, _, _ => sc_Fin_43 cA b f F
  | 44, _, _ => sc_Fin_44 cA b f F
  | 45, _, _ => sc_Fin_45 cA b f F
  | 46, _, _ => sc_Fin_46 cA b f F
  | 47, _, _ => sc_Fin_47 cA b f F
  | 48, _, _ => sc_Fin_48 cA b f F
  | 49, _, _ => sc_Fin_49 cA b f F
  | 50, _, _ => sc_Fin_50 cA b f F
  | 51, _, _ => sc_Fin_51 cA b f F
  | 52, _, _ => sc_Fin_52 cA b f F
  | k + 53, h, _ => absurd h (by omega)
theorem sc_arrV {c : ClassId} {N : Nat} {f g : Nat → Value} (h : ∀ j, j < N → f j = g j) : arrV c N f = arrV c N g := by
  unfold arrV
  congr 2
  funext j
  exact h j.val j.isLt
theorem sc_wd0 (b : Nat) (f : Nat → Nat) (cA : Nat → ClassId) : sy_wd (b, f) cA sy_s0 = sc_ws b 53 (sy_cell (b, f) cA sy_s0) := by
  have h1 : sy_w1 (b, f) cA sy_s0 = [] := rfl
  unfold sy_wd
  rw [h1, List.append_nil]
  unfold sy_w0 sc_ws
  exact List.map_congr_left fun k hk => by rw [sy_ad_lt (List.mem_range.mp hk)]
/-- what the law's prelude leaves is the first world of the calls -/
theorem sc_Fin_P {D : va_G} {cA : Nat → ClassId} {b : Nat} {f : Nat → Nat} {F : Nat → va_E} {H : Heap} (hP : va_P D vwCl (sc_ws b 53 (sc_Fin cA b F)) H) : sy_PP D cA (b, f) sy_s0 H := by
  refine ⟨?_, ?_⟩
  · rw [sc_wd0]
    intro k q hk
    have hl : k < 53 := by
      by_cases hl : k < 53
      · exact hl
      · rw [List.getElem?_eq_none (by unfold sc_ws; simp; omega)] at hk
        exact absurd hk (by simp)
    rw [sc_ws_at hl] at hk
    obtain rfl := Option.some.inj hk
    have h1 : va_at D vwCl (b + k, sc_Fin cA b F k) H := hP k (b + k, sc_Fin cA b F k) (sc_ws_at hl)
    by_cases h30 : k = 30
    · subst h30
      have h1 : H[b + 30]? = some (arrV (cA 2) 4 (fun j => va_rf (va_up (va_up (va_up (va_up (fun _ => none) 0 (some (b + 32))) 1 (some (b + 35))) 2 (some (b + 38))) 3 (some (b + 41)) j))) := h1
      show H[b + 30]? = some (arrV (cA 2) 4 (fun j => va_rf (some (b + sy_vw j))))
      rw [h1]
      refine congrArg some (sc_arrV fun j hj => ?_)
      match j, hj with
      | 0, _ => rfl
      | 1, _ => rfl
      | 2, _ => rfl
      | 3, _ => rfl
      | j + 4, hj => exact absurd hj (by omega)
    · rw [sc_Fin_is cA b f F k hl h30] at h1
      exact h1
  · rw [sc_wd0]
    exact sc_ws_D
end SYR
