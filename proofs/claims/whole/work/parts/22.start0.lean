section SYR
theorem wd_107 : Cond.classLink RL 8 RX5 ∈ sy_AL := sy_in 107 (by decide +kernel) (by decide +kernel)
theorem wd_108 : Cond.instantiable RX5 6 ∈ sy_AL := sy_in 108 (by decide +kernel) (by decide +kernel)
theorem wd_93 : Cond.initialized RX5 ∈ sy_AL := sy_in 93 (by decide +kernel) (by decide +kernel)
theorem wd_109 : Cond.methodLink RL 90 yX5_init ∈ sy_AL := sy_in 109 (by decide +kernel) (by decide +kernel)
theorem wd_110 : Cond.instanceMethod yX5_init ∈ sy_AL := sy_in 110 (by decide +kernel) (by decide +kernel)
theorem wd_111 : Cond.code yX5_init cX5_init 2 none ∈ sy_AL := sy_in 111 (by decide +kernel) (by decide +kernel)
theorem wd_1074 : Cond.classLink RL 91 RX6 ∈ sy_AL := sy_in 1074 (by decide +kernel) (by decide +kernel)
theorem wd_1075 : Cond.instantiable RX6 37 ∈ sy_AL := sy_in 1075 (by decide +kernel) (by decide +kernel)
theorem wd_1076 : Cond.methodLink RL 93 yX6_init ∈ sy_AL := sy_in 1076 (by decide +kernel) (by decide +kernel)
theorem wd_1077 : Cond.instanceMethod yX6_init ∈ sy_AL := sy_in 1077 (by decide +kernel) (by decide +kernel)
theorem wd_1078 : Cond.code yX6_init cX6_init 2 none ∈ sy_AL := sy_in 1078 (by decide +kernel) (by decide +kernel)
theorem wd_1501 : Cond.arrayClass (newarray.typeOf .long) ∈ sy_AL := sy_in 1501 (by decide +kernel) (by decide +kernel)
def sc_Fin : sc_G := fun cA b F => (sc_r (sc_G_Model cA b (sc_G_Yard cA b F)) 77 (.inl (cA 3, (1, (.inr (.inl (fun _ => 0)))))))
/-- the ints with which all begins -/
def sy_s0 : sy_Mem := fun k => match sc_Fin (fun _ => 0) 0 (fun _ => .inr (0, [])) k with
  | .inr (_, fs) => fun i => match fs.getD i .null with | .int x => x | _ => 0
  | .inl (_, _, .inl f) => f
  | _ => fun _ => 0
theorem sc_F77 (cA : Nat → ClassId) (b : Nat) (F : Nat → va_E) : sc_Fin cA b F 77 = sy_cell b cA sy_s0 77 := by
  show Sum.inl (cA 3, (1, Sum.inr (Sum.inl (fun _ => (0 : Int64))))) = Sum.inl (cA 3, (1, Sum.inr (Sum.inl (fun j : Nat => if j = 0 then sy_jn 0 0 else 0))))
  congr 5
  funext j
  by_cases h : j = 0
  · rw [if_pos h]; decide
  · rw [if_neg h]
set_option maxRecDepth 100000 in
theorem sc_Fin_0 (cA : Nat → ClassId) (b : Nat) (F : Nat → va_E) : sc_Fin cA b F 0 = sy_cell b cA sy_s0 0 := rfl
set_option maxRecDepth 100000 in
theorem sc_Fin_1 (cA : Nat → ClassId) (b : Nat) (F : Nat → va_E) : sc_Fin cA b F 1 = sy_cell b cA sy_s0 1 := rfl
set_option maxRecDepth 100000 in
theorem sc_Fin_2 (cA : Nat → ClassId) (b : Nat) (F : Nat → va_E) : sc_Fin cA b F 2 = sy_cell b cA sy_s0 2 := rfl
set_option maxRecDepth 100000 in
theorem sc_Fin_3 (cA : Nat → ClassId) (b : Nat) (F : Nat → va_E) : sc_Fin cA b F 3 = sy_cell b cA sy_s0 3 := rfl
set_option maxRecDepth 100000 in
theorem sc_Fin_4 (cA : Nat → ClassId) (b : Nat) (F : Nat → va_E) : sc_Fin cA b F 4 = sy_cell b cA sy_s0 4 := rfl
set_option maxRecDepth 100000 in
theorem sc_Fin_5 (cA : Nat → ClassId) (b : Nat) (F : Nat → va_E) : sc_Fin cA b F 5 = sy_cell b cA sy_s0 5 := rfl
set_option maxRecDepth 100000 in
theorem sc_Fin_6 (cA : Nat → ClassId) (b : Nat) (F : Nat → va_E) : sc_Fin cA b F 6 = sy_cell b cA sy_s0 6 := rfl
set_option maxRecDepth 100000 in
theorem sc_Fin_7 (cA : Nat → ClassId) (b : Nat) (F : Nat → va_E) : sc_Fin cA b F 7 = sy_cell b cA sy_s0 7 := rfl
set_option maxRecDepth 100000 in
theorem sc_Fin_8 (cA : Nat → ClassId) (b : Nat) (F : Nat → va_E) : sc_Fin cA b F 8 = sy_cell b cA sy_s0 8 := rfl
set_option maxRecDepth 100000 in
theorem sc_Fin_9 (cA : Nat → ClassId) (b : Nat) (F : Nat → va_E) : sc_Fin cA b F 9 = sy_cell b cA sy_s0 9 := rfl
set_option maxRecDepth 100000 in
theorem sc_Fin_10 (cA : Nat → ClassId) (b : Nat) (F : Nat → va_E) : sc_Fin cA b F 10 = sy_cell b cA sy_s0 10 := rfl
set_option maxRecDepth 100000 in
theorem sc_Fin_11 (cA : Nat → ClassId) (b : Nat) (F : Nat → va_E) : sc_Fin cA b F 11 = sy_cell b cA sy_s0 11 := rfl
set_option maxRecDepth 100000 in
theorem sc_Fin_12 (cA : Nat → ClassId) (b : Nat) (F : Nat → va_E) : sc_Fin cA b F 12 = sy_cell b cA sy_s0 12 := rfl
set_option maxRecDepth 100000 in
theorem sc_Fin_13 (cA : Nat → ClassId) (b : Nat) (F : Nat → va_E) : sc_Fin cA b F 13 = sy_cell b cA sy_s0 13 := rfl
set_option maxRecDepth 100000 in
theorem sc_Fin_14 (cA : Nat → ClassId) (b : Nat) (F : Nat → va_E) : sc_Fin cA b F 14 = sy_cell b cA sy_s0 14 := rfl
set_option maxRecDepth 100000 in
theorem sc_Fin_15 (cA : Nat → ClassId) (b : Nat) (F : Nat → va_E) : sc_Fin cA b F 15 = sy_cell b cA sy_s0 15 := rfl
set_option maxRecDepth 100000 in
theorem sc_Fin_16 (cA : Nat → ClassId) (b : Nat) (F : Nat → va_E) : sc_Fin cA b F 16 = sy_cell b cA sy_s0 16 := rfl
set_option maxRecDepth 100000 in
theorem sc_Fin_17 (cA : Nat → ClassId) (b : Nat) (F : Nat → va_E) : sc_Fin cA b F 17 = sy_cell b cA sy_s0 17 := rfl
set_option maxRecDepth 100000 in
theorem sc_Fin_18 (cA : Nat → ClassId) (b : Nat) (F : Nat → va_E) : sc_Fin cA b F 18 = sy_cell b cA sy_s0 18 := rfl
set_option maxRecDepth 100000 in
theorem sc_Fin_19 (cA : Nat → ClassId) (b : Nat) (F : Nat → va_E) : sc_Fin cA b F 19 = sy_cell b cA sy_s0 19 := rfl
set_option maxRecDepth 100000 in
theorem sc_Fin_20 (cA : Nat → ClassId) (b : Nat) (F : Nat → va_E) : sc_Fin cA b F 20 = sy_cell b cA sy_s0 20 := rfl
set_option maxRecDepth 100000 in
theorem sc_Fin_21 (cA : Nat → ClassId) (b : Nat) (F : Nat → va_E) : sc_Fin cA b F 21 = sy_cell b cA sy_s0 21 := rfl
set_option maxRecDepth 100000 in
theorem sc_Fin_22 (cA : Nat → ClassId) (b : Nat) (F : Nat → va_E) : sc_Fin cA b F 22 = sy_cell b cA sy_s0 22 := rfl
set_option maxRecDepth 100000 in
theorem sc_Fin_23 (cA : Nat → ClassId) (b : Nat) (F : Nat → va_E) : sc_Fin cA b F 23 = sy_cell b cA sy_s0 23 := rfl
set_option maxRecDepth 100000 in
theorem sc_Fin_24 (cA : Nat → ClassId) (b : Nat) (F : Nat → va_E) : sc_Fin cA b F 24 = sy_cell b cA sy_s0 24 := rfl
set_option maxRecDepth 100000 in
theorem sc_Fin_25 (cA : Nat → ClassId) (b : Nat) (F : Nat → va_E) : sc_Fin cA b F 25 = sy_cell b cA sy_s0 25 := rfl
set_option maxRecDepth 100000 in
theorem sc_Fin_26 (cA : Nat → ClassId) (b : Nat) (F : Nat → va_E) : sc_Fin cA b F 26 = sy_cell b cA sy_s0 26 := rfl
set_option maxRecDepth 100000 in
theorem sc_Fin_27 (cA : Nat → ClassId) (b : Nat) (F : Nat → va_E) : sc_Fin cA b F 27 = sy_cell b cA sy_s0 27 := rfl
set_option maxRecDepth 100000 in
theorem sc_Fin_28 (cA : Nat → ClassId) (b : Nat) (F : Nat → va_E) : sc_Fin cA b F 28 = sy_cell b cA sy_s0 28 := rfl
set_option maxRecDepth 100000 in
theorem sc_Fin_29 (cA : Nat → ClassId) (b : Nat) (F : Nat → va_E) : sc_Fin cA b F 29 = sy_cell b cA sy_s0 29 := rfl
set_option maxRecDepth 100000 in
theorem sc_Fin_31 (cA : Nat → ClassId) (b : Nat) (F : Nat → va_E) : sc_Fin cA b F 31 = sy_cell b cA sy_s0 31 := rfl
set_option maxRecDepth 100000 in
theorem sc_Fin_32 (cA : Nat → ClassId) (b : Nat) (F : Nat → va_E) : sc_Fin cA b F 32 = sy_cell b cA sy_s0 32 := rfl
set_option maxRecDepth 100000 in
theorem sc_Fin_33 (cA : Nat → ClassId) (b : Nat) (F : Nat → va_E) : sc_Fin cA b F 33 = sy_cell b cA sy_s0 33 := rfl
set_option maxRecDepth 100000 in
theorem sc_Fin_34 (cA : Nat → ClassId) (b : Nat) (F : Nat → va_E) : sc_Fin cA b F 34 = sy_cell b cA sy_s0 34 := rfl
set_option maxRecDepth 100000 in
theorem sc_Fin_35 (cA : Nat → ClassId) (b : Nat) (F : Nat → va_E) : sc_Fin cA b F 35 = sy_cell b cA sy_s0 35 := rfl
set_option maxRecDepth 100000 in
theorem sc_Fin_36 (cA : Nat → ClassId) (b : Nat) (F : Nat → va_E) : sc_Fin cA b F 36 = sy_cell b cA sy_s0 36 := rfl
set_option maxRecDepth 100000 in
theorem sc_Fin_37 (cA : Nat → ClassId) (b : Nat) (F : Nat → va_E) : sc_Fin cA b F 37 = sy_cell b cA sy_s0 37 := rfl
set_option maxRecDepth 100000 in
theorem sc_Fin_38 (cA : Nat → ClassId) (b : Nat) (F : Nat → va_E) : sc_Fin cA b F 38 = sy_cell b cA sy_s0 38 := rfl
set_option maxRecDepth 100000 in
theorem sc_Fin_39 (cA : Nat → ClassId) (b : Nat) (F : Nat → va_E) : sc_Fin cA b F 39 = sy_cell b cA sy_s0 39 := rfl
set_option maxRecDepth 100000 in
theorem sc_Fin_40 (cA : Nat → ClassId) (b : Nat) (F : Nat → va_E) : sc_Fin cA b F 40 = sy_cell b cA sy_s0 40 := rfl
set_option maxRecDepth 100000 in
theorem sc_Fin_41 (cA : Nat → ClassId) (b : Nat) (F : Nat → va_E) : sc_Fin cA b F 41 = sy_cell b cA sy_s0 41 := rfl
set_option maxRecDepth 100000 in
theorem sc_Fin_42 (cA : Nat → ClassId) (b : Nat) (F : Nat → va_E) : sc_Fin cA b F 42 = sy_cell b cA sy_s0 42 := rfl
set_option maxRecDepth 100000 in
theorem sc_Fin_43 (cA : Nat → ClassId) (b : Nat) (F : Nat → va_E) : sc_Fin cA b F 43 = sy_cell b cA sy_s0 43 := rfl
set_option maxRecDepth 100000 in
theorem sc_Fin_44v (cA : Nat → ClassId) (b : Nat) (F : Nat → va_E) : sc_Fin cA b F 44 = .inr (6, [.int 0, .ref (b + 45), .ref (b + 46), .ref (b + 47), .ref (b + 48), .ref (b + 49), .ref (b + 50), .ref (b + 51), .ref (b + 52), .ref (b + 53), .ref (b + 54), .ref (b + 55), .ref (b + 56), .ref (b + 57), .ref (b + 58), .ref (b + 59), .ref (b + 60), .ref (b + 61), .ref (b + 62), .ref (b + 63), .ref (b + 64), .ref (b + 65), .ref (b + 66), .int 0, .int 0, .ref (b + 67), .ref (b + 68), .ref (b + 69), .ref (b + 70), .ref (b + 71), .ref (b + 72), .ref (b + 73), .ref (b + 74), .int 0, .ref (b + 75), .ref (b + 76), .int 0]) := rfl
theorem sc_s44 (i : Nat) : sy_s0 44 i = (match ([.int 0, .ref (0 + 45), .ref (0 + 46), .ref (0 + 47), .ref (0 + 48), .ref (0 + 49), .ref (0 + 50), .ref (0 + 51), .ref (0 + 52), .ref (0 + 53), .ref (0 + 54), .ref (0 + 55), .ref (0 + 56), .ref (0 + 57), .ref (0 + 58), .ref (0 + 59), .ref (0 + 60), .ref (0 + 61), .ref (0 + 62), .ref (0 + 63), .ref (0 + 64), .ref (0 + 65), .ref (0 + 66), .int 0, .int 0, .ref (0 + 67), .ref (0 + 68), .ref (0 + 69), .ref (0 + 70), .ref (0 + 71), .ref (0 + 72), .ref (0 + 73), .ref (0 + 74), .int 0, .ref (0 + 75), .ref (0 + 76), .int 0] : List Value).getD i .null with | .int x => x | _ => 0) := by
  unfold sy_s0
  rw [sc_Fin_44v]
set_option maxRecDepth 100000 in
theorem sc_Fin_44 (cA : Nat → ClassId) (b : Nat) (F : Nat → va_E) : sc_Fin cA b F 44 = sy_cell b cA sy_s0 44 := by
  rw [sc_Fin_44v]
  have h : sy_cell b cA sy_s0 44 = .inr (6, ([none, some 45, some 46, some 47, some 48, some 49, some 50, some 51, some 52, some 53, some 54, some 55, some 56, some 57, some 58, some 59, some 60, some 61, some 62, some 63, some 64, some 65, some 66, none, none, some 67, some 68, some 69, some 70, some 71, some 72, some 73, some 74, none, some 75, some 76, none] : List (Option Nat)).mapIdx (fun i f => match f with | some j => Value.ref (b + j) | none => Value.int (sy_s0 44 i))) := rfl
  rw [h]
  simp only [List.mapIdx_cons, List.mapIdx_nil, sc_s44]
  rfl
set_option maxRecDepth 100000 in
theorem sc_Fin_45 (cA : Nat → ClassId) (b : Nat) (F : Nat → va_E) : sc_Fin cA b F 45 = sy_cell b cA sy_s0 45 := rfl
set_option maxRecDepth 100000 in
theorem sc_Fin_46 (cA : Nat → ClassId) (b : Nat) (F : Nat → va_E) : sc_Fin cA b F 46 = sy_cell b cA sy_s0 46 := rfl
set_option maxRecDepth 100000 in
theorem sc_Fin_47 (cA : Nat → ClassId) (b : Nat) (F : Nat → va_E) : sc_Fin cA b F 47 = sy_cell b cA sy_s0 47 := rfl
set_option maxRecDepth 100000 in
theorem sc_Fin_48 (cA : Nat → ClassId) (b : Nat) (F : Nat → va_E) : sc_Fin cA b F 48 = sy_cell b cA sy_s0 48 := rfl
set_option maxRecDepth 100000 in
theorem sc_Fin_49 (cA : Nat → ClassId) (b : Nat) (F : Nat → va_E) : sc_Fin cA b F 49 = sy_cell b cA sy_s0 49 := rfl
set_option maxRecDepth 100000 in
theorem sc_Fin_50 (cA : Nat → ClassId) (b : Nat) (F : Nat → va_E) : sc_Fin cA b F 50 = sy_cell b cA sy_s0 50 := rfl
set_option maxRecDepth 100000 in
theorem sc_Fin_51 (cA : Nat → ClassId) (b : Nat) (F : Nat → va_E) : sc_Fin cA b F 51 = sy_cell b cA sy_s0 51 := rfl
set_option maxRecDepth 100000 in
theorem sc_Fin_52 (cA : Nat → ClassId) (b : Nat) (F : Nat → va_E) : sc_Fin cA b F 52 = sy_cell b cA sy_s0 52 := rfl
set_option maxRecDepth 100000 in
theorem sc_Fin_53 (cA : Nat → ClassId) (b : Nat) (F : Nat → va_E) : sc_Fin cA b F 53 = sy_cell b cA sy_s0 53 := rfl
set_option maxRecDepth 100000 in
theorem sc_Fin_54 (cA : Nat → ClassId) (b : Nat) (F : Nat → va_E) : sc_Fin cA b F 54 = sy_cell b cA sy_s0 54 := rfl
set_option maxRecDepth 100000 in
theorem sc_Fin_55 (cA : Nat → ClassId) (b : Nat) (F : Nat → va_E) : sc_Fin cA b F 55 = sy_cell b cA sy_s0 55 := rfl
set_option maxRecDepth 100000 in
theorem sc_Fin_56 (cA : Nat → ClassId) (b : Nat) (F : Nat → va_E) : sc_Fin cA b F 56 = sy_cell b cA sy_s0 56 := rfl
set_option maxRecDepth 100000 in
theorem sc_Fin_57 (cA : Nat → ClassId) (b : Nat) (F : Nat → va_E) : sc_Fin cA b F 57 = sy_cell b cA sy_s0 57 := rfl
set_option maxRecDepth 100000 in
theorem sc_Fin_58 (cA : Nat → ClassId) (b : Nat) (F : Nat → va_E) : sc_Fin cA b F 58 = sy_cell b cA sy_s0 58 := rfl
set_option maxRecDepth 100000 in
theorem sc_Fin_59 (cA : Nat → ClassId) (b : Nat) (F : Nat → va_E) : sc_Fin cA b F 59 = sy_cell b cA sy_s0 59 := rfl
set_option maxRecDepth 100000 in
theorem sc_Fin_60 (cA : Nat → ClassId) (b : Nat) (F : Nat → va_E) : sc_Fin cA b F 60 = sy_cell b cA sy_s0 60 := rfl
set_option maxRecDepth 100000 in
theorem sc_Fin_61 (cA : Nat → ClassId) (b : Nat) (F : Nat → va_E) : sc_Fin cA b F 61 = sy_cell b cA sy_s0 61 := rfl
set_option maxRecDepth 100000 in
theorem sc_Fin_62 (cA : Nat → ClassId) (b : Nat) (F : Nat → va_E) : sc_Fin cA b F 62 = sy_cell b cA sy_s0 62 := rfl
set_option maxRecDepth 100000 in
theorem sc_Fin_63 (cA : Nat → ClassId) (b : Nat) (F : Nat → va_E) : sc_Fin cA b F 63 = sy_cell b cA sy_s0 63 := rfl
set_option maxRecDepth 100000 in
theorem sc_Fin_64 (cA : Nat → ClassId) (b : Nat) (F : Nat → va_E) : sc_Fin cA b F 64 = sy_cell b cA sy_s0 64 := rfl
set_option maxRecDepth 100000 in
theorem sc_Fin_65 (cA : Nat → ClassId) (b : Nat) (F : Nat → va_E) : sc_Fin cA b F 65 = sy_cell b cA sy_s0 65 := rfl
set_option maxRecDepth 100000 in
theorem sc_Fin_66 (cA : Nat → ClassId) (b : Nat) (F : Nat → va_E) : sc_Fin cA b F 66 = sy_cell b cA sy_s0 66 := rfl
set_option maxRecDepth 100000 in
theorem sc_Fin_67 (cA : Nat → ClassId) (b : Nat) (F : Nat → va_E) : sc_Fin cA b F 67 = sy_cell b cA sy_s0 67 := rfl
set_option maxRecDepth 100000 in
theorem sc_Fin_68 (cA : Nat → ClassId) (b : Nat) (F : Nat → va_E) : sc_Fin cA b F 68 = sy_cell b cA sy_s0 68 := rfl
set_option maxRecDepth 100000 in
theorem sc_Fin_69 (cA : Nat → ClassId) (b : Nat) (F : Nat → va_E) : sc_Fin cA b F 69 = sy_cell b cA sy_s0 69 := rfl
set_option maxRecDepth 100000 in
theorem sc_Fin_70 (cA : Nat → ClassId) (b : Nat) (F : Nat → va_E) : sc_Fin cA b F 70 = sy_cell b cA sy_s0 70 := rfl
set_option maxRecDepth 100000 in
theorem sc_Fin_71 (cA : Nat → ClassId) (b : Nat) (F : Nat → va_E) : sc_Fin cA b F 71 = sy_cell b cA sy_s0 71 := rfl
set_option maxRecDepth 100000 in
theorem sc_Fin_72 (cA : Nat → ClassId) (b : Nat) (F : Nat → va_E) : sc_Fin cA b F 72 = sy_cell b cA sy_s0 72 := rfl
set_option maxRecDepth 100000 in
theorem sc_Fin_73 (cA : Nat → ClassId) (b : Nat) (F : Nat → va_E) : sc_Fin cA b F 73 = sy_cell b cA sy_s0 73 := rfl
set_option maxRecDepth 100000 in
theorem sc_Fin_74 (cA : Nat → ClassId) (b : Nat) (F : Nat → va_E) : sc_Fin cA b F 74 = sy_cell b cA sy_s0 74 := rfl
set_option maxRecDepth 100000 in
theorem sc_Fin_75 (cA : Nat → ClassId) (b : Nat) (F : Nat → va_E) : sc_Fin cA b F 75 = sy_cell b cA sy_s0 75 := rfl
set_option maxRecDepth 100000 in
theorem sc_Fin_76 (cA : Nat → ClassId) (b : Nat) (F : Nat → va_E) : sc_Fin cA b F 76 = sy_cell b cA sy_s0 76 := rfl
theorem sc_Fin_is (cA : Nat → ClassId) (b : Nat) (F : Nat → va_E) : ∀ k, k < 78 → k ≠ 30 → sc_Fin cA b F k = sy_cell b cA sy_s0 k
  | 0, _, _ => sc_Fin_0 cA b F
  | 1, _, _ => sc_Fin_1 cA b F
  | 2, _, _ => sc_Fin_2 cA b F
  | 3, _, _ => sc_Fin_3 cA b F
  | 4, _, _ => sc_Fin_4 cA b F
  | 5, _, _ => sc_Fin_5 cA b F
  | 6, _, _ => sc_Fin_6 cA b F
  | 7, _, _ => sc_Fin_7 cA b F
  | 8, _, _ => sc_Fin_8 cA b F
  | 9, _, _ => sc_Fin_9 cA b F
  | 10, _, _ => sc_Fin_10 cA b F
  | 11, _, _ => sc_Fin_11 cA b F
  | 12, _, _ => sc_Fin_12 cA b F
  | 13, _, _ => sc_Fin_13 cA b F
  | 14, _, _ => sc_Fin_14 cA b F
  | 15, _, _ => sc_Fin_15 cA b F
  | 16, _, _ => sc_Fin_16 cA b F
  | 17, _, _ => sc_Fin_17 cA b F
  | 18, _, _ => sc_Fin_18 cA b F
  | 19, _, _ => sc_Fin_19 cA b F
  | 20, _, _ => sc_Fin_20 cA b F
  | 21, _, _ => sc_Fin_21 cA b F
  | 22, _, _ => sc_Fin_22 cA b F
  | 23, _, _ => sc_Fin_23 cA b F
  | 24, _, _ => sc_Fin_24 cA b F
  | 25, _, _ => sc_Fin_25 cA b F
  | 26, _, _ => sc_Fin_26 cA b F
  | 27, _, _ => sc_Fin_27 cA b F
  | 28, _, _ => sc_Fin_28 cA b F
  | 29, _, _ => sc_Fin_29 cA b F
  | 30, _, h => absurd rfl h
  | 31, _, _ => sc_Fin_31 cA b F
  | 32, _, _ => sc_Fin_32 cA b F
  | 33, _, _ => sc_Fin_33 cA b F
  | 34, _, _ => sc_Fin_34 cA b F
  | 35, _, _ => sc_Fin_35 cA b F
  | 36, _, _ => sc_Fin_36 cA b F
  | 37, _, _ => sc_Fin_37 cA b F
  | 38, _, _ => sc_Fin_38 cA b F
  | 39, _, _ => sc_Fin_39 cA b F
  | 40, _, _ => sc_Fin_40 cA b F
  | 41, _, _ => sc_Fin_41 cA b F
  | 42, _, _ => sc_Fin_42 cA b F
  | 43, _, _ => sc_Fin_43 cA b F
  | 44, _, _ => sc_Fin_44 cA b F
  | 45, _, _ => sc_Fin_45 cA b F
  | 46, _, _ => sc_Fin_46 cA b F
  | 47, _, _ => sc_Fin_47 cA b F
  | 48, _, _ => sc_Fin_48 cA b F
  | 49, _, _ => sc_Fin_49 cA b F
  | 50, _, _ => sc_Fin_50 cA b F
  | 51, _, _ => sc_Fin_51 cA b F
  | 52, _, _ => sc_Fin_52 cA b F
  | 53, _, _ => sc_Fin_53 cA b F
  | 54, _, _ => sc_Fin_54 cA b F
  | 55, _, _ => sc_Fin_55 cA b F
  | 56, _, _ => sc_Fin_56 cA b F
  | 57, _, _ => sc_Fin_57 cA b F
  | 58, _, _ => sc_Fin_58 cA b F
  | 59, _, _ => sc_Fin_59 cA b F
  | 60, _, _ => sc_Fin_60 cA b F
  | 61, _, _ => sc_Fin_61 cA b F
  | 62, _, _ => sc_Fin_62 cA b F
  | 63, _, _ => sc_Fin_63 cA b F
  | 64, _, _ => sc_Fin_64 cA b F
  | 65, _, _ => sc_Fin_65 cA b F
  | 66, _, _ => sc_Fin_66 cA b F
  | 67, _, _ => sc_Fin_67 cA b F
  | 68, _, _ => sc_Fin_68 cA b F
  | 69, _, _ => sc_Fin_69 cA b F
  | 70, _, _ => sc_Fin_70 cA b F
  | 71, _, _ => sc_Fin_71 cA b F
  | 72, _, _ => sc_Fin_72 cA b F
  | 73, _, _ => sc_Fin_73 cA b F
  | 74, _, _ => sc_Fin_74 cA b F
  | 75, _, _ => sc_Fin_75 cA b F
  | 76, _, _ => sc_Fin_76 cA b F
  | 77, _, _ => sc_F77 cA b F
  | k + 78, h, _ => absurd h (by omega)
theorem sc_arrV {c : ClassId} {N : Nat} {f g : Nat → Value} (h : ∀ j, j < N → f j = g j) : arrV c N f = arrV c N g := by
  unfold arrV
  congr 2
  funext j
  exact h j.val j.isLt
/-- what the law's prelude leaves is the first world of the calls -/
theorem sc_Fin_P {D : va_G} {cA : Nat → ClassId} {b : Nat} {F : Nat → va_E} {H : Heap} (hP : va_P D vwCl (sc_ws b 78 (sc_Fin cA b F)) H) : va_P D vwCl (sy_wd b cA sy_s0) H := by
  intro k q hk
  have hl : k < 78 := by
    by_cases hl : k < 78
    · exact hl
    · rw [List.getElem?_eq_none (by unfold sy_wd; rw [List.length_map, List.length_range]; show (78 : Nat) ≤ k; omega)] at hk
      exact absurd hk (by simp)
  rw [sy_wd_at (b := b) (cA := cA) (σ := sy_s0) (k := k) hl] at hk
  obtain rfl := Option.some.inj hk
  have h1 : va_at D vwCl (b + k, sc_Fin cA b F k) H := hP k (b + k, sc_Fin cA b F k) (by unfold sc_ws; simp [hl])
  by_cases h30 : k = 30
  · subst h30
    have h1 : H[b + 30]? = some (arrV (cA 2) 4 (fun j => va_rf (va_up (va_up (va_up (va_up (fun _ => none) 0 (some (b + 32))) 1 (some (b + 35))) 2 (some (b + 38))) 3 (some (b + 41)) j))) := h1
    show H[b + 30]? = some (arrV (cA 2) 4 (fun j => va_rf (some (b + sy_vw j))))
    rw [h1]
    refine congrArg some (sc_arrV fun j hj => ?_)
    match j, hj with
    | 0, _ => rfl
    | 1, _ => rfl
    | 2, _ => rfl
    | 3, _ => rfl
    | j + 4, hj => exact absurd hj (by omega)
  · rw [sc_Fin_is cA b F k hl h30] at h1
    exact h1
end SYR
