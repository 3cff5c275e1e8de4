section SYR
theorem wd_107 : Cond.classLink RL 8 RX5 ∈ sy_AL := sy_in 107 (by decide +kernel) (by decide +kernel)
theorem wd_108 : Cond.instantiable RX5 6 ∈ sy_AL := sy_in 108 (by decide +kernel) (by decide +kernel)
theorem wd_93 : Cond.initialized RX5 ∈ sy_AL := sy_in 93 (by decide +kernel) (by decide +kernel)
theorem wd_109 : Cond.methodLink RL 90 yX5_init ∈ sy_AL := sy_in 109 (by decide +kernel) (by decide +kernel)
theorem wd_110 : Cond.instanceMethod yX5_init ∈ sy_AL := sy_in 110 (by decide +kernel) (by decide +kernel)
theorem wd_111 : Cond.code yX5_init cX5_init 2 none ∈ sy_AL := sy_in 111 (by decide +kernel) (by decide +kernel)
theorem wd_1074 : Cond.classLink RL 91 RX6 ∈ sy_AL := sy_in 1074 (by decide +kernel) (by decide +kernel)
theorem wd_1075 : Cond.instantiable RX6 37 ∈ sy_AL := sy_in 1075 (by decide +kernel) (by decide +kernel)
theorem wd_1076 : Cond.methodLink RL 93 yX6_init ∈ sy_AL := sy_in 1076 (by decide +kernel) (by decide +kernel)
theorem wd_1077 : Cond.instanceMethod yX6_init ∈ sy_AL := sy_in 1077 (by decide +kernel) (by decide +kernel)
theorem wd_1078 : Cond.code yX6_init cX6_init 2 none ∈ sy_AL := sy_in 1078 (by decide +kernel) (by decide +kernel)
theorem wd_1501 : Cond.arrayClass (newarray.typeOf .long) ∈ sy_AL := sy_in 1501 (by decide +kernel) (by decide +kernel)
def sc_Fin : sc_G := fun cA b F => (sc_r (sc_G_Model cA b (sc_G_Yard cA b F)) 77 (.inl (cA 3, (1, (.inr (.inl (fun _ => 0)))))))
/-- the ints with which all begins -/
def sy_s0 : sy_Mem := fun k => match sc_Fin (fun _ => 0) 0 (fun _ => .inr (0, [])) k with
  | .inr (_, fs) => fun i => match fs.getD i .null with | .int x => x | _ => 0
  | .inl (_, _, .inl f) => f
  | _ => fun _ => 0
theorem sc_F77 (cA : Nat → ClassId) (b : Nat) (F : Nat → va_E) : sc_Fin cA b F 77 = sy_cell b cA sy_s0 77 := by
  show Sum.inl (cA 3, (1, Sum.inr (Sum.inl (fun _ => (0 : Int64))))) = Sum.inl (cA 3, (1, Sum.inr (Sum.inl (fun j : Nat => if j = 0 then sy_jn 0 0 else 0))))
  congr 4
  funext j
  by_cases h : j = 0
  · rw [if_pos h]; decide
  · rw [if_neg h]
set_option maxRecDepth 100000 in
set_option maxHeartbeats 8000000 in
theorem sc_Fin_is (cA : Nat → ClassId) (b : Nat) (F : Nat → va_E) : ∀ k, k < 78 → sc_Fin cA b F k = sy_cell b cA sy_s0 k

  | 0, _ => rfl
  | 1, _ => rfl
  | 2, _ => rfl
  | 3, _ => rfl
  | 4, _ => rfl
  | 5, _ => rfl
  | 6, _ => rfl
  | 7, _ => rfl
  | 8, _ => rfl
  | 9, _ => rfl
  | 10, _ => rfl
  | 11, _ => rfl
  | 12, _ => rfl
  | 13, _ => rfl
  | 14, _ => rfl
  | 15, _ => rfl
  | 16, _ => rfl
  | 17, _ => rfl
  | 18, _ => rfl
  | 19, _ => rfl
  | 20, _ => rfl
  | 21, _ => rfl
  | 22, _ => rfl
  | 23, _ => rfl
  | 24, _ => rfl
  | 25, _ => rfl
  | 26, _ => rfl
  | 27, _ => rfl
  | 28, _ => rfl
  | 29, _ => rfl
  | 30, _ => rfl
  | 31, _ => rfl
  | 32, _ => rfl
  | 33, _ => rfl
  | 34, _ => rfl
  | 35, _ => rfl
  | 36, _ => rfl
  | 37, _ => rfl
  | 38, _ => rfl
  | 39, _ => rfl
  | 40, _ => rfl
  | 41, _ => rfl
  | 42, _ => rfl
  | 43, _ => rfl
  | 44, _ => rfl
  | 45, _ => rfl
  | 46, _ => rfl
  | 47, _ => rfl
  | 48, _ => rfl
  | 49, _ => rfl
  | 50, _ => rfl
  | 51, _ => rfl
  | 52, _ => rfl
  | 53, _ => rfl
  | 54, _ => rfl
  | 55, _ => rfl
  | 56, _ => rfl
  | 57, _ => rfl
  | 58, _ => rfl
  | 59, _ => rfl
  | 60, _ => rfl
  | 61, _ => rfl
  | 62, _ => rfl
  | 63, _ => rfl
  | 64, _ => rfl
  | 65, _ => rfl
  | 66, _ => rfl
  | 67, _ => rfl
  | 68, _ => rfl
  | 69, _ => rfl
  | 70, _ => rfl
  | 71, _ => rfl
  | 72, _ => rfl
  | 73, _ => rfl
  | 74, _ => rfl
  | 75, _ => rfl
  | 76, _ => rfl
  | 77, _ => sc_F77 cA b F
  | k + 78, h => absurd h (by omega)
theorem sc_Fin_wd (cA : Nat → ClassId) (b : Nat) (F : Nat → va_E) : sc_ws b 78 (sc_Fin cA b F) = sy_wd b cA sy_s0 := by
  unfold sc_ws sy_wd
  exact List.map_congr_left fun k hk => by rw [sc_Fin_is cA b F k (List.mem_range.mp hk)]
end SYR
