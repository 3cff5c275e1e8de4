section SYP
theorem wd_72 : Cond.methodLink RX2 3 Lib.objectInit ∈ sy_AL := sy_in 72 (by decide +kernel) (by decide +kernel)
theorem wd_65 : Cond.instanceMethod Lib.objectInit ∈ sy_AL := sy_in 65 (by decide +kernel) (by decide +kernel)
theorem wd_66 : Cond.code Lib.objectInit ⟨#[0xb1]⟩ 1 none ∈ sy_AL := sy_in 66 (by decide +kernel) (by decide +kernel)
theorem fc_X2_9 : sc_fC RX2 9 2 0 .int false := ⟨RX2, TX2, 9, tyX2, rfl, by decide, sy_kw2, sy_in 73 (by decide +kernel) (by decide +kernel), tyX2_ok, nmX2, rfl, by decide +kernel, rfl⟩
theorem wd_101 : Cond.arrayClass (newarray.typeOf .int) ∈ sy_AL := sy_in 101 (by decide +kernel) (by decide +kernel)
theorem fc_X2_15 : sc_fC RX2 15 2 1 (.array .int) true := ⟨RX2, TX2, 9, tyX2, rfl, by decide, sy_kw2, sy_in 74 (by decide +kernel) (by decide +kernel), tyX2_ok, nmX2, rfl, by decide +kernel, rfl⟩
theorem fc_X2_19 : sc_fC RX2 19 2 2 (.array .int) true := ⟨RX2, TX2, 9, tyX2, rfl, by decide, sy_kw2, sy_in 75 (by decide +kernel) (by decide +kernel), tyX2_ok, nmX2, rfl, by decide +kernel, rfl⟩
theorem fc_X2_22 : sc_fC RX2 22 2 3 (.array .int) true := ⟨RX2, TX2, 9, tyX2, rfl, by decide, sy_kw2, sy_in 76 (by decide +kernel) (by decide +kernel), tyX2_ok, nmX2, rfl, by decide +kernel, rfl⟩
theorem fc_X2_25 : sc_fC RX2 25 2 4 (.array .int) true := ⟨RX2, TX2, 9, tyX2, rfl, by decide, sy_kw2, sy_in 77 (by decide +kernel) (by decide +kernel), tyX2_ok, nmX2, rfl, by decide +kernel, rfl⟩
theorem fc_X2_28 : sc_fC RX2 28 2 5 (.array .int) true := ⟨RX2, TX2, 9, tyX2, rfl, by decide, sy_kw2, sy_in 78 (by decide +kernel) (by decide +kernel), tyX2_ok, nmX2, rfl, by decide +kernel, rfl⟩
theorem fc_X2_31 : sc_fC RX2 31 2 6 (.array .int) true := ⟨RX2, TX2, 9, tyX2, rfl, by decide, sy_kw2, sy_in 79 (by decide +kernel) (by decide +kernel), tyX2_ok, nmX2, rfl, by decide +kernel, rfl⟩
theorem fc_X2_34 : sc_fC RX2 34 2 7 (.array .int) true := ⟨RX2, TX2, 9, tyX2, rfl, by decide, sy_kw2, sy_in 80 (by decide +kernel) (by decide +kernel), tyX2_ok, nmX2, rfl, by decide +kernel, rfl⟩
theorem fc_X2_37 : sc_fC RX2 37 2 8 (.array .int) true := ⟨RX2, TX2, 9, tyX2, rfl, by decide, sy_kw2, sy_in 81 (by decide +kernel) (by decide +kernel), tyX2_ok, nmX2, rfl, by decide +kernel, rfl⟩
theorem wd_107 : Cond.methodLink RX3 3 Lib.objectInit ∈ sy_AL := sy_in 107 (by decide +kernel) (by decide +kernel)
theorem fc_X3_9 : sc_fC RX3 9 3 1 (.array .int) true := ⟨RX3, TX3, 10, tyX3, rfl, by decide, sy_kw3, sy_in 109 (by decide +kernel) (by decide +kernel), tyX3_ok, nmX3, rfl, by decide +kernel, rfl⟩
theorem fc_X3_15 : sc_fC RX3 15 3 2 (.array .int) true := ⟨RX3, TX3, 10, tyX3, rfl, by decide, sy_kw3, sy_in 110 (by decide +kernel) (by decide +kernel), tyX3_ok, nmX3, rfl, by decide +kernel, rfl⟩
theorem fc_X3_18 : sc_fC RX3 18 3 3 (.array .int) true := ⟨RX3, TX3, 10, tyX3, rfl, by decide, sy_kw3, sy_in 111 (by decide +kernel) (by decide +kernel), tyX3_ok, nmX3, rfl, by decide +kernel, rfl⟩
theorem fc_X3_21 : sc_fC RX3 21 3 4 (.array .int) true := ⟨RX3, TX3, 10, tyX3, rfl, by decide, sy_kw3, sy_in 112 (by decide +kernel) (by decide +kernel), tyX3_ok, nmX3, rfl, by decide +kernel, rfl⟩
theorem fc_X3_24 : sc_fC RX3 24 3 5 (.array .int) true := ⟨RX3, TX3, 10, tyX3, rfl, by decide, sy_kw3, sy_in 113 (by decide +kernel) (by decide +kernel), tyX3_ok, nmX3, rfl, by decide +kernel, rfl⟩
theorem fc_X3_27 : sc_fC RX3 27 3 6 (.array .int) true := ⟨RX3, TX3, 10, tyX3, rfl, by decide, sy_kw3, sy_in 114 (by decide +kernel) (by decide +kernel), tyX3_ok, nmX3, rfl, by decide +kernel, rfl⟩
theorem fc_X3_30 : sc_fC RX3 30 3 7 (.array .int) true := ⟨RX3, TX3, 10, tyX3, rfl, by decide, sy_kw3, sy_in 115 (by decide +kernel) (by decide +kernel), tyX3_ok, nmX3, rfl, by decide +kernel, rfl⟩
theorem wd_139 : Cond.arrayClass (newarray.typeOf .boolean) ∈ sy_AL := sy_in 139 (by decide +kernel) (by decide +kernel)
theorem fc_X3_33 : sc_fC RX3 33 3 8 (.array .boolean) true := ⟨RX3, TX3, 10, tyX3, rfl, by decide, sy_kw3, sy_in 116 (by decide +kernel) (by decide +kernel), tyX3_ok, nmX3, rfl, by decide +kernel, rfl⟩
theorem fc_X3_37 : sc_fC RX3 37 3 9 .int false := ⟨RX3, TX3, 10, tyX3, rfl, by decide, sy_kw3, sy_in 117 (by decide +kernel) (by decide +kernel), tyX3_ok, nmX3, rfl, by decide +kernel, rfl⟩
theorem fc_X3_41 : sc_fC RX3 41 3 0 (.object "SegmentYard$Schema") true := ⟨RX3, TX3, 10, tyX3, rfl, by decide, sy_kw3, sy_in 108 (by decide +kernel) (by decide +kernel), tyX3_ok, nmX3, rfl, by decide +kernel, rfl⟩
theorem wd_145 : Cond.methodLink RX0 3 Lib.objectInit ∈ sy_AL := sy_in 145 (by decide +kernel) (by decide +kernel)
theorem fc_X0_9 : sc_fC RX0 9 0 0 .int false := ⟨RX0, TX0, 8, tyX0, rfl, by decide, sy_kw0, sy_in 146 (by decide +kernel) (by decide +kernel), tyX0_ok, nmX0, rfl, by decide +kernel, rfl⟩
theorem fc_X0_15 : sc_fC RX0 15 0 1 (.array .int) true := ⟨RX0, TX0, 8, tyX0, rfl, by decide, sy_kw0, sy_in 147 (by decide +kernel) (by decide +kernel), tyX0_ok, nmX0, rfl, by decide +kernel, rfl⟩
theorem fc_X0_19 : sc_fC RX0 19 0 2 (.array .int) true := ⟨RX0, TX0, 8, tyX0, rfl, by decide, sy_kw0, sy_in 148 (by decide +kernel) (by decide +kernel), tyX0_ok, nmX0, rfl, by decide +kernel, rfl⟩
theorem fc_X0_22 : sc_fC RX0 22 0 3 (.array .int) true := ⟨RX0, TX0, 8, tyX0, rfl, by decide, sy_kw0, sy_in 149 (by decide +kernel) (by decide +kernel), tyX0_ok, nmX0, rfl, by decide +kernel, rfl⟩
theorem fc_X0_25 : sc_fC RX0 25 0 4 (.array .boolean) true := ⟨RX0, TX0, 8, tyX0, rfl, by decide, sy_kw0, sy_in 150 (by decide +kernel) (by decide +kernel), tyX0_ok, nmX0, rfl, by decide +kernel, rfl⟩
theorem fc_X0_29 : sc_fC RX0 29 0 5 (.array .int) true := ⟨RX0, TX0, 8, tyX0, rfl, by decide, sy_kw0, sy_in 151 (by decide +kernel) (by decide +kernel), tyX0_ok, nmX0, rfl, by decide +kernel, rfl⟩
theorem fc_X0_32 : sc_fC RX0 32 0 6 (.array .int) true := ⟨RX0, TX0, 8, tyX0, rfl, by decide, sy_kw0, sy_in 152 (by decide +kernel) (by decide +kernel), tyX0_ok, nmX0, rfl, by decide +kernel, rfl⟩
theorem fc_X0_35 : sc_fC RX0 35 0 7 (.array .int) true := ⟨RX0, TX0, 8, tyX0, rfl, by decide, sy_kw0, sy_in 153 (by decide +kernel) (by decide +kernel), tyX0_ok, nmX0, rfl, by decide +kernel, rfl⟩
theorem wd_176 : Cond.methodLink RX1 3 Lib.objectInit ∈ sy_AL := sy_in 176 (by decide +kernel) (by decide +kernel)
theorem fc_X1_9 : sc_fC RX1 9 1 0 .int false := ⟨RX1, TX1, 4, tyX1, rfl, by decide, sy_kw1, sy_in 177 (by decide +kernel) (by decide +kernel), tyX1_ok, nmX1, rfl, by decide +kernel, rfl⟩
theorem fc_X1_15 : sc_fC RX1 15 1 1 .boolean false := ⟨RX1, TX1, 4, tyX1, rfl, by decide, sy_kw1, sy_in 178 (by decide +kernel) (by decide +kernel), tyX1_ok, nmX1, rfl, by decide +kernel, rfl⟩
theorem fc_X1_19 : sc_fC RX1 19 1 2 (.array .int) true := ⟨RX1, TX1, 4, tyX1, rfl, by decide, sy_kw1, sy_in 179 (by decide +kernel) (by decide +kernel), tyX1_ok, nmX1, rfl, by decide +kernel, rfl⟩
theorem fc_X1_23 : sc_fC RX1 23 1 3 (.array .int) true := ⟨RX1, TX1, 4, tyX1, rfl, by decide, sy_kw1, sy_in 180 (by decide +kernel) (by decide +kernel), tyX1_ok, nmX1, rfl, by decide +kernel, rfl⟩
theorem wd_196 : Cond.methodLink RX4 3 Lib.objectInit ∈ sy_AL := sy_in 196 (by decide +kernel) (by decide +kernel)
theorem fc_X4_9 : sc_fC RX4 9 4 0 .int false := ⟨RX4, TX4, 9, tyX4, rfl, by decide, sy_kw4, sy_in 197 (by decide +kernel) (by decide +kernel), tyX4_ok, nmX4, rfl, by decide +kernel, rfl⟩
theorem fc_X4_15 : sc_fC RX4 15 4 1 .int false := ⟨RX4, TX4, 9, tyX4, rfl, by decide, sy_kw4, sy_in 198 (by decide +kernel) (by decide +kernel), tyX4_ok, nmX4, rfl, by decide +kernel, rfl⟩
theorem fc_X4_18 : sc_fC RX4 18 4 2 .int false := ⟨RX4, TX4, 9, tyX4, rfl, by decide, sy_kw4, sy_in 199 (by decide +kernel) (by decide +kernel), tyX4_ok, nmX4, rfl, by decide +kernel, rfl⟩
theorem fc_X4_21 : sc_fC RX4 21 4 3 .boolean false := ⟨RX4, TX4, 9, tyX4, rfl, by decide, sy_kw4, sy_in 200 (by decide +kernel) (by decide +kernel), tyX4_ok, nmX4, rfl, by decide +kernel, rfl⟩
theorem fc_X4_25 : sc_fC RX4 25 4 4 .boolean false := ⟨RX4, TX4, 9, tyX4, rfl, by decide, sy_kw4, sy_in 201 (by decide +kernel) (by decide +kernel), tyX4_ok, nmX4, rfl, by decide +kernel, rfl⟩
theorem fc_X4_28 : sc_fC RX4 28 4 5 .int false := ⟨RX4, TX4, 9, tyX4, rfl, by decide, sy_kw4, sy_in 202 (by decide +kernel) (by decide +kernel), tyX4_ok, nmX4, rfl, by decide +kernel, rfl⟩
theorem fc_X4_31 : sc_fC RX4 31 4 6 .int false := ⟨RX4, TX4, 9, tyX4, rfl, by decide, sy_kw4, sy_in 203 (by decide +kernel) (by decide +kernel), tyX4_ok, nmX4, rfl, by decide +kernel, rfl⟩
theorem fc_X4_34 : sc_fC RX4 34 4 7 (.array .int) true := ⟨RX4, TX4, 9, tyX4, rfl, by decide, sy_kw4, sy_in 204 (by decide +kernel) (by decide +kernel), tyX4_ok, nmX4, rfl, by decide +kernel, rfl⟩
theorem fc_X4_38 : sc_fC RX4 38 4 8 (.array .boolean) true := ⟨RX4, TX4, 9, tyX4, rfl, by decide, sy_kw4, sy_in 205 (by decide +kernel) (by decide +kernel), tyX4_ok, nmX4, rfl, by decide +kernel, rfl⟩
theorem wd_64 : Cond.methodLink RX5 1 Lib.objectInit ∈ sy_AL := sy_in 64 (by decide +kernel) (by decide +kernel)
theorem wd_67 : Cond.classLink RX5 7 RX2 ∈ sy_AL := sy_in 67 (by decide +kernel) (by decide +kernel)
theorem wd_68 : Cond.instantiable RX2 9 ∈ sy_AL := sy_in 68 (by decide +kernel) (by decide +kernel)
theorem wd_47 : Cond.initialized RX2 ∈ sy_AL := sy_in 47 (by decide +kernel) (by decide +kernel)
theorem wd_70 : Cond.instanceMethod yX2_init ∈ sy_AL := sy_in 70 (by decide +kernel) (by decide +kernel)
theorem wd_71 : Cond.code yX2_init cX2_init 1 none ∈ sy_AL := sy_in 71 (by decide +kernel) (by decide +kernel)
theorem fc_X5_10 : sc_fC RX5 10 5 0 (.object "SegmentYard$Schema") true := ⟨RX5, TX5, 6, tyX5, rfl, by decide, sy_kw5, sy_in 225 (by decide +kernel) (by decide +kernel), tyX5_ok, nmX5, rfl, by decide +kernel, rfl⟩
theorem wd_102 : Cond.classLink RX5 16 RX3 ∈ sy_AL := sy_in 102 (by decide +kernel) (by decide +kernel)
theorem wd_103 : Cond.instantiable RX3 10 ∈ sy_AL := sy_in 103 (by decide +kernel) (by decide +kernel)
theorem wd_48 : Cond.initialized RX3 ∈ sy_AL := sy_in 48 (by decide +kernel) (by decide +kernel)
theorem wd_104 : Cond.methodLink RX5 18 yX3_init ∈ sy_AL := sy_in 104 (by decide +kernel) (by decide +kernel)
theorem wd_105 : Cond.instanceMethod yX3_init ∈ sy_AL := sy_in 105 (by decide +kernel) (by decide +kernel)
theorem wd_106 : Cond.code yX3_init cX3_init 3 none ∈ sy_AL := sy_in 106 (by decide +kernel) (by decide +kernel)
theorem fc_X5_21 : sc_fC RX5 21 5 1 (.object "SegmentYard$Store") true := ⟨RX5, TX5, 6, tyX5, rfl, by decide, sy_kw5, sy_in 226 (by decide +kernel) (by decide +kernel), tyX5_ok, nmX5, rfl, by decide +kernel, rfl⟩
theorem wd_140 : Cond.classLink RX5 25 RX0 ∈ sy_AL := sy_in 140 (by decide +kernel) (by decide +kernel)
theorem wd_141 : Cond.instantiable RX0 8 ∈ sy_AL := sy_in 141 (by decide +kernel) (by decide +kernel)
theorem wd_49 : Cond.initialized RX0 ∈ sy_AL := sy_in 49 (by decide +kernel) (by decide +kernel)
theorem wd_143 : Cond.instanceMethod yX0_init ∈ sy_AL := sy_in 143 (by decide +kernel) (by decide +kernel)
theorem wd_144 : Cond.code yX0_init cX0_init 1 none ∈ sy_AL := sy_in 144 (by decide +kernel) (by decide +kernel)
theorem fc_X5_28 : sc_fC RX5 28 5 2 (.object "SegmentYard$Arguments") true := ⟨RX5, TX5, 6, tyX5, rfl, by decide, sy_kw5, sy_in 227 (by decide +kernel) (by decide +kernel), tyX5_ok, nmX5, rfl, by decide +kernel, rfl⟩
theorem wd_171 : Cond.classLink RX5 32 RX1 ∈ sy_AL := sy_in 171 (by decide +kernel) (by decide +kernel)
theorem wd_172 : Cond.instantiable RX1 4 ∈ sy_AL := sy_in 172 (by decide +kernel) (by decide +kernel)
theorem wd_50 : Cond.initialized RX1 ∈ sy_AL := sy_in 50 (by decide +kernel) (by decide +kernel)
theorem wd_174 : Cond.instanceMethod yX1_init ∈ sy_AL := sy_in 174 (by decide +kernel) (by decide +kernel)
theorem wd_175 : Cond.code yX1_init cX1_init 1 none ∈ sy_AL := sy_in 175 (by decide +kernel) (by decide +kernel)
theorem fc_X5_35 : sc_fC RX5 35 5 3 (.object "SegmentYard$Needs") true := ⟨RX5, TX5, 6, tyX5, rfl, by decide, sy_kw5, sy_in 228 (by decide +kernel) (by decide +kernel), tyX5_ok, nmX5, rfl, by decide +kernel, rfl⟩
theorem wd_190 : Cond.classLink RX5 39 RX4 ∈ sy_AL := sy_in 190 (by decide +kernel) (by decide +kernel)
theorem fc_X5_41 : sc_fC RX5 41 5 4 (.array (.object "SegmentYard$View")) true := ⟨RX5, TX5, 6, tyX5, rfl, by decide, sy_kw5, sy_in 229 (by decide +kernel) (by decide +kernel), tyX5_ok, nmX5, rfl, by decide +kernel, rfl⟩
theorem fc_X5_45 : sc_fC RX5 45 5 5 (.array .int) true := ⟨RX5, TX5, 6, tyX5, rfl, by decide, sy_kw5, sy_in 230 (by decide +kernel) (by decide +kernel), tyX5_ok, nmX5, rfl, by decide +kernel, rfl⟩
theorem wd_192 : Cond.instantiable RX4 9 ∈ sy_AL := sy_in 192 (by decide +kernel) (by decide +kernel)
theorem wd_51 : Cond.initialized RX4 ∈ sy_AL := sy_in 51 (by decide +kernel) (by decide +kernel)
theorem wd_194 : Cond.instanceMethod yX4_init ∈ sy_AL := sy_in 194 (by decide +kernel) (by decide +kernel)
theorem wd_195 : Cond.code yX4_init cX4_init 1 none ∈ sy_AL := sy_in 195 (by decide +kernel) (by decide +kernel)
def sc_P_Schema : sc_G := fun cA b F => sc_o F 1 2 [.int 0, .null, .null, .null, .null, .null, .null, .null, .null]
def sc_G_Schema : sc_G := fun cA b F => (sc_p (sc_r (sc_p (sc_r (sc_p (sc_r (sc_p (sc_r (sc_p (sc_r (sc_p (sc_r (sc_p (sc_r (sc_p (sc_r (sc_p (sc_P_Schema cA b F) 1 0 (.int 0)) 2 (.inl (cA 0, (12, (.inl (fun _ => 0)))))) 1 1 (.ref (b + 2))) 3 (.inl (cA 0, (12, (.inl (fun _ => 0)))))) 1 2 (.ref (b + 3))) 4 (.inl (cA 0, (12, (.inl (fun _ => 0)))))) 1 3 (.ref (b + 4))) 5 (.inl (cA 0, (12, (.inl (fun _ => 0)))))) 1 4 (.ref (b + 5))) 6 (.inl (cA 0, (12, (.inl (fun _ => 0)))))) 1 5 (.ref (b + 6))) 7 (.inl (cA 0, (12, (.inl (fun _ => 0)))))) 1 6 (.ref (b + 7))) 8 (.inl (cA 0, (12, (.inl (fun _ => 0)))))) 1 7 (.ref (b + 8))) 9 (.inl (cA 0, (12, (.inl (fun _ => 0)))))) 1 8 (.ref (b + 9)))
set_option maxRecDepth 100000 in
set_option maxHeartbeats 8000000 in
theorem sc_Schema : sc_M yX2_init cX2_init 1 2 (fun b => [.ref (b + 1)]) 2 10 96 (fun _ => True) (fun cA => []) sc_P_Schema sc_G_Schema (fun cA => [(cA 0, .int)]) := by
  intro l D cA b F
  refine Met.ofW (cc := cX2_init) (maxL := 1) (ret := none) (by decide) rfl ?_
  intro p e s m args below meth c s₁ B hml hv
  obtain ⟨rfl, hsz, hP, hK, hcA, hpr⟩ := hv
  have hx := B.exec
  have hb := B.bytes
  have hr := B.returns
  have hts0 := atoms_spec (ws := Cond.code yX2_init cX2_init 1 none :: sy_AL) B.pre
  have hts : ∀ w ∈ sy_AL, w.before _ s = true := fun w hw => hts0 w (List.mem_cons_of_mem _ hw)
  have hown : s.vm.findClass RX2 = some m.cls := findClass_of_methodNamed B.named
  have hlocks := B.notSynchronized
  have hin : meth.name = "<init>" := (name_of_methodNamed B.named B.method).1
  have hb0 : b ≤ s.heap.size := by omega
  have hS : va_S (sy_ab b) s.heap s.heap [] := va_S.rf
  have hl := lv_entry ([.ref (b + 1)]) (n := 1) (Nat.le_of_ble_eq_true rfl)
  rw [lg_entry_eq]
  generalize (lg_sl ([.ref (b + 1)]) ++ List.replicate (1 - (lg_sl ([.ref (b + 1)])).length) Slot.unset).toArray = ls at hl ⊢
  have hl : lv_has ls 1 [(0, .ref (b + 1))] := hl
  refine lv_aload_n hx hb dX2_init_0 rfl (lv_at hl 0 rfl) ?_
  refine W.objInit hx hb hown (hts _ wd_72) (hts _ wd_65) (hts _ wd_66) rfl (by rw [hml]; exact hl.1) rfl dX2_init_1 (Nat.le_of_ble_eq_true rfl) (Nat.le_of_ble_eq_true rfl) ?_
  refine W.eq (g2 := F0 m 4 ls []) rfl ?_
  refine lv_aload_n hx hb dX2_init_4 rfl (lv_at hl 0 rfl) ?_
  refine lv_iconst (v := 0) hx hb dX2_init_5 (by decide) ?_
  refine sc_put (k := 1) (fs := [.int 0, .null, .null, .null, .null, .null, .null, .null, .null]) (v := .int 0) hx hb hts fc_X2_9 hown hin hK hP hS rfl (by decide) rfl rfl (Nat.le_of_ble_eq_true rfl) dX2_init_6 (fun H locs hP hS => ?_)
  refine lv_aload_n hx hb dX2_init_9 rfl (lv_at hl 0 rfl) ?_
  refine lv_bipush (v := 12) hx hb dX2_init_10 (by decide) ?_
  refine sc_newa (atype := .int) (cA := cA) (kd := 0) (n := 2) (a0 := (12, (.inl (fun _ => 0)))) hx hb hts wd_101 hcA.1 (fun U x h => h) hK hP hS hb0 (by omega) (fun _ => rfl) (by decide) (by decide) (Nat.le_of_ble_eq_true rfl) (Nat.le_of_ble_eq_true rfl) (Nat.le_of_ble_eq_true rfl) dX2_init_12 (fun H hK1 hP hS => ?_)
  have hK_0 : va_K D vwCl [(cA 0, .int)] s := hK1
  refine sc_put (k := 1) (fs := [.int 0, .null, .null, .null, .null, .null, .null, .null, .null]) (v := .ref (b + 2)) hx hb hts fc_X2_15 hown hin hK hP hS rfl (by decide) rfl rfl (Nat.le_of_ble_eq_true rfl) dX2_init_14 (fun H locs hP hS => ?_)
  refine lv_aload_n hx hb dX2_init_17 rfl (lv_at hl 0 rfl) ?_
  refine lv_bipush (v := 12) hx hb dX2_init_18 (by decide) ?_
  refine sc_newa (atype := .int) (cA := cA) (kd := 0) (n := 3) (a0 := (12, (.inl (fun _ => 0)))) hx hb hts wd_101 hcA.1 (fun U x h => h) hK hP hS hb0 (by omega) (fun _ => rfl) (by decide) (by decide) (Nat.le_of_ble_eq_true rfl) (Nat.le_of_ble_eq_true rfl) (Nat.le_of_ble_eq_true rfl) dX2_init_20 (fun H hK1 hP hS => ?_)
  refine sc_put (k := 1) (fs := [.int 0, .ref (b + 2), .null, .null, .null, .null, .null, .null, .null]) (v := .ref (b + 3)) hx hb hts fc_X2_19 hown hin hK hP hS rfl (by decide) rfl rfl (Nat.le_of_ble_eq_true rfl) dX2_init_22 (fun H locs hP hS => ?_)
  refine lv_aload_n hx hb dX2_init_25 rfl (lv_at hl 0 rfl) ?_
  refine lv_bipush (v := 12) hx hb dX2_init_26 (by decide) ?_
  refine sc_newa (atype := .int) (cA := cA) (kd := 0) (n := 4) (a0 := (12, (.inl (fun _ => 0)))) hx hb hts wd_101 hcA.1 (fun U x h => h) hK hP hS hb0 (by omega) (fun _ => rfl) (by decide) (by decide) (Nat.le_of_ble_eq_true rfl) (Nat.le_of_ble_eq_true rfl) (Nat.le_of_ble_eq_true rfl) dX2_init_28 (fun H hK1 hP hS => ?_)
  refine sc_put (k := 1) (fs := [.int 0, .ref (b + 2), .ref (b + 3), .null, .null, .null, .null, .null, .null]) (v := .ref (b + 4)) hx hb hts fc_X2_22 hown hin hK hP hS rfl (by decide) rfl rfl (Nat.le_of_ble_eq_true rfl) dX2_init_30 (fun H locs hP hS => ?_)
  refine lv_aload_n hx hb dX2_init_33 rfl (lv_at hl 0 rfl) ?_
  refine lv_bipush (v := 12) hx hb dX2_init_34 (by decide) ?_
  refine sc_newa (atype := .int) (cA := cA) (kd := 0) (n := 5) (a0 := (12, (.inl (fun _ => 0)))) hx hb hts wd_101 hcA.1 (fun U x h => h) hK hP hS hb0 (by omega) (fun _ => rfl) (by decide) (by decide) (Nat.le_of_ble_eq_true rfl) (Nat.le_of_ble_eq_true rfl) (Nat.le_of_ble_eq_true rfl) dX2_init_36 (fun H hK1 hP hS => ?_)
  refine sc_put (k := 1) (fs := [.int 0, .ref (b + 2), .ref (b + 3), .ref (b + 4), .null, .null, .null, .null, .null]) (v := .ref (b + 5)) hx hb hts fc_X2_25 hown hin hK hP hS rfl (by decide) rfl rfl (Nat.le_of_ble_eq_true rfl) dX2_init_38 (fun H locs hP hS => ?_)
  refine lv_aload_n hx hb dX2_init_41 rfl (lv_at hl 0 rfl) ?_
  refine lv_bipush (v := 12) hx hb dX2_init_42 (by decide) ?_
  refine sc_newa (atype := .int) (cA := cA) (kd := 0) (n := 6) (a0 := (12, (.inl (fun _ => 0)))) hx hb hts wd_101 hcA.1 (fun U x h => h) hK hP hS hb0 (by omega) (fun _ => rfl) (by decide) (by decide) (Nat.le_of_ble_eq_true rfl) (Nat.le_of_ble_eq_true rfl) (Nat.le_of_ble_eq_true rfl) dX2_init_44 (fun H hK1 hP hS => ?_)
  refine sc_put (k := 1) (fs := [.int 0, .ref (b + 2), .ref (b + 3), .ref (b + 4), .ref (b + 5), .null, .null, .null, .null]) (v := .ref (b + 6)) hx hb hts fc_X2_28 hown hin hK hP hS rfl (by decide) rfl rfl (Nat.le_of_ble_eq_true rfl) dX2_init_46 (fun H locs hP hS => ?_)
  refine lv_aload_n hx hb dX2_init_49 rfl (lv_at hl 0 rfl) ?_
  refine lv_bipush (v := 12) hx hb dX2_init_50 (by decide) ?_
  refine sc_newa (atype := .int) (cA := cA) (kd := 0) (n := 7) (a0 := (12, (.inl (fun _ => 0)))) hx hb hts wd_101 hcA.1 (fun U x h => h) hK hP hS hb0 (by omega) (fun _ => rfl) (by decide) (by decide) (Nat.le_of_ble_eq_true rfl) (Nat.le_of_ble_eq_true rfl) (Nat.le_of_ble_eq_true rfl) dX2_init_52 (fun H hK1 hP hS => ?_)
  refine sc_put (k := 1) (fs := [.int 0, .ref (b + 2), .ref (b + 3), .ref (b + 4), .ref (b + 5), .ref (b + 6), .null, .null, .null]) (v := .ref (b + 7)) hx hb hts fc_X2_31 hown hin hK hP hS rfl (by decide) rfl rfl (Nat.le_of_ble_eq_true rfl) dX2_init_54 (fun H locs hP hS => ?_)
  refine lv_aload_n hx hb dX2_init_57 rfl (lv_at hl 0 rfl) ?_
  refine lv_bipush (v := 12) hx hb dX2_init_58 (by decide) ?_
  refine sc_newa (atype := .int) (cA := cA) (kd := 0) (n := 8) (a0 := (12, (.inl (fun _ => 0)))) hx hb hts wd_101 hcA.1 (fun U x h => h) hK hP hS hb0 (by omega) (fun _ => rfl) (by decide) (by decide) (Nat.le_of_ble_eq_true rfl) (Nat.le_of_ble_eq_true rfl) (Nat.le_of_ble_eq_true rfl) dX2_init_60 (fun H hK1 hP hS => ?_)
  refine sc_put (k := 1) (fs := [.int 0, .ref (b + 2), .ref (b + 3), .ref (b + 4), .ref (b + 5), .ref (b + 6), .ref (b + 7), .null, .null]) (v := .ref (b + 8)) hx hb hts fc_X2_34 hown hin hK hP hS rfl (by decide) rfl rfl (Nat.le_of_ble_eq_true rfl) dX2_init_62 (fun H locs hP hS => ?_)
  refine lv_aload_n hx hb dX2_init_65 rfl (lv_at hl 0 rfl) ?_
  refine lv_bipush (v := 12) hx hb dX2_init_66 (by decide) ?_
  refine sc_newa (atype := .int) (cA := cA) (kd := 0) (n := 9) (a0 := (12, (.inl (fun _ => 0)))) hx hb hts wd_101 hcA.1 (fun U x h => h) hK hP hS hb0 (by omega) (fun _ => rfl) (by decide) (by decide) (Nat.le_of_ble_eq_true rfl) (Nat.le_of_ble_eq_true rfl) (Nat.le_of_ble_eq_true rfl) dX2_init_68 (fun H hK1 hP hS => ?_)
  refine sc_put (k := 1) (fs := [.int 0, .ref (b + 2), .ref (b + 3), .ref (b + 4), .ref (b + 5), .ref (b + 6), .ref (b + 7), .ref (b + 8), .null]) (v := .ref (b + 9)) hx hb hts fc_X2_37 hown hin hK hP hS rfl (by decide) rfl rfl (Nat.le_of_ble_eq_true rfl) dX2_init_70 (fun H locs hP hS => ?_)
  exact W.vret hx hb hr (fun t ht hW => ⟨⟨(), rfl, trivial, by rw [ht]; exact hP, va_K.moved hW.alike hK_0⟩, hS.F ht⟩) hS.2.2 dX2_init_73
def sc_P_Store : sc_G := fun cA b F => sc_o F 10 3 [.null, .null, .null, .null, .null, .null, .null, .null, .null, .int 0]
def sc_fl (i : Nat) : Nat → Int32 := fun j => if j < i then -1 else 0
theorem sc_fl_0 : sc_fl 0 = fun _ => 0 := by funext j; simp [sc_fl]
theorem sc_fl_s (i : Nat) : upd (sc_fl i) i (-1) = sc_fl (i + 1) := by
  funext j
  unfold upd sc_fl
  by_cases h : j = i
  · subst h; simp
  · by_cases h2 : j < i
    · simp [h, h2, show j < i + 1 by omega]
    · simp [h, h2, show ¬ j < i + 1 by omega]
theorem sc_ws_congr {b n : Nat} {F G : Nat → va_E} (h : ∀ k, k < n → F k = G k) : sc_ws b n F = sc_ws b n G := by
  unfold sc_ws
  exact List.map_congr_left fun k hk => by rw [h k (List.mem_range.mp hk)]
def sc_up3 (cA : Nat → ClassId) (F : Nat → va_E) (i : Nat) : Nat → va_E := va_up (va_up (va_up F 11 (.inl (cA 0, (60, .inl (sc_fl i))))) 12 (.inl (cA 0, (60, .inl (sc_fl i))))) 17 (.inl (cA 0, (60, .inl (sc_fl i))))
def sc_H_Store : sc_G := fun cA b F => (sc_p (sc_p (sc_p (sc_r (sc_p (sc_r (sc_p (sc_r (sc_p (sc_r (sc_p (sc_r (sc_p (sc_r (sc_p (sc_r (sc_p (sc_r (sc_P_Store cA b F) 11 (.inl (cA 0, (60, (.inl (fun _ => 0)))))) 10 1 (.ref (b + 11))) 12 (.inl (cA 0, (60, (.inl (fun _ => 0)))))) 10 2 (.ref (b + 12))) 13 (.inl (cA 0, (60, (.inl (fun _ => 0)))))) 10 3 (.ref (b + 13))) 14 (.inl (cA 0, (180, (.inl (fun _ => 0)))))) 10 4 (.ref (b + 14))) 15 (.inl (cA 0, (180, (.inl (fun _ => 0)))))) 10 5 (.ref (b + 15))) 16 (.inl (cA 0, (3, (.inl (fun _ => 0)))))) 10 6 (.ref (b + 16))) 17 (.inl (cA 0, (60, (.inl (fun _ => 0)))))) 10 7 (.ref (b + 17))) 18 (.inl (cA 1, (60, (.inl (fun _ => 0)))))) 10 8 (.ref (b + 18))) 10 9 (.int 0)) 10 0 (.ref (b + 1)))
def sc_G_Store : sc_G := fun cA b F => sc_up3 cA (sc_H_Store cA b F) 60
set_option maxRecDepth 100000 in
set_option maxHeartbeats 8000000 in
theorem sc_Store_loop {p : Program} {l : Launch} {e : Env} {R : Room} {s : State} {m : MethodId} {args : Array Value} {below : List Frame} {meth : Method} {c : Code} {Q : State → Prop} {D : va_G} {cA : Nat → ClassId} {b : Nat} {F : Nat → va_E} {H0 : Heap} {cells slots : Nat}
    (hx : p.tables.exec = Jvm.exec) (hb : c.code = cX3_init) (hts : ∀ w ∈ sy_AL, w.before args s = true) (hown : s.vm.findClass RX3 = some m.cls) (hK : va_K D vwCl [] s) (hK_0 : va_K D vwCl [(cA 0, .int)] s)
    (kk : ∀ (H : Heap) (locs : List Loc) (ls : Array Slot), va_P D vwCl (sc_ws b 19 (sc_G_Store cA b F)) H → va_S (sy_ab b) H0 H locs → W p l e R s m args below meth c H locs cells slots Q (F0 m 114 ls [])) :
    ∀ (j i : Nat), i + j = 60 → ∀ (H : Heap) (locs : List Loc) (ls : Array Slot), va_P D vwCl (sc_ws b 19 (sc_up3 cA (sc_H_Store cA b F) i)) H → va_S (sy_ab b) H0 H locs → lv_has ls 3 [(2, .int (nI i)), (0, .ref (b + 10)), (1, .ref (b + 1))] → W p l e R s m args below meth c H locs cells slots Q (F0 m 81 ls []) := by
  intro j
  induction j with
  | zero =>
    intro i hi H locs ls hP hS hl
    have h60 : i = 60 := by omega
    subst h60
    refine lv_iload_n hx hb dX3_init_81 rfl (lv_at hl 0 rfl) ?_
    refine lv_bipush (v := 60) hx hb dX3_init_82 (by decide) ?_
    exact lv_icmp_ge (tgt := 114) hx hb dX3_init_84 (by decide) (fun _ => kk H locs ls hP hS) (fun h => absurd (by decide) h)
  | succ j ih =>
    intro i hi H locs ls hP hS hl
    have hi60 : i < 60 := by omega
    refine lv_iload_n hx hb dX3_init_81 rfl (lv_at hl 0 rfl) ?_
    refine lv_bipush (v := 60) hx hb dX3_init_82 (by decide) ?_
    refine lv_icmp_ge (tgt := 114) hx hb dX3_init_84 (by decide) (fun h => absurd h (nI_ge hi60 (by decide))) (fun _ => ?_)
    have hin : vp_in (nI i) 60 := vp_in_nI hi60 (by decide)
    have hcl : (nI i).toNatClampNeg = i := nI_clamp (by omega)
    refine lv_aload_n hx hb dX3_init_87 rfl (lv_at hl 1 rfl) ?_
    refine sc_get (k := 10) (fs := [.ref (b + 1), .ref (b + 11), .ref (b + 12), .ref (b + 13), .ref (b + 14), .ref (b + 15), .ref (b + 16), .ref (b + 17), .ref (b + 18), .int 0]) (v := .ref (b + 11)) hx hb hts fi_X3_9 hown hK hP rfl (by decide) rfl dX3_init_88 ?_
    refine lv_iload_n hx hb dX3_init_91 rfl (lv_at hl 0 rfl) ?_
    refine lv_iconst (v := (-1)) hx hb dX3_init_92 (by decide) ?_
    refine sc_iast (k := 11) (len := 60) (i := nI i) (x := (-1)) (f := sc_fl i) hx hb hK_0 hP hS rfl (by decide) hin dX3_init_93 (fun H locs hP hS => ?_)
    refine lv_aload_n hx hb dX3_init_94 rfl (lv_at hl 1 rfl) ?_
    refine sc_get (k := 10) (fs := [.ref (b + 1), .ref (b + 11), .ref (b + 12), .ref (b + 13), .ref (b + 14), .ref (b + 15), .ref (b + 16), .ref (b + 17), .ref (b + 18), .int 0]) (v := .ref (b + 12)) hx hb hts fi_X3_15 hown hK hP rfl (by decide) rfl dX3_init_95 ?_
    refine lv_iload_n hx hb dX3_init_98 rfl (lv_at hl 0 rfl) ?_
    refine lv_iconst (v := (-1)) hx hb dX3_init_99 (by decide) ?_
    refine sc_iast (k := 12) (len := 60) (i := nI i) (x := (-1)) (f := sc_fl i) hx hb hK_0 hP hS rfl (by decide) hin dX3_init_100 (fun H locs hP hS => ?_)
    refine lv_aload_n hx hb dX3_init_101 rfl (lv_at hl 1 rfl) ?_
    refine sc_get (k := 10) (fs := [.ref (b + 1), .ref (b + 11), .ref (b + 12), .ref (b + 13), .ref (b + 14), .ref (b + 15), .ref (b + 16), .ref (b + 17), .ref (b + 18), .int 0]) (v := .ref (b + 17)) hx hb hts fi_X3_30 hown hK hP rfl (by decide) rfl dX3_init_102 ?_
    refine lv_iload_n hx hb dX3_init_105 rfl (lv_at hl 0 rfl) ?_
    refine lv_iconst (v := (-1)) hx hb dX3_init_106 (by decide) ?_
    refine sc_iast (k := 17) (len := 60) (i := nI i) (x := (-1)) (f := sc_fl i) hx hb hK_0 hP hS rfl (by decide) hin dX3_init_107 (fun H locs hP hS => ?_)
    refine lv_iinc (v := nI (i + 1)) (lv' := [(2, .int (nI (i + 1))), (0, .ref (b + 10)), (1, .ref (b + 1))]) hx hb dX3_init_108 hl (k := 0) rfl (nI_1 i) (by decide) rfl (fun ls hl => ?_)
    refine lv_goto (tgt := 81) hx hb dX3_init_111 (by decide) ?_
    refine ih (i + 1) (by omega) H locs ls ?_ hS hl
    rw [hcl] at hP
    rw [show sc_ws b 19 (sc_up3 cA (sc_H_Store cA b F) (i + 1)) = sc_ws b 19 (sc_i (sc_i (sc_i (sc_up3 cA (sc_H_Store cA b F) i) 11 i (-1)) 12 i (-1)) 17 i (-1)) from sc_ws_congr fun k _ => ?_]
    · exact hP
    · by_cases h17 : k = 17
      · subst h17; simp [sc_i, sc_up3, va_up, sc_fl_s]
      · by_cases h12 : k = 12
        · subst h12; simp [sc_i, sc_up3, va_up, sc_fl_s]
        · by_cases h11 : k = 11
          · subst h11; simp [sc_i, sc_up3, va_up, sc_fl_s]
          · simp [sc_i, sc_up3, va_up, h11, h12, h17]
set_option maxRecDepth 100000 in
set_option maxHeartbeats 8000000 in
theorem sc_Store : sc_M yX3_init cX3_init 3 2 (fun b => [.ref (b + 10), .ref (b + 1)]) 11 19 663 (fun _ => True) (fun cA => []) sc_P_Store sc_G_Store (fun cA => [(cA 0, .int), (cA 1, .boolean)]) := by
  intro l D cA b F
  refine Met.ofW (cc := cX3_init) (maxL := 3) (ret := none) (by decide) rfl ?_
  intro p e s m args below meth c s₁ B hml hv
  obtain ⟨rfl, hsz, hP, hK, hcA, hpr⟩ := hv
  have hx := B.exec
  have hb := B.bytes
  have hr := B.returns
  have hts0 := atoms_spec (ws := Cond.code yX3_init cX3_init 3 none :: sy_AL) B.pre
  have hts : ∀ w ∈ sy_AL, w.before _ s = true := fun w hw => hts0 w (List.mem_cons_of_mem _ hw)
  have hown : s.vm.findClass RX3 = some m.cls := findClass_of_methodNamed B.named
  have hlocks := B.notSynchronized
  have hin : meth.name = "<init>" := (name_of_methodNamed B.named B.method).1
  have hb0 : b ≤ s.heap.size := by omega
  have hS : va_S (sy_ab b) s.heap s.heap [] := va_S.rf
  have hl := lv_entry ([.ref (b + 10), .ref (b + 1)]) (n := 3) (Nat.le_of_ble_eq_true rfl)
  rw [lg_entry_eq]
  generalize (lg_sl ([.ref (b + 10), .ref (b + 1)]) ++ List.replicate (3 - (lg_sl ([.ref (b + 10), .ref (b + 1)])).length) Slot.unset).toArray = ls at hl ⊢
  have hl : lv_has ls 3 [(0, .ref (b + 10)), (1, .ref (b + 1))] := hl
  refine lv_aload_n hx hb dX3_init_0 rfl (lv_at hl 0 rfl) ?_
  refine W.objInit hx hb hown (hts _ wd_107) (hts _ wd_65) (hts _ wd_66) rfl (by rw [hml]; exact hl.1) rfl dX3_init_1 (Nat.le_of_ble_eq_true rfl) (Nat.le_of_ble_eq_true rfl) ?_
  refine W.eq (g2 := F0 m 4 ls []) rfl ?_
  refine lv_aload_n hx hb dX3_init_4 rfl (lv_at hl 0 rfl) ?_
  refine lv_bipush (v := 60) hx hb dX3_init_5 (by decide) ?_
  refine sc_newa (atype := .int) (cA := cA) (kd := 0) (n := 11) (a0 := (60, (.inl (fun _ => 0)))) hx hb hts wd_101 hcA.1 (fun U x h => h) hK hP hS hb0 (by omega) (fun _ => rfl) (by decide) (by decide) (Nat.le_of_ble_eq_true rfl) (Nat.le_of_ble_eq_true rfl) (Nat.le_of_ble_eq_true rfl) dX3_init_7 (fun H hK1 hP hS => ?_)
  have hK_0 : va_K D vwCl [(cA 0, .int)] s := hK1
  refine sc_put (k := 10) (fs := [.null, .null, .null, .null, .null, .null, .null, .null, .null, .int 0]) (v := .ref (b + 11)) hx hb hts fc_X3_9 hown hin hK hP hS rfl (by decide) rfl rfl (Nat.le_of_ble_eq_true rfl) dX3_init_9 (fun H locs hP hS => ?_)
  refine lv_aload_n hx hb dX3_init_12 rfl (lv_at hl 0 rfl) ?_
  refine lv_bipush (v := 60) hx hb dX3_init_13 (by decide) ?_
  refine sc_newa (atype := .int) (cA := cA) (kd := 0) (n := 12) (a0 := (60, (.inl (fun _ => 0)))) hx hb hts wd_101 hcA.1 (fun U x h => h) hK hP hS hb0 (by omega) (fun _ => rfl) (by decide) (by decide) (Nat.le_of_ble_eq_true rfl) (Nat.le_of_ble_eq_true rfl) (Nat.le_of_ble_eq_true rfl) dX3_init_15 (fun H hK1 hP hS => ?_)
  refine sc_put (k := 10) (fs := [.null, .ref (b + 11), .null, .null, .null, .null, .null, .null, .null, .int 0]) (v := .ref (b + 12)) hx hb hts fc_X3_15 hown hin hK hP hS rfl (by decide) rfl rfl (Nat.le_of_ble_eq_true rfl) dX3_init_17 (fun H locs hP hS => ?_)
  refine lv_aload_n hx hb dX3_init_20 rfl (lv_at hl 0 rfl) ?_
  refine lv_bipush (v := 60) hx hb dX3_init_21 (by decide) ?_
  refine sc_newa (atype := .int) (cA := cA) (kd := 0) (n := 13) (a0 := (60, (.inl (fun _ => 0)))) hx hb hts wd_101 hcA.1 (fun U x h => h) hK hP hS hb0 (by omega) (fun _ => rfl) (by decide) (by decide) (Nat.le_of_ble_eq_true rfl) (Nat.le_of_ble_eq_true rfl) (Nat.le_of_ble_eq_true rfl) dX3_init_23 (fun H hK1 hP hS => ?_)
  refine sc_put (k := 10) (fs := [.null, .ref (b + 11), .ref (b + 12), .null, .null, .null, .null, .null, .null, .int 0]) (v := .ref (b + 13)) hx hb hts fc_X3_18 hown hin hK hP hS rfl (by decide) rfl rfl (Nat.le_of_ble_eq_true rfl) dX3_init_25 (fun H locs hP hS => ?_)
  refine lv_aload_n hx hb dX3_init_28 rfl (lv_at hl 0 rfl) ?_
  refine lv_sipush (v := 180) hx hb dX3_init_29 (by decide) ?_
  refine sc_newa (atype := .int) (cA := cA) (kd := 0) (n := 14) (a0 := (180, (.inl (fun _ => 0)))) hx hb hts wd_101 hcA.1 (fun U x h => h) hK hP hS hb0 (by omega) (fun _ => rfl) (by decide) (by decide) (Nat.le_of_ble_eq_true rfl) (Nat.le_of_ble_eq_true rfl) (Nat.le_of_ble_eq_true rfl) dX3_init_32 (fun H hK1 hP hS => ?_)
  refine sc_put (k := 10) (fs := [.null, .ref (b + 11), .ref (b + 12), .ref (b + 13), .null, .null, .null, .null, .null, .int 0]) (v := .ref (b + 14)) hx hb hts fc_X3_21 hown hin hK hP hS rfl (by decide) rfl rfl (Nat.le_of_ble_eq_true rfl) dX3_init_34 (fun H locs hP hS => ?_)
  refine lv_aload_n hx hb dX3_init_37 rfl (lv_at hl 0 rfl) ?_
  refine lv_sipush (v := 180) hx hb dX3_init_38 (by decide) ?_
  refine sc_newa (atype := .int) (cA := cA) (kd := 0) (n := 15) (a0 := (180, (.inl (fun _ => 0)))) hx hb hts wd_101 hcA.1 (fun U x h => h) hK hP hS hb0 (by omega) (fun _ => rfl) (by decide) (by decide) (Nat.le_of_ble_eq_true rfl) (Nat.le_of_ble_eq_true rfl) (Nat.le_of_ble_eq_true rfl) dX3_init_41 (fun H hK1 hP hS => ?_)
  refine sc_put (k := 10) (fs := [.null, .ref (b + 11), .ref (b + 12), .ref (b + 13), .ref (b + 14), .null, .null, .null, .null, .int 0]) (v := .ref (b + 15)) hx hb hts fc_X3_24 hown hin hK hP hS rfl (by decide) rfl rfl (Nat.le_of_ble_eq_true rfl) dX3_init_43 (fun H locs hP hS => ?_)
  refine lv_aload_n hx hb dX3_init_46 rfl (lv_at hl 0 rfl) ?_
  refine lv_iconst (v := 3) hx hb dX3_init_47 (by decide) ?_
  refine sc_newa (atype := .int) (cA := cA) (kd := 0) (n := 16) (a0 := (3, (.inl (fun _ => 0)))) hx hb hts wd_101 hcA.1 (fun U x h => h) hK hP hS hb0 (by omega) (fun _ => rfl) (by decide) (by decide) (Nat.le_of_ble_eq_true rfl) (Nat.le_of_ble_eq_true rfl) (Nat.le_of_ble_eq_true rfl) dX3_init_48 (fun H hK1 hP hS => ?_)
  refine sc_put (k := 10) (fs := [.null, .ref (b + 11), .ref (b + 12), .ref (b + 13), .ref (b + 14), .ref (b + 15), .null, .null, .null, .int 0]) (v := .ref (b + 16)) hx hb hts fc_X3_27 hown hin hK hP hS rfl (by decide) rfl rfl (Nat.le_of_ble_eq_true rfl) dX3_init_50 (fun H locs hP hS => ?_)
  refine lv_aload_n hx hb dX3_init_53 rfl (lv_at hl 0 rfl) ?_
  refine lv_bipush (v := 60) hx hb dX3_init_54 (by decide) ?_
  refine sc_newa (atype := .int) (cA := cA) (kd := 0) (n := 17) (a0 := (60, (.inl (fun _ => 0)))) hx hb hts wd_101 hcA.1 (fun U x h => h) hK hP hS hb0 (by omega) (fun _ => rfl) (by decide) (by decide) (Nat.le_of_ble_eq_true rfl) (Nat.le_of_ble_eq_true rfl) (Nat.le_of_ble_eq_true rfl) dX3_init_56 (fun H hK1 hP hS => ?_)
  refine sc_put (k := 10) (fs := [.null, .ref (b + 11), .ref (b + 12), .ref (b + 13), .ref (b + 14), .ref (b + 15), .ref (b + 16), .null, .null, .int 0]) (v := .ref (b + 17)) hx hb hts fc_X3_30 hown hin hK hP hS rfl (by decide) rfl rfl (Nat.le_of_ble_eq_true rfl) dX3_init_58 (fun H locs hP hS => ?_)
  refine lv_aload_n hx hb dX3_init_61 rfl (lv_at hl 0 rfl) ?_
  refine lv_bipush (v := 60) hx hb dX3_init_62 (by decide) ?_
  refine sc_newa (atype := .boolean) (cA := cA) (kd := 1) (n := 18) (a0 := (60, (.inl (fun _ => 0)))) hx hb hts wd_139 hcA.2.1 (fun U x h => h) hK hP hS hb0 (by omega) (fun _ => rfl) (by decide) (by decide) (Nat.le_of_ble_eq_true rfl) (Nat.le_of_ble_eq_true rfl) (Nat.le_of_ble_eq_true rfl) dX3_init_64 (fun H hK1 hP hS => ?_)
  have hK_1 : va_K D vwCl [(cA 1, .boolean)] s := hK1
  refine sc_put (k := 10) (fs := [.null, .ref (b + 11), .ref (b + 12), .ref (b + 13), .ref (b + 14), .ref (b + 15), .ref (b + 16), .ref (b + 17), .null, .int 0]) (v := .ref (b + 18)) hx hb hts fc_X3_33 hown hin hK hP hS rfl (by decide) rfl rfl (Nat.le_of_ble_eq_true rfl) dX3_init_66 (fun H locs hP hS => ?_)
  refine lv_aload_n hx hb dX3_init_69 rfl (lv_at hl 0 rfl) ?_
  refine lv_iconst (v := 0) hx hb dX3_init_70 (by decide) ?_
  refine sc_put (k := 10) (fs := [.null, .ref (b + 11), .ref (b + 12), .ref (b + 13), .ref (b + 14), .ref (b + 15), .ref (b + 16), .ref (b + 17), .ref (b + 18), .int 0]) (v := .int 0) hx hb hts fc_X3_37 hown hin hK hP hS rfl (by decide) rfl rfl (Nat.le_of_ble_eq_true rfl) dX3_init_71 (fun H locs hP hS => ?_)
  refine lv_aload_n hx hb dX3_init_74 rfl (lv_at hl 0 rfl) ?_
  refine lv_aload_n hx hb dX3_init_75 rfl (lv_at hl 1 rfl) ?_
  refine sc_put (k := 10) (fs := [.null, .ref (b + 11), .ref (b + 12), .ref (b + 13), .ref (b + 14), .ref (b + 15), .ref (b + 16), .ref (b + 17), .ref (b + 18), .int 0]) (v := .ref (b + 1)) hx hb hts fc_X3_41 hown hin hK hP hS rfl (by decide) rfl rfl (Nat.le_of_ble_eq_true rfl) dX3_init_76 (fun H locs hP hS => ?_)
  refine lv_iconst (v := 0) hx hb dX3_init_79 (by decide) ?_
  refine lv_istore_n (lv' := [(2, .int 0), (0, .ref (b + 10)), (1, .ref (b + 1))]) hx hb dX3_init_80 rfl hl (by decide) rfl (fun ls hl => ?_)
  have hP : va_P D vwCl (sc_ws b 19 (sc_H_Store cA b F)) H := hP
  refine sc_Store_loop (cA := cA) (b := b) (F := F) hx hb hts hown hK hK_0 (fun H locs ls hP hS => ?_) 60 0 rfl H locs ls ?_ hS hl
  · exact W.vret hx hb hr (fun t ht hW => ⟨⟨(), rfl, trivial, by rw [ht]; exact hP, va_K.moved hW.alike (hK_0.app hK_1)⟩, hS.F ht⟩) hS.2.2 dX3_init_114
  · rw [show sc_ws b 19 (sc_up3 cA (sc_H_Store cA b F) 0) = sc_ws b 19 (sc_H_Store cA b F) from sc_ws_congr fun k _ => ?_]
    · exact hP
    · unfold sc_up3
      rw [sc_fl_0]
      by_cases h17 : k = 17
      · subst h17; rfl
      · by_cases h12 : k = 12
        · subst h12; rfl
        · by_cases h11 : k = 11
          · subst h11; rfl
          · simp [va_up, h11, h12, h17]
def sc_P_Arguments : sc_G := fun cA b F => sc_o F 19 0 [.int 0, .null, .null, .null, .null, .null, .null, .null]
def sc_G_Arguments : sc_G := fun cA b F => (sc_p (sc_r (sc_p (sc_r (sc_p (sc_r (sc_p (sc_r (sc_p (sc_r (sc_p (sc_r (sc_p (sc_r (sc_p (sc_P_Arguments cA b F) 19 0 (.int 0)) 20 (.inl (cA 0, (4, (.inl (fun _ => 0)))))) 19 1 (.ref (b + 20))) 21 (.inl (cA 0, (4, (.inl (fun _ => 0)))))) 19 2 (.ref (b + 21))) 22 (.inl (cA 0, (4, (.inl (fun _ => 0)))))) 19 3 (.ref (b + 22))) 23 (.inl (cA 1, (12, (.inl (fun _ => 0)))))) 19 4 (.ref (b + 23))) 24 (.inl (cA 0, (12, (.inl (fun _ => 0)))))) 19 5 (.ref (b + 24))) 25 (.inl (cA 0, (12, (.inl (fun _ => 0)))))) 19 6 (.ref (b + 25))) 26 (.inl (cA 0, (12, (.inl (fun _ => 0)))))) 19 7 (.ref (b + 26)))
set_option maxRecDepth 100000 in
set_option maxHeartbeats 8000000 in
theorem sc_Arguments : sc_M yX0_init cX0_init 1 2 (fun b => [.ref (b + 19)]) 20 27 60 (fun _ => True) (fun cA => []) sc_P_Arguments sc_G_Arguments (fun cA => [(cA 0, .int), (cA 1, .boolean)]) := by
  intro l D cA b F
  refine Met.ofW (cc := cX0_init) (maxL := 1) (ret := none) (by decide) rfl ?_
  intro p e s m args below meth c s₁ B hml hv
  obtain ⟨rfl, hsz, hP, hK, hcA, hpr⟩ := hv
  have hx := B.exec
  have hb := B.bytes
  have hr := B.returns
  have hts0 := atoms_spec (ws := Cond.code yX0_init cX0_init 1 none :: sy_AL) B.pre
  have hts : ∀ w ∈ sy_AL, w.before _ s = true := fun w hw => hts0 w (List.mem_cons_of_mem _ hw)
  have hown : s.vm.findClass RX0 = some m.cls := findClass_of_methodNamed B.named
  have hlocks := B.notSynchronized
  have hin : meth.name = "<init>" := (name_of_methodNamed B.named B.method).1
  have hb0 : b ≤ s.heap.size := by omega
  have hS : va_S (sy_ab b) s.heap s.heap [] := va_S.rf
  have hl := lv_entry ([.ref (b + 19)]) (n := 1) (Nat.le_of_ble_eq_true rfl)
  rw [lg_entry_eq]
  generalize (lg_sl ([.ref (b + 19)]) ++ List.replicate (1 - (lg_sl ([.ref (b + 19)])).length) Slot.unset).toArray = ls at hl ⊢
  have hl : lv_has ls 1 [(0, .ref (b + 19))] := hl
  refine lv_aload_n hx hb dX0_init_0 rfl (lv_at hl 0 rfl) ?_
  refine W.objInit hx hb hown (hts _ wd_145) (hts _ wd_65) (hts _ wd_66) rfl (by rw [hml]; exact hl.1) rfl dX0_init_1 (Nat.le_of_ble_eq_true rfl) (Nat.le_of_ble_eq_true rfl) ?_
  refine W.eq (g2 := F0 m 4 ls []) rfl ?_
  refine lv_aload_n hx hb dX0_init_4 rfl (lv_at hl 0 rfl) ?_
  refine lv_iconst (v := 0) hx hb dX0_init_5 (by decide) ?_
  refine sc_put (k := 19) (fs := [.int 0, .null, .null, .null, .null, .null, .null, .null]) (v := .int 0) hx hb hts fc_X0_9 hown hin hK hP hS rfl (by decide) rfl rfl (Nat.le_of_ble_eq_true rfl) dX0_init_6 (fun H locs hP hS => ?_)
  refine lv_aload_n hx hb dX0_init_9 rfl (lv_at hl 0 rfl) ?_
  refine lv_iconst (v := 4) hx hb dX0_init_10 (by decide) ?_
  refine sc_newa (atype := .int) (cA := cA) (kd := 0) (n := 20) (a0 := (4, (.inl (fun _ => 0)))) hx hb hts wd_101 hcA.1 (fun U x h => h) hK hP hS hb0 (by omega) (fun _ => rfl) (by decide) (by decide) (Nat.le_of_ble_eq_true rfl) (Nat.le_of_ble_eq_true rfl) (Nat.le_of_ble_eq_true rfl) dX0_init_11 (fun H hK1 hP hS => ?_)
  have hK_0 : va_K D vwCl [(cA 0, .int)] s := hK1
  refine sc_put (k := 19) (fs := [.int 0, .null, .null, .null, .null, .null, .null, .null]) (v := .ref (b + 20)) hx hb hts fc_X0_15 hown hin hK hP hS rfl (by decide) rfl rfl (Nat.le_of_ble_eq_true rfl) dX0_init_13 (fun H locs hP hS => ?_)
  refine lv_aload_n hx hb dX0_init_16 rfl (lv_at hl 0 rfl) ?_
  refine lv_iconst (v := 4) hx hb dX0_init_17 (by decide) ?_
  refine sc_newa (atype := .int) (cA := cA) (kd := 0) (n := 21) (a0 := (4, (.inl (fun _ => 0)))) hx hb hts wd_101 hcA.1 (fun U x h => h) hK hP hS hb0 (by omega) (fun _ => rfl) (by decide) (by decide) (Nat.le_of_ble_eq_true rfl) (Nat.le_of_ble_eq_true rfl) (Nat.le_of_ble_eq_true rfl) dX0_init_18 (fun H hK1 hP hS => ?_)
  refine sc_put (k := 19) (fs := [.int 0, .ref (b + 20), .null, .null, .null, .null, .null, .null]) (v := .ref (b + 21)) hx hb hts fc_X0_19 hown hin hK hP hS rfl (by decide) rfl rfl (Nat.le_of_ble_eq_true rfl) dX0_init_20 (fun H locs hP hS => ?_)
  refine lv_aload_n hx hb dX0_init_23 rfl (lv_at hl 0 rfl) ?_
  refine lv_iconst (v := 4) hx hb dX0_init_24 (by decide) ?_
  refine sc_newa (atype := .int) (cA := cA) (kd := 0) (n := 22) (a0 := (4, (.inl (fun _ => 0)))) hx hb hts wd_101 hcA.1 (fun U x h => h) hK hP hS hb0 (by omega) (fun _ => rfl) (by decide) (by decide) (Nat.le_of_ble_eq_true rfl) (Nat.le_of_ble_eq_true rfl) (Nat.le_of_ble_eq_true rfl) dX0_init_25 (fun H hK1 hP hS => ?_)
  refine sc_put (k := 19) (fs := [.int 0, .ref (b + 20), .ref (b + 21), .null, .null, .null, .null, .null]) (v := .ref (b + 22)) hx hb hts fc_X0_22 hown hin hK hP hS rfl (by decide) rfl rfl (Nat.le_of_ble_eq_true rfl) dX0_init_27 (fun H locs hP hS => ?_)
  refine lv_aload_n hx hb dX0_init_30 rfl (lv_at hl 0 rfl) ?_
  refine lv_bipush (v := 12) hx hb dX0_init_31 (by decide) ?_
  refine sc_newa (atype := .boolean) (cA := cA) (kd := 1) (n := 23) (a0 := (12, (.inl (fun _ => 0)))) hx hb hts wd_139 hcA.2.1 (fun U x h => h) hK hP hS hb0 (by omega) (fun _ => rfl) (by decide) (by decide) (Nat.le_of_ble_eq_true rfl) (Nat.le_of_ble_eq_true rfl) (Nat.le_of_ble_eq_true rfl) dX0_init_33 (fun H hK1 hP hS => ?_)
  have hK_1 : va_K D vwCl [(cA 1, .boolean)] s := hK1
  refine sc_put (k := 19) (fs := [.int 0, .ref (b + 20), .ref (b + 21), .ref (b + 22), .null, .null, .null, .null]) (v := .ref (b + 23)) hx hb hts fc_X0_25 hown hin hK hP hS rfl (by decide) rfl rfl (Nat.le_of_ble_eq_true rfl) dX0_init_35 (fun H locs hP hS => ?_)
  refine lv_aload_n hx hb dX0_init_38 rfl (lv_at hl 0 rfl) ?_
  refine lv_bipush (v := 12) hx hb dX0_init_39 (by decide) ?_
  refine sc_newa (atype := .int) (cA := cA) (kd := 0) (n := 24) (a0 := (12, (.inl (fun _ => 0)))) hx hb hts wd_101 hcA.1 (fun U x h => h) hK hP hS hb0 (by omega) (fun _ => rfl) (by decide) (by decide) (Nat.le_of_ble_eq_true rfl) (Nat.le_of_ble_eq_true rfl) (Nat.le_of_ble_eq_true rfl) dX0_init_41 (fun H hK1 hP hS => ?_)
  refine sc_put (k := 19) (fs := [.int 0, .ref (b + 20), .ref (b + 21), .ref (b + 22), .ref (b + 23), .null, .null, .null]) (v := .ref (b + 24)) hx hb hts fc_X0_29 hown hin hK hP hS rfl (by decide) rfl rfl (Nat.le_of_ble_eq_true rfl) dX0_init_43 (fun H locs hP hS => ?_)
  refine lv_aload_n hx hb dX0_init_46 rfl (lv_at hl 0 rfl) ?_
  refine lv_bipush (v := 12) hx hb dX0_init_47 (by decide) ?_
  refine sc_newa (atype := .int) (cA := cA) (kd := 0) (n := 25) (a0 := (12, (.inl (fun _ => 0)))) hx hb hts wd_101 hcA.1 (fun U x h => h) hK hP hS hb0 (by omega) (fun _ => rfl) (by decide) (by decide) (Nat.le_of_ble_eq_true rfl) (Nat.le_of_ble_eq_true rfl) (Nat.le_of_ble_eq_true rfl) dX0_init_49 (fun H hK1 hP hS => ?_)
  refine sc_put (k := 19) (fs := [.int 0, .ref (b + 20), .ref (b + 21), .ref (b + 22), .ref (b + 23), .ref (b + 24), .null, .null]) (v := .ref (b + 25)) hx hb hts fc_X0_32 hown hin hK hP hS rfl (by decide) rfl rfl (Nat.le_of_ble_eq_true rfl) dX0_init_51 (fun H locs hP hS => ?_)
  refine lv_aload_n hx hb dX0_init_54 rfl (lv_at hl 0 rfl) ?_
  refine lv_bipush (v := 12) hx hb dX0_init_55 (by decide) ?_
  refine sc_newa (atype := .int) (cA := cA) (kd := 0) (n := 26) (a0 := (12, (.inl (fun _ => 0)))) hx hb hts wd_101 hcA.1 (fun U x h => h) hK hP hS hb0 (by omega) (fun _ => rfl) (by decide) (by decide) (Nat.le_of_ble_eq_true rfl) (Nat.le_of_ble_eq_true rfl) (Nat.le_of_ble_eq_true rfl) dX0_init_57 (fun H hK1 hP hS => ?_)
  refine sc_put (k := 19) (fs := [.int 0, .ref (b + 20), .ref (b + 21), .ref (b + 22), .ref (b + 23), .ref (b + 24), .ref (b + 25), .null]) (v := .ref (b + 26)) hx hb hts fc_X0_35 hown hin hK hP hS rfl (by decide) rfl rfl (Nat.le_of_ble_eq_true rfl) dX0_init_59 (fun H locs hP hS => ?_)
  exact W.vret hx hb hr (fun t ht hW => ⟨⟨(), rfl, trivial, by rw [ht]; exact hP, va_K.moved hW.alike (hK_0.app hK_1)⟩, hS.F ht⟩) hS.2.2 dX0_init_62
def sc_P_Needs : sc_G := fun cA b F => sc_o F 27 1 [.int 0, .int 0, .null, .null]
def sc_G_Needs : sc_G := fun cA b F => (sc_p (sc_r (sc_p (sc_r (sc_p (sc_p (sc_P_Needs cA b F) 27 0 (.int 0)) 27 1 (.int 0)) 28 (.inl (cA 0, (4, (.inl (fun _ => 0)))))) 27 2 (.ref (b + 28))) 29 (.inl (cA 0, (4, (.inl (fun _ => 0)))))) 27 3 (.ref (b + 29)))
set_option maxRecDepth 100000 in
set_option maxHeartbeats 8000000 in
theorem sc_Needs : sc_M yX1_init cX1_init 1 2 (fun b => [.ref (b + 27)]) 28 30 8 (fun _ => True) (fun cA => []) sc_P_Needs sc_G_Needs (fun cA => [(cA 0, .int)]) := by
  intro l D cA b F
  refine Met.ofW (cc := cX1_init) (maxL := 1) (ret := none) (by decide) rfl ?_
  intro p e s m args below meth c s₁ B hml hv
  obtain ⟨rfl, hsz, hP, hK, hcA, hpr⟩ := hv
  have hx := B.exec
  have hb := B.bytes
  have hr := B.returns
  have hts0 := atoms_spec (ws := Cond.code yX1_init cX1_init 1 none :: sy_AL) B.pre
  have hts : ∀ w ∈ sy_AL, w.before _ s = true := fun w hw => hts0 w (List.mem_cons_of_mem _ hw)
  have hown : s.vm.findClass RX1 = some m.cls := findClass_of_methodNamed B.named
  have hlocks := B.notSynchronized
  have hin : meth.name = "<init>" := (name_of_methodNamed B.named B.method).1
  have hb0 : b ≤ s.heap.size := by omega
  have hS : va_S (sy_ab b) s.heap s.heap [] := va_S.rf
  have hl := lv_entry ([.ref (b + 27)]) (n := 1) (Nat.le_of_ble_eq_true rfl)
  rw [lg_entry_eq]
  generalize (lg_sl ([.ref (b + 27)]) ++ List.replicate (1 - (lg_sl ([.ref (b + 27)])).length) Slot.unset).toArray = ls at hl ⊢
  have hl : lv_has ls 1 [(0, .ref (b + 27))] := hl
  refine lv_aload_n hx hb dX1_init_0 rfl (lv_at hl 0 rfl) ?_
  refine W.objInit hx hb hown (hts _ wd_176) (hts _ wd_65) (hts _ wd_66) rfl (by rw [hml]; exact hl.1) rfl dX1_init_1 (Nat.le_of_ble_eq_true rfl) (Nat.le_of_ble_eq_true rfl) ?_
  refine W.eq (g2 := F0 m 4 ls []) rfl ?_
  refine lv_aload_n hx hb dX1_init_4 rfl (lv_at hl 0 rfl) ?_
  refine lv_iconst (v := 0) hx hb dX1_init_5 (by decide) ?_
  refine sc_put (k := 27) (fs := [.int 0, .int 0, .null, .null]) (v := .int 0) hx hb hts fc_X1_9 hown hin hK hP hS rfl (by decide) rfl rfl (Nat.le_of_ble_eq_true rfl) dX1_init_6 (fun H locs hP hS => ?_)
  refine lv_aload_n hx hb dX1_init_9 rfl (lv_at hl 0 rfl) ?_
  refine lv_iconst (v := 0) hx hb dX1_init_10 (by decide) ?_
  refine sc_put (k := 27) (fs := [.int 0, .int 0, .null, .null]) (v := .int 0) hx hb hts fc_X1_15 hown hin hK hP hS rfl (by decide) rfl rfl (Nat.le_of_ble_eq_true rfl) dX1_init_11 (fun H locs hP hS => ?_)
  refine lv_aload_n hx hb dX1_init_14 rfl (lv_at hl 0 rfl) ?_
  refine lv_iconst (v := 4) hx hb dX1_init_15 (by decide) ?_
  refine sc_newa (atype := .int) (cA := cA) (kd := 0) (n := 28) (a0 := (4, (.inl (fun _ => 0)))) hx hb hts wd_101 hcA.1 (fun U x h => h) hK hP hS hb0 (by omega) (fun _ => rfl) (by decide) (by decide) (Nat.le_of_ble_eq_true rfl) (Nat.le_of_ble_eq_true rfl) (Nat.le_of_ble_eq_true rfl) dX1_init_16 (fun H hK1 hP hS => ?_)
  have hK_0 : va_K D vwCl [(cA 0, .int)] s := hK1
  refine sc_put (k := 27) (fs := [.int 0, .int 0, .null, .null]) (v := .ref (b + 28)) hx hb hts fc_X1_19 hown hin hK hP hS rfl (by decide) rfl rfl (Nat.le_of_ble_eq_true rfl) dX1_init_18 (fun H locs hP hS => ?_)
  refine lv_aload_n hx hb dX1_init_21 rfl (lv_at hl 0 rfl) ?_
  refine lv_iconst (v := 4) hx hb dX1_init_22 (by decide) ?_
  refine sc_newa (atype := .int) (cA := cA) (kd := 0) (n := 29) (a0 := (4, (.inl (fun _ => 0)))) hx hb hts wd_101 hcA.1 (fun U x h => h) hK hP hS hb0 (by omega) (fun _ => rfl) (by decide) (by decide) (Nat.le_of_ble_eq_true rfl) (Nat.le_of_ble_eq_true rfl) (Nat.le_of_ble_eq_true rfl) dX1_init_23 (fun H hK1 hP hS => ?_)
  refine sc_put (k := 27) (fs := [.int 0, .int 0, .ref (b + 28), .null]) (v := .ref (b + 29)) hx hb hts fc_X1_23 hown hin hK hP hS rfl (by decide) rfl rfl (Nat.le_of_ble_eq_true rfl) dX1_init_25 (fun H locs hP hS => ?_)
  exact W.vret hx hb hr (fun t ht hW => ⟨⟨(), rfl, trivial, by rw [ht]; exact hP, va_K.moved hW.alike hK_0⟩, hS.F ht⟩) hS.2.2 dX1_init_28
def sc_P_View0 : sc_G := fun cA b F => sc_o F 32 4 [.int 0, .int 0, .int 0, .int 0, .int 0, .int 0, .int 0, .null, .null]
def sc_G_View0 : sc_G := fun cA b F => (sc_p (sc_r (sc_p (sc_r (sc_p (sc_p (sc_p (sc_p (sc_p (sc_p (sc_p (sc_P_View0 cA b F) 32 0 (.int 0)) 32 1 (.int 0)) 32 2 (.int (-1))) 32 3 (.int 0)) 32 4 (.int 0)) 32 5 (.int (-1))) 32 6 (.int 0)) 33 (.inl (cA 0, (4, (.inl (fun _ => 0)))))) 32 7 (.ref (b + 33))) 34 (.inl (cA 1, (4, (.inl (fun _ => 0)))))) 32 8 (.ref (b + 34)))
set_option maxRecDepth 100000 in
set_option maxHeartbeats 8000000 in
theorem sc_View0 : sc_M yX4_init cX4_init 1 2 (fun b => [.ref (b + 32)]) 33 35 8 (fun _ => True) (fun cA => []) sc_P_View0 sc_G_View0 (fun cA => [(cA 0, .int), (cA 1, .boolean)]) := by
  intro l D cA b F
  refine Met.ofW (cc := cX4_init) (maxL := 1) (ret := none) (by decide) rfl ?_
  intro p e s m args below meth c s₁ B hml hv
  obtain ⟨rfl, hsz, hP, hK, hcA, hpr⟩ := hv
  have hx := B.exec
  have hb := B.bytes
  have hr := B.returns
  have hts0 := atoms_spec (ws := Cond.code yX4_init cX4_init 1 none :: sy_AL) B.pre
  have hts : ∀ w ∈ sy_AL, w.before _ s = true := fun w hw => hts0 w (List.mem_cons_of_mem _ hw)
  have hown : s.vm.findClass RX4 = some m.cls := findClass_of_methodNamed B.named
  have hlocks := B.notSynchronized
  have hin : meth.name = "<init>" := (name_of_methodNamed B.named B.method).1
  have hb0 : b ≤ s.heap.size := by omega
  have hS : va_S (sy_ab b) s.heap s.heap [] := va_S.rf
  have hl := lv_entry ([.ref (b + 32)]) (n := 1) (Nat.le_of_ble_eq_true rfl)
  rw [lg_entry_eq]
  generalize (lg_sl ([.ref (b + 32)]) ++ List.replicate (1 - (lg_sl ([.ref (b + 32)])).length) Slot.unset).toArray = ls at hl ⊢
  have hl : lv_has ls 1 [(0, .ref (b + 32))] := hl
  refine lv_aload_n hx hb dX4_init_0 rfl (lv_at hl 0 rfl) ?_
  refine W.objInit hx hb hown (hts _ wd_196) (hts _ wd_65) (hts _ wd_66) rfl (by rw [hml]; exact hl.1) rfl dX4_init_1 (Nat.le_of_ble_eq_true rfl) (Nat.le_of_ble_eq_true rfl) ?_
  refine W.eq (g2 := F0 m 4 ls []) rfl ?_
  refine lv_aload_n hx hb dX4_init_4 rfl (lv_at hl 0 rfl) ?_
  refine lv_iconst (v := 0) hx hb dX4_init_5 (by decide) ?_
  refine sc_put (k := 32) (fs := [.int 0, .int 0, .int 0, .int 0, .int 0, .int 0, .int 0, .null, .null]) (v := .int 0) hx hb hts fc_X4_9 hown hin hK hP hS rfl (by decide) rfl rfl (Nat.le_of_ble_eq_true rfl) dX4_init_6 (fun H locs hP hS => ?_)
  refine lv_aload_n hx hb dX4_init_9 rfl (lv_at hl 0 rfl) ?_
  refine lv_iconst (v := 0) hx hb dX4_init_10 (by decide) ?_
  refine sc_put (k := 32) (fs := [.int 0, .int 0, .int 0, .int 0, .int 0, .int 0, .int 0, .null, .null]) (v := .int 0) hx hb hts fc_X4_15 hown hin hK hP hS rfl (by decide) rfl rfl (Nat.le_of_ble_eq_true rfl) dX4_init_11 (fun H locs hP hS => ?_)
  refine lv_aload_n hx hb dX4_init_14 rfl (lv_at hl 0 rfl) ?_
  refine lv_iconst (v := (-1)) hx hb dX4_init_15 (by decide) ?_
  refine sc_put (k := 32) (fs := [.int 0, .int 0, .int 0, .int 0, .int 0, .int 0, .int 0, .null, .null]) (v := .int (-1)) hx hb hts fc_X4_18 hown hin hK hP hS rfl (by decide) rfl rfl (Nat.le_of_ble_eq_true rfl) dX4_init_16 (fun H locs hP hS => ?_)
  refine lv_aload_n hx hb dX4_init_19 rfl (lv_at hl 0 rfl) ?_
  refine lv_iconst (v := 0) hx hb dX4_init_20 (by decide) ?_
  refine sc_put (k := 32) (fs := [.int 0, .int 0, .int (-1), .int 0, .int 0, .int 0, .int 0, .null, .null]) (v := .int 0) hx hb hts fc_X4_21 hown hin hK hP hS rfl (by decide) rfl rfl (Nat.le_of_ble_eq_true rfl) dX4_init_21 (fun H locs hP hS => ?_)
  refine lv_aload_n hx hb dX4_init_24 rfl (lv_at hl 0 rfl) ?_
  refine lv_iconst (v := 0) hx hb dX4_init_25 (by decide) ?_
  refine sc_put (k := 32) (fs := [.int 0, .int 0, .int (-1), .int 0, .int 0, .int 0, .int 0, .null, .null]) (v := .int 0) hx hb hts fc_X4_25 hown hin hK hP hS rfl (by decide) rfl rfl (Nat.le_of_ble_eq_true rfl) dX4_init_26 (fun H locs hP hS => ?_)
  refine lv_aload_n hx hb dX4_init_29 rfl (lv_at hl 0 rfl) ?_
  refine lv_iconst (v := (-1)) hx hb dX4_init_30 (by decide) ?_
  refine sc_put (k := 32) (fs := [.int 0, .int 0, .int (-1), .int 0, .int 0, .int 0, .int 0, .null, .null]) (v := .int (-1)) hx hb hts fc_X4_28 hown hin hK hP hS rfl (by decide) rfl rfl (Nat.le_of_ble_eq_true rfl) dX4_init_31 (fun H locs hP hS => ?_)
  refine lv_aload_n hx hb dX4_init_34 rfl (lv_at hl 0 rfl) ?_
  refine lv_iconst (v := 0) hx hb dX4_init_35 (by decide) ?_
  refine sc_put (k := 32) (fs := [.int 0, .int 0, .int (-1), .int 0, .int 0, .int (-1), .int 0, .null, .null]) (v := .int 0) hx hb hts fc_X4_31 hown hin hK hP hS rfl (by decide) rfl rfl (Nat.le_of_ble_eq_true rfl) dX4_init_36 (fun H locs hP hS => ?_)
  refine lv_aload_n hx hb dX4_init_39 rfl (lv_at hl 0 rfl) ?_
  refine lv_iconst (v := 4) hx hb dX4_init_40 (by decide) ?_
  refine sc_newa (atype := .int) (cA := cA) (kd := 0) (n := 33) (a0 := (4, (.inl (fun _ => 0)))) hx hb hts wd_101 hcA.1 (fun U x h => h) hK hP hS hb0 (by omega) (fun _ => rfl) (by decide) (by decide) (Nat.le_of_ble_eq_true rfl) (Nat.le_of_ble_eq_true rfl) (Nat.le_of_ble_eq_true rfl) dX4_init_41 (fun H hK1 hP hS => ?_)
  have hK_0 : va_K D vwCl [(cA 0, .int)] s := hK1
  refine sc_put (k := 32) (fs := [.int 0, .int 0, .int (-1), .int 0, .int 0, .int (-1), .int 0, .null, .null]) (v := .ref (b + 33)) hx hb hts fc_X4_34 hown hin hK hP hS rfl (by decide) rfl rfl (Nat.le_of_ble_eq_true rfl) dX4_init_43 (fun H locs hP hS => ?_)
  refine lv_aload_n hx hb dX4_init_46 rfl (lv_at hl 0 rfl) ?_
  refine lv_iconst (v := 4) hx hb dX4_init_47 (by decide) ?_
  refine sc_newa (atype := .boolean) (cA := cA) (kd := 1) (n := 34) (a0 := (4, (.inl (fun _ => 0)))) hx hb hts wd_139 hcA.2.1 (fun U x h => h) hK hP hS hb0 (by omega) (fun _ => rfl) (by decide) (by decide) (Nat.le_of_ble_eq_true rfl) (Nat.le_of_ble_eq_true rfl) (Nat.le_of_ble_eq_true rfl) dX4_init_48 (fun H hK1 hP hS => ?_)
  have hK_1 : va_K D vwCl [(cA 1, .boolean)] s := hK1
  refine sc_put (k := 32) (fs := [.int 0, .int 0, .int (-1), .int 0, .int 0, .int (-1), .int 0, .ref (b + 33), .null]) (v := .ref (b + 34)) hx hb hts fc_X4_38 hown hin hK hP hS rfl (by decide) rfl rfl (Nat.le_of_ble_eq_true rfl) dX4_init_50 (fun H locs hP hS => ?_)
  exact W.vret hx hb hr (fun t ht hW => ⟨⟨(), rfl, trivial, by rw [ht]; exact hP, va_K.moved hW.alike (hK_0.app hK_1)⟩, hS.F ht⟩) hS.2.2 dX4_init_53
def sc_P_View1 : sc_G := fun cA b F => sc_o F 35 4 [.int 0, .int 0, .int 0, .int 0, .int 0, .int 0, .int 0, .null, .null]
def sc_G_View1 : sc_G := fun cA b F => (sc_p (sc_r (sc_p (sc_r (sc_p (sc_p (sc_p (sc_p (sc_p (sc_p (sc_p (sc_P_View1 cA b F) 35 0 (.int 0)) 35 1 (.int 0)) 35 2 (.int (-1))) 35 3 (.int 0)) 35 4 (.int 0)) 35 5 (.int (-1))) 35 6 (.int 0)) 36 (.inl (cA 0, (4, (.inl (fun _ => 0)))))) 35 7 (.ref (b + 36))) 37 (.inl (cA 1, (4, (.inl (fun _ => 0)))))) 35 8 (.ref (b + 37)))
set_option maxRecDepth 100000 in
set_option maxHeartbeats 8000000 in
theorem sc_View1 : sc_M yX4_init cX4_init 1 2 (fun b => [.ref (b + 35)]) 36 38 8 (fun _ => True) (fun cA => []) sc_P_View1 sc_G_View1 (fun cA => [(cA 0, .int), (cA 1, .boolean)]) := by
  intro l D cA b F
  refine Met.ofW (cc := cX4_init) (maxL := 1) (ret := none) (by decide) rfl ?_
  intro p e s m args below meth c s₁ B hml hv
  obtain ⟨rfl, hsz, hP, hK, hcA, hpr⟩ := hv
  have hx := B.exec
  have hb := B.bytes
  have hr := B.returns
  have hts0 := atoms_spec (ws := Cond.code yX4_init cX4_init 1 none :: sy_AL) B.pre
  have hts : ∀ w ∈ sy_AL, w.before _ s = true := fun w hw => hts0 w (List.mem_cons_of_mem _ hw)
  have hown : s.vm.findClass RX4 = some m.cls := findClass_of_methodNamed B.named
  have hlocks := B.notSynchronized
  have hin : meth.name = "<init>" := (name_of_methodNamed B.named B.method).1
  have hb0 : b ≤ s.heap.size := by omega
  have hS : va_S (sy_ab b) s.heap s.heap [] := va_S.rf
  have hl := lv_entry ([.ref (b + 35)]) (n := 1) (Nat.le_of_ble_eq_true rfl)
  rw [lg_entry_eq]
  generalize (lg_sl ([.ref (b + 35)]) ++ List.replicate (1 - (lg_sl ([.ref (b + 35)])).length) Slot.unset).toArray = ls at hl ⊢
  have hl : lv_has ls 1 [(0, .ref (b + 35))] := hl
  refine lv_aload_n hx hb dX4_init_0 rfl (lv_at hl 0 rfl) ?_
  refine W.objInit hx hb hown (hts _ wd_196) (hts _ wd_65) (hts _ wd_66) rfl (by rw [hml]; exact hl.1) rfl dX4_init_1 (Nat.le_of_ble_eq_true rfl) (Nat.le_of_ble_eq_true rfl) ?_
  refine W.eq (g2 := F0 m 4 ls []) rfl ?_
  refine lv_aload_n hx hb dX4_init_4 rfl (lv_at hl 0 rfl) ?_
  refine lv_iconst (v := 0) hx hb dX4_init_5 (by decide) ?_
  refine sc_put (k := 35) (fs := [.int 0, .int 0, .int 0, .int 0, .int 0, .int 0, .int 0, .null, .null]) (v := .int 0) hx hb hts fc_X4_9 hown hin hK hP hS rfl (by decide) rfl rfl (Nat.le_of_ble_eq_true rfl) dX4_init_6 (fun H locs hP hS => ?_)
  refine lv_aload_n hx hb dX4_init_9 rfl (lv_at hl 0 rfl) ?_
  refine lv_iconst (v := 0) hx hb dX4_init_10 (by decide) ?_
  refine sc_put (k := 35) (fs := [.int 0, .int 0, .int 0, .int 0, .int 0, .int 0, .int 0, .null, .null]) (v := .int 0) hx hb hts fc_X4_15 hown hin hK hP hS rfl (by decide) rfl rfl (Nat.le_of_ble_eq_true rfl) dX4_init_11 (fun H locs hP hS => ?_)
  refine lv_aload_n hx hb dX4_init_14 rfl (lv_at hl 0 rfl) ?_
  refine lv_iconst (v := (-1)) hx hb dX4_init_15 (by decide) ?_
  refine sc_put (k := 35) (fs := [.int 0, .int 0, .int 0, .int 0, .int 0, .int 0, .int 0, .null, .null]) (v := .int (-1)) hx hb hts fc_X4_18 hown hin hK hP hS rfl (by decide) rfl rfl (Nat.le_of_ble_eq_true rfl) dX4_init_16 (fun H locs hP hS => ?_)
  refine lv_aload_n hx hb dX4_init_19 rfl (lv_at hl 0 rfl) ?_
  refine lv_iconst (v := 0) hx hb dX4_init_20 (by decide) ?_
  refine sc_put (k := 35) (fs := [.int 0, .int 0, .int (-1), .int 0, .int 0, .int 0, .int 0, .null, .null]) (v := .int 0) hx hb hts fc_X4_21 hown hin hK hP hS rfl (by decide) rfl rfl (Nat.le_of_ble_eq_true rfl) dX4_init_21 (fun H locs hP hS => ?_)
  refine lv_aload_n hx hb dX4_init_24 rfl (lv_at hl 0 rfl) ?_
  refine lv_iconst (v := 0) hx hb dX4_init_25 (by decide) ?_
  refine sc_put (k := 35) (fs := [.int 0, .int 0, .int (-1), .int 0, .int 0, .int 0, .int 0, .null, .null]) (v := .int 0) hx hb hts fc_X4_25 hown hin hK hP hS rfl (by decide) rfl rfl (Nat.le_of_ble_eq_true rfl) dX4_init_26 (fun H locs hP hS => ?_)
  refine lv_aload_n hx hb dX4_init_29 rfl (lv_at hl 0 rfl) ?_
  refine lv_iconst (v := (-1)) hx hb dX4_init_30 (by decide) ?_
  refine sc_put (k := 35) (fs := [.int 0, .int 0, .int (-1), .int 0, .int 0, .int 0, .int 0, .null, .null]) (v := .int (-1)) hx hb hts fc_X4_28 hown hin hK hP hS rfl (by decide) rfl rfl (Nat.le_of_ble_eq_true rfl) dX4_init_31 (fun H locs hP hS => ?_)
  refine lv_aload_n hx hb dX4_init_34 rfl (lv_at hl 0 rfl) ?_
  refine lv_iconst (v := 0) hx hb dX4_init_35 (by decide) ?_
  refine sc_put (k := 35) (fs := [.int 0, .int 0, .int (-1), .int 0, .int 0, .int (-1), .int 0, .null, .null]) (v := .int 0) hx hb hts fc_X4_31 hown hin hK hP hS rfl (by decide) rfl rfl (Nat.le_of_ble_eq_true rfl) dX4_init_36 (fun H locs hP hS => ?_)
  refine lv_aload_n hx hb dX4_init_39 rfl (lv_at hl 0 rfl) ?_
  refine lv_iconst (v := 4) hx hb dX4_init_40 (by decide) ?_
  refine sc_newa (atype := .int) (cA := cA) (kd := 0) (n := 36) (a0 := (4, (.inl (fun _ => 0)))) hx hb hts wd_101 hcA.1 (fun U x h => h) hK hP hS hb0 (by omega) (fun _ => rfl) (by decide) (by decide) (Nat.le_of_ble_eq_true rfl) (Nat.le_of_ble_eq_true rfl) (Nat.le_of_ble_eq_true rfl) dX4_init_41 (fun H hK1 hP hS => ?_)
  have hK_0 : va_K D vwCl [(cA 0, .int)] s := hK1
  refine sc_put (k := 35) (fs := [.int 0, .int 0, .int (-1), .int 0, .int 0, .int (-1), .int 0, .null, .null]) (v := .ref (b + 36)) hx hb hts fc_X4_34 hown hin hK hP hS rfl (by decide) rfl rfl (Nat.le_of_ble_eq_true rfl) dX4_init_43 (fun H locs hP hS => ?_)
  refine lv_aload_n hx hb dX4_init_46 rfl (lv_at hl 0 rfl) ?_
  refine lv_iconst (v := 4) hx hb dX4_init_47 (by decide) ?_
  refine sc_newa (atype := .boolean) (cA := cA) (kd := 1) (n := 37) (a0 := (4, (.inl (fun _ => 0)))) hx hb hts wd_139 hcA.2.1 (fun U x h => h) hK hP hS hb0 (by omega) (fun _ => rfl) (by decide) (by decide) (Nat.le_of_ble_eq_true rfl) (Nat.le_of_ble_eq_true rfl) (Nat.le_of_ble_eq_true rfl) dX4_init_48 (fun H hK1 hP hS => ?_)
  have hK_1 : va_K D vwCl [(cA 1, .boolean)] s := hK1
  refine sc_put (k := 35) (fs := [.int 0, .int 0, .int (-1), .int 0, .int 0, .int (-1), .int 0, .ref (b + 36), .null]) (v := .ref (b + 37)) hx hb hts fc_X4_38 hown hin hK hP hS rfl (by decide) rfl rfl (Nat.le_of_ble_eq_true rfl) dX4_init_50 (fun H locs hP hS => ?_)
  exact W.vret hx hb hr (fun t ht hW => ⟨⟨(), rfl, trivial, by rw [ht]; exact hP, va_K.moved hW.alike (hK_0.app hK_1)⟩, hS.F ht⟩) hS.2.2 dX4_init_53
def sc_P_View2 : sc_G := fun cA b F => sc_o F 38 4 [.int 0, .int 0, .int 0, .int 0, .int 0, .int 0, .int 0, .null, .null]
def sc_G_View2 : sc_G := fun cA b F => (sc_p (sc_r (sc_p (sc_r (sc_p (sc_p (sc_p (sc_p (sc_p (sc_p (sc_p (sc_P_View2 cA b F) 38 0 (.int 0)) 38 1 (.int 0)) 38 2 (.int (-1))) 38 3 (.int 0)) 38 4 (.int 0)) 38 5 (.int (-1))) 38 6 (.int 0)) 39 (.inl (cA 0, (4, (.inl (fun _ => 0)))))) 38 7 (.ref (b + 39))) 40 (.inl (cA 1, (4, (.inl (fun _ => 0)))))) 38 8 (.ref (b + 40)))
set_option maxRecDepth 100000 in
set_option maxHeartbeats 8000000 in
theorem sc_View2 : sc_M yX4_init cX4_init 1 2 (fun b => [.ref (b + 38)]) 39 41 8 (fun _ => True) (fun cA => []) sc_P_View2 sc_G_View2 (fun cA => [(cA 0, .int), (cA 1, .boolean)]) := by
  intro l D cA b F
  refine Met.ofW (cc := cX4_init) (maxL := 1) (ret := none) (by decide) rfl ?_
  intro p e s m args below meth c s₁ B hml hv
  obtain ⟨rfl, hsz, hP, hK, hcA, hpr⟩ := hv
  have hx := B.exec
  have hb := B.bytes
  have hr := B.returns
  have hts0 := atoms_spec (ws := Cond.code yX4_init cX4_init 1 none :: sy_AL) B.pre
  have hts : ∀ w ∈ sy_AL, w.before _ s = true := fun w hw => hts0 w (List.mem_cons_of_mem _ hw)
  have hown : s.vm.findClass RX4 = some m.cls := findClass_of_methodNamed B.named
  have hlocks := B.notSynchronized
  have hin : meth.name = "<init>" := (name_of_methodNamed B.named B.method).1
  have hb0 : b ≤ s.heap.size := by omega
  have hS : va_S (sy_ab b) s.heap s.heap [] := va_S.rf
  have hl := lv_entry ([.ref (b + 38)]) (n := 1) (Nat.le_of_ble_eq_true rfl)
  rw [lg_entry_eq]
  generalize (lg_sl ([.ref (b + 38)]) ++ List.replicate (1 - (lg_sl ([.ref (b + 38)])).length) Slot.unset).toArray = ls at hl ⊢
  have hl : lv_has ls 1 [(0, .ref (b + 38))] := hl
  refine lv_aload_n hx hb dX4_init_0 rfl (lv_at hl 0 rfl) ?_
  refine W.objInit hx hb hown (hts _ wd_196) (hts _ wd_65) (hts _ wd_66) rfl (by rw [hml]; exact hl.1) rfl dX4_init_1 (Nat.le_of_ble_eq_true rfl) (Nat.le_of_ble_eq_true rfl) ?_
  refine W.eq (g2 := F0 m 4 ls []) rfl ?_
  refine lv_aload_n hx hb dX4_init_4 rfl (lv_at hl 0 rfl) ?_
  refine lv_iconst (v := 0) hx hb dX4_init_5 (by decide) ?_
  refine sc_put (k := 38) (fs := [.int 0, .int 0, .int 0, .int 0, .int 0, .int 0, .int 0, .null, .null]) (v := .int 0) hx hb hts fc_X4_9 hown hin hK hP hS rfl (by decide) rfl rfl (Nat.le_of_ble_eq_true rfl) dX4_init_6 (fun H locs hP hS => ?_)
  refine lv_aload_n hx hb dX4_init_9 rfl (lv_at hl 0 rfl) ?_
  refine lv_iconst (v := 0) hx hb dX4_init_10 (by decide) ?_
  refine sc_put (k := 38) (fs := [.int 0, .int 0, .int 0, .int 0, .int 0, .int 0, .int 0, .null, .null]) (v := .int 0) hx hb hts fc_X4_15 hown hin hK hP hS rfl (by decide) rfl rfl (Nat.le_of_ble_eq_true rfl) dX4_init_11 (fun H locs hP hS => ?_)
  refine lv_aload_n hx hb dX4_init_14 rfl (lv_at hl 0 rfl) ?_
  refine lv_iconst (v := (-1)) hx hb dX4_init_15 (by decide) ?_
  refine sc_put (k := 38) (fs := [.int 0, .int 0, .int 0, .int 0, .int 0, .int 0, .int 0, .null, .null]) (v := .int (-1)) hx hb hts fc_X4_18 hown hin hK hP hS rfl (by decide) rfl rfl (Nat.le_of_ble_eq_true rfl) dX4_init_16 (fun H locs hP hS => ?_)
  refine lv_aload_n hx hb dX4_init_19 rfl (lv_at hl 0 rfl) ?_
  refine lv_iconst (v := 0) hx hb dX4_init_20 (by decide) ?_
  refine sc_put (k := 38) (fs := [.int 0, .int 0, .int (-1), .int 0, .int 0, .int 0, .int 0, .null, .null]) (v := .int 0) hx hb hts fc_X4_21 hown hin hK hP hS rfl (by decide) rfl rfl (Nat.le_of_ble_eq_true rfl) dX4_init_21 (fun H locs hP hS => ?_)
  refine lv_aload_n hx hb dX4_init_24 rfl (lv_at hl 0 rfl) ?_
  refine lv_iconst (v := 0) hx hb dX4_init_25 (by decide) ?_
  refine sc_put (k := 38) (fs := [.int 0, .int 0, .int (-1), .int 0, .int 0, .int 0, .int 0, .null, .null]) (v := .int 0) hx hb hts fc_X4_25 hown hin hK hP hS rfl (by decide) rfl rfl (Nat.le_of_ble_eq_true rfl) dX4_init_26 (fun H locs hP hS => ?_)
  refine lv_aload_n hx hb dX4_init_29 rfl (lv_at hl 0 rfl) ?_
  refine lv_iconst (v := (-1)) hx hb dX4_init_30 (by decide) ?_
  refine sc_put (k := 38) (fs := [.int 0, .int 0, .int (-1), .int 0, .int 0, .int 0, .int 0, .null, .null]) (v := .int (-1)) hx hb hts fc_X4_28 hown hin hK hP hS rfl (by decide) rfl rfl (Nat.le_of_ble_eq_true rfl) dX4_init_31 (fun H locs hP hS => ?_)
  refine lv_aload_n hx hb dX4_init_34 rfl (lv_at hl 0 rfl) ?_
  refine lv_iconst (v := 0) hx hb dX4_init_35 (by decide) ?_
  refine sc_put (k := 38) (fs := [.int 0, .int 0, .int (-1), .int 0, .int 0, .int (-1), .int 0, .null, .null]) (v := .int 0) hx hb hts fc_X4_31 hown hin hK hP hS rfl (by decide) rfl rfl (Nat.le_of_ble_eq_true rfl) dX4_init_36 (fun H locs hP hS => ?_)
  refine lv_aload_n hx hb dX4_init_39 rfl (lv_at hl 0 rfl) ?_
  refine lv_iconst (v := 4) hx hb dX4_init_40 (by decide) ?_
  refine sc_newa (atype := .int) (cA := cA) (kd := 0) (n := 39) (a0 := (4, (.inl (fun _ => 0)))) hx hb hts wd_101 hcA.1 (fun U x h => h) hK hP hS hb0 (by omega) (fun _ => rfl) (by decide) (by decide) (Nat.le_of_ble_eq_true rfl) (Nat.le_of_ble_eq_true rfl) (Nat.le_of_ble_eq_true rfl) dX4_init_41 (fun H hK1 hP hS => ?_)
  have hK_0 : va_K D vwCl [(cA 0, .int)] s := hK1
  refine sc_put (k := 38) (fs := [.int 0, .int 0, .int (-1), .int 0, .int 0, .int (-1), .int 0, .null, .null]) (v := .ref (b + 39)) hx hb hts fc_X4_34 hown hin hK hP hS rfl (by decide) rfl rfl (Nat.le_of_ble_eq_true rfl) dX4_init_43 (fun H locs hP hS => ?_)
  refine lv_aload_n hx hb dX4_init_46 rfl (lv_at hl 0 rfl) ?_
  refine lv_iconst (v := 4) hx hb dX4_init_47 (by decide) ?_
  refine sc_newa (atype := .boolean) (cA := cA) (kd := 1) (n := 40) (a0 := (4, (.inl (fun _ => 0)))) hx hb hts wd_139 hcA.2.1 (fun U x h => h) hK hP hS hb0 (by omega) (fun _ => rfl) (by decide) (by decide) (Nat.le_of_ble_eq_true rfl) (Nat.le_of_ble_eq_true rfl) (Nat.le_of_ble_eq_true rfl) dX4_init_48 (fun H hK1 hP hS => ?_)
  have hK_1 : va_K D vwCl [(cA 1, .boolean)] s := hK1
  refine sc_put (k := 38) (fs := [.int 0, .int 0, .int (-1), .int 0, .int 0, .int (-1), .int 0, .ref (b + 39), .null]) (v := .ref (b + 40)) hx hb hts fc_X4_38 hown hin hK hP hS rfl (by decide) rfl rfl (Nat.le_of_ble_eq_true rfl) dX4_init_50 (fun H locs hP hS => ?_)
  exact W.vret hx hb hr (fun t ht hW => ⟨⟨(), rfl, trivial, by rw [ht]; exact hP, va_K.moved hW.alike (hK_0.app hK_1)⟩, hS.F ht⟩) hS.2.2 dX4_init_53
def sc_P_View3 : sc_G := fun cA b F => sc_o F 41 4 [.int 0, .int 0, .int 0, .int 0, .int 0, .int 0, .int 0, .null, .null]
def sc_G_View3 : sc_G := fun cA b F => (sc_p (sc_r (sc_p (sc_r (sc_p (sc_p (sc_p (sc_p (sc_p (sc_p (sc_p (sc_P_View3 cA b F) 41 0 (.int 0)) 41 1 (.int 0)) 41 2 (.int (-1))) 41 3 (.int 0)) 41 4 (.int 0)) 41 5 (.int (-1))) 41 6 (.int 0)) 42 (.inl (cA 0, (4, (.inl (fun _ => 0)))))) 41 7 (.ref (b + 42))) 43 (.inl (cA 1, (4, (.inl (fun _ => 0)))))) 41 8 (.ref (b + 43)))
set_option maxRecDepth 100000 in
set_option maxHeartbeats 8000000 in
theorem sc_View3 : sc_M yX4_init cX4_init 1 2 (fun b => [.ref (b + 41)]) 42 44 8 (fun _ => True) (fun cA => []) sc_P_View3 sc_G_View3 (fun cA => [(cA 0, .int), (cA 1, .boolean)]) := by
  intro l D cA b F
  refine Met.ofW (cc := cX4_init) (maxL := 1) (ret := none) (by decide) rfl ?_
  intro p e s m args below meth c s₁ B hml hv
  obtain ⟨rfl, hsz, hP, hK, hcA, hpr⟩ := hv
  have hx := B.exec
  have hb := B.bytes
  have hr := B.returns
  have hts0 := atoms_spec (ws := Cond.code yX4_init cX4_init 1 none :: sy_AL) B.pre
  have hts : ∀ w ∈ sy_AL, w.before _ s = true := fun w hw => hts0 w (List.mem_cons_of_mem _ hw)
  have hown : s.vm.findClass RX4 = some m.cls := findClass_of_methodNamed B.named
  have hlocks := B.notSynchronized
  have hin : meth.name = "<init>" := (name_of_methodNamed B.named B.method).1
  have hb0 : b ≤ s.heap.size := by omega
  have hS : va_S (sy_ab b) s.heap s.heap [] := va_S.rf
  have hl := lv_entry ([.ref (b + 41)]) (n := 1) (Nat.le_of_ble_eq_true rfl)
  rw [lg_entry_eq]
  generalize (lg_sl ([.ref (b + 41)]) ++ List.replicate (1 - (lg_sl ([.ref (b + 41)])).length) Slot.unset).toArray = ls at hl ⊢
  have hl : lv_has ls 1 [(0, .ref (b + 41))] := hl
  refine lv_aload_n hx hb dX4_init_0 rfl (lv_at hl 0 rfl) ?_
  refine W.objInit hx hb hown (hts _ wd_196) (hts _ wd_65) (hts _ wd_66) rfl (by rw [hml]; exact hl.1) rfl dX4_init_1 (Nat.le_of_ble_eq_true rfl) (Nat.le_of_ble_eq_true rfl) ?_
  refine W.eq (g2 := F0 m 4 ls []) rfl ?_
  refine lv_aload_n hx hb dX4_init_4 rfl (lv_at hl 0 rfl) ?_
  refine lv_iconst (v := 0) hx hb dX4_init_5 (by decide) ?_
  refine sc_put (k := 41) (fs := [.int 0, .int 0, .int 0, .int 0, .int 0, .int 0, .int 0, .null, .null]) (v := .int 0) hx hb hts fc_X4_9 hown hin hK hP hS rfl (by decide) rfl rfl (Nat.le_of_ble_eq_true rfl) dX4_init_6 (fun H locs hP hS => ?_)
  refine lv_aload_n hx hb dX4_init_9 rfl (lv_at hl 0 rfl) ?_
  refine lv_iconst (v := 0) hx hb dX4_init_10 (by decide) ?_
  refine sc_put (k := 41) (fs := [.int 0, .int 0, .int 0, .int 0, .int 0, .int 0, .int 0, .null, .null]) (v := .int 0) hx hb hts fc_X4_15 hown hin hK hP hS rfl (by decide) rfl rfl (Nat.le_of_ble_eq_true rfl) dX4_init_11 (fun H locs hP hS => ?_)
  refine lv_aload_n hx hb dX4_init_14 rfl (lv_at hl 0 rfl) ?_
  refine lv_iconst (v := (-1)) hx hb dX4_init_15 (by decide) ?_
  refine sc_put (k := 41) (fs := [.int 0, .int 0, .int 0, .int 0, .int 0, .int 0, .int 0, .null, .null]) (v := .int (-1)) hx hb hts fc_X4_18 hown hin hK hP hS rfl (by decide) rfl rfl (Nat.le_of_ble_eq_true rfl) dX4_init_16 (fun H locs hP hS => ?_)
  refine lv_aload_n hx hb dX4_init_19 rfl (lv_at hl 0 rfl) ?_
  refine lv_iconst (v := 0) hx hb dX4_init_20 (by decide) ?_
  refine sc_put (k := 41) (fs := [.int 0, .int 0, .int (-1), .int 0, .int 0, .int 0, .int 0, .null, .null]) (v := .int 0) hx hb hts fc_X4_21 hown hin hK hP hS rfl (by decide) rfl rfl (Nat.le_of_ble_eq_true rfl) dX4_init_21 (fun H locs hP hS => ?_)
  refine lv_aload_n hx hb dX4_init_24 rfl (lv_at hl 0 rfl) ?_
  refine lv_iconst (v := 0) hx hb dX4_init_25 (by decide) ?_
  refine sc_put (k := 41) (fs := [.int 0, .int 0, .int (-1), .int 0, .int 0, .int 0, .int 0, .null, .null]) (v := .int 0) hx hb hts fc_X4_25 hown hin hK hP hS rfl (by decide) rfl rfl (Nat.le_of_ble_eq_true rfl) dX4_init_26 (fun H locs hP hS => ?_)
  refine lv_aload_n hx hb dX4_init_29 rfl (lv_at hl 0 rfl) ?_
  refine lv_iconst (v := (-1)) hx hb dX4_init_30 (by decide) ?_
  refine sc_put (k := 41) (fs := [.int 0, .int 0, .int (-1), .int 0, .int 0, .int 0, .int 0, .null, .null]) (v := .int (-1)) hx hb hts fc_X4_28 hown hin hK hP hS rfl (by decide) rfl rfl (Nat.le_of_ble_eq_true rfl) dX4_init_31 (fun H locs hP hS => ?_)
  refine lv_aload_n hx hb dX4_init_34 rfl (lv_at hl 0 rfl) ?_
  refine lv_iconst (v := 0) hx hb dX4_init_35 (by decide) ?_
  refine sc_put (k := 41) (fs := [.int 0, .int 0, .int (-1), .int 0, .int 0, .int (-1), .int 0, .null, .null]) (v := .int 0) hx hb hts fc_X4_31 hown hin hK hP hS rfl (by decide) rfl rfl (Nat.le_of_ble_eq_true rfl) dX4_init_36 (fun H locs hP hS => ?_)
  refine lv_aload_n hx hb dX4_init_39 rfl (lv_at hl 0 rfl) ?_
  refine lv_iconst (v := 4) hx hb dX4_init_40 (by decide) ?_
  refine sc_newa (atype := .int) (cA := cA) (kd := 0) (n := 42) (a0 := (4, (.inl (fun _ => 0)))) hx hb hts wd_101 hcA.1 (fun U x h => h) hK hP hS hb0 (by omega) (fun _ => rfl) (by decide) (by decide) (Nat.le_of_ble_eq_true rfl) (Nat.le_of_ble_eq_true rfl) (Nat.le_of_ble_eq_true rfl) dX4_init_41 (fun H hK1 hP hS => ?_)
  have hK_0 : va_K D vwCl [(cA 0, .int)] s := hK1
  refine sc_put (k := 41) (fs := [.int 0, .int 0, .int (-1), .int 0, .int 0, .int (-1), .int 0, .null, .null]) (v := .ref (b + 42)) hx hb hts fc_X4_34 hown hin hK hP hS rfl (by decide) rfl rfl (Nat.le_of_ble_eq_true rfl) dX4_init_43 (fun H locs hP hS => ?_)
  refine lv_aload_n hx hb dX4_init_46 rfl (lv_at hl 0 rfl) ?_
  refine lv_iconst (v := 4) hx hb dX4_init_47 (by decide) ?_
  refine sc_newa (atype := .boolean) (cA := cA) (kd := 1) (n := 43) (a0 := (4, (.inl (fun _ => 0)))) hx hb hts wd_139 hcA.2.1 (fun U x h => h) hK hP hS hb0 (by omega) (fun _ => rfl) (by decide) (by decide) (Nat.le_of_ble_eq_true rfl) (Nat.le_of_ble_eq_true rfl) (Nat.le_of_ble_eq_true rfl) dX4_init_48 (fun H hK1 hP hS => ?_)
  have hK_1 : va_K D vwCl [(cA 1, .boolean)] s := hK1
  refine sc_put (k := 41) (fs := [.int 0, .int 0, .int (-1), .int 0, .int 0, .int (-1), .int 0, .ref (b + 42), .null]) (v := .ref (b + 43)) hx hb hts fc_X4_38 hown hin hK hP hS rfl (by decide) rfl rfl (Nat.le_of_ble_eq_true rfl) dX4_init_50 (fun H locs hP hS => ?_)
  exact W.vret hx hb hr (fun t ht hW => ⟨⟨(), rfl, trivial, by rw [ht]; exact hP, va_K.moved hW.alike (hK_0.app hK_1)⟩, hS.F ht⟩) hS.2.2 dX4_init_53
end SYP
