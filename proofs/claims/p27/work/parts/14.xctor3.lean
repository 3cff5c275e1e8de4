section SYQ
def sc_P_Yard : sc_G := fun cA b F => sc_o F 0 5 [.null, .null, .null, .null, .null, .null]
def sc_G_Yard : sc_G := fun cA b F => (sc_q (sc_G_View3 cA b (sc_q (sc_G_View2 cA b (sc_q (sc_G_View1 cA b (sc_q (sc_G_View0 cA b (sc_p (sc_r (sc_p (sc_r (sc_p (sc_G_Needs cA b (sc_p (sc_G_Arguments cA b (sc_p (sc_G_Store cA b (sc_p (sc_G_Schema cA b (sc_P_Yard cA b F)) 0 0 (.ref (b + 1)))) 0 1 (.ref (b + 10)))) 0 2 (.ref (b + 19)))) 0 3 (.ref (b + 27))) 30 (.inl (cA 2, (4, .inr (.inr (.inr (.inr (fun _ => none)))))))) 0 4 (.ref (b + 30))) 31 (.inl (cA 0, (12, (.inl (fun _ => 0)))))) 0 5 (.ref (b + 31)))) 30 0 (b + 32))) 30 1 (b + 35))) 30 2 (b + 38))) 30 3 (b + 41))
set_option maxRecDepth 100000 in
set_option maxHeartbeats 8000000 in
theorem sc_Yard : sc_M yX5_init cX5_init 2 3 (fun b => [.ref (b + 0)]) 1 44 942 sc_Pr (fun cA => []) sc_P_Yard sc_G_Yard (fun cA => [(cA 0, .int), (cA 1, .boolean), (cA 2, .object "SegmentYard$View")]) := by
  intro l D cA b F
  refine Met.ofW (cc := cX5_init) (maxL := 2) (ret := none) (by decide) rfl ?_
  intro p e s m args below meth c s₁ B hml hv
  obtain ⟨rfl, hsz, hP, hK, hcA, hpr⟩ := hv
  have hx := B.exec
  have hb := B.bytes
  have hr := B.returns
  have hts0 := atoms_spec (ws := Cond.code yX5_init cX5_init 2 none :: sy_AL) B.pre
  have hts : ∀ w ∈ sy_AL, w.before _ s = true := fun w hw => hts0 w (List.mem_cons_of_mem _ hw)
  have hown : s.vm.findClass RX5 = some m.cls := findClass_of_methodNamed B.named
  have hlocks := B.notSynchronized
  have hin : meth.name = "<init>" := (name_of_methodNamed B.named B.method).1
  have hb0 : b ≤ s.heap.size := by omega
  have hS : va_S (sy_ab b) s.heap s.heap [] := va_S.rf
  have hl := lv_entry ([.ref (b + 0)]) (n := 2) (Nat.le_of_ble_eq_true rfl)
  rw [lg_entry_eq]
  generalize (lg_sl ([.ref (b + 0)]) ++ List.replicate (2 - (lg_sl ([.ref (b + 0)])).length) Slot.unset).toArray = ls at hl ⊢
  have hl : lv_has ls 2 [(0, .ref (b + 0))] := hl
  refine lv_aload_n hx hb dX5_init_0 rfl (lv_at hl 0 rfl) ?_
  refine W.objInit hx hb hown (hts _ wd_64) (hts _ wd_65) (hts _ wd_66) rfl (by rw [hml]; exact hl.1) rfl dX5_init_1 (Nat.le_of_ble_eq_true rfl) (Nat.le_of_ble_eq_true rfl) ?_
  refine W.eq (g2 := F0 m 4 ls []) rfl ?_
  refine lv_aload_n hx hb dX5_init_4 rfl (lv_at hl 0 rfl) ?_
  refine sc_new (ci := 2) (n := 1) (fs := [.int 0, .null, .null, .null, .null, .null, .null, .null, .null]) (C := RX2) (T := TX2) (N := 9) hx hb hts sy_kw2 tyX2 tyX2_ok hown (List.forall_mem_cons.mpr ⟨wd_67, List.forall_mem_cons.mpr ⟨wd_68, List.forall_mem_cons.mpr ⟨wd_47, fun _ h => absurd h List.not_mem_nil⟩⟩⟩) hK hP hS hb0 (by omega) rfl (fun j hj => by rcases (show j = 0 ∨ j = 1 ∨ j = 2 ∨ j = 3 ∨ j = 4 ∨ j = 5 ∨ j = 6 ∨ j = 7 ∨ j = 8 by omega) with rfl | rfl | rfl | rfl | rfl | rfl | rfl | rfl | rfl <;> rfl) (Nat.le_of_ble_eq_true rfl) (Nat.le_of_ble_eq_true rfl) dX5_init_5 (fun H hP hS => ?_)
  refine lv_dup hx hb dX5_init_8 rfl ?_
  refine sc_callN (As := []) (k := 1) (rest := [.ref (b + 1), .ref (b + 0)]) (mA := 0) (host := "SegmentYard") hx hb hml hown hts sc_Schema sc_tbT (List.forall_mem_cons.mpr ⟨wd_70, List.forall_mem_cons.mpr ⟨wd_47, List.forall_mem_cons.mpr ⟨wd_71, fun _ h => absurd h List.not_mem_nil⟩⟩⟩) (hpr.2 _ (by simp [sc_EX, RX5])) rfl ⟨by decide +kernel, by decide +kernel, by decide +kernel⟩ ⟨(Nat.le_of_ble_eq_true rfl), (Nat.le_of_ble_eq_true rfl)⟩ rfl rfl hl.1 (Nat.le_of_ble_eq_true rfl) hK hcA trivial hP hS (by decide) (by omega) (Nat.le_of_ble_eq_true rfl) (Nat.le_of_ble_eq_true rfl) dX5_init_9 (fun H locs hP hK1 hS => ?_)
  have hK_0 : va_K D vwCl [(cA 0, .int)] s := hK1.sub [0] rfl
  refine sc_put (k := 0) (fs := [.null, .null, .null, .null, .null, .null]) (v := .ref (b + 1)) hx hb hts fc_X5_10 hown hin hK hP hS rfl (by decide) rfl rfl (Nat.le_of_ble_eq_true rfl) dX5_init_12 (fun H locs hP hS => ?_)
  refine lv_aload_n hx hb dX5_init_15 rfl (lv_at hl 0 rfl) ?_
  refine sc_new (ci := 3) (n := 10) (fs := [.null, .null, .null, .null, .null, .null, .null, .null, .null, .int 0]) (C := RX3) (T := TX3) (N := 10) hx hb hts sy_kw3 tyX3 tyX3_ok hown (List.forall_mem_cons.mpr ⟨wd_102, List.forall_mem_cons.mpr ⟨wd_103, List.forall_mem_cons.mpr ⟨wd_48, fun _ h => absurd h List.not_mem_nil⟩⟩⟩) hK hP hS hb0 (by omega) rfl (fun j hj => by rcases (show j = 0 ∨ j = 1 ∨ j = 2 ∨ j = 3 ∨ j = 4 ∨ j = 5 ∨ j = 6 ∨ j = 7 ∨ j = 8 ∨ j = 9 by omega) with rfl | rfl | rfl | rfl | rfl | rfl | rfl | rfl | rfl | rfl <;> rfl) (Nat.le_of_ble_eq_true rfl) (Nat.le_of_ble_eq_true rfl) dX5_init_16 (fun H hP hS => ?_)
  refine lv_dup hx hb dX5_init_19 rfl ?_
  refine lv_aload_n hx hb dX5_init_20 rfl (lv_at hl 0 rfl) ?_
  refine sc_get (k := 0) (fs := [.ref (b + 1), .null, .null, .null, .null, .null]) (v := .ref (b + 1)) hx hb hts fi_X5_10 hown hK hP rfl (by decide) rfl dX5_init_21 ?_
  refine sc_call (As := [.ref (b + 1)]) (k := 10) (rest := [.ref (b + 10), .ref (b + 0)]) (mA := 1) hx hb hml hown hts sc_Store sc_tbT (List.forall_mem_cons.mpr ⟨wd_104, List.forall_mem_cons.mpr ⟨wd_105, List.forall_mem_cons.mpr ⟨wd_48, List.forall_mem_cons.mpr ⟨wd_106, fun _ h => absurd h List.not_mem_nil⟩⟩⟩⟩) rfl ⟨by decide +kernel, by decide +kernel, by decide +kernel⟩ ⟨(Nat.le_of_ble_eq_true rfl), (Nat.le_of_ble_eq_true rfl)⟩ rfl rfl hl.1 (Nat.le_of_ble_eq_true rfl) hK hcA trivial hP hS (by decide) (by omega) (Nat.le_of_ble_eq_true rfl) (Nat.le_of_ble_eq_true rfl) dX5_init_24 (fun H locs hP hK1 hS => ?_)
  have hK_1 : va_K D vwCl [(cA 1, .boolean)] s := hK1.sub [1] rfl
  refine sc_put (k := 0) (fs := [.ref (b + 1), .null, .null, .null, .null, .null]) (v := .ref (b + 10)) hx hb hts fc_X5_21 hown hin hK hP hS rfl (by decide) rfl rfl (Nat.le_of_ble_eq_true rfl) dX5_init_27 (fun H locs hP hS => ?_)
  refine lv_aload_n hx hb dX5_init_30 rfl (lv_at hl 0 rfl) ?_
  refine sc_new (ci := 0) (n := 19) (fs := [.int 0, .null, .null, .null, .null, .null, .null, .null]) (C := RX0) (T := TX0) (N := 8) hx hb hts sy_kw0 tyX0 tyX0_ok hown (List.forall_mem_cons.mpr ⟨wd_140, List.forall_mem_cons.mpr ⟨wd_141, List.forall_mem_cons.mpr ⟨wd_49, fun _ h => absurd h List.not_mem_nil⟩⟩⟩) hK hP hS hb0 (by omega) rfl (fun j hj => by rcases (show j = 0 ∨ j = 1 ∨ j = 2 ∨ j = 3 ∨ j = 4 ∨ j = 5 ∨ j = 6 ∨ j = 7 by omega) with rfl | rfl | rfl | rfl | rfl | rfl | rfl | rfl <;> rfl) (Nat.le_of_ble_eq_true rfl) (Nat.le_of_ble_eq_true rfl) dX5_init_31 (fun H hP hS => ?_)
  refine lv_dup hx hb dX5_init_34 rfl ?_
  refine sc_callN (As := []) (k := 19) (rest := [.ref (b + 19), .ref (b + 0)]) (mA := 0) (host := "SegmentYard") hx hb hml hown hts sc_Arguments sc_tbT (List.forall_mem_cons.mpr ⟨wd_143, List.forall_mem_cons.mpr ⟨wd_49, List.forall_mem_cons.mpr ⟨wd_144, fun _ h => absurd h List.not_mem_nil⟩⟩⟩) (hpr.2 _ (by simp [sc_EX, RX5])) rfl ⟨by decide +kernel, by decide +kernel, by decide +kernel⟩ ⟨(Nat.le_of_ble_eq_true rfl), (Nat.le_of_ble_eq_true rfl)⟩ rfl rfl hl.1 (Nat.le_of_ble_eq_true rfl) hK hcA trivial hP hS (by decide) (by omega) (Nat.le_of_ble_eq_true rfl) (Nat.le_of_ble_eq_true rfl) dX5_init_35 (fun H locs hP hK1 hS => ?_)
  refine sc_put (k := 0) (fs := [.ref (b + 1), .ref (b + 10), .null, .null, .null, .null]) (v := .ref (b + 19)) hx hb hts fc_X5_28 hown hin hK hP hS rfl (by decide) rfl rfl (Nat.le_of_ble_eq_true rfl) dX5_init_38 (fun H locs hP hS => ?_)
  refine lv_aload_n hx hb dX5_init_41 rfl (lv_at hl 0 rfl) ?_
  refine sc_new (ci := 1) (n := 27) (fs := [.int 0, .int 0, .null, .null]) (C := RX1) (T := TX1) (N := 4) hx hb hts sy_kw1 tyX1 tyX1_ok hown (List.forall_mem_cons.mpr ⟨wd_171, List.forall_mem_cons.mpr ⟨wd_172, List.forall_mem_cons.mpr ⟨wd_50, fun _ h => absurd h List.not_mem_nil⟩⟩⟩) hK hP hS hb0 (by omega) rfl (fun j hj => by rcases (show j = 0 ∨ j = 1 ∨ j = 2 ∨ j = 3 by omega) with rfl | rfl | rfl | rfl <;> rfl) (Nat.le_of_ble_eq_true rfl) (Nat.le_of_ble_eq_true rfl) dX5_init_42 (fun H hP hS => ?_)
  refine lv_dup hx hb dX5_init_45 rfl ?_
  refine sc_callN (As := []) (k := 27) (rest := [.ref (b + 27), .ref (b + 0)]) (mA := 0) (host := "SegmentYard") hx hb hml hown hts sc_Needs sc_tbT (List.forall_mem_cons.mpr ⟨wd_174, List.forall_mem_cons.mpr ⟨wd_50, List.forall_mem_cons.mpr ⟨wd_175, fun _ h => absurd h List.not_mem_nil⟩⟩⟩) (hpr.2 _ (by simp [sc_EX, RX5])) rfl ⟨by decide +kernel, by decide +kernel, by decide +kernel⟩ ⟨(Nat.le_of_ble_eq_true rfl), (Nat.le_of_ble_eq_true rfl)⟩ rfl rfl hl.1 (Nat.le_of_ble_eq_true rfl) hK hcA trivial hP hS (by decide) (by omega) (Nat.le_of_ble_eq_true rfl) (Nat.le_of_ble_eq_true rfl) dX5_init_46 (fun H locs hP hK1 hS => ?_)
  refine sc_put (k := 0) (fs := [.ref (b + 1), .ref (b + 10), .ref (b + 19), .null, .null, .null]) (v := .ref (b + 27)) hx hb hts fc_X5_35 hown hin hK hP hS rfl (by decide) rfl rfl (Nat.le_of_ble_eq_true rfl) dX5_init_49 (fun H locs hP hS => ?_)
  refine lv_aload_n hx hb dX5_init_52 rfl (lv_at hl 0 rfl) ?_
  refine lv_iconst (v := 4) hx hb dX5_init_53 (by decide) ?_
  refine sc_newq (cA := cA) (n := 30) (N' := 4) hx hb hts hown wd_190 hpr.1 hcA hK hP hS hb0 (by omega) (by decide) (by decide) (Nat.le_of_ble_eq_true rfl) (Nat.le_of_ble_eq_true rfl) (Nat.le_of_ble_eq_true rfl) dX5_init_54 (fun H hK1 hP hS => ?_)
  have hK_2 : va_K D vwCl [(cA 2, .object "SegmentYard$View")] s := hK1
  refine sc_put (k := 0) (fs := [.ref (b + 1), .ref (b + 10), .ref (b + 19), .ref (b + 27), .null, .null]) (v := .ref (b + 30)) hx hb hts fc_X5_41 hown hin hK hP hS rfl (by decide) rfl rfl (Nat.le_of_ble_eq_true rfl) dX5_init_57 (fun H locs hP hS => ?_)
  refine lv_aload_n hx hb dX5_init_60 rfl (lv_at hl 0 rfl) ?_
  refine lv_bipush (v := 12) hx hb dX5_init_61 (by decide) ?_
  refine sc_newa (atype := .int) (cA := cA) (kd := 0) (n := 31) (a0 := (12, (.inl (fun _ => 0)))) hx hb hts wd_101 hcA.1 (fun U x h => h) hK hP hS hb0 (by omega) (fun _ => rfl) (by decide) (by decide) (Nat.le_of_ble_eq_true rfl) (Nat.le_of_ble_eq_true rfl) (Nat.le_of_ble_eq_true rfl) dX5_init_63 (fun H hK1 hP hS => ?_)
  refine sc_put (k := 0) (fs := [.ref (b + 1), .ref (b + 10), .ref (b + 19), .ref (b + 27), .ref (b + 30), .null]) (v := .ref (b + 31)) hx hb hts fc_X5_45 hown hin hK hP hS rfl (by decide) rfl rfl (Nat.le_of_ble_eq_true rfl) dX5_init_65 (fun H locs hP hS => ?_)
  refine lv_iconst (v := 0) hx hb dX5_init_68 (by decide) ?_
  refine lv_istore_n (lv' := [(1, .int 0), (0, .ref (b + 0))]) hx hb dX5_init_69 rfl hl (by decide) rfl (fun ls hl => ?_)
  refine lv_iload_n hx hb dX5_init_70 rfl (lv_at hl 0 rfl) ?_
  refine lv_aload_n hx hb dX5_init_71 rfl (lv_at hl 1 rfl) ?_
  refine sc_get (k := 0) (fs := [.ref (b + 1), .ref (b + 10), .ref (b + 19), .ref (b + 27), .ref (b + 30), .ref (b + 31)]) (v := .ref (b + 30)) hx hb hts fi_X5_41 hown hK hP rfl (by decide) rfl dX5_init_72 ?_
  refine sc_alen (k := 30) (kd := 2) hx hb hK_2 hP rfl (by decide) (v := 4) rfl dX5_init_75 ?_
  refine lv_icmp_ge (tgt := 98) hx hb dX5_init_76 (by decide) (fun h => absurd h (by decide)) (fun _ => ?_)
  refine lv_aload_n hx hb dX5_init_79 rfl (lv_at hl 1 rfl) ?_
  refine sc_get (k := 0) (fs := [.ref (b + 1), .ref (b + 10), .ref (b + 19), .ref (b + 27), .ref (b + 30), .ref (b + 31)]) (v := .ref (b + 30)) hx hb hts fi_X5_41 hown hK hP rfl (by decide) rfl dX5_init_80 ?_
  refine lv_iload_n hx hb dX5_init_83 rfl (lv_at hl 0 rfl) ?_
  refine sc_new (ci := 4) (n := 32) (fs := [.int 0, .int 0, .int 0, .int 0, .int 0, .int 0, .int 0, .null, .null]) (C := RX4) (T := TX4) (N := 9) hx hb hts sy_kw4 tyX4 tyX4_ok hown (List.forall_mem_cons.mpr ⟨wd_190, List.forall_mem_cons.mpr ⟨wd_192, List.forall_mem_cons.mpr ⟨wd_51, fun _ h => absurd h List.not_mem_nil⟩⟩⟩) hK hP hS hb0 (by omega) rfl (fun j hj => by rcases (show j = 0 ∨ j = 1 ∨ j = 2 ∨ j = 3 ∨ j = 4 ∨ j = 5 ∨ j = 6 ∨ j = 7 ∨ j = 8 by omega) with rfl | rfl | rfl | rfl | rfl | rfl | rfl | rfl | rfl <;> rfl) (Nat.le_of_ble_eq_true rfl) (Nat.le_of_ble_eq_true rfl) dX5_init_84 (fun H hP hS => ?_)
  refine lv_dup hx hb dX5_init_87 rfl ?_
  refine sc_callN (As := []) (k := 32) (rest := [.ref (b + 32), .int 0, .ref (b + 30)]) (mA := 0) (host := "SegmentYard") hx hb hml hown hts sc_View0 sc_tbT (List.forall_mem_cons.mpr ⟨wd_194, List.forall_mem_cons.mpr ⟨wd_51, List.forall_mem_cons.mpr ⟨wd_195, fun _ h => absurd h List.not_mem_nil⟩⟩⟩) (hpr.2 _ (by simp [sc_EX, RX5])) rfl ⟨by decide +kernel, by decide +kernel, by decide +kernel⟩ ⟨(Nat.le_of_ble_eq_true rfl), (Nat.le_of_ble_eq_true rfl)⟩ rfl rfl hl.1 (Nat.le_of_ble_eq_true rfl) hK hcA trivial hP hS (by decide) (by omega) (Nat.le_of_ble_eq_true rfl) (Nat.le_of_ble_eq_true rfl) dX5_init_88 (fun H locs hP hK1 hS => ?_)
  refine sc_astq (k := 30) (len := 4) (q := 32) (i := 0) hx hb hK_2 hP hS rfl (by decide) rfl (by decide) (sy_inb_of (by decide)).1 dX5_init_91 (fun H locs hP hS => ?_)
  refine lv_iinc (v := 1) (lv' := [(1, .int 1), (0, .ref (b + 0))]) hx hb dX5_init_92 hl (k := 0) rfl (by decide) (by decide) rfl (fun ls hl => ?_)
  refine lv_goto (tgt := 70) hx hb dX5_init_95 (by decide) ?_
  refine lv_iload_n hx hb dX5_init_70 rfl (lv_at hl 0 rfl) ?_
  refine lv_aload_n hx hb dX5_init_71 rfl (lv_at hl 1 rfl) ?_
  refine sc_get (k := 0) (fs := [.ref (b + 1), .ref (b + 10), .ref (b + 19), .ref (b + 27), .ref (b + 30), .ref (b + 31)]) (v := .ref (b + 30)) hx hb hts fi_X5_41 hown hK hP rfl (by decide) rfl dX5_init_72 ?_
  refine sc_alen (k := 30) (kd := 2) hx hb hK_2 hP rfl (by decide) (v := 4) rfl dX5_init_75 ?_
  refine lv_icmp_ge (tgt := 98) hx hb dX5_init_76 (by decide) (fun h => absurd h (by decide)) (fun _ => ?_)
  refine lv_aload_n hx hb dX5_init_79 rfl (lv_at hl 1 rfl) ?_
  refine sc_get (k := 0) (fs := [.ref (b + 1), .ref (b + 10), .ref (b + 19), .ref (b + 27), .ref (b + 30), .ref (b + 31)]) (v := .ref (b + 30)) hx hb hts fi_X5_41 hown hK hP rfl (by decide) rfl dX5_init_80 ?_
  refine lv_iload_n hx hb dX5_init_83 rfl (lv_at hl 0 rfl) ?_
  refine sc_new (ci := 4) (n := 35) (fs := [.int 0, .int 0, .int 0, .int 0, .int 0, .int 0, .int 0, .null, .null]) (C := RX4) (T := TX4) (N := 9) hx hb hts sy_kw4 tyX4 tyX4_ok hown (List.forall_mem_cons.mpr ⟨wd_190, List.forall_mem_cons.mpr ⟨wd_192, List.forall_mem_cons.mpr ⟨wd_51, fun _ h => absurd h List.not_mem_nil⟩⟩⟩) hK hP hS hb0 (by omega) rfl (fun j hj => by rcases (show j = 0 ∨ j = 1 ∨ j = 2 ∨ j = 3 ∨ j = 4 ∨ j = 5 ∨ j = 6 ∨ j = 7 ∨ j = 8 by omega) with rfl | rfl | rfl | rfl | rfl | rfl | rfl | rfl | rfl <;> rfl) (Nat.le_of_ble_eq_true rfl) (Nat.le_of_ble_eq_true rfl) dX5_init_84 (fun H hP hS => ?_)
  refine lv_dup hx hb dX5_init_87 rfl ?_
  refine sc_callN (As := []) (k := 35) (rest := [.ref (b + 35), .int 1, .ref (b + 30)]) (mA := 0) (host := "SegmentYard") hx hb hml hown hts sc_View1 sc_tbT (List.forall_mem_cons.mpr ⟨wd_194, List.forall_mem_cons.mpr ⟨wd_51, List.forall_mem_cons.mpr ⟨wd_195, fun _ h => absurd h List.not_mem_nil⟩⟩⟩) (hpr.2 _ (by simp [sc_EX, RX5])) rfl ⟨by decide +kernel, by decide +kernel, by decide +kernel⟩ ⟨(Nat.le_of_ble_eq_true rfl), (Nat.le_of_ble_eq_true rfl)⟩ rfl rfl hl.1 (Nat.le_of_ble_eq_true rfl) hK hcA trivial hP hS (by decide) (by omega) (Nat.le_of_ble_eq_true rfl) (Nat.le_of_ble_eq_true rfl) dX5_init_88 (fun H locs hP hK1 hS => ?_)
  refine sc_astq (k := 30) (len := 4) (q := 35) (i := 1) hx hb hK_2 hP hS rfl (by decide) rfl (by decide) (sy_inb_of (by decide)).1 dX5_init_91 (fun H locs hP hS => ?_)
  refine lv_iinc (v := 2) (lv' := [(1, .int 2), (0, .ref (b + 0))]) hx hb dX5_init_92 hl (k := 0) rfl (by decide) (by decide) rfl (fun ls hl => ?_)
  refine lv_goto (tgt := 70) hx hb dX5_init_95 (by decide) ?_
  refine lv_iload_n hx hb dX5_init_70 rfl (lv_at hl 0 rfl) ?_
  refine lv_aload_n hx hb dX5_init_71 rfl (lv_at hl 1 rfl) ?_
  refine sc_get (k := 0) (fs := [.ref (b + 1), .ref (b + 10), .ref (b + 19), .ref (b + 27), .ref (b + 30), .ref (b + 31)]) (v := .ref (b + 30)) hx hb hts fi_X5_41 hown hK hP rfl (by decide) rfl dX5_init_72 ?_
  refine sc_alen (k := 30) (kd := 2) hx hb hK_2 hP rfl (by decide) (v := 4) rfl dX5_init_75 ?_
  refine lv_icmp_ge (tgt := 98) hx hb dX5_init_76 (by decide) (fun h => absurd h (by decide)) (fun _ => ?_)
  refine lv_aload_n hx hb dX5_init_79 rfl (lv_at hl 1 rfl) ?_
  refine sc_get (k := 0) (fs := [.ref (b + 1), .ref (b + 10), .ref (b + 19), .ref (b + 27), .ref (b + 30), .ref (b + 31)]) (v := .ref (b + 30)) hx hb hts fi_X5_41 hown hK hP rfl (by decide) rfl dX5_init_80 ?_
  refine lv_iload_n hx hb dX5_init_83 rfl (lv_at hl 0 rfl) ?_
  refine sc_new (ci := 4) (n := 38) (fs := [.int 0, .int 0, .int 0, .int 0, .int 0, .int 0, .int 0, .null, .null]) (C := RX4) (T := TX4) (N := 9) hx hb hts sy_kw4 tyX4 tyX4_ok hown (List.forall_mem_cons.mpr ⟨wd_190, List.forall_mem_cons.mpr ⟨wd_192, List.forall_mem_cons.mpr ⟨wd_51, fun _ h => absurd h List.not_mem_nil⟩⟩⟩) hK hP hS hb0 (by omega) rfl (fun j hj => by rcases (show j = 0 ∨ j = 1 ∨ j = 2 ∨ j = 3 ∨ j = 4 ∨ j = 5 ∨ j = 6 ∨ j = 7 ∨ j = 8 by omega) with rfl | rfl | rfl | rfl | rfl | rfl | rfl | rfl | rfl <;> rfl) (Nat.le_of_ble_eq_true rfl) (Nat.le_of_ble_eq_true rfl) dX5_init_84 (fun H hP hS => ?_)
  refine lv_dup hx hb dX5_init_87 rfl ?_
  refine sc_callN (As := []) (k := 38) (rest := [.ref (b + 38), .int 2, .ref (b + 30)]) (mA := 0) (host := "SegmentYard") hx hb hml hown hts sc_View2 sc_tbT (List.forall_mem_cons.mpr ⟨wd_194, List.forall_mem_cons.mpr ⟨wd_51, List.forall_mem_cons.mpr ⟨wd_195, fun _ h => absurd h List.not_mem_nil⟩⟩⟩) (hpr.2 _ (by simp [sc_EX, RX5])) rfl ⟨by decide +kernel, by decide +kernel, by decide +kernel⟩ ⟨(Nat.le_of_ble_eq_true rfl), (Nat.le_of_ble_eq_true rfl)⟩ rfl rfl hl.1 (Nat.le_of_ble_eq_true rfl) hK hcA trivial hP hS (by decide) (by omega) (Nat.le_of_ble_eq_true rfl) (Nat.le_of_ble_eq_true rfl) dX5_init_88 (fun H locs hP hK1 hS => ?_)
  refine sc_astq (k := 30) (len := 4) (q := 38) (i := 2) hx hb hK_2 hP hS rfl (by decide) rfl (by decide) (sy_inb_of (by decide)).1 dX5_init_91 (fun H locs hP hS => ?_)
  refine lv_iinc (v := 3) (lv' := [(1, .int 3), (0, .ref (b + 0))]) hx hb dX5_init_92 hl (k := 0) rfl (by decide) (by decide) rfl (fun ls hl => ?_)
  refine lv_goto (tgt := 70) hx hb dX5_init_95 (by decide) ?_
  refine lv_iload_n hx hb dX5_init_70 rfl (lv_at hl 0 rfl) ?_
  refine lv_aload_n hx hb dX5_init_71 rfl (lv_at hl 1 rfl) ?_
  refine sc_get (k := 0) (fs := [.ref (b + 1), .ref (b + 10), .ref (b + 19), .ref (b + 27), .ref (b + 30), .ref (b + 31)]) (v := .ref (b + 30)) hx hb hts fi_X5_41 hown hK hP rfl (by decide) rfl dX5_init_72 ?_
  refine sc_alen (k := 30) (kd := 2) hx hb hK_2 hP rfl (by decide) (v := 4) rfl dX5_init_75 ?_
  refine lv_icmp_ge (tgt := 98) hx hb dX5_init_76 (by decide) (fun h => absurd h (by decide)) (fun _ => ?_)
  refine lv_aload_n hx hb dX5_init_79 rfl (lv_at hl 1 rfl) ?_
  refine sc_get (k := 0) (fs := [.ref (b + 1), .ref (b + 10), .ref (b + 19), .ref (b + 27), .ref (b + 30), .ref (b + 31)]) (v := .ref (b + 30)) hx hb hts fi_X5_41 hown hK hP rfl (by decide) rfl dX5_init_80 ?_
  refine lv_iload_n hx hb dX5_init_83 rfl (lv_at hl 0 rfl) ?_
  refine sc_new (ci := 4) (n := 41) (fs := [.int 0, .int 0, .int 0, .int 0, .int 0, .int 0, .int 0, .null, .null]) (C := RX4) (T := TX4) (N := 9) hx hb hts sy_kw4 tyX4 tyX4_ok hown (List.forall_mem_cons.mpr ⟨wd_190, List.forall_mem_cons.mpr ⟨wd_192, List.forall_mem_cons.mpr ⟨wd_51, fun _ h => absurd h List.not_mem_nil⟩⟩⟩) hK hP hS hb0 (by omega) rfl (fun j hj => by rcases (show j = 0 ∨ j = 1 ∨ j = 2 ∨ j = 3 ∨ j = 4 ∨ j = 5 ∨ j = 6 ∨ j = 7 ∨ j = 8 by omega) with rfl | rfl | rfl | rfl | rfl | rfl | rfl | rfl | rfl <;> rfl) (Nat.le_of_ble_eq_true rfl) (Nat.le_of_ble_eq_true rfl) dX5_init_84 (fun H hP hS => ?_)
  refine lv_dup hx hb dX5_init_87 rfl ?_
  refine sc_callN (As := []) (k := 41) (rest := [.ref (b + 41), .int 3, .ref (b + 30)]) (mA := 0) (host := "SegmentYard") hx hb hml hown hts sc_View3 sc_tbT (List.forall_mem_cons.mpr ⟨wd_194, List.forall_mem_cons.mpr ⟨wd_51, List.forall_mem_cons.mpr ⟨wd_195, fun _ h => absurd h List.not_mem_nil⟩⟩⟩) (hpr.2 _ (by simp [sc_EX, RX5])) rfl ⟨by decide +kernel, by decide +kernel, by decide +kernel⟩ ⟨(Nat.le_of_ble_eq_true rfl), (Nat.le_of_ble_eq_true rfl)⟩ rfl rfl hl.1 (Nat.le_of_ble_eq_true rfl) hK hcA trivial hP hS (by decide) (by omega) (Nat.le_of_ble_eq_true rfl) (Nat.le_of_ble_eq_true rfl) dX5_init_88 (fun H locs hP hK1 hS => ?_)
  refine sc_astq (k := 30) (len := 4) (q := 41) (i := 3) hx hb hK_2 hP hS rfl (by decide) rfl (by decide) (sy_inb_of (by decide)).1 dX5_init_91 (fun H locs hP hS => ?_)
  refine lv_iinc (v := 4) (lv' := [(1, .int 4), (0, .ref (b + 0))]) hx hb dX5_init_92 hl (k := 0) rfl (by decide) (by decide) rfl (fun ls hl => ?_)
  refine lv_goto (tgt := 70) hx hb dX5_init_95 (by decide) ?_
  refine lv_iload_n hx hb dX5_init_70 rfl (lv_at hl 0 rfl) ?_
  refine lv_aload_n hx hb dX5_init_71 rfl (lv_at hl 1 rfl) ?_
  refine sc_get (k := 0) (fs := [.ref (b + 1), .ref (b + 10), .ref (b + 19), .ref (b + 27), .ref (b + 30), .ref (b + 31)]) (v := .ref (b + 30)) hx hb hts fi_X5_41 hown hK hP rfl (by decide) rfl dX5_init_72 ?_
  refine sc_alen (k := 30) (kd := 2) hx hb hK_2 hP rfl (by decide) (v := 4) rfl dX5_init_75 ?_
  refine lv_icmp_ge (tgt := 98) hx hb dX5_init_76 (by decide) (fun _ => ?_) (fun h => absurd (by decide) h)
  exact W.vret hx hb hr (fun t ht hW => ⟨⟨(), rfl, trivial, by rw [ht]; exact hP, va_K.moved hW.alike ((hK_0.app hK_1).app hK_2)⟩, hS.F ht⟩) hS.2.2 dX5_init_98
end SYQ
