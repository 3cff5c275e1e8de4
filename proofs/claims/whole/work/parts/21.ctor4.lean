section SYP3
def sc_P_Model : sc_G := fun cA b F => sc_o F 44 6 [.int 0, .null, .null, .null, .null, .null, .null, .null, .null, .null, .null, .null, .null, .null, .null, .null, .null, .null, .null, .null, .null, .null, .null, .int 0, .int 0, .null, .null, .null, .null, .null, .null, .null, .null, .int 0, .null, .null, .int 0]
def sc_H_Model : sc_G := fun cA b F => (va_up (sc_r (sc_r (sc_r (sc_r (sc_r (sc_r (sc_r (sc_r (sc_r (sc_r (sc_r (sc_r (sc_r (sc_r (sc_r (sc_r (sc_r (sc_r (sc_r (sc_r (sc_r (sc_r (sc_r (sc_r (sc_r (sc_r (sc_r (sc_r (sc_r (sc_r (sc_r (sc_r F 45 (.inl (cA 0, (12, (.inl (fun _ => 0)))))) 46 (.inl (cA 0, (12, (.inl (fun _ => 0)))))) 47 (.inl (cA 0, (12, (.inl (fun _ => 0)))))) 48 (.inl (cA 0, (12, (.inl (fun _ => 0)))))) 49 (.inl (cA 0, (12, (.inl (fun _ => 0)))))) 50 (.inl (cA 0, (12, (.inl (fun _ => 0)))))) 51 (.inl (cA 0, (12, (.inl (fun _ => 0)))))) 52 (.inl (cA 0, (12, (.inl (fun _ => 0)))))) 53 (.inl (cA 0, (60, (.inl (fun _ => 0)))))) 54 (.inl (cA 0, (60, (.inl (fun _ => 0)))))) 55 (.inl (cA 0, (180, (.inl (fun _ => 0)))))) 56 (.inl (cA 1, (60, (.inl (fun _ => 0)))))) 57 (.inl (cA 0, (3, (.inl (fun _ => 0)))))) 58 (.inl (cA 0, (180, (.inl (fun _ => 0)))))) 59 (.inl (cA 0, (4, (.inl (fun _ => 0)))))) 60 (.inl (cA 0, (4, (.inl (fun _ => 0)))))) 61 (.inl (cA 0, (4, (.inl (fun _ => 0)))))) 62 (.inl (cA 0, (4, (.inl (fun _ => 0)))))) 63 (.inl (cA 0, (4, (.inl (fun _ => 0)))))) 64 (.inl (cA 0, (4, (.inl (fun _ => 0)))))) 65 (.inl (cA 0, (16, (.inl (fun _ => 0)))))) 66 (.inl (cA 0, (16, (.inl (fun _ => 0)))))) 67 (.inl (cA 0, (4, (.inl (fun _ => 0)))))) 68 (.inl (cA 0, (4, (.inl (fun _ => 0)))))) 69 (.inl (cA 0, (4, (.inl (fun _ => 0)))))) 70 (.inl (cA 1, (12, (.inl (fun _ => 0)))))) 71 (.inl (cA 0, (12, (.inl (fun _ => 0)))))) 72 (.inl (cA 0, (12, (.inl (fun _ => 0)))))) 73 (.inl (cA 0, (12, (.inl (fun _ => 0)))))) 74 (.inl (cA 0, (12, (.inl (fun _ => 0)))))) 75 (.inl (cA 0, (4, (.inl (fun _ => 0)))))) 76 (.inl (cA 0, (4, (.inl (fun _ => 0)))))) 44 (.inr (6, [.int 0, .ref (b + 45), .ref (b + 46), .ref (b + 47), .ref (b + 48), .ref (b + 49), .ref (b + 50), .ref (b + 51), .ref (b + 52), .ref (b + 53), .ref (b + 54), .ref (b + 55), .ref (b + 56), .ref (b + 57), .ref (b + 58), .ref (b + 59), .ref (b + 60), .ref (b + 61), .ref (b + 62), .ref (b + 63), .ref (b + 64), .ref (b + 65), .ref (b + 66), .int 0, .int 0, .ref (b + 67), .ref (b + 68), .ref (b + 69), .ref (b + 70), .ref (b + 71), .ref (b + 72), .ref (b + 73), .ref (b + 74), .int 0, .ref (b + 75), .ref (b + 76), .int 0])))
def sc_V0 : sc_G := fun cA b F => sc_up1 cA (sc_H_Model cA b F) 60
set_option maxRecDepth 100000 in
set_option maxHeartbeats 8000000 in
theorem sc_Model_loop {p : Program} {l : Launch} {e : Env} {R : Room} {s : State} {m : MethodId} {args : Array Value} {below : List Frame} {meth : Method} {c : Code} {Q : State → Prop} {D : va_G} {cA : Nat → ClassId} {b : Nat} {F : Nat → va_E} {H0 : Heap} {cells slots : Nat}
    (hx : p.tables.exec = Jvm.exec) (hb : c.code = cX6_init) (hts : ∀ w ∈ sy_AL, w.before args s = true) (hown : s.vm.findClass RX6 = some m.cls) (hK : va_K D vwCl [] s) (hK_0 : va_K D vwCl [(cA 0, .int)] s)
    (kk : ∀ (H : Heap) (locs : List Loc) (ls : Array Slot), va_P D vwCl (sc_ws b 77 (sc_V0 cA b F)) H → va_S (sy_ab b) H0 H locs → lv_has ls 2 [(1, .int (nI 60)), (0, .ref (b + 44))] → W p l e R s m args below meth c H locs cells slots Q (F0 m 271 ls [])) :
    ∀ (j i : Nat), i + j = 60 → ∀ (H : Heap) (locs : List Loc) (ls : Array Slot), va_P D vwCl (sc_ws b 77 (sc_up1 cA (sc_H_Model cA b F) i)) H → va_S (sy_ab b) H0 H locs → lv_has ls 2 [(1, .int (nI i)), (0, .ref (b + 44))] → W p l e R s m args below meth c H locs cells slots Q (F0 m 252 ls []) := by
  intro j
  induction j with
  | zero =>
    intro i hi H locs ls hP hS hl
    have h60 : i = 60 := by omega
    subst h60
    refine lv_iload_n hx hb dX6_init_252 rfl (lv_at hl 0 rfl) ?_
    refine lv_bipush (v := 60) hx hb dX6_init_253 (by decide) ?_
    exact lv_icmp_ge (tgt := 271) hx hb dX6_init_255 (by decide) (fun _ => kk H locs ls hP hS hl) (fun h => absurd (by decide) h)
  | succ j ih =>
    intro i hi H locs ls hP hS hl
    have hi60 : i < 60 := by omega
    refine lv_iload_n hx hb dX6_init_252 rfl (lv_at hl 0 rfl) ?_
    refine lv_bipush (v := 60) hx hb dX6_init_253 (by decide) ?_
    refine lv_icmp_ge (tgt := 271) hx hb dX6_init_255 (by decide) (fun h => absurd h (nI_ge hi60 (by decide))) (fun _ => ?_)
    have hin : vp_in (nI i) 60 := vp_in_nI hi60 (by decide)
    have hcl : (nI i).toNatClampNeg = i := nI_clamp (by omega)
    refine lv_aload_n hx hb dX6_init_258 rfl (lv_at hl 1 rfl) ?_
    refine sc_get (k := 44) (fs := [.int 0, .ref (b + 45), .ref (b + 46), .ref (b + 47), .ref (b + 48), .ref (b + 49), .ref (b + 50), .ref (b + 51), .ref (b + 52), .ref (b + 53), .ref (b + 54), .ref (b + 55), .ref (b + 56), .ref (b + 57), .ref (b + 58), .ref (b + 59), .ref (b + 60), .ref (b + 61), .ref (b + 62), .ref (b + 63), .ref (b + 64), .ref (b + 65), .ref (b + 66), .int 0, .int 0, .ref (b + 67), .ref (b + 68), .ref (b + 69), .ref (b + 70), .ref (b + 71), .ref (b + 72), .ref (b + 73), .ref (b + 74), .int 0, .ref (b + 75), .ref (b + 76), .int 0]) (v := .ref (b + 53)) hx hb hts fi_X6_34 hown hK hP rfl (by decide) rfl dX6_init_259 ?_
    refine lv_iload_n hx hb dX6_init_262 rfl (lv_at hl 0 rfl) ?_
    refine lv_iconst (v := (-1)) hx hb dX6_init_263 (by decide) ?_
    refine sc_iast (k := 53) (len := 60) (i := nI i) (x := (-1)) (f := sc_fl i) hx hb hK_0 hP hS rfl (by decide) hin dX6_init_264 (fun H locs hP hS => ?_)
    refine lv_iinc (v := nI (i + 1)) (lv' := [(1, .int (nI (i + 1))), (0, .ref (b + 44))]) hx hb dX6_init_265 hl (k := 0) rfl (nI_1 i) (by decide) rfl (fun ls hl => ?_)
    refine lv_goto (tgt := 252) hx hb dX6_init_268 (by decide) ?_
    refine ih (i + 1) (by omega) H locs ls ?_ hS hl
    rw [hcl] at hP
    rw [show sc_ws b 77 (sc_up1 cA (sc_H_Model cA b F) (i + 1)) = sc_ws b 77 (sc_i (sc_up1 cA (sc_H_Model cA b F) i) 53 i (-1)) from sc_ws_congr fun k _ => ?_]
    · exact hP
    · by_cases h53 : k = 53
      · subst h53; simp [sc_i, sc_up1, va_up, sc_fl_s]
      · simp [sc_i, sc_up1, va_up, h53]
def sc_P_Open0 : sc_G := sc_V0
def sc_V1 : sc_G := fun cA b F => (sc_i (sc_i (sc_i (sc_i (sc_i (sc_i (sc_V0 cA b F) 59 0 0) 60 0 0) 61 0 2) 62 0 (-1)) 63 0 (-1)) 64 0 0)
def sc_G_Open0 : sc_G := sc_V1
set_option maxRecDepth 100000 in
set_option maxHeartbeats 8000000 in
theorem sc_open0 {p : Program} {l : Launch} {e : Env} {R : Room} {s : State} {m : MethodId} {args : Array Value} {below : List Frame} {meth : Method} {c : Code} {Q : State → Prop} {D : va_G} {cA : Nat → ClassId} {b : Nat} {F : Nat → va_E} {H0 : Heap} {cells slots : Nat}
    (hx : p.tables.exec = Jvm.exec) (hb : c.code = cX6_opens) (hts : ∀ w ∈ sy_AL, w.before args s = true) (hown : s.vm.findClass RX6 = some m.cls) (hK : va_K D vwCl [] s) (hK_0 : va_K D vwCl [(cA 0, .int)] s)
    (kk : ∀ (H : Heap) (locs : List Loc) (ls : Array Slot), va_P D vwCl (sc_ws b 77 (sc_V1 cA b F)) H → va_S (sy_ab b) H0 H locs → W p l e R s m args below meth c H locs cells slots Q (F0 m 42 ls [])) (H : Heap) (locs : List Loc) (ls : Array Slot) (hP : va_P D vwCl (sc_ws b 77 (sc_V0 cA b F)) H) (hS : va_S (sy_ab b) H0 H locs) (hl : lv_has ls 4 [(0, .ref (b + 44)), (1, .int 0), (2, .int 0), (3, .int 0)]) : W p l e R s m args below meth c H locs cells slots Q (F0 m 0 ls []) := by
  refine lv_aload_n hx hb dX6_opens_0 rfl (lv_at hl 0 rfl) ?_
  refine sc_get (k := 44) (fs := [.int 0, .ref (b + 45), .ref (b + 46), .ref (b + 47), .ref (b + 48), .ref (b + 49), .ref (b + 50), .ref (b + 51), .ref (b + 52), .ref (b + 53), .ref (b + 54), .ref (b + 55), .ref (b + 56), .ref (b + 57), .ref (b + 58), .ref (b + 59), .ref (b + 60), .ref (b + 61), .ref (b + 62), .ref (b + 63), .ref (b + 64), .ref (b + 65), .ref (b + 66), .int 0, .int 0, .ref (b + 67), .ref (b + 68), .ref (b + 69), .ref (b + 70), .ref (b + 71), .ref (b + 72), .ref (b + 73), .ref (b + 74), .int 0, .ref (b + 75), .ref (b + 76), .int 0]) (v := .ref (b + 59)) hx hb hts fi_X6_53 hown hK hP rfl (by decide) rfl dX6_opens_1 ?_
  refine lv_iload_n hx hb dX6_opens_4 rfl (lv_at hl 1 rfl) ?_
  refine lv_iload_n hx hb dX6_opens_5 rfl (lv_at hl 2 rfl) ?_
  refine sc_iast (k := 59) (len := 4) (i := 0) (x := 0) hx hb hK_0 hP hS rfl (by decide) (sy_inb_of (by decide)).1 dX6_opens_6 (fun H locs hP hS => ?_)
  refine lv_aload_n hx hb dX6_opens_7 rfl (lv_at hl 0 rfl) ?_
  refine sc_get (k := 44) (fs := [.int 0, .ref (b + 45), .ref (b + 46), .ref (b + 47), .ref (b + 48), .ref (b + 49), .ref (b + 50), .ref (b + 51), .ref (b + 52), .ref (b + 53), .ref (b + 54), .ref (b + 55), .ref (b + 56), .ref (b + 57), .ref (b + 58), .ref (b + 59), .ref (b + 60), .ref (b + 61), .ref (b + 62), .ref (b + 63), .ref (b + 64), .ref (b + 65), .ref (b + 66), .int 0, .int 0, .ref (b + 67), .ref (b + 68), .ref (b + 69), .ref (b + 70), .ref (b + 71), .ref (b + 72), .ref (b + 73), .ref (b + 74), .int 0, .ref (b + 75), .ref (b + 76), .int 0]) (v := .ref (b + 60)) hx hb hts fi_X6_56 hown hK hP rfl (by decide) rfl dX6_opens_8 ?_
  refine lv_iload_n hx hb dX6_opens_11 rfl (lv_at hl 1 rfl) ?_
  refine lv_iload_n hx hb dX6_opens_12 rfl (lv_at hl 3 rfl) ?_
  refine sc_iast (k := 60) (len := 4) (i := 0) (x := 0) hx hb hK_0 hP hS rfl (by decide) (sy_inb_of (by decide)).1 dX6_opens_13 (fun H locs hP hS => ?_)
  refine lv_aload_n hx hb dX6_opens_14 rfl (lv_at hl 0 rfl) ?_
  refine sc_get (k := 44) (fs := [.int 0, .ref (b + 45), .ref (b + 46), .ref (b + 47), .ref (b + 48), .ref (b + 49), .ref (b + 50), .ref (b + 51), .ref (b + 52), .ref (b + 53), .ref (b + 54), .ref (b + 55), .ref (b + 56), .ref (b + 57), .ref (b + 58), .ref (b + 59), .ref (b + 60), .ref (b + 61), .ref (b + 62), .ref (b + 63), .ref (b + 64), .ref (b + 65), .ref (b + 66), .int 0, .int 0, .ref (b + 67), .ref (b + 68), .ref (b + 69), .ref (b + 70), .ref (b + 71), .ref (b + 72), .ref (b + 73), .ref (b + 74), .int 0, .ref (b + 75), .ref (b + 76), .int 0]) (v := .ref (b + 61)) hx hb hts fi_X6_59 hown hK hP rfl (by decide) rfl dX6_opens_15 ?_
  refine lv_iload_n hx hb dX6_opens_18 rfl (lv_at hl 1 rfl) ?_
  refine lv_iconst (v := 2) hx hb dX6_opens_19 (by decide) ?_
  refine sc_iast (k := 61) (len := 4) (i := 0) (x := 2) hx hb hK_0 hP hS rfl (by decide) (sy_inb_of (by decide)).1 dX6_opens_20 (fun H locs hP hS => ?_)
  refine lv_aload_n hx hb dX6_opens_21 rfl (lv_at hl 0 rfl) ?_
  refine sc_get (k := 44) (fs := [.int 0, .ref (b + 45), .ref (b + 46), .ref (b + 47), .ref (b + 48), .ref (b + 49), .ref (b + 50), .ref (b + 51), .ref (b + 52), .ref (b + 53), .ref (b + 54), .ref (b + 55), .ref (b + 56), .ref (b + 57), .ref (b + 58), .ref (b + 59), .ref (b + 60), .ref (b + 61), .ref (b + 62), .ref (b + 63), .ref (b + 64), .ref (b + 65), .ref (b + 66), .int 0, .int 0, .ref (b + 67), .ref (b + 68), .ref (b + 69), .ref (b + 70), .ref (b + 71), .ref (b + 72), .ref (b + 73), .ref (b + 74), .int 0, .ref (b + 75), .ref (b + 76), .int 0]) (v := .ref (b + 62)) hx hb hts fi_X6_62 hown hK hP rfl (by decide) rfl dX6_opens_22 ?_
  refine lv_iload_n hx hb dX6_opens_25 rfl (lv_at hl 1 rfl) ?_
  refine lv_iconst (v := (-1)) hx hb dX6_opens_26 (by decide) ?_
  refine sc_iast (k := 62) (len := 4) (i := 0) (x := (-1)) hx hb hK_0 hP hS rfl (by decide) (sy_inb_of (by decide)).1 dX6_opens_27 (fun H locs hP hS => ?_)
  refine lv_aload_n hx hb dX6_opens_28 rfl (lv_at hl 0 rfl) ?_
  refine sc_get (k := 44) (fs := [.int 0, .ref (b + 45), .ref (b + 46), .ref (b + 47), .ref (b + 48), .ref (b + 49), .ref (b + 50), .ref (b + 51), .ref (b + 52), .ref (b + 53), .ref (b + 54), .ref (b + 55), .ref (b + 56), .ref (b + 57), .ref (b + 58), .ref (b + 59), .ref (b + 60), .ref (b + 61), .ref (b + 62), .ref (b + 63), .ref (b + 64), .ref (b + 65), .ref (b + 66), .int 0, .int 0, .ref (b + 67), .ref (b + 68), .ref (b + 69), .ref (b + 70), .ref (b + 71), .ref (b + 72), .ref (b + 73), .ref (b + 74), .int 0, .ref (b + 75), .ref (b + 76), .int 0]) (v := .ref (b + 63)) hx hb hts fi_X6_65 hown hK hP rfl (by decide) rfl dX6_opens_29 ?_
  refine lv_iload_n hx hb dX6_opens_32 rfl (lv_at hl 1 rfl) ?_
  refine lv_iconst (v := (-1)) hx hb dX6_opens_33 (by decide) ?_
  refine sc_iast (k := 63) (len := 4) (i := 0) (x := (-1)) hx hb hK_0 hP hS rfl (by decide) (sy_inb_of (by decide)).1 dX6_opens_34 (fun H locs hP hS => ?_)
  refine lv_aload_n hx hb dX6_opens_35 rfl (lv_at hl 0 rfl) ?_
  refine sc_get (k := 44) (fs := [.int 0, .ref (b + 45), .ref (b + 46), .ref (b + 47), .ref (b + 48), .ref (b + 49), .ref (b + 50), .ref (b + 51), .ref (b + 52), .ref (b + 53), .ref (b + 54), .ref (b + 55), .ref (b + 56), .ref (b + 57), .ref (b + 58), .ref (b + 59), .ref (b + 60), .ref (b + 61), .ref (b + 62), .ref (b + 63), .ref (b + 64), .ref (b + 65), .ref (b + 66), .int 0, .int 0, .ref (b + 67), .ref (b + 68), .ref (b + 69), .ref (b + 70), .ref (b + 71), .ref (b + 72), .ref (b + 73), .ref (b + 74), .int 0, .ref (b + 75), .ref (b + 76), .int 0]) (v := .ref (b + 64)) hx hb hts fi_X6_68 hown hK hP rfl (by decide) rfl dX6_opens_36 ?_
  refine lv_iload_n hx hb dX6_opens_39 rfl (lv_at hl 1 rfl) ?_
  refine lv_iconst (v := 0) hx hb dX6_opens_40 (by decide) ?_
  refine sc_iast (k := 64) (len := 4) (i := 0) (x := 0) hx hb hK_0 hP hS rfl (by decide) (sy_inb_of (by decide)).1 dX6_opens_41 (fun H locs hP hS => ?_)
  exact kk H locs ls hP hS
def sc_P_Open1 : sc_G := sc_V1
def sc_V2 : sc_G := fun cA b F => (sc_i (sc_i (sc_i (sc_i (sc_i (sc_i (sc_V1 cA b F) 59 1 0) 60 1 0) 61 1 2) 62 1 (-1)) 63 1 (-1)) 64 1 0)
def sc_G_Open1 : sc_G := sc_V2
set_option maxRecDepth 100000 in
set_option maxHeartbeats 8000000 in
theorem sc_open1 {p : Program} {l : Launch} {e : Env} {R : Room} {s : State} {m : MethodId} {args : Array Value} {below : List Frame} {meth : Method} {c : Code} {Q : State → Prop} {D : va_G} {cA : Nat → ClassId} {b : Nat} {F : Nat → va_E} {H0 : Heap} {cells slots : Nat}
    (hx : p.tables.exec = Jvm.exec) (hb : c.code = cX6_opens) (hts : ∀ w ∈ sy_AL, w.before args s = true) (hown : s.vm.findClass RX6 = some m.cls) (hK : va_K D vwCl [] s) (hK_0 : va_K D vwCl [(cA 0, .int)] s)
    (kk : ∀ (H : Heap) (locs : List Loc) (ls : Array Slot), va_P D vwCl (sc_ws b 77 (sc_V2 cA b F)) H → va_S (sy_ab b) H0 H locs → W p l e R s m args below meth c H locs cells slots Q (F0 m 42 ls [])) (H : Heap) (locs : List Loc) (ls : Array Slot) (hP : va_P D vwCl (sc_ws b 77 (sc_V1 cA b F)) H) (hS : va_S (sy_ab b) H0 H locs) (hl : lv_has ls 4 [(0, .ref (b + 44)), (1, .int 1), (2, .int 0), (3, .int 0)]) : W p l e R s m args below meth c H locs cells slots Q (F0 m 0 ls []) := by
  refine lv_aload_n hx hb dX6_opens_0 rfl (lv_at hl 0 rfl) ?_
  refine sc_get (k := 44) (fs := [.int 0, .ref (b + 45), .ref (b + 46), .ref (b + 47), .ref (b + 48), .ref (b + 49), .ref (b + 50), .ref (b + 51), .ref (b + 52), .ref (b + 53), .ref (b + 54), .ref (b + 55), .ref (b + 56), .ref (b + 57), .ref (b + 58), .ref (b + 59), .ref (b + 60), .ref (b + 61), .ref (b + 62), .ref (b + 63), .ref (b + 64), .ref (b + 65), .ref (b + 66), .int 0, .int 0, .ref (b + 67), .ref (b + 68), .ref (b + 69), .ref (b + 70), .ref (b + 71), .ref (b + 72), .ref (b + 73), .ref (b + 74), .int 0, .ref (b + 75), .ref (b + 76), .int 0]) (v := .ref (b + 59)) hx hb hts fi_X6_53 hown hK hP rfl (by decide) rfl dX6_opens_1 ?_
  refine lv_iload_n hx hb dX6_opens_4 rfl (lv_at hl 1 rfl) ?_
  refine lv_iload_n hx hb dX6_opens_5 rfl (lv_at hl 2 rfl) ?_
  refine sc_iast (k := 59) (len := 4) (i := 1) (x := 0) hx hb hK_0 hP hS rfl (by decide) (sy_inb_of (by decide)).1 dX6_opens_6 (fun H locs hP hS => ?_)
  refine lv_aload_n hx hb dX6_opens_7 rfl (lv_at hl 0 rfl) ?_
  refine sc_get (k := 44) (fs := [.int 0, .ref (b + 45), .ref (b + 46), .ref (b + 47), .ref (b + 48), .ref (b + 49), .ref (b + 50), .ref (b + 51), .ref (b + 52), .ref (b + 53), .ref (b + 54), .ref (b + 55), .ref (b + 56), .ref (b + 57), .ref (b + 58), .ref (b + 59), .ref (b + 60), .ref (b + 61), .ref (b + 62), .ref (b + 63), .ref (b + 64), .ref (b + 65), .ref (b + 66), .int 0, .int 0, .ref (b + 67), .ref (b + 68), .ref (b + 69), .ref (b + 70), .ref (b + 71), .ref (b + 72), .ref (b + 73), .ref (b + 74), .int 0, .ref (b + 75), .ref (b + 76), .int 0]) (v := .ref (b + 60)) hx hb hts fi_X6_56 hown hK hP rfl (by decide) rfl dX6_opens_8 ?_
  refine lv_iload_n hx hb dX6_opens_11 rfl (lv_at hl 1 rfl) ?_
  refine lv_iload_n hx hb dX6_opens_12 rfl (lv_at hl 3 rfl) ?_
  refine sc_iast (k := 60) (len := 4) (i := 1) (x := 0) hx hb hK_0 hP hS rfl (by decide) (sy_inb_of (by decide)).1 dX6_opens_13 (fun H locs hP hS => ?_)
  refine lv_aload_n hx hb dX6_opens_14 rfl (lv_at hl 0 rfl) ?_
  refine sc_get (k := 44) (fs := [.int 0, .ref (b + 45), .ref (b + 46), .ref (b + 47), .ref (b + 48), .ref (b + 49), .ref (b + 50), .ref (b + 51), .ref (b + 52), .ref (b + 53), .ref (b + 54), .ref (b + 55), .ref (b + 56), .ref (b + 57), .ref (b + 58), .ref (b + 59), .ref (b + 60), .ref (b + 61), .ref (b + 62), .ref (b + 63), .ref (b + 64), .ref (b + 65), .ref (b + 66), .int 0, .int 0, .ref (b + 67), .ref (b + 68), .ref (b + 69), .ref (b + 70), .ref (b + 71), .ref (b + 72), .ref (b + 73), .ref (b + 74), .int 0, .ref (b + 75), .ref (b + 76), .int 0]) (v := .ref (b + 61)) hx hb hts fi_X6_59 hown hK hP rfl (by decide) rfl dX6_opens_15 ?_
  refine lv_iload_n hx hb dX6_opens_18 rfl (lv_at hl 1 rfl) ?_
  refine lv_iconst (v := 2) hx hb dX6_opens_19 (by decide) ?_
  refine sc_iast (k := 61) (len := 4) (i := 1) (x := 2) hx hb hK_0 hP hS rfl (by decide) (sy_inb_of (by decide)).1 dX6_opens_20 (fun H locs hP hS => ?_)
  refine lv_aload_n hx hb dX6_opens_21 rfl (lv_at hl 0 rfl) ?_
  refine sc_get (k := 44) (fs := [.int 0, .ref (b + 45), .ref (b + 46), .ref (b + 47), .ref (b + 48), .ref (b + 49), .ref (b + 50), .ref (b + 51), .ref (b + 52), .ref (b + 53), .ref (b + 54), .ref (b + 55), .ref (b + 56), .ref (b + 57), .ref (b + 58), .ref (b + 59), .ref (b + 60), .ref (b + 61), .ref (b + 62), .ref (b + 63), .ref (b + 64), .ref (b + 65), .ref (b + 66), .int 0, .int 0, .ref (b + 67), .ref (b + 68), .ref (b + 69), .ref (b + 70), .ref (b + 71), .ref (b + 72), .ref (b + 73), .ref (b + 74), .int 0, .ref (b + 75), .ref (b + 76), .int 0]) (v := .ref (b + 62)) hx hb hts fi_X6_62 hown hK hP rfl (by decide) rfl dX6_opens_22 ?_
  refine lv_iload_n hx hb dX6_opens_25 rfl (lv_at hl 1 rfl) ?_
  refine lv_iconst (v := (-1)) hx hb dX6_opens_26 (by decide) ?_
  refine sc_iast (k := 62) (len := 4) (i := 1) (x := (-1)) hx hb hK_0 hP hS rfl (by decide) (sy_inb_of (by decide)).1 dX6_opens_27 (fun H locs hP hS => ?_)
  refine lv_aload_n hx hb dX6_opens_28 rfl (lv_at hl 0 rfl) ?_
  refine sc_get (k := 44) (fs := [.int 0, .ref (b + 45), .ref (b + 46), .ref (b + 47), .ref (b + 48), .ref (b + 49), .ref (b + 50), .ref (b + 51), .ref (b + 52), .ref (b + 53), .ref (b + 54), .ref (b + 55), .ref (b + 56), .ref (b + 57), .ref (b + 58), .ref (b + 59), .ref (b + 60), .ref (b + 61), .ref (b + 62), .ref (b + 63), .ref (b + 64), .ref (b + 65), .ref (b + 66), .int 0, .int 0, .ref (b + 67), .ref (b + 68), .ref (b + 69), .ref (b + 70), .ref (b + 71), .ref (b + 72), .ref (b + 73), .ref (b + 74), .int 0, .ref (b + 75), .ref (b + 76), .int 0]) (v := .ref (b + 63)) hx hb hts fi_X6_65 hown hK hP rfl (by decide) rfl dX6_opens_29 ?_
  refine lv_iload_n hx hb dX6_opens_32 rfl (lv_at hl 1 rfl) ?_
  refine lv_iconst (v := (-1)) hx hb dX6_opens_33 (by decide) ?_
  refine sc_iast (k := 63) (len := 4) (i := 1) (x := (-1)) hx hb hK_0 hP hS rfl (by decide) (sy_inb_of (by decide)).1 dX6_opens_34 (fun H locs hP hS => ?_)
  refine lv_aload_n hx hb dX6_opens_35 rfl (lv_at hl 0 rfl) ?_
  refine sc_get (k := 44) (fs := [.int 0, .ref (b + 45), .ref (b + 46), .ref (b + 47), .ref (b + 48), .ref (b + 49), .ref (b + 50), .ref (b + 51), .ref (b + 52), .ref (b + 53), .ref (b + 54), .ref (b + 55), .ref (b + 56), .ref (b + 57), .ref (b + 58), .ref (b + 59), .ref (b + 60), .ref (b + 61), .ref (b + 62), .ref (b + 63), .ref (b + 64), .ref (b + 65), .ref (b + 66), .int 0, .int 0, .ref (b + 67), .ref (b + 68), .ref (b + 69), .ref (b + 70), .ref (b + 71), .ref (b + 72), .ref (b + 73), .ref (b + 74), .int 0, .ref (b + 75), .ref (b + 76), .int 0]) (v := .ref (b + 64)) hx hb hts fi_X6_68 hown hK hP rfl (by decide) rfl dX6_opens_36 ?_
  refine lv_iload_n hx hb dX6_opens_39 rfl (lv_at hl 1 rfl) ?_
  refine lv_iconst (v := 0) hx hb dX6_opens_40 (by decide) ?_
  refine sc_iast (k := 64) (len := 4) (i := 1) (x := 0) hx hb hK_0 hP hS rfl (by decide) (sy_inb_of (by decide)).1 dX6_opens_41 (fun H locs hP hS => ?_)
  exact kk H locs ls hP hS
def sc_P_Open2 : sc_G := sc_V2
def sc_V3 : sc_G := fun cA b F => (sc_i (sc_i (sc_i (sc_i (sc_i (sc_i (sc_V2 cA b F) 59 2 0) 60 2 0) 61 2 2) 62 2 (-1)) 63 2 (-1)) 64 2 0)
def sc_G_Open2 : sc_G := sc_V3
set_option maxRecDepth 100000 in
set_option maxHeartbeats 8000000 in
theorem sc_open2 {p : Program} {l : Launch} {e : Env} {R : Room} {s : State} {m : MethodId} {args : Array Value} {below : List Frame} {meth : Method} {c : Code} {Q : State → Prop} {D : va_G} {cA : Nat → ClassId} {b : Nat} {F : Nat → va_E} {H0 : Heap} {cells slots : Nat}
    (hx : p.tables.exec = Jvm.exec) (hb : c.code = cX6_opens) (hts : ∀ w ∈ sy_AL, w.before args s = true) (hown : s.vm.findClass RX6 = some m.cls) (hK : va_K D vwCl [] s) (hK_0 : va_K D vwCl [(cA 0, .int)] s)
    (kk : ∀ (H : Heap) (locs : List Loc) (ls : Array Slot), va_P D vwCl (sc_ws b 77 (sc_V3 cA b F)) H → va_S (sy_ab b) H0 H locs → W p l e R s m args below meth c H locs cells slots Q (F0 m 42 ls [])) (H : Heap) (locs : List Loc) (ls : Array Slot) (hP : va_P D vwCl (sc_ws b 77 (sc_V2 cA b F)) H) (hS : va_S (sy_ab b) H0 H locs) (hl : lv_has ls 4 [(0, .ref (b + 44)), (1, .int 2), (2, .int 0), (3, .int 0)]) : W p l e R s m args below meth c H locs cells slots Q (F0 m 0 ls []) := by
  refine lv_aload_n hx hb dX6_opens_0 rfl (lv_at hl 0 rfl) ?_
  refine sc_get (k := 44) (fs := [.int 0, .ref (b + 45), .ref (b + 46), .ref (b + 47), .ref (b + 48), .ref (b + 49), .ref (b + 50), .ref (b + 51), .ref (b + 52), .ref (b + 53), .ref (b + 54), .ref (b + 55), .ref (b + 56), .ref (b + 57), .ref (b + 58), .ref (b + 59), .ref (b + 60), .ref (b + 61), .ref (b + 62), .ref (b + 63), .ref (b + 64), .ref (b + 65), .ref (b + 66), .int 0, .int 0, .ref (b + 67), .ref (b + 68), .ref (b + 69), .ref (b + 70), .ref (b + 71), .ref (b + 72), .ref (b + 73), .ref (b + 74), .int 0, .ref (b + 75), .ref (b + 76), .int 0]) (v := .ref (b + 59)) hx hb hts fi_X6_53 hown hK hP rfl (by decide) rfl dX6_opens_1 ?_
  refine lv_iload_n hx hb dX6_opens_4 rfl (lv_at hl 1 rfl) ?_
  refine lv_iload_n hx hb dX6_opens_5 rfl (lv_at hl 2 rfl) ?_
  refine sc_iast (k := 59) (len := 4) (i := 2) (x := 0) hx hb hK_0 hP hS rfl (by decide) (sy_inb_of (by decide)).1 dX6_opens_6 (fun H locs hP hS => ?_)
  refine lv_aload_n hx hb dX6_opens_7 rfl (lv_at hl 0 rfl) ?_
  refine sc_get (k := 44) (fs := [.int 0, .ref (b + 45), .ref (b + 46), .ref (b + 47), .ref (b + 48), .ref (b + 49), .ref (b + 50), .ref (b + 51), .ref (b + 52), .ref (b + 53), .ref (b + 54), .ref (b + 55), .ref (b + 56), .ref (b + 57), .ref (b + 58), .ref (b + 59), .ref (b + 60), .ref (b + 61), .ref (b + 62), .ref (b + 63), .ref (b + 64), .ref (b + 65), .ref (b + 66), .int 0, .int 0, .ref (b + 67), .ref (b + 68), .ref (b + 69), .ref (b + 70), .ref (b + 71), .ref (b + 72), .ref (b + 73), .ref (b + 74), .int 0, .ref (b + 75), .ref (b + 76), .int 0]) (v := .ref (b + 60)) hx hb hts fi_X6_56 hown hK hP rfl (by decide) rfl dX6_opens_8 ?_
  refine lv_iload_n hx hb dX6_opens_11 rfl (lv_at hl 1 rfl) ?_
  refine lv_iload_n hx hb dX6_opens_12 rfl (lv_at hl 3 rfl) ?_
  refine sc_iast (k := 60) (len := 4) (i := 2) (x := 0) hx hb hK_0 hP hS rfl (by decide) (sy_inb_of (by decide)).1 dX6_opens_13 (fun H locs hP hS => ?_)
  refine lv_aload_n hx hb dX6_opens_14 rfl (lv_at hl 0 rfl) ?_
  refine sc_get (k := 44) (fs := [.int 0, .ref (b + 45), .ref (b + 46), .ref (b + 47), .ref (b + 48), .ref (b + 49), .ref (b + 50), .ref (b + 51), .ref (b + 52), .ref (b + 53), .ref (b + 54), .ref (b + 55), .ref (b + 56), .ref (b + 57), .ref (b + 58), .ref (b + 59), .ref (b + 60), .ref (b + 61), .ref (b + 62), .ref (b + 63), .ref (b + 64), .ref (b + 65), .ref (b + 66), .int 0, .int 0, .ref (b + 67), .ref (b + 68), .ref (b + 69), .ref (b + 70), .ref (b + 71), .ref (b + 72), .ref (b + 73), .ref (b + 74), .int 0, .ref (b + 75), .ref (b + 76), .int 0]) (v := .ref (b + 61)) hx hb hts fi_X6_59 hown hK hP rfl (by decide) rfl dX6_opens_15 ?_
  refine lv_iload_n hx hb dX6_opens_18 rfl (lv_at hl 1 rfl) ?_
  refine lv_iconst (v := 2) hx hb dX6_opens_19 (by decide) ?_
  refine sc_iast (k := 61) (len := 4) (i := 2) (x := 2) hx hb hK_0 hP hS rfl (by decide) (sy_inb_of (by decide)).1 dX6_opens_20 (fun H locs hP hS => ?_)
  refine lv_aload_n hx hb dX6_opens_21 rfl (lv_at hl 0 rfl) ?_
  refine sc_get (k := 44) (fs := [.int 0, .ref (b + 45), .ref (b + 46), .ref (b + 47), .ref (b + 48), .ref (b + 49), .ref (b + 50), .ref (b + 51), .ref (b + 52), .ref (b + 53), .ref (b + 54), .ref (b + 55), .ref (b + 56), .ref (b + 57), .ref (b + 58), .ref (b + 59), .ref (b + 60), .ref (b + 61), .ref (b + 62), .ref (b + 63), .ref (b + 64), .ref (b + 65), .ref (b + 66), .int 0, .int 0, .ref (b + 67), .ref (b + 68), .ref (b + 69), .ref (b + 70), .ref (b + 71), .ref (b + 72), .ref (b + 73), .ref (b + 74), .int 0, .ref (b + 75), .ref (b + 76), .int 0]) (v := .ref (b + 62)) hx hb hts fi_X6_62 hown hK hP rfl (by decide) rfl dX6_opens_22 ?_
  refine lv_iload_n hx hb dX6_opens_25 rfl (lv_at hl 1 rfl) ?_
  refine lv_iconst (v := (-1)) hx hb dX6_opens_26 (by decide) ?_
  refine sc_iast (k := 62) (len := 4) (i := 2) (x := (-1)) hx hb hK_0 hP hS rfl (by decide) (sy_inb_of (by decide)).1 dX6_opens_27 (fun H locs hP hS => ?_)
  refine lv_aload_n hx hb dX6_opens_28 rfl (lv_at hl 0 rfl) ?_
  refine sc_get (k := 44) (fs := [.int 0, .ref (b + 45), .ref (b + 46), .ref (b + 47), .ref (b + 48), .ref (b + 49), .ref (b + 50), .ref (b + 51), .ref (b + 52), .ref (b + 53), .ref (b + 54), .ref (b + 55), .ref (b + 56), .ref (b + 57), .ref (b + 58), .ref (b + 59), .ref (b + 60), .ref (b + 61), .ref (b + 62), .ref (b + 63), .ref (b + 64), .ref (b + 65), .ref (b + 66), .int 0, .int 0, .ref (b + 67), .ref (b + 68), .ref (b + 69), .ref (b + 70), .ref (b + 71), .ref (b + 72), .ref (b + 73), .ref (b + 74), .int 0, .ref (b + 75), .ref (b + 76), .int 0]) (v := .ref (b + 63)) hx hb hts fi_X6_65 hown hK hP rfl (by decide) rfl dX6_opens_29 ?_
  refine lv_iload_n hx hb dX6_opens_32 rfl (lv_at hl 1 rfl) ?_
  refine lv_iconst (v := (-1)) hx hb dX6_opens_33 (by decide) ?_
  refine sc_iast (k := 63) (len := 4) (i := 2) (x := (-1)) hx hb hK_0 hP hS rfl (by decide) (sy_inb_of (by decide)).1 dX6_opens_34 (fun H locs hP hS => ?_)
  refine lv_aload_n hx hb dX6_opens_35 rfl (lv_at hl 0 rfl) ?_
  refine sc_get (k := 44) (fs := [.int 0, .ref (b + 45), .ref (b + 46), .ref (b + 47), .ref (b + 48), .ref (b + 49), .ref (b + 50), .ref (b + 51), .ref (b + 52), .ref (b + 53), .ref (b + 54), .ref (b + 55), .ref (b + 56), .ref (b + 57), .ref (b + 58), .ref (b + 59), .ref (b + 60), .ref (b + 61), .ref (b + 62), .ref (b + 63), .ref (b + 64), .ref (b + 65), .ref (b + 66), .int 0, .int 0, .ref (b + 67), .ref (b + 68), .ref (b + 69), .ref (b + 70), .ref (b + 71), .ref (b + 72), .ref (b + 73), .ref (b + 74), .int 0, .ref (b + 75), .ref (b + 76), .int 0]) (v := .ref (b + 64)) hx hb hts fi_X6_68 hown hK hP rfl (by decide) rfl dX6_opens_36 ?_
  refine lv_iload_n hx hb dX6_opens_39 rfl (lv_at hl 1 rfl) ?_
  refine lv_iconst (v := 0) hx hb dX6_opens_40 (by decide) ?_
  refine sc_iast (k := 64) (len := 4) (i := 2) (x := 0) hx hb hK_0 hP hS rfl (by decide) (sy_inb_of (by decide)).1 dX6_opens_41 (fun H locs hP hS => ?_)
  exact kk H locs ls hP hS
def sc_P_Open3 : sc_G := sc_V3
def sc_V4 : sc_G := fun cA b F => (sc_i (sc_i (sc_i (sc_i (sc_i (sc_i (sc_V3 cA b F) 59 3 0) 60 3 0) 61 3 2) 62 3 (-1)) 63 3 (-1)) 64 3 0)
def sc_G_Open3 : sc_G := sc_V4
set_option maxRecDepth 100000 in
set_option maxHeartbeats 8000000 in
theorem sc_open3 {p : Program} {l : Launch} {e : Env} {R : Room} {s : State} {m : MethodId} {args : Array Value} {below : List Frame} {meth : Method} {c : Code} {Q : State → Prop} {D : va_G} {cA : Nat → ClassId} {b : Nat} {F : Nat → va_E} {H0 : Heap} {cells slots : Nat}
    (hx : p.tables.exec = Jvm.exec) (hb : c.code = cX6_opens) (hts : ∀ w ∈ sy_AL, w.before args s = true) (hown : s.vm.findClass RX6 = some m.cls) (hK : va_K D vwCl [] s) (hK_0 : va_K D vwCl [(cA 0, .int)] s)
    (kk : ∀ (H : Heap) (locs : List Loc) (ls : Array Slot), va_P D vwCl (sc_ws b 77 (sc_V4 cA b F)) H → va_S (sy_ab b) H0 H locs → W p l e R s m args below meth c H locs cells slots Q (F0 m 42 ls [])) (H : Heap) (locs : List Loc) (ls : Array Slot) (hP : va_P D vwCl (sc_ws b 77 (sc_V3 cA b F)) H) (hS : va_S (sy_ab b) H0 H locs) (hl : lv_has ls 4 [(0, .ref (b + 44)), (1, .int 3), (2, .int 0), (3, .int 0)]) : W p l e R s m args below meth c H locs cells slots Q (F0 m 0 ls []) := by
  refine lv_aload_n hx hb dX6_opens_0 rfl (lv_at hl 0 rfl) ?_
  refine sc_get (k := 44) (fs := [.int 0, .ref (b + 45), .ref (b + 46), .ref (b + 47), .ref (b + 48), .ref (b + 49), .ref (b + 50), .ref (b + 51), .ref (b + 52), .ref (b + 53), .ref (b + 54), .ref (b + 55), .ref (b + 56), .ref (b + 57), .ref (b + 58), .ref (b + 59), .ref (b + 60), .ref (b + 61), .ref (b + 62), .ref (b + 63), .ref (b + 64), .ref (b + 65), .ref (b + 66), .int 0, .int 0, .ref (b + 67), .ref (b + 68), .ref (b + 69), .ref (b + 70), .ref (b + 71), .ref (b + 72), .ref (b + 73), .ref (b + 74), .int 0, .ref (b + 75), .ref (b + 76), .int 0]) (v := .ref (b + 59)) hx hb hts fi_X6_53 hown hK hP rfl (by decide) rfl dX6_opens_1 ?_
  refine lv_iload_n hx hb dX6_opens_4 rfl (lv_at hl 1 rfl) ?_
  refine lv_iload_n hx hb dX6_opens_5 rfl (lv_at hl 2 rfl) ?_
  refine sc_iast (k := 59) (len := 4) (i := 3) (x := 0) hx hb hK_0 hP hS rfl (by decide) (sy_inb_of (by decide)).1 dX6_opens_6 (fun H locs hP hS => ?_)
  refine lv_aload_n hx hb dX6_opens_7 rfl (lv_at hl 0 rfl) ?_
  refine sc_get (k := 44) (fs := [.int 0, .ref (b + 45), .ref (b + 46), .ref (b + 47), .ref (b + 48), .ref (b + 49), .ref (b + 50), .ref (b + 51), .ref (b + 52), .ref (b + 53), .ref (b + 54), .ref (b + 55), .ref (b + 56), .ref (b + 57), .ref (b + 58), .ref (b + 59), .ref (b + 60), .ref (b + 61), .ref (b + 62), .ref (b + 63), .ref (b + 64), .ref (b + 65), .ref (b + 66), .int 0, .int 0, .ref (b + 67), .ref (b + 68), .ref (b + 69), .ref (b + 70), .ref (b + 71), .ref (b + 72), .ref (b + 73), .ref (b + 74), .int 0, .ref (b + 75), .ref (b + 76), .int 0]) (v := .ref (b + 60)) hx hb hts fi_X6_56 hown hK hP rfl (by decide) rfl dX6_opens_8 ?_
  refine lv_iload_n hx hb dX6_opens_11 rfl (lv_at hl 1 rfl) ?_
  refine lv_iload_n hx hb dX6_opens_12 rfl (lv_at hl 3 rfl) ?_
  refine sc_iast (k := 60) (len := 4) (i := 3) (x := 0) hx hb hK_0 hP hS rfl (by decide) (sy_inb_of (by decide)).1 dX6_opens_13 (fun H locs hP hS => ?_)
  refine lv_aload_n hx hb dX6_opens_14 rfl (lv_at hl 0 rfl) ?_
  refine sc_get (k := 44) (fs := [.int 0, .ref (b + 45), .ref (b + 46), .ref (b + 47), .ref (b + 48), .ref (b + 49), .ref (b + 50), .ref (b + 51), .ref (b + 52), .ref (b + 53), .ref (b + 54), .ref (b + 55), .ref (b + 56), .ref (b + 57), .ref (b + 58), .ref (b + 59), .ref (b + 60), .ref (b + 61), .ref (b + 62), .ref (b + 63), .ref (b + 64), .ref (b + 65), .ref (b + 66), .int 0, .int 0, .ref (b + 67), .ref (b + 68), .ref (b + 69), .ref (b + 70), .ref (b + 71), .ref (b + 72), .ref (b + 73), .ref (b + 74), .int 0, .ref (b + 75), .ref (b + 76), .int 0]) (v := .ref (b + 61)) hx hb hts fi_X6_59 hown hK hP rfl (by decide) rfl dX6_opens_15 ?_
  refine lv_iload_n hx hb dX6_opens_18 rfl (lv_at hl 1 rfl) ?_
  refine lv_iconst (v := 2) hx hb dX6_opens_19 (by decide) ?_
  refine sc_iast (k := 61) (len := 4) (i := 3) (x := 2) hx hb hK_0 hP hS rfl (by decide) (sy_inb_of (by decide)).1 dX6_opens_20 (fun H locs hP hS => ?_)
  refine lv_aload_n hx hb dX6_opens_21 rfl (lv_at hl 0 rfl) ?_
  refine sc_get (k := 44) (fs := [.int 0, .ref (b + 45), .ref (b + 46), .ref (b + 47), .ref (b + 48), .ref (b + 49), .ref (b + 50), .ref (b + 51), .ref (b + 52), .ref (b + 53), .ref (b + 54), .ref (b + 55), .ref (b + 56), .ref (b + 57), .ref (b + 58), .ref (b + 59), .ref (b + 60), .ref (b + 61), .ref (b + 62), .ref (b + 63), .ref (b + 64), .ref (b + 65), .ref (b + 66), .int 0, .int 0, .ref (b + 67), .ref (b + 68), .ref (b + 69), .ref (b + 70), .ref (b + 71), .ref (b + 72), .ref (b + 73), .ref (b + 74), .int 0, .ref (b + 75), .ref (b + 76), .int 0]) (v := .ref (b + 62)) hx hb hts fi_X6_62 hown hK hP rfl (by decide) rfl dX6_opens_22 ?_
  refine lv_iload_n hx hb dX6_opens_25 rfl (lv_at hl 1 rfl) ?_
  refine lv_iconst (v := (-1)) hx hb dX6_opens_26 (by decide) ?_
  refine sc_iast (k := 62) (len := 4) (i := 3) (x := (-1)) hx hb hK_0 hP hS rfl (by decide) (sy_inb_of (by decide)).1 dX6_opens_27 (fun H locs hP hS => ?_)
  refine lv_aload_n hx hb dX6_opens_28 rfl (lv_at hl 0 rfl) ?_
  refine sc_get (k := 44) (fs := [.int 0, .ref (b + 45), .ref (b + 46), .ref (b + 47), .ref (b + 48), .ref (b + 49), .ref (b + 50), .ref (b + 51), .ref (b + 52), .ref (b + 53), .ref (b + 54), .ref (b + 55), .ref (b + 56), .ref (b + 57), .ref (b + 58), .ref (b + 59), .ref (b + 60), .ref (b + 61), .ref (b + 62), .ref (b + 63), .ref (b + 64), .ref (b + 65), .ref (b + 66), .int 0, .int 0, .ref (b + 67), .ref (b + 68), .ref (b + 69), .ref (b + 70), .ref (b + 71), .ref (b + 72), .ref (b + 73), .ref (b + 74), .int 0, .ref (b + 75), .ref (b + 76), .int 0]) (v := .ref (b + 63)) hx hb hts fi_X6_65 hown hK hP rfl (by decide) rfl dX6_opens_29 ?_
  refine lv_iload_n hx hb dX6_opens_32 rfl (lv_at hl 1 rfl) ?_
  refine lv_iconst (v := (-1)) hx hb dX6_opens_33 (by decide) ?_
  refine sc_iast (k := 63) (len := 4) (i := 3) (x := (-1)) hx hb hK_0 hP hS rfl (by decide) (sy_inb_of (by decide)).1 dX6_opens_34 (fun H locs hP hS => ?_)
  refine lv_aload_n hx hb dX6_opens_35 rfl (lv_at hl 0 rfl) ?_
  refine sc_get (k := 44) (fs := [.int 0, .ref (b + 45), .ref (b + 46), .ref (b + 47), .ref (b + 48), .ref (b + 49), .ref (b + 50), .ref (b + 51), .ref (b + 52), .ref (b + 53), .ref (b + 54), .ref (b + 55), .ref (b + 56), .ref (b + 57), .ref (b + 58), .ref (b + 59), .ref (b + 60), .ref (b + 61), .ref (b + 62), .ref (b + 63), .ref (b + 64), .ref (b + 65), .ref (b + 66), .int 0, .int 0, .ref (b + 67), .ref (b + 68), .ref (b + 69), .ref (b + 70), .ref (b + 71), .ref (b + 72), .ref (b + 73), .ref (b + 74), .int 0, .ref (b + 75), .ref (b + 76), .int 0]) (v := .ref (b + 64)) hx hb hts fi_X6_68 hown hK hP rfl (by decide) rfl dX6_opens_36 ?_
  refine lv_iload_n hx hb dX6_opens_39 rfl (lv_at hl 1 rfl) ?_
  refine lv_iconst (v := 0) hx hb dX6_opens_40 (by decide) ?_
  refine sc_iast (k := 64) (len := 4) (i := 3) (x := 0) hx hb hK_0 hP hS rfl (by decide) (sy_inb_of (by decide)).1 dX6_opens_41 (fun H locs hP hS => ?_)
  exact kk H locs ls hP hS
set_option maxRecDepth 100000 in
set_option maxHeartbeats 8000000 in
theorem sc_Open0 : sc_M yX6_opens cX6_opens 4 1 (fun b => [.ref (b + 44), .int 0, .int 0, .int 0]) 77 77 0 (fun _ => True) (fun cA => [(cA 0, .int)]) sc_P_Open0 sc_G_Open0 (fun cA => []) := by
  intro l D cA b F
  refine Met.ofW (cc := cX6_opens) (maxL := 4) (ret := none) (by decide) rfl ?_
  intro p e s m args below meth c s₁ B hml hv
  obtain ⟨rfl, hsz, hP, hK_0, hcA, hpr⟩ := hv
  have hx := B.exec
  have hb := B.bytes
  have hr := B.returns
  have hts0 := atoms_spec (ws := Cond.code yX6_opens cX6_opens 4 none :: sy_AL) B.pre
  have hts : ∀ w ∈ sy_AL, w.before _ s = true := fun w hw => hts0 w (List.mem_cons_of_mem _ hw)
  have hown : s.vm.findClass RX6 = some m.cls := findClass_of_methodNamed B.named
  have hlocks := B.notSynchronized
  have hK : va_K D vwCl [] s := hK_0.sub [] rfl
  have hb0 : b ≤ s.heap.size := by omega
  have hS : va_S (sy_ab b) s.heap s.heap [] := va_S.rf
  have hl := lv_entry ([.ref (b + 44), .int 0, .int 0, .int 0]) (n := 4) (Nat.le_of_ble_eq_true rfl)
  rw [lg_entry_eq]
  generalize (lg_sl ([.ref (b + 44), .int 0, .int 0, .int 0]) ++ List.replicate (4 - (lg_sl ([.ref (b + 44), .int 0, .int 0, .int 0])).length) Slot.unset).toArray = ls at hl ⊢
  refine sc_open0 (cA := cA) (b := b) (F := F) hx hb hts hown hK hK_0 (fun H locs ls hP hS => ?_) _ _ ls hP hS hl
  exact W.vret hx hb hr (fun t ht hW => ⟨⟨(), rfl, trivial, by rw [ht]; exact hP, va_K.moved hW.alike hK⟩, hS.F ht⟩) hS.2.2 dX6_opens_42
set_option maxRecDepth 100000 in
set_option maxHeartbeats 8000000 in
theorem sc_Open1 : sc_M yX6_opens cX6_opens 4 1 (fun b => [.ref (b + 44), .int 1, .int 0, .int 0]) 77 77 0 (fun _ => True) (fun cA => [(cA 0, .int)]) sc_P_Open1 sc_G_Open1 (fun cA => []) := by
  intro l D cA b F
  refine Met.ofW (cc := cX6_opens) (maxL := 4) (ret := none) (by decide) rfl ?_
  intro p e s m args below meth c s₁ B hml hv
  obtain ⟨rfl, hsz, hP, hK_0, hcA, hpr⟩ := hv
  have hx := B.exec
  have hb := B.bytes
  have hr := B.returns
  have hts0 := atoms_spec (ws := Cond.code yX6_opens cX6_opens 4 none :: sy_AL) B.pre
  have hts : ∀ w ∈ sy_AL, w.before _ s = true := fun w hw => hts0 w (List.mem_cons_of_mem _ hw)
  have hown : s.vm.findClass RX6 = some m.cls := findClass_of_methodNamed B.named
  have hlocks := B.notSynchronized
  have hK : va_K D vwCl [] s := hK_0.sub [] rfl
  have hb0 : b ≤ s.heap.size := by omega
  have hS : va_S (sy_ab b) s.heap s.heap [] := va_S.rf
  have hl := lv_entry ([.ref (b + 44), .int 1, .int 0, .int 0]) (n := 4) (Nat.le_of_ble_eq_true rfl)
  rw [lg_entry_eq]
  generalize (lg_sl ([.ref (b + 44), .int 1, .int 0, .int 0]) ++ List.replicate (4 - (lg_sl ([.ref (b + 44), .int 1, .int 0, .int 0])).length) Slot.unset).toArray = ls at hl ⊢
  refine sc_open1 (cA := cA) (b := b) (F := F) hx hb hts hown hK hK_0 (fun H locs ls hP hS => ?_) _ _ ls hP hS hl
  exact W.vret hx hb hr (fun t ht hW => ⟨⟨(), rfl, trivial, by rw [ht]; exact hP, va_K.moved hW.alike hK⟩, hS.F ht⟩) hS.2.2 dX6_opens_42
set_option maxRecDepth 100000 in
set_option maxHeartbeats 8000000 in
theorem sc_Open2 : sc_M yX6_opens cX6_opens 4 1 (fun b => [.ref (b + 44), .int 2, .int 0, .int 0]) 77 77 0 (fun _ => True) (fun cA => [(cA 0, .int)]) sc_P_Open2 sc_G_Open2 (fun cA => []) := by
  intro l D cA b F
  refine Met.ofW (cc := cX6_opens) (maxL := 4) (ret := none) (by decide) rfl ?_
  intro p e s m args below meth c s₁ B hml hv
  obtain ⟨rfl, hsz, hP, hK_0, hcA, hpr⟩ := hv
  have hx := B.exec
  have hb := B.bytes
  have hr := B.returns
  have hts0 := atoms_spec (ws := Cond.code yX6_opens cX6_opens 4 none :: sy_AL) B.pre
  have hts : ∀ w ∈ sy_AL, w.before _ s = true := fun w hw => hts0 w (List.mem_cons_of_mem _ hw)
  have hown : s.vm.findClass RX6 = some m.cls := findClass_of_methodNamed B.named
  have hlocks := B.notSynchronized
  have hK : va_K D vwCl [] s := hK_0.sub [] rfl
  have hb0 : b ≤ s.heap.size := by omega
  have hS : va_S (sy_ab b) s.heap s.heap [] := va_S.rf
  have hl := lv_entry ([.ref (b + 44), .int 2, .int 0, .int 0]) (n := 4) (Nat.le_of_ble_eq_true rfl)
  rw [lg_entry_eq]
  generalize (lg_sl ([.ref (b + 44), .int 2, .int 0, .int 0]) ++ List.replicate (4 - (lg_sl ([.ref (b + 44), .int 2, .int 0, .int 0])).length) Slot.unset).toArray = ls at hl ⊢
  refine sc_open2 (cA := cA) (b := b) (F := F) hx hb hts hown hK hK_0 (fun H locs ls hP hS => ?_) _ _ ls hP hS hl
  exact W.vret hx hb hr (fun t ht hW => ⟨⟨(), rfl, trivial, by rw [ht]; exact hP, va_K.moved hW.alike hK⟩, hS.F ht⟩) hS.2.2 dX6_opens_42
set_option maxRecDepth 100000 in
set_option maxHeartbeats 8000000 in
theorem sc_Open3 : sc_M yX6_opens cX6_opens 4 1 (fun b => [.ref (b + 44), .int 3, .int 0, .int 0]) 77 77 0 (fun _ => True) (fun cA => [(cA 0, .int)]) sc_P_Open3 sc_G_Open3 (fun cA => []) := by
  intro l D cA b F
  refine Met.ofW (cc := cX6_opens) (maxL := 4) (ret := none) (by decide) rfl ?_
  intro p e s m args below meth c s₁ B hml hv
  obtain ⟨rfl, hsz, hP, hK_0, hcA, hpr⟩ := hv
  have hx := B.exec
  have hb := B.bytes
  have hr := B.returns
  have hts0 := atoms_spec (ws := Cond.code yX6_opens cX6_opens 4 none :: sy_AL) B.pre
  have hts : ∀ w ∈ sy_AL, w.before _ s = true := fun w hw => hts0 w (List.mem_cons_of_mem _ hw)
  have hown : s.vm.findClass RX6 = some m.cls := findClass_of_methodNamed B.named
  have hlocks := B.notSynchronized
  have hK : va_K D vwCl [] s := hK_0.sub [] rfl
  have hb0 : b ≤ s.heap.size := by omega
  have hS : va_S (sy_ab b) s.heap s.heap [] := va_S.rf
  have hl := lv_entry ([.ref (b + 44), .int 3, .int 0, .int 0]) (n := 4) (Nat.le_of_ble_eq_true rfl)
  rw [lg_entry_eq]
  generalize (lg_sl ([.ref (b + 44), .int 3, .int 0, .int 0]) ++ List.replicate (4 - (lg_sl ([.ref (b + 44), .int 3, .int 0, .int 0])).length) Slot.unset).toArray = ls at hl ⊢
  refine sc_open3 (cA := cA) (b := b) (F := F) hx hb hts hown hK hK_0 (fun H locs ls hP hS => ?_) _ _ ls hP hS hl
  exact W.vret hx hb hr (fun t ht hW => ⟨⟨(), rfl, trivial, by rw [ht]; exact hP, va_K.moved hW.alike hK⟩, hS.F ht⟩) hS.2.2 dX6_opens_42
def sc_G_Model : sc_G := sc_V4
set_option maxRecDepth 100000 in
set_option maxHeartbeats 8000000 in
theorem sc_Model : sc_M yX6_init cX6_init 2 3 (fun b => [.ref (b + 44)]) 45 77 775 (fun _ => True) (fun cA => []) sc_P_Model sc_G_Model (fun cA => [(cA 0, .int), (cA 1, .boolean)]) := by
  intro l D cA b F
  refine Met.ofW (cc := cX6_init) (maxL := 2) (ret := none) (by decide) rfl ?_
  intro p e s m args below meth c s₁ B hml hv
  obtain ⟨rfl, hsz, hP, hK, hcA, hpr⟩ := hv
  have hx := B.exec
  have hb := B.bytes
  have hr := B.returns
  have hts0 := atoms_spec (ws := Cond.code yX6_init cX6_init 2 none :: sy_AL) B.pre
  have hts : ∀ w ∈ sy_AL, w.before _ s = true := fun w hw => hts0 w (List.mem_cons_of_mem _ hw)
  have hown : s.vm.findClass RX6 = some m.cls := findClass_of_methodNamed B.named
  have hlocks := B.notSynchronized
  have hin : meth.name = "<init>" := (name_of_methodNamed B.named B.method).1
  have hb0 : b ≤ s.heap.size := by omega
  have hS : va_S (sy_ab b) s.heap s.heap [] := va_S.rf
  have hl := lv_entry ([.ref (b + 44)]) (n := 2) (Nat.le_of_ble_eq_true rfl)
  rw [lg_entry_eq]
  generalize (lg_sl ([.ref (b + 44)]) ++ List.replicate (2 - (lg_sl ([.ref (b + 44)])).length) Slot.unset).toArray = ls at hl ⊢
  have hl : lv_has ls 2 [(0, .ref (b + 44))] := hl
  have hP : va_P D vwCl (sc_ws b 45 (va_up F 44 (.inr (6, [.int 0, .null, .null, .null, .null, .null, .null, .null, .null, .null, .null, .null, .null, .null, .null, .null, .null, .null, .null, .null, .null, .null, .null, .int 0, .int 0, .null, .null, .null, .null, .null, .null, .null, .null, .int 0, .null, .null, .int 0])))) s.heap := hP
  refine lv_aload_n hx hb dX6_init_0 rfl (lv_at hl 0 rfl) ?_
  refine W.objInit hx hb hown (hts _ wd_1079) (hts _ wd_113) (hts _ wd_114) rfl (by rw [hml]; exact hl.1) rfl dX6_init_1 (Nat.le_of_ble_eq_true rfl) (Nat.le_of_ble_eq_true rfl) ?_
  refine W.eq (g2 := F0 m 4 ls []) rfl ?_
  refine lv_aload_n hx hb dX6_init_4 rfl (lv_at hl 0 rfl) ?_
  refine lv_bipush (v := 12) hx hb dX6_init_5 (by decide) ?_
  refine sc_newaT (k := 44) (by decide) (atype := .int) (cA := cA) (kd := 0) (n := 45) (a0 := (12, (.inl (fun _ => 0)))) hx hb hts wd_149 hcA.1 (fun U x h => h) hK hP hS hb0 (by omega) (fun _ => rfl) (by decide) (by decide) (Nat.le_of_ble_eq_true rfl) (Nat.le_of_ble_eq_true rfl) (Nat.le_of_ble_eq_true rfl) dX6_init_7 (fun H hK1 hP hS => ?_)
  have hK_0 : va_K D vwCl [(cA 0, .int)] s := hK1
  refine sc_putT (k := 44) (fs := [.int 0, .null, .null, .null, .null, .null, .null, .null, .null, .null, .null, .null, .null, .null, .null, .null, .null, .null, .null, .null, .null, .null, .null, .int 0, .int 0, .null, .null, .null, .null, .null, .null, .null, .null, .int 0, .null, .null, .int 0]) (fs' := [.int 0, .ref (b + 45), .null, .null, .null, .null, .null, .null, .null, .null, .null, .null, .null, .null, .null, .null, .null, .null, .null, .null, .null, .null, .null, .int 0, .int 0, .null, .null, .null, .null, .null, .null, .null, .null, .int 0, .null, .null, .int 0]) (v := .ref (b + 45)) hx hb hts fc_X6_7 hown hin hK hP hS (by decide) rfl rfl rfl (Nat.le_of_ble_eq_true rfl) dX6_init_9 (fun H locs hP hS => ?_)
  refine lv_aload_n hx hb dX6_init_12 rfl (lv_at hl 0 rfl) ?_
  refine lv_bipush (v := 12) hx hb dX6_init_13 (by decide) ?_
  refine sc_newaT (k := 44) (by decide) (atype := .int) (cA := cA) (kd := 0) (n := 46) (a0 := (12, (.inl (fun _ => 0)))) hx hb hts wd_149 hcA.1 (fun U x h => h) hK hP hS hb0 (by omega) (fun _ => rfl) (by decide) (by decide) (Nat.le_of_ble_eq_true rfl) (Nat.le_of_ble_eq_true rfl) (Nat.le_of_ble_eq_true rfl) dX6_init_15 (fun H hK1 hP hS => ?_)
  refine sc_putT (k := 44) (fs := [.int 0, .ref (b + 45), .null, .null, .null, .null, .null, .null, .null, .null, .null, .null, .null, .null, .null, .null, .null, .null, .null, .null, .null, .null, .null, .int 0, .int 0, .null, .null, .null, .null, .null, .null, .null, .null, .int 0, .null, .null, .int 0]) (fs' := [.int 0, .ref (b + 45), .ref (b + 46), .null, .null, .null, .null, .null, .null, .null, .null, .null, .null, .null, .null, .null, .null, .null, .null, .null, .null, .null, .null, .int 0, .int 0, .null, .null, .null, .null, .null, .null, .null, .null, .int 0, .null, .null, .int 0]) (v := .ref (b + 46)) hx hb hts fc_X6_13 hown hin hK hP hS (by decide) rfl rfl rfl (Nat.le_of_ble_eq_true rfl) dX6_init_17 (fun H locs hP hS => ?_)
  refine lv_aload_n hx hb dX6_init_20 rfl (lv_at hl 0 rfl) ?_
  refine lv_bipush (v := 12) hx hb dX6_init_21 (by decide) ?_
  refine sc_newaT (k := 44) (by decide) (atype := .int) (cA := cA) (kd := 0) (n := 47) (a0 := (12, (.inl (fun _ => 0)))) hx hb hts wd_149 hcA.1 (fun U x h => h) hK hP hS hb0 (by omega) (fun _ => rfl) (by decide) (by decide) (Nat.le_of_ble_eq_true rfl) (Nat.le_of_ble_eq_true rfl) (Nat.le_of_ble_eq_true rfl) dX6_init_23 (fun H hK1 hP hS => ?_)
  refine sc_putT (k := 44) (fs := [.int 0, .ref (b + 45), .ref (b + 46), .null, .null, .null, .null, .null, .null, .null, .null, .null, .null, .null, .null, .null, .null, .null, .null, .null, .null, .null, .null, .int 0, .int 0, .null, .null, .null, .null, .null, .null, .null, .null, .int 0, .null, .null, .int 0]) (fs' := [.int 0, .ref (b + 45), .ref (b + 46), .ref (b + 47), .null, .null, .null, .null, .null, .null, .null, .null, .null, .null, .null, .null, .null, .null, .null, .null, .null, .null, .null, .int 0, .int 0, .null, .null, .null, .null, .null, .null, .null, .null, .int 0, .null, .null, .int 0]) (v := .ref (b + 47)) hx hb hts fc_X6_16 hown hin hK hP hS (by decide) rfl rfl rfl (Nat.le_of_ble_eq_true rfl) dX6_init_25 (fun H locs hP hS => ?_)
  refine lv_aload_n hx hb dX6_init_28 rfl (lv_at hl 0 rfl) ?_
  refine lv_bipush (v := 12) hx hb dX6_init_29 (by decide) ?_
  refine sc_newaT (k := 44) (by decide) (atype := .int) (cA := cA) (kd := 0) (n := 48) (a0 := (12, (.inl (fun _ => 0)))) hx hb hts wd_149 hcA.1 (fun U x h => h) hK hP hS hb0 (by omega) (fun _ => rfl) (by decide) (by decide) (Nat.le_of_ble_eq_true rfl) (Nat.le_of_ble_eq_true rfl) (Nat.le_of_ble_eq_true rfl) dX6_init_31 (fun H hK1 hP hS => ?_)
  refine sc_putT (k := 44) (fs := [.int 0, .ref (b + 45), .ref (b + 46), .ref (b + 47), .null, .null, .null, .null, .null, .null, .null, .null, .null, .null, .null, .null, .null, .null, .null, .null, .null, .null, .null, .int 0, .int 0, .null, .null, .null, .null, .null, .null, .null, .null, .int 0, .null, .null, .int 0]) (fs' := [.int 0, .ref (b + 45), .ref (b + 46), .ref (b + 47), .ref (b + 48), .null, .null, .null, .null, .null, .null, .null, .null, .null, .null, .null, .null, .null, .null, .null, .null, .null, .null, .int 0, .int 0, .null, .null, .null, .null, .null, .null, .null, .null, .int 0, .null, .null, .int 0]) (v := .ref (b + 48)) hx hb hts fc_X6_19 hown hin hK hP hS (by decide) rfl rfl rfl (Nat.le_of_ble_eq_true rfl) dX6_init_33 (fun H locs hP hS => ?_)
  refine lv_aload_n hx hb dX6_init_36 rfl (lv_at hl 0 rfl) ?_
  refine lv_bipush (v := 12) hx hb dX6_init_37 (by decide) ?_
  refine sc_newaT (k := 44) (by decide) (atype := .int) (cA := cA) (kd := 0) (n := 49) (a0 := (12, (.inl (fun _ => 0)))) hx hb hts wd_149 hcA.1 (fun U x h => h) hK hP hS hb0 (by omega) (fun _ => rfl) (by decide) (by decide) (Nat.le_of_ble_eq_true rfl) (Nat.le_of_ble_eq_true rfl) (Nat.le_of_ble_eq_true rfl) dX6_init_39 (fun H hK1 hP hS => ?_)
  refine sc_putT (k := 44) (fs := [.int 0, .ref (b + 45), .ref (b + 46), .ref (b + 47), .ref (b + 48), .null, .null, .null, .null, .null, .null, .null, .null, .null, .null, .null, .null, .null, .null, .null, .null, .null, .null, .int 0, .int 0, .null, .null, .null, .null, .null, .null, .null, .null, .int 0, .null, .null, .int 0]) (fs' := [.int 0, .ref (b + 45), .ref (b + 46), .ref (b + 47), .ref (b + 48), .ref (b + 49), .null, .null, .null, .null, .null, .null, .null, .null, .null, .null, .null, .null, .null, .null, .null, .null, .null, .int 0, .int 0, .null, .null, .null, .null, .null, .null, .null, .null, .int 0, .null, .null, .int 0]) (v := .ref (b + 49)) hx hb hts fc_X6_22 hown hin hK hP hS (by decide) rfl rfl rfl (Nat.le_of_ble_eq_true rfl) dX6_init_41 (fun H locs hP hS => ?_)
  refine lv_aload_n hx hb dX6_init_44 rfl (lv_at hl 0 rfl) ?_
  refine lv_bipush (v := 12) hx hb dX6_init_45 (by decide) ?_
  refine sc_newaT (k := 44) (by decide) (atype := .int) (cA := cA) (kd := 0) (n := 50) (a0 := (12, (.inl (fun _ => 0)))) hx hb hts wd_149 hcA.1 (fun U x h => h) hK hP hS hb0 (by omega) (fun _ => rfl) (by decide) (by decide) (Nat.le_of_ble_eq_true rfl) (Nat.le_of_ble_eq_true rfl) (Nat.le_of_ble_eq_true rfl) dX6_init_47 (fun H hK1 hP hS => ?_)
  refine sc_putT (k := 44) (fs := [.int 0, .ref (b + 45), .ref (b + 46), .ref (b + 47), .ref (b + 48), .ref (b + 49), .null, .null, .null, .null, .null, .null, .null, .null, .null, .null, .null, .null, .null, .null, .null, .null, .null, .int 0, .int 0, .null, .null, .null, .null, .null, .null, .null, .null, .int 0, .null, .null, .int 0]) (fs' := [.int 0, .ref (b + 45), .ref (b + 46), .ref (b + 47), .ref (b + 48), .ref (b + 49), .ref (b + 50), .null, .null, .null, .null, .null, .null, .null, .null, .null, .null, .null, .null, .null, .null, .null, .null, .int 0, .int 0, .null, .null, .null, .null, .null, .null, .null, .null, .int 0, .null, .null, .int 0]) (v := .ref (b + 50)) hx hb hts fc_X6_25 hown hin hK hP hS (by decide) rfl rfl rfl (Nat.le_of_ble_eq_true rfl) dX6_init_49 (fun H locs hP hS => ?_)
  refine lv_aload_n hx hb dX6_init_52 rfl (lv_at hl 0 rfl) ?_
  refine lv_bipush (v := 12) hx hb dX6_init_53 (by decide) ?_
  refine sc_newaT (k := 44) (by decide) (atype := .int) (cA := cA) (kd := 0) (n := 51) (a0 := (12, (.inl (fun _ => 0)))) hx hb hts wd_149 hcA.1 (fun U x h => h) hK hP hS hb0 (by omega) (fun _ => rfl) (by decide) (by decide) (Nat.le_of_ble_eq_true rfl) (Nat.le_of_ble_eq_true rfl) (Nat.le_of_ble_eq_true rfl) dX6_init_55 (fun H hK1 hP hS => ?_)
  refine sc_putT (k := 44) (fs := [.int 0, .ref (b + 45), .ref (b + 46), .ref (b + 47), .ref (b + 48), .ref (b + 49), .ref (b + 50), .null, .null, .null, .null, .null, .null, .null, .null, .null, .null, .null, .null, .null, .null, .null, .null, .int 0, .int 0, .null, .null, .null, .null, .null, .null, .null, .null, .int 0, .null, .null, .int 0]) (fs' := [.int 0, .ref (b + 45), .ref (b + 46), .ref (b + 47), .ref (b + 48), .ref (b + 49), .ref (b + 50), .ref (b + 51), .null, .null, .null, .null, .null, .null, .null, .null, .null, .null, .null, .null, .null, .null, .null, .int 0, .int 0, .null, .null, .null, .null, .null, .null, .null, .null, .int 0, .null, .null, .int 0]) (v := .ref (b + 51)) hx hb hts fc_X6_28 hown hin hK hP hS (by decide) rfl rfl rfl (Nat.le_of_ble_eq_true rfl) dX6_init_57 (fun H locs hP hS => ?_)
  refine lv_aload_n hx hb dX6_init_60 rfl (lv_at hl 0 rfl) ?_
  refine lv_bipush (v := 12) hx hb dX6_init_61 (by decide) ?_
  refine sc_newaT (k := 44) (by decide) (atype := .int) (cA := cA) (kd := 0) (n := 52) (a0 := (12, (.inl (fun _ => 0)))) hx hb hts wd_149 hcA.1 (fun U x h => h) hK hP hS hb0 (by omega) (fun _ => rfl) (by decide) (by decide) (Nat.le_of_ble_eq_true rfl) (Nat.le_of_ble_eq_true rfl) (Nat.le_of_ble_eq_true rfl) dX6_init_63 (fun H hK1 hP hS => ?_)
  refine sc_putT (k := 44) (fs := [.int 0, .ref (b + 45), .ref (b + 46), .ref (b + 47), .ref (b + 48), .ref (b + 49), .ref (b + 50), .ref (b + 51), .null, .null, .null, .null, .null, .null, .null, .null, .null, .null, .null, .null, .null, .null, .null, .int 0, .int 0, .null, .null, .null, .null, .null, .null, .null, .null, .int 0, .null, .null, .int 0]) (fs' := [.int 0, .ref (b + 45), .ref (b + 46), .ref (b + 47), .ref (b + 48), .ref (b + 49), .ref (b + 50), .ref (b + 51), .ref (b + 52), .null, .null, .null, .null, .null, .null, .null, .null, .null, .null, .null, .null, .null, .null, .int 0, .int 0, .null, .null, .null, .null, .null, .null, .null, .null, .int 0, .null, .null, .int 0]) (v := .ref (b + 52)) hx hb hts fc_X6_31 hown hin hK hP hS (by decide) rfl rfl rfl (Nat.le_of_ble_eq_true rfl) dX6_init_65 (fun H locs hP hS => ?_)
  refine lv_aload_n hx hb dX6_init_68 rfl (lv_at hl 0 rfl) ?_
  refine lv_bipush (v := 60) hx hb dX6_init_69 (by decide) ?_
  refine sc_newaT (k := 44) (by decide) (atype := .int) (cA := cA) (kd := 0) (n := 53) (a0 := (60, (.inl (fun _ => 0)))) hx hb hts wd_149 hcA.1 (fun U x h => h) hK hP hS hb0 (by omega) (fun _ => rfl) (by decide) (by decide) (Nat.le_of_ble_eq_true rfl) (Nat.le_of_ble_eq_true rfl) (Nat.le_of_ble_eq_true rfl) dX6_init_71 (fun H hK1 hP hS => ?_)
  refine sc_putT (k := 44) (fs := [.int 0, .ref (b + 45), .ref (b + 46), .ref (b + 47), .ref (b + 48), .ref (b + 49), .ref (b + 50), .ref (b + 51), .ref (b + 52), .null, .null, .null, .null, .null, .null, .null, .null, .null, .null, .null, .null, .null, .null, .int 0, .int 0, .null, .null, .null, .null, .null, .null, .null, .null, .int 0, .null, .null, .int 0]) (fs' := [.int 0, .ref (b + 45), .ref (b + 46), .ref (b + 47), .ref (b + 48), .ref (b + 49), .ref (b + 50), .ref (b + 51), .ref (b + 52), .ref (b + 53), .null, .null, .null, .null, .null, .null, .null, .null, .null, .null, .null, .null, .null, .int 0, .int 0, .null, .null, .null, .null, .null, .null, .null, .null, .int 0, .null, .null, .int 0]) (v := .ref (b + 53)) hx hb hts fc_X6_34 hown hin hK hP hS (by decide) rfl rfl rfl (Nat.le_of_ble_eq_true rfl) dX6_init_73 (fun H locs hP hS => ?_)
  refine lv_aload_n hx hb dX6_init_76 rfl (lv_at hl 0 rfl) ?_
  refine lv_bipush (v := 60) hx hb dX6_init_77 (by decide) ?_
  refine sc_newaT (k := 44) (by decide) (atype := .int) (cA := cA) (kd := 0) (n := 54) (a0 := (60, (.inl (fun _ => 0)))) hx hb hts wd_149 hcA.1 (fun U x h => h) hK hP hS hb0 (by omega) (fun _ => rfl) (by decide) (by decide) (Nat.le_of_ble_eq_true rfl) (Nat.le_of_ble_eq_true rfl) (Nat.le_of_ble_eq_true rfl) dX6_init_79 (fun H hK1 hP hS => ?_)
  refine sc_putT (k := 44) (fs := [.int 0, .ref (b + 45), .ref (b + 46), .ref (b + 47), .ref (b + 48), .ref (b + 49), .ref (b + 50), .ref (b + 51), .ref (b + 52), .ref (b + 53), .null, .null, .null, .null, .null, .null, .null, .null, .null, .null, .null, .null, .null, .int 0, .int 0, .null, .null, .null, .null, .null, .null, .null, .null, .int 0, .null, .null, .int 0]) (fs' := [.int 0, .ref (b + 45), .ref (b + 46), .ref (b + 47), .ref (b + 48), .ref (b + 49), .ref (b + 50), .ref (b + 51), .ref (b + 52), .ref (b + 53), .ref (b + 54), .null, .null, .null, .null, .null, .null, .null, .null, .null, .null, .null, .null, .int 0, .int 0, .null, .null, .null, .null, .null, .null, .null, .null, .int 0, .null, .null, .int 0]) (v := .ref (b + 54)) hx hb hts fc_X6_37 hown hin hK hP hS (by decide) rfl rfl rfl (Nat.le_of_ble_eq_true rfl) dX6_init_81 (fun H locs hP hS => ?_)
  refine lv_aload_n hx hb dX6_init_84 rfl (lv_at hl 0 rfl) ?_
  refine lv_sipush (v := 180) hx hb dX6_init_85 (by decide) ?_
  refine sc_newaT (k := 44) (by decide) (atype := .int) (cA := cA) (kd := 0) (n := 55) (a0 := (180, (.inl (fun _ => 0)))) hx hb hts wd_149 hcA.1 (fun U x h => h) hK hP hS hb0 (by omega) (fun _ => rfl) (by decide) (by decide) (Nat.le_of_ble_eq_true rfl) (Nat.le_of_ble_eq_true rfl) (Nat.le_of_ble_eq_true rfl) dX6_init_88 (fun H hK1 hP hS => ?_)
  refine sc_putT (k := 44) (fs := [.int 0, .ref (b + 45), .ref (b + 46), .ref (b + 47), .ref (b + 48), .ref (b + 49), .ref (b + 50), .ref (b + 51), .ref (b + 52), .ref (b + 53), .ref (b + 54), .null, .null, .null, .null, .null, .null, .null, .null, .null, .null, .null, .null, .int 0, .int 0, .null, .null, .null, .null, .null, .null, .null, .null, .int 0, .null, .null, .int 0]) (fs' := [.int 0, .ref (b + 45), .ref (b + 46), .ref (b + 47), .ref (b + 48), .ref (b + 49), .ref (b + 50), .ref (b + 51), .ref (b + 52), .ref (b + 53), .ref (b + 54), .ref (b + 55), .null, .null, .null, .null, .null, .null, .null, .null, .null, .null, .null, .int 0, .int 0, .null, .null, .null, .null, .null, .null, .null, .null, .int 0, .null, .null, .int 0]) (v := .ref (b + 55)) hx hb hts fc_X6_40 hown hin hK hP hS (by decide) rfl rfl rfl (Nat.le_of_ble_eq_true rfl) dX6_init_90 (fun H locs hP hS => ?_)
  refine lv_aload_n hx hb dX6_init_93 rfl (lv_at hl 0 rfl) ?_
  refine lv_bipush (v := 60) hx hb dX6_init_94 (by decide) ?_
  refine sc_newaT (k := 44) (by decide) (atype := .boolean) (cA := cA) (kd := 1) (n := 56) (a0 := (60, (.inl (fun _ => 0)))) hx hb hts wd_187 hcA.2.1 (fun U x h => h) hK hP hS hb0 (by omega) (fun _ => rfl) (by decide) (by decide) (Nat.le_of_ble_eq_true rfl) (Nat.le_of_ble_eq_true rfl) (Nat.le_of_ble_eq_true rfl) dX6_init_96 (fun H hK1 hP hS => ?_)
  have hK_1 : va_K D vwCl [(cA 1, .boolean)] s := hK1
  refine sc_putT (k := 44) (fs := [.int 0, .ref (b + 45), .ref (b + 46), .ref (b + 47), .ref (b + 48), .ref (b + 49), .ref (b + 50), .ref (b + 51), .ref (b + 52), .ref (b + 53), .ref (b + 54), .ref (b + 55), .null, .null, .null, .null, .null, .null, .null, .null, .null, .null, .null, .int 0, .int 0, .null, .null, .null, .null, .null, .null, .null, .null, .int 0, .null, .null, .int 0]) (fs' := [.int 0, .ref (b + 45), .ref (b + 46), .ref (b + 47), .ref (b + 48), .ref (b + 49), .ref (b + 50), .ref (b + 51), .ref (b + 52), .ref (b + 53), .ref (b + 54), .ref (b + 55), .ref (b + 56), .null, .null, .null, .null, .null, .null, .null, .null, .null, .null, .int 0, .int 0, .null, .null, .null, .null, .null, .null, .null, .null, .int 0, .null, .null, .int 0]) (v := .ref (b + 56)) hx hb hts fc_X6_43 hown hin hK hP hS (by decide) rfl rfl rfl (Nat.le_of_ble_eq_true rfl) dX6_init_98 (fun H locs hP hS => ?_)
  refine lv_aload_n hx hb dX6_init_101 rfl (lv_at hl 0 rfl) ?_
  refine lv_iconst (v := 3) hx hb dX6_init_102 (by decide) ?_
  refine sc_newaT (k := 44) (by decide) (atype := .int) (cA := cA) (kd := 0) (n := 57) (a0 := (3, (.inl (fun _ => 0)))) hx hb hts wd_149 hcA.1 (fun U x h => h) hK hP hS hb0 (by omega) (fun _ => rfl) (by decide) (by decide) (Nat.le_of_ble_eq_true rfl) (Nat.le_of_ble_eq_true rfl) (Nat.le_of_ble_eq_true rfl) dX6_init_103 (fun H hK1 hP hS => ?_)
  refine sc_putT (k := 44) (fs := [.int 0, .ref (b + 45), .ref (b + 46), .ref (b + 47), .ref (b + 48), .ref (b + 49), .ref (b + 50), .ref (b + 51), .ref (b + 52), .ref (b + 53), .ref (b + 54), .ref (b + 55), .ref (b + 56), .null, .null, .null, .null, .null, .null, .null, .null, .null, .null, .int 0, .int 0, .null, .null, .null, .null, .null, .null, .null, .null, .int 0, .null, .null, .int 0]) (fs' := [.int 0, .ref (b + 45), .ref (b + 46), .ref (b + 47), .ref (b + 48), .ref (b + 49), .ref (b + 50), .ref (b + 51), .ref (b + 52), .ref (b + 53), .ref (b + 54), .ref (b + 55), .ref (b + 56), .ref (b + 57), .null, .null, .null, .null, .null, .null, .null, .null, .null, .int 0, .int 0, .null, .null, .null, .null, .null, .null, .null, .null, .int 0, .null, .null, .int 0]) (v := .ref (b + 57)) hx hb hts fc_X6_47 hown hin hK hP hS (by decide) rfl rfl rfl (Nat.le_of_ble_eq_true rfl) dX6_init_105 (fun H locs hP hS => ?_)
  refine lv_aload_n hx hb dX6_init_108 rfl (lv_at hl 0 rfl) ?_
  refine lv_sipush (v := 180) hx hb dX6_init_109 (by decide) ?_
  refine sc_newaT (k := 44) (by decide) (atype := .int) (cA := cA) (kd := 0) (n := 58) (a0 := (180, (.inl (fun _ => 0)))) hx hb hts wd_149 hcA.1 (fun U x h => h) hK hP hS hb0 (by omega) (fun _ => rfl) (by decide) (by decide) (Nat.le_of_ble_eq_true rfl) (Nat.le_of_ble_eq_true rfl) (Nat.le_of_ble_eq_true rfl) dX6_init_112 (fun H hK1 hP hS => ?_)
  refine sc_putT (k := 44) (fs := [.int 0, .ref (b + 45), .ref (b + 46), .ref (b + 47), .ref (b + 48), .ref (b + 49), .ref (b + 50), .ref (b + 51), .ref (b + 52), .ref (b + 53), .ref (b + 54), .ref (b + 55), .ref (b + 56), .ref (b + 57), .null, .null, .null, .null, .null, .null, .null, .null, .null, .int 0, .int 0, .null, .null, .null, .null, .null, .null, .null, .null, .int 0, .null, .null, .int 0]) (fs' := [.int 0, .ref (b + 45), .ref (b + 46), .ref (b + 47), .ref (b + 48), .ref (b + 49), .ref (b + 50), .ref (b + 51), .ref (b + 52), .ref (b + 53), .ref (b + 54), .ref (b + 55), .ref (b + 56), .ref (b + 57), .ref (b + 58), .null, .null, .null, .null, .null, .null, .null, .null, .int 0, .int 0, .null, .null, .null, .null, .null, .null, .null, .null, .int 0, .null, .null, .int 0]) (v := .ref (b + 58)) hx hb hts fc_X6_50 hown hin hK hP hS (by decide) rfl rfl rfl (Nat.le_of_ble_eq_true rfl) dX6_init_114 (fun H locs hP hS => ?_)
  refine lv_aload_n hx hb dX6_init_117 rfl (lv_at hl 0 rfl) ?_
  refine lv_iconst (v := 4) hx hb dX6_init_118 (by decide) ?_
  refine sc_newaT (k := 44) (by decide) (atype := .int) (cA := cA) (kd := 0) (n := 59) (a0 := (4, (.inl (fun _ => 0)))) hx hb hts wd_149 hcA.1 (fun U x h => h) hK hP hS hb0 (by omega) (fun _ => rfl) (by decide) (by decide) (Nat.le_of_ble_eq_true rfl) (Nat.le_of_ble_eq_true rfl) (Nat.le_of_ble_eq_true rfl) dX6_init_119 (fun H hK1 hP hS => ?_)
  refine sc_putT (k := 44) (fs := [.int 0, .ref (b + 45), .ref (b + 46), .ref (b + 47), .ref (b + 48), .ref (b + 49), .ref (b + 50), .ref (b + 51), .ref (b + 52), .ref (b + 53), .ref (b + 54), .ref (b + 55), .ref (b + 56), .ref (b + 57), .ref (b + 58), .null, .null, .null, .null, .null, .null, .null, .null, .int 0, .int 0, .null, .null, .null, .null, .null, .null, .null, .null, .int 0, .null, .null, .int 0]) (fs' := [.int 0, .ref (b + 45), .ref (b + 46), .ref (b + 47), .ref (b + 48), .ref (b + 49), .ref (b + 50), .ref (b + 51), .ref (b + 52), .ref (b + 53), .ref (b + 54), .ref (b + 55), .ref (b + 56), .ref (b + 57), .ref (b + 58), .ref (b + 59), .null, .null, .null, .null, .null, .null, .null, .int 0, .int 0, .null, .null, .null, .null, .null, .null, .null, .null, .int 0, .null, .null, .int 0]) (v := .ref (b + 59)) hx hb hts fc_X6_53 hown hin hK hP hS (by decide) rfl rfl rfl (Nat.le_of_ble_eq_true rfl) dX6_init_121 (fun H locs hP hS => ?_)
  refine lv_aload_n hx hb dX6_init_124 rfl (lv_at hl 0 rfl) ?_
  refine lv_iconst (v := 4) hx hb dX6_init_125 (by decide) ?_
  refine sc_newaT (k := 44) (by decide) (atype := .int) (cA := cA) (kd := 0) (n := 60) (a0 := (4, (.inl (fun _ => 0)))) hx hb hts wd_149 hcA.1 (fun U x h => h) hK hP hS hb0 (by omega) (fun _ => rfl) (by decide) (by decide) (Nat.le_of_ble_eq_true rfl) (Nat.le_of_ble_eq_true rfl) (Nat.le_of_ble_eq_true rfl) dX6_init_126 (fun H hK1 hP hS => ?_)
  refine sc_putT (k := 44) (fs := [.int 0, .ref (b + 45), .ref (b + 46), .ref (b + 47), .ref (b + 48), .ref (b + 49), .ref (b + 50), .ref (b + 51), .ref (b + 52), .ref (b + 53), .ref (b + 54), .ref (b + 55), .ref (b + 56), .ref (b + 57), .ref (b + 58), .ref (b + 59), .null, .null, .null, .null, .null, .null, .null, .int 0, .int 0, .null, .null, .null, .null, .null, .null, .null, .null, .int 0, .null, .null, .int 0]) (fs' := [.int 0, .ref (b + 45), .ref (b + 46), .ref (b + 47), .ref (b + 48), .ref (b + 49), .ref (b + 50), .ref (b + 51), .ref (b + 52), .ref (b + 53), .ref (b + 54), .ref (b + 55), .ref (b + 56), .ref (b + 57), .ref (b + 58), .ref (b + 59), .ref (b + 60), .null, .null, .null, .null, .null, .null, .int 0, .int 0, .null, .null, .null, .null, .null, .null, .null, .null, .int 0, .null, .null, .int 0]) (v := .ref (b + 60)) hx hb hts fc_X6_56 hown hin hK hP hS (by decide) rfl rfl rfl (Nat.le_of_ble_eq_true rfl) dX6_init_128 (fun H locs hP hS => ?_)
  refine lv_aload_n hx hb dX6_init_131 rfl (lv_at hl 0 rfl) ?_
  refine lv_iconst (v := 4) hx hb dX6_init_132 (by decide) ?_
  refine sc_newaT (k := 44) (by decide) (atype := .int) (cA := cA) (kd := 0) (n := 61) (a0 := (4, (.inl (fun _ => 0)))) hx hb hts wd_149 hcA.1 (fun U x h => h) hK hP hS hb0 (by omega) (fun _ => rfl) (by decide) (by decide) (Nat.le_of_ble_eq_true rfl) (Nat.le_of_ble_eq_true rfl) (Nat.le_of_ble_eq_true rfl) dX6_init_133 (fun H hK1 hP hS => ?_)
  refine sc_putT (k := 44) (fs := [.int 0, .ref (b + 45), .ref (b + 46), .ref (b + 47), .ref (b + 48), .ref (b + 49), .ref (b + 50), .ref (b + 51), .ref (b + 52), .ref (b + 53), .ref (b + 54), .ref (b + 55), .ref (b + 56), .ref (b + 57), .ref (b + 58), .ref (b + 59), .ref (b + 60), .null, .null, .null, .null, .null, .null, .int 0, .int 0, .null, .null, .null, .null, .null, .null, .null, .null, .int 0, .null, .null, .int 0]) (fs' := [.int 0, .ref (b + 45), .ref (b + 46), .ref (b + 47), .ref (b + 48), .ref (b + 49), .ref (b + 50), .ref (b + 51), .ref (b + 52), .ref (b + 53), .ref (b + 54), .ref (b + 55), .ref (b + 56), .ref (b + 57), .ref (b + 58), .ref (b + 59), .ref (b + 60), .ref (b + 61), .null, .null, .null, .null, .null, .int 0, .int 0, .null, .null, .null, .null, .null, .null, .null, .null, .int 0, .null, .null, .int 0]) (v := .ref (b + 61)) hx hb hts fc_X6_59 hown hin hK hP hS (by decide) rfl rfl rfl (Nat.le_of_ble_eq_true rfl) dX6_init_135 (fun H locs hP hS => ?_)
  refine lv_aload_n hx hb dX6_init_138 rfl (lv_at hl 0 rfl) ?_
  refine lv_iconst (v := 4) hx hb dX6_init_139 (by decide) ?_
  refine sc_newaT (k := 44) (by decide) (atype := .int) (cA := cA) (kd := 0) (n := 62) (a0 := (4, (.inl (fun _ => 0)))) hx hb hts wd_149 hcA.1 (fun U x h => h) hK hP hS hb0 (by omega) (fun _ => rfl) (by decide) (by decide) (Nat.le_of_ble_eq_true rfl) (Nat.le_of_ble_eq_true rfl) (Nat.le_of_ble_eq_true rfl) dX6_init_140 (fun H hK1 hP hS => ?_)
  refine sc_putT (k := 44) (fs := [.int 0, .ref (b + 45), .ref (b + 46), .ref (b + 47), .ref (b + 48), .ref (b + 49), .ref (b + 50), .ref (b + 51), .ref (b + 52), .ref (b + 53), .ref (b + 54), .ref (b + 55), .ref (b + 56), .ref (b + 57), .ref (b + 58), .ref (b + 59), .ref (b + 60), .ref (b + 61), .null, .null, .null, .null, .null, .int 0, .int 0, .null, .null, .null, .null, .null, .null, .null, .null, .int 0, .null, .null, .int 0]) (fs' := [.int 0, .ref (b + 45), .ref (b + 46), .ref (b + 47), .ref (b + 48), .ref (b + 49), .ref (b + 50), .ref (b + 51), .ref (b + 52), .ref (b + 53), .ref (b + 54), .ref (b + 55), .ref (b + 56), .ref (b + 57), .ref (b + 58), .ref (b + 59), .ref (b + 60), .ref (b + 61), .ref (b + 62), .null, .null, .null, .null, .int 0, .int 0, .null, .null, .null, .null, .null, .null, .null, .null, .int 0, .null, .null, .int 0]) (v := .ref (b + 62)) hx hb hts fc_X6_62 hown hin hK hP hS (by decide) rfl rfl rfl (Nat.le_of_ble_eq_true rfl) dX6_init_142 (fun H locs hP hS => ?_)
  refine lv_aload_n hx hb dX6_init_145 rfl (lv_at hl 0 rfl) ?_
  refine lv_iconst (v := 4) hx hb dX6_init_146 (by decide) ?_
  refine sc_newaT (k := 44) (by decide) (atype := .int) (cA := cA) (kd := 0) (n := 63) (a0 := (4, (.inl (fun _ => 0)))) hx hb hts wd_149 hcA.1 (fun U x h => h) hK hP hS hb0 (by omega) (fun _ => rfl) (by decide) (by decide) (Nat.le_of_ble_eq_true rfl) (Nat.le_of_ble_eq_true rfl) (Nat.le_of_ble_eq_true rfl) dX6_init_147 (fun H hK1 hP hS => ?_)
  refine sc_putT (k := 44) (fs := [.int 0, .ref (b + 45), .ref (b + 46), .ref (b + 47), .ref (b + 48), .ref (b + 49), .ref (b + 50), .ref (b + 51), .ref (b + 52), .ref (b + 53), .ref (b + 54), .ref (b + 55), .ref (b + 56), .ref (b + 57), .ref (b + 58), .ref (b + 59), .ref (b + 60), .ref (b + 61), .ref (b + 62), .null, .null, .null, .null, .int 0, .int 0, .null, .null, .null, .null, .null, .null, .null, .null, .int 0, .null, .null, .int 0]) (fs' := [.int 0, .ref (b + 45), .ref (b + 46), .ref (b + 47), .ref (b + 48), .ref (b + 49), .ref (b + 50), .ref (b + 51), .ref (b + 52), .ref (b + 53), .ref (b + 54), .ref (b + 55), .ref (b + 56), .ref (b + 57), .ref (b + 58), .ref (b + 59), .ref (b + 60), .ref (b + 61), .ref (b + 62), .ref (b + 63), .null, .null, .null, .int 0, .int 0, .null, .null, .null, .null, .null, .null, .null, .null, .int 0, .null, .null, .int 0]) (v := .ref (b + 63)) hx hb hts fc_X6_65 hown hin hK hP hS (by decide) rfl rfl rfl (Nat.le_of_ble_eq_true rfl) dX6_init_149 (fun H locs hP hS => ?_)
  refine lv_aload_n hx hb dX6_init_152 rfl (lv_at hl 0 rfl) ?_
  refine lv_iconst (v := 4) hx hb dX6_init_153 (by decide) ?_
  refine sc_newaT (k := 44) (by decide) (atype := .int) (cA := cA) (kd := 0) (n := 64) (a0 := (4, (.inl (fun _ => 0)))) hx hb hts wd_149 hcA.1 (fun U x h => h) hK hP hS hb0 (by omega) (fun _ => rfl) (by decide) (by decide) (Nat.le_of_ble_eq_true rfl) (Nat.le_of_ble_eq_true rfl) (Nat.le_of_ble_eq_true rfl) dX6_init_154 (fun H hK1 hP hS => ?_)
  refine sc_putT (k := 44) (fs := [.int 0, .ref (b + 45), .ref (b + 46), .ref (b + 47), .ref (b + 48), .ref (b + 49), .ref (b + 50), .ref (b + 51), .ref (b + 52), .ref (b + 53), .ref (b + 54), .ref (b + 55), .ref (b + 56), .ref (b + 57), .ref (b + 58), .ref (b + 59), .ref (b + 60), .ref (b + 61), .ref (b + 62), .ref (b + 63), .null, .null, .null, .int 0, .int 0, .null, .null, .null, .null, .null, .null, .null, .null, .int 0, .null, .null, .int 0]) (fs' := [.int 0, .ref (b + 45), .ref (b + 46), .ref (b + 47), .ref (b + 48), .ref (b + 49), .ref (b + 50), .ref (b + 51), .ref (b + 52), .ref (b + 53), .ref (b + 54), .ref (b + 55), .ref (b + 56), .ref (b + 57), .ref (b + 58), .ref (b + 59), .ref (b + 60), .ref (b + 61), .ref (b + 62), .ref (b + 63), .ref (b + 64), .null, .null, .int 0, .int 0, .null, .null, .null, .null, .null, .null, .null, .null, .int 0, .null, .null, .int 0]) (v := .ref (b + 64)) hx hb hts fc_X6_68 hown hin hK hP hS (by decide) rfl rfl rfl (Nat.le_of_ble_eq_true rfl) dX6_init_156 (fun H locs hP hS => ?_)
  refine lv_aload_n hx hb dX6_init_159 rfl (lv_at hl 0 rfl) ?_
  refine lv_bipush (v := 16) hx hb dX6_init_160 (by decide) ?_
  refine sc_newaT (k := 44) (by decide) (atype := .int) (cA := cA) (kd := 0) (n := 65) (a0 := (16, (.inl (fun _ => 0)))) hx hb hts wd_149 hcA.1 (fun U x h => h) hK hP hS hb0 (by omega) (fun _ => rfl) (by decide) (by decide) (Nat.le_of_ble_eq_true rfl) (Nat.le_of_ble_eq_true rfl) (Nat.le_of_ble_eq_true rfl) dX6_init_162 (fun H hK1 hP hS => ?_)
  refine sc_putT (k := 44) (fs := [.int 0, .ref (b + 45), .ref (b + 46), .ref (b + 47), .ref (b + 48), .ref (b + 49), .ref (b + 50), .ref (b + 51), .ref (b + 52), .ref (b + 53), .ref (b + 54), .ref (b + 55), .ref (b + 56), .ref (b + 57), .ref (b + 58), .ref (b + 59), .ref (b + 60), .ref (b + 61), .ref (b + 62), .ref (b + 63), .ref (b + 64), .null, .null, .int 0, .int 0, .null, .null, .null, .null, .null, .null, .null, .null, .int 0, .null, .null, .int 0]) (fs' := [.int 0, .ref (b + 45), .ref (b + 46), .ref (b + 47), .ref (b + 48), .ref (b + 49), .ref (b + 50), .ref (b + 51), .ref (b + 52), .ref (b + 53), .ref (b + 54), .ref (b + 55), .ref (b + 56), .ref (b + 57), .ref (b + 58), .ref (b + 59), .ref (b + 60), .ref (b + 61), .ref (b + 62), .ref (b + 63), .ref (b + 64), .ref (b + 65), .null, .int 0, .int 0, .null, .null, .null, .null, .null, .null, .null, .null, .int 0, .null, .null, .int 0]) (v := .ref (b + 65)) hx hb hts fc_X6_71 hown hin hK hP hS (by decide) rfl rfl rfl (Nat.le_of_ble_eq_true rfl) dX6_init_164 (fun H locs hP hS => ?_)
  refine lv_aload_n hx hb dX6_init_167 rfl (lv_at hl 0 rfl) ?_
  refine lv_bipush (v := 16) hx hb dX6_init_168 (by decide) ?_
  refine sc_newaT (k := 44) (by decide) (atype := .int) (cA := cA) (kd := 0) (n := 66) (a0 := (16, (.inl (fun _ => 0)))) hx hb hts wd_149 hcA.1 (fun U x h => h) hK hP hS hb0 (by omega) (fun _ => rfl) (by decide) (by decide) (Nat.le_of_ble_eq_true rfl) (Nat.le_of_ble_eq_true rfl) (Nat.le_of_ble_eq_true rfl) dX6_init_170 (fun H hK1 hP hS => ?_)
  refine sc_putT (k := 44) (fs := [.int 0, .ref (b + 45), .ref (b + 46), .ref (b + 47), .ref (b + 48), .ref (b + 49), .ref (b + 50), .ref (b + 51), .ref (b + 52), .ref (b + 53), .ref (b + 54), .ref (b + 55), .ref (b + 56), .ref (b + 57), .ref (b + 58), .ref (b + 59), .ref (b + 60), .ref (b + 61), .ref (b + 62), .ref (b + 63), .ref (b + 64), .ref (b + 65), .null, .int 0, .int 0, .null, .null, .null, .null, .null, .null, .null, .null, .int 0, .null, .null, .int 0]) (fs' := [.int 0, .ref (b + 45), .ref (b + 46), .ref (b + 47), .ref (b + 48), .ref (b + 49), .ref (b + 50), .ref (b + 51), .ref (b + 52), .ref (b + 53), .ref (b + 54), .ref (b + 55), .ref (b + 56), .ref (b + 57), .ref (b + 58), .ref (b + 59), .ref (b + 60), .ref (b + 61), .ref (b + 62), .ref (b + 63), .ref (b + 64), .ref (b + 65), .ref (b + 66), .int 0, .int 0, .null, .null, .null, .null, .null, .null, .null, .null, .int 0, .null, .null, .int 0]) (v := .ref (b + 66)) hx hb hts fc_X6_74 hown hin hK hP hS (by decide) rfl rfl rfl (Nat.le_of_ble_eq_true rfl) dX6_init_172 (fun H locs hP hS => ?_)
  refine lv_aload_n hx hb dX6_init_175 rfl (lv_at hl 0 rfl) ?_
  refine lv_iconst (v := 4) hx hb dX6_init_176 (by decide) ?_
  refine sc_newaT (k := 44) (by decide) (atype := .int) (cA := cA) (kd := 0) (n := 67) (a0 := (4, (.inl (fun _ => 0)))) hx hb hts wd_149 hcA.1 (fun U x h => h) hK hP hS hb0 (by omega) (fun _ => rfl) (by decide) (by decide) (Nat.le_of_ble_eq_true rfl) (Nat.le_of_ble_eq_true rfl) (Nat.le_of_ble_eq_true rfl) dX6_init_177 (fun H hK1 hP hS => ?_)
  refine sc_putT (k := 44) (fs := [.int 0, .ref (b + 45), .ref (b + 46), .ref (b + 47), .ref (b + 48), .ref (b + 49), .ref (b + 50), .ref (b + 51), .ref (b + 52), .ref (b + 53), .ref (b + 54), .ref (b + 55), .ref (b + 56), .ref (b + 57), .ref (b + 58), .ref (b + 59), .ref (b + 60), .ref (b + 61), .ref (b + 62), .ref (b + 63), .ref (b + 64), .ref (b + 65), .ref (b + 66), .int 0, .int 0, .null, .null, .null, .null, .null, .null, .null, .null, .int 0, .null, .null, .int 0]) (fs' := [.int 0, .ref (b + 45), .ref (b + 46), .ref (b + 47), .ref (b + 48), .ref (b + 49), .ref (b + 50), .ref (b + 51), .ref (b + 52), .ref (b + 53), .ref (b + 54), .ref (b + 55), .ref (b + 56), .ref (b + 57), .ref (b + 58), .ref (b + 59), .ref (b + 60), .ref (b + 61), .ref (b + 62), .ref (b + 63), .ref (b + 64), .ref (b + 65), .ref (b + 66), .int 0, .int 0, .ref (b + 67), .null, .null, .null, .null, .null, .null, .null, .int 0, .null, .null, .int 0]) (v := .ref (b + 67)) hx hb hts fc_X6_77 hown hin hK hP hS (by decide) rfl rfl rfl (Nat.le_of_ble_eq_true rfl) dX6_init_179 (fun H locs hP hS => ?_)
  refine lv_aload_n hx hb dX6_init_182 rfl (lv_at hl 0 rfl) ?_
  refine lv_iconst (v := 4) hx hb dX6_init_183 (by decide) ?_
  refine sc_newaT (k := 44) (by decide) (atype := .int) (cA := cA) (kd := 0) (n := 68) (a0 := (4, (.inl (fun _ => 0)))) hx hb hts wd_149 hcA.1 (fun U x h => h) hK hP hS hb0 (by omega) (fun _ => rfl) (by decide) (by decide) (Nat.le_of_ble_eq_true rfl) (Nat.le_of_ble_eq_true rfl) (Nat.le_of_ble_eq_true rfl) dX6_init_184 (fun H hK1 hP hS => ?_)
  refine sc_putT (k := 44) (fs := [.int 0, .ref (b + 45), .ref (b + 46), .ref (b + 47), .ref (b + 48), .ref (b + 49), .ref (b + 50), .ref (b + 51), .ref (b + 52), .ref (b + 53), .ref (b + 54), .ref (b + 55), .ref (b + 56), .ref (b + 57), .ref (b + 58), .ref (b + 59), .ref (b + 60), .ref (b + 61), .ref (b + 62), .ref (b + 63), .ref (b + 64), .ref (b + 65), .ref (b + 66), .int 0, .int 0, .ref (b + 67), .null, .null, .null, .null, .null, .null, .null, .int 0, .null, .null, .int 0]) (fs' := [.int 0, .ref (b + 45), .ref (b + 46), .ref (b + 47), .ref (b + 48), .ref (b + 49), .ref (b + 50), .ref (b + 51), .ref (b + 52), .ref (b + 53), .ref (b + 54), .ref (b + 55), .ref (b + 56), .ref (b + 57), .ref (b + 58), .ref (b + 59), .ref (b + 60), .ref (b + 61), .ref (b + 62), .ref (b + 63), .ref (b + 64), .ref (b + 65), .ref (b + 66), .int 0, .int 0, .ref (b + 67), .ref (b + 68), .null, .null, .null, .null, .null, .null, .int 0, .null, .null, .int 0]) (v := .ref (b + 68)) hx hb hts fc_X6_80 hown hin hK hP hS (by decide) rfl rfl rfl (Nat.le_of_ble_eq_true rfl) dX6_init_186 (fun H locs hP hS => ?_)
  refine lv_aload_n hx hb dX6_init_189 rfl (lv_at hl 0 rfl) ?_
  refine lv_iconst (v := 4) hx hb dX6_init_190 (by decide) ?_
  refine sc_newaT (k := 44) (by decide) (atype := .int) (cA := cA) (kd := 0) (n := 69) (a0 := (4, (.inl (fun _ => 0)))) hx hb hts wd_149 hcA.1 (fun U x h => h) hK hP hS hb0 (by omega) (fun _ => rfl) (by decide) (by decide) (Nat.le_of_ble_eq_true rfl) (Nat.le_of_ble_eq_true rfl) (Nat.le_of_ble_eq_true rfl) dX6_init_191 (fun H hK1 hP hS => ?_)
  refine sc_putT (k := 44) (fs := [.int 0, .ref (b + 45), .ref (b + 46), .ref (b + 47), .ref (b + 48), .ref (b + 49), .ref (b + 50), .ref (b + 51), .ref (b + 52), .ref (b + 53), .ref (b + 54), .ref (b + 55), .ref (b + 56), .ref (b + 57), .ref (b + 58), .ref (b + 59), .ref (b + 60), .ref (b + 61), .ref (b + 62), .ref (b + 63), .ref (b + 64), .ref (b + 65), .ref (b + 66), .int 0, .int 0, .ref (b + 67), .ref (b + 68), .null, .null, .null, .null, .null, .null, .int 0, .null, .null, .int 0]) (fs' := [.int 0, .ref (b + 45), .ref (b + 46), .ref (b + 47), .ref (b + 48), .ref (b + 49), .ref (b + 50), .ref (b + 51), .ref (b + 52), .ref (b + 53), .ref (b + 54), .ref (b + 55), .ref (b + 56), .ref (b + 57), .ref (b + 58), .ref (b + 59), .ref (b + 60), .ref (b + 61), .ref (b + 62), .ref (b + 63), .ref (b + 64), .ref (b + 65), .ref (b + 66), .int 0, .int 0, .ref (b + 67), .ref (b + 68), .ref (b + 69), .null, .null, .null, .null, .null, .int 0, .null, .null, .int 0]) (v := .ref (b + 69)) hx hb hts fc_X6_83 hown hin hK hP hS (by decide) rfl rfl rfl (Nat.le_of_ble_eq_true rfl) dX6_init_193 (fun H locs hP hS => ?_)
  refine lv_aload_n hx hb dX6_init_196 rfl (lv_at hl 0 rfl) ?_
  refine lv_bipush (v := 12) hx hb dX6_init_197 (by decide) ?_
  refine sc_newaT (k := 44) (by decide) (atype := .boolean) (cA := cA) (kd := 1) (n := 70) (a0 := (12, (.inl (fun _ => 0)))) hx hb hts wd_187 hcA.2.1 (fun U x h => h) hK hP hS hb0 (by omega) (fun _ => rfl) (by decide) (by decide) (Nat.le_of_ble_eq_true rfl) (Nat.le_of_ble_eq_true rfl) (Nat.le_of_ble_eq_true rfl) dX6_init_199 (fun H hK1 hP hS => ?_)
  refine sc_putT (k := 44) (fs := [.int 0, .ref (b + 45), .ref (b + 46), .ref (b + 47), .ref (b + 48), .ref (b + 49), .ref (b + 50), .ref (b + 51), .ref (b + 52), .ref (b + 53), .ref (b + 54), .ref (b + 55), .ref (b + 56), .ref (b + 57), .ref (b + 58), .ref (b + 59), .ref (b + 60), .ref (b + 61), .ref (b + 62), .ref (b + 63), .ref (b + 64), .ref (b + 65), .ref (b + 66), .int 0, .int 0, .ref (b + 67), .ref (b + 68), .ref (b + 69), .null, .null, .null, .null, .null, .int 0, .null, .null, .int 0]) (fs' := [.int 0, .ref (b + 45), .ref (b + 46), .ref (b + 47), .ref (b + 48), .ref (b + 49), .ref (b + 50), .ref (b + 51), .ref (b + 52), .ref (b + 53), .ref (b + 54), .ref (b + 55), .ref (b + 56), .ref (b + 57), .ref (b + 58), .ref (b + 59), .ref (b + 60), .ref (b + 61), .ref (b + 62), .ref (b + 63), .ref (b + 64), .ref (b + 65), .ref (b + 66), .int 0, .int 0, .ref (b + 67), .ref (b + 68), .ref (b + 69), .ref (b + 70), .null, .null, .null, .null, .int 0, .null, .null, .int 0]) (v := .ref (b + 70)) hx hb hts fc_X6_86 hown hin hK hP hS (by decide) rfl rfl rfl (Nat.le_of_ble_eq_true rfl) dX6_init_201 (fun H locs hP hS => ?_)
  refine lv_aload_n hx hb dX6_init_204 rfl (lv_at hl 0 rfl) ?_
  refine lv_bipush (v := 12) hx hb dX6_init_205 (by decide) ?_
  refine sc_newaT (k := 44) (by decide) (atype := .int) (cA := cA) (kd := 0) (n := 71) (a0 := (12, (.inl (fun _ => 0)))) hx hb hts wd_149 hcA.1 (fun U x h => h) hK hP hS hb0 (by omega) (fun _ => rfl) (by decide) (by decide) (Nat.le_of_ble_eq_true rfl) (Nat.le_of_ble_eq_true rfl) (Nat.le_of_ble_eq_true rfl) dX6_init_207 (fun H hK1 hP hS => ?_)
  refine sc_putT (k := 44) (fs := [.int 0, .ref (b + 45), .ref (b + 46), .ref (b + 47), .ref (b + 48), .ref (b + 49), .ref (b + 50), .ref (b + 51), .ref (b + 52), .ref (b + 53), .ref (b + 54), .ref (b + 55), .ref (b + 56), .ref (b + 57), .ref (b + 58), .ref (b + 59), .ref (b + 60), .ref (b + 61), .ref (b + 62), .ref (b + 63), .ref (b + 64), .ref (b + 65), .ref (b + 66), .int 0, .int 0, .ref (b + 67), .ref (b + 68), .ref (b + 69), .ref (b + 70), .null, .null, .null, .null, .int 0, .null, .null, .int 0]) (fs' := [.int 0, .ref (b + 45), .ref (b + 46), .ref (b + 47), .ref (b + 48), .ref (b + 49), .ref (b + 50), .ref (b + 51), .ref (b + 52), .ref (b + 53), .ref (b + 54), .ref (b + 55), .ref (b + 56), .ref (b + 57), .ref (b + 58), .ref (b + 59), .ref (b + 60), .ref (b + 61), .ref (b + 62), .ref (b + 63), .ref (b + 64), .ref (b + 65), .ref (b + 66), .int 0, .int 0, .ref (b + 67), .ref (b + 68), .ref (b + 69), .ref (b + 70), .ref (b + 71), .null, .null, .null, .int 0, .null, .null, .int 0]) (v := .ref (b + 71)) hx hb hts fc_X6_89 hown hin hK hP hS (by decide) rfl rfl rfl (Nat.le_of_ble_eq_true rfl) dX6_init_209 (fun H locs hP hS => ?_)
  refine lv_aload_n hx hb dX6_init_212 rfl (lv_at hl 0 rfl) ?_
  refine lv_bipush (v := 12) hx hb dX6_init_213 (by decide) ?_
  refine sc_newaT (k := 44) (by decide) (atype := .int) (cA := cA) (kd := 0) (n := 72) (a0 := (12, (.inl (fun _ => 0)))) hx hb hts wd_149 hcA.1 (fun U x h => h) hK hP hS hb0 (by omega) (fun _ => rfl) (by decide) (by decide) (Nat.le_of_ble_eq_true rfl) (Nat.le_of_ble_eq_true rfl) (Nat.le_of_ble_eq_true rfl) dX6_init_215 (fun H hK1 hP hS => ?_)
  refine sc_putT (k := 44) (fs := [.int 0, .ref (b + 45), .ref (b + 46), .ref (b + 47), .ref (b + 48), .ref (b + 49), .ref (b + 50), .ref (b + 51), .ref (b + 52), .ref (b + 53), .ref (b + 54), .ref (b + 55), .ref (b + 56), .ref (b + 57), .ref (b + 58), .ref (b + 59), .ref (b + 60), .ref (b + 61), .ref (b + 62), .ref (b + 63), .ref (b + 64), .ref (b + 65), .ref (b + 66), .int 0, .int 0, .ref (b + 67), .ref (b + 68), .ref (b + 69), .ref (b + 70), .ref (b + 71), .null, .null, .null, .int 0, .null, .null, .int 0]) (fs' := [.int 0, .ref (b + 45), .ref (b + 46), .ref (b + 47), .ref (b + 48), .ref (b + 49), .ref (b + 50), .ref (b + 51), .ref (b + 52), .ref (b + 53), .ref (b + 54), .ref (b + 55), .ref (b + 56), .ref (b + 57), .ref (b + 58), .ref (b + 59), .ref (b + 60), .ref (b + 61), .ref (b + 62), .ref (b + 63), .ref (b + 64), .ref (b + 65), .ref (b + 66), .int 0, .int 0, .ref (b + 67), .ref (b + 68), .ref (b + 69), .ref (b + 70), .ref (b + 71), .ref (b + 72), .null, .null, .int 0, .null, .null, .int 0]) (v := .ref (b + 72)) hx hb hts fc_X6_92 hown hin hK hP hS (by decide) rfl rfl rfl (Nat.le_of_ble_eq_true rfl) dX6_init_217 (fun H locs hP hS => ?_)
  refine lv_aload_n hx hb dX6_init_220 rfl (lv_at hl 0 rfl) ?_
  refine lv_bipush (v := 12) hx hb dX6_init_221 (by decide) ?_
  refine sc_newaT (k := 44) (by decide) (atype := .int) (cA := cA) (kd := 0) (n := 73) (a0 := (12, (.inl (fun _ => 0)))) hx hb hts wd_149 hcA.1 (fun U x h => h) hK hP hS hb0 (by omega) (fun _ => rfl) (by decide) (by decide) (Nat.le_of_ble_eq_true rfl) (Nat.le_of_ble_eq_true rfl) (Nat.le_of_ble_eq_true rfl) dX6_init_223 (fun H hK1 hP hS => ?_)
  refine sc_putT (k := 44) (fs := [.int 0, .ref (b + 45), .ref (b + 46), .ref (b + 47), .ref (b + 48), .ref (b + 49), .ref (b + 50), .ref (b + 51), .ref (b + 52), .ref (b + 53), .ref (b + 54), .ref (b + 55), .ref (b + 56), .ref (b + 57), .ref (b + 58), .ref (b + 59), .ref (b + 60), .ref (b + 61), .ref (b + 62), .ref (b + 63), .ref (b + 64), .ref (b + 65), .ref (b + 66), .int 0, .int 0, .ref (b + 67), .ref (b + 68), .ref (b + 69), .ref (b + 70), .ref (b + 71), .ref (b + 72), .null, .null, .int 0, .null, .null, .int 0]) (fs' := [.int 0, .ref (b + 45), .ref (b + 46), .ref (b + 47), .ref (b + 48), .ref (b + 49), .ref (b + 50), .ref (b + 51), .ref (b + 52), .ref (b + 53), .ref (b + 54), .ref (b + 55), .ref (b + 56), .ref (b + 57), .ref (b + 58), .ref (b + 59), .ref (b + 60), .ref (b + 61), .ref (b + 62), .ref (b + 63), .ref (b + 64), .ref (b + 65), .ref (b + 66), .int 0, .int 0, .ref (b + 67), .ref (b + 68), .ref (b + 69), .ref (b + 70), .ref (b + 71), .ref (b + 72), .ref (b + 73), .null, .int 0, .null, .null, .int 0]) (v := .ref (b + 73)) hx hb hts fc_X6_95 hown hin hK hP hS (by decide) rfl rfl rfl (Nat.le_of_ble_eq_true rfl) dX6_init_225 (fun H locs hP hS => ?_)
  refine lv_aload_n hx hb dX6_init_228 rfl (lv_at hl 0 rfl) ?_
  refine lv_bipush (v := 12) hx hb dX6_init_229 (by decide) ?_
  refine sc_newaT (k := 44) (by decide) (atype := .int) (cA := cA) (kd := 0) (n := 74) (a0 := (12, (.inl (fun _ => 0)))) hx hb hts wd_149 hcA.1 (fun U x h => h) hK hP hS hb0 (by omega) (fun _ => rfl) (by decide) (by decide) (Nat.le_of_ble_eq_true rfl) (Nat.le_of_ble_eq_true rfl) (Nat.le_of_ble_eq_true rfl) dX6_init_231 (fun H hK1 hP hS => ?_)
  refine sc_putT (k := 44) (fs := [.int 0, .ref (b + 45), .ref (b + 46), .ref (b + 47), .ref (b + 48), .ref (b + 49), .ref (b + 50), .ref (b + 51), .ref (b + 52), .ref (b + 53), .ref (b + 54), .ref (b + 55), .ref (b + 56), .ref (b + 57), .ref (b + 58), .ref (b + 59), .ref (b + 60), .ref (b + 61), .ref (b + 62), .ref (b + 63), .ref (b + 64), .ref (b + 65), .ref (b + 66), .int 0, .int 0, .ref (b + 67), .ref (b + 68), .ref (b + 69), .ref (b + 70), .ref (b + 71), .ref (b + 72), .ref (b + 73), .null, .int 0, .null, .null, .int 0]) (fs' := [.int 0, .ref (b + 45), .ref (b + 46), .ref (b + 47), .ref (b + 48), .ref (b + 49), .ref (b + 50), .ref (b + 51), .ref (b + 52), .ref (b + 53), .ref (b + 54), .ref (b + 55), .ref (b + 56), .ref (b + 57), .ref (b + 58), .ref (b + 59), .ref (b + 60), .ref (b + 61), .ref (b + 62), .ref (b + 63), .ref (b + 64), .ref (b + 65), .ref (b + 66), .int 0, .int 0, .ref (b + 67), .ref (b + 68), .ref (b + 69), .ref (b + 70), .ref (b + 71), .ref (b + 72), .ref (b + 73), .ref (b + 74), .int 0, .null, .null, .int 0]) (v := .ref (b + 74)) hx hb hts fc_X6_98 hown hin hK hP hS (by decide) rfl rfl rfl (Nat.le_of_ble_eq_true rfl) dX6_init_233 (fun H locs hP hS => ?_)
  refine lv_aload_n hx hb dX6_init_236 rfl (lv_at hl 0 rfl) ?_
  refine lv_iconst (v := 4) hx hb dX6_init_237 (by decide) ?_
  refine sc_newaT (k := 44) (by decide) (atype := .int) (cA := cA) (kd := 0) (n := 75) (a0 := (4, (.inl (fun _ => 0)))) hx hb hts wd_149 hcA.1 (fun U x h => h) hK hP hS hb0 (by omega) (fun _ => rfl) (by decide) (by decide) (Nat.le_of_ble_eq_true rfl) (Nat.le_of_ble_eq_true rfl) (Nat.le_of_ble_eq_true rfl) dX6_init_238 (fun H hK1 hP hS => ?_)
  refine sc_putT (k := 44) (fs := [.int 0, .ref (b + 45), .ref (b + 46), .ref (b + 47), .ref (b + 48), .ref (b + 49), .ref (b + 50), .ref (b + 51), .ref (b + 52), .ref (b + 53), .ref (b + 54), .ref (b + 55), .ref (b + 56), .ref (b + 57), .ref (b + 58), .ref (b + 59), .ref (b + 60), .ref (b + 61), .ref (b + 62), .ref (b + 63), .ref (b + 64), .ref (b + 65), .ref (b + 66), .int 0, .int 0, .ref (b + 67), .ref (b + 68), .ref (b + 69), .ref (b + 70), .ref (b + 71), .ref (b + 72), .ref (b + 73), .ref (b + 74), .int 0, .null, .null, .int 0]) (fs' := [.int 0, .ref (b + 45), .ref (b + 46), .ref (b + 47), .ref (b + 48), .ref (b + 49), .ref (b + 50), .ref (b + 51), .ref (b + 52), .ref (b + 53), .ref (b + 54), .ref (b + 55), .ref (b + 56), .ref (b + 57), .ref (b + 58), .ref (b + 59), .ref (b + 60), .ref (b + 61), .ref (b + 62), .ref (b + 63), .ref (b + 64), .ref (b + 65), .ref (b + 66), .int 0, .int 0, .ref (b + 67), .ref (b + 68), .ref (b + 69), .ref (b + 70), .ref (b + 71), .ref (b + 72), .ref (b + 73), .ref (b + 74), .int 0, .ref (b + 75), .null, .int 0]) (v := .ref (b + 75)) hx hb hts fc_X6_101 hown hin hK hP hS (by decide) rfl rfl rfl (Nat.le_of_ble_eq_true rfl) dX6_init_240 (fun H locs hP hS => ?_)
  refine lv_aload_n hx hb dX6_init_243 rfl (lv_at hl 0 rfl) ?_
  refine lv_iconst (v := 4) hx hb dX6_init_244 (by decide) ?_
  refine sc_newaT (k := 44) (by decide) (atype := .int) (cA := cA) (kd := 0) (n := 76) (a0 := (4, (.inl (fun _ => 0)))) hx hb hts wd_149 hcA.1 (fun U x h => h) hK hP hS hb0 (by omega) (fun _ => rfl) (by decide) (by decide) (Nat.le_of_ble_eq_true rfl) (Nat.le_of_ble_eq_true rfl) (Nat.le_of_ble_eq_true rfl) dX6_init_245 (fun H hK1 hP hS => ?_)
  refine sc_putT (k := 44) (fs := [.int 0, .ref (b + 45), .ref (b + 46), .ref (b + 47), .ref (b + 48), .ref (b + 49), .ref (b + 50), .ref (b + 51), .ref (b + 52), .ref (b + 53), .ref (b + 54), .ref (b + 55), .ref (b + 56), .ref (b + 57), .ref (b + 58), .ref (b + 59), .ref (b + 60), .ref (b + 61), .ref (b + 62), .ref (b + 63), .ref (b + 64), .ref (b + 65), .ref (b + 66), .int 0, .int 0, .ref (b + 67), .ref (b + 68), .ref (b + 69), .ref (b + 70), .ref (b + 71), .ref (b + 72), .ref (b + 73), .ref (b + 74), .int 0, .ref (b + 75), .null, .int 0]) (fs' := [.int 0, .ref (b + 45), .ref (b + 46), .ref (b + 47), .ref (b + 48), .ref (b + 49), .ref (b + 50), .ref (b + 51), .ref (b + 52), .ref (b + 53), .ref (b + 54), .ref (b + 55), .ref (b + 56), .ref (b + 57), .ref (b + 58), .ref (b + 59), .ref (b + 60), .ref (b + 61), .ref (b + 62), .ref (b + 63), .ref (b + 64), .ref (b + 65), .ref (b + 66), .int 0, .int 0, .ref (b + 67), .ref (b + 68), .ref (b + 69), .ref (b + 70), .ref (b + 71), .ref (b + 72), .ref (b + 73), .ref (b + 74), .int 0, .ref (b + 75), .ref (b + 76), .int 0]) (v := .ref (b + 76)) hx hb hts fc_X6_104 hown hin hK hP hS (by decide) rfl rfl rfl (Nat.le_of_ble_eq_true rfl) dX6_init_247 (fun H locs hP hS => ?_)
  refine lv_iconst (v := 0) hx hb dX6_init_250 (by decide) ?_
  refine lv_istore_n (lv' := [(1, .int 0), (0, .ref (b + 44))]) hx hb dX6_init_251 rfl hl (by decide) rfl (fun ls hl => ?_)
  have hP : va_P D vwCl (sc_ws b 77 (sc_H_Model cA b F)) H := hP
  refine sc_Model_loop (cA := cA) (b := b) (F := F) hx hb hts hown hK hK_0 (fun H locs ls hP hS hl => ?_) 60 0 rfl H locs ls ?_ hS hl
  · have hl : lv_has ls 2 [(1, .int 60), (0, .ref (b + 44))] := hl
    refine lv_iconst (v := 0) hx hb dX6_init_271 (by decide) ?_
    refine lv_istore_n (lv' := [(1, .int 0), (0, .ref (b + 44))]) hx hb dX6_init_272 rfl hl (by decide) rfl (fun ls hl => ?_)
    refine lv_iload_n hx hb dX6_init_273 rfl (lv_at hl 0 rfl) ?_
    refine lv_iconst (v := 4) hx hb dX6_init_274 (by decide) ?_
    refine lv_icmp_ge (tgt := 291) hx hb dX6_init_275 (by decide) (fun h => absurd h (by decide)) (fun _ => ?_)
    refine lv_aload_n hx hb dX6_init_278 rfl (lv_at hl 1 rfl) ?_
    refine lv_iload_n hx hb dX6_init_279 rfl (lv_at hl 0 rfl) ?_
    refine lv_iconst (v := 0) hx hb dX6_init_280 (by decide) ?_
    refine lv_iconst (v := 0) hx hb dX6_init_281 (by decide) ?_
    refine sc_callV (As := [.int 0, .int 0, .int 0]) (k := 44) (rest := []) (mA := 3) (ci := 6) (fs := [.int 0, .ref (b + 45), .ref (b + 46), .ref (b + 47), .ref (b + 48), .ref (b + 49), .ref (b + 50), .ref (b + 51), .ref (b + 52), .ref (b + 53), .ref (b + 54), .ref (b + 55), .ref (b + 56), .ref (b + 57), .ref (b + 58), .ref (b + 59), .ref (b + 60), .ref (b + 61), .ref (b + 62), .ref (b + 63), .ref (b + 64), .ref (b + 65), .ref (b + 66), .int 0, .int 0, .ref (b + 67), .ref (b + 68), .ref (b + 69), .ref (b + 70), .ref (b + 71), .ref (b + 72), .ref (b + 73), .ref (b + 74), .int 0, .ref (b + 75), .ref (b + 76), .int 0]) hx hb hml hown hts sc_Open0 sc_tbT (List.forall_mem_cons.mpr ⟨wd_1080, List.forall_mem_cons.mpr ⟨wd_1082, List.forall_mem_cons.mpr ⟨wd_45, List.forall_mem_cons.mpr ⟨wd_99, List.forall_mem_cons.mpr ⟨wd_1083, fun _ h => absurd h List.not_mem_nil⟩⟩⟩⟩⟩) rfl ⟨by decide +kernel, by decide +kernel, by decide +kernel⟩ ⟨(Nat.le_of_ble_eq_true rfl), (Nat.le_of_ble_eq_true rfl)⟩ rfl rfl hl.1 (Nat.le_of_ble_eq_true rfl) hK_0 hcA trivial hP hS (by decide) rfl (by omega) (Nat.le_of_ble_eq_true rfl) (Nat.le_of_ble_eq_true rfl) dX6_init_282 (fun H locs hP _ hS => ?_)
    refine lv_iinc (v := 1) (lv' := [(1, .int 1), (0, .ref (b + 44))]) hx hb dX6_init_285 hl (k := 0) rfl (by decide) (by decide) rfl (fun ls hl => ?_)
    refine lv_goto (tgt := 273) hx hb dX6_init_288 (by decide) ?_
    refine lv_iload_n hx hb dX6_init_273 rfl (lv_at hl 0 rfl) ?_
    refine lv_iconst (v := 4) hx hb dX6_init_274 (by decide) ?_
    refine lv_icmp_ge (tgt := 291) hx hb dX6_init_275 (by decide) (fun h => absurd h (by decide)) (fun _ => ?_)
    refine lv_aload_n hx hb dX6_init_278 rfl (lv_at hl 1 rfl) ?_
    refine lv_iload_n hx hb dX6_init_279 rfl (lv_at hl 0 rfl) ?_
    refine lv_iconst (v := 0) hx hb dX6_init_280 (by decide) ?_
    refine lv_iconst (v := 0) hx hb dX6_init_281 (by decide) ?_
    refine sc_callV (As := [.int 1, .int 0, .int 0]) (k := 44) (rest := []) (mA := 3) (ci := 6) (fs := [.int 0, .ref (b + 45), .ref (b + 46), .ref (b + 47), .ref (b + 48), .ref (b + 49), .ref (b + 50), .ref (b + 51), .ref (b + 52), .ref (b + 53), .ref (b + 54), .ref (b + 55), .ref (b + 56), .ref (b + 57), .ref (b + 58), .ref (b + 59), .ref (b + 60), .ref (b + 61), .ref (b + 62), .ref (b + 63), .ref (b + 64), .ref (b + 65), .ref (b + 66), .int 0, .int 0, .ref (b + 67), .ref (b + 68), .ref (b + 69), .ref (b + 70), .ref (b + 71), .ref (b + 72), .ref (b + 73), .ref (b + 74), .int 0, .ref (b + 75), .ref (b + 76), .int 0]) hx hb hml hown hts sc_Open1 sc_tbT (List.forall_mem_cons.mpr ⟨wd_1080, List.forall_mem_cons.mpr ⟨wd_1082, List.forall_mem_cons.mpr ⟨wd_45, List.forall_mem_cons.mpr ⟨wd_99, List.forall_mem_cons.mpr ⟨wd_1083, fun _ h => absurd h List.not_mem_nil⟩⟩⟩⟩⟩) rfl ⟨by decide +kernel, by decide +kernel, by decide +kernel⟩ ⟨(Nat.le_of_ble_eq_true rfl), (Nat.le_of_ble_eq_true rfl)⟩ rfl rfl hl.1 (Nat.le_of_ble_eq_true rfl) hK_0 hcA trivial hP hS (by decide) rfl (by omega) (Nat.le_of_ble_eq_true rfl) (Nat.le_of_ble_eq_true rfl) dX6_init_282 (fun H locs hP _ hS => ?_)
    refine lv_iinc (v := 2) (lv' := [(1, .int 2), (0, .ref (b + 44))]) hx hb dX6_init_285 hl (k := 0) rfl (by decide) (by decide) rfl (fun ls hl => ?_)
    refine lv_goto (tgt := 273) hx hb dX6_init_288 (by decide) ?_
    refine lv_iload_n hx hb dX6_init_273 rfl (lv_at hl 0 rfl) ?_
    refine lv_iconst (v := 4) hx hb dX6_init_274 (by decide) ?_
    refine lv_icmp_ge (tgt := 291) hx hb dX6_init_275 (by decide) (fun h => absurd h (by decide)) (fun _ => ?_)
    refine lv_aload_n hx hb dX6_init_278 rfl (lv_at hl 1 rfl) ?_
    refine lv_iload_n hx hb dX6_init_279 rfl (lv_at hl 0 rfl) ?_
    refine lv_iconst (v := 0) hx hb dX6_init_280 (by decide) ?_
    refine lv_iconst (v := 0) hx hb dX6_init_281 (by decide) ?_
    refine sc_callV (As := [.int 2, .int 0, .int 0]) (k := 44) (rest := []) (mA := 3) (ci := 6) (fs := [.int 0, .ref (b + 45), .ref (b + 46), .ref (b + 47), .ref (b + 48), .ref (b + 49), .ref (b + 50), .ref (b + 51), .ref (b + 52), .ref (b + 53), .ref (b + 54), .ref (b + 55), .ref (b + 56), .ref (b + 57), .ref (b + 58), .ref (b + 59), .ref (b + 60), .ref (b + 61), .ref (b + 62), .ref (b + 63), .ref (b + 64), .ref (b + 65), .ref (b + 66), .int 0, .int 0, .ref (b + 67), .ref (b + 68), .ref (b + 69), .ref (b + 70), .ref (b + 71), .ref (b + 72), .ref (b + 73), .ref (b + 74), .int 0, .ref (b + 75), .ref (b + 76), .int 0]) hx hb hml hown hts sc_Open2 sc_tbT (List.forall_mem_cons.mpr ⟨wd_1080, List.forall_mem_cons.mpr ⟨wd_1082, List.forall_mem_cons.mpr ⟨wd_45, List.forall_mem_cons.mpr ⟨wd_99, List.forall_mem_cons.mpr ⟨wd_1083, fun _ h => absurd h List.not_mem_nil⟩⟩⟩⟩⟩) rfl ⟨by decide +kernel, by decide +kernel, by decide +kernel⟩ ⟨(Nat.le_of_ble_eq_true rfl), (Nat.le_of_ble_eq_true rfl)⟩ rfl rfl hl.1 (Nat.le_of_ble_eq_true rfl) hK_0 hcA trivial hP hS (by decide) rfl (by omega) (Nat.le_of_ble_eq_true rfl) (Nat.le_of_ble_eq_true rfl) dX6_init_282 (fun H locs hP _ hS => ?_)
    refine lv_iinc (v := 3) (lv' := [(1, .int 3), (0, .ref (b + 44))]) hx hb dX6_init_285 hl (k := 0) rfl (by decide) (by decide) rfl (fun ls hl => ?_)
    refine lv_goto (tgt := 273) hx hb dX6_init_288 (by decide) ?_
    refine lv_iload_n hx hb dX6_init_273 rfl (lv_at hl 0 rfl) ?_
    refine lv_iconst (v := 4) hx hb dX6_init_274 (by decide) ?_
    refine lv_icmp_ge (tgt := 291) hx hb dX6_init_275 (by decide) (fun h => absurd h (by decide)) (fun _ => ?_)
    refine lv_aload_n hx hb dX6_init_278 rfl (lv_at hl 1 rfl) ?_
    refine lv_iload_n hx hb dX6_init_279 rfl (lv_at hl 0 rfl) ?_
    refine lv_iconst (v := 0) hx hb dX6_init_280 (by decide) ?_
    refine lv_iconst (v := 0) hx hb dX6_init_281 (by decide) ?_
    refine sc_callV (As := [.int 3, .int 0, .int 0]) (k := 44) (rest := []) (mA := 3) (ci := 6) (fs := [.int 0, .ref (b + 45), .ref (b + 46), .ref (b + 47), .ref (b + 48), .ref (b + 49), .ref (b + 50), .ref (b + 51), .ref (b + 52), .ref (b + 53), .ref (b + 54), .ref (b + 55), .ref (b + 56), .ref (b + 57), .ref (b + 58), .ref (b + 59), .ref (b + 60), .ref (b + 61), .ref (b + 62), .ref (b + 63), .ref (b + 64), .ref (b + 65), .ref (b + 66), .int 0, .int 0, .ref (b + 67), .ref (b + 68), .ref (b + 69), .ref (b + 70), .ref (b + 71), .ref (b + 72), .ref (b + 73), .ref (b + 74), .int 0, .ref (b + 75), .ref (b + 76), .int 0]) hx hb hml hown hts sc_Open3 sc_tbT (List.forall_mem_cons.mpr ⟨wd_1080, List.forall_mem_cons.mpr ⟨wd_1082, List.forall_mem_cons.mpr ⟨wd_45, List.forall_mem_cons.mpr ⟨wd_99, List.forall_mem_cons.mpr ⟨wd_1083, fun _ h => absurd h List.not_mem_nil⟩⟩⟩⟩⟩) rfl ⟨by decide +kernel, by decide +kernel, by decide +kernel⟩ ⟨(Nat.le_of_ble_eq_true rfl), (Nat.le_of_ble_eq_true rfl)⟩ rfl rfl hl.1 (Nat.le_of_ble_eq_true rfl) hK_0 hcA trivial hP hS (by decide) rfl (by omega) (Nat.le_of_ble_eq_true rfl) (Nat.le_of_ble_eq_true rfl) dX6_init_282 (fun H locs hP _ hS => ?_)
    refine lv_iinc (v := 4) (lv' := [(1, .int 4), (0, .ref (b + 44))]) hx hb dX6_init_285 hl (k := 0) rfl (by decide) (by decide) rfl (fun ls hl => ?_)
    refine lv_goto (tgt := 273) hx hb dX6_init_288 (by decide) ?_
    refine lv_iload_n hx hb dX6_init_273 rfl (lv_at hl 0 rfl) ?_
    refine lv_iconst (v := 4) hx hb dX6_init_274 (by decide) ?_
    refine lv_icmp_ge (tgt := 291) hx hb dX6_init_275 (by decide) (fun _ => ?_) (fun h => absurd (by decide) h)
    exact W.vret hx hb hr (fun t ht hW => ⟨⟨(), rfl, trivial, by rw [ht]; exact hP, va_K.moved hW.alike (hK_0.app hK_1)⟩, hS.F ht⟩) hS.2.2 dX6_init_291
  · rw [show sc_ws b 77 (sc_up1 cA (sc_H_Model cA b F) 0) = sc_ws b 77 (sc_H_Model cA b F) from sc_ws_congr fun k _ => ?_]
    · exact hP
    · unfold sc_up1
      rw [sc_fl_0]
      by_cases h53 : k = 53
      · subst h53; rfl
      · simp [va_up, h53]
end SYP3
