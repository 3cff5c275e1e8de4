section SYS
set_option maxRecDepth 100000 in
set_option maxHeartbeats 8000000 in
/-- the law's prelude: both systems and the row of one long made -/
theorem law_prelude {p : Program} {l : Launch} {e : Env} {s : State} {m : MethodId} {args : Array Value} {below : List Frame} {meth : Method} {c : Code} {Q : State → Prop} {D : va_G} {cA : Nat → ClassId} {b bs : Nat} {F : Nat → va_E}
    (hx : p.tables.exec = Jvm.exec) (hb : c.code = cL_law) (hml : c.maxLocals = 8) (hown : s.vm.findClass RL = some m.cls) (hts : ∀ w ∈ sy_AL, w.before args s = true) (hK : va_K D vwCl [] s) (hcA : sc_A s cA) (hpr : sc_Pr s) (hz : s.heap.size = b)
    (kk : ∀ (H : Heap) (locs : List Loc) (ls : Array Slot), va_P D vwCl (sy_wd b cA sy_s0) H → va_K D vwCl (sy_tys cA) s → va_S (sy_ab b) s.heap H locs → lv_has ls 8 [(3, .ref (b + 77)), (2, .ref (b + 44)), (1, .ref (b + 0)), (0, .ref bs)] → W p l e room_1 s m args below meth c H locs 78 1761 Q (F0 m 20 ls [])) :
    W p l e room_1 s m args below meth c s.heap [] 0 0 Q (entryFrame m ([Value.ref bs] : List Value).toArray 8) := by
  have hb0 : b ≤ s.heap.size := by omega
  have hS : va_S (sy_ab b) s.heap s.heap [] := va_S.rf
  have hl := lv_entry ([.ref bs]) (n := 8) (Nat.le_of_ble_eq_true rfl)
  rw [lg_entry_eq]
  generalize (lg_sl ([.ref bs]) ++ List.replicate (8 - (lg_sl ([.ref bs])).length) Slot.unset).toArray = ls at hl ⊢
  have hl : lv_has ls 8 [(0, .ref bs)] := hl
  have hP : va_P D vwCl (sc_ws b 0 F) s.heap := fun k q h => absurd h (by simp [sc_ws])
  refine sc_new (ci := 5) (n := 0) (fs := [.null, .null, .null, .null, .null, .null]) (C := RX5) (T := TX5) (N := 6) hx hb hts sy_kw5 tyX5 tyX5_ok hown (List.forall_mem_cons.mpr ⟨wd_107, List.forall_mem_cons.mpr ⟨wd_108, List.forall_mem_cons.mpr ⟨wd_93, fun _ h => absurd h List.not_mem_nil⟩⟩⟩) hK hP hS hb0 (by omega) rfl (fun j hj => by rcases (show j = 0 ∨ j = 1 ∨ j = 2 ∨ j = 3 ∨ j = 4 ∨ j = 5 by omega) with rfl | rfl | rfl | rfl | rfl | rfl <;> rfl) (Nat.le_of_ble_eq_true rfl) (Nat.le_of_ble_eq_true rfl) dL_law_0 (fun H hP hS => ?_)
  refine lv_dup hx hb dL_law_3 rfl ?_
  refine sc_call (As := []) (k := 0) (rest := [.ref (b + 0)]) (mA := 0) hx hb hml hown hts sc_Yard sc_tbP (List.forall_mem_cons.mpr ⟨wd_109, List.forall_mem_cons.mpr ⟨wd_110, List.forall_mem_cons.mpr ⟨wd_93, List.forall_mem_cons.mpr ⟨wd_111, fun _ h => absurd h List.not_mem_nil⟩⟩⟩⟩) rfl ⟨by decide +kernel, by decide +kernel, by decide +kernel⟩ ⟨(Nat.le_of_ble_eq_true rfl), (Nat.le_of_ble_eq_true rfl)⟩ rfl rfl hl.1 (Nat.le_of_ble_eq_true rfl) hK hcA hpr hP hS (by decide) (by omega) (Nat.le_of_ble_eq_true rfl) (Nat.le_of_ble_eq_true rfl) dL_law_4 (fun H locs hP hK1 hS => ?_)
  have hK_0 : va_K D vwCl [(cA 0, .int)] s := hK1.sub [0] rfl
  have hK_1 : va_K D vwCl [(cA 1, .boolean)] s := hK1.sub [1] rfl
  have hK_2 : va_K D vwCl [(cA 2, .object "SegmentYard$View")] s := hK1.sub [2] rfl
  refine lv_astore_n (lv' := [(1, .ref (b + 0)), (0, .ref bs)]) hx hb dL_law_7 rfl hl (by decide) rfl (fun ls hl => ?_)
  refine sc_new (ci := 6) (n := 44) (fs := [.int 0, .null, .null, .null, .null, .null, .null, .null, .null, .null, .null, .null, .null, .null, .null, .null, .null, .null, .null, .null, .null, .null, .null, .int 0, .int 0, .null, .null, .null, .null, .null, .null, .null, .null, .int 0, .null, .null, .int 0]) (C := RX6) (T := TX6) (N := 37) hx hb hts sy_kw6 tyX6 tyX6_ok hown (List.forall_mem_cons.mpr ⟨wd_1074, List.forall_mem_cons.mpr ⟨wd_1075, List.forall_mem_cons.mpr ⟨wd_99, fun _ h => absurd h List.not_mem_nil⟩⟩⟩) hK hP hS hb0 (by omega) rfl (fun j hj => by rcases (show j = 0 ∨ j = 1 ∨ j = 2 ∨ j = 3 ∨ j = 4 ∨ j = 5 ∨ j = 6 ∨ j = 7 ∨ j = 8 ∨ j = 9 ∨ j = 10 ∨ j = 11 ∨ j = 12 ∨ j = 13 ∨ j = 14 ∨ j = 15 ∨ j = 16 ∨ j = 17 ∨ j = 18 ∨ j = 19 ∨ j = 20 ∨ j = 21 ∨ j = 22 ∨ j = 23 ∨ j = 24 ∨ j = 25 ∨ j = 26 ∨ j = 27 ∨ j = 28 ∨ j = 29 ∨ j = 30 ∨ j = 31 ∨ j = 32 ∨ j = 33 ∨ j = 34 ∨ j = 35 ∨ j = 36 by omega) with rfl | rfl | rfl | rfl | rfl | rfl | rfl | rfl | rfl | rfl | rfl | rfl | rfl | rfl | rfl | rfl | rfl | rfl | rfl | rfl | rfl | rfl | rfl | rfl | rfl | rfl | rfl | rfl | rfl | rfl | rfl | rfl | rfl | rfl | rfl | rfl | rfl <;> rfl) (Nat.le_of_ble_eq_true rfl) (Nat.le_of_ble_eq_true rfl) dL_law_8 (fun H hP hS => ?_)
  refine lv_dup hx hb dL_law_11 rfl ?_
  refine sc_call (As := []) (k := 44) (rest := [.ref (b + 44)]) (mA := 0) hx hb hml hown hts sc_Model sc_tbT (List.forall_mem_cons.mpr ⟨wd_1076, List.forall_mem_cons.mpr ⟨wd_1077, List.forall_mem_cons.mpr ⟨wd_99, List.forall_mem_cons.mpr ⟨wd_1078, fun _ h => absurd h List.not_mem_nil⟩⟩⟩⟩) rfl ⟨by decide +kernel, by decide +kernel, by decide +kernel⟩ ⟨(Nat.le_of_ble_eq_true rfl), (Nat.le_of_ble_eq_true rfl)⟩ rfl rfl hl.1 (Nat.le_of_ble_eq_true rfl) hK hcA trivial hP hS (by decide) (by omega) (Nat.le_of_ble_eq_true rfl) (Nat.le_of_ble_eq_true rfl) dL_law_12 (fun H locs hP hK1 hS => ?_)
  refine lv_astore_n (lv' := [(2, .ref (b + 44)), (1, .ref (b + 0)), (0, .ref bs)]) hx hb dL_law_15 rfl hl (by decide) rfl (fun ls hl => ?_)
  refine lv_iconst (v := 1) hx hb dL_law_16 (by decide) ?_
  refine sc_newa (atype := .long) (cA := cA) (kd := 3) (n := 77) (a0 := (1, (.inr (.inl (fun _ => 0))))) hx hb hts wd_1501 hcA.2.2.2 (fun U x h => h) hK hP hS hb0 (by omega) (fun _ => rfl) (by decide) (by decide) (Nat.le_of_ble_eq_true rfl) (Nat.le_of_ble_eq_true rfl) (Nat.le_of_ble_eq_true rfl) dL_law_17 (fun H hK1 hP hS => ?_)
  have hK_3 : va_K D vwCl [(cA 3, .long)] s := hK1
  refine lv_astore_n (lv' := [(3, .ref (b + 77)), (2, .ref (b + 44)), (1, .ref (b + 0)), (0, .ref bs)]) hx hb dL_law_19 rfl hl (by decide) rfl (fun ls hl => ?_)
  refine W.eq (g2 := F0 m 20 ls []) rfl ?_
  refine kk H _ ls (sc_Fin_P hP) ⟨hK.1, fun k q hq => ?_⟩ hS hl
  match k, hq with
  | 0, hq => exact hK_0.2 0 q hq
  | 1, hq => exact hK_1.2 0 q hq
  | 2, hq => exact hK_2.2 0 q hq
  | 3, hq => exact hK_3.2 0 q hq
  | k + 4, hq => exact absurd hq (by simp [sy_tys])
end SYS
