section SYS
set_option maxRecDepth 100000 in
set_option maxHeartbeats 8000000 in
/-- the law's prelude: the system and the law's own rows made -/
theorem law_prelude {p : Program} {l : Launch} {e : Env} {s : State} {m : MethodId} {args : Array Value} {below : List Frame} {meth : Method} {c : Code} {Q : State → Prop} {D : va_G} {cA : Nat → ClassId} {b bs : Nat} {f : Nat → Nat} {F : Nat → va_E}
    (hx : p.tables.exec = Jvm.exec) (hb : c.code = cL_law) (hml : c.maxLocals = 13) (hown : s.vm.findClass RL = some m.cls) (hts : ∀ w ∈ sy_AL, w.before args s = true) (hK : va_K D vwCl [] s) (hcA : sc_A s cA) (hpr : sc_Pr s) (hz : s.heap.size = b)
    (kk : ∀ (H : Heap) (locs : List Loc) (ls : Array Slot), sy_PP D cA (b, f) sy_s0 H → va_K D vwCl (sy_tys cA) s → va_S (sy_ab b) s.heap H locs → lv_has ls 13 [(10, .ref (b + 52)), (9, .ref (b + 51)), (8, .ref (b + 50)), (7, .ref (b + 49)), (6, .ref (b + 48)), (5, .ref (b + 47)), (4, .ref (b + 46)), (3, .ref (b + 45)), (2, .ref (b + 44)), (1, .ref (b + 0)), (0, .ref bs)] → W p l e room_1 s m args below meth c H locs 53 1169 Q (F0 m 55 ls [])) :
    W p l e room_1 s m args below meth c s.heap [] 0 0 Q (entryFrame m ([Value.ref bs] : List Value).toArray 13) := by
  have hb0 : b ≤ s.heap.size := by omega
  have hS : va_S (sy_ab b) s.heap s.heap [] := va_S.rf
  have hl := lv_entry ([.ref bs]) (n := 13) (Nat.le_of_ble_eq_true rfl)
  rw [lg_entry_eq]
  generalize (lg_sl ([.ref bs]) ++ List.replicate (13 - (lg_sl ([.ref bs])).length) Slot.unset).toArray = ls at hl ⊢
  have hl : lv_has ls 13 [(0, .ref bs)] := hl
  have hP : va_P D vwCl (sc_ws b 0 F) s.heap := fun k q h => absurd h (by simp [sc_ws])
  refine sc_new (ci := 5) (n := 0) (fs := [.null, .null, .null, .null, .null, .null]) (C := RX5) (T := TX5) (N := 6) hx hb hts sy_kw5 tyX5 tyX5_ok hown (List.forall_mem_cons.mpr ⟨wd_59, List.forall_mem_cons.mpr ⟨wd_60, List.forall_mem_cons.mpr ⟨wd_46, fun _ h => absurd h List.not_mem_nil⟩⟩⟩) hK hP hS hb0 (by omega) rfl (fun j hj => by rcases (show j = 0 ∨ j = 1 ∨ j = 2 ∨ j = 3 ∨ j = 4 ∨ j = 5 by omega) with rfl | rfl | rfl | rfl | rfl | rfl <;> rfl) (Nat.le_of_ble_eq_true rfl) (Nat.le_of_ble_eq_true rfl) dL_law_0 (fun H hP hS => ?_)
  refine lv_dup hx hb dL_law_3 rfl ?_
  refine sc_call (As := []) (k := 0) (rest := [.ref (b + 0)]) (mA := 0) hx hb hml hown hts sc_Yard sc_tbP (List.forall_mem_cons.mpr ⟨wd_61, List.forall_mem_cons.mpr ⟨wd_62, List.forall_mem_cons.mpr ⟨wd_46, List.forall_mem_cons.mpr ⟨wd_63, fun _ h => absurd h List.not_mem_nil⟩⟩⟩⟩) rfl ⟨by decide +kernel, by decide +kernel, by decide +kernel⟩ ⟨(Nat.le_of_ble_eq_true rfl), (Nat.le_of_ble_eq_true rfl)⟩ rfl rfl hl.1 (Nat.le_of_ble_eq_true rfl) hK hcA hpr hP hS (by decide) (by omega) (Nat.le_of_ble_eq_true rfl) (Nat.le_of_ble_eq_true rfl) dL_law_4 (fun H locs hP hK1 hS => ?_)
  have hK_0 : va_K D vwCl [(cA 0, .int)] s := hK1.sub [0] rfl
  have hK_1 : va_K D vwCl [(cA 1, .boolean)] s := hK1.sub [1] rfl
  have hK_2 : va_K D vwCl [(cA 2, .object "SegmentYard$View")] s := hK1.sub [2] rfl
  refine lv_astore_n (lv' := [(1, .ref (b + 0)), (0, .ref bs)]) hx hb dL_law_7 rfl hl (by decide) rfl (fun ls hl => ?_)
  refine lv_bipush (v := 12) hx hb dL_law_8 (by decide) ?_
  refine sc_newa (atype := .int) (cA := cA) (kd := 0) (n := 44) (a0 := (12, (.inl (fun _ => 0)))) hx hb hts wd_101 hcA.1 (fun U x h => h) hK hP hS hb0 (by omega) (fun _ => rfl) (by decide) (by decide) (Nat.le_of_ble_eq_true rfl) (Nat.le_of_ble_eq_true rfl) (Nat.le_of_ble_eq_true rfl) dL_law_10 (fun H hK1 hP hS => ?_)
  refine lv_astore_n (lv' := [(2, .ref (b + 44)), (1, .ref (b + 0)), (0, .ref bs)]) hx hb dL_law_12 rfl hl (by decide) rfl (fun ls hl => ?_)
  refine lv_bipush (v := 64) hx hb dL_law_13 (by decide) ?_
  refine sc_newa (atype := .long) (cA := cA) (kd := 3) (n := 45) (a0 := (64, (.inr (.inl (fun _ => 0))))) hx hb hts wd_1142 hcA.2.2.2 (fun U x h => h) hK hP hS hb0 (by omega) (fun _ => rfl) (by decide) (by decide) (Nat.le_of_ble_eq_true rfl) (Nat.le_of_ble_eq_true rfl) (Nat.le_of_ble_eq_true rfl) dL_law_15 (fun H hK1 hP hS => ?_)
  have hK_3 : va_K D vwCl [(cA 3, .long)] s := hK1
  refine lv_astore_n (lv' := [(3, .ref (b + 45)), (2, .ref (b + 44)), (1, .ref (b + 0)), (0, .ref bs)]) hx hb dL_law_17 rfl hl (by decide) rfl (fun ls hl => ?_)
  refine lv_bipush (v := 64) hx hb dL_law_18 (by decide) ?_
  refine sc_newa (atype := .long) (cA := cA) (kd := 3) (n := 46) (a0 := (64, (.inr (.inl (fun _ => 0))))) hx hb hts wd_1142 hcA.2.2.2 (fun U x h => h) hK hP hS hb0 (by omega) (fun _ => rfl) (by decide) (by decide) (Nat.le_of_ble_eq_true rfl) (Nat.le_of_ble_eq_true rfl) (Nat.le_of_ble_eq_true rfl) dL_law_20 (fun H hK1 hP hS => ?_)
  refine lv_astore (lv' := [(4, .ref (b + 46)), (3, .ref (b + 45)), (2, .ref (b + 44)), (1, .ref (b + 0)), (0, .ref bs)]) hx hb dL_law_22 hl (by decide) rfl (fun ls hl => ?_)
  refine lv_bipush (v := 64) hx hb dL_law_24 (by decide) ?_
  refine sc_newa (atype := .long) (cA := cA) (kd := 3) (n := 47) (a0 := (64, (.inr (.inl (fun _ => 0))))) hx hb hts wd_1142 hcA.2.2.2 (fun U x h => h) hK hP hS hb0 (by omega) (fun _ => rfl) (by decide) (by decide) (Nat.le_of_ble_eq_true rfl) (Nat.le_of_ble_eq_true rfl) (Nat.le_of_ble_eq_true rfl) dL_law_26 (fun H hK1 hP hS => ?_)
  refine lv_astore (lv' := [(5, .ref (b + 47)), (4, .ref (b + 46)), (3, .ref (b + 45)), (2, .ref (b + 44)), (1, .ref (b + 0)), (0, .ref bs)]) hx hb dL_law_28 hl (by decide) rfl (fun ls hl => ?_)
  refine lv_iconst (v := 3) hx hb dL_law_30 (by decide) ?_
  refine sc_newa (atype := .int) (cA := cA) (kd := 0) (n := 48) (a0 := (3, (.inl (fun _ => 0)))) hx hb hts wd_101 hcA.1 (fun U x h => h) hK hP hS hb0 (by omega) (fun _ => rfl) (by decide) (by decide) (Nat.le_of_ble_eq_true rfl) (Nat.le_of_ble_eq_true rfl) (Nat.le_of_ble_eq_true rfl) dL_law_31 (fun H hK1 hP hS => ?_)
  refine lv_astore (lv' := [(6, .ref (b + 48)), (5, .ref (b + 47)), (4, .ref (b + 46)), (3, .ref (b + 45)), (2, .ref (b + 44)), (1, .ref (b + 0)), (0, .ref bs)]) hx hb dL_law_33 hl (by decide) rfl (fun ls hl => ?_)
  refine lv_iconst (v := 4) hx hb dL_law_35 (by decide) ?_
  refine sc_newa (atype := .int) (cA := cA) (kd := 0) (n := 49) (a0 := (4, (.inl (fun _ => 0)))) hx hb hts wd_101 hcA.1 (fun U x h => h) hK hP hS hb0 (by omega) (fun _ => rfl) (by decide) (by decide) (Nat.le_of_ble_eq_true rfl) (Nat.le_of_ble_eq_true rfl) (Nat.le_of_ble_eq_true rfl) dL_law_36 (fun H hK1 hP hS => ?_)
  refine lv_astore (lv' := [(7, .ref (b + 49)), (6, .ref (b + 48)), (5, .ref (b + 47)), (4, .ref (b + 46)), (3, .ref (b + 45)), (2, .ref (b + 44)), (1, .ref (b + 0)), (0, .ref bs)]) hx hb dL_law_38 hl (by decide) rfl (fun ls hl => ?_)
  refine lv_iconst (v := 4) hx hb dL_law_40 (by decide) ?_
  refine sc_newa (atype := .long) (cA := cA) (kd := 3) (n := 50) (a0 := (4, (.inr (.inl (fun _ => 0))))) hx hb hts wd_1142 hcA.2.2.2 (fun U x h => h) hK hP hS hb0 (by omega) (fun _ => rfl) (by decide) (by decide) (Nat.le_of_ble_eq_true rfl) (Nat.le_of_ble_eq_true rfl) (Nat.le_of_ble_eq_true rfl) dL_law_41 (fun H hK1 hP hS => ?_)
  refine lv_astore (lv' := [(8, .ref (b + 50)), (7, .ref (b + 49)), (6, .ref (b + 48)), (5, .ref (b + 47)), (4, .ref (b + 46)), (3, .ref (b + 45)), (2, .ref (b + 44)), (1, .ref (b + 0)), (0, .ref bs)]) hx hb dL_law_43 hl (by decide) rfl (fun ls hl => ?_)
  refine lv_iconst (v := 4) hx hb dL_law_45 (by decide) ?_
  refine sc_newa (atype := .int) (cA := cA) (kd := 0) (n := 51) (a0 := (4, (.inl (fun _ => 0)))) hx hb hts wd_101 hcA.1 (fun U x h => h) hK hP hS hb0 (by omega) (fun _ => rfl) (by decide) (by decide) (Nat.le_of_ble_eq_true rfl) (Nat.le_of_ble_eq_true rfl) (Nat.le_of_ble_eq_true rfl) dL_law_46 (fun H hK1 hP hS => ?_)
  refine lv_astore (lv' := [(9, .ref (b + 51)), (8, .ref (b + 50)), (7, .ref (b + 49)), (6, .ref (b + 48)), (5, .ref (b + 47)), (4, .ref (b + 46)), (3, .ref (b + 45)), (2, .ref (b + 44)), (1, .ref (b + 0)), (0, .ref bs)]) hx hb dL_law_48 hl (by decide) rfl (fun ls hl => ?_)
  refine lv_iconst (v := 2) hx hb dL_law_50 (by decide) ?_
  refine sc_newa (atype := .int) (cA := cA) (kd := 0) (n := 52) (a0 := (2, (.inl (fun _ => 0)))) hx hb hts wd_101 hcA.1 (fun U x h => h) hK hP hS hb0 (by omega) (fun _ => rfl) (by decide) (by decide) (Nat.le_of_ble_eq_true rfl) (Nat.le_of_ble_eq_true rfl) (Nat.le_of_ble_eq_true rfl) dL_law_51 (fun H hK1 hP hS => ?_)
  refine lv_astore (lv' := [(10, .ref (b + 52)), (9, .ref (b + 51)), (8, .ref (b + 50)), (7, .ref (b + 49)), (6, .ref (b + 48)), (5, .ref (b + 47)), (4, .ref (b + 46)), (3, .ref (b + 45)), (2, .ref (b + 44)), (1, .ref (b + 0)), (0, .ref bs)]) hx hb dL_law_53 hl (by decide) rfl (fun ls hl => ?_)
  refine W.eq (g2 := F0 m 55 ls []) rfl ?_
  refine kk H _ ls (sc_Fin_P hP) ⟨hK.1, fun k q hq => ?_⟩ hS hl
  match k, hq with
  | 0, hq => exact hK_0.2 0 q hq
  | 1, hq => exact hK_1.2 0 q hq
  | 2, hq => exact hK_2.2 0 q hq
  | 3, hq => exact hK_3.2 0 q hq
  | k + 4, hq => exact absurd hq (by simp [sy_tys])
end SYS
