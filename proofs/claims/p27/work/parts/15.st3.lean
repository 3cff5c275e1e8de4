section SYU
def law_cA (s : State) : Nat → ClassId
  | 0 => (s.vm.findClass ("[" ++ FieldType.int.toString)).getD 0
  | 1 => (s.vm.findClass ("[" ++ FieldType.boolean.toString)).getD 0
  | 2 => (s.vm.findClass ("[" ++ (FieldType.object "SegmentYard$View").toString)).getD 0
  | _ => (s.vm.findClass ("[" ++ FieldType.long.toString)).getD 0
theorem law_cA_ok (s : State) : sc_A s (law_cA s) :=
  ⟨fun c h => by show c = (s.vm.findClass ("[" ++ FieldType.int.toString)).getD 0; rw [h]; rfl, fun c h => by show c = (s.vm.findClass ("[" ++ FieldType.boolean.toString)).getD 0; rw [h]; rfl, fun c h => by show c = (s.vm.findClass ("[" ++ (FieldType.object "SegmentYard$View").toString)).getD 0; rw [h]; rfl, fun c h => by show c = (s.vm.findClass ("[" ++ FieldType.long.toString)).getD 0; rw [h]; rfl⟩
theorem law_flags {l : Launch} (h : l.flags = flags0) : l.stackTraces = false := by
  unfold Launch.stackTraces
  rw [h]
  decide +kernel
theorem law_FN {p : Program} {e : Env} {s : State} {m : MethodId} {below : List Frame} {meth : Method} {c : Code} {l : Launch} (hflags : l.flags = flags0) {b L : Nat} {xs : Nat → Int32} (C0 : lw_At p s m meth c b L xs) {D : va_G} {cA : Nat → ClassId} (hK : va_K D vwCl (sy_tys cA) s) (τ : sy_Mem) :
    sy_FN ((p, l, e, room_1, s, m, (#[Value.ref b] : Array Value), below, meth, c), lw_Z below #[Value.ref b] s, D, cA, (s.heap.size, fun _ => 0), ((.inl (some (.int 1)), τ) : sy_Rs × sy_Mem), 490769) (RL, code, some .boolean, 13, 13, some (b, L, xs)) := by
  obtain ⟨hx, hb, hr, hml, hown, hts, hX, hbl, hlocks, hgv⟩ := C0
  have hc5 : s.vm.findClass "SegmentYard" = some (D.1 5) := (hK.1 5 _ rfl).2.1
  refine ⟨⟨hx, hb, hown, sy_tbl hts, hK, law_T1 hc5 hts hgv, law_flags hflags, hml, ⟨(Nat.le_of_ble_eq_true rfl), (Nat.le_of_ble_eq_true rfl)⟩, ⟨(Nat.le_of_ble_eq_true rfl), (Nat.le_of_ble_eq_true rfl)⟩, ?_, ?_, ?_, ?_, ⟨hX, hbl, hbl⟩⟩, law_NC hgv, ⟨_, _, rfl⟩, Nat.le_refl _⟩
  · rintro ⟨E, σ, h⟩
    cases h
  · intro v σ hG n H locs ls pc hn hP hS hrok
    cases hG
    obtain ⟨hd, _⟩ := hrok
    have hn' : n ≤ 490769 := hn
    show W p l e room_1 s m #[Value.ref b] below meth c H locs n (6 * n) (lw_Z below #[Value.ref b] s) (F0 m pc ls [.int 1])
    refine va_forget (fun q hq => hS.2.2 q hq) ?_
    exact W.widen (by omega) (by omega) (lw_ret hx hb hr hlocks hd)
  · intro E σ h
    cases h
  · intro h
    exact absurd (show ("SegmentYardLaw" : String) = "SegmentYard" from h) (by decide)
/-- from the entry, if the pure law comes to 1 -/
theorem whole_open {p : Program} {e : Env} {s : State} {m : MethodId} {below : List Frame} {meth : Method} {c : Code} (l : Launch) (hflags : l.flags = flags0) {b L : Nat} {xs : Nat → Int32} (C0 : lw_At p s m meth c b L xs) (law : ∃ τ, sy_lawM b L xs sy_s0 = some (.inl (some (.int 1)), τ)) : W p l e room_1 s m #[Value.ref b] below meth c s.heap [] 0 0 (lw_Z below #[Value.ref b] s) (entryFrame m ([Value.ref b] : List Value).toArray 13) := by
  obtain ⟨τ, hτ⟩ := law
  have C1 := C0
  obtain ⟨hx, hb, hr, hml, hown, hts, hX, hbl, hlocks, hgv⟩ := C1
  have hts0 : ∀ w ∈ sy_AL, w.before #[Value.ref b] s = true := sy_tbl hts
  obtain ⟨D, hK⟩ := law_K hts0
  refine law_prelude (b := s.heap.size) (bs := b) (D := D) (cA := law_cA s) (f := fun _ => 0) (F := fun _ => .inr (0, [])) hx hb hml hown hts0 hK (law_cA_ok s) (law_Pr hts) rfl (fun H locs ls hP hK4 hS hl => ?_)
  refine W.widen (k := 300) (n := 6 * 300) (Nat.le_of_ble_eq_true rfl) (Nat.le_of_ble_eq_true rfl) ?_
  have FN := law_FN (e := e) (below := below) hflags C0 hK4 τ
  refine os_L_law b L xs _ FN 300 490769 (sy_env0 b) (fun _ => sy_fail) (Nat.le_refl _) (Nat.le_refl _) (fun env' => sy_vac (fun _ => rfl)) sy_s0 (Nat.le_of_ble_eq_true rfl) hτ H locs ls hP hS ⟨hl.1.trans hml.symm, hl.2.1, fun i v hv hne => ?_⟩
  match i, hv with
  | 0, hv => obtain rfl := Option.some.inj hv; exact lv_at hl 10 rfl
  | 1, hv => obtain rfl := Option.some.inj hv; exact lv_at hl 9 rfl
  | 2, hv => obtain rfl := Option.some.inj hv; exact lv_at hl 8 rfl
  | 3, hv => obtain rfl := Option.some.inj hv; exact lv_at hl 7 rfl
  | 4, hv => obtain rfl := Option.some.inj hv; exact lv_at hl 6 rfl
  | 5, hv => obtain rfl := Option.some.inj hv; exact lv_at hl 5 rfl
  | 6, hv => obtain rfl := Option.some.inj hv; exact lv_at hl 4 rfl
  | 7, hv => obtain rfl := Option.some.inj hv; exact lv_at hl 3 rfl
  | 8, hv => obtain rfl := Option.some.inj hv; exact lv_at hl 2 rfl
  | 9, hv => obtain rfl := Option.some.inj hv; exact lv_at hl 1 rfl
  | 10, hv => obtain rfl := Option.some.inj hv; exact lv_at hl 0 rfl
  | i + 11, hv => exact absurd hv (by simp [sy_env0])
end SYU
