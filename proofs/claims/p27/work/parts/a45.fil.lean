section LA45
variable {A B G K X Y σ τ : sy_Mem} {t v d n z c : Nat} {u w x : Int32}
theorem plc_num (h : ∀ k, k ≠ 14 → Y k = X k) (hN : ∀ s, ya_tw X s u (-1) = true → ya_N Y s 0 = ya_N X s 0) : ya_plc Y u (-1) w (-1) = ya_plc X u (-1) w (-1) := by
  have e11 := h 11 (by decide)
  have e12 := h 12 (by decide)
  have eTw : ∀ s, ya_tw Y s u (-1) = ya_tw X s u (-1) := fun s => by
    unfold ya_tw
    rw [ya_sg_c e11, ya_sg_c e12]
  have eD : tD Y u = tD X u := ya_tg_c (h 1 (by decide)) (h 2 (by decide)) _ _
  have eK : tK Y u = tK X u := ya_tg_c (h 1 (by decide)) (h 5 (by decide)) _ _
  have eR : tR Y u = tR X u := ya_tg_c (h 1 (by decide)) (h 6 (by decide)) _ _
  have eA : ∀ a b, ya_at Y a b = ya_at X a b := fun a b => by
    unfold ya_at
    rw [h 15 (by decide), h 16 (by decide)]
  have eC : ∀ a, ya_cnt Y a = ya_cnt X a := fun a => by
    unfold ya_cnt
    rw [h 16 (by decide)]
  have eL : ∀ s, yL Y s = yL X s := fun s => ya_sg_c (h 17 (by decide)) s
  have f1 : ya_tw X (-1) u (-1) = false := by
    unfold ya_tw
    rw [show decide ((0 : Int32) ≤ -1) = false from rfl]
    rfl
  have et : ya_twin Y u (-1) w (-1) = ya_twin X u (-1) w (-1) := by
    unfold ya_twin ya_least
    rw [eTw, f1, eR, eK, eD, eC, Bool.and_false, Bool.false_and, Bool.false_and, if_neg (show ¬ (false = true) by decide), if_neg (show ¬ (false = true) by decide)]
    have e2 : (fun i => ya_tw Y (ya_at Y (tD X u) (nI i)) u (-1) && decide ((if (!(!decide (tK X u = 2))) = true then 0 else if decide (tR X u = 1) = true then w + 1 else w) ≤ ya_N Y (ya_at Y (tD X u) (nI i)) 0)) = (fun i => ya_tw X (ya_at X (tD X u) (nI i)) u (-1) && decide ((if (!(!decide (tK X u = 2))) = true then 0 else if decide (tR X u = 1) = true then w + 1 else w) ≤ ya_N X (ya_at X (tD X u) (nI i)) 0)) := by
      funext i
      rw [eA, eTw]
      cases hc : ya_tw X (ya_at X (tD X u) (nI i)) u (-1) with
      | true => rw [hN _ hc]
      | false => rw [Bool.false_and, Bool.false_and]
    have e3 : (fun i : Nat => ya_at Y (tD X u) (nI i)) = (fun i : Nat => ya_at X (tD X u) (nI i)) := funext fun i => eA _ _
    rw [e2, e3]
  unfold ya_plc
  rw [et, if_pos (show (-1 : Int32) = -1 from rfl), if_pos (show (-1 : Int32) = -1 from rfl), eC, eD, eL]
theorem fil_num (I : yn_I t X) (hz : yl X (nI z)) (h60 : z < 60) (hkey : tK X (yT X (nI z)) = 2 ∨ ya_N X (nI z) 0 = ya_slot X 0 0) : yn_I t (ya_fil X z 0 3) := by
  obtain ⟨m1, m2⟩ := fil_N (σ := X) (j := 0) h60
  refine yn_I_num I (fun k hk => ya_fil_ne hk 3) (fun i hi => ?_) (fun s hs h2 => ?_)
  · rw [ya_fil_14]
    unfold upd
    have := I.2.1.2 i hi
    have r := ya_slot_rng I (nI 0)
    by_cases e1 : i = 3 * z + 2
    · rw [if_pos e1]
      exact r _
    · rw [if_neg e1]
      by_cases e2 : i = 3 * z + 1
      · rw [if_pos e2]
        exact r _
      · rw [if_neg e2]
        by_cases e3 : i = 3 * z + 0
        · rw [if_pos e3]
          exact r _
        · rw [if_neg e3]
          exact this
  · by_cases e : s = nI z
    · rw [e] at h2 ⊢
      rw [hkey.resolve_left h2]
      exact m1 0 (by omega)
    · exact m2 s hs e 0 (by omega)
theorem ms_fil (H : yx_H t X u (-1) w (-1)) (hz : yl X (nI z)) (h60 : z < 60) (hkey : tK X (yT X (nI z)) = 2 ∨ ya_N X (nI z) 0 = ya_slot X 0 0) : MS t (ya_fil X z 0 3) u w (ya_fil (ya_add X u (-1) w (-1)) z 0 3) := by
  obtain ⟨I, ⟨b1, b2, b3, b4⟩, fr, ct⟩ := H
  have H : yx_H t X u (-1) w (-1) := ⟨I, ⟨b1, b2, b3, b4⟩, fr, ct⟩
  have hP : tP X u = -1 := by
    rcases b2 with ⟨-, b2⟩ | ⟨b2, -⟩
    · exact b2
    · exact absurd rfl (yl_ne b2)
  have hne : ∀ k, k ≠ 14 → ya_fil X z 0 3 k = X k := fun k hk => ya_fil_ne hk 3
  have IY := fil_num I hz h60 hkey
  have e11 := hne 11 (by decide)
  have efr : ya_fr (ya_fil X z 0 3) = ya_fr X := by
    unfold ya_fr
    rw [e11]
  have eD : tD (ya_fil X z 0 3) u = tD X u := ya_tg_c (hne 1 (by decide)) (hne 2 (by decide)) _ _
  have eC : ∀ a, ya_cnt (ya_fil X z 0 3) a = ya_cnt X a := fun a => by
    unfold ya_cnt
    rw [hne 16 (by decide)]
  have hT : ya_isT (ya_fil X z 0 3) u = true := by
    rw [ya_isT_c (hne 1 (by decide))]
    exact b1
  have HY : yx_H t (ya_fil X z 0 3) u (-1) w (-1) := ⟨IY, ⟨hT, Or.inl ⟨rfl, (ya_tg_c (hne 1 (by decide)) (hne 3 (by decide)) _ _).trans hP⟩, b3, Or.inl rfl⟩, by rw [efr]; exact fr, by rw [eD, eC]; exact ct⟩
  obtain ⟨m1, m2⟩ := fil_N (σ := X) (j := 0) h60
  obtain ⟨a1, a2⟩ := fil_N (σ := ya_add X u (-1) w (-1)) (j := 0) h60
  have ePl : ya_plc (ya_fil X z 0 3) u (-1) w (-1) = ya_plc X u (-1) w (-1) := by
    refine plc_num hne (fun s hs => ?_)
    rw [yb_tw (ya_isT_ne b1)] at hs
    by_cases e : s = nI z
    · subst e
      have hk : tK X u ≠ 2 := by
        have g6 := I.1.2.1 _ b1
        unfold yn_ty at g6
        rcases g6 with ⟨-, -, -, -, -, -, g6, -⟩
        rcases g6 with ⟨-, -, g6⟩ | ⟨g6, -⟩
        · rw [g6]
          decide
        · rw [hP] at g6
          exact absurd rfl (ya_isT_ne g6)
      rw [hs.2.1] at hkey
      rw [hkey.resolve_left hk]
      exact m1 0 (by omega)
    · exact m2 s hs.1 e 0 (by omega)
  have eAne : ∀ k, k ≠ 14 → ya_fil (ya_add X u (-1) w (-1)) z 0 3 k = ya_add X u (-1) w (-1) k := fun k hk => ya_fil_ne hk 3
  have lY : ∀ s, yl (ya_fil X z 0 3) s = yl X s := fun s => yl_c e11 s
  have hzf : nI z ≠ nI (ya_fr X) := yx_lne H hz
  have hsl : ∀ a b : Int32, ya_slot (ya_add X u (-1) w (-1)) a b = ya_slot X a b := fun a b => ya_slot_c (yx_hi (by decide)) a b
  refine ⟨HY, fun k hk => ?_, fun s hs f hf => ?_, ?_, fun k hk => ?_⟩
  · rw [eAne k (by omega)]
    rcases hk with rfl | rfl | rfl
    · rw [yx_11, yx_11, e11, efr]
    · rw [yx_15, yx_15, eD, eC, ePl, hne 15 (by decide), efr]
    · rw [yx_16, yx_16, eD, eC, hne 16 (by decide)]
  · rw [lY] at hs
    by_cases e : s = nI z
    · rw [e, a1 f hf, m1 f hf]
      exact hsl _ _
    · rw [a2 s ((yx_l H s).mpr (Or.inl hs)) e f hf, m2 s hs e f hf]
      exact yx_N H hs _
  · rw [efr]
    have hl : yl (ya_add X u (-1) w (-1)) (nI (ya_fr X)) := (yx_l H _).mpr (Or.inr rfl)
    have q0 := a2 _ hl (Ne.symm hzf) 0 (by omega)
    have q1 := a2 _ hl (Ne.symm hzf) 1 (by omega)
    have q2 := a2 _ hl (Ne.symm hzf) 2 (by omega)
    exact ⟨q0.trans (yx_NZ H), q1.trans (yx_NZ12 H).1, q2.trans (yx_NZ12 H).2⟩
  · rw [eAne k (by omega), hne k (by omega)]
    exact yx_lo hk
end LA45
