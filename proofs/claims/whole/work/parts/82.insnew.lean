/-! the new ones of a call -/
section YIn
variable {A B τ τ' ρ : sy_Mem} {t m n f v : Nat} {ty p key here : Int32}
theorem ya_here_hi (h : yo_hi A B) (v : Nat) : ya_here B v = ya_here A v := by
  have hb : 17 < sy_vw v := by unfold sy_vw; omega
  unfold ya_here
  rw [h _ (Or.inr hb)]
theorem ya_here_l (I : yn_I t A) (hv : v < 4) : ya_here A v = -1 ∨ yl A (ya_here A v) := by
  have h := yg_here I hv
  by_cases e : A (sy_vw v) 3 = 0
  · exact Or.inl (h.1 e).1
  · have := h.2 e
    rw [this.1]
    exact Or.inr this.2.2
/-- a new one with its three numbers: what then holds -/
theorem yx_fill (H : yx_H t A ty p key here) (M : yr_M A τ) (ht : t < 10000) (h60 : (A 10 9).toInt < 60) (hu : tK A ty = 0 → ∀ r, yl A r → yT A r = ty → yP A r = p → ya_N A r 0 ≠ key) {n : Nat} (hn : n < 4) (hk : ya_slot A (nI n) 0 = key) :
    yn_I (t + 1) (ya_fil (ya_add A ty p key here) (ya_fr A) n 3) ∧ yr_M (ya_fil (ya_add A ty p key here) (ya_fr A) n 3) (sy_up (sy_up (ym_ins τ A ty p key here) 55 (3 * ya_fr A + 1) (ya_slot A (nI n) 1)) 55 (3 * ya_fr A + 2) (ya_slot A (nI n) 2)) := by
  have I' := yx_I H ht h60 hu
  have M' := yr_ins M H
  have es : ∀ a b : Int32, ya_slot (ya_add A ty p key here) a b = ya_slot A a b := fun a b => ya_slot_c (yx_hi (by decide)) a b
  have e14 : ya_fil (ya_add A ty p key here) (ya_fr A) n 3 14 = upd (upd (upd (ya_add A ty p key here 14) (3 * ya_fr A + 0) key) (3 * ya_fr A + 1) (ya_slot A (nI n) 1)) (3 * ya_fr A + 2) (ya_slot A (nI n) 2) := by
    rw [ya_fil_14, es, es, es, nI_0, hk]
    rfl
  have h0 : upd (ya_add A ty p key here 14) (3 * ya_fr A + 0) key = ya_add A ty p key here 14 := by
    funext i
    by_cases e : i = 3 * ya_fr A + 0
    · rw [e, upd_at, yx_14, show 3 * ya_fr A + 0 = 3 * ya_fr A from rfl, upd_at]
    · rw [upd_ne e]
  rw [h0] at e14
  have hne : ∀ k, k ≠ 14 → ya_fil (ya_add A ty p key here) (ya_fr A) n 3 k = ya_add A ty p key here k := fun k hk => ya_fil_ne hk 3
  have hr : ∀ f : Int32, 0 ≤ (ya_slot A (nI n) f).toInt ∧ (ya_slot A (nI n) f).toInt ≤ 999 := fun f => ya_slot_rng H.1 _ _
  refine ⟨yn_I_num I' hne (fun i hi => ?_) (fun s hs _ => ?_), yr_M_num M' hne (fun k hk => by rw [yu_ne hk, yu_ne hk]) ?_⟩
  · rw [e14]
    by_cases e2 : i = 3 * ya_fr A + 2
    · rw [e2, upd_at]; exact hr 2
    · rw [upd_ne e2]
      by_cases e1 : i = 3 * ya_fr A + 1
      · rw [e1, upd_at]; exact hr 1
      · rw [upd_ne e1]
        exact I'.2.1.2 i hi
  · have hin := yl_in hs
    rw [ya_N_in hin (by decide), ya_N_in hin (by decide), e14, show (0 : Int32).toNatClampNeg = 0 from rfl, upd_ne (by omega), upd_ne (by omega)]
  · rw [yu_eq, yu_eq, M'.2.1.2.2.1, e14]
def ya_inw (A : sy_Mem) (f : Nat) (p here : Int32) : Nat → sy_Mem × Int32
  | 0 => (A, p)
  | n + 1 => (ya_fil (ya_add (ya_inw A f p here n).1 (ya_ag A 20 (-1) (nI (f + n))) (ya_inw A f p here n).2 (ya_slot A (nI n) 0) here) (ya_fr (ya_inw A f p here n).1) n 3, nI (ya_fr (ya_inw A f p here n).1))
def ym_inw (τ A : sy_Mem) (f : Nat) (p here : Int32) : Nat → sy_Mem
  | 0 => τ
  | n + 1 => sy_up (sy_up (ym_ins (ym_inw τ A f p here n) (ya_inw A f p here n).1 (ya_ag A 20 (-1) (nI (f + n))) (ya_inw A f p here n).2 (ya_slot A (nI n) 0) here) 55 (3 * ya_fr (ya_inw A f p here n).1 + 1) (ya_slot A (nI n) 1)) 55 (3 * ya_fr (ya_inw A f p here n).1 + 2) (ya_slot A (nI n) 2)
/-- what is asked of a list of new ones -/
def yi_ok (A : sy_Mem) (v f : Nat) (p : Int32) : Prop := (f : Int) < (A 19 0).toInt ∧ (A 10 9).toInt + ((A 19 0).toInt - f) ≤ 60 ∧ (∀ j : Nat, f ≤ j → (j : Int) < (A 19 0).toInt → tD A (ya_ag A 20 (-1) (nI j)) = A (sy_vw v) 0) ∧
  (∀ j : Nat, f < j → (j : Int) < (A 19 0).toInt → tP A (ya_ag A 20 (-1) (nI j)) = ya_ag A 20 (-1) (nI (j - 1))) ∧
  ((p = -1 ∧ tP A (ya_ag A 20 (-1) (nI f)) = -1) ∨ (yl A p ∧ yT A p = tP A (ya_ag A 20 (-1) (nI f)) ∧ tP A (ya_ag A 20 (-1) (nI f)) ≠ -1)) ∧
  (tK A (ya_ag A 20 (-1) (nI f)) = 0 → ∀ r, yl A r → yT A r = ya_ag A 20 (-1) (nI f) → yP A r = p → ya_N A r 0 ≠ ya_slot A 0 0)
def yo_in (t : Nat) (A τ : sy_Mem) (f : Nat) (p here : Int32) (n : Nat) : Prop := yn_I (t + n) (ya_inw A f p here n).1 ∧ yr_M (ya_inw A f p here n).1 (ym_inw τ A f p here n) ∧ ((ya_inw A f p here n).1 10 9).toInt = (A 10 9).toInt + n ∧ yo_hi A (ya_inw A f p here n).1 ∧ ym_fi τ (ym_inw τ A f p here n) ∧
  (0 < n → yl (ya_inw A f p here n).1 (ya_inw A f p here n).2 ∧ yT (ya_inw A f p here n).1 (ya_inw A f p here n).2 = ya_ag A 20 (-1) (nI (f + n - 1)) ∧ ∀ r, yl (ya_inw A f p here n).1 r → yP (ya_inw A f p here n).1 r ≠ (ya_inw A f p here n).2)
theorem yi_H (I : yn_I t A) (hv : v < 4) (O : yi_ok A v f p) {n : Nat} (hn : ((f + n : Nat) : Int) < (A 19 0).toInt) (h : yo_in t A τ f p (ya_here A v) n) : yx_H (t + n) (ya_inw A f p (ya_here A v) n).1 (ya_ag A 20 (-1) (nI (f + n))) (ya_inw A f p (ya_here A v) n).2 (ya_slot A (nI n) 0) (ya_here A v) ∧ ((ya_inw A f p (ya_here A v) n).1 10 9).toInt < 60 ∧ ya_vh (ya_inw A f p (ya_here A v) n).1 (nI v) (ya_here A v) := by
  obtain ⟨o1, o2, o3, o4, o5, o6⟩ := O
  obtain ⟨g1, g2, g3, g4, g5, g6⟩ := h
  have h60 : ((ya_inw A f p (ya_here A v) n).1 10 9).toInt < 60 := by omega
  have hr := yg_room g1 h60
  have hT : ya_isT (ya_inw A f p (ya_here A v) n).1 (ya_ag A 20 (-1) (nI (f + n))) = true := by
    rw [ya_isT_c (g4 1 (by decide))]
    exact yg_arg I hn
  have eP : tP (ya_inw A f p (ya_here A v) n).1 (ya_ag A 20 (-1) (nI (f + n))) = tP A (ya_ag A 20 (-1) (nI (f + n))) := ya_tg_c (g4 1 (by decide)) (g4 3 (by decide)) _ _
  have hh := ya_here_hi g4 v
  have hl := ya_here_l g1 hv
  rw [hh] at hl
  refine ⟨⟨g1, ⟨hT, ?_, ya_slot_rng I _ _, hl⟩, hr.1, hr.2 _ (g1.1.2.1 _ hT).1⟩, h60, Or.inr ⟨v, hv, rfl, hh.symm⟩⟩
  rw [eP]
  rcases Nat.eq_zero_or_pos n with e | e
  · subst e
    exact o5
  · obtain ⟨k1, k2, k3⟩ := g6 e
    have hp := o4 (f + n) (by omega) hn
    refine Or.inr ⟨k1, by rw [k2, hp], ?_⟩
    rw [hp]
    exact ya_isT_ne (yg_arg I (by omega))
theorem yi_in (I : yn_I t A) (M : yr_M A τ) (hv : v < 4) (O : yi_ok A v f p) (ht : t + 60 < 10000) : ∀ n : Nat, ((f + n : Nat) : Int) ≤ (A 19 0).toInt → yo_in t A τ f p (ya_here A v) n
  | 0, _ => ⟨I, M, by show (A 10 9).toInt = (A 10 9).toInt + 0; omega, fun _ _ => rfl, fun _ _ => rfl, fun h => absurd h (by omega)⟩
  | n + 1, h => by
    have hm := yi_in I M hv O ht n (by omega)
    obtain ⟨H, h60, hvh⟩ := yi_H I hv O (by omega) hm
    obtain ⟨g1, g2, g3, g4, g5, g6⟩ := hm
    have h4 := yg_n19 I
    have es : ∀ a b : Int32, ya_slot (ya_inw A f p (ya_here A v) n).1 a b = ya_slot A a b := fun a b => ya_slot_c (g4 31 (by decide)) a b
    have hu : tK (ya_inw A f p (ya_here A v) n).1 (ya_ag A 20 (-1) (nI (f + n))) = 0 → ∀ r, yl (ya_inw A f p (ya_here A v) n).1 r → yT (ya_inw A f p (ya_here A v) n).1 r = ya_ag A 20 (-1) (nI (f + n)) → yP (ya_inw A f p (ya_here A v) n).1 r = (ya_inw A f p (ya_here A v) n).2 → ya_N (ya_inw A f p (ya_here A v) n).1 r 0 ≠ ya_slot A (nI n) 0 := by
      rcases Nat.eq_zero_or_pos n with e | e
      · subst e
        exact O.2.2.2.2.2
      · intro _ r hr _ hP
        exact absurd hP ((g6 e).2.2 r hr)
    have F := yx_fill H g2 (by omega) h60 hu (n := n) (by omega) (es _ _)
    rw [es, es] at F
    have hne : ∀ k, k ≠ 14 → (ya_inw A f p (ya_here A v) (n + 1)).1 k = ya_add (ya_inw A f p (ya_here A v) n).1 (ya_ag A 20 (-1) (nI (f + n))) (ya_inw A f p (ya_here A v) n).2 (ya_slot A (nI n) 0) (ya_here A v) k := fun k hk => ya_fil_ne hk 3
    refine ⟨F.1, F.2, ?_, fun k hk => ?_, fun k hk => ?_, fun _ => ?_⟩
    · rw [hne 10 (by decide), yx_tot H]
      omega
    · rw [hne k (by omega), yx_hio k hk]
      exact g4 k hk
    · show sy_up (sy_up _ 55 _ _) 55 _ _ k = _
      rw [yu_ne (by omega), yu_ne (by omega), ym_ins_fi k hk]
      exact g5 k hk
    · have eT : ∀ s, yT (ya_inw A f p (ya_here A v) (n + 1)).1 s = yT (ya_add (ya_inw A f p (ya_here A v) n).1 (ya_ag A 20 (-1) (nI (f + n))) (ya_inw A f p (ya_here A v) n).2 (ya_slot A (nI n) 0) (ya_here A v)) s := fun s => ya_sg_c (hne 11 (by decide)) s
      have eP : ∀ s, yP (ya_inw A f p (ya_here A v) (n + 1)).1 s = yP (ya_add (ya_inw A f p (ya_here A v) n).1 (ya_ag A 20 (-1) (nI (f + n))) (ya_inw A f p (ya_here A v) n).2 (ya_slot A (nI n) 0) (ya_here A v)) s := fun s => ya_sg_c (hne 12 (by decide)) s
      have eL : ∀ s, yl (ya_inw A f p (ya_here A v) (n + 1)).1 s = yl (ya_add (ya_inw A f p (ya_here A v) n).1 (ya_ag A 20 (-1) (nI (f + n))) (ya_inw A f p (ya_here A v) n).2 (ya_slot A (nI n) 0) (ya_here A v)) s := fun s => yl_c (hne 11 (by decide)) s
      have e2 : (ya_inw A f p (ya_here A v) (n + 1)).2 = nI (ya_fr (ya_inw A f p (ya_here A v) n).1) := rfl
      rw [e2]
      refine ⟨?_, ?_, fun r hr => ?_⟩
      · rw [eL]
        exact (yx_l H _).mpr (Or.inr rfl)
      · rw [eT, yx_TZ H, show f + (n + 1) - 1 = f + n by omega]
      · rw [eL] at hr
        rw [eP]
        intro hc
        have hz1000 : ya_fr (ya_inw A f p (ya_here A v) n).1 < 1000 := by have := H.2.2.1; omega
        rcases (yx_l H r).mp hr with h1 | h1
        · rw [yx_Po H h1] at hc
          rcases (H.1.2.1.1 r h1).2 with ⟨_, q⟩ | ⟨q, _, _⟩
          · exact nI_nem hz1000 (by rw [← hc, q])
          · rw [hc] at q
            exact yx_dead H q
        · rw [h1, yx_PZ H] at hc
          rcases H.2.1.2.1 with ⟨q, _⟩ | ⟨q, _, _⟩
          · exact nI_nem hz1000 (by rw [← hc, q])
          · rw [hc] at q
            exact yx_dead H q
end YIn
