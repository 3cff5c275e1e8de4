section SYV3
/-- the script's int j of the turn -/
theorem e_script {env : List Value} {bs L t j : Nat} {xs : Nat → Int32} {c : Int32} (hc : c = nI j) (h0 : env[0]? = some (.retAddr bs)) (h4 : env[4]? = some (.int (nI (5 * t)))) (hj : j < 5) (h : 5 * t + 5 ≤ L) (hL : L ≤ 2560) :
    sy_iS bs L xs (sy_iAdd (sy_iL 4) (sy_iK c)) env = sy_ret (xs (5 * t + j)) := by
  subst hc
  have h1 : sy_sA1 (.retAddr bs) bs = true := by simp [sy_sA1]
  have h2 : sy_inb (nI (5 * t + j)) L = true := by
    unfold sy_inb
    rw [decide_eq_true (nI_pos' (by omega)), nI_clamp (by omega), decide_eq_true (by omega)]
    rfl
  unfold sy_iS sy_iAdd sy_iB sy_iL sy_iK
  rw [h0]
  simp only [h1, if_true, h4, sy_bnd_ret, nI_add, h2, nI_clamp (show 5 * t + j < 2 ^ 31 by omega)]
/-- a helper of the law: 0 and the answer in the long, or the exception's number -/
def sy_code : Int32 ⊕ Nat → Int32 | .inl _ => 0 | .inr E => Int32.ofNat E
def sy_note (r : Int32 ⊕ Nat) (σ : sy_Mem) : sy_Mem := match r with
  | .inl x => fun k => if k = 77 then upd (upd (σ 77) 0 (sy_hi x.toInt64)) 1 (sy_lo x.toInt64) else σ k
  | .inr _ => σ
end SYV3
