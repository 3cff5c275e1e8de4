/-! the model's cells and its small readers, told by the component's memory A -/
section YM
variable {A σ σ1 : sy_Mem} {env : List Value} {r : sy_RE} {i : sy_IE} {x : Int32} {t : Nat}
section
variable {v : Nat}
end
theorem yl_An {j : Nat} (hj : (j : Int) < (A 19 0).toInt) (h4 : (A 19 0).toInt ≤ 4) : ya_isA A (nI j) = true := by
  rw [yl_isA, nI_toInt (by omega)]
  omega
theorem yl_le1 {x : Int32} {n m : Int32} (h : m.toInt = n.toInt + 1) : decide (x ≤ n) = decide (x < m) := by
  rw [decide_eq_decide, Int32.le_iff_toInt_le, Int32.lt_iff_toInt_lt]
  omega
def ya_thr (a b c : Bool) : Int32 := if a then (if b then (if c then 0 else 3) else 2) else 1
def ya_under (A : sy_Mem) (s o : Int32) : Bool := decide (s = o) || ya_X3_isBelow A s o
theorem yk_under {s o : Int32} (I : yn_I t A) (hs : yl A s) (ho : o ≠ -1) : decide ((ya_walk (fun x => yP A x) (fun x => decide (x = o)) 4 s).elim (-1) (fun y => y) = o) = ya_under A s o := by
  unfold ya_under ya_X3_isBelow
  rw [yk_elimB]
  have h := yk_below (o := o) (yl_ne hs) (yk_dp4 I.1 I.2.1 hs)
  rw [← h]
  cases hw : ya_walk (fun x => yP A x) (fun x => decide (x = o)) 4 s with
  | none =>
    exact decide_eq_false (fun e => ho e.symm)
  | some y =>
    exact decide_eq_true (by simpa using (yk_walk_Q hw).1)
end YM
