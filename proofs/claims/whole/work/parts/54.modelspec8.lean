theorem rc_no {kd pa x y : Int32} {T : Nat} (hno : kd.toInt = -6 ∨ pa.toInt = -1 ∨ (¬ (0 ≤ kd.toInt ∧ kd.toInt ≤ 3) ∨ (kd.toInt = 3 ∧ ¬ (0 ≤ pa.toInt ∧ pa.toInt < (T : Int))))) (hk : kd = x) (hv : y = pa) (hx : 0 ≤ x.toInt ∧ x.toInt ≤ 3) (hy : 0 ≤ y.toInt) : ¬ (0 ≤ x.toInt ∧ x.toInt ≤ 3) ∨ (x.toInt = 3 ∧ ¬ (0 ≤ y.toInt ∧ y.toInt < (T : Int))) := by
  subst hk hv
  omega
