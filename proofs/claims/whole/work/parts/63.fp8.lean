/-! autocorrelation, as both compute it -/
def acM (s : List Nat) : UInt64 := FP.ddiv (FP.i2d (nI (smL s s.length 0 0))) (FP.i2d (nI s.length))
def acX (s : List Nat) (i : Nat) : UInt64 := FP.dsub (FP.i2d (nI (s.getD i 0))) (acM s)
def acL (s : List Nat) (h : Nat) : Nat → Nat → UInt64 → UInt64 → UInt64 × UInt64
  | 0, _, a, b => (a, b)
  | r + 1, i, a, b => acL s h r (i + 1) (FP.dadd a (FP.dmul (acX s i) (acX s ((i + h) % s.length)))) (FP.dadd b (FP.dmul (acX s i) (acX s i)))
def acQ (s : List Nat) (h : Nat) : UInt64 := FP.ddiv (acL s h s.length 0 FP.dconst0 FP.dconst0).1 (acL s h s.length 0 FP.dconst0 FP.dconst0).2
theorem pw_0 : pw 0 = 2 ^ 3000 := pw_eq 0
set_option maxRecDepth 100000 in
theorem ac_m {s : List Nat} (hS : 0 < smL s s.length 0 0) (hS2 : smL s s.length 0 0 ≤ 3 * s.length) (hL : s.length ≤ 256) : ∃ v, DV (acM s) false v ∧ pw (-61) ∣ v ∧ v ≤ 4 * pw 0 := by
  have h0 := pw_pos 0
  have hL1 : 0 < s.length := by omega
  have p1 : pw (-1000) * 256 ≤ pw 0 := by
    have e : pw (-1000 + ((8 : Nat) : Int)) = pw (-1000) * 2 ^ 8 := pw_add (by omega)
    have := pw_le (show (-1000 + ((8 : Nat) : Int)) ≤ 0 by omega)
    omega
  have p2 : pw 0 * 4 ≤ pw 900 := by
    have e : pw (0 + ((2 : Nat) : Int)) = pw 0 * 2 ^ 2 := pw_add (by omega)
    have := pw_le (show (0 + ((2 : Nat) : Int)) ≤ 900 by omega)
    omega
  have p3 : pw 0 = pw (-9) * 512 := by
    have e : pw (-9 + ((9 : Nat) : Int)) = pw (-9) * 2 ^ 9 := pw_add (by omega)
    exact e
  have p4 : pw (-9) = pw (-62) * 2 ^ 53 := by
    have e : pw (-62 + ((53 : Nat) : Int)) = pw (-62) * 2 ^ 53 := pw_add (by omega)
    exact e
  unfold acM
  generalize smL s s.length 0 0 = S at *
  generalize s.length = L at *
  have b1 : L * pw (-1000) ≤ 256 * pw (-1000) := Nat.mul_le_mul_right _ hL
  have b2 : pw 0 ≤ S * pw 0 := Nat.le_mul_of_pos_left _ hS
  have b3 : S * pw 0 ≤ 3 * L * pw 0 := Nat.mul_le_mul_right _ hS2
  have b4 : L * (pw 0 * 4) ≤ L * pw 900 := Nat.mul_le_mul_left _ p2
  have b5 : 0 < L * pw 0 := Nat.mul_pos hL1 h0
  obtain ⟨c, q, d, c1, m1, m2⟩ := fp_div (fp_i2d (n := S) (by omega)) (fp_i2d (n := L) (by omega)) (Nat.mul_pos hS h0) b5 (by
    rw [← pw_0, Nat.mul_right_comm L, Nat.mul_comm (S * pw 0)]
    rw [Nat.mul_comm (L * pw (-1000))]
    exact Nat.mul_le_mul_left _ (by omega)) (by
    rw [← pw_0, Nat.mul_comm (S * pw 0), Nat.mul_right_comm L, Nat.mul_comm (L * pw 900)]
    refine Nat.mul_lt_mul_of_pos_left ?_ h0
    rw [Nat.mul_assoc 3] at b3
    rw [← Nat.mul_assoc] at b4
    omega)
  have hd := d.2.1
  refine ⟨c * pw q, ⟨c, q, d, rfl⟩, ?_⟩
  generalize hV : c * pw q = V at *
  rw [← pw_0] at m1 m2
  have n1 : 2 ^ 53 * (V * L) ≤ 2 ^ 53 * (S * pw 0) + S * pw 0 := by
    refine fp_canc h0 ?_
    rw [Nat.add_mul, Nat.mul_assoc, Nat.mul_assoc (2 ^ 53) (S * pw 0), Nat.mul_assoc V]
    exact m1
  have n2 : 2 ^ 53 * (S * pw 0) ≤ 2 ^ 53 * (V * L) + S * pw 0 := by
    refine fp_canc h0 ?_
    rw [Nat.add_mul, Nat.mul_assoc, Nat.mul_assoc (2 ^ 53) (V * L), Nat.mul_assoc V]
    exact m2
  have k1 : V ≤ 4 * pw 0 := by
    refine fp_canc hL1 ?_
    rw [Nat.mul_assoc 3] at b3
    rw [Nat.mul_assoc 4, Nat.mul_comm (pw 0) L]
    omega
  have k2 : V * L ≤ V * 256 := Nat.mul_le_mul_left _ hL
  have k3 : pw (-9) ≤ V := by omega
  refine ⟨?_, k1⟩
  have hq : -61 ≤ q := by
    refine Int.not_lt.mp (fun h => ?_)
    have e1 : c * pw q ≤ c * pw (-62) := Nat.mul_le_mul_left _ (pw_le (by omega))
    have e2 : c * pw (-62) < 2 ^ 53 * pw (-62) := Nat.mul_lt_mul_of_pos_right hd (pw_pos _)
    omega
  rw [← hV]
  exact Nat.dvd_trans (pw_dvd hq) (Nat.dvd_mul_left _ _)
