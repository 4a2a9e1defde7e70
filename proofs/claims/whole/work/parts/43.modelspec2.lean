theorem z_rng (x : Int32) : -2147483648 ≤ x.toInt ∧ x.toInt < 2147483648 := by
  have h1 := Int32.toInt_lt x
  have h2 := Int32.le_toInt x
  exact ⟨by simpa using h2, by simpa using h1⟩
theorem z_sub0 (x : Int32) : x = iI (x.toInt - ((0 : Nat) : Int)) := by
  rw [show x.toInt - ((0 : Nat) : Int) = x.toInt by omega, iI_self]
theorem n_le_T {k n B T : Nat} (h : shp k n B T) : n ≤ T := by
  obtain ⟨h1, rfl, rfl⟩ := h
  exact of_decide_eq_true (by_cfg (P := fun a c => decide (c ≤ a ^ (c - 1))) (by decide +kernel) h1)
theorem pmL_lt {b m : Nat} (hm : 0 < m) : ∀ r v, v < m → pmL b m r v < m
  | 0, _, h => h
  | r + 1, v, _ => pmL_lt hm r _ (Nat.mod_lt _ hm)
theorem pmL_mod {b m : Nat} : ∀ r v, pmL b m r v % m = v * b ^ r % m
  | 0, v => by simp [pmL]
  | r + 1, v => by
    unfold pmL
    rw [pmL_mod r, Nat.pow_succ, ← Nat.mul_assoc, Nat.mul_right_comm, Nat.mul_mod, Nat.mod_mod, ← Nat.mul_mod]
theorem cyc_mul {k n T m : Nat} (hm : 2 ≤ m) : pmL (facN (k - 1)) m T 1 * pmL k m (T - n) 1 % m = cycN k n T m := by
  have h1 := pmL_lt (b := facN (k - 1)) (m := m) (by omega) T 1 (by omega)
  have h2 := pmL_lt (b := k) (m := m) (by omega) (T - n) _ h1
  unfold cycN
  rw [← Nat.mod_eq_of_lt h2, pmL_mod, Nat.mul_mod, pmL_mod (T - n) 1, ← Nat.mul_mod, Nat.one_mul]
theorem cyc_bd {a b m : Nat} (h1 : a < m) (h2 : b < m) (hm : m ≤ 1000000000) : a * b < 2 ^ 63 := by
  have := Nat.mul_le_mul (show a ≤ 1000000000 by omega) (show b ≤ 1000000000 by omega)
  omega
theorem at_p {s : List Nat} {i : Nat} (h0 : 0 < s.length) (hs : s.length ≤ 256) (hi : i < s.length) : nI (s.getD ((iI (((i : Nat) : Int) - ((1 : Nat) : Int))).toInt64.toInt % (s.length : Int)).toNat 0) = nI (s.getD ((i + s.length - 1) % s.length) 0) := by
  have h := arI_p h0 hs hi
  unfold arI at h
  rw [if_neg (by omega)] at h
  rw [i2l_toInt]
  exact h
theorem run_two {s : List Nat} {i l : Nat} (hi : i < s.length) (h1 : ((s.getD i 0 : Nat) : Int) = (l : Int)) (h2 : ¬ ((s.getD ((i + s.length - 1) % s.length) 0 : Nat) : Int) = (l : Int)) : 2 ≤ s.length := by
  rcases Nat.lt_or_ge s.length 2 with hl | hl
  · have e1 : s.length = 1 := by omega
    have e2 : i = 0 := by omega
    rw [e1, e2] at h2
    rw [e2] at h1
    exact absurd h1 h2
  · exact hl
