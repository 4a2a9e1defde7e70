theorem dvd_ge {P v : Nat} (h : P ∣ v) (h0 : 0 < v) : P ≤ v := Nat.le_of_dvd h0 h
set_option maxRecDepth 100000 in
theorem ac_x {s : List Nat} (hb : bd s) (hS : 0 < smL s s.length 0 0) (hS2 : smL s s.length 0 0 ≤ 3 * s.length) (hL : s.length ≤ 256) (i : Nat) : ∃ t v, DV (acX s i) t v ∧ pw (-61) ∣ v ∧ v ≤ 5 * pw 0 := by
  obtain ⟨m, hm, m1, m2⟩ := ac_m hS hS2 hL
  have hx := bd_at hb i
  have h0 := pw_pos 0
  have g1 : pw (-1000) ≤ pw (-61) := pw_le (by omega)
  have g2 : pw 0 * 2 ^ 4 ≤ pw 900 := by
    have e := pw_add (a := 0) (n := 4) (by omega)
    have := pw_le (show (0 : Int) + ((4 : Nat) : Int) ≤ 900 by omega)
    omega
  have g3 : pw (-61) ∣ s.getD i 0 * pw 0 := Nat.dvd_trans (pw_dvd (by omega)) (Nat.dvd_mul_left _ _)
  have g4 : s.getD i 0 * pw 0 ≤ 3 * pw 0 := Nat.mul_le_mul_right _ (by omega)
  unfold acX
  have hz : (sgI false (s.getD i 0 * pw 0) + sgI (!false) m).natAbs ≤ 4 * pw 0 := by
    unfold sgI
    simp only [Bool.not_false, if_true, Bool.false_eq_true, if_false]
    omega
  have hd : pw (-61) ∣ (sgI false (s.getD i 0 * pw 0) + sgI (!false) m).natAbs := by
    have a1 : ((pw (-61) : Nat) : Int) ∣ ((s.getD i 0 * pw 0 : Nat) : Int) := Int.natCast_dvd_natCast.mpr g3
    have a2 : ((pw (-61) : Nat) : Int) ∣ ((m : Nat) : Int) := Int.natCast_dvd_natCast.mpr m1
    have a3 : ((pw (-61) : Nat) : Int) ∣ sgI false (s.getD i 0 * pw 0) + sgI (!false) m := by
      show _ ∣ ((s.getD i 0 * pw 0 : Nat) : Int) + -((m : Nat) : Int)
      exact Int.dvd_add a1 (Int.dvd_neg.mpr a2)
    exact Int.natCast_dvd.mp a3
  obtain ⟨v, v1, v2, v3, v4⟩ := fp_sub (fp_i2d (n := s.getD i 0) (by omega)) hm (by
    rcases Nat.eq_zero_or_pos (sgI false (s.getD i 0 * pw 0) + sgI (!false) m).natAbs with h | h
    · exact Or.inl (by omega)
    · exact Or.inr (Nat.le_trans g1 (dvd_ge hd h))) (by omega)
  exact ⟨_, v, v1, v4 _ (by omega) hd, by omega⟩
