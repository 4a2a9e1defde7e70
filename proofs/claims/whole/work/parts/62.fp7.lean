theorem fp_div {x y : UInt64} {s t : Bool} {a b : Nat} (hx : DV x s a) (hy : DV y t b) (ha : 0 < a) (hb : 0 < b) (h1 : b * pw (-1000) ≤ a * 2 ^ 3000) (h2 : a * 2 ^ 3000 < b * pw 900) : ∃ c q, dfin (FP.ddiv x y) (s != t) c q ∧ 2 ^ 52 ≤ c ∧ 2 ^ 53 * (c * pw q * b) ≤ 2 ^ 53 * (a * 2 ^ 3000) + a * 2 ^ 3000 ∧ 2 ^ 53 * (a * 2 ^ 3000) ≤ 2 ^ 53 * (c * pw q * b) + a * 2 ^ 3000 := by
  obtain ⟨c, q, ⟨d1, d2, d3, d4, d5⟩, rfl⟩ := hx
  obtain ⟨d, r, ⟨f1, f2, f3, f4, f5⟩, rfl⟩ := hy
  have hd : 0 < d := Nat.pos_of_ne_zero (fun e => by rw [e, Nat.zero_mul] at hb; omega)
  have hc : 0 < c := Nat.pos_of_ne_zero (fun e => by rw [e, Nat.zero_mul] at ha; omega)
  have hX : c * pw (q - r) * pw r = c * pw q * 2 ^ 3000 := by
    rw [Nat.mul_assoc, pw_mul (by omega) (by omega) (by omega), show q - r + r = q by omega, Nat.mul_assoc]
  have hr := pw_pos r
  have e1 : FP.ddiv x y = UInt64.ofNat (FP.Core.encode FP.Core.b64 (FP.Core.roundRatio FP.Core.b64 (s != t) c d (q - r))) := by
    show UInt64.ofNat (FP.Core.encode FP.Core.b64 (FP.Core.quotient FP.Core.b64 (FP.Core.decode FP.Core.b64 x.toNat) (FP.Core.decode FP.Core.b64 y.toNat))) = _
    have hqt : FP.Core.quotient FP.Core.b64 (.fin s c q) (.fin t d r) = FP.Core.roundRatio FP.Core.b64 (s != t) c d (q - r) := if_neg (by omega)
    rw [d1, f1, hqt]
  rw [← hX] at h1 h2 ⊢
  rw [Nat.mul_right_comm d] at h1 h2
  obtain ⟨c', q', a1, a2, a3, a4, a5, a6, a7, _⟩ := fp_rnd (A := c) (B := d) (e := q - r) (s != t) hc hd f2 (by omega) (fp_canc hr h1) (Nat.lt_of_mul_lt_mul_right h2)
  rw [e1, a1]
  have m1 := Nat.mul_le_mul_right (pw r) a6
  have m2 := Nat.mul_le_mul_right (pw r) a7
  rw [Nat.add_mul, Nat.mul_assoc, Nat.mul_assoc (2 ^ 53) (c * pw (q - r))] at m1
  rw [Nat.add_mul, Nat.mul_assoc, Nat.mul_assoc (2 ^ 53) (c' * pw q' * d)] at m2
  rw [Nat.mul_assoc (c' * pw q') d] at m1 m2
  exact ⟨c', q', fp_enc a3 a4 a5 (Or.inr a2), a2, m1, m2⟩
theorem rnd_exact {X v P : Nat} (h : 2 ^ 53 * v ≤ 2 ^ 53 * X + X) (h2 : 2 ^ 53 * X ≤ 2 ^ 53 * v + X) (hX : X < 2 ^ 53 * P) (d1 : P ∣ X) (d2 : P ∣ v) : v = X := by
  obtain ⟨a, rfl⟩ := d1
  obtain ⟨b, rfl⟩ := d2
  rcases Nat.lt_trichotomy a b with h3 | h3 | h3
  · have h4 : P * (a + 1) ≤ P * b := Nat.mul_le_mul_left P h3
    rw [Nat.mul_succ] at h4
    omega
  · rw [h3]
  · have h4 : P * (b + 1) ≤ P * a := Nat.mul_le_mul_left P h3
    rw [Nat.mul_succ] at h4
    omega
theorem fp_i2d {n : Nat} (hn : n < 2 ^ 31) : DV (FP.i2d (nI n)) false (n * pw 0) := by
  have e1 : FP.i2d (nI n) = UInt64.ofNat (FP.Core.encode FP.Core.b64 (FP.Core.roundRatio FP.Core.b64 false n 1 0)) := by
    show UInt64.ofNat (FP.Core.encode FP.Core.b64 (FP.Core.round FP.Core.b64 (FP.Core.ofInt (nI n).toInt))) = _
    rw [nI_toInt hn]
    unfold FP.Core.ofInt
    rw [decide_eq_false (by omega), Int.natAbs_natCast]
    rfl
  have hp : pw 0 = pw (-1000) * 2 ^ 1000 := by rw [← pw_add (by omega)]; congr 1
  have hp2 : pw 900 = pw 0 * 2 ^ 900 := by rw [← pw_add (by omega)]; congr 1
  have h0 := pw_pos 0
  have h3 : n * pw 0 < pw 900 := by
    rw [hp2, Nat.mul_comm]
    exact Nat.mul_lt_mul_of_pos_left (Nat.lt_of_lt_of_le hn (Nat.pow_le_pow_right (by decide) (by decide))) h0
  obtain ⟨v, v1, v2, v3, v4⟩ := fp_r1 (U := n) (e := 0) false (by omega) (by
    rcases Nat.eq_zero_or_pos n with h | h
    · exact Or.inl h
    · refine Or.inr (Nat.le_trans (pw_le (show (-1000 : Int) ≤ 0 by omega)) ?_)
      exact Nat.le_mul_of_pos_left _ h) h3
  rw [e1]
  have h4 : v = n * pw 0 := rnd_exact (P := pw 0) v2 v3 (Nat.mul_lt_mul_of_pos_right (by omega) h0) (Nat.dvd_mul_left _ _) (v4 0 (by omega) (Nat.dvd_mul_left _ _))
  rw [← h4]
  exact v1
