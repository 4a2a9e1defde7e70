/-! sums and products in units of a power -/
theorem sgI_f (v : Nat) : sgI false v = (v : Int) := rfl
theorem sgI_t (v : Nat) : sgI true v = -(v : Int) := rfl
theorem sg_fac (s t : Bool) (P a b : Nat) : sgI s (P * a) + sgI t (P * b) = (sgI s a + sgI t b) * (P : Int) := by
  cases s <;> cases t <;> simp only [sgI_f, sgI_t, Int.natCast_mul, Int.add_mul, Int.neg_mul, Int.mul_comm (P : Int)]
theorem sg_abs (s t : Bool) (P a b : Nat) : (sgI s (P * a) + sgI t (P * b)).natAbs = P * (sgI s a + sgI t b).natAbs := by
  rw [sg_fac, Int.natAbs_mul]
  exact Nat.mul_comm _ _
theorem sg_le (s t : Bool) (a b : Nat) : (sgI s a + sgI t b).natAbs ≤ a + b := by
  cases s <;> cases t <;> simp only [sgI_f, sgI_t] <;> omega
theorem rnd_div {D X r : Nat} (hD : 0 < D) (h : 2 ^ 53 * (D * r) ≤ 2 ^ 53 * (D * X) + D * X) : 2 ^ 53 * r ≤ 2 ^ 53 * X + X := by
  refine Nat.le_of_mul_le_mul_left ?_ hD
  rw [Nat.mul_add, Nat.mul_left_comm D (2 ^ 53) r, Nat.mul_left_comm D (2 ^ 53) X]
  exact h
theorem rnd_div2 {D X r : Nat} (hD : 0 < D) (h : 2 ^ 53 * (D * X) ≤ 2 ^ 53 * (D * r) + D * X) : 2 ^ 53 * X ≤ 2 ^ 53 * r + X := by
  refine Nat.le_of_mul_le_mul_left ?_ hD
  rw [Nat.mul_add, Nat.mul_left_comm D (2 ^ 53) r, Nat.mul_left_comm D (2 ^ 53) X]
  exact h
theorem rnd_fac {d : Int} {X v : Nat} (hd : -3000 ≤ d) (h : rnd53 (pw d * X) v) : ∃ r, v = pw d * r ∧ 2 ^ 53 * r ≤ 2 ^ 53 * X + X ∧ 2 ^ 53 * X ≤ 2 ^ 53 * r + X := by
  obtain ⟨h1, h2, h3⟩ := h
  obtain ⟨r, hr⟩ := h3 d hd (Nat.dvd_mul_right _ _)
  rw [hr] at h1 h2
  exact ⟨r, hr, rnd_div (pw_pos d) h1, rnd_div2 (pw_pos d) h2⟩
theorem fp_addD {d : Int} (hd : -1000 ≤ d) {x y : UInt64} {s t : Bool} {a b : Nat} (hx : DV x s (pw d * a)) (hy : DV y t (pw d * b)) (h2 : pw d * (sgI s a + sgI t b).natAbs < pw 900) : ∃ v, DV (FP.dadd x y) (FP.Core.sumSign s t (sgI s a + sgI t b)) (pw d * v) ∧ 2 ^ 53 * v ≤ 2 ^ 53 * (sgI s a + sgI t b).natAbs + (sgI s a + sgI t b).natAbs ∧ 2 ^ 53 * (sgI s a + sgI t b).natAbs ≤ 2 ^ 53 * v + (sgI s a + sgI t b).natAbs := by
  have e := sg_fac s t (pw d) a b
  have e2 := sg_abs s t (pw d) a b
  obtain ⟨v, v1, v2⟩ := fp_add hx hy (by
    rcases Nat.eq_zero_or_pos (sgI s a + sgI t b).natAbs with h | h
    · exact Or.inl (by rw [e, Int.natAbs_eq_zero.mp h, Int.zero_mul])
    · exact Or.inr (by rw [e2]; exact Nat.le_trans (pw_le hd) (Nat.le_mul_of_pos_right _ h))) (by rw [e2]; exact h2)
  rw [e2] at v2
  obtain ⟨r, r1, r2, r3⟩ := rnd_fac (Int.le_trans (by decide) hd) v2
  rw [e, ss_mul _ _ _ (pw_pos d), r1] at v1
  exact ⟨r, v1, r2, r3⟩
theorem fp_subD {d : Int} (hd : -1000 ≤ d) {x y : UInt64} {s t : Bool} {a b : Nat} (hx : DV x s (pw d * a)) (hy : DV y t (pw d * b)) (h2 : pw d * (sgI s a + sgI (!t) b).natAbs < pw 900) : ∃ v, DV (FP.dsub x y) (FP.Core.sumSign s (!t) (sgI s a + sgI (!t) b)) (pw d * v) ∧ 2 ^ 53 * v ≤ 2 ^ 53 * (sgI s a + sgI (!t) b).natAbs + (sgI s a + sgI (!t) b).natAbs ∧ 2 ^ 53 * (sgI s a + sgI (!t) b).natAbs ≤ 2 ^ 53 * v + (sgI s a + sgI (!t) b).natAbs := by
  have e := sg_fac s (!t) (pw d) a b
  have e2 := sg_abs s (!t) (pw d) a b
  obtain ⟨v, v1, v2⟩ := fp_sub hx hy (by
    rcases Nat.eq_zero_or_pos (sgI s a + sgI (!t) b).natAbs with h | h
    · exact Or.inl (by rw [e, Int.natAbs_eq_zero.mp h, Int.zero_mul])
    · exact Or.inr (by rw [e2]; exact Nat.le_trans (pw_le hd) (Nat.le_mul_of_pos_right _ h))) (by rw [e2]; exact h2)
  rw [e2] at v2
  obtain ⟨r, r1, r2, r3⟩ := rnd_fac (Int.le_trans (by decide) hd) v2
  rw [e, ss_mul _ _ _ (pw_pos d), r1] at v1
  exact ⟨r, v1, r2, r3⟩
theorem pw_lt9 {d : Int} {z k : Nat} (hd : -3000 ≤ d) (hz : z ≤ 2 ^ k) (h : d + (k : Int) ≤ 899) : pw d * z < pw 900 := by
  have e : pw (899 + ((1 : Nat) : Int)) = pw 899 * 2 ^ 1 := pw_add (by decide)
  have h1 : pw d * z ≤ pw d * 2 ^ k := Nat.mul_le_mul_left _ hz
  rw [← pw_add hd] at h1
  have h2 := pw_le h
  have h3 := pw_pos 899
  have e2 : pw 900 = pw 899 * 2 ^ 1 := e
  rw [e2]
  generalize pw 899 = N at *
  generalize pw (d + (k : Int)) = M at *
  generalize pw d * z = Z at *
  clear e e2 hz hd
  omega
theorem fp_mulP {x y : UInt64} {s t : Bool} {a b : Nat} (hx : DV x s (pw (-61) * a)) (hy : DV y t (pw (-61) * b)) (ha : a ≤ 5 * 2 ^ 61) (hb : b ≤ 5 * 2 ^ 61) : ∃ r, DV (FP.dmul x y) (s != t) (pw (-122) * r) ∧ 2 ^ 53 * r ≤ 2 ^ 53 * (a * b) + a * b ∧ 2 ^ 53 * (a * b) ≤ 2 ^ 53 * r + a * b := by
  have e0 : pw (-61) * pw (-61) = pw (-122) * 2 ^ 3000 := pw_mul (a := -61) (b := -61) (by decide) (by decide) (by decide)
  have e : pw (-61) * a * (pw (-61) * b) = pw (-122) * (a * b) * 2 ^ 3000 := by
    rw [Nat.mul_mul_mul_comm, e0, Nat.mul_right_comm]
  have hab : a * b ≤ 2 ^ 127 := Nat.le_trans (Nat.mul_le_mul ha hb) (by decide)
  obtain ⟨v, X, x1, x2, x3⟩ := fp_mul hx hy (by
    rcases Nat.eq_zero_or_pos (a * b) with h | h
    · exact Or.inl (by rw [e, h, Nat.mul_zero, Nat.zero_mul])
    · exact Or.inr (by rw [e]; exact Nat.mul_le_mul_right _ (Nat.le_trans (pw_le (by decide)) (Nat.le_mul_of_pos_right _ h)))) (by
    rw [e]
    exact Nat.mul_lt_mul_of_pos_right (pw_lt9 (by decide) hab (by decide)) (Nat.two_pow_pos 3000))
  have e3 : X = pw (-122) * (a * b) := Nat.eq_of_mul_eq_mul_right (Nat.two_pow_pos 3000) (x1.trans e)
  rw [e3] at x3
  obtain ⟨r, r1, r2, r3⟩ := rnd_fac (by decide) x3
  rw [r1] at x2
  exact ⟨r, x2, r2, r3⟩
theorem fp_sg (t : Bool) {a m k : Nat} (h1 : a ≤ k) (h2 : m ≤ k) : (sgI false a + sgI (!false) m).natAbs ≤ k := by
  show ((a : Int) + -(m : Int)).natAbs ≤ k
  omega
theorem rnd_le {X v k : Nat} (h : 2 ^ 53 * v ≤ 2 ^ 53 * X + X) (h2 : X ≤ 4 * k) : v ≤ 5 * k := by omega
theorem rnd_0 {X : Nat} (h : 2 ^ 53 * X ≤ 2 ^ 53 * 0 + X) : X = 0 := by omega
theorem ac_x {s : List Nat} (hb : bd s) {m : Nat} (hm : DV (acM s) false (pw (-61) * m)) (m2 : m ≤ 4 * 2 ^ 61) (i : Nat) : ∃ t w, DV (acX s i) t (pw (-61) * w) ∧ w ≤ 5 * 2 ^ 61 ∧ (w = 0 → s.getD i 0 * 2 ^ 61 = m) := by
  have hx := bd_at hb i
  have e0 : pw 0 = pw (-61) * 2 ^ 61 := by
    have e : pw (-61 + ((61 : Nat) : Int)) = pw (-61) * 2 ^ 61 := pw_add (by decide)
    exact e
  have hi := fp_i2d (n := s.getD i 0) (Nat.lt_trans hx (by decide))
  rw [e0, Nat.mul_left_comm] at hi
  have ha : s.getD i 0 * 2 ^ 61 ≤ 4 * 2 ^ 61 := Nat.mul_le_mul_right _ (Nat.le_of_lt hx)
  have hz := fp_sg false ha m2
  obtain ⟨v, v1, v2, v3⟩ := fp_subD (by decide) hi hm (pw_lt9 (k := 63) (by decide) (Nat.le_trans hz (by decide)) (by decide))
  refine ⟨_, v, v1, rnd_le v2 hz, fun h => ?_⟩
  rw [h] at v3
  have h0 := Int.natAbs_eq_zero.mp (rnd_0 v3)
  have h1 : ((s.getD i 0 * 2 ^ 61 : Nat) : Int) + -(m : Int) = 0 := h0
  omega
