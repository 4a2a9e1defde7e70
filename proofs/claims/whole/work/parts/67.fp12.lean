/-! the bits of a double, put together -/
theorem fp_bits {x : UInt64} {s : Bool} {c : Nat} {q : Int} (h : dfin x s c q) (hc : 2 ^ 52 ≤ c) : x.toNat = (s.toNat * 2048 + (q + 1075).toNat) * 2 ^ 52 + (c - 2 ^ 52) := by
  have h1 := h.1
  have hx : x.toNat < 2 ^ 64 := x.toNat_lt
  unfold FP.Core.decode FP.Core.fieldE FP.Core.fieldT FP.Core.fieldS at h1
  rw [fp_exps, fp_tails, fp_qmin] at h1
  generalize x.toNat = n at *
  split at h1
  · split at h1 <;> cases h1
  · split at h1
    · injection h1 with a1 a2 a3
      omega
    · injection h1 with a1 a2 a3
      have hs : s.toNat = n / 2 ^ 52 / 2048 % 2 := by
        rw [← a1]
        rcases Nat.mod_two_eq_zero_or_one (n / 2 ^ 52 / 2048) with e | e <;> rw [e] <;> rfl
      omega
theorem i64_N (x : UInt64) : x.toInt64 = lN x.toNat := by
  apply Int64.toBitVec_inj.1
  apply BitVec.eq_of_toNat_eq
  show x.toNat = (BitVec.ofNat 64 x.toNat).toNat
  rw [BitVec.toNat_ofNat, Nat.mod_eq_of_lt x.toNat_lt]
theorem or_N (a b : Nat) : lN a ||| lN b = lN (a ||| b) := by
  apply Int64.toBitVec_inj.1
  show BitVec.ofNat 64 a ||| BitVec.ofNat 64 b = BitVec.ofNat 64 (a ||| b)
  apply BitVec.eq_of_getLsbD_eq
  intro i hi
  simp [hi]
theorem or_sN {a k : Nat} (b : Nat) (h : a < 2 ^ k) : lN (2 ^ k * b) ||| lN a = lN (2 ^ k * b + a) := by rw [or_N, Nat.two_pow_add_eq_or_of_lt h]
theorem shl_N {a k : Nat} {y : Int64} (hy : y.toBitVec.smod 64 = BitVec.ofNat 64 k) (hk : k < 64) (ha : a < 2 ^ 64) : lN a <<< y = lN (a * 2 ^ k) := by
  apply Int64.toBitVec_inj.mp
  rw [Int64.toBitVec_shiftLeft, hy]
  apply BitVec.eq_of_toNat_eq
  have hb : (lN a).toBitVec.toNat = a := Nat.mod_eq_of_lt ha
  have hk' : (BitVec.ofNat 64 k).toNat = k := Nat.mod_eq_of_lt (by omega)
  have h : ((lN a).toBitVec <<< BitVec.ofNat 64 k).toNat = (a * 2 ^ k) % 2 ^ 64 := by simp only [BitVec.shiftLeft_eq', BitVec.toNat_shiftLeft, hb, hk', Nat.shiftLeft_eq]
  exact h
theorem shl_52 {E : Nat} (h : E < 2048) : lN E <<< ((52 : Int32).toInt64 &&& 63) = lN (2 ^ 52 * E) := by
  rw [shl_N (k := 52) (by decide) (by decide) (by omega), Nat.mul_comm]
theorem bits_N {x : UInt64} {s : Bool} {c : Nat} {q : Int} (h : dfin x s c q) (hc : 2 ^ 52 ≤ c) (hq : q ≤ -52) : ((if s then lN (2 ^ 63) else lN 0) ||| lN (2 ^ 52 * (q + 1075).toNat)) ||| lN (c - 2 ^ 52) = x.toInt64 := by
  have h1 := h.2.1
  have h2 := h.2.2.1
  have e : (if s then lN (2 ^ 63) else lN 0) ||| lN (2 ^ 52 * (q + 1075).toNat) = lN (2 ^ 52 * (s.toNat * 2048 + (q + 1075).toNat)) := by
    have a : (if s then lN (2 ^ 63) else lN 0) = lN (2 ^ 63 * s.toNat) := by cases s <;> rfl
    rw [a, or_sN _ (by omega)]
    congr 1
    omega
  rw [e, or_sN _ (by omega), i64_N, fp_bits h hc, Nat.mul_comm (2 ^ 52)]
/-! uniqueness -/
theorem pw_uni {c c' : Nat} {q q' : Int} (h : c' * pw q' = c * pw q) (hc : 2 ^ 52 ≤ c) (hc2 : c < 2 ^ 53) (hq : -1074 ≤ q) (h2 : c' < 2 ^ 53) (h4 : q' = -1074 ∨ 2 ^ 52 ≤ c') (h5 : -1074 ≤ q') : c' = c ∧ q' = q := by
  have p1 := pw_pos q
  have p2 := pw_pos q'
  rcases Int.lt_trichotomy q q' with h6 | h6 | h6
  · have e : pw (q + ((1 : Nat) : Int)) = pw q * 2 ^ 1 := pw_add (by omega)
    have g : pw (q + ((1 : Nat) : Int)) ≤ pw q' := pw_le (by omega)
    have g2 : 2 ^ 52 * (pw q * 2 ^ 1) ≤ c' * pw q' := Nat.mul_le_mul (by omega) (by rw [← e]; exact g)
    have g3 : c * pw q < 2 ^ 53 * pw q := Nat.mul_lt_mul_of_pos_right hc2 p1
    rw [h] at g2
    clear h e g
    generalize c * pw q = M at *
    generalize pw q = N at *
    omega
  · subst h6
    exact ⟨Nat.eq_of_mul_eq_mul_right p1 h, rfl⟩
  · have e : pw (q' + ((1 : Nat) : Int)) = pw q' * 2 ^ 1 := pw_add (by omega)
    have g : pw (q' + ((1 : Nat) : Int)) ≤ pw q := pw_le (by omega)
    have g2 : 2 ^ 52 * (pw q' * 2 ^ 1) ≤ c * pw q := Nat.mul_le_mul hc (by rw [← e]; exact g)
    have g3 : c' * pw q' < 2 ^ 53 * pw q' := Nat.mul_lt_mul_of_pos_right h2 p2
    rw [h] at g3
    clear h e g
    generalize c * pw q = M at *
    generalize pw q' = N at *
    omega
theorem DV.fin {x : UInt64} {s : Bool} {c : Nat} {q : Int} (h : DV x s (c * pw q)) (hc : 2 ^ 52 ≤ c) (hc2 : c < 2 ^ 53) (hq : -1074 ≤ q) : dfin x s c q := by
  obtain ⟨c', q', ⟨d1, d2, d3, d4, d5⟩, e⟩ := h
  obtain ⟨rfl, rfl⟩ := pw_uni e hc hc2 hq d2 d5 d3
  exact ⟨d1, d2, d3, d4, d5⟩
/-! the constants -/
theorem dv_1 : dfin FP.dconst1 false (2 ^ 52) (-52) := ⟨by decide +kernel, by decide, by decide, by decide, Or.inr (by decide)⟩
theorem dv_2 : dfin 0x4000000000000000 false (2 ^ 52) (-51) := ⟨by decide +kernel, by decide, by decide, by decide, Or.inr (by decide)⟩
theorem dv_52 : dfin 0x4330000000000000 false (2 ^ 52) 0 := ⟨by decide +kernel, by decide, by decide, by decide, Or.inr (by decide)⟩
/-! twice -/
theorem fp_twice {x : UInt64} {c : Nat} {q : Int} (h : dfin x false c q) (hc : 2 ^ 52 ≤ c) (hq : -193 ≤ q) (hq2 : q ≤ -52) : dfin (FP.dmul x 0x4000000000000000) false c (q + 1) := by
  have hc2 := h.2.1
  have e1 : pw (-51) * pw q = pw (-51 + q) * 2 ^ 3000 := pw_mul (by decide) (by omega) (by omega)
  have e2 : pw (-51 + q + ((52 : Nat) : Int)) = pw (-51 + q) * 2 ^ 52 := pw_add (by omega)
  have e3 : (-51 + q + ((52 : Nat) : Int)) = q + 1 := by omega
  rw [e3] at e2
  have e : c * pw q * (2 ^ 52 * pw (-51)) = c * pw (q + 1) * 2 ^ 3000 := by
    rw [e2, Nat.mul_comm (2 ^ 52), ← Nat.mul_assoc, Nat.mul_assoc c, Nat.mul_comm (pw q), e1]
    generalize pw (-51 + q) = N
    generalize 2 ^ 3000 = M
    rw [Nat.mul_assoc, Nat.mul_assoc, Nat.mul_assoc, Nat.mul_assoc, Nat.mul_comm M]
  have p1 := pw_pos (q + 1)
  have hp : 0 < 2 ^ 3000 := Nat.two_pow_pos 3000
  obtain ⟨v, X, x1, x2, x3, x4, x5⟩ := fp_mul ⟨c, q, h, rfl⟩ ⟨2 ^ 52, -51, dv_2, rfl⟩ (by
    refine Or.inr ?_
    rw [e]
    exact Nat.mul_le_mul_right _ (Nat.le_trans (pw_le (by omega)) (Nat.le_mul_of_pos_left _ (Nat.lt_of_lt_of_le (by decide) hc)))) (by
    rw [e]
    refine Nat.mul_lt_mul_of_pos_right ?_ hp
    rw [Nat.mul_comm]
    exact pw_lt9 (k := 53) (by omega) (Nat.le_of_lt hc2) (by omega))
  have hX : X = c * pw (q + 1) := Nat.eq_of_mul_eq_mul_right hp (x1.trans e)
  rw [hX] at x3 x4 x5
  have hv : v = c * pw (q + 1) := rnd_exact (P := pw (q + 1)) x3 x4 (Nat.mul_lt_mul_of_pos_right hc2 p1) (Nat.dvd_mul_left _ _) (x5 (q + 1) (by omega) (Nat.dvd_mul_left _ _))
  rw [hv] at x2
  exact DV.fin x2 hc hc2 (by omega)
/-! minus one, and times 2^52 -/
theorem fp_tail1 {x : UInt64} {c : Nat} (h : dfin x false c (-52)) (hc : 2 ^ 52 ≤ c) : DV (FP.dsub x FP.dconst1) false (pw (-52) * (c - 2 ^ 52)) := by
  have hc2 := h.2.1
  have hz : (sgI false c + sgI (!false) (2 ^ 52)).natAbs = c - 2 ^ 52 := by
    show ((c : Int) + -((2 ^ 52 : Nat) : Int)).natAbs = c - 2 ^ 52
    omega
  obtain ⟨v, v1, v2, v3⟩ := fp_subD (d := -52) (by decide) (x := x) (y := FP.dconst1) (s := false) (t := false) (a := c) (b := 2 ^ 52) ⟨c, -52, h, Nat.mul_comm _ _⟩ ⟨2 ^ 52, -52, dv_1, Nat.mul_comm _ _⟩ (by
    rw [hz]
    exact pw_lt9 (k := 53) (by decide) (by omega) (by decide))
  rw [hz] at v2 v3
  have e : v = c - 2 ^ 52 := rnd_exact (P := 1) v2 v3 (by omega) (Nat.one_dvd _) (Nat.one_dvd _)
  rw [e] at v1
  have hs : FP.Core.sumSign false (!false) (sgI false c + sgI (!false) (2 ^ 52)) = false := by
    unfold FP.Core.sumSign
    split
    · rfl
    · refine decide_eq_false ?_
      show ¬ (c : Int) + -((2 ^ 52 : Nat) : Int) < 0
      omega
  rw [hs] at v1
  exact v1
theorem fp_tail2 {y : UInt64} {z : Nat} (h : DV y false (pw (-52) * z)) (hz : z < 2 ^ 52) : DV (FP.dmul y 0x4330000000000000) false (z * pw 0) := by
  have e0 : pw 0 = pw (-52) * 2 ^ 52 := by
    have e : pw (-52 + ((52 : Nat) : Int)) = pw (-52) * 2 ^ 52 := pw_add (by decide)
    exact e
  have e : pw (-52) * z * (2 ^ 52 * pw 0) = z * pw 0 * 2 ^ 3000 := by
    rw [← pw_0]
    have : pw (-52) * z * (2 ^ 52 * pw 0) = z * (pw (-52) * 2 ^ 52) * pw 0 := by
      generalize pw (-52) = N
      generalize pw 0 = M
      rw [← Nat.mul_assoc, Nat.mul_comm N z, Nat.mul_assoc z]
    rw [this, ← e0]
  have p1 := pw_pos 0
  have hp : 0 < 2 ^ 3000 := Nat.two_pow_pos 3000
  obtain ⟨v, X, x1, x2, x3, x4, x5⟩ := fp_mul h ⟨2 ^ 52, 0, dv_52, rfl⟩ (by
    rw [e]
    rcases Nat.eq_zero_or_pos z with h0 | h0
    · exact Or.inl (by rw [h0, Nat.zero_mul, Nat.zero_mul])
    · exact Or.inr (Nat.mul_le_mul_right _ (Nat.le_trans (pw_le (by decide)) (Nat.le_mul_of_pos_left _ h0)))) (by
    rw [e]
    refine Nat.mul_lt_mul_of_pos_right ?_ hp
    rw [Nat.mul_comm]
    exact pw_lt9 (k := 52) (by decide) (Nat.le_of_lt hz) (by decide))
  have hX : X = z * pw 0 := Nat.eq_of_mul_eq_mul_right hp (x1.trans e)
  rw [hX] at x3 x4 x5
  have hv : v = z * pw 0 := rnd_exact (P := pw 0) x3 x4 (Nat.mul_lt_mul_of_pos_right (Nat.lt_trans hz (by decide)) p1) (Nat.dvd_mul_left _ _) (x5 0 (by decide) (Nat.dvd_mul_left _ _))
  rw [hv] at x2
  exact x2
theorem pw_trunc {c z : Nat} {q : Int} (h : c * pw q = z * pw 0) (hq : -1074 ≤ q) : c * 2 ^ q.toNat / 2 ^ (-q).toNat = z := by
  rcases Int.le_total 0 q with h0 | h0
  · obtain ⟨n, rfl⟩ := Int.eq_ofNat_of_zero_le h0
    have e : pw (0 + (n : Int)) = pw 0 * 2 ^ n := pw_add (by decide)
    rw [Int.zero_add] at e
    rw [e, Nat.mul_left_comm, Nat.mul_comm z] at h
    have h1 := Nat.eq_of_mul_eq_mul_left (pw_pos 0) h
    rw [Int.toNat_natCast, h1, show (-(n : Int)).toNat = 0 by omega, Nat.pow_zero, Nat.div_one]
  · obtain ⟨n, hn⟩ := Int.eq_ofNat_of_zero_le (show 0 ≤ -q by omega)
    have e : pw (q + (n : Int)) = pw q * 2 ^ n := pw_add (by omega)
    rw [show q + (n : Int) = 0 by omega] at e
    rw [e, Nat.mul_left_comm, Nat.mul_comm c] at h
    have h1 := Nat.eq_of_mul_eq_mul_left (pw_pos q) h
    rw [hn, Int.toNat_natCast, show q.toNat = 0 by omega, Nat.pow_zero, Nat.mul_one, h1, Nat.mul_div_cancel _ (Nat.two_pow_pos n)]
theorem fp_d2l {y : UInt64} {z : Nat} (h : DV y false (z * pw 0)) (hz : z < 2 ^ 52) : FP.d2l y = lN z := by
  obtain ⟨c, q, ⟨d1, d2, d3, d4, d5⟩, e⟩ := h
  show FP.Core.toL (FP.Core.decode FP.Core.b64 y.toNat) = _
  rw [d1]
  unfold FP.Core.toL
  have e2 : FP.Core.toInt (-2 ^ 63) (2 ^ 63 - 1) (.fin false c q) = (z : Int) := by
    show max (-2 ^ 63 : Int) (min (2 ^ 63 - 1) (FP.Core.truncate false c q)) = _
    have e3 : FP.Core.truncate false c q = (z : Int) := by
      show ((c * 2 ^ q.toNat / 2 ^ (-q).toNat : Nat) : Int) = _
      rw [pw_trunc e d3]
    rw [e3]
    omega
  rw [e2]
  rfl
/-! comparing -/
theorem cmp_pos {a b : Int} {w : Nat} (hw : 0 < w) : compare (a * (w : Int)) (b * (w : Int)) = compare a b := by
  have hw' : (0 : Int) < (w : Int) := by omega
  show compareOfLessAndEq _ _ = compareOfLessAndEq _ _
  unfold compareOfLessAndEq
  have h1 : a * (w : Int) < b * (w : Int) ↔ a < b := ⟨fun h => Int.lt_of_mul_lt_mul_right h (Int.le_of_lt hw'), fun h => Int.mul_lt_mul_of_pos_right h hw'⟩
  have h2 : a * (w : Int) = b * (w : Int) ↔ a = b := ⟨fun h => Int.eq_of_mul_eq_mul_right (by omega) h, fun h => by rw [h]⟩
  simp only [h1, h2]
theorem fp_cmp {x y : UInt64} {s t : Bool} {a b : Nat} (hx : DV x s a) (hy : DV y t b) : FP.dcmp x y = some (compare (sgI s a) (sgI t b)) := by
  obtain ⟨c, q, ⟨d1, d2, d3, d4, d5⟩, rfl⟩ := hx
  obtain ⟨d, r, ⟨f1, f2, f3, f4, f5⟩, rfl⟩ := hy
  show FP.Core.order (FP.Core.decode FP.Core.b64 x.toNat) (FP.Core.decode FP.Core.b64 y.toNat) = _
  rw [d1, f1]
  show some (compare (FP.Core.signed s (FP.Core.inUnits c q (min q r))) (FP.Core.signed t (FP.Core.inUnits d r (min q r)))) = _
  rw [← cmp_pos (pw_pos (min q r)), sg_mul, sg_mul, fp_units_eq (by omega) (by omega), fp_units_eq (by omega) (by omega)]
theorem cv_lt {x y : UInt64} {s t : Bool} {a b : Nat} (op : CmpOp) (hx : DV x s a) (hy : DV y t b) (h : sgI s a < sgI t b) : Op.cmpValue (FP.dcmp x y) op = -1 := by
  rw [fp_cmp hx hy]
  have e : compare (sgI s a) (sgI t b) = .lt := by
    show compareOfLessAndEq _ _ = _
    unfold compareOfLessAndEq
    rw [if_pos h]
  rw [e]
  rfl
theorem cv_eq {x y : UInt64} {s t : Bool} {a b : Nat} (op : CmpOp) (hx : DV x s a) (hy : DV y t b) (h : sgI s a = sgI t b) : Op.cmpValue (FP.dcmp x y) op = 0 := by
  rw [fp_cmp hx hy]
  have e : compare (sgI s a) (sgI t b) = .eq := by
    show compareOfLessAndEq _ _ = _
    unfold compareOfLessAndEq
    rw [if_neg (by omega), if_pos h]
  rw [e]
  rfl
theorem cv_gt {x y : UInt64} {s t : Bool} {a b : Nat} (op : CmpOp) (hx : DV x s a) (hy : DV y t b) (h : sgI t b < sgI s a) : Op.cmpValue (FP.dcmp x y) op = 1 := by
  rw [fp_cmp hx hy]
  have e : compare (sgI s a) (sgI t b) = .gt := by
    show compareOfLessAndEq _ _ = _
    unfold compareOfLessAndEq
    rw [if_neg (by omega), if_neg (by omega)]
  rw [e]
  rfl
/-! the sign taken off -/
theorem nat_xor63 {y : Nat} (h : y < 2 ^ 63) : (2 ^ 63 + y) ^^^ 2 ^ 63 = y := by
  apply Nat.eq_of_testBit_eq
  intro i
  rw [Nat.testBit_xor]
  rcases Nat.lt_trichotomy i 63 with h1 | h1 | h1
  · rw [Nat.testBit_two_pow_add_gt h1, Nat.testBit_two_pow_of_ne (by omega), Bool.xor_false]
  · subst h1
    rw [Nat.testBit_two_pow_add_eq, Nat.testBit_two_pow_self, Nat.testBit_lt_two_pow h]
    rfl
  · have e1 : (2 ^ 63 + y).testBit i = false := Nat.testBit_lt_two_pow (Nat.lt_of_lt_of_le (show 2 ^ 63 + y < 2 ^ 64 by omega) (Nat.pow_le_pow_right (by decide) (by omega)))
    have e2 : y.testBit i = false := Nat.testBit_lt_two_pow (Nat.lt_of_lt_of_le h (Nat.pow_le_pow_right (by decide) (by omega)))
    rw [e1, e2, Nat.testBit_two_pow_of_ne (by omega)]
    rfl
theorem fp_neg {x : UInt64} {c : Nat} {q : Int} (h : dfin x true c q) (hc : 2 ^ 52 ≤ c) : dfin (FP.dneg x) false c q := by
  have hb := fp_bits h hc
  have h2 := h.2.1
  have h3 := h.2.2.1
  have h4 := h.2.2.2.1
  refine ⟨?_, h.2⟩
  have e : (FP.dneg x).toNat = FP.Core.assemble FP.Core.b64 false (q + 1075).toNat (c - 2 ^ 52) := by
    have e2 : FP.Core.assemble FP.Core.b64 false (q + 1075).toNat (c - 2 ^ 52) = (q + 1075).toNat * 2 ^ 52 + (c - 2 ^ 52) := by
      unfold FP.Core.assemble
      rw [fp_exps, fp_tails]
      show (0 * 2048 + _) * _ + _ = _
      rw [Nat.zero_mul, Nat.zero_add]
    rw [e2]
    show (x ^^^ 0x8000000000000000).toNat = _
    rw [UInt64.toNat_xor, hb]
    have e3 : (0x8000000000000000 : UInt64).toNat = 2 ^ 63 := rfl
    rw [e3]
    have e4 : (true.toNat * 2048 + (q + 1075).toNat) * 2 ^ 52 + (c - 2 ^ 52) = 2 ^ 63 + ((q + 1075).toNat * 2 ^ 52 + (c - 2 ^ 52)) := by
      show (1 * 2048 + _) * _ + _ = _
      omega
    rw [e4]
    exact nat_xor63 (by omega)
  rw [e, (fp_asm (s := false) (E := (q + 1075).toNat) (t := c - 2 ^ 52) (by omega) (by omega)).2, if_neg (by omega)]
  rw [show 2 ^ 52 + (c - 2 ^ 52) = c by omega, show (-1074 : Int) + (((q + 1075).toNat : Int) - 1) = q by omega]
