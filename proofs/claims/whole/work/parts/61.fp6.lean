theorem dfin.neg {x : UInt64} {s : Bool} {c : Nat} {q : Int} (h : dfin x s c q) : FP.Core.negate (FP.Core.decode FP.Core.b64 x.toNat) = .fin (!s) c q := by
  rw [h.1]
  rfl
theorem fp_sub {x y : UInt64} {s t : Bool} {a b : Nat} (hx : DV x s a) (hy : DV y t b) (h1 : sgI s a + sgI (!t) b = 0 ∨ pw (-1000) ≤ (sgI s a + sgI (!t) b).natAbs) (h2 : (sgI s a + sgI (!t) b).natAbs < pw 900) : ∃ v, DV (FP.dsub x y) (FP.Core.sumSign s (!t) (sgI s a + sgI (!t) b)) v ∧ rnd53 (sgI s a + sgI (!t) b).natAbs v := by
  obtain ⟨d, r, hd, hb⟩ := hy
  have hy2 : DV (UInt64.ofNat (FP.Core.encode FP.Core.b64 (.fin (!t) d r))) (!t) b := ⟨d, r, fp_enc hd.2.1 hd.2.2.1 hd.2.2.2.1 hd.2.2.2.2, hb⟩
  have e1 : FP.dsub x y = FP.dadd x (UInt64.ofNat (FP.Core.encode FP.Core.b64 (.fin (!t) d r))) := by
    show UInt64.ofNat (FP.Core.encode FP.Core.b64 (FP.Core.round FP.Core.b64 (FP.Core.exactSum (FP.Core.decode FP.Core.b64 x.toNat) (FP.Core.negate (FP.Core.decode FP.Core.b64 y.toNat))))) = UInt64.ofNat (FP.Core.encode FP.Core.b64 (FP.Core.round FP.Core.b64 (FP.Core.exactSum (FP.Core.decode FP.Core.b64 x.toNat) (FP.Core.decode FP.Core.b64 (UInt64.ofNat (FP.Core.encode FP.Core.b64 (.fin (!t) d r))).toNat))))
    rw [hd.neg, (fp_enc (s := !t) hd.2.1 hd.2.2.1 hd.2.2.2.1 hd.2.2.2.2).1]
  rw [e1]
  exact fp_add hx hy2 h1 h2
theorem pw_mul {a b : Int} (ha : -3000 ≤ a) (hb : -3000 ≤ b) (hab : -3000 ≤ a + b) : pw a * pw b = pw (a + b) * 2 ^ 3000 := by
  rw [pw_eq, pw_eq, pw_eq, ← Nat.pow_add, ← Nat.pow_add]
  congr 1
  omega
theorem fp_mul {x y : UInt64} {s t : Bool} {a b : Nat} (hx : DV x s a) (hy : DV y t b) (h1 : a * b = 0 ∨ pw (-1000) * 2 ^ 3000 ≤ a * b) (h2 : a * b < pw 900 * 2 ^ 3000) : ∃ v X, X * 2 ^ 3000 = a * b ∧ DV (FP.dmul x y) (s != t) v ∧ rnd53 X v := by
  obtain ⟨c, q, ⟨d1, d2, d3, d4, d5⟩, rfl⟩ := hx
  obtain ⟨d, r, ⟨f1, f2, f3, f4, f5⟩, rfl⟩ := hy
  have hX : c * d * pw (q + r) * 2 ^ 3000 = c * pw q * (d * pw r) := by
    rw [Nat.mul_assoc, ← pw_mul (by omega) (by omega) (by omega), Nat.mul_mul_mul_comm]
  have e1 : FP.dmul x y = UInt64.ofNat (FP.Core.encode FP.Core.b64 (FP.Core.roundRatio FP.Core.b64 (s != t) (c * d) 1 (q + r))) := by
    show UInt64.ofNat (FP.Core.encode FP.Core.b64 (FP.Core.round FP.Core.b64 (FP.Core.exactProduct (FP.Core.decode FP.Core.b64 x.toNat) (FP.Core.decode FP.Core.b64 y.toNat)))) = _
    rw [d1, f1]
    rfl
  rw [← hX] at h1 h2
  have hp : 0 < 2 ^ 3000 := Nat.two_pow_pos _
  obtain ⟨v, v1, v2⟩ := fp_r1 (U := c * d) (e := q + r) (s != t) (by omega) (by
    rcases h1 with h1 | h1
    · refine Or.inl ?_
      rcases Nat.mul_eq_zero.mp h1 with h | h
      · rcases Nat.mul_eq_zero.mp h with h | h
        · exact h
        · have := pw_pos (q + r); omega
      · omega
    · exact Or.inr (fp_canc hp h1)) (Nat.lt_of_mul_lt_mul_right h2)
  rw [e1]
  exact ⟨v, _, hX, v1, v2⟩
