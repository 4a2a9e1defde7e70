theorem ss_mul (s t : Bool) (u : Int) {w : Nat} (hw : 0 < w) : FP.Core.sumSign s t (u * (w : Int)) = FP.Core.sumSign s t u := by
  have h1 : u * (w : Int) = 0 ↔ u = 0 := ⟨fun h => (Int.mul_eq_zero.mp h).resolve_right (by omega), fun h => by rw [h, Int.zero_mul]⟩
  have h2 : u * (w : Int) < 0 ↔ u < 0 := by
    constructor
    · intro h
      refine Int.not_le.mp (fun h3 => ?_)
      have := Int.mul_nonneg h3 (show (0 : Int) ≤ (w : Int) by omega)
      omega
    · intro h
      exact Int.mul_neg_of_neg_of_pos h (by omega)
  unfold FP.Core.sumSign
  by_cases h : u = 0
  · rw [if_pos h, if_pos (h1.mpr h)]
  · rw [if_neg h, if_neg (fun q => h (h1.mp q))]
    exact decide_eq_decide.mpr h2
theorem sg_mul (s : Bool) (n w : Nat) : FP.Core.signed s n * (w : Int) = sgI s (n * w) := by
  unfold FP.Core.signed sgI
  cases s
  · simp
  · simp [Int.neg_mul]
theorem fp_zero (s : Bool) : FP.Core.roundRatio FP.Core.b64 s 0 1 0 = .fin s 0 (-1074) := by
  unfold FP.Core.roundRatio
  rw [if_pos rfl, fp_qmin]
/-- what a rounding keeps of the amount X: near, and multiples of powers -/
def rnd53 (X v : Nat) : Prop := 2 ^ 53 * v ≤ 2 ^ 53 * X + X ∧ 2 ^ 53 * X ≤ 2 ^ 53 * v + X ∧ ∀ d, -3000 ≤ d → pw d ∣ X → pw d ∣ v
theorem fp_r1 {U : Nat} {e : Int} (s : Bool) (he : -2500 ≤ e) (h1 : U = 0 ∨ pw (-1000) ≤ U * pw e) (h2 : U * pw e < pw 900) : ∃ v, DV (UInt64.ofNat (FP.Core.encode FP.Core.b64 (FP.Core.roundRatio FP.Core.b64 s U 1 e))) s v ∧ rnd53 (U * pw e) v := by
  rcases Nat.eq_zero_or_pos U with h0 | h0
  · subst h0
    have e1 : FP.Core.roundRatio FP.Core.b64 s 0 1 e = .fin s 0 (-1074) := by
      unfold FP.Core.roundRatio
      rw [if_pos rfl, fp_qmin]
    rw [e1]
    refine ⟨0, ⟨0, -1074, fp_enc (by decide) (by omega) (by omega) (Or.inl rfl), by simp⟩, ?_⟩
    rw [Nat.zero_mul]
    exact ⟨by omega, by omega, fun _ _ h => h⟩
  · have h1 : pw (-1000) ≤ U * pw e := h1.resolve_left (by omega)
    obtain ⟨c, q, a1, a2, a3, a4, a5, a6, a7, a8⟩ := fp_rnd (B := 1) s h0 (by omega) (by omega) he (by rw [Nat.one_mul]; exact h1) (by rw [Nat.one_mul]; exact h2)
    rw [a1]
    refine ⟨c * pw q, ⟨c, q, fp_enc a3 a4 a5 (Or.inr a2), rfl⟩, ?_⟩
    rw [Nat.mul_one] at a6 a7
    exact ⟨a6, a7, a8 rfl⟩
theorem fp_add {x y : UInt64} {s t : Bool} {a b : Nat} (hx : DV x s a) (hy : DV y t b) (h1 : sgI s a + sgI t b = 0 ∨ pw (-1000) ≤ (sgI s a + sgI t b).natAbs) (h2 : (sgI s a + sgI t b).natAbs < pw 900) : ∃ v, DV (FP.dadd x y) (FP.Core.sumSign s t (sgI s a + sgI t b)) v ∧ rnd53 (sgI s a + sgI t b).natAbs v := by
  obtain ⟨c, q, ⟨d1, d2, d3, d4, d5⟩, rfl⟩ := hx
  obtain ⟨d, r, ⟨f1, f2, f3, f4, f5⟩, rfl⟩ := hy
  have hz : sgI s (c * pw q) + sgI t (d * pw r) = FP.Core.sumUnits s c q t d r (min q r) * (pw (min q r) : Int) := by
    unfold FP.Core.sumUnits
    rw [Int.add_mul, sg_mul, sg_mul, fp_units_eq (by omega) (by omega), fp_units_eq (by omega) (by omega)]
  have hp := pw_pos (min q r)
  have hsg : FP.Core.sumSign s t (sgI s (c * pw q) + sgI t (d * pw r)) = FP.Core.sumSign s t (FP.Core.sumUnits s c q t d r (min q r)) := by
    rw [hz]
    exact ss_mul s t _ hp
  rw [hsg]
  rw [hz, Int.natAbs_mul, Int.natAbs_natCast] at h2 ⊢
  have e1 : FP.dadd x y = UInt64.ofNat (FP.Core.encode FP.Core.b64 (FP.Core.roundRatio FP.Core.b64 (FP.Core.sumSign s t (FP.Core.sumUnits s c q t d r (min q r))) (FP.Core.sumUnits s c q t d r (min q r)).natAbs 1 (min q r))) := by
    show UInt64.ofNat (FP.Core.encode FP.Core.b64 (FP.Core.round FP.Core.b64 (FP.Core.exactSum (FP.Core.decode FP.Core.b64 x.toNat) (FP.Core.decode FP.Core.b64 y.toNat)))) = _
    rw [d1, f1]
    rfl
  rw [e1]
  refine fp_r1 _ (by omega) ?_ h2
  rw [hz, Int.natAbs_mul, Int.natAbs_natCast] at h1
  rcases h1 with h1 | h1
  · exact Or.inl ((Int.mul_eq_zero.mp h1).elim (fun h => by omega) (fun h => by omega))
  · exact Or.inr h1
