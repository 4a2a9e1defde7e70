theorem fp_units {A B : Nat} {e q : Int} (he : -3000 ≤ e) (hq : -3000 ≤ q) : ∃ w, 0 < w ∧ FP.Core.unitsNum A e q * w = A * pw e ∧ FP.Core.unitsDen B e q * w = B * pw q := by
  unfold FP.Core.unitsNum FP.Core.unitsDen
  rcases Int.le_total q e with h | h
  · refine ⟨pw q, pw_pos q, ?_, ?_⟩
    · have e1 : pw e = pw q * 2 ^ (e - q).toNat := by rw [← pw_add hq]; congr 1; omega
      rw [e1, Nat.mul_assoc, Nat.mul_comm (2 ^ _)]
    · rw [show (q - e).toNat = 0 by omega, Nat.pow_zero, Nat.mul_one]
  · refine ⟨pw e, pw_pos e, ?_, ?_⟩
    · rw [show (e - q).toNat = 0 by omega, Nat.pow_zero, Nat.mul_one]
    · have e1 : pw q = pw e * 2 ^ (q - e).toNat := by rw [← pw_add he]; congr 1; omega
      rw [e1, Nat.mul_assoc, Nat.mul_comm (2 ^ _)]
theorem fp_canc {a b w : Nat} (hw : 0 < w) (h : a * w ≤ b * w) : a ≤ b := Nat.le_of_mul_le_mul_right h hw
theorem fp_qmin : FP.Core.b64.qmin = -1074 := by decide
theorem fp_qmax : FP.Core.b64.qmax = 971 := by decide
theorem fp_p : FP.Core.b64.p = 53 := rfl
theorem fp_tails : FP.Core.b64.tails = 2 ^ 52 := by decide
/-- the place of the leading digit, by bounds of the number -/
theorem fp_k {A B : Nat} {e : Int} (hA : 0 < A) (hB : 0 < B) {L U : Int} (he : -2900 ≤ e) (hL : -2500 ≤ L) (hLU : L ≤ U) (hk : -3000 ≤ e + FP.Core.leading A B) (h1 : B * pw L ≤ A * pw e) (h2 : A * pw e < B * pw U) : L ≤ e + FP.Core.leading A B ∧ e + FP.Core.leading A B < U := by
  obtain ⟨l1, l2⟩ := fp_lead hA hB
  have u1 := pw_up (X := B) (Y := A) (e := e) (by omega) hk l1
  have u2 := pw_dn (X := B) (Y := A) (k := FP.Core.leading A B + 1) (e := e) (by omega) (by omega) l2
  constructor
  · refine Int.not_lt.mp (fun h => ?_)
    have h3 := Nat.mul_le_mul_left B (pw_le (a := e + (FP.Core.leading A B + 1)) (b := L) (by omega))
    omega
  · refine Int.not_le.mp (fun h => ?_)
    have h3 := Nat.mul_le_mul_left B (pw_le h)
    omega
theorem fp_round {A B : Nat} {e : Int} (s : Bool) (hA : 0 < A) (hB : 0 < B) (he : -2500 ≤ e) (hlo : -1022 ≤ e + FP.Core.leading A B) (hhi : e + FP.Core.leading A B ≤ 1000) : ∃ c q, FP.Core.roundRatio FP.Core.b64 s A B e = .fin s c q ∧ 2 ^ 52 ≤ c ∧ c < 2 ^ 53 ∧ e + FP.Core.leading A B - 52 ≤ q ∧ q ≤ e + FP.Core.leading A B - 51 ∧ 2 ^ 53 * (c * pw q * B) ≤ 2 ^ 53 * (A * pw e) + A * pw e ∧ 2 ^ 53 * (A * pw e) ≤ 2 ^ 53 * (c * pw q * B) + A * pw e ∧ (B = 1 → ∀ d, -3000 ≤ d → pw d ∣ A * pw e → pw d ∣ c * pw q) := by
  obtain ⟨l1, l2⟩ := fp_lead hA hB
  generalize hk : FP.Core.leading A B = k at *
  have u1 := pw_up (X := B) (Y := A) (k := k) (e := e) (by omega) (by omega) l1
  have u2 := pw_dn (X := B) (Y := A) (k := k + 1) (e := e) (by omega) (by omega) l2
  obtain ⟨q, hq⟩ : ∃ q, q = e + k - 52 := ⟨_, rfl⟩
  have hqq : FP.Core.quantum FP.Core.b64 A B e = q := by
    unfold FP.Core.quantum
    rw [fp_qmin, fp_p, hk]
    omega
  have p1 : pw (e + k) = pw q * 2 ^ 52 := by rw [← pw_add (by omega)]; congr 1; omega
  have p2 : pw (e + (k + 1)) = pw q * 2 ^ 53 := by rw [← pw_add (by omega)]; congr 1; omega
  rw [p1] at u1
  rw [p2] at u2
  obtain ⟨w, hw, w1, w2⟩ := fp_units (A := A) (B := B) (e := e) (q := q) (by omega) (by omega)
  have hD : 0 < FP.Core.unitsDen B e q := Nat.mul_pos hB (Nat.two_pow_pos _)
  obtain ⟨n1, n2⟩ := fp_near (A := FP.Core.unitsNum A e q) hD
  have hR : FP.Core.roundRatio FP.Core.b64 s A B e = FP.Core.settle FP.Core.b64 s (FP.Core.nearest (FP.Core.unitsNum A e q) (FP.Core.unitsDen B e q)) q := by
    unfold FP.Core.roundRatio
    rw [if_neg (by omega), hqq]
    rfl
  rw [hR]
  generalize FP.Core.nearest (FP.Core.unitsNum A e q) (FP.Core.unitsDen B e q) = c at *
  generalize FP.Core.unitsNum A e q = N at *
  generalize FP.Core.unitsDen B e q = D at *
  have m1 : 2 * (c * D) * w ≤ (2 * N + D) * w := Nat.mul_le_mul_right w n1
  have m2 : 2 * N * w ≤ (2 * (c * D) + D) * w := Nat.mul_le_mul_right w n2
  have m3 : c * D * w = c * (B * pw q) := by rw [Nat.mul_assoc, w2]
  rw [Nat.add_mul, Nat.mul_assoc, Nat.mul_assoc 2 N, m3, w1, w2] at m1
  rw [Nat.add_mul, Nat.mul_assoc, Nat.mul_assoc 2 (c * D), m3, w1, w2] at m2
  have hY : 0 < B * pw q := Nat.mul_pos hB (pw_pos q)
  rw [← Nat.mul_assoc] at u1 u2
  have cv : c * pw q * B = c * (B * pw q) := by rw [Nat.mul_assoc, Nat.mul_comm (pw q)]
  generalize hYe : B * pw q = Y at *
  generalize A * pw e = X at *
  have c1 : 2 ^ 52 ≤ c := by
    refine Nat.not_lt.mp (fun h => ?_)
    have h3 : (c + 1) * Y ≤ 2 ^ 52 * Y := Nat.mul_le_mul_right Y h
    rw [Nat.succ_mul] at h3
    omega
  have c2 : c ≤ 2 ^ 53 := by
    refine Nat.not_lt.mp (fun h => ?_)
    have h3 : (2 ^ 53 + 1) * Y ≤ c * Y := Nat.mul_le_mul_right Y h
    omega
  have v1 : 2 ^ 53 * (c * Y) ≤ 2 ^ 53 * X + X := by omega
  have v2 : 2 ^ 53 * X ≤ 2 ^ 53 * (c * Y) + X := by omega
  have v3 : B = 1 → ∀ d, -3000 ≤ d → pw d ∣ X → pw d ∣ c * pw q := by
    intro hB1 d hd hdv
    rcases Int.le_total d q with h | h
    · exact Nat.dvd_trans (pw_dvd (by omega)) (Nat.dvd_mul_left _ _)
    · have h2 : pw q ∣ X := Nat.dvd_trans (pw_dvd (by omega)) hdv
      obtain ⟨y, hy⟩ := h2
      have hYq : Y = pw q := by rw [← hYe, hB1, Nat.one_mul]
      have hN : N = y * D := by
        refine Nat.eq_of_mul_eq_mul_right hw ?_
        rw [w1, hy, Nat.mul_assoc, w2, hYq, Nat.mul_comm]
      have hcy : c = y := by
        rw [hN] at n1 n2
        rcases Nat.lt_trichotomy c y with h3 | h3 | h3
        · have h4 : (c + 1) * D ≤ y * D := Nat.mul_le_mul_right D h3
          rw [Nat.succ_mul] at h4
          omega
        · exact h3
        · have h4 : (y + 1) * D ≤ c * D := Nat.mul_le_mul_right D h3
          rw [Nat.succ_mul] at h4
          omega
      rw [hcy, Nat.mul_comm, ← hy]
      exact hdv
  unfold FP.Core.settle FP.Core.bound
  rw [fp_p, fp_qmax, fp_tails]
  by_cases h : c < 2 ^ 53
  · rw [if_pos h, if_pos (by omega)]
    exact ⟨c, q, rfl, c1, h, by omega, by omega, by rw [cv]; exact v1, by rw [cv]; exact v2, v3⟩
  · rw [if_neg h, if_pos (by omega)]
    have hc : c = 2 ^ 53 := by omega
    have p3 : 2 ^ 52 * pw (q + 1) * B = c * Y := by
      rw [← hYe, show q + 1 = q + ((1 : Nat) : Int) by omega, pw_add (by omega), hc, Nat.mul_comm B, ← Nat.mul_assoc, ← Nat.mul_assoc, Nat.mul_right_comm (2 ^ 52)]
    exact ⟨2 ^ 52, q + 1, rfl, Nat.le_refl _, by decide, by omega, by omega, by rw [p3]; exact v1, by rw [p3]; exact v2, fun hB1 d hd hdv => by have := v3 hB1 d hd hdv; rw [hc] at this; rw [show q + 1 = q + ((1 : Nat) : Int) by omega, pw_add (by omega), Nat.pow_one, Nat.mul_comm (pw q), ← Nat.mul_assoc]; exact this⟩
