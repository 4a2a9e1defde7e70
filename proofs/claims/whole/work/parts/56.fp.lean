/-! doubles -/
theorem fp_pow {a b c : Nat} (h : a + b = c) : 2 ^ a * 2 ^ b = 2 ^ c := by rw [← Nat.pow_add, h]
theorem fp_up {A B a b x y : Nat} (a2 : A < 2 ^ (a + 1)) (b1 : 2 ^ b ≤ B) (h : a + 1 + y = b + x) : A * 2 ^ y < B * 2 ^ x := by
  have h1 : A * 2 ^ y < 2 ^ (a + 1) * 2 ^ y := Nat.mul_lt_mul_of_pos_right a2 (Nat.two_pow_pos _)
  have h2 : 2 ^ b * 2 ^ x ≤ B * 2 ^ x := Nat.mul_le_mul_right _ b1
  rw [fp_pow h] at h1
  rw [← Nat.pow_add] at h2
  omega
theorem fp_dn {A B a b x y : Nat} (a1 : 2 ^ a ≤ A) (b2 : B < 2 ^ (b + 1)) (h : a + y = b + 1 + x) : B * 2 ^ x ≤ A * 2 ^ y := by
  have h1 : B * 2 ^ x ≤ 2 ^ (b + 1) * 2 ^ x := Nat.mul_le_mul_right _ (Nat.le_of_lt b2)
  have h2 : 2 ^ a * 2 ^ y ≤ A * 2 ^ y := Nat.mul_le_mul_right _ a1
  rw [fp_pow rfl, ← h] at h1
  rw [← Nat.pow_add] at h2
  omega
theorem fp_lead {A B : Nat} (hA : 0 < A) (hB : 0 < B) : B * 2 ^ (FP.Core.leading A B).toNat ≤ A * 2 ^ (-(FP.Core.leading A B)).toNat ∧ A * 2 ^ (-(FP.Core.leading A B + 1)).toNat < B * 2 ^ (FP.Core.leading A B + 1).toNat := by
  have a1 : 2 ^ A.log2 ≤ A := Nat.log2_self_le (by omega)
  have a2 : A < 2 ^ (A.log2 + 1) := Nat.lt_log2_self
  have b1 : 2 ^ B.log2 ≤ B := Nat.log2_self_le (by omega)
  have b2 : B < 2 ^ (B.log2 + 1) := Nat.lt_log2_self
  have e : FP.Core.leading A B = if B * 2 ^ ((A.log2 : Int) - (B.log2 : Int)).toNat ≤ A * 2 ^ (-((A.log2 : Int) - (B.log2 : Int))).toNat then (A.log2 : Int) - (B.log2 : Int) else (A.log2 : Int) - (B.log2 : Int) - 1 := rfl
  rw [e]
  split
  · rename_i h
    exact ⟨h, fp_up a2 b1 (by omega)⟩
  · rename_i h
    refine ⟨fp_dn a1 b2 (by omega), ?_⟩
    rw [show (A.log2 : Int) - (B.log2 : Int) - 1 + 1 = (A.log2 : Int) - (B.log2 : Int) by omega]
    omega
theorem fp_near {A B : Nat} (hB : 0 < B) : 2 * (FP.Core.nearest A B * B) ≤ 2 * A + B ∧ 2 * A ≤ 2 * (FP.Core.nearest A B * B) + B := by
  have h1 := Nat.div_add_mod A B
  have h2 := Nat.mod_lt A hB
  have h3 : A / B * B = B * (A / B) := Nat.mul_comm _ _
  have h5 : (A / B + 1) * B = A / B * B + B := Nat.succ_mul _ _
  unfold FP.Core.nearest
  split
  · omega
  · split
    · omega
    · rcases Nat.mod_two_eq_zero_or_one (A / B) with h | h
      · rw [h, Nat.add_zero]; omega
      · rw [h]; omega
/-- 2 ^ e, e from -3000 on, in units of 2 ^ -3000 -/
theorem pw_ex : ∃ f : Int → Nat, ∀ e, f e = 2 ^ (e + 3000).toNat := ⟨_, fun _ => rfl⟩
noncomputable def pw : Int → Nat := Classical.choose pw_ex
theorem pw_eq (e : Int) : pw e = 2 ^ (e + 3000).toNat := Classical.choose_spec pw_ex e
theorem pw_pos (e : Int) : 0 < pw e := by
  rw [pw_eq]
  exact Nat.two_pow_pos _
theorem pw_dvd {a b : Int} (h : a ≤ b) : pw a ∣ pw b := by
  rw [pw_eq, pw_eq]
  exact Nat.pow_dvd_pow 2 (by omega)
theorem pw_add {a : Int} {n : Nat} (ha : -3000 ≤ a) : pw (a + n) = pw a * 2 ^ n := by
  rw [pw_eq, pw_eq, ← Nat.pow_add]
  congr 1
  omega
theorem pw_le {a b : Int} (h : a ≤ b) : pw a ≤ pw b := by
  rw [pw_eq, pw_eq]
  exact Nat.pow_le_pow_right (by decide) (by omega)
/-- two to a power that may be negative, moved to the other side -/
theorem pw_up {X Y : Nat} {k e : Int} (he : -3000 ≤ e) (hk : -3000 ≤ e + k) (h : X * 2 ^ k.toNat ≤ Y * 2 ^ (-k).toNat) : X * pw (e + k) ≤ Y * pw e := by
  rcases Int.le_total 0 k with h0 | h0
  · obtain ⟨n, rfl⟩ : ∃ n : Nat, k = n := ⟨k.toNat, by omega⟩
    rw [show (-(n : Int)).toNat = 0 by omega, show (n : Int).toNat = n by omega, Nat.pow_zero, Nat.mul_one] at h
    rw [pw_add he, Nat.mul_comm (pw e), ← Nat.mul_assoc]
    exact Nat.mul_le_mul_right _ h
  · obtain ⟨n, hn⟩ : ∃ n : Nat, k = -(n : Int) := ⟨(-k).toNat, by omega⟩
    subst hn
    rw [show (-(n : Int)).toNat = 0 by omega, show (- -(n : Int)).toNat = n by omega, Nat.pow_zero, Nat.mul_one] at h
    have e1 : pw e = pw (e + -(n : Int)) * 2 ^ n := by
      rw [← pw_add hk]
      congr 1
      omega
    rw [e1, Nat.mul_comm (pw _) (2 ^ n), ← Nat.mul_assoc]
    exact Nat.mul_le_mul_right _ h
theorem pw_dn {X Y : Nat} {k e : Int} (he : -3000 ≤ e) (hk : -3000 ≤ e + k) (h : Y * 2 ^ (-k).toNat < X * 2 ^ k.toNat) : Y * pw e < X * pw (e + k) := by
  rcases Int.le_total 0 k with h0 | h0
  · obtain ⟨n, rfl⟩ : ∃ n : Nat, k = n := ⟨k.toNat, by omega⟩
    rw [show (-(n : Int)).toNat = 0 by omega, show (n : Int).toNat = n by omega, Nat.pow_zero, Nat.mul_one] at h
    rw [pw_add he, Nat.mul_comm (pw e), ← Nat.mul_assoc]
    exact Nat.mul_lt_mul_of_pos_right h (pw_pos e)
  · obtain ⟨n, hn⟩ : ∃ n : Nat, k = -(n : Int) := ⟨(-k).toNat, by omega⟩
    subst hn
    rw [show (-(n : Int)).toNat = 0 by omega, show (- -(n : Int)).toNat = n by omega, Nat.pow_zero, Nat.mul_one] at h
    have e1 : pw e = pw (e + -(n : Int)) * 2 ^ n := by
      rw [← pw_add hk]
      congr 1
      omega
    rw [e1, Nat.mul_comm (pw _) (2 ^ n), ← Nat.mul_assoc]
    exact Nat.mul_lt_mul_of_pos_right h (pw_pos _)
