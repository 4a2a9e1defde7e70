theorem fp_lead_ge {A B : Nat} : -(B.log2 : Int) - 1 ≤ FP.Core.leading A B := by
  have e : FP.Core.leading A B = if B * 2 ^ ((A.log2 : Int) - (B.log2 : Int)).toNat ≤ A * 2 ^ (-((A.log2 : Int) - (B.log2 : Int))).toNat then (A.log2 : Int) - (B.log2 : Int) else (A.log2 : Int) - (B.log2 : Int) - 1 := rfl
  rw [e]
  split <;> omega
theorem fp_log {B : Nat} (h : B < 2 ^ 53) (hB : 0 < B) : B.log2 < 53 := (Nat.log2_lt (by omega)).mpr h
theorem fp_rnd {A B : Nat} {e : Int} (s : Bool) (hA : 0 < A) (hB : 0 < B) (hB2 : B < 2 ^ 53) (he : -2500 ≤ e) (h1 : B * pw (-1000) ≤ A * pw e) (h2 : A * pw e < B * pw 900) : ∃ c q, FP.Core.roundRatio FP.Core.b64 s A B e = .fin s c q ∧ 2 ^ 52 ≤ c ∧ c < 2 ^ 53 ∧ -1074 ≤ q ∧ q ≤ 971 ∧ 2 ^ 53 * (c * pw q * B) ≤ 2 ^ 53 * (A * pw e) + A * pw e ∧ 2 ^ 53 * (A * pw e) ≤ 2 ^ 53 * (c * pw q * B) + A * pw e ∧ (B = 1 → ∀ d, -3000 ≤ d → pw d ∣ A * pw e → pw d ∣ c * pw q) := by
  have hl := fp_lead_ge (A := A) (B := B)
  have hg := fp_log hB2 hB
  obtain ⟨k1, k2⟩ := fp_k (L := -1000) (U := 900) hA hB (by omega) (by omega) (by omega) (by omega) h1 h2
  obtain ⟨c, q, a1, a2, a3, a4, a5, a6, a7, a8⟩ := fp_round s hA hB (by omega) (by omega) (by omega)
  exact ⟨c, q, a1, a2, a3, by omega, by omega, a6, a7, a8⟩
/-- a double by its sign and its amount, in units of 2 ^ -3000 -/
def DV (x : UInt64) (s : Bool) (v : Nat) : Prop := ∃ c q, dfin x s c q ∧ c * pw q = v
def sgI (s : Bool) (v : Nat) : Int := if s then -(v : Int) else (v : Int)
theorem fp_units_eq {c : Nat} {q e : Int} (he : -3000 ≤ e) (h : e ≤ q) : FP.Core.inUnits c q e * pw e = c * pw q := by
  unfold FP.Core.inUnits
  have e1 : pw q = pw e * 2 ^ (q - e).toNat := by rw [← pw_add he]; congr 1; omega
  rw [e1, Nat.mul_assoc, Nat.mul_comm (2 ^ _)]
theorem DV.num {x : UInt64} {s : Bool} {v : Nat} (h : DV x s v) : vf_n64 x := by
  obtain ⟨c, q, h1, _⟩ := h
  exact fp_num h1
