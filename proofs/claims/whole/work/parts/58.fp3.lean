theorem fp_exps : FP.Core.b64.exps = 2048 := by decide
theorem fp_asm {s : Bool} {E t : Nat} (hE : E < 2047) (ht : t < 2 ^ 52) : FP.Core.assemble FP.Core.b64 s E t < 2 ^ 64 ∧ FP.Core.decode FP.Core.b64 (FP.Core.assemble FP.Core.b64 s E t) = if E = 0 then .fin s t (-1074) else .fin s (2 ^ 52 + t) (-1074 + ((E : Int) - 1)) := by
  have hn : FP.Core.assemble FP.Core.b64 s E t = (s.toNat * 2048 + E) * 2 ^ 52 + t := by
    unfold FP.Core.assemble
    rw [fp_exps, fp_tails]
  have hs : s.toNat ≤ 1 := by cases s <;> decide
  rw [hn]
  generalize hm : (s.toNat * 2048 + E) * 2 ^ 52 + t = n
  have f1 : FP.Core.fieldE FP.Core.b64 n = E := by
    unfold FP.Core.fieldE
    rw [fp_exps, fp_tails]
    omega
  have f2 : FP.Core.fieldT FP.Core.b64 n = t := by
    unfold FP.Core.fieldT
    rw [fp_tails]
    omega
  have f3 : FP.Core.fieldS FP.Core.b64 n = s := by
    unfold FP.Core.fieldS
    rw [fp_exps, fp_tails]
    have : n / 2 ^ 52 / 2048 % 2 = s.toNat := by omega
    rw [this]
    cases s <;> rfl
  refine ⟨by omega, ?_⟩
  unfold FP.Core.decode
  rw [f1, f2, f3, fp_exps, fp_tails, fp_qmin, if_neg (by omega)]
/-- a double and what it stands for -/
def dfin (x : UInt64) (s : Bool) (c : Nat) (q : Int) : Prop := FP.Core.decode FP.Core.b64 x.toNat = .fin s c q ∧ c < 2 ^ 53 ∧ -1074 ≤ q ∧ q ≤ 971 ∧ (q = -1074 ∨ 2 ^ 52 ≤ c)
theorem fp_enc {s : Bool} {c : Nat} {q : Int} (h1 : c < 2 ^ 53) (h2 : -1074 ≤ q) (h3 : q ≤ 971) (h4 : q = -1074 ∨ 2 ^ 52 ≤ c) : dfin (UInt64.ofNat (FP.Core.encode FP.Core.b64 (.fin s c q))) s c q := by
  refine ⟨?_, h1, h2, h3, h4⟩
  have e : FP.Core.encode FP.Core.b64 (.fin s c q) = if c < 2 ^ 52 then FP.Core.assemble FP.Core.b64 s 0 c else FP.Core.assemble FP.Core.b64 s ((q + 1074).toNat + 1) (c - 2 ^ 52) := by
    show (if c < FP.Core.b64.tails then _ else FP.Core.assemble FP.Core.b64 s ((q - FP.Core.b64.qmin).toNat + 1) (c - FP.Core.b64.tails)) = _
    rw [fp_tails, fp_qmin, show q - -1074 = q + 1074 by omega]
  rw [e]
  split
  · obtain ⟨a1, a2⟩ := fp_asm (s := s) (E := 0) (t := c) (by omega) (by assumption)
    rw [UInt64.toNat_ofNat_of_lt' (by simpa using a1), a2, if_pos rfl, show q = -1074 by omega]
  · obtain ⟨a1, a2⟩ := fp_asm (s := s) (E := (q + 1074).toNat + 1) (t := c - 2 ^ 52) (by omega) (by omega)
    rw [UInt64.toNat_ofNat_of_lt' (by simpa using a1), a2, if_neg (by omega)]
    rw [show 2 ^ 52 + (c - 2 ^ 52) = c by omega, show (-1074 : Int) + ((((q + 1074).toNat + 1 : Nat) : Int) - 1) = q by omega]
theorem fp_num {x : UInt64} {s : Bool} {c : Nat} {q : Int} (h : dfin x s c q) : vf_n64 x := by
  have h1 := h.1
  have hE : FP.Core.fieldE FP.Core.b64 x.toNat ≠ 2047 := by
    intro e
    unfold FP.Core.decode at h1
    rw [fp_exps, e, if_pos rfl] at h1
    split at h1 <;> cases h1
  unfold FP.Core.fieldE at hE
  rw [fp_exps, fp_tails] at hE
  have hm : x.toNat % 2 ^ 63 < 2047 * 2 ^ 52 := by omega
  unfold vf_n64
  rw [UInt64.le_iff_toNat_le, UInt64.toNat_and]
  have e2 : (0x7fffffffffffffff : UInt64).toNat = 2 ^ 63 - 1 := rfl
  have e3 : (0x7ff0000000000000 : UInt64).toNat = 2047 * 2 ^ 52 := rfl
  rw [e2, e3, Nat.and_two_pow_sub_one_eq_mod]
  omega
/-- every double that is no NaN and no infinity -/
theorem fp_of {x : UInt64} {s : Bool} {c : Nat} {q : Int} (h : FP.Core.decode FP.Core.b64 x.toNat = .fin s c q) : dfin x s c q := by
  refine ⟨h, ?_⟩
  have hT : FP.Core.fieldT FP.Core.b64 x.toNat < 2 ^ 52 := by
    unfold FP.Core.fieldT
    rw [fp_tails]
    exact Nat.mod_lt _ (by decide)
  have hE : FP.Core.fieldE FP.Core.b64 x.toNat < 2048 := by
    unfold FP.Core.fieldE
    rw [fp_exps]
    exact Nat.mod_lt _ (by decide)
  unfold FP.Core.decode at h
  rw [fp_exps, fp_tails, fp_qmin] at h
  split at h
  · split at h <;> cases h
  · split at h
    · injection h with a1 a2 a3
      omega
    · injection h with a1 a2 a3
      omega
