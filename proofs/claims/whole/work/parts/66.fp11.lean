/-! the quotient -/
theorem ac_div1 {V U A B : Nat} (h : 2 ^ 53 * (V * B) ≤ 2 ^ 53 * (A * U) + A * U) (h2 : 2 * A ≤ 3 * B) (hB : 0 < B) (hU : 0 < U) : V < 2 * U := by
  refine Nat.lt_of_not_le (fun h3 => ?_)
  have a1 : 2 * U * B ≤ V * B := Nat.mul_le_mul_right _ h3
  have a2 : 2 * A * U ≤ 3 * B * U := Nat.mul_le_mul_right _ h2
  have a3 : 0 < B * U := Nat.mul_pos hB hU
  rw [Nat.mul_assoc 2 U B, Nat.mul_comm U B] at a1
  rw [Nat.mul_assoc 2 A U, Nat.mul_assoc 3 B U] at a2
  generalize A * U = X at *
  generalize V * B = Y at *
  generalize B * U = Z at *
  omega
theorem ac_div2 {V U A B : Nat} (h : 2 ^ 53 * (A * U) ≤ 2 ^ 53 * (V * B) + A * U) (hA : 0 < A) (hB : B ≤ 2 ^ 139) : U ≤ V * 2 ^ 140 := by
  have a1 : U ≤ A * U := Nat.le_mul_of_pos_left _ hA
  have a2 : V * B ≤ V * 2 ^ 139 := Nat.mul_le_mul_left _ hB
  generalize A * U = X at *
  generalize V * B = Y at *
  omega
theorem ac_h1 {D U W A B : Nat} (hB : B ≤ 2 ^ 139) (hA : 0 < A) (hW : W * 2 ^ 139 ≤ U) : D * B * W ≤ D * A * U := by
  rw [Nat.mul_assoc, Nat.mul_assoc]
  refine Nat.mul_le_mul_left _ (Nat.le_trans ?_ (Nat.le_mul_of_pos_left U hA))
  rw [Nat.mul_comm]
  exact Nat.le_trans (Nat.mul_le_mul_left _ hB) hW
theorem ac_h2 {D U W A B : Nat} (hD : 0 < D) (h2 : 2 * A ≤ 3 * B) (hB : 0 < B) (hW : 2 * U < W) : D * A * U < D * B * W := by
  rw [Nat.mul_assoc, Nat.mul_assoc]
  refine Nat.mul_lt_mul_of_pos_left ?_ hD
  have a1 : A * U ≤ 2 * B * U := Nat.mul_le_mul_right _ (by omega)
  have a2 : B * (2 * U) < B * W := Nat.mul_lt_mul_of_pos_left hW hB
  rw [Nat.mul_left_comm, ← Nat.mul_assoc] at a2
  exact Nat.lt_of_le_of_lt a1 a2
theorem pw_q1 {c : Nat} {q : Int} (hc : 2 ^ 52 ≤ c) (h : c * pw q < 2 * pw 0) : q ≤ -52 := by
  refine Int.not_lt.mp (fun h1 => ?_)
  have e : pw (-51 + ((51 : Nat) : Int)) = pw (-51) * 2 ^ 51 := pw_add (by decide)
  have e2 : pw 0 = pw (-51) * 2 ^ 51 := e
  have h2 : pw (-51) ≤ pw q := pw_le (by omega)
  have h3 : 2 ^ 52 * pw (-51) ≤ c * pw q := Nat.mul_le_mul hc h2
  rw [e2] at h
  clear e e2 h2
  generalize pw (-51) = N at *
  generalize c * pw q = M at *
  omega
theorem pw_q2 {c : Nat} {q : Int} (hc : c < 2 ^ 53) (h : pw 0 ≤ c * pw q * 2 ^ 140) : -193 ≤ q := by
  refine Int.not_lt.mp (fun h1 => ?_)
  have e : pw (-194 + ((194 : Nat) : Int)) = pw (-194) * 2 ^ 194 := pw_add (by decide)
  have e2 : pw 0 = pw (-194) * 2 ^ 194 := e
  have h2 : pw q ≤ pw (-194) := pw_le (by omega)
  have h3 : c * pw q ≤ (2 ^ 53 - 1) * pw (-194) := Nat.mul_le_mul (by omega) h2
  have h4 := pw_pos (-194)
  rw [e2] at h
  clear e e2 h2
  generalize pw (-194) = N at *
  generalize c * pw q = M at *
  omega
theorem fp_div0 {x y : UInt64} {t : Bool} {b : Nat} {d : Int} (hx : DV x false (pw d * 0)) (hy : DV y false b) (hb : 0 < b) : FP.ddiv x y = FP.dconst0 := by
  obtain ⟨c, q, ⟨d1, _, _, _, _⟩, h1⟩ := hx
  obtain ⟨b1, r, ⟨f1, _, _, _, _⟩, h2⟩ := hy
  have hc : c = 0 := by
    rcases Nat.mul_eq_zero.mp h1 with h | h
    · exact h
    · exact absurd h (Nat.ne_of_gt (pw_pos q))
  have hb1 : b1 ≠ 0 := fun e => by rw [e, Nat.zero_mul] at h2; omega
  have e1 : FP.ddiv x y = UInt64.ofNat (FP.Core.encode FP.Core.b64 (FP.Core.quotient FP.Core.b64 (FP.Core.decode FP.Core.b64 x.toNat) (FP.Core.decode FP.Core.b64 y.toNat))) := rfl
  have hqt : FP.Core.quotient FP.Core.b64 (.fin false c q) (.fin false b1 r) = FP.Core.roundRatio FP.Core.b64 (false != false) c b1 (q - r) := if_neg hb1
  rw [e1, d1, f1, hqt, hc]
  unfold FP.Core.roundRatio
  rw [if_pos rfl]
  decide
/-- what autocorrelation answers: +0.0, or a number of ordinary form below 2 -/
def acOk (x : UInt64) : Prop := x = FP.dconst0 ∨ ∃ s c q, dfin x s c q ∧ 2 ^ 52 ≤ c ∧ -193 ≤ q ∧ q ≤ -52
theorem ac_q0 {x y : UInt64} {sa : Bool} {A B : Nat} (hx : DV x sa (pw (-122) * A)) (h0 : A = 0 → sa = false) (hy : DV y false (pw (-122) * B)) (h2 : 2 * A ≤ 3 * B) (hB : 0 < B) (hB2 : B ≤ 2 ^ 139) : acOk (FP.ddiv x y) := by
  have hD := pw_pos (-122)
  rcases Nat.eq_zero_or_pos A with hA | hA
  · rw [hA] at hx
    rw [h0 hA] at hx
    exact Or.inl (fp_div0 (t := false) hx hy (Nat.mul_pos hD hB))
  · have e : pw (-1000) * 2 ^ 139 ≤ pw 0 := by
      have := pw_add (a := -1000) (n := 139) (by decide)
      rw [← this]
      exact pw_le (by decide)
    have e3 : 2 * pw 0 < pw 900 := by
      have := pw_lt9 (d := 0) (z := 2) (k := 1) (by decide) (by decide) (by decide)
      rw [Nat.mul_comm]
      exact this
    obtain ⟨c, q, d, c1, m1, m2⟩ := fp_div hx hy (Nat.mul_pos hD hA) (Nat.mul_pos hD hB) (by rw [← pw_0]; exact ac_h1 hB2 hA e) (by rw [← pw_0]; exact ac_h2 hD h2 hB e3)
    rw [← pw_0, Nat.mul_left_comm (c * pw q) (pw (-122)) B, Nat.mul_assoc (pw (-122)) A] at m1 m2
    have n1 := rnd_div hD m1
    have n2 := rnd_div2 hD m2
    have v1 := ac_div1 n1 h2 hB (pw_pos 0)
    have v2 := ac_div2 n2 hA hB2
    exact Or.inr ⟨_, c, q, d, c1, pw_q2 d.2.1 v2, pw_q1 c1 v1⟩
theorem smL_ge0 (s : List Nat) : ∀ (r i v : Nat), v ≤ smL s r i v
  | 0, i, v => Nat.le_refl _
  | r + 1, i, v => Nat.le_trans (Nat.le_add_right _ _) (smL_ge0 s r (i + 1) (v + s.getD i 0))
theorem smL_ge (s : List Nat) : ∀ (r i v j : Nat), i ≤ j → j < i + r → v + s.getD j 0 ≤ smL s r i v
  | 0, i, v, j, h1, h2 => by omega
  | r + 1, i, v, j, h1, h2 => by
    show v + s.getD j 0 ≤ smL s r (i + 1) (v + s.getD i 0)
    rcases Nat.eq_or_lt_of_le h1 with h | h
    · subst h
      exact smL_ge0 s r (i + 1) _
    · have := smL_ge s r (i + 1) (v + s.getD i 0) j (by omega) (by omega)
      omega
theorem smL_le {s : List Nat} (hb : bd s) : ∀ (r i v : Nat), smL s r i v ≤ v + 3 * r
  | 0, i, v => Nat.le_refl _
  | r + 1, i, v => by
    have h := smL_le hb r (i + 1) (v + s.getD i 0)
    have := bd_at hb i
    show smL s r (i + 1) (v + s.getD i 0) ≤ _
    omega
/-- all that is needed of the doubles -/
theorem ac_all {s : List Nat} (hb : bd s) (hL : s.length ≤ 256) {i j : Nat} (hi : i < s.length) (hj : j < s.length) (hij : s.getD i 0 ≠ s.getD j 0) : ∃ m, DV (acM s) false (pw (-61) * m) ∧ m ≤ 4 * 2 ^ 61 := by
  have a1 := smL_ge s s.length 0 0 i (Nat.zero_le _) (by omega)
  have a2 := smL_ge s s.length 0 0 j (Nat.zero_le _) (by omega)
  have a3 := smL_le hb s.length 0 0
  obtain ⟨v, hv, ⟨m, rfl⟩, v2⟩ := ac_m (s := s) (by omega) (by omega) hL
  refine ⟨m, hv, ?_⟩
  have e0 : pw 0 = pw (-61) * 2 ^ 61 := by
    have e : pw (-61 + ((61 : Nat) : Int)) = pw (-61) * 2 ^ 61 := pw_add (by decide)
    exact e
  rw [e0, Nat.mul_left_comm] at v2
  exact Nat.le_of_mul_le_mul_left v2 (pw_pos _)
theorem ac_ok {s : List Nat} (hb : bd s) (hL : s.length ≤ 256) {i j : Nat} (hi : i < s.length) (hj : j < s.length) (hij : s.getD i 0 ≠ s.getD j 0) (h : Nat) : acOk (acQ s h) := by
  obtain ⟨m, hm, m2⟩ := ac_all hb hL hi hj hij
  obtain ⟨sa, A, B, a1, a2, a3, a4, a5, a6⟩ := ac_sums hb hL hi hj hij hm m2 h
  unfold acQ
  have e : acL s h s.length 0 FP.dconst0 FP.dconst0 = acP s h (0 + s.length) := acL_P s h s.length 0
  rw [e, Nat.zero_add]
  exact ac_q0 a1 a2 a3 a4 a5 a6
theorem acQ_P (s : List Nat) (h : Nat) : FP.ddiv (acP s h s.length).1 (acP s h s.length).2 = acQ s h := by
  unfold acQ
  have e : acL s h s.length 0 FP.dconst0 FP.dconst0 = acP s h (0 + s.length) := acL_P s h s.length 0
  rw [e, Nat.zero_add]
theorem acOk.num {x : UInt64} (h : acOk x) : vf_n64 x := by
  rcases h with rfl | ⟨s, c, q, h, _⟩
  · exact dv_0.num
  · exact fp_num h
