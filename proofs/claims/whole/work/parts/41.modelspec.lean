/-! the reference: long remainders -/
theorem lgc_lt (x y : Int64) : (lg_cmp x y).toInt < 0 ↔ x.toInt < y.toInt := by
  have h1 := z_lt (lg_cmp x y) 0
  have h2 := lg_cmp_lt x y
  rw [Int64.lt_iff_toInt_lt] at h2
  exact h1.symm.trans h2
theorem lgc_eq (x y : Int64) : (lg_cmp x y).toInt = 0 ↔ x.toInt = y.toInt := by
  have h1 := z_eq (lg_cmp x y) 0
  have h2 := lg_cmp_eq x y
  rw [← Int64.toInt_inj] at h2
  exact h1.symm.trans h2
theorem l_lo (x : Int64) : -9223372036854775808 ≤ x.toInt ∧ x.toInt < 9223372036854775808 := by
  have h1 := Int64.toInt_lt x
  have h2 := Int64.le_toInt x
  exact ⟨by simpa using h2, by simpa using h1⟩
theorem l_bm {z : Int} (h1 : -9223372036854775808 ≤ z) (h2 : z < 9223372036854775808) : z.bmod (2 ^ 64) = z := Int.bmod_eq_of_le (by omega) (by omega)
theorem lrm (x : Int64) {y : Nat} (hy : 0 < y) (hy2 : y < 2 ^ 31) : (x - x / lN y * lN y).toInt = x.toInt.tmod (y : Int) := by
  have hx := l_lo x
  have e1 := Int.mul_tdiv_add_tmod x.toInt (y : Int)
  have hb := tmod_bounds (a := x.toInt) (M := (y : Int)) (by omega)
  have hs : (0 ≤ x.toInt → 0 ≤ x.toInt.tdiv (y : Int) ∧ x.toInt.tdiv (y : Int) ≤ x.toInt ∧ 0 ≤ x.toInt.tmod (y : Int)) ∧ (x.toInt < 0 → x.toInt.tdiv (y : Int) ≤ 0 ∧ x.toInt ≤ x.toInt.tdiv (y : Int) ∧ x.toInt.tmod (y : Int) ≤ 0) := by
    refine ⟨fun h => ?_, fun h => ?_⟩
    · have h3 := Int.tmod_nonneg (y : Int) h
      have h4 := Int.tdiv_nonneg h (show (0 : Int) ≤ (y : Int) by omega)
      refine ⟨h4, ?_, h3⟩
      have h5 : x.toInt.tdiv (y : Int) * 1 ≤ x.toInt.tdiv (y : Int) * (y : Int) := Int.mul_le_mul_of_nonneg_left (by omega) h4
      rw [Int.mul_comm _ (y : Int)] at h5
      omega
    · have h3 := Int.tmod_nonneg (y : Int) (show 0 ≤ -x.toInt by omega)
      have h4 := Int.tdiv_nonneg (show 0 ≤ -x.toInt by omega) (show (0 : Int) ≤ (y : Int) by omega)
      rw [Int.neg_tmod] at h3
      rw [Int.neg_tdiv] at h4
      refine ⟨by omega, ?_, by omega⟩
      have h5 : (-x.toInt.tdiv (y : Int)) * 1 ≤ (-x.toInt.tdiv (y : Int)) * (y : Int) := Int.mul_le_mul_of_nonneg_left (by omega) h4
      rw [Int.mul_comm _ (y : Int), Int.mul_neg] at h5
      omega
  have hY : (lN y).toInt = (y : Int) := lN_toInt hy2
  have d1 : (x / lN y).toInt = x.toInt.tdiv (y : Int) := by
    rw [Int64.toInt_div, hY]
    exact l_bm (by omega) (by omega)
  have d2 : (x / lN y * lN y).toInt = (y : Int) * x.toInt.tdiv (y : Int) := by
    rw [Int64.toInt_mul, d1, hY, Int.mul_comm]
    exact l_bm (by omega) (by omega)
  rw [Int64.toInt_sub, d2, l_bm (by omega) (by omega)]
  omega
theorem l_xor (x : Int64) {y : Nat} (hy2 : y < 2 ^ 31) : (x ^^^ lN y).toInt < 0 ↔ x.toInt < 0 := by
  have hn : ∀ z : Int64, z.toInt < 0 ↔ z.toBitVec.msb = true := fun z => by rw [BitVec.msb_eq_toInt]; exact (decide_eq_true_iff).symm
  rw [hn, hn, Int64.toBitVec_xor, BitVec.msb_xor]
  have h : (lN y).toBitVec.msb = false := by
    cases hm : (lN y).toBitVec.msb with
    | false => rfl
    | true => have := (hn (lN y)).mpr hm; rw [lN_toInt hy2] at this; omega
  rw [h, Bool.xor_false]
theorem l_of {x : Int64} {n : Nat} (h : x.toInt = (n : Int)) (hn : n < 2 ^ 31) : x = lN n := Int64.toInt_inj.mp (by rw [h, lN_toInt hn])
theorem lf_a {x : Int64} {y : Nat} (hy : 0 < y) (hy2 : y < 2 ^ 31) (h : 0 ≤ x.toInt ∨ (x - x / lN y * lN y).toInt = 0) : x - x / lN y * lN y = lN (x.toInt % (y : Int)).toNat := by
  have h2 := Int.emod_nonneg x.toInt (b := (y : Int)) (by omega)
  have h3 := Int.emod_lt_of_pos x.toInt (b := (y : Int)) (by omega)
  apply l_of _ (by omega)
  rw [lrm x hy hy2] at h ⊢
  rw [Int.toNat_of_nonneg h2]
  by_cases h0 : 0 ≤ x.toInt
  · exact Int.tmod_eq_emod_of_nonneg h0
  · rw [fm_em (by omega) (by omega)]
    rcases h with h | h
    · exact absurd h h0
    · rw [if_pos h, h]
theorem lf_c {x : Int64} {y : Nat} (hy : 0 < y) (hy2 : y < 2 ^ 31) (h0 : x.toInt < 0) (h : ¬ (x - x / lN y * lN y).toInt = 0) : x - x / lN y * lN y + lN y = lN (x.toInt % (y : Int)).toNat := by
  have h2 := Int.emod_nonneg x.toInt (b := (y : Int)) (by omega)
  have h3 := Int.emod_lt_of_pos x.toInt (b := (y : Int)) (by omega)
  have hb := tmod_bounds (a := x.toInt) (M := (y : Int)) (by omega)
  apply l_of _ (by omega)
  rw [lrm x hy hy2] at h
  rw [Int64.toInt_add, lrm x hy hy2, lN_toInt hy2, l_bm (by omega) (by omega), Int.toNat_of_nonneg h2, fm_em (by omega) h0, if_neg h]
theorem i2l_toInt (x : Int32) : x.toInt64.toInt = x.toInt := Int32.toInt_toInt64 x
/-! rotations -/
def turnI (k T : Nat) : Nat → Nat → Nat
  | 0, b => b
  | i + 1, b => turnN k T (turnI k T i b)
theorem turnI_lt {k n B T b : Nat} (h : shp k n B T) (hb : b < B) : ∀ i, turnI k T i b < B
  | 0 => hb
  | i + 1 => turn_lt h (turnI_lt h hb i)
def allB (n : Nat) (p : Nat → Bool) : Bool := (List.range n).all p
theorem allB_at {n : Nat} {p : Nat → Bool} (h : allB n p = true) {i : Nat} (hi : i < n) : p i = true := List.all_eq_true.mp h i (List.mem_range.mpr hi)
theorem turn_all : cfgs.all (fun q => allB (q.1 ^ q.2) (fun b => decide (turnI q.1 (q.1 ^ (q.2 - 1)) q.2 b = b) && (lynB q.1 q.2 b == decide (lrN q.1 (q.1 ^ (q.2 - 1)) q.2 b = b ∧ rtN q.1 (q.1 ^ (q.2 - 1)) q.2 b = q.2)) && (leastB q.1 (q.1 ^ (q.2 - 1)) q.2 b == decide (lrN q.1 (q.1 ^ (q.2 - 1)) q.2 b = b)))) = true := by decide +kernel
theorem turn_at {k n B T b : Nat} (h : shp k n B T) (hb : b < B) : turnI k T n b = b ∧ lynB k n b = decide (lrN k T n b = b ∧ rtN k T n b = n) ∧ leastB k T n b = decide (lrN k T n b = b) := by
  obtain ⟨h1, rfl, rfl⟩ := h
  have h2 := by_cfg (P := fun a c => allB (a ^ c) (fun b => decide (turnI a (a ^ (c - 1)) c b = b) && (lynB a c b == decide (lrN a (a ^ (c - 1)) c b = b ∧ rtN a (a ^ (c - 1)) c b = c)) && (leastB a (a ^ (c - 1)) c b == decide (lrN a (a ^ (c - 1)) c b = b)))) turn_all h1
  have h3 := allB_at h2 hb
  simp only [Bool.and_eq_true, decide_eq_true_eq, beq_iff_eq] at h3
  exact ⟨h3.1.1, h3.1.2, h3.2⟩
theorem nthL_neg {q : Nat → Bool} {x : Int} (hx : x < 0) : ∀ r b c, nthL q x r b c = (-2)
  | 0, _, _ => rfl
  | r + 1, b, c => by
    unfold nthL
    split
    · rw [if_neg (by omega)]; exact nthL_neg hx r _ _
    · exact nthL_neg hx r _ _
/-! all letters equal -/
def cstL (s : List Nat) : Nat → Nat → Bool
  | 0, _ => true
  | r + 1, i => if s.getD i 0 = s.getD 0 0 then cstL s r (i + 1) else false
def cstB (s : List Nat) : Bool := cstL s s.length 0
theorem cstL_iff (s : List Nat) : ∀ r i, cstL s r i = true ↔ ∀ j, i ≤ j → j < i + r → s.getD j 0 = s.getD 0 0
  | 0, i => ⟨fun _ j h1 h2 => by omega, fun _ => rfl⟩
  | r + 1, i => by
    unfold cstL
    split
    · rename_i h
      rw [cstL_iff s r (i + 1)]
      refine ⟨fun q j h1 h2 => ?_, fun q j h1 h2 => q j (by omega) (by omega)⟩
      by_cases e : j = i
      · rw [e]; exact h
      · exact q j (by omega) (by omega)
    · rename_i h
      exact ⟨fun q => (by cases q), fun q => absurd (q i (by omega) (by omega)) h⟩
theorem repL_iff (s : List Nat) (a b : Nat) : ∀ r i, repL s a b r i = true ↔ ∀ j, i ≤ j → j < i + r → s.getD ((a + j) % s.length) 0 = s.getD ((b + j) % s.length) 0
  | 0, i => ⟨fun _ j h1 h2 => by omega, fun _ => rfl⟩
  | r + 1, i => by
    unfold repL
    split
    · rename_i h
      rw [repL_iff s a b r (i + 1)]
      refine ⟨fun q j h1 h2 => ?_, fun q j h1 h2 => q j (by omega) (by omega)⟩
      by_cases e : j = i
      · rw [e]; exact h
      · exact q j (by omega) (by omega)
    · rename_i h
      exact ⟨fun q => (by cases q), fun q => absurd (q i (by omega) (by omega)) h⟩
theorem cst_rep (s : List Nat) : cstB s = repB s 0 1 s.length := by
  have h : cstB s = true ↔ repB s 0 1 s.length = true := by
    unfold cstB repB
    rw [cstL_iff, repL_iff]
    refine ⟨fun q j h1 h2 => ?_, fun q j h1 h2 => ?_⟩
    · have hl : 0 < s.length := by omega
      exact (q ((0 + j) % s.length) (Nat.zero_le _) (by have := Nat.mod_lt (0 + j) hl; omega)).trans (q ((1 + j) % s.length) (Nat.zero_le _) (by have := Nat.mod_lt (1 + j) hl; omega)).symm
    · have key : ∀ i, i < s.length → s.getD i 0 = s.getD 0 0 := by
        intro i
        induction i with
        | zero => intro _; rfl
        | succ i ih =>
          intro hi
          have h3 := q i (Nat.zero_le _) (by omega)
          rw [Nat.zero_add, Nat.mod_eq_of_lt (by omega), Nat.mod_eq_of_lt (by omega), Nat.add_comm] at h3
          rw [← h3]; exact ih (by omega)
      exact key j (by omega)
  cases h1 : cstB s <;> cases h2 : repB s 0 1 s.length <;> simp_all
theorem turnI_p {k T b : Nat} : ∀ {i : Nat}, 1 ≤ i → turnN k T (turnI k T (i - 1) b) = turnI k T i b
  | 0, h => by omega
  | _ + 1, _ => rfl
