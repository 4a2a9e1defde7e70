/-! the words of the specification -/
/-- a possible alphabet and order -/
def cfg (k n : Nat) : Prop := 2 ≤ k ∧ k ≤ 4 ∧ 1 ≤ n ∧ n ≤ 6 ∧ k ^ n ≤ 256
/-- a row holds the letters of a word -/
def rep (f : Nat → Int32) (s : List Nat) : Prop := ∀ i, i < s.length → f i = nI (s.getD i 0)
/-- an int that is a place among n -/
def hasB (x : Int32) (n : Nat) : Bool := decide (0 ≤ x.toInt ∧ x.toInt < (n : Int))
def atI (s : List Nat) (x : Int32) : Int32 := if hasB x s.length then nI (s.getD x.toInt.toNat 0) else (-2)
def arI (s : List Nat) (x : Int32) : Int32 := if s.length < 1 then (-2) else nI (s.getD (x.toInt % (s.length : Int)).toNat 0)
theorem hasB_N {j n : Nat} (hj : j < 2 ^ 31) : hasB (nI j) n = decide (j < n) := by
  unfold hasB
  rw [nI_toInt hj]
  by_cases h : j < n
  · rw [decide_eq_true h]; exact decide_eq_true ⟨by omega, by omega⟩
  · rw [decide_eq_false h]; exact decide_eq_false (fun q => h (by omega))
theorem hasB_t {x : Int32} {n : Nat} (h : hasB x n = true) : ∃ j : Nat, j < n ∧ x = nI j := by
  unfold hasB at h
  obtain ⟨h1, h2⟩ := of_decide_eq_true h
  refine ⟨x.toInt.toNat, by omega, ?_⟩
  apply (z_eq _ _).mpr
  have h3 : x.toInt < 2147483648 := by have := Int32.toInt_lt x; simpa using this
  rw [nI_toInt (by omega)]
  omega
theorem atI_N {s : List Nat} {j : Nat} (h : j < s.length) (hs : s.length < 2 ^ 31) : atI s (nI j) = nI (s.getD j 0) := by
  unfold atI
  rw [hasB_N (by omega), decide_eq_true h, if_pos rfl, nI_toInt (by omega)]
  rfl
theorem arI_N {s : List Nat} {j : Nat} (h : 0 < s.length) (hj : j < 2 ^ 31) : arI s (nI j) = nI (s.getD (j % s.length) 0) := by
  unfold arI
  rw [if_neg (by omega), nI_toInt hj]
  congr 2
theorem rep_nil {f : Nat → Int32} : rep f [] := fun i h => absurd h (Nat.not_lt_zero i)
theorem rep_add {f : Nat → Int32} {s : List Nat} (h : rep f s) (x : Nat) : rep (upd f s.length (nI x)) (s ++ [x]) := by
  intro i hi
  simp only [List.length_append, List.length_cons, List.length_nil] at hi
  by_cases e : i = s.length
  · subst e; simp [upd]
  · have hi2 : i < s.length := by omega
    simp [upd, e, h i hi2, List.getElem?_append_left hi2, List.getElem?_eq_getElem hi2]
theorem rep_set {f : Nat → Int32} {s : List Nat} (h : rep f s) (j x : Nat) : rep (upd f j (nI x)) (s.set j x) := by
  intro i hi
  simp only [List.length_set] at hi
  by_cases e : i = j
  · subst e; simp [upd, List.getD_eq_getElem?_getD, hi]
  · simp [upd, e, h i hi, List.getD_eq_getElem?_getD, List.getElem?_set_ne (Ne.symm e)]
theorem rep_at {f : Nat → Int32} {s : List Nat} (h : rep f s) {i : Nat} (hi : i < s.length) : f i = nI (s.getD i 0) := h i hi
/-- letters are small -/
def bd (s : List Nat) : Prop := ∀ x ∈ s, x < 4
theorem bd_at {s : List Nat} (h : bd s) (i : Nat) : s.getD i 0 < 4 := by
  rw [List.getD_eq_getElem?_getD]
  by_cases hi : i < s.length
  · rw [List.getElem?_eq_getElem hi]; exact h _ (List.getElem_mem hi)
  · rw [List.getElem?_eq_none (by omega)]; decide
def repL (s : List Nat) (i j : Nat) : Nat → Nat → Bool
  | 0, _ => true
  | r + 1, t => if s.getD ((i + t) % s.length) 0 = s.getD ((j + t) % s.length) 0 then repL s i j r (t + 1) else false
def repB (s : List Nat) (i j c : Nat) : Bool := repL s i j c 0
def sameL (s z : List Nat) : Nat → Nat → Bool
  | 0, _ => true
  | r + 1, t => if s.getD t 0 = z.getD t 0 then sameL s z r (t + 1) else false
def sameB (s z : List Nat) : Bool := if s.length = z.length then sameL s z s.length 0 else false
def partL (s : List Nat) (i : Nat) : Nat → Nat → List Nat
  | 0, _ => []
  | r + 1, t => s.getD ((i + t) % s.length) 0 :: partL s i r (t + 1)
theorem partL_len (s : List Nat) (i : Nat) : ∀ r t, (partL s i r t).length = r
  | 0, _ => rfl
  | r + 1, t => by simp [partL, partL_len s i r (t + 1)]
theorem rep_eq {f : Nat → Int32} {s z : List Nat} (h : rep f s) (e : s = z) : rep f z := e ▸ h
/-! floorMod -/
theorem fm_rem (x : Int32) {y : Nat} (hy : 0 < y) (hy2 : y < 2 ^ 31) : x - x / nI y * nI y = iI (x.toInt.tmod (y : Int)) := by
  have h := rem_toInt x (nI y)
  rw [nI_toInt hy2] at h
  rw [← h, iI_self]
theorem fm_a {x : Int32} {y : Nat} (hy : 0 < y) (hy2 : y < 2 ^ 31) (h : 0 ≤ x.toInt) : x - x / nI y * nI y = iI (x.toInt % (y : Int)) := by
  rw [fm_rem x hy hy2, Int.tmod_eq_emod_of_nonneg h]
theorem fm_em {a M : Int} (hM : 0 < M) (h : a < 0) : a % M = if a.tmod M = 0 then 0 else a.tmod M + M := by
  have h1 := Int.mul_tdiv_add_tmod a M
  have hb := tmod_bounds (a := a) hM
  have hneg : a.tmod M ≤ 0 := by
    have := Int.tmod_nonneg (a := -a) M (by omega)
    rw [Int.neg_tmod] at this; omega
  have key : ∀ z, 0 ≤ z → z < M → (∃ q : Int, a = z + M * q) → a % M = z := by
    intro z h2 h3 ⟨q, hq⟩
    rw [hq, Int.add_mul_emod_self_left]
    exact Int.emod_eq_of_lt h2 h3
  split
  · exact key 0 (by omega) hM ⟨a.tdiv M, by omega⟩
  · refine key _ (by omega) (by omega) ⟨a.tdiv M - 1, ?_⟩
    rw [Int.mul_sub, Int.mul_one]; omega
theorem fm_b {x : Int32} {y : Nat} (hy : 0 < y) (hy2 : y < 2 ^ 31) (h : (x - x / nI y * nI y).toInt = 0) : x - x / nI y * nI y = iI (x.toInt % (y : Int)) := by
  by_cases h0 : 0 ≤ x.toInt
  · exact fm_a hy hy2 h0
  · have hM : (0 : Int) < (y : Int) := by omega
    have hb := tmod_bounds (a := x.toInt) hM
    rw [fm_rem x hy hy2] at h ⊢
    rw [iI_toInt (by omega) (by omega)] at h
    rw [fm_em hM (by omega), h, if_pos rfl]
theorem fm_c {x : Int32} {y : Nat} (hy : 0 < y) (hy2 : y < 2 ^ 31) (h0 : x.toInt < 0) (h : ¬ (x - x / nI y * nI y).toInt = 0) : x - x / nI y * nI y + nI y = iI (x.toInt % (y : Int)) := by
  have hM : (0 : Int) < (y : Int) := by omega
  have hb := tmod_bounds (a := x.toInt) hM
  rw [fm_rem x hy hy2] at h ⊢
  rw [iI_toInt (by omega) (by omega)] at h
  rw [fm_em hM h0, if_neg h, nI_iI, iI_add]
theorem fm_neg (x : Int32) : x.toInt < 0 ↔ x.toBitVec.msb = true := by
  rw [BitVec.msb_eq_toInt]; exact (decide_eq_true_iff).symm
theorem fm_xor (x : Int32) {y : Nat} (hy2 : y < 2 ^ 31) : (x ^^^ nI y).toInt < 0 ↔ x.toInt < 0 := by
  rw [fm_neg, fm_neg, Int32.toBitVec_xor, BitVec.msb_xor]
  have h : (nI y).toBitVec.msb = false := by
    cases hm : (nI y).toBitVec.msb with
    | false => rfl
    | true => have := (fm_neg (nI y)).mpr hm; rw [nI_toInt hy2] at this; omega
  rw [h, Bool.xor_false]
theorem fm_N {x : Int} {n : Nat} (h : 0 < n) : iI (x % (n : Int)) = nI (x % (n : Int)).toNat := by
  have h1 := Int.emod_nonneg x (b := (n : Int)) (by omega)
  rw [nI_iI]; congr 1; omega
theorem fm_lt {x : Int} {n : Nat} (h : 0 < n) : (x % (n : Int)).toNat < n := by
  have h1 := Int.emod_nonneg x (b := (n : Int)) (by omega)
  have h2 := Int.emod_lt_of_pos x (b := (n : Int)) (by omega)
  omega
theorem bt {b : Bool} (h : b = true) : nI 1 = bI b := by rw [h]; rfl
theorem bf {b : Bool} (h : b = false) : nI 0 = bI b := by rw [h]; rfl
