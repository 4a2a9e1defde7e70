/-! pattern -/
def repZ (f : Nat → Int32) (p : List Int) : Prop := ∀ i, i < p.length → f i = iI (p.getD i 0)
def okp (p : List Int) : Prop := ∀ i, -1 ≤ p.getD i 0 ∧ p.getD i 0 < 4
theorem repZ_nil {f : Nat → Int32} : repZ f [] := fun i h => absurd h (Nat.not_lt_zero i)
theorem repZ_add {f : Nat → Int32} {p : List Int} (h : repZ f p) (x : Int32) : repZ (upd f p.length x) (p ++ [x.toInt]) := by
  intro i hi
  simp only [List.length_append, List.length_cons, List.length_nil] at hi
  by_cases e : i = p.length
  · subst e; simp [upd, iI_self]
  · have hi2 : i < p.length := by omega
    simp [upd, e, h i hi2, List.getElem?_append_left hi2, List.getElem?_eq_getElem hi2]
def patL (s : List Nat) (p : List Int) (j : Nat) : Nat → Nat → Bool
  | 0, _ => true
  | r + 1, i => if p.getD i 0 = -1 ∨ p.getD i 0 = ((s.getD ((j + i) % s.length) 0 : Nat) : Int) then patL s p j r (i + 1) else false
def patB (s : List Nat) (p : List Int) (j : Nat) : Bool := patL s p j p.length 0
/-! command -/
theorem ch_N {x : Nat} (h : x < 65536) : ((nI x).toUInt32 % 65536).toInt32 = nI x := by
  rw [pk_char, pk_tn (by omega), Nat.mod_eq_of_lt h]
theorem ch_V {x : Nat} (h : x < 65536) : vp_nar .char (nI x) = nI x := by
  have h1 := pk_vc (nI x)
  rw [ch_N h] at h1
  exact h1
abbrev isCol (c : List Nat) : Nat → Bool := fun i => decide (c.getD i 0 = 58)
def ceN (c : List Nat) : Nat := (firstL (isCol c) c.length 0).getD c.length
def nmL (c : List Nat) : Nat → Nat → Nat → Int32
  | 0, _, v => nI v
  | r + 1, i, v => if 48 ≤ c.getD i 0 ∧ c.getD i 0 ≤ 57 then nmL c r (i + 1) (v * 10 + (c.getD i 0 - 48)) else (-1)
def paI (c : List Nat) : Int32 := if ceN c = c.length then 0 else if c.length - ceN c - 1 < 1 ∨ 3 < c.length - ceN c - 1 then (-1) else nmL c (c.length - (ceN c + 1)) (ceN c + 1) 0
theorem ceN_le (c : List Nat) : ceN c ≤ c.length := by
  unfold ceN
  cases h : firstL (isCol c) c.length 0 with
  | none => exact Nat.le_refl _
  | some j => have := firstL_some h; exact Nat.le_of_lt (by simpa using this.2.1)
def bch (c : List Nat) : Prop := ∀ i, c.getD i 0 < 127
/-! tables -/
def repT (f : Nat → Int32) (v : List Int32) : Prop := ∀ i, i < v.length → f i = v.getD i 0
def narT (ty : Int) (x : Int32) : Int32 := if ty = 0 then x.toInt8.toInt32 else (x.toUInt32 % 65536).toInt32
theorem repT_set {f : Nat → Int32} {v : List Int32} (h : repT f v) (j : Nat) (x : Int32) : repT (upd f j x) (v.set j x) := by
  intro i hi
  simp only [List.length_set] at hi
  by_cases e : i = j
  · subst e; simp [upd, List.getD_eq_getElem?_getD, hi]
  · simp [upd, e, h i hi, List.getD_eq_getElem?_getD, List.getElem?_set_ne (Ne.symm e)]
theorem repT_zero {f : Nat → Int32} {n : Nat} (h : ∀ i, i < n → f i = nI 0) : repT f (List.replicate n 0) := by
  intro i hi
  simp only [List.length_replicate] at hi
  rw [h i hi, List.getD_eq_getElem?_getD, List.getElem?_replicate_of_lt hi]
  rfl
/-! history: the rows in a ring, the newest behind 'next' -/
def hrep (nx : Nat) (fr fz : Nat → Int32) (h : List (List Nat)) : Prop := nx < 6 ∧ h.length ≤ 6 ∧ ∀ j, j < h.length → (h.getD j []).length ≤ 256 ∧ fz ((nx + 5 - j) % 6) = nI (h.getD j []).length ∧ ∀ t, t < (h.getD j []).length → fr ((nx + 5 - j) % 6 * 256 + t) = nI ((h.getD j []).getD t 0)
theorem hrep_nil {nx : Nat} {fr fz : Nat → Int32} (h : nx < 6) : hrep nx fr fz [] := ⟨h, by decide, fun j hj => absurd hj (Nat.not_lt_zero j)⟩
theorem hrep_add {nx nx1 : Nat} {fr fz f : Nat → Int32} {h : List (List Nat)} {s : List Nat} (H : hrep nx fr fz h) (hf : rep f s) (hs : s.length ≤ 256) (hn : nx1 = (nx + 1) % 6) : hrep nx1 (va_cpy f fr 0 (nx * 256) s.length) (upd fz nx (nI s.length)) ((s :: h).take 6) := by
  obtain ⟨h1, h2, h3⟩ := H
  refine ⟨by omega, by rw [List.length_take]; omega, fun j hj => ?_⟩
  have hj2 : j < 6 ∧ j < h.length + 1 := by rw [List.length_take, List.length_cons] at hj; omega
  cases j with
  | zero =>
    have e : (((s :: h).take 6).getD 0 []) = s := by simp
    rw [e]
    have e2 : (nx1 + 5 - 0) % 6 = nx := by omega
    rw [e2]
    refine ⟨hs, by simp [upd], fun t ht => ?_⟩
    rw [pk_cpy_in (by omega) (by omega), ← hf t ht]
    congr 1
    omega
  | succ j =>
    have e : (((s :: h).take 6).getD (j + 1) []) = h.getD j [] := by
      rw [List.getD_eq_getElem?_getD, List.getElem?_take, if_pos hj2.1, List.getElem?_cons_succ, List.getD_eq_getElem?_getD]
    rw [e]
    obtain ⟨a1, a2, a3⟩ := h3 j (by omega)
    have e2 : (nx1 + 5 - (j + 1)) % 6 = (nx + 5 - j) % 6 := by omega
    have e3 : (nx + 5 - j) % 6 ≠ nx := by omega
    rw [e2]
    refine ⟨a1, by rw [← a2]; simp [upd, e3], fun t ht => ?_⟩
    rw [pk_cpy_out, a3 t ht]
    omega
theorem hrep_pop {nx nx1 : Nat} {fr fz : Nat → Int32} {h : List (List Nat)} {s : List Nat} (H : hrep nx fr fz (s :: h)) (hn : nx1 = (nx + 5) % 6) : hrep nx1 fr fz h := by
  obtain ⟨h1, h2, h3⟩ := H
  refine ⟨by omega, by simp at h2; omega, fun j hj => ?_⟩
  have := h3 (j + 1) (by simp; omega)
  rw [List.getD_eq_getElem?_getD, List.getElem?_cons_succ, ← List.getD_eq_getElem?_getD] at this
  have hj2 : j < 5 := by simp at h2; omega
  have e2 : (nx1 + 5 - j) % 6 = (nx + 5 - (j + 1)) % 6 := by omega
  rw [e2]
  exact this
