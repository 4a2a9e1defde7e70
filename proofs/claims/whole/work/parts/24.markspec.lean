theorem PP_arr {g : G5} {ws : va_W} {H : Heap} (hP : PP g ws H) (q : Nat) {b : Nat} {cA : ClassId} {n : Nat} {f f1 : Nat → Int32} (h : ws[q]? = some (b, .inl (cA, n, .inl f))) (e : ∀ i, i < n → f i = f1 i) : PP g (ws.set q (b, .inl (cA, n, .inl f1))) H := by
  have hc : vp_cell cA (n, .inl f) = vp_cell cA (n, .inl f1) := by
    rw [vp_cell_i, vp_cell_i]
    unfold arrV
    have e2 : (fun j : Fin n => Value.int (f j.val)) = (fun j : Fin n => Value.int (f1 j.val)) := by
      funext j
      rw [e j.val j.isLt]
    show ({ cls := cA, slots := Array.ofFn (fun j : Fin n => Value.int (f j.val)), vm := .none } : Cell) = _
    rw [e2]
  intro k w hk
  by_cases hkq : k = q
  · subst hkq
    rw [List.getElem?_set_self (List.getElem?_eq_some_iff.mp h).1] at hk
    cases hk
    have := hP k _ h
    show H[b]? = some (vp_cell cA (n, .inl f1))
    rw [← hc]
    exact this
  · rw [List.getElem?_set_ne (Ne.symm hkq)] at hk
    exact hP k w hk
/-- a row of booleans -/
def mf (q : Nat → Bool) : Nat → Int32 := fun i => bI (q i)
def qset (q : Nat → Bool) (b : Nat) : Nat → Bool := fun i => if i = b then true else q i
def qz : Nat → Bool := fun _ => false
theorem mf_set (q : Nat → Bool) (b : Nat) : upd (mf q) b (nI 1) = mf (qset q b) := by
  funext i
  unfold upd mf qset
  split
  · rfl
  · rfl
def firstL (q : Nat → Bool) : Nat → Nat → Option Nat
  | 0, _ => none
  | r + 1, i => if q i then some i else firstL q r (i + 1)
def oI (o : Option Nat) : Int32 := match o with
  | none => (-2)
  | some j => nI j
theorem firstL_some {q : Nat → Bool} : ∀ {r i j : Nat}, firstL q r i = some j → i ≤ j ∧ j < i + r ∧ q j = true
  | 0, i, j, h => by cases h
  | r + 1, i, j, h => by
    unfold firstL at h
    split at h
    · cases h; exact ⟨Nat.le_refl _, by omega, by assumption⟩
    · obtain ⟨a, b, c⟩ := firstL_some h; exact ⟨by omega, by omega, c⟩
abbrev eqC (k n : Nat) (s : List Nat) (b : Nat) : Nat → Bool := fun i => decide (codeN k n s i = b)
def fpO (k n : Nat) (s : List Nat) (b : Nat) : Option Nat := firstL (eqC k n s b) s.length 0
theorem fpO_lt {k n b j : Nat} {s : List Nat} (h : fpO k n s b = some j) : j < s.length := by
  have := firstL_some h; omega
def rpL (c : Nat → Nat) : Nat → Nat → (Nat → Bool) → Option Nat
  | 0, _, _ => none
  | r + 1, i, q => if q (c i) then some i else rpL c r (i + 1) (qset q (c i))
def lkL (c : Nat → Nat) : Nat → Nat → (Nat → Bool) → Nat → Bool
  | 0, _, q => q
  | r + 1, i, q => lkL c r (i + 1) (qset q (c i))
/-- the blocks that occur -/
def occ (k n : Nat) (s : List Nat) : Nat → Bool := lkL (codeN k n s) s.length 0 qz
def ltk (k : Nat) (s : List Nat) : Prop := ∀ x ∈ s, x < k
theorem ltk_at {k : Nat} {s : List Nat} (h : ltk k s) (hk : 0 < k) (i : Nat) : s.getD i 0 < k := by
  rw [List.getD_eq_getElem?_getD]
  by_cases hi : i < s.length
  · rw [List.getElem?_eq_getElem hi]; exact h _ (List.getElem_mem hi)
  · rw [List.getElem?_eq_none (by omega)]; exact hk
theorem ltk.bd {k : Nat} {s : List Nat} (h : ltk k s) (hk : k ≤ 4) : bd s := fun x hx => Nat.lt_of_lt_of_le (h x hx) hk
theorem codeL_lt {k : Nat} {s : List Nat} (h : ltk k s) (hk : 0 < k) : ∀ (r p c e : Nat), c < k ^ e → codeL k s r p c < k ^ (e + r)
  | 0, p, c, e, hc => hc
  | r + 1, p, c, e, hc => by
    unfold codeL
    have hx := ltk_at h hk (p % s.length)
    have h2 : c * k + s.getD (p % s.length) 0 < k ^ (e + 1) := by
      rw [Nat.pow_succ]
      calc c * k + s.getD (p % s.length) 0 < c * k + k := by omega
        _ = (c + 1) * k := by rw [Nat.succ_mul]
        _ ≤ k ^ e * k := Nat.mul_le_mul_right k hc
    have := codeL_lt h hk r (p + 1) _ (e + 1) h2
    rw [show e + (r + 1) = e + 1 + r by omega]
    exact this
theorem codeN_lt {k n B T : Nat} {s : List Nat} (hc : shp k n B T) (h : ltk k s) (j : Nat) : codeN k n s j < B := by
  have := codeL_lt h (by have := hc.f; omega) n j 0 0 (by simp)
  rw [hc.2.1]
  simpa [codeN] using this
def pmL (b m : Nat) : Nat → Nat → Nat
  | 0, v => v
  | r + 1, v => pmL b m r (v * b % m)
def cycN (k n T m : Nat) : Nat := pmL k m (T - n) (pmL (facN (k - 1)) m T 1)
theorem lN_ne0 {n : Nat} (h0 : 0 < n) (h : n < 2 ^ 31) : ¬ lN n = 0 := fun e => by
  have h1 := lN_toInt h
  rw [e] at h1
  have h2 : (0 : Int64).toInt = 0 := rfl
  omega
theorem fac_le {m : Nat} (h : m ≤ 3) : facN m ≤ 6 := by
  rcases (show m = 0 ∨ m = 1 ∨ m = 2 ∨ m = 3 by omega) with rfl | rfl | rfl | rfl <;> decide
theorem md_bd {v o m : Nat} (hm : 0 < m) : v * o % m < m := Nat.mod_lt _ hm
theorem mul_bd {v o m : Nat} (h1 : v < m) (h2 : m ≤ 1000000000) (h3 : o ≤ 6) : v * o < 9000000000 := by
  have := Nat.mul_le_mul (Nat.le_of_lt h1) h3
  omega
