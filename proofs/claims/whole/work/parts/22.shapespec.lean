def shp (k n B T : Nat) : Prop := cfg k n ∧ B = k ^ n ∧ T = k ^ (n - 1)
theorem shp.f {k n B T : Nat} (h : shp k n B T) : 2 ≤ k ∧ k ≤ 4 ∧ 1 ≤ n ∧ n ≤ 6 ∧ B ≤ 256 ∧ 1 ≤ T ∧ B = T * k ∧ T ≤ 128 := by
  obtain ⟨⟨h1, h2, h3, h4, h5⟩, h6, h7⟩ := h
  have hT : 1 ≤ T := by rw [h7]; exact Nat.pos_of_ne_zero (fun e => by have := Nat.pow_pos (n := n - 1) (show 0 < k by omega); omega)
  have hBT : B = T * k := by
    obtain ⟨m, rfl⟩ : ∃ m, n = m + 1 := ⟨n - 1, by omega⟩
    rw [h6, h7, Nat.add_sub_cancel, Nat.pow_succ]
  refine ⟨h1, h2, h3, h4, by omega, hT, hBT, ?_⟩
  rcases (show k = 2 ∨ k = 3 ∨ k = 4 by omega) with rfl | rfl | rfl <;> omega
theorem z_nat {x : Int32} (h : 0 ≤ x.toInt) : ∃ j : Nat, j < 2 ^ 31 ∧ x = nI j := by
  have h3 : x.toInt < 2147483648 := by have := Int32.toInt_lt x; simpa using this
  refine ⟨x.toInt.toNat, by omega, ?_⟩
  apply (z_eq _ _).mpr
  rw [nI_toInt (by omega)]
  omega
theorem pow_small {a b : Nat} (h1 : a ≤ 4) (h2 : b ≤ 6) : a ^ b ≤ 4096 := Nat.le_trans (Nat.pow_le_pow_left h1 b) (Nat.le_trans (Nat.pow_le_pow_right (by decide) h2) (by decide))
def possB (x y : Int32) : Bool := decide (2 ≤ x.toInt ∧ x.toInt ≤ 4 ∧ 1 ≤ y.toInt ∧ y.toInt ≤ 6 ∧ x.toInt.toNat ^ y.toInt.toNat ≤ 256)
def codeL (k : Nat) (s : List Nat) : Nat → Nat → Nat → Nat
  | 0, _, c => c
  | r + 1, p, c => codeL k s r (p + 1) (c * k + s.getD (p % s.length) 0)
def codeN (k n : Nat) (s : List Nat) (j : Nat) : Nat := codeL k s n j 0
def turnN (k t w : Nat) : Nat := w % t * k + w / t
theorem turn_lt {k n B T w : Nat} (h : shp k n B T) (hw : w < B) : turnN k T w < B := by
  obtain ⟨h1, h2, h3, h4, h5, h6, h7, h8⟩ := h.f
  unfold turnN
  have a1 := Nat.mod_lt w (show 0 < T by omega)
  have a2 : w / T < k := Nat.div_lt_of_lt_mul (by omega)
  rcases (show k = 2 ∨ k = 3 ∨ k = 4 by omega) with rfl | rfl | rfl <;> omega
def leastL (k T b : Nat) : Nat → Nat → Bool
  | 0, _ => true
  | r + 1, t => if turnN k T t < b then false else leastL k T b r (turnN k T t)
def leastB (k T n b : Nat) : Bool := leastL k T b (n - 1) b
def lrL (k T : Nat) : Nat → Nat → Nat → Nat
  | 0, m, _ => m
  | r + 1, m, t => lrL k T r (min m (turnN k T t)) (turnN k T t)
def lrN (k T n b : Nat) : Nat := lrL k T (n - 1) b b
def rtL (k T n b : Nat) : Nat → Nat → Nat → Nat
  | 0, _, _ => n
  | r + 1, t, i => if turnN k T t = b then i else rtL k T n b r (turnN k T t) (i + 1)
def rtN (k T n b : Nat) : Nat := rtL k T n b (n - 1) b 1
def sucL (k T n u : Nat) : Nat → Nat → Nat
  | 0, t => t
  | r + 1, t => if leastB k T n (u * k + t) then t else sucL k T n u r (t + 1)
def sucT (k T n u : Nat) : Nat := sucL k T n u (k - 1) 1
def sucN (k T n b : Nat) : Nat := if sucT k T n (b % T) = k ∨ b / T < sucT k T n (b % T) - 1 then b / T else if b / T = k - 1 then sucT k T n (b % T) - 1 else b / T + 1
/-- the place of the i-th that holds, of those from b on -/
def nthL (q : Nat → Bool) (x : Int) : Nat → Nat → Nat → Int32
  | 0, _, _ => (-2)
  | r + 1, b, c => if q b then (if (c : Int) = x then nI b else nthL q x r (b + 1) (c + 1)) else nthL q x r (b + 1) c
def cntL (q : Nat → Bool) : Nat → Nat → Nat → Nat
  | 0, _, c => c
  | r + 1, b, c => if q b then cntL q r (b + 1) (c + 1) else cntL q r (b + 1) c
def lynL (k t w : Nat) : Nat → Nat → Bool
  | 0, _ => true
  | r + 1, u => if w < turnN k t u then lynL k t w r (turnN k t u) else false
def lynB (k len w : Nat) : Bool := lynL k (k ^ (len - 1)) w (len - 1) w
def facN : Nat → Nat
  | 0 => 1
  | n + 1 => (n + 1) * facN n
theorem suc_ended {k n B T b t : Nat} (h : shp k n B T) (hb : b < T) (ht : t < k) : b * k + t < B := by
  obtain ⟨h1, h2, h3, h4, h5, h6, h7, h8⟩ := h.f
  rcases (show k = 2 ∨ k = 3 ∨ k = 4 by omega) with rfl | rfl | rfl <;> omega
theorem dv_lt {k n B T b : Nat} (h : shp k n B T) (hb : b < B) : b / T < k := by
  obtain ⟨h1, h2, h3, h4, h5, h6, h7, h8⟩ := h.f
  exact Nat.div_lt_of_lt_mul (by omega)
theorem md_lt {k n B T : Nat} (h : shp k n B T) (b : Nat) : b % T < T := Nat.mod_lt b h.f.2.2.2.2.2.1
/-- the blocks of a shorter length are a shape too -/
theorem shp_sub {k n B T m : Nat} (h : shp k n B T) (h1 : 1 ≤ m) (h2 : m ≤ n) : shp k m (k ^ m) (k ^ (m - 1)) := by
  obtain ⟨⟨a1, a2, a3, a4, a5⟩, a6, a7⟩ := h
  exact ⟨⟨a1, a2, h1, by omega, Nat.le_trans (Nat.pow_le_pow_right (by omega) h2) a5⟩, rfl, rfl⟩
theorem cntL_le (q : Nat → Bool) : ∀ r b c, cntL q r b c ≤ c + r
  | 0, _, c => by simp [cntL]
  | r + 1, b, c => by
    unfold cntL
    split
    · have := cntL_le q r (b + 1) (c + 1); omega
    · have := cntL_le q r (b + 1) c; omega
theorem lrL_le (k T : Nat) : ∀ r m t, lrL k T r m t ≤ m
  | 0, m, _ => Nat.le_refl m
  | r + 1, m, t => Nat.le_trans (lrL_le k T r _ _) (Nat.min_le_left _ _)
