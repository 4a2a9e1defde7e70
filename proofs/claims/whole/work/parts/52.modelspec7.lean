/-! the reference's Lyndon words, sorted -/
def szL (k b1 m1 b2 m2 : Nat) : Nat → Nat → Bool
  | 0, _ => decide (m1 < m2)
  | r + 1, i => if b1 / k ^ (m1 - 1 - i) % k = b2 / k ^ (m2 - 1 - i) % k then szL k b1 m1 b2 m2 r (i + 1) else decide (b1 / k ^ (m1 - 1 - i) % k < b2 / k ^ (m2 - 1 - i) % k)
def szB (k b1 m1 b2 m2 : Nat) : Bool := szL k b1 m1 b2 m2 (min m1 m2) 0
/-- the list lies backwards: its head is the greatest -/
def insR (k b m : Nat) : List (Nat × Nat) → List (Nat × Nat)
  | [] => [(b, m)]
  | y :: ys => if szB k b m y.1 y.2 then y :: insR k b m ys else (b, m) :: y :: ys
def ly1 (k m : Nat) : Nat → Nat → List (Nat × Nat) → List (Nat × Nat)
  | 0, _, rl => rl
  | r + 1, b, rl => ly1 k m r (b + 1) (if lynB k m b then insR k b m rl else rl)
def ly2 (k n : Nat) : Nat → Nat → List (Nat × Nat) → List (Nat × Nat)
  | 0, _, rl => rl
  | r + 1, m, rl => ly2 k n r (m + 1) (if n % m = 0 then ly1 k m (k ^ m) 0 rl else rl)
def lyR (k n : Nat) : List (Nat × Nat) := ly2 k n n 1 []
def wL (k b m : Nat) : Nat → Nat → List Nat
  | 0, _ => []
  | r + 1, j => b / k ^ (m - 1 - j) % k :: wL k b m r (j + 1)
def oL (k : Nat) (rl : List (Nat × Nat)) : Nat → Nat → List Nat
  | 0, _ => []
  | r + 1, i => wL k (rl.getD (rl.length - 1 - i) (0, 0)).1 (rl.getD (rl.length - 1 - i) (0, 0)).2 (rl.getD (rl.length - 1 - i) (0, 0)).2 0 ++ oL k rl r (i + 1)
theorem ly_all : cfgs.all (fun q => (oL q.1 (lyR q.1 q.2) (lyR q.1 q.2).length 0 == lyL q.1 (q.1 ^ (q.2 - 1)) q.2 (q.1 ^ q.2) 0) && decide ((lyR q.1 q.2).length ≤ 255)) = true := by decide +kernel
theorem ly_at {k n B T : Nat} (h : shp k n B T) : oL k (lyR k n) (lyR k n).length 0 = lyL k T n B 0 ∧ (lyR k n).length ≤ 255 := by
  obtain ⟨h1, rfl, rfl⟩ := h
  have h2 := by_cfg (P := fun a c => (oL a (lyR a c) (lyR a c).length 0 == lyL a (a ^ (c - 1)) c (a ^ c) 0) && decide ((lyR a c).length ≤ 255)) ly_all h1
  simp only [Bool.and_eq_true, decide_eq_true_eq, beq_iff_eq] at h2
  exact h2
theorem insR_len (k b m : Nat) : ∀ rl, (insR k b m rl).length = rl.length + 1
  | [] => rfl
  | y :: ys => by
    unfold insR
    split
    · simp [insR_len k b m ys]
    · simp
theorem ly1_len (k m : Nat) : ∀ r b rl, rl.length ≤ (ly1 k m r b rl).length
  | 0, _, _ => Nat.le_refl _
  | r + 1, b, rl => by
    unfold ly1
    refine Nat.le_trans ?_ (ly1_len k m r (b + 1) _)
    split
    · rw [insR_len]; omega
    · exact Nat.le_refl _
theorem ly2_len (k n : Nat) : ∀ r m rl, rl.length ≤ (ly2 k n r m rl).length
  | 0, _, _ => Nat.le_refl _
  | r + 1, m, rl => by
    unfold ly2
    refine Nat.le_trans ?_ (ly2_len k n r (m + 1) _)
    split
    · exact ly1_len k m _ _ _
    · exact Nat.le_refl _
def okR (k n : Nat) (rl : List (Nat × Nat)) : Prop := ∀ j, j < rl.length → 1 ≤ (rl.getD j (0, 0)).2 ∧ (rl.getD j (0, 0)).2 ≤ n ∧ (rl.getD j (0, 0)).1 < k ^ (rl.getD j (0, 0)).2
theorem insR_at {k b m : Nat} : ∀ {rl : List (Nat × Nat)} {c : Nat}, c ≤ rl.length → (∀ j, j < c → szB k b m (rl.getD j (0, 0)).1 (rl.getD j (0, 0)).2 = true) → (c = rl.length ∨ szB k b m (rl.getD c (0, 0)).1 (rl.getD c (0, 0)).2 = false) → ∀ i, (insR k b m rl).getD i (0, 0) = if i < c then rl.getD i (0, 0) else if i = c then (b, m) else rl.getD (i - 1) (0, 0)
  | [], c, hc, _, _, i => by
    have hc : c = 0 := by simpa using hc
    subst hc
    cases i with
    | zero => rfl
    | succ i => simp [insR]
  | y :: ys, c, hc, h1, h2, i => by
    cases c with
    | zero =>
      have h3 : szB k b m y.1 y.2 = false := by
        rcases h2 with h2 | h2
        · simp at h2
        · exact h2
      rw [insR, h3]
      cases i with
      | zero => rfl
      | succ i => simp
    | succ c =>
      have h3 : szB k b m y.1 y.2 = true := h1 0 (by omega)
      rw [insR, h3, if_pos rfl]
      have ih := insR_at (k := k) (b := b) (m := m) (rl := ys) (c := c) (by simpa using hc) (fun j hj => h1 (j + 1) (by omega)) (by
        rcases h2 with h2 | h2
        · exact Or.inl (by simpa using h2)
        · exact Or.inr h2)
      cases i with
      | zero => simp
      | succ i =>
        have ih := ih i
        rw [List.getD_eq_getElem?_getD, List.getElem?_cons_succ, ← List.getD_eq_getElem?_getD, ih]
        by_cases e1 : i < c
        · rw [if_pos e1, if_pos (by omega), List.getD_eq_getElem?_getD, List.getD_eq_getElem?_getD, List.getElem?_cons_succ]
        · rw [if_neg e1, if_neg (show ¬ i + 1 < c + 1 by omega)]
          by_cases e2 : i = c
          · rw [if_pos e2, if_pos (show i + 1 = c + 1 by omega)]
          · rw [if_neg e2, if_neg (show ¬ i + 1 = c + 1 by omega)]
            obtain ⟨i', rfl⟩ : ∃ i', i = i' + 1 := ⟨i - 1, by omega⟩
            rw [Nat.add_sub_cancel, Nat.add_sub_cancel, List.getD_eq_getElem?_getD, List.getD_eq_getElem?_getD, List.getElem?_cons_succ]
theorem okR_ins {k n b m : Nat} (hm1 : 1 ≤ m) (hm2 : m ≤ n) (hb : b < k ^ m) : ∀ {rl : List (Nat × Nat)}, okR k n rl → okR k n (insR k b m rl) := by
  have key : ∀ rl : List (Nat × Nat), (∀ q ∈ rl, 1 ≤ q.2 ∧ q.2 ≤ n ∧ q.1 < k ^ q.2) → ∀ q ∈ insR k b m rl, 1 ≤ q.2 ∧ q.2 ≤ n ∧ q.1 < k ^ q.2 := by
    intro rl
    induction rl with
    | nil => intro _ q hq; rw [insR, List.mem_singleton] at hq; subst hq; exact ⟨hm1, hm2, hb⟩
    | cons y ys ih =>
      intro h q hq
      rw [insR] at hq
      split at hq
      · rcases List.mem_cons.mp hq with e | e
        · exact h q (e ▸ List.mem_cons_self)
        · exact ih (fun q hq => h q (List.mem_cons_of_mem _ hq)) q e
      · rcases List.mem_cons.mp hq with e | e
        · subst e; exact ⟨hm1, hm2, hb⟩
        · exact h q e
  have conv : ∀ rl : List (Nat × Nat), okR k n rl → ∀ q ∈ rl, 1 ≤ q.2 ∧ q.2 ≤ n ∧ q.1 < k ^ q.2 := by
    intro rl h q hq
    obtain ⟨j, hj, e⟩ := List.getElem_of_mem hq
    have := h j hj
    rw [List.getD_eq_getElem?_getD, List.getElem?_eq_getElem hj, Option.getD_some, e] at this
    exact this
  intro rl h j hj
  refine key rl (conv rl h) _ ?_
  rw [List.getD_eq_getElem?_getD, List.getElem?_eq_getElem hj, Option.getD_some]
  exact List.getElem_mem hj
/-- the two rows hold the words, the least first -/
def lrp (fc fz : Nat → Int32) (rl : List (Nat × Nat)) : Prop := ∀ i, i < rl.length → fc i = nI (rl.getD (rl.length - 1 - i) (0, 0)).1 ∧ fz i = nI (rl.getD (rl.length - 1 - i) (0, 0)).2
/-- with a hole at a -/
def hol (a : Nat) (fc fz : Nat → Int32) (rl : List (Nat × Nat)) : Prop := ∀ i, i ≤ rl.length → i ≠ a → fc i = nI (rl.getD (if i < a then rl.length - 1 - i else rl.length - i) (0, 0)).1 ∧ fz i = nI (rl.getD (if i < a then rl.length - 1 - i else rl.length - i) (0, 0)).2
theorem hol_0 {fc fz : Nat → Int32} {rl : List (Nat × Nat)} (h : lrp fc fz rl) : hol rl.length fc fz rl := fun i h1 h2 => by
  rw [if_pos (by omega)]
  exact h i (by omega)
theorem hol_lo {a : Nat} {fc fz : Nat → Int32} {rl : List (Nat × Nat)} (h : hol (a + 1) fc fz rl) (ha : a < rl.length) : fc a = nI (rl.getD (rl.length - 1 - a) (0, 0)).1 ∧ fz a = nI (rl.getD (rl.length - 1 - a) (0, 0)).2 := by
  have := h a (by omega) (by omega)
  rw [if_pos (by omega)] at this
  exact this
theorem hol_s {a : Nat} {fc fz : Nat → Int32} {rl : List (Nat × Nat)} (h : hol (a + 1) fc fz rl) (ha : a < rl.length) : hol a (upd fc (a + 1) (nI (rl.getD (rl.length - 1 - a) (0, 0)).1)) (upd fz (a + 1) (nI (rl.getD (rl.length - 1 - a) (0, 0)).2)) rl := by
  intro i h1 h2
  unfold upd
  by_cases e : i = a + 1
  · subst e
    rw [if_pos rfl, if_pos rfl, if_neg (by omega), show rl.length - (a + 1) = rl.length - 1 - a by omega]
    exact ⟨rfl, rfl⟩
  · rw [if_neg e, if_neg e]
    have h3 := h i h1 e
    by_cases e2 : i < a
    · rw [if_pos (by omega)] at h3; rw [if_pos e2]; exact h3
    · rw [if_neg (by omega)] at h3; rw [if_neg e2]; exact h3
theorem hol_end {k b m a : Nat} {fc fz : Nat → Int32} {rl : List (Nat × Nat)} (h : hol a fc fz rl) (ha : a ≤ rl.length) (h1 : ∀ j, j < rl.length - a → szB k b m (rl.getD j (0, 0)).1 (rl.getD j (0, 0)).2 = true) (h2 : a = 0 ∨ szB k b m (rl.getD (rl.length - a) (0, 0)).1 (rl.getD (rl.length - a) (0, 0)).2 = false) : lrp (upd fc a (nI b)) (upd fz a (nI m)) (insR k b m rl) := by
  intro i hi
  have hl := insR_len k b m rl
  rw [hl] at hi ⊢
  have e := insR_at (k := k) (b := b) (m := m) (rl := rl) (c := rl.length - a) (by omega) h1 (h2.elim (fun h => Or.inl (by omega)) Or.inr) (rl.length + 1 - 1 - i)
  rw [e]
  unfold upd
  by_cases e1 : i = a
  · rw [if_pos e1, if_pos e1, if_neg (by omega), if_pos (by omega)]
    exact ⟨rfl, rfl⟩
  · rw [if_neg e1, if_neg e1]
    have h3 := h i (by omega) e1
    by_cases e2 : i < a
    · rw [if_pos e2] at h3
      rw [if_neg (by omega), if_neg (by omega), show rl.length + 1 - 1 - i - 1 = rl.length - 1 - i by omega]
      exact h3
    · rw [if_neg e2] at h3
      rw [if_pos (by omega), show rl.length + 1 - 1 - i = rl.length - i by omega]
      exact h3
theorem app_lt {z2 rest L : List Nat} {x : Nat} (h : z2 ++ (x :: rest) = L) (hL : L.length ≤ 256) : z2.length < 256 := by
  have := congrArg List.length h
  simp at this
  omega
theorem ly_room {k n m r r2 b : Nat} {rl1 : List (Nat × Nat)} (hl : lynB k m b = true) (h : ly2 k n r (m + 1) (ly1 k m (r2 + 1) b rl1) = lyR k n) (h255 : (lyR k n).length ≤ 255) : rl1.length < 255 := by
  have h9 := ly2_len k n r (m + 1) (ly1 k m (r2 + 1) b rl1)
  have h8 := ly1_len k m r2 (b + 1) (insR k b m rl1)
  rw [h] at h9
  have e : ly1 k m (r2 + 1) b rl1 = ly1 k m r2 (b + 1) (insR k b m rl1) := by rw [ly1, hl, if_pos rfl]
  rw [e] at h9
  rw [insR_len] at h8
  omega
