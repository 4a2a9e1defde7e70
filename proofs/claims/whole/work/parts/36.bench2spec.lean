def revL (s : List Nat) : Nat → List Nat
  | 0 => []
  | r + 1 => s.getD r 0 :: revL s r
def comL (k : Nat) (s : List Nat) : Nat → Nat → List Nat
  | 0, _ => []
  | r + 1, i => (k - 1 - s.getD i 0) :: comL k s r (i + 1)
theorem revL_len (s : List Nat) : ∀ r, (revL s r).length = r
  | 0 => rfl
  | r + 1 => by simp [revL, revL_len s r]
theorem comL_len (k : Nat) (s : List Nat) : ∀ r i, (comL k s r i).length = r
  | 0, _ => rfl
  | r + 1, i => by simp [comL, comL_len k s r]
theorem ltk_nil {k : Nat} : ltk k [] := fun x h => absurd h List.not_mem_nil
theorem ltk_app {k : Nat} {a b : List Nat} (ha : ltk k a) (hb : ltk k b) : ltk k (a ++ b) := fun x h => (List.mem_append.mp h).elim (ha x) (hb x)
theorem ltk_cons {k x : Nat} {a : List Nat} (hx : x < k) (ha : ltk k a) : ltk k (x :: a) := fun y h => (List.mem_cons.mp h).elim (fun e => e ▸ hx) (ha y)
theorem ltk_one {k x : Nat} (hx : x < k) : ltk k [x] := ltk_cons hx ltk_nil
theorem ltk_set {k x j : Nat} {a : List Nat} (ha : ltk k a) (hx : x < k) : ltk k (a.set j x) := fun y h => by
  rcases List.mem_or_eq_of_mem_set h with h | h
  · exact ha y h
  · exact h ▸ hx
theorem ltk_part {k : Nat} {s : List Nat} (h : ltk k s) (hk : 0 < k) (i : Nat) : ∀ r t, ltk k (partL s i r t)
  | 0, _ => ltk_nil
  | r + 1, t => ltk_cons (ltk_at h hk _) (ltk_part h hk i r (t + 1))
theorem ltk_rev {k : Nat} {s : List Nat} (h : ltk k s) (hk : 0 < k) : ∀ r, ltk k (revL s r)
  | 0 => ltk_nil
  | r + 1 => ltk_cons (ltk_at h hk _) (ltk_rev h hk r)
theorem ltk_com {k : Nat} {s : List Nat} (hk : 0 < k) : ∀ r i, ltk k (comL k s r i)
  | 0, _ => ltk_nil
  | r + 1, i => ltk_cons (by omega) (ltk_com hk r (i + 1))
theorem ltk_gr {k T : Nat} : ∀ r u q, ltk k (grL k T r u q)
  | 0, _, _ => ltk_nil
  | r + 1, u, q => by
    unfold grL
    cases h : gnL q k u k with
    | none => exact ltk_nil
    | some x => exact ltk_cons (gnL_lt h).1 (ltk_gr r _ _)
theorem ltk_as {k n B T : Nat} (hc : shp k n B T) : ∀ c b, b < B → ltk k (asL k T c b)
  | 0, _, _ => ltk_nil
  | c + 1, b, hb => ltk_cons (dv_lt hc hb) (ltk_as hc c _ (suc_ended hc (md_lt hc b) (by have := hc.f; omega)))
theorem ltk_ly {k n B T : Nat} (hc : shp k n B T) : ∀ r b, b + r ≤ B → ltk k (lyL k T n r b)
  | 0, _, _ => ltk_nil
  | r + 1, b, hb => by
    unfold lyL
    refine ltk_app ?_ (ltk_ly hc r (b + 1) (by omega))
    split
    · exact ltk_as hc _ b (by omega)
    · exact ltk_nil
theorem ltk_ne {k n B T : Nat} (hc : shp k n B T) : ∀ r b, b < B → ltk k (neL k T n r b)
  | 0, _, _ => ltk_nil
  | r + 1, b, hb => ltk_cons (suc_lt hc hb) (ltk_ne hc r _ (suc_ended hc (md_lt hc b) (suc_lt hc hb)))
theorem ltk_out {k n B T : Nat} (hc : shp k n B T) {si : Nat → Nat} (hs : ∀ i, i < B → si i < B) : ∀ r b, b < B → ltk k (outL T si r b)
  | 0, _, _ => ltk_nil
  | r + 1, b, hb => ltk_cons (dv_lt hc hb) (ltk_out hc hs r _ (hs b hb))
theorem jIn_lt {k n B T u : Nat} (hc : shp k n B T) (hu : u < T) : ∀ r x st, x + r + 1 ≤ k → (∀ i, i < B → st.1 i < B) → ∀ i, i < B → (jIn T u r x st).1 i < B
  | 0, _, _, _, h => h
  | r + 1, x, st, hx, h => jIn_lt hc hu r (x + 1) _ (by omega) (jC_lt (la := st.2) h (hd_lt hc (by omega) hu) (hd_lt hc (by omega) hu))
theorem jOut_lt {k n B T p : Nat} (hc : shp k n B T) : ∀ (r j : Nat) (st : (Nat → Nat) × (Nat → Nat)), (∀ i, i < B → st.1 i < B) → ∀ i, i < B → (jOut k T p r j st).1 i < B
  | 0, _, _, h => h
  | r + 1, j, st, h => jOut_lt hc r (j + 1) _ (jIn_lt hc (md_lt hc _) (k - 1) 0 st (by have := hc.f; omega) h)
theorem joS_lt {k n B T p : Nat} (hc : shp k n B T) : ∀ i, i < B → (joS k T n p).1 i < B := jOut_lt hc T 0 _ (fun i hi => turn_lt hc hi)
theorem B_pos {k n B T : Nat} (hc : shp k n B T) : 0 < B := by
  obtain ⟨h1, h2, h3, h4, h5, h6, h7, h8⟩ := hc.f
  rw [h7]; exact Nat.mul_pos (by omega) (by omega)
theorem ltk_con {k n B T : Nat} (hc : shp k n B T) (kd p : Nat) : ltk k (conL k T n B kd p) := by
  have hB := B_pos hc
  unfold conL
  split
  · exact ltk_gr _ _ _
  · split
    · exact ltk_ly hc _ _ (by omega)
    · split
      · exact ltk_ne hc _ _ hB
      · exact ltk_out hc (joS_lt hc) _ _ hB
theorem con_len {k n B T : Nat} (hc : shp k n B T) (kd p : Nat) : (conL k T n B kd p).length ≤ B := by
  unfold conL
  split
  · exact grL_len _ _ _ _ _
  · split
    · exact Nat.le_of_eq (lyL_len hc)
    · split
      · exact Nat.le_of_eq (neL_len _ _ _ _ _)
      · exact Nat.le_of_eq (outL_len _ _ _ _)
def excL (s : List Nat) (a b c d : Nat) : List Nat := ([] : List Nat) ++ partL s 0 a 0 ++ partL s c (d - c) 0 ++ partL s b (c - b) 0 ++ partL s a (b - a) 0 ++ partL s d (s.length - d) 0
theorem excL_len {s : List Nat} {a b c d : Nat} (h1 : a < b) (h2 : b < c) (h3 : c < d) (h4 : d < s.length) : (excL s a b c d).length = s.length := by
  unfold excL
  simp only [List.length_append, List.length_nil, partL_len]
  omega
theorem ltk_exc {k : Nat} {s : List Nat} (h : ltk k s) (hk : 0 < k) (a b c d : Nat) : ltk k (excL s a b c d) :=
  ltk_app (ltk_app (ltk_app (ltk_app (ltk_app ltk_nil (ltk_part h hk _ _ _)) (ltk_part h hk _ _ _)) (ltk_part h hk _ _ _)) (ltk_part h hk _ _ _)) (ltk_part h hk _ _ _)
/-! tables -/
def a_readTable (ty : Int) (v : List Int32) (y : Int32) : Int32 := if ty = -1 then (-11) else if hasB y v.length then v.getD (xN y) 0 else (-13)
/-- exportTable: the answer and the table's elements -/
def expL (ty : Int) (s : List Nat) (y : Int32) : Nat → Nat → List Int32 → Int32 × List Int32
  | 0, _, v => (nI s.length, v)
  | r + 1, i, v => if 0 ≤ y.toInt + (i : Int) ∧ y.toInt + (i : Int) < (v.length : Int) then expL ty s y r (i + 1) (v.set (y.toInt + (i : Int)).toNat (nI ((if ty = 1 then 97 else 0) + s.getD i 0))) else ((-13), v)
theorem exp_has {y : Int32} {i L : Nat} (hi : i < 300) (hL : L ≤ 256) : hasB (y + nI i) L = decide (0 ≤ y.toInt + (i : Int) ∧ y.toInt + (i : Int) < (L : Int)) := by
  have h3 : y.toInt < 2147483648 := by have := Int32.toInt_lt y; simpa using this
  have h4 : -2147483648 ≤ y.toInt := by have := Int32.le_toInt y; simpa using this
  unfold hasB
  have e : (y + nI i).toInt = (y.toInt + (i : Int)).bmod (2 ^ 32) := by rw [Int32.toInt_add, nI_toInt (by omega)]
  rw [e]
  by_cases h : y.toInt + (i : Int) < 2147483648
  · rw [Int.bmod_eq_of_le (by omega) (by omega)]
  · have e2 : (y.toInt + (i : Int)).bmod (2 ^ 32) = y.toInt + (i : Int) - 4294967296 := by
      rw [Int.bmod_def]
      split <;> omega
    rw [e2]
    exact decide_eq_decide.mpr (by omega)
theorem exp_idx {y : Int32} {i L : Nat} (hi : i < 300) (hL : L ≤ 256) (h1 : 0 ≤ y.toInt + (i : Int)) (h2 : y.toInt + (i : Int) < (L : Int)) : y + nI i = nI (y.toInt + (i : Int)).toNat := by
  apply (z_eq _ _).mpr
  rw [Int32.toInt_add, nI_toInt (by omega), nI_toInt (by omega), Int.bmod_eq_of_le (by omega) (by omega)]
  omega
/-- importTable: the letters, or none -/
def impL (k : Nat) (b : Int) : List Int32 → Option (List Nat)
  | [] => some []
  | x :: v => if 0 ≤ x.toInt - b ∧ x.toInt - b < (k : Int) then (impL k b v).map (fun t => (x.toInt - b).toNat :: t) else none
theorem nar_let {ty : Int} {x b : Nat} (hx : x < 4) (hb : b = if ty = 1 then 97 else 0) : narT ty (nI (b + x)) = nI (b + x) := by
  unfold narT
  have h4 : x = 0 ∨ x = 1 ∨ x = 2 ∨ x = 3 := by omega
  subst hb
  split
  · rename_i h
    rw [if_neg (by omega)]
    rcases h4 with rfl | rfl | rfl | rfl <;> decide
  · split <;> exact ch_N (by omega)
