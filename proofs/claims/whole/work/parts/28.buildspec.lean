/-! constructions, as the class makes them -/
def gnL (q : Nat → Bool) (k u : Nat) : Nat → Option Nat
  | 0 => none
  | c + 1 => if q (u * k + c) then gnL q k u c else some c
def grL (k T : Nat) : Nat → Nat → (Nat → Bool) → List Nat
  | 0, _, _ => []
  | r + 1, u, q => match gnL q k u k with
    | none => []
    | some x => x :: grL k T r ((u * k + x) % T) (qset q (u * k + x))
def asL (k T : Nat) : Nat → Nat → List Nat
  | 0, _ => []
  | c + 1, b => b / T :: asL k T c (b % T * k + 0)
def lyL (k T n : Nat) : Nat → Nat → List Nat
  | 0, _ => []
  | r + 1, b => (if leastB k T n b then asL k T (rtN k T n b) b else []) ++ lyL k T n r (b + 1)
def neL (k T n : Nat) : Nat → Nat → List Nat
  | 0, _ => []
  | r + 1, b => sucN k T n b :: neL k T n r (b % T * k + sucN k T n b)
def swp (si : Nat → Nat) (x y : Nat) : Nat → Nat := fun i => if i = x then si y else if i = y then si x else si i
def rlb (la : Nat → Nat) (x y : Nat) : Nat → Nat := fun i => if la i = la y then la x else la i
def jC (st : (Nat → Nat) × (Nat → Nat)) (x y : Nat) : (Nat → Nat) × (Nat → Nat) := if st.2 x = st.2 y then st else (swp st.1 x y, rlb st.2 x y)
def jIn (T u : Nat) : Nat → Nat → (Nat → Nat) × (Nat → Nat) → (Nat → Nat) × (Nat → Nat)
  | 0, _, st => st
  | r + 1, x, st => jIn T u r (x + 1) (jC st (x * T + u) ((x + 1) * T + u))
def jOut (k T p : Nat) : Nat → Nat → (Nat → Nat) × (Nat → Nat) → (Nat → Nat) × (Nat → Nat)
  | 0, _, st => st
  | r + 1, i, st => jOut k T p r (i + 1) (jIn T ((p + i) % T) (k - 1) 0 st)
def outL (T : Nat) (si : Nat → Nat) : Nat → Nat → List Nat
  | 0, _ => []
  | r + 1, b => b / T :: outL T si r (si b)
def joS (k T n p : Nat) : (Nat → Nat) × (Nat → Nat) := jOut k T p T 0 (turnN k T, lrN k T n)
def joL (k T n B p : Nat) : List Nat := outL T (joS k T n p).1 B 0
def conL (k T n B kind p : Nat) : List Nat := if kind = 0 then grL k T B 0 qz else if kind = 1 then lyL k T n B 0 else if kind = 2 then neL k T n B 0 else joL k T n B p
theorem gnL_lt {q : Nat → Bool} {k u x : Nat} : ∀ {c : Nat}, gnL q k u c = some x → x < c ∧ q (u * k + x) = false
  | 0, h => by cases h
  | c + 1, h => by
    unfold gnL at h
    split at h
    · obtain ⟨a, b⟩ := gnL_lt h; exact ⟨by omega, b⟩
    · cases h; exact ⟨by omega, by rename_i hq; simpa using hq⟩
theorem grL_len (k T : Nat) : ∀ r u q, (grL k T r u q).length ≤ r
  | 0, _, _ => Nat.le_refl 0
  | r + 1, u, q => by
    unfold grL
    cases gnL q k u k with
    | none => simp
    | some x => simp only [List.length_cons]; exact Nat.succ_le_succ (grL_len k T r _ _)
theorem asL_len (k T : Nat) : ∀ c b, (asL k T c b).length = c
  | 0, _ => rfl
  | c + 1, b => by simp [asL, asL_len k T c]
theorem neL_len (k T n : Nat) : ∀ r b, (neL k T n r b).length = r
  | 0, _ => rfl
  | r + 1, b => by simp [neL, neL_len k T n r]
theorem outL_len (T : Nat) (si : Nat → Nat) : ∀ r b, (outL T si r b).length = r
  | 0, _ => rfl
  | r + 1, b => by simp [outL, outL_len T si r]
theorem suc_lt {k n B T b : Nat} (h : shp k n B T) (hb : b < B) : sucN k T n b < k := by
  obtain ⟨h1, h2, h3, h4, h5, h6, h7, h8⟩ := h.f
  have ha := dv_lt h hb
  have ht : ∀ u r t, t + r = k → sucL k T n u r t ≤ k := by
    intro u r
    induction r with
    | zero => intro t ht; simp [sucL]; omega
    | succ r ih =>
      intro t ht
      unfold sucL
      split
      · omega
      · exact ih (t + 1) (by omega)
  have h9 := ht (b % T) (k - 1) 1 (by omega)
  unfold sucN
  unfold sucT
  split
  · exact ha
  · split <;> omega
theorem rt_le {k T n b : Nat} : ∀ {r t i : Nat}, i + r ≤ n → rtL k T n b r t i ≤ n
  | 0, _, _, _ => Nat.le_refl n
  | r + 1, t, i, h => by
    unfold rtL
    split
    · omega
    · exact rt_le (by omega)
/-- all possible shapes -/
def cfgs : List (Nat × Nat) := [(2, 1), (2, 2), (2, 3), (2, 4), (2, 5), (2, 6), (3, 1), (3, 2), (3, 3), (3, 4), (3, 5), (4, 1), (4, 2), (4, 3), (4, 4)]
theorem cfg_mem {k n : Nat} (h : cfg k n) : (k, n) ∈ cfgs := by
  obtain ⟨h1, h2, h3, h4, h5⟩ := h
  rcases (show k = 2 ∨ k = 3 ∨ k = 4 by omega) with rfl | rfl | rfl <;> rcases (show n = 1 ∨ n = 2 ∨ n = 3 ∨ n = 4 ∨ n = 5 ∨ n = 6 by omega) with rfl | rfl | rfl | rfl | rfl | rfl <;> first | (revert h5; decide) | decide
theorem by_cfg {P : Nat → Nat → Bool} (h : cfgs.all (fun q => P q.1 q.2) = true) {k n : Nat} (hc : cfg k n) : P k n = true := List.all_eq_true.mp h (k, n) (cfg_mem hc)
theorem lyL_len {k n B T : Nat} (h : shp k n B T) : (lyL k T n B 0).length = B := by
  have hc : cfgs.all (fun q => decide ((lyL q.1 (q.1 ^ (q.2 - 1)) q.2 (q.1 ^ q.2) 0).length = q.1 ^ q.2)) = true := by decide +kernel
  obtain ⟨h1, rfl, rfl⟩ := h
  exact of_decide_eq_true (by_cfg (P := fun a b => decide ((lyL a (a ^ (b - 1)) b (a ^ b) 0).length = a ^ b)) hc h1)
def rb (B : Nat) (f : Nat → Int32) (si : Nat → Nat) : Prop := ∀ i, i < B → f i = nI (si i)
theorem rb_set {B : Nat} {f : Nat → Int32} {si : Nat → Nat} (h : rb B f si) (j v : Nat) : rb B (upd f j (nI v)) (fun i => if i = j then v else si i) := by
  intro i hi
  unfold upd
  by_cases e : i = j
  · simp [e]
  · simp [e, h i hi]
theorem rb_start {f : Nat → Int32} {si : Nat → Nat} {i : Nat} (h : rb i f si) : rb (i + 1) (upd f i (nI (si i))) si := by
  intro j hj
  unfold upd
  by_cases e : j = i
  · simp [e]
  · simp [e, h j (by omega)]
theorem rb_swp {B x y : Nat} {f : Nat → Int32} {si : Nat → Nat} (h : rb B f si) : rb B (upd (upd f x (nI (si y))) y (nI (si x))) (swp si x y) := by
  intro i hi
  unfold upd swp
  by_cases e : i = y
  · subst e
    by_cases e2 : i = x
    · subst e2; simp
    · simp [e2]
  · by_cases e2 : i = x
    · subst e2; simp [e]
    · simp [e, e2, h i hi]
theorem jC_lt {B x y : Nat} {si la : Nat → Nat} (hs : ∀ i, i < B → si i < B) (hx : x < B) (hy : y < B) : ∀ i, i < B → (jC (si, la) x y).1 i < B := by
  intro i hi
  unfold jC
  split
  · exact hs i hi
  · show swp si x y i < B
    unfold swp
    split
    · exact hs y hy
    · split
      · exact hs x hx
      · exact hs i hi
theorem jC_lt2 {B x y : Nat} {si la : Nat → Nat} (hs : ∀ i, i < B → la i < B) (hx : x < B) : ∀ i, i < B → (jC (si, la) x y).2 i < B := by
  intro i hi
  unfold jC
  split
  · exact hs i hi
  · show rlb la x y i < B
    unfold rlb
    split
    · exact hs x hx
    · exact hs i hi
theorem hd_lt {k n B T x u : Nat} (h : shp k n B T) (hx : x < k) (hu : u < T) : x * T + u < B := by
  obtain ⟨h1, h2, h3, h4, h5, h6, h7, h8⟩ := h.f
  rcases (show k = 2 ∨ k = 3 ∨ k = 4 by omega) with rfl | rfl | rfl <;> rcases (show x = 0 ∨ x = 1 ∨ x = 2 ∨ x = 3 by omega) with rfl | rfl | rfl | rfl <;> omega
theorem lr_lt {k n B T b : Nat} (hb : b < B) : lrN k T n b < B := Nat.lt_of_le_of_lt (lrL_le k T _ _ _) hb
/-! statistics -/
def rsL (s : List Nat) (i : Nat) : Nat → Nat → Nat
  | 0, z => z
  | r + 1, z => if s.getD ((i + z) % s.length) 0 = s.getD i 0 then rsL s i r (z + 1) else z
def rsN (s : List Nat) (i : Nat) : Nat := rsL s i (s.length - 1) 1
theorem rsL_le (s : List Nat) (i : Nat) : ∀ r z, rsL s i r z ≤ z + r
  | 0, z => Nat.le_refl z
  | r + 1, z => by
    unfold rsL
    split
    · have := rsL_le s i r (z + 1); omega
    · omega
abbrev runQ (s : List Nat) (l m : Nat) : Nat → Bool := fun i => decide (s.getD i 0 = l ∧ ¬ s.getD ((i + s.length - 1) % s.length) 0 = l ∧ rsN s i = m)
def runsN (s : List Nat) (l m : Nat) : Nat := if repB s 0 1 s.length then (if (atI s (nI 0)).toInt = (l : Int) ∧ s.length = m then 1 else 0) else cntL (runQ s l m) s.length 0 0
theorem arI_p {s : List Nat} {i : Nat} (h0 : 0 < s.length) (hs : s.length ≤ 256) (hi : i < s.length) : arI s (iI ((i : Int) - 1)) = nI (s.getD ((i + s.length - 1) % s.length) 0) := by
  unfold arI
  rw [if_neg (by omega), iI_toInt (by omega) (by omega)]
  congr 2
  rcases Nat.eq_zero_or_pos i with rfl | hp
  · have e : ((0 : Nat) : Int) - 1 = ((s.length - 1 : Nat) : Int) - (s.length : Int) := by omega
    rw [e, Int.sub_emod_right, ← Int.natCast_emod, Int.toNat_natCast, Nat.zero_add]
  · have e : (i : Int) - 1 = ((i - 1 : Nat) : Int) := by omega
    rw [e, ← Int.natCast_emod, Int.toNat_natCast]
    rw [show i + s.length - 1 = (i - 1) + s.length by omega, Nat.add_mod_right]
def spL (s : List Nat) (l k : Nat) : Nat → Nat → Int → Int → Int → Int
  | 0, _, _, lo, hi => hi - lo
  | r + 1, i, d, lo, hi => spL s l k r (i + 1) (d + (if s.getD i 0 = l then (k : Int) - 1 else -1)) (min lo (d + (if s.getD i 0 = l then (k : Int) - 1 else -1))) (max hi (d + (if s.getD i 0 = l then (k : Int) - 1 else -1)))
def smL (s : List Nat) : Nat → Nat → Nat → Nat
  | 0, _, v => v
  | r + 1, i, v => smL s r (i + 1) (v + s.getD i 0)
theorem oI_cases (o : Option Nat) : (o = none ∧ oI o = (-2)) ∨ ∃ x, o = some x ∧ oI o = nI x := by
  cases o with
  | none => exact Or.inl ⟨rfl, rfl⟩
  | some x => exact Or.inr ⟨x, rfl, rfl⟩
theorem md_wrap {p i T : Nat} (hp : p < T) (hi : i < T) {z : Nat} (hz : (p + i < T ∧ z = p + i) ∨ (T ≤ p + i ∧ z = p + i - T)) : z = (p + i) % T := by
  rcases hz with ⟨h, rfl⟩ | ⟨h, rfl⟩
  · exact (Nat.mod_eq_of_lt h).symm
  · rw [Nat.mod_eq_sub_mod h, Nat.mod_eq_of_lt (by omega)]
theorem rl_eq {B i x y : Nat} {la : Nat → Nat} {f1 : Nat → Int32} (hz : ∀ j, j < B → f1 j = nI (if j < i ∧ la j = la y then la x else la j)) (hla : ∀ i, i < B → la i < B) (hly : la y < B) (hB : B ≤ 256) (e : (f1 i).toInt = ((la y : Nat) : Int)) : ∀ j, j < B → upd f1 i (nI (la x)) j = nI (if j < i + 1 ∧ la j = la y then la x else la j) := by
  intro j hj
  unfold upd
  by_cases h : j = i
  · subst h
    have h2 := hz j hj
    rw [if_neg (by omega)] at h2
    rw [h2, nI_toInt (by have := hla j hj; omega)] at e
    rw [if_pos rfl, if_pos ⟨by omega, by omega⟩]
  · rw [if_neg h, hz j hj]
    congr 1
    have : (j < i ∧ la j = la y) ↔ (j < i + 1 ∧ la j = la y) := by omega
    simp only [this]
theorem rl_ne {B i x y : Nat} {la : Nat → Nat} {f1 : Nat → Int32} (hz : ∀ j, j < B → f1 j = nI (if j < i ∧ la j = la y then la x else la j)) (hla : ∀ i, i < B → la i < B) (hly : la y < B) (hB : B ≤ 256) (e : ¬ (f1 i).toInt = ((la y : Nat) : Int)) : ∀ j, j < B → f1 j = nI (if j < i + 1 ∧ la j = la y then la x else la j) := by
  intro j hj
  by_cases h : j = i
  · subst h
    have h2 := hz j hj
    rw [if_neg (by omega)] at h2
    rw [h2, nI_toInt (by have := hla j hj; omega)] at e
    rw [h2, if_neg (by omega)]
  · rw [hz j hj]
    congr 1
    have : (j < i ∧ la j = la y) ↔ (j < i + 1 ∧ la j = la y) := by omega
    simp only [this]
