/-! greedy: only the marks below B count -/
theorem gnL_cong {k n B T u : Nat} {q q' : Nat → Bool} (hc : shp k n B T) (hu : u < T) (h : ∀ j, j < B → q j = q' j) : ∀ r, r ≤ k → gnL q k u r = gnL q' k u r
  | 0, _ => rfl
  | r + 1, hr => by
    unfold gnL
    rw [h _ (suc_ended hc hu (by omega)), gnL_cong hc hu h r (by omega)]
theorem qset_cong {q q' : Nat → Bool} {B b : Nat} (h : ∀ j, j < B → q j = q' j) : ∀ j, j < B → qset q b j = qset q' b j := fun j hj => by
  unfold qset
  split
  · rfl
  · exact h j hj
theorem grL_cong {k n B T : Nat} (hc : shp k n B T) : ∀ (r u : Nat) (q q' : Nat → Bool), u < T → (∀ j, j < B → q j = q' j) → grL k T r u q = grL k T r u q'
  | 0, _, _, _, _, _ => rfl
  | r + 1, u, q, q', hu, h => by
    unfold grL
    rw [gnL_cong hc hu h k (Nat.le_refl k)]
    cases gnL q' k u k with
    | none => rfl
    | some x =>
      show x :: _ = x :: _
      rw [grL_cong hc r _ _ _ (md_lt hc _) (qset_cong h)]
def grE (k T : Nat) : Nat → Nat → (Nat → Bool) → Bool
  | 0, u, q => (gnL q k u k).isNone
  | r + 1, u, q => match gnL q k u k with
    | none => true
    | some x => grE k T r ((u * k + x) % T) (qset q (u * k + x))
theorem grE_cong {k n B T : Nat} (hc : shp k n B T) : ∀ (r u : Nat) (q q' : Nat → Bool), u < T → (∀ j, j < B → q j = q' j) → grE k T r u q = grE k T r u q'
  | 0, u, q, q', hu, h => by
    unfold grE
    rw [gnL_cong hc hu h k (Nat.le_refl k)]
  | r + 1, u, q, q', hu, h => by
    unfold grE
    rw [gnL_cong hc hu h k (Nat.le_refl k)]
    cases gnL q' k u k with
    | none => rfl
    | some x =>
      show grE _ _ _ _ _ = grE _ _ _ _ _
      rw [grE_cong hc r _ _ _ (md_lt hc _) (qset_cong h)]
theorem grE_all : cfgs.all (fun q => grE q.1 (q.1 ^ (q.2 - 1)) (q.1 ^ q.2) 0 qz) = true := by decide +kernel
theorem grE_end {k n B T : Nat} (hc : shp k n B T) : grE k T B 0 qz = true := by
  obtain ⟨h1, rfl, rfl⟩ := hc
  exact by_cfg (P := fun a c => grE a (a ^ (c - 1)) (a ^ c) 0 qz) grE_all h1
theorem grL_none {k T u : Nat} {q : Nat → Bool} (h : gnL q k u k = none) : ∀ r, grL k T r u q = []
  | 0 => rfl
  | r + 1 => by unfold grL; rw [h]
theorem gr_some {k T u t rr : Nat} {q : Nat → Bool} (h : gnL q k u k = some t) (he : grE k T rr u q = true) : ∃ r', rr = r' + 1 ∧ grL k T rr u q = t :: grL k T r' ((u * k + t) % T) (qset q (u * k + t)) ∧ grE k T r' ((u * k + t) % T) (qset q (u * k + t)) = true := by
  cases rr with
  | zero => unfold grE at he; rw [h] at he; cases he
  | succ r =>
    refine ⟨r, rfl, ?_, ?_⟩
    · rw [grL, h]
    · unfold grE at he; rw [h] at he; exact he
/-! cycles -/
def itF (si : Nat → Nat) : Nat → Nat → Nat
  | 0, x => x
  | t + 1, x => si (itF si t x)
theorem itF_add (si : Nat → Nat) (a : Nat) : ∀ b x, itF si (a + b) x = itF si b (itF si a x)
  | 0, _ => rfl
  | b + 1, x => congrArg si (itF_add si a b x)
theorem itF_lt {si : Nat → Nat} {B : Nat} (h : ∀ i, i < B → si i < B) {x : Nat} (hx : x < B) : ∀ t, itF si t x < B
  | 0 => hx
  | t + 1 => h _ (itF_lt h hx t)
theorem php : ∀ (B : Nat) (f : Nat → Nat), (∀ t, t ≤ B → f t < B) → ∃ u v, u < v ∧ v ≤ B ∧ f u = f v
  | 0, f, h => absurd (h 0 (Nat.le_refl 0)) (Nat.not_lt_zero _)
  | B + 1, f, h => by
    by_cases hx : ∃ u, u ≤ B ∧ f u = f (B + 1)
    · obtain ⟨u, h1, h2⟩ := hx
      exact ⟨u, B + 1, by omega, Nat.le_refl _, h2⟩
    · have hx : ∀ u, u ≤ B → f u ≠ f (B + 1) := fun u hu e => hx ⟨u, hu, e⟩
      have hl := h (B + 1) (Nat.le_refl _)
      obtain ⟨u, v, h1, h2, h3⟩ := php B (fun t => if f t = B then f (B + 1) else f t) (by
        intro t ht
        have a1 := h t (by omega)
        have a2 := hx t ht
        show (if f t = B then f (B + 1) else f t) < B
        split <;> omega)
      refine ⟨u, v, h1, by omega, ?_⟩
      have a1 := hx u (by omega)
      have a2 := hx v (by omega)
      have h3 : (if f u = B then f (B + 1) else f u) = (if f v = B then f (B + 1) else f v) := h3
      split at h3 <;> split at h3 <;> omega
/-- si maps what lies below B into itself, and two never to one -/
def pmB (B : Nat) (si : Nat → Nat) : Prop := (∀ i, i < B → si i < B) ∧ ∀ i j, i < B → j < B → si i = si j → i = j
theorem itF_inj {B : Nat} {si : Nat → Nat} (h : pmB B si) : ∀ t i j, i < B → j < B → itF si t i = itF si t j → i = j
  | 0, _, _, _, _, e => e
  | t + 1, i, j, hi, hj, e => itF_inj h t i j hi hj (h.2 _ _ (itF_lt h.1 hi t) (itF_lt h.1 hj t) e)
theorem itF_back {B : Nat} {si : Nat → Nat} (h : pmB B si) {i : Nat} (hi : i < B) : ∃ P, 1 ≤ P ∧ P ≤ B ∧ itF si P i = i := by
  obtain ⟨u, v, h1, h2, h3⟩ := php B (fun t => itF si t i) (fun t _ => itF_lt h.1 hi t)
  refine ⟨v - u, by omega, by omega, ?_⟩
  have h3 : itF si u i = itF si v i := h3
  rw [show v = (v - u) + u by omega, itF_add] at h3
  exact (itF_inj h u _ _ hi (itF_lt h.1 hi _) h3).symm
theorem itF_mul {si : Nat → Nat} {P i : Nat} (h : itF si P i = i) : ∀ m, itF si (P * m) i = i
  | 0 => rfl
  | m + 1 => by rw [Nat.mul_succ, itF_add, itF_mul h m, h]
theorem itF_sym {B : Nat} {si : Nat → Nat} (h : pmB B si) {i j u : Nat} (hi : i < B) (e : itF si u i = j) : ∃ v, itF si v j = i := by
  obtain ⟨P, h1, _, h2⟩ := itF_back h hi
  have h3 := itF_mul h2 u
  have h4 : u ≤ P * u := Nat.le_mul_of_pos_left u h1
  rw [show P * u = u + (P * u - u) by omega, itF_add, e] at h3
  exact ⟨_, h3⟩
theorem itF_trans {si : Nat → Nat} {i j l u v : Nat} (h1 : itF si u i = j) (h2 : itF si v j = l) : ∃ w, itF si w i = l := ⟨u + v, by rw [itF_add, h1, h2]⟩
/-- the first time that a place is reached -/
theorem itF_first {si : Nat → Nat} {i j : Nat} : ∀ u, itF si u i = j → ∃ v, itF si v i = j ∧ ∀ w, w < v → itF si w i ≠ j := by
  intro u
  induction u using Nat.strongRecOn with
  | ind u ih =>
    intro e
    by_cases hx : ∃ w, w < u ∧ itF si w i = j
    · obtain ⟨w, h1, h2⟩ := hx
      exact ih w h1 h2
    · exact ⟨u, e, fun w hw e2 => hx ⟨w, hw, e2⟩⟩
/-- labels tell the cycles -/
def LI (B : Nat) (si la : Nat → Nat) : Prop := pmB B si ∧ ∀ i j, i < B → j < B → (la i = la j ↔ ∃ u, itF si u i = j)
theorem swp_of {si : Nat → Nat} {x y i : Nat} (h1 : i ≠ x) (h2 : i ≠ y) : swp si x y i = si i := by
  unfold swp
  rw [if_neg h1, if_neg h2]
theorem swp_x {si : Nat → Nat} {x y : Nat} : swp si x y x = si y := by
  unfold swp
  rw [if_pos rfl]
theorem swp_y {si : Nat → Nat} {x y : Nat} (h : x ≠ y) : swp si x y y = si x := by
  unfold swp
  rw [if_neg (Ne.symm h), if_pos rfl]
theorem swp_pm {B x y : Nat} {si : Nat → Nat} (h : pmB B si) (hx : x < B) (hy : y < B) (hn : x ≠ y) : pmB B (swp si x y) := by
  obtain ⟨h1, h2⟩ := h
  have key : ∀ i, swp si x y i = si (if i = x then y else if i = y then x else i) := fun i => by
    unfold swp
    by_cases a : i = x
    · rw [if_pos a, if_pos a]
    · rw [if_neg a, if_neg a]
      by_cases b : i = y
      · rw [if_pos b, if_pos b]
      · rw [if_neg b, if_neg b]
  have kb : ∀ i, i < B → (if i = x then y else if i = y then x else i) < B := fun i hi => by
    split
    · exact hy
    · split
      · exact hx
      · exact hi
  refine ⟨fun i hi => by rw [key]; exact h1 _ (kb i hi), fun i j hi hj e => ?_⟩
  rw [key, key] at e
  have e2 := h2 _ _ (kb i hi) (kb j hj) e
  split at e2 <;> split at e2 <;> (try split at e2) <;> (try split at e2) <;> omega
theorem itF_same {si : Nat → Nat} {x y i : Nat} : ∀ u, (∀ w, w < u → itF si w i ≠ x ∧ itF si w i ≠ y) → itF (swp si x y) u i = itF si u i
  | 0, _ => rfl
  | u + 1, h => by
    show swp si x y (itF (swp si x y) u i) = si (itF si u i)
    rw [itF_same u (fun w hw => h w (by omega)), swp_of (h u (by omega)).1 (h u (by omega)).2]
theorem LI.lab {B : Nat} {si la : Nat → Nat} (h : LI B si la) {i : Nat} (hi : i < B) (u : Nat) : la (itF si u i) = la i := ((h.2 i _ hi (itF_lt h.1.1 hi u)).mpr ⟨u, rfl⟩).symm
theorem LI.swap {B x y : Nat} {si la : Nat → Nat} (h : LI B si la) (hx : x < B) (hy : y < B) (hn : la x ≠ la y) : LI B (swp si x y) (rlb la x y) := by
  have hxy : x ≠ y := fun e => hn (by rw [e])
  have hp := swp_pm h.1 hx hy hxy
  have l1 : ∀ i, i < B → rlb la x y (swp si x y i) = rlb la x y i := by
    intro i hi
    have ls := fun j hj => h.lab (i := j) hj 1
    by_cases a : i = x
    · subst a
      rw [swp_x]
      unfold rlb
      rw [show la (si y) = la y from ls y hy, if_pos rfl, if_neg hn]
    · by_cases b : i = y
      · subst b
        rw [swp_y hxy]
        unfold rlb
        rw [show la (si x) = la x from ls x hx, if_neg hn, if_pos rfl]
      · rw [swp_of a b]
        unfold rlb
        rw [show la (si i) = la i from ls i hi]
  have l2 : ∀ i, i < B → ∀ u, rlb la x y (itF (swp si x y) u i) = rlb la x y i := by
    intro i hi u
    induction u with
    | zero => rfl
    | succ u ih => exact (l1 _ (itF_lt hp.1 hi u)).trans ih
  have r1 : ∀ i, i < B → la i = la x → ∃ u, itF (swp si x y) u i = x := by
    intro i hi e
    obtain ⟨u, hu⟩ := (h.2 i x hi hx).mp e
    obtain ⟨v, hv, hm⟩ := itF_first u hu
    refine ⟨v, ?_⟩
    rw [itF_same v (fun w hw => ⟨hm w hw, fun e2 => hn ?_⟩)]
    · exact hv
    · rw [← e, ← h.lab hi w, e2]
  have r2 : ∀ i, i < B → la i = la y → ∃ u, itF (swp si x y) u i = y := by
    intro i hi e
    obtain ⟨u, hu⟩ := (h.2 i y hi hy).mp e
    obtain ⟨v, hv, hm⟩ := itF_first u hu
    refine ⟨v, ?_⟩
    rw [itF_same v (fun w hw => ⟨fun e2 => hn ?_, hm w hw⟩)]
    · exact hv
    · rw [← e, ← h.lab hi w, e2]
  have rxy : ∃ u, itF (swp si x y) u x = y := by
    obtain ⟨u, hu⟩ := r2 (si y) (h.1.1 y hy) (h.lab hy 1)
    have e : itF (swp si x y) 1 x = si y := swp_x
    exact itF_trans e hu
  have ry : ∀ i, i < B → la i = la x ∨ la i = la y → ∃ u, itF (swp si x y) u i = y := by
    intro i hi e
    rcases e with e | e
    · obtain ⟨u, hu⟩ := r1 i hi e
      obtain ⟨v, hv⟩ := rxy
      exact itF_trans hu hv
    · exact r2 i hi e
  refine ⟨hp, fun i j hi hj => ⟨fun e => ?_, fun ⟨u, hu⟩ => by rw [← hu, l2 i hi u]⟩⟩
  have e : (if la i = la y then la x else la i) = (if la j = la y then la x else la j) := e
  by_cases a : la i = la x ∨ la i = la y
  · have b : la j = la x ∨ la j = la y := by
      split at e <;> split at e <;> omega
    obtain ⟨u, hu⟩ := ry i hi a
    obtain ⟨v, hv⟩ := ry j hj b
    obtain ⟨w, hw⟩ := itF_sym hp hj hv
    exact itF_trans hu hw
  · have e3 : la i = la j := by
      split at e <;> split at e <;> omega
    obtain ⟨u, hu⟩ := (h.2 i j hi hj).mp e3
    refine ⟨u, ?_⟩
    rw [itF_same u (fun w hw => ⟨fun e2 => a (Or.inl ?_), fun e2 => a (Or.inr ?_)⟩)]
    · exact hu
    · rw [← h.lab hi w, e2]
    · rw [← h.lab hi w, e2]
theorem LI_jC {B x y : Nat} {st : (Nat → Nat) × (Nat → Nat)} (h : LI B st.1 st.2) (hx : x < B) (hy : y < B) : LI B (jC st x y).1 (jC st x y).2 := by
  unfold jC
  split
  · exact h
  · exact h.swap hx hy (by assumption)
/-! at the start: the turns -/
theorem turn0_all : cfgs.all (fun q => allB (q.1 ^ q.2) (fun b => decide (lrN q.1 (q.1 ^ (q.2 - 1)) q.2 (turnN q.1 (q.1 ^ (q.2 - 1)) b) = lrN q.1 (q.1 ^ (q.2 - 1)) q.2 b) && (List.range q.2).any (fun u => decide (itF (turnN q.1 (q.1 ^ (q.2 - 1))) u b = lrN q.1 (q.1 ^ (q.2 - 1)) q.2 b)) && decide (itF (turnN q.1 (q.1 ^ (q.2 - 1))) q.2 b = b))) = true := by decide +kernel
theorem turn0_at {k n B T b : Nat} (h : shp k n B T) (hb : b < B) : lrN k T n (turnN k T b) = lrN k T n b ∧ (∃ u, u < n ∧ itF (turnN k T) u b = lrN k T n b) ∧ itF (turnN k T) n b = b := by
  obtain ⟨h1, rfl, rfl⟩ := h
  have h2 := by_cfg (P := fun a c => allB (a ^ c) (fun b => decide (lrN a (a ^ (c - 1)) c (turnN a (a ^ (c - 1)) b) = lrN a (a ^ (c - 1)) c b) && (List.range c).any (fun u => decide (itF (turnN a (a ^ (c - 1))) u b = lrN a (a ^ (c - 1)) c b)) && decide (itF (turnN a (a ^ (c - 1))) c b = b))) turn0_all h1
  have h3 := allB_at h2 hb
  simp only [Bool.and_eq_true, decide_eq_true_eq, List.any_eq_true, List.mem_range] at h3
  exact ⟨h3.1.1, h3.1.2, h3.2⟩
theorem LI_start {k n B T : Nat} (hc : shp k n B T) : LI B (turnN k T) (lrN k T n) := by
  have hn : ∃ m, n = m + 1 := ⟨n - 1, by have := hc.f; omega⟩
  have lab : ∀ i, i < B → ∀ u, lrN k T n (itF (turnN k T) u i) = lrN k T n i := by
    intro i hi u
    induction u with
    | zero => rfl
    | succ u ih => exact (turn0_at hc (itF_lt (fun i hi => turn_lt hc hi) hi u)).1.trans ih
  have hp : pmB B (turnN k T) := by
    refine ⟨fun i hi => turn_lt hc hi, fun i j hi hj e => ?_⟩
    obtain ⟨m, hm⟩ := hn
    have a1 := (turn0_at hc hi).2.2
    have a2 := (turn0_at hc hj).2.2
    rw [hm, show m + 1 = 1 + m by omega, itF_add] at a1 a2
    rw [← a1, ← a2]
    exact congrArg (itF (turnN k T) m) e
  refine ⟨hp, fun i j hi hj => ⟨fun e => ?_, fun ⟨u, hu⟩ => by rw [← hu, lab i hi u]⟩⟩
  obtain ⟨u, _, hu⟩ := (turn0_at hc hi).2.1
  obtain ⟨v, _, hv⟩ := (turn0_at hc hj).2.1
  obtain ⟨w, hw⟩ := itF_sym hp hj hv
  exact itF_trans (hu.trans e) hw
theorem cyc_no {B x y t : Nat} {si la : Nat → Nat} (h : LI B si la) (hx : x < B) (hy : y < B) (hr : itF si t x = x) (hm : ∀ w, 1 ≤ w → w < t → itF si w x ≠ y) (hn : x ≠ y) (ht : 1 ≤ t) : ¬ la x = la y := by
  intro e
  obtain ⟨u, hu⟩ := (h.2 x y hx hy).mp e
  have h2 : itF si (u % t) x = y := by
    have h3 := itF_mul hr (u / t)
    rw [← Nat.div_add_mod u t, itF_add, h3] at hu
    exact hu
  have h4 := Nat.mod_lt u (show 0 < t by omega)
  rcases Nat.eq_zero_or_pos (u % t) with h5 | h5
  · rw [h5] at h2
    exact hn h2
  · exact hm _ h5 h4 h2
