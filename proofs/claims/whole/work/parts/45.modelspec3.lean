/-! the reference's history: row e holds the (length - 1 - e)-th newest -/
def hrm (fe fl : Nat → Int32) (h : List (List Nat)) : Prop := h.length ≤ 6 ∧ ∀ j, j < h.length → (h.getD j []).length ≤ 256 ∧ fl (h.length - 1 - j) = nI (h.getD j []).length ∧ ∀ t, t < (h.getD j []).length → fe (256 * (h.length - 1 - j) + t) = nI ((h.getD j []).getD t 0)
theorem hrm_nil {fe fl : Nat → Int32} : hrm fe fl [] := ⟨by decide, fun j hj => absurd hj (Nat.not_lt_zero j)⟩
theorem hrm_pop {fe fl : Nat → Int32} {h : List (List Nat)} {s : List Nat} (H : hrm fe fl (s :: h)) : hrm fe fl h := by
  obtain ⟨h2, h3⟩ := H
  simp only [List.length_cons] at h2 h3
  refine ⟨by omega, fun j hj => ?_⟩
  have := h3 (j + 1) (by omega)
  rw [List.getD_eq_getElem?_getD, List.getElem?_cons_succ, ← List.getD_eq_getElem?_getD, show h.length + 1 - 1 - (j + 1) = h.length - 1 - j by omega] at this
  exact this
theorem hrm_top {fe fl : Nat → Int32} {h : List (List Nat)} {s : List Nat} (H : hrm fe fl (s :: h)) : s.length ≤ 256 ∧ fl h.length = nI s.length ∧ ∀ t, t < s.length → fe (256 * h.length + t) = nI (s.getD t 0) := by
  have := H.2 0 (by simp)
  simpa using this
theorem hrm_add {fe fl f : Nat → Int32} {h : List (List Nat)} {s : List Nat} (H : hrm fe fl h) (h6 : h.length < 6) (hf : rep f s) (hs : s.length ≤ 256) : hrm (va_cpy f fe 0 (256 * h.length) s.length) (upd fl h.length (nI s.length)) (s :: h) := by
  obtain ⟨h2, h3⟩ := H
  refine ⟨by simp; omega, fun j hj => ?_⟩
  simp only [List.length_cons] at hj ⊢
  cases j with
  | zero =>
    rw [show h.length + 1 - 1 - 0 = h.length by omega]
    refine ⟨hs, by simp [upd], fun t ht => ?_⟩
    have ht : t < s.length := ht
    rw [pk_cpy_in (by omega) (by omega)]
    rw [show 0 + (256 * h.length + t - 256 * h.length) = t by omega]
    exact hf t ht
  | succ j =>
    rw [List.getD_eq_getElem?_getD, List.getElem?_cons_succ, ← List.getD_eq_getElem?_getD, show h.length + 1 - 1 - (j + 1) = h.length - 1 - j by omega]
    obtain ⟨a1, a2, a3⟩ := h3 j (by omega)
    have e3 : h.length - 1 - j ≠ h.length := by omega
    refine ⟨a1, by rw [← a2]; simp [upd, e3], fun t ht => ?_⟩
    rw [pk_cpy_out, a3 t ht]
    omega
/-- the rows below i - 1 have been shifted -/
def shI (i : Nat) (fe fe1 fl fl1 : Nat → Int32) : Prop := ∀ e, e < 6 → (e + 1 < i → fl1 e = fl (e + 1) ∧ ∀ t, t < 256 → fe1 (256 * e + t) = fe (256 * (e + 1) + t)) ∧ (i ≤ e + 1 → fl1 e = fl e ∧ ∀ t, t < 256 → fe1 (256 * e + t) = fe (256 * e + t))
theorem shI_1 (fe fl : Nat → Int32) : shI 1 fe fe fl fl := fun e _ => ⟨fun h => by omega, fun _ => ⟨rfl, fun _ _ => rfl⟩⟩
theorem shI_s {i : Nat} {fe fe1 fl fl1 : Nat → Int32} (h : shI i fe fe1 fl fl1) (h1 : 1 ≤ i) (h6 : i < 6) : shI (i + 1) fe (va_cpy fe1 fe1 (256 * i) (256 * (i - 1)) 256) fl (upd fl1 (i - 1) (fl1 i)) := by
  intro e he
  obtain ⟨a1, a2⟩ := h e he
  obtain ⟨b1, b2⟩ := (h i h6).2 (by omega)
  refine ⟨fun h => ?_, fun h => ?_⟩
  · by_cases ee : e = i - 1
    · subst ee
      refine ⟨by simp [upd, b1, show i - 1 + 1 = i by omega], fun t ht => ?_⟩
      rw [pk_cpy_in (by omega) (by omega)]
      rw [show 256 * i + (256 * (i - 1) + t - 256 * (i - 1)) = 256 * i + t by omega, b2 t ht, show i - 1 + 1 = i by omega]
    · obtain ⟨c1, c2⟩ := a1 (by omega)
      refine ⟨by simp [upd, ee, c1], fun t ht => ?_⟩
      rw [pk_cpy_out, c2 t ht]
      omega
  · obtain ⟨c1, c2⟩ := a2 (by omega)
    have ee : e ≠ i - 1 := by omega
    refine ⟨by simp [upd, ee, c1], fun t ht => ?_⟩
    rw [pk_cpy_out, c2 t ht]
    omega
theorem hrm_sh {fe fe1 fl fl1 : Nat → Int32} {h : List (List Nat)} (H : hrm fe fl h) (h6 : h.length = 6) (hs : shI 6 fe fe1 fl fl1) : hrm fe1 fl1 (h.take 5) := by
  obtain ⟨h2, h3⟩ := H
  have hl : (h.take 5).length = 5 := by rw [List.length_take]; omega
  refine ⟨by omega, fun j hj => ?_⟩
  rw [hl] at hj ⊢
  have e : (h.take 5).getD j [] = h.getD j [] := by
    rw [List.getD_eq_getElem?_getD, List.getElem?_take, if_pos hj, List.getD_eq_getElem?_getD]
  rw [e]
  obtain ⟨a1, a2, a3⟩ := h3 j (by omega)
  obtain ⟨b1, b2⟩ := (hs (5 - 1 - j) (by omega)).1 (by omega)
  rw [h6, show 6 - 1 - j = 5 - 1 - j + 1 by omega] at a2 a3
  exact ⟨a1, b1.trans a2, fun t ht => (b2 t (by omega)).trans (a3 t ht)⟩
theorem take6 {s : List Nat} {h : List (List Nat)} (h6 : h.length < 6) : s :: h = (s :: h).take 6 := by
  rw [List.take_of_length_le]
  simp
  omega
theorem cpy_rep {f g : Nat → Int32} {z : List Nat} (h : rep f z) : rep (va_cpy f g 0 0 z.length) z := fun j hj => by
  rw [pk_cpy_in (by omega) (by omega)]
  simpa using h j hj
theorem app_last {z : List Nat} {x i : Nat} (h : z.length = i) : (z ++ [x]).getD i 0 = x := by
  subst h
  simp
theorem rot_at {x : Int32} {i L : Nat} (hi : i < 300) (h0 : 0 < L) : ((lN i + x.toInt64).toInt % (L : Int)).toNat = ((x.toInt % (L : Int)).toNat + i) % L := by
  have hx := z_rng x
  have e : (lN i + x.toInt64).toInt = x.toInt + (i : Int) := by
    rw [Int64.toInt_add, i2l_toInt, lN_toInt (by omega), l_bm (by omega) (by omega)]
    omega
  have h2 := Int.emod_nonneg x.toInt (b := (L : Int)) (by omega)
  rw [e, ← Int.emod_add_emod]
  have e2 : x.toInt % (L : Int) + (i : Int) = (((x.toInt % (L : Int)).toNat + i : Nat) : Int) := by
    rw [Int.natCast_add, Int.toNat_of_nonneg h2]
  rw [e2, ← Int.natCast_emod, Int.toNat_natCast]
theorem rev_at {s z1 : List Nat} {r i L : Nat} (hq : z1 ++ revL s (r + 1) = revL s L) (hl : z1.length = i) : (revL s L).getD i 0 = s.getD r 0 := by
  rw [← hq, revL]
  subst hl
  simp
/-! marks -/
def qclr (q : Nat → Bool) (b : Nat) : Nat → Bool := fun i => if i = b then false else q i
theorem mf_clr (q : Nat → Bool) (b : Nat) : upd (mf q) b (nI 0) = mf (qclr q b) := by
  funext i
  unfold upd mf qclr
  split
  · rfl
  · rfl
theorem lkL_at (c : Nat → Nat) (j : Nat) : ∀ (r i : Nat) (q q' : Nat → Bool), q j = q' j → lkL c r i q j = lkL c r i q' j
  | 0, _, _, _, h => h
  | r + 1, i, q, q', h => by
    unfold lkL
    exact lkL_at c j r (i + 1) _ _ (by unfold qset; split <;> first | rfl | exact h)
theorem fp_self {k n : Nat} {s : List Nat} {i : Nat} (hi : i < s.length) : ∃ t, t ≤ i ∧ fpO k n s (codeN k n s i) = some t ∧ codeN k n s t = codeN k n s i ∧ ∀ u, u < t → codeN k n s u ≠ codeN k n s i := by
  unfold fpO
  have key : ∀ r a, a ≤ i → i < a + r → (∀ u, u < a → codeN k n s u ≠ codeN k n s i) → ∃ t, t ≤ i ∧ firstL (eqC k n s (codeN k n s i)) r a = some t ∧ codeN k n s t = codeN k n s i ∧ ∀ u, u < t → codeN k n s u ≠ codeN k n s i := by
    intro r
    induction r with
    | zero => intro a h1 h2; omega
    | succ r ih =>
      intro a h1 h2 h3
      unfold firstL
      by_cases e : codeN k n s a = codeN k n s i
      · refine ⟨a, h1, ?_, e, h3⟩
        rw [if_pos (decide_eq_true e)]
      · rw [if_neg (by simp [e])]
        have : a ≠ i := fun h => e (by rw [h])
        refine ih (a + 1) (by omega) (by omega) (fun u hu => ?_)
        by_cases hu2 : u = a
        · rw [hu2]; exact e
        · exact h3 u (by omega)
  exact key s.length 0 (Nat.zero_le _) (by omega) (fun u hu => absurd hu (Nat.not_lt_zero u))
/-- the marks of the places below i -/
def mkd (c : Nat → Nat) (q : Nat → Bool) (i : Nat) : Prop := ∀ b, q b = true ↔ ∃ t, t < i ∧ c t = b
theorem mkd_1 (c : Nat → Nat) : mkd c (qset qz (c 0)) 1 := by
  intro b
  unfold qset qz
  split
  · rename_i h; exact ⟨fun _ => ⟨0, by omega, h.symm⟩, fun _ => rfl⟩
  · rename_i h; exact ⟨fun q => (by cases q), fun ⟨t, ht, e⟩ => absurd (by rw [← e, show t = 0 by omega]) h⟩
theorem mkd_s {c : Nat → Nat} {q : Nat → Bool} {i : Nat} (h : mkd c q i) : mkd c (qset q (c i)) (i + 1) := by
  intro b
  unfold qset
  split
  · rename_i e; exact ⟨fun _ => ⟨i, by omega, e.symm⟩, fun _ => rfl⟩
  · rename_i e
    rw [h b]
    refine ⟨fun ⟨t, ht, e2⟩ => ⟨t, by omega, e2⟩, fun ⟨t, ht, e2⟩ => ⟨t, ?_, e2⟩⟩
    by_cases e3 : t = i
    · exact absurd (by rw [← e2, e3]) e
    · omega
theorem rp_0 (c : Nat → Nat) {L : Nat} (h : 0 < L) : rpL c (L - 1) 1 (qset qz (c 0)) = rpL c L 0 qz := by
  obtain ⟨m, rfl⟩ : ∃ m, L = m + 1 := ⟨L - 1, by omega⟩
  rfl
