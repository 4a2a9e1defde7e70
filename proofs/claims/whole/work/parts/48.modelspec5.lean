/-! the reference's tables -/
def mtb (t : Nat) (fy fz fe : Nat → Int32) (ty : Int) (v : List Int32) : Prop := fy t = iI ty ∧ fz t = nI v.length ∧ ∀ i, i < v.length → fe (256 * t + i) = v.getD i 0
def oth (t : Nat) (fy fz fe fy1 fz1 fe1 : Nat → Int32) : Prop := ∀ u, u < 2 → u ≠ t → fy1 u = fy u ∧ fz1 u = fz u ∧ ∀ i, i < 256 → fe1 (256 * u + i) = fe (256 * u + i)
theorem oth_rf (t : Nat) (fy fz fe : Nat → Int32) : oth t fy fz fe fy fz fe := fun _ _ _ => ⟨rfl, rfl, fun _ _ => rfl⟩
theorem mtb_oth {t u : Nat} {fy fz fe fy1 fz1 fe1 : Nat → Int32} {ty : Int} {v : List Int32} (h : mtb u fy fz fe ty v) (o : oth t fy fz fe fy1 fz1 fe1) (hu : u < 2) (hn : u ≠ t) (hv : v.length ≤ 256) : mtb u fy1 fz1 fe1 ty v := by
  obtain ⟨a, b, c⟩ := o u hu hn
  exact ⟨a.trans h.1, b.trans h.2.1, fun i hi => (c i (by omega)).trans (h.2.2 i hi)⟩
theorem oth_e {t j : Nat} {fy fz fe fe1 fy1 fz1 : Nat → Int32} {x : Int32} (o : oth t fy fz fe fy1 fz1 fe1) (ht : t < 2) (hj : j < 256) : oth t fy fz fe fy1 fz1 (upd fe1 (256 * t + j) x) := by
  intro u hu hn
  obtain ⟨a, b, c⟩ := o u hu hn
  refine ⟨a, b, fun i hi => ?_⟩
  rw [← c i hi]
  unfold upd
  rw [if_neg (by omega)]
theorem mtb_set {t j : Nat} {fy fz fe : Nat → Int32} {ty : Int} {v : List Int32} (h : mtb t fy fz fe ty v) (x : Int32) : mtb t fy fz (upd fe (256 * t + j) x) ty (v.set j x) := by
  obtain ⟨a, b, c⟩ := h
  refine ⟨a, by rw [List.length_set]; exact b, fun i hi => ?_⟩
  simp only [List.length_set] at hi
  unfold upd
  by_cases e : i = j
  · subst e; simp [List.getD_eq_getElem?_getD, hi]
  · rw [if_neg (by omega), c i hi, List.getD_eq_getElem?_getD, List.getD_eq_getElem?_getD, List.getElem?_set_ne (Ne.symm e)]
theorem mtb_new {t m i : Nat} {fy fz fe1 : Nat → Int32} (hm : m ≤ 256) (h : ∀ j, j < 256 → fe1 (256 * t + j) = nI 0) : mtb t (upd fy t (nI i)) (upd fz t (nI m)) fe1 ((i : Nat) : Int) (List.replicate m (0 : Int32)) := by
  refine ⟨by simp [upd, nI_iI], by simp [upd], fun j hj => ?_⟩
  simp only [List.length_replicate] at hj
  rw [h j (by omega), List.getD_eq_getElem?_getD, List.getElem?_replicate_of_lt hj]
  rfl
theorem exl_toInt (y : Int32) {i : Nat} (hi : i < 300) : (y.toInt64 + lN i).toInt = y.toInt + (i : Int) := by
  have hx := z_rng y
  rw [Int64.toInt_add, i2l_toInt, lN_toInt (by omega), l_bm (by omega) (by omega)]
theorem exl_idx {y : Int32} {i L : Nat} (hi : i < 300) (hL : L ≤ 256) (h1 : 0 ≤ y.toInt + (i : Int)) (h2 : y.toInt + (i : Int) < (L : Int)) : (y.toInt64 + lN i).toInt32 = nI (y.toInt + (i : Int)).toNat := by
  have e : y.toInt64 + lN i = lN (y.toInt + (i : Int)).toNat := by
    apply l_of _ (by omega)
    rw [exl_toInt y hi]
    omega
  rw [e, lN_i]
