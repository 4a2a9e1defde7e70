/-! what the law's loop keeps; how the arguments split -/
section NVE
variable {p : Program} {l : Launch} {e : Env} {R : Room} {s : State} {m : MethodId} {args : Array Value} {below : List Frame} {meth : Method} {c : Code} {H : Heap} {locs : List Loc} {cells slots : Nat} {Q : State → Prop}
variable {cc : ByteArray} {pc nL : Nat} {ls : Array Slot} {rest As : List Value} {own C : String} {A : Nat → Prop} {g : G5} {y : MethodName} {bytes : ByteArray} {maxL fr lo b idx n : Nat} {ret : Option FieldType} {cs0 : va_W} {lv0 : List (Nat × Value)} {st0 : List Value} {adK adV : Nat → Nat} {fm : Value}
theorem MuIE.callV {S : Type} {post : Int32 → S → Prop} {cs1 : S → va_W} (hM : MuIE y bytes maxL ret fr lo g adK adV fm (.ref b :: As) cs0 post cs1) (X : CallFix p m c cc nL s args lw_all own) (hdg : decode cc pc = .ok (.invokevirtual idx, 3)) (hl : Cond.methodLink own idx y ∈ lw_all) (hT : TV C y bytes maxL ret n) (hK : KK g s) {ws wr : va_W} (hP : PP g ws H) (hD : va_D A ws) (hS : va_S A s.heap H locs) (hA : ∀ q, s.heap.size ≤ q → A q) (hE : SEa adK adV fm A s s.heap) (isC isR : List Nat) (hnC : va_nd isC = true) (hC : isC.map (fun i => ws[i]?) = cs0.map some) (hRr : isR.map (fun i => ws[i]?) = wr.map some) (hn2 : va_nd isR = true) (hdis : ∀ i ∈ isR, i ∉ isC) (q0 ci : Nat) {qc : vw_C} {fs : List Value} (he : cs0[q0]? = some (b, .inr (ci, fs))) (hc : cls[ci]? = some qc) (hC2 : qc.1 = C) (hsz : lv_has ls nL lv0) (hR : (fr + 1 ≤ R.frames ∧ 8 + (maxL + 11) + lo ≤ R.locals) ∧ cells ≤ R.cells ∧ slots ≤ R.slots) (hn : As.length = n) (hst : st0 = As.reverse ++ .ref b :: rest) (hW : (rest.map fun v => v.category).sum ≤ 8)
    (kk : ∀ (r : Int32) (u : S) (H1 : Heap) (locs1 : List Loc), post r u → PP g (wr ++ cs1 u) H1 → va_D A (wr ++ cs1 u) → va_S A s.heap H1 locs1 → W p l e R s m args below meth c H1 locs1 cells slots Q (F0 m (pc + 3) ls (.int r :: rest))) : W p l e R s m args below meth c H locs cells slots Q (F0 m pc ls st0) := by
  subst hst
  subst hC2
  obtain ⟨hPc, hDc⟩ := mu_pre (wr := wr) hK hP hD isC hnC hC
  have hFc := va_free (wc := cs0) hD hS hA isC hC
  have hE1 : SEa adK adV fm (va_A cs0 H.size) s H := (hE.kept hS.2.1).narrow hFc
  exact va_calli (va_runV (As := As) (rest := rest) X (hM l H.size) (cwV n X.2.2.2.2 (gVd hl hT) rfl rfl rfl hT.2 hR.1) ⟨me_blind, va_recv hK hPc hc he, fun U hU hW => ⟨rfl, by rw [hU], by rw [hU]; exact hPc, va_K.moved hW.alike hK, hDc, by rw [hU]; exact hE1.warm hW⟩⟩ rfl hn hsz.1 rfl (lv_room hW) hdg hR.2) hS (fun q _ h => hFc q h) hFc (fun r u t H1 locs1 ht hvm hw hB hz1 hk1 hS1 => by
    obtain ⟨hP1, hK1, hD1⟩ := hB
    rw [ht] at hP1
    obtain ⟨hP2, hD2⟩ := va_join (wr := wr) (w1 := cs1 u) hP hD isC isR hC hRr hn2 hdis hk1 hFc hP1 hD1
    exact kk r u H1 locs1 hw hP2 hD2 hS1)
end NVE
theorem sp_cfg (x y : Int32) : possB x y = false ∨ ∃ k1 n1 B1 T1, x = nI k1 ∧ y = nI n1 ∧ shp k1 n1 B1 T1 ∧ possB (nI k1) (nI n1) = true := by
  cases h : possB x y with
  | false => exact Or.inl rfl
  | true =>
    refine Or.inr ?_
    have h2 := h
    unfold possB at h2
    have h3 := of_decide_eq_true h2
    obtain ⟨k1, hk1, rfl⟩ := z_nat (x := x) (by omega)
    obtain ⟨n1, hn1, rfl⟩ := z_nat (x := y) (by omega)
    rw [nI_toInt hk1, nI_toInt hn1, Int.toNat_natCast, Int.toNat_natCast] at h3
    exact ⟨k1, n1, _, _, rfl, rfl, ⟨⟨by omega, by omega, by omega, by omega, h3.2.2.2.2⟩, rfl, rfl⟩, h⟩
theorem sp_con (x y : Int32) (T : Nat) : (¬ (0 ≤ x.toInt ∧ x.toInt ≤ 3) ∨ (x.toInt = 3 ∧ ¬ (0 ≤ y.toInt ∧ y.toInt < (T : Int)))) ∨ ∃ kd pr, x = nI kd ∧ kd < 4 ∧ (kd = 3 → y = nI pr ∧ pr < T) := by
  by_cases h : (¬ (0 ≤ x.toInt ∧ x.toInt ≤ 3) ∨ (x.toInt = 3 ∧ ¬ (0 ≤ y.toInt ∧ y.toInt < (T : Int))))
  · exact Or.inl h
  · refine Or.inr ?_
    obtain ⟨kd, hkd, rfl⟩ := z_nat (x := x) (by omega)
    rw [nI_toInt hkd] at h
    by_cases h3 : kd = 3
    · obtain ⟨pr, hpr, rfl⟩ := z_nat (x := y) (by omega)
      rw [nI_toInt hpr] at h
      exact ⟨kd, pr, rfl, by omega, fun _ => ⟨rfl, by omega⟩⟩
    · exact ⟨kd, 0, rfl, by omega, fun e => absurd e h3⟩
theorem sp_cmd (x : Int32) {c : List Nat} (hc : c.length ≤ 20) : (¬ (33 ≤ x.toInt ∧ x.toInt ≤ 126) ∨ c.length = 20) ∨ ∃ t, x = nI t ∧ 33 ≤ t ∧ t ≤ 126 ∧ c.length < 20 := by
  by_cases h : (¬ (33 ≤ x.toInt ∧ x.toInt ≤ 126) ∨ c.length = 20)
  · exact Or.inl h
  · obtain ⟨t, ht, rfl⟩ := z_nat (x := x) (by omega)
    rw [nI_toInt ht] at h
    exact Or.inr ⟨t, rfl, by omega, by omega, by omega⟩
theorem nm_cases (c : List Nat) : ∀ r i v, nmL c r i v = (-1) ∨ ∃ w, w < (v + 1) * 10 ^ r ∧ nmL c r i v = nI w
  | 0, i, v => Or.inr ⟨v, by rw [Nat.pow_zero, Nat.mul_one]; omega, rfl⟩
  | r + 1, i, v => by
    by_cases h : 48 ≤ c.getD i 0 ∧ c.getD i 0 ≤ 57
    · have e : nmL c (r + 1) i v = nmL c r (i + 1) (v * 10 + (c.getD i 0 - 48)) := by rw [nmL, if_pos h]
      rw [e]
      rcases nm_cases c r (i + 1) (v * 10 + (c.getD i 0 - 48)) with h1 | ⟨w, h1, h2⟩
      · exact Or.inl h1
      · refine Or.inr ⟨w, Nat.lt_of_lt_of_le h1 ?_, h2⟩
        rw [Nat.pow_succ, Nat.mul_comm (10 ^ r), ← Nat.mul_assoc]
        exact Nat.mul_le_mul_right _ (by omega)
    · exact Or.inl (by rw [nmL, if_neg h])
theorem pa_cases (c : List Nat) : paI c = (-1) ∨ ∃ w, w < 1000 ∧ paI c = nI w := by
  unfold paI
  split
  · exact Or.inr ⟨0, by decide, rfl⟩
  · split
    · exact Or.inl rfl
    · rename_i h1 h2
      rcases nm_cases c (c.length - (ceN c + 1)) (ceN c + 1) 0 with h3 | ⟨w, h3, h4⟩
      · exact Or.inl h3
      · refine Or.inr ⟨w, Nat.lt_of_lt_of_le h3 ?_, h4⟩
        rw [Nat.zero_add, Nat.one_mul]
        exact Nat.le_trans (Nat.pow_le_pow_right (by decide) (show c.length - (ceN c + 1) ≤ 3 by omega)) (by decide)
theorem sp_run (c : List Nat) (T : Nat) : ((kdI c).toInt = -6 ∨ (paI c).toInt = -1 ∨ (¬ (0 ≤ (kdI c).toInt ∧ (kdI c).toInt ≤ 3) ∨ ((kdI c).toInt = 3 ∧ ¬ (0 ≤ (paI c).toInt ∧ (paI c).toInt < (T : Int))))) ∨ ∃ kd pr, kd < 4 ∧ kdI c = nI kd ∧ pr < 1000 ∧ paI c = nI pr ∧ (kd = 3 → pr < T) := by
  by_cases h : ((kdI c).toInt = -6 ∨ (paI c).toInt = -1 ∨ (¬ (0 ≤ (kdI c).toInt ∧ (kdI c).toInt ≤ 3) ∨ ((kdI c).toInt = 3 ∧ ¬ (0 ≤ (paI c).toInt ∧ (paI c).toInt < (T : Int)))))
  · exact Or.inl h
  · refine Or.inr ?_
    obtain ⟨kd, hkd, e1⟩ := z_nat (x := kdI c) (by omega)
    rcases pa_cases c with e2 | ⟨pr, hpr, e2⟩
    · exact absurd (Or.inr (Or.inl (by rw [e2]; rfl))) h
    · rw [e1, e2, nI_toInt hkd, nI_toInt (by omega)] at h
      exact ⟨kd, pr, by omega, e1, hpr, e2, fun e => by omega⟩
theorem sp_set (x y : Int32) (n k : Nat) : (hasB x n && hasB y k) = false ∨ ∃ j t, x = nI j ∧ y = nI t ∧ j < n ∧ t < k := by
  cases h : (hasB x n && hasB y k) with
  | false => exact Or.inl rfl
  | true =>
    obtain ⟨h1, h2⟩ := Bool.and_eq_true_iff.mp h
    obtain ⟨j, hj, rfl⟩ := hasB_t h1
    obtain ⟨t, ht, rfl⟩ := hasB_t h2
    exact Or.inr ⟨j, t, rfl, rfl, hj, ht⟩
theorem sp_app (x : Int32) (k : Nat) {s : List Nat} (hs : s.length ≤ 256) : (hasB x k = false ∨ s.length = 256) ∨ ∃ t, x = nI t ∧ t < k ∧ s.length < 256 := by
  cases h : hasB x k with
  | false => exact Or.inl (Or.inl rfl)
  | true =>
    by_cases h2 : s.length = 256
    · exact Or.inl (Or.inr h2)
    · obtain ⟨t, ht, rfl⟩ := hasB_t h
      exact Or.inr ⟨t, rfl, ht, by omega⟩
theorem sp_len {α : Type} (s : List α) : s.length < 1 ∨ 0 < s.length := by omega
theorem sp_cut (x y : Int32) (n : Nat) (s : List Nat) : (hasB x s.length && cutB s y) = false ∨ (∃ a j, x = nI a ∧ y = nI j ∧ a < s.length ∧ 1 ≤ j ∧ j < s.length ∧ repB s a (a + j) (n - 1) = false) ∨ (∃ a j, x = nI a ∧ y = nI j ∧ a < s.length ∧ 1 ≤ j ∧ j < s.length ∧ repB s a (a + j) (n - 1) = true) := by
  cases h : (hasB x s.length && cutB s y) with
  | false => exact Or.inl rfl
  | true =>
    obtain ⟨h1, h2⟩ := Bool.and_eq_true_iff.mp h
    obtain ⟨a, ha, rfl⟩ := hasB_t h1
    obtain ⟨j, _, hj1, hj2, rfl⟩ := cutB_t h2
    cases hr : repB s a (a + j) (n - 1) with
    | false => exact Or.inr (Or.inl ⟨a, j, rfl, rfl, ha, hj1, hj2, hr⟩)
    | true => exact Or.inr (Or.inr ⟨a, j, rfl, rfl, ha, hj1, hj2, hr⟩)
theorem sp_exc (x1 x2 x3 x4 : Int32) (n : Nat) {s : List Nat} (hs : s.length ≤ 256) : ((hasB x1 s.length && hasB x2 s.length && hasB x3 s.length && hasB x4 s.length) = false ∨ ¬ (x1.toInt < x2.toInt ∧ x2.toInt < x3.toInt ∧ x3.toInt < x4.toInt)) ∨ (∃ i1 i2 i3 i4, x1 = nI i1 ∧ x2 = nI i2 ∧ x3 = nI i3 ∧ x4 = nI i4 ∧ i1 < i2 ∧ i2 < i3 ∧ i3 < i4 ∧ i4 < s.length ∧ (repB s i1 i3 (n - 1) && repB s i2 i4 (n - 1)) = false) ∨ (∃ i1 i2 i3 i4, x1 = nI i1 ∧ x2 = nI i2 ∧ x3 = nI i3 ∧ x4 = nI i4 ∧ i1 < i2 ∧ i2 < i3 ∧ i3 < i4 ∧ i4 < s.length ∧ repB s i1 i3 (n - 1) = true ∧ repB s i2 i4 (n - 1) = true) := by
  cases h : (hasB x1 s.length && hasB x2 s.length && hasB x3 s.length && hasB x4 s.length) with
  | false => exact Or.inl (Or.inl rfl)
  | true =>
    obtain ⟨h5, h4⟩ := Bool.and_eq_true_iff.mp h
    obtain ⟨h5, h3⟩ := Bool.and_eq_true_iff.mp h5
    obtain ⟨h1, h2⟩ := Bool.and_eq_true_iff.mp h5
    obtain ⟨i1, l1, rfl⟩ := hasB_t h1
    obtain ⟨i2, l2, rfl⟩ := hasB_t h2
    obtain ⟨i3, l3, rfl⟩ := hasB_t h3
    obtain ⟨i4, l4, rfl⟩ := hasB_t h4
    by_cases ho : ((nI i1).toInt < (nI i2).toInt ∧ (nI i2).toInt < (nI i3).toInt ∧ (nI i3).toInt < (nI i4).toInt)
    · rw [nI_toInt (by omega), nI_toInt (by omega), nI_toInt (by omega), nI_toInt (by omega)] at ho
      cases hr : (repB s i1 i3 (n - 1) && repB s i2 i4 (n - 1)) with
      | false => exact Or.inr (Or.inl ⟨i1, i2, i3, i4, rfl, rfl, rfl, rfl, by omega, by omega, by omega, l4, hr⟩)
      | true =>
        obtain ⟨r1, r2⟩ := Bool.and_eq_true_iff.mp hr
        exact Or.inr (Or.inr ⟨i1, i2, i3, i4, rfl, rfl, rfl, rfl, by omega, by omega, by omega, l4, r1, r2⟩)
    · exact Or.inl (Or.inr ho)
theorem sp_pat (x : Int32) (k : Nat) {p : List Int} (hp : p.length ≤ 8) : (¬ (x.toInt = -1 ∨ hasB x k = true) ∨ p.length = 8) ∨ ((x.toInt = -1 ∨ hasB x k = true) ∧ p.length < 8) := by
  by_cases h : (x.toInt = -1 ∨ hasB x k = true)
  · by_cases h2 : p.length = 8
    · exact Or.inl (Or.inr h2)
    · exact Or.inr ⟨h, by omega⟩
  · exact Or.inl (Or.inl h)
theorem sp_und {α : Type} (h : List α) : h.length < 1 ∨ ∃ w h2, h = w :: h2 := by
  cases h with
  | nil => exact Or.inl Nat.zero_lt_one
  | cons w h2 => exact Or.inr ⟨w, h2, rfl⟩
theorem sp_tk (t : Bool) : t = false ∨ t = true := by cases t <;> simp
theorem sp_01 (x : Int32) : ¬ (x.toInt = 0 ∨ x.toInt = 1) ∨ x = nI 0 ∨ x = nI 1 := by
  by_cases h : (x.toInt = 0 ∨ x.toInt = 1)
  · refine Or.inr ?_
    rcases h with h | h
    · exact Or.inl ((z_eq _ _).mpr (by rw [h]; rfl))
    · exact Or.inr ((z_eq _ _).mpr (by rw [h]; rfl))
  · exact Or.inl h
theorem sp_crt (x y w : Int32) : ¬ ((x.toInt = 0 ∨ x.toInt = 1) ∧ (y.toInt = 0 ∨ y.toInt = 1) ∧ 0 ≤ w.toInt ∧ w.toInt ≤ 256) ∨ (∃ a m, x = nI 0 ∧ y = nI a ∧ w = nI m ∧ a < 2 ∧ m ≤ 256) ∨ (∃ a m, x = nI 1 ∧ y = nI a ∧ w = nI m ∧ a < 2 ∧ m ≤ 256) := by
  by_cases h : ((x.toInt = 0 ∨ x.toInt = 1) ∧ (y.toInt = 0 ∨ y.toInt = 1) ∧ 0 ≤ w.toInt ∧ w.toInt ≤ 256)
  · refine Or.inr ?_
    obtain ⟨a, ha, rfl⟩ := z_nat (x := y) (by omega)
    obtain ⟨m, hm, rfl⟩ := z_nat (x := w) (by omega)
    rw [nI_toInt ha, nI_toInt hm] at h
    rcases sp_01 x with h1 | h1 | h1
    · exact absurd h.1 h1
    · exact Or.inl ⟨a, m, h1, rfl, rfl, by omega, by omega⟩
    · exact Or.inr ⟨a, m, h1, rfl, rfl, by omega, by omega⟩
  · exact Or.inl h
theorem sp_wr (x y : Int32) (t0 t1 : Int) (v0 v1 : List Int32) : ¬ (x.toInt = 0 ∨ x.toInt = 1) ∨ (x = nI 0 ∧ (t0 = -1 ∨ hasB y v0.length = false)) ∨ (∃ j, x = nI 0 ∧ y = nI j ∧ t0 ≠ -1 ∧ j < v0.length) ∨ (x = nI 1 ∧ (t1 = -1 ∨ hasB y v1.length = false)) ∨ (∃ j, x = nI 1 ∧ y = nI j ∧ t1 ≠ -1 ∧ j < v1.length) := by
  have hh : ∀ (t : Int) (v : List Int32), (t = -1 ∨ hasB y v.length = false) ∨ ∃ j, y = nI j ∧ t ≠ -1 ∧ j < v.length := by
    intro t v
    by_cases h1 : t = -1
    · exact Or.inl (Or.inl h1)
    · cases h2 : hasB y v.length with
      | false => exact Or.inl (Or.inr rfl)
      | true =>
        obtain ⟨j, hj, e⟩ := hasB_t h2
        exact Or.inr ⟨j, e, h1, hj⟩
  rcases sp_01 x with h1 | h1 | h1
  · exact Or.inl h1
  · rcases hh t0 v0 with h2 | ⟨j, h2, h3, h4⟩
    · exact Or.inr (Or.inl ⟨h1, h2⟩)
    · exact Or.inr (Or.inr (Or.inl ⟨j, h1, h2, h3, h4⟩))
  · rcases hh t1 v1 with h2 | ⟨j, h2, h3, h4⟩
    · exact Or.inr (Or.inr (Or.inr (Or.inl ⟨h1, h2⟩)))
    · exact Or.inr (Or.inr (Or.inr (Or.inr ⟨j, h1, h2, h3, h4⟩)))
theorem sp_exp (x : Int32) (t0 t1 : Int) : ¬ (x.toInt = 0 ∨ x.toInt = 1) ∨ (x = nI 0 ∧ t0 = -1) ∨ (x = nI 0 ∧ t0 ≠ -1) ∨ (x = nI 1 ∧ t1 = -1) ∨ (x = nI 1 ∧ t1 ≠ -1) := by
  rcases sp_01 x with h1 | h1 | h1
  · exact Or.inl h1
  · by_cases h2 : t0 = -1
    · exact Or.inr (Or.inl ⟨h1, h2⟩)
    · exact Or.inr (Or.inr (Or.inl ⟨h1, h2⟩))
  · by_cases h2 : t1 = -1
    · exact Or.inr (Or.inr (Or.inr (Or.inl ⟨h1, h2⟩)))
    · exact Or.inr (Or.inr (Or.inr (Or.inr ⟨h1, h2⟩)))
theorem sp_imp1 (k : Nat) (t : Int) (v : List Int32) (a : Nat) : (t = -1 ∨ t ≠ ((a : Nat) : Int)) ∨ (t = ((a : Nat) : Int) ∧ impL k (basI t) v = none) ∨ (∃ y, t = ((a : Nat) : Int) ∧ impL k (basI t) v = some y) := by
  by_cases h : (t = -1 ∨ t ≠ ((a : Nat) : Int))
  · exact Or.inl h
  · cases h2 : impL k (basI t) v with
    | none => exact Or.inr (Or.inl ⟨by omega, rfl⟩)
    | some y => exact Or.inr (Or.inr ⟨y, by omega, rfl⟩)
theorem sp_imp (x y : Int32) : ¬ ((x.toInt = 0 ∨ x.toInt = 1) ∧ (y.toInt = 0 ∨ y.toInt = 1)) ∨ (∃ a, x = nI 0 ∧ y = nI a ∧ a < 2) ∨ (∃ a, x = nI 1 ∧ y = nI a ∧ a < 2) := by
  by_cases h : ((x.toInt = 0 ∨ x.toInt = 1) ∧ (y.toInt = 0 ∨ y.toInt = 1))
  · obtain ⟨a, ha, rfl⟩ := z_nat (x := y) (by omega)
    rw [nI_toInt ha] at h
    rcases sp_01 x with h1 | h1 | h1
    · exact absurd h.1 h1
    · exact Or.inr (Or.inl ⟨a, h1, rfl, by omega⟩)
    · exact Or.inr (Or.inr ⟨a, h1, rfl, by omega⟩)
  · exact Or.inl h
/-! what stays true -/
abbrev hok (k : Nat) (h : List (List Nat)) : Prop := ∀ w ∈ h, w.length ≤ 256 ∧ ltk k w
theorem hok_add {k : Nat} {s : List Nat} {h : List (List Nat)} (hs : s.length ≤ 256) (hl : ltk k s) (hh : hok k h) : hok k ((s :: h).take 6) := fun w hw => by
  rcases List.mem_cons.mp (List.mem_of_mem_take hw) with rfl | h2
  · exact ⟨hs, hl⟩
  · exact hh w h2
theorem hok_nil {k : Nat} : hok k [] := fun w h => absurd h List.not_mem_nil
theorem bch_add {c : List Nat} {x : Nat} (h : bch c) (hx : x ≤ 126) : bch (c ++ [x]) := by
  intro i
  rcases Nat.lt_trichotomy i c.length with h1 | h1 | h1
  · have := h i
    simp only [List.getD_eq_getElem?_getD, List.getElem?_append_left h1] at this ⊢
    exact this
  · subst h1
    simp [List.getD_eq_getElem?_getD]
    omega
  · have e : (c ++ [x])[i]? = none := List.getElem?_eq_none (by simp; omega)
    rw [List.getD_eq_getElem?_getD, e]
    decide
theorem bch_nil : bch [] := fun i => by simp
theorem okp_nil : okp [] := fun i => by simp
theorem okp_add {p : List Int} {x : Int} (h : okp p) (h1 : -1 ≤ x) (h2 : x < 4) : okp (p ++ [x]) := by
  intro i
  rcases Nat.lt_trichotomy i p.length with h3 | h3 | h3
  · have := h i
    simp only [List.getD_eq_getElem?_getD, List.getElem?_append_left h3] at this ⊢
    exact this
  · subst h3
    simp [List.getD_eq_getElem?_getD]
    omega
  · have e : (p ++ [x])[i]? = none := List.getElem?_eq_none (by simp; omega)
    rw [List.getD_eq_getElem?_getD, e]
    decide
theorem okp_x {x : Int32} {k : Nat} (hk : k ≤ 4) (h : x.toInt = -1 ∨ hasB x k = true) : -1 ≤ x.toInt ∧ x.toInt < 4 := by
  rcases h with h | h
  · omega
  · unfold hasB at h
    have := of_decide_eq_true h
    omega
theorem bdv_rep (m : Nat) : bdv (List.replicate m (0 : Int32)) := by
  intro i
  have e : (List.replicate m (0 : Int32)).getD i 0 = 0 := by
    rw [List.getD_eq_getElem?_getD, List.getElem?_replicate]
    split <;> rfl
  rw [e]
  decide
theorem bdv_set {v : List Int32} {j : Nat} {x : Int32} (h : bdv v) (h1 : -128 ≤ x.toInt) (h2 : x.toInt ≤ 65535) : bdv (v.set j x) := by
  intro i
  have hi := h i
  rw [List.getD_eq_getElem?_getD] at hi ⊢
  rw [List.getElem?_set]
  split
  · split
    · exact ⟨h1, h2⟩
    · decide
  · exact hi
theorem nar_b (ty : Int) (x : Int32) : -128 ≤ (narT ty x).toInt ∧ (narT ty x).toInt ≤ 65535 := by
  unfold narT
  split
  · have h1 := lg_i2b_range x
    omega
  · have h : x.toBitVec.toNat % 65536 < 65536 := Nat.mod_lt _ (by decide)
    rw [pk_char, nI_toInt (by omega)]
    omega
theorem exp_keep {ty : Int} {s : List Nat} {y : Int32} (hb : bd s) : ∀ (r i : Nat) (v : List Int32), bdv v → (expL ty s y r i v).2.length = v.length ∧ bdv (expL ty s y r i v).2
  | 0, i, v, h => ⟨rfl, h⟩
  | r + 1, i, v, h => by
    by_cases hc : 0 ≤ y.toInt + (i : Int) ∧ y.toInt + (i : Int) < (v.length : Int)
    · rw [expL, if_pos hc]
      have hx := bd_at hb i
      have e : (nI ((if ty = 1 then 97 else 0) + s.getD i 0)).toInt = (((if ty = 1 then 97 else 0) + s.getD i 0 : Nat) : Int) := nI_toInt (by split <;> omega)
      obtain ⟨h1, h2⟩ := exp_keep hb r (i + 1) (v.set (y.toInt + (i : Int)).toNat (nI ((if ty = 1 then 97 else 0) + s.getD i 0))) (bdv_set h (by rw [e]; split <;> omega) (by rw [e]; split <;> omega))
      exact ⟨h1.trans (List.length_set ..), h2⟩
    · rw [expL, if_neg hc]
      exact ⟨rfl, h⟩
