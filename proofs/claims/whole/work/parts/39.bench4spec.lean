def bdv (v : List Int32) : Prop := ∀ i, -128 ≤ (v.getD i 0).toInt ∧ (v.getD i 0).toInt ≤ 65535
def basI (ty : Int) : Int := if ty = 1 then 97 else 0
theorem drop_cons {v : List Int32} {i : Nat} (h : i < v.length) : v.drop i = v.getD i 0 :: v.drop (i + 1) := by
  rw [List.drop_eq_getElem_cons h]
  simp [List.getD_eq_getElem?_getD, h]
theorem impL_some {k : Nat} {b : Int} {v : List Int32} {i : Nat} {z1 : List Nat} (hq : impL k b (v.drop i) = some z1) (h : i < v.length) : (0 ≤ (v.getD i 0).toInt - b ∧ (v.getD i 0).toInt - b < (k : Int)) ∧ ∃ z2, impL k b (v.drop (i + 1)) = some z2 ∧ z1 = ((v.getD i 0).toInt - b).toNat :: z2 := by
  rw [drop_cons h, impL] at hq
  split at hq
  · rename_i hc
    refine ⟨hc, ?_⟩
    cases hz : impL k b (v.drop (i + 1)) with
    | none => rw [hz] at hq; cases hq
    | some z2 => rw [hz] at hq; cases hq; exact ⟨z2, rfl, rfl⟩
  · cases hq
theorem impL_none {k : Nat} {b : Int} {v : List Int32} {i : Nat} (hq : impL k b (v.drop i) = none) (h : i < v.length) (hc : 0 ≤ (v.getD i 0).toInt - b ∧ (v.getD i 0).toInt - b < (k : Int)) : impL k b (v.drop (i + 1)) = none := by
  rw [drop_cons h, impL, if_pos hc] at hq
  cases hz : impL k b (v.drop (i + 1)) with
  | none => rfl
  | some z2 => rw [hz] at hq; cases hq
theorem imp_sub {ty : Int} {x : Int32} (h1 : -128 ≤ x.toInt) (h2 : x.toInt ≤ 65535) : (x - nI (if ty = 1 then 97 else 0)).toInt = x.toInt - basI ty := by
  rw [Int32.toInt_sub]
  unfold basI
  split
  · rw [nI_toInt (by omega), Int.bmod_eq_of_le (by omega) (by omega)]; rfl
  · rw [nI_toInt (by omega), Int.bmod_eq_of_le (by omega) (by omega)]; rfl
theorem imp_N {ty : Int} {x : Int32} (h1 : -128 ≤ x.toInt) (h2 : x.toInt ≤ 65535) (h3 : 0 ≤ x.toInt - basI ty) : x - nI (if ty = 1 then 97 else 0) = nI (x.toInt - basI ty).toNat := by
  apply (z_eq _ _).mpr
  have hb : 0 ≤ basI ty ∧ basI ty ≤ 97 := by unfold basI; split <;> omega
  rw [imp_sub h1 h2, nI_toInt (by omega)]
  omega
theorem imp_len {k : Nat} {b : Int} : ∀ {v : List Int32} {z : List Nat}, impL k b v = some z → z.length = v.length ∧ ltk k z
  | [], z, h => by cases h; exact ⟨rfl, ltk_nil⟩
  | x :: v, z, h => by
    rw [impL] at h
    split at h
    · rename_i hc
      cases hz : impL k b v with
      | none => rw [hz] at h; cases h
      | some z2 =>
        rw [hz] at h
        cases h
        obtain ⟨a1, a2⟩ := imp_len hz
        exact ⟨by simp [a1], ltk_cons (by omega) a2⟩
    · cases h
