section NVD
variable {p : Program} {l : Launch} {e : Env} {R : Room} {s : State} {m : MethodId} {args : Array Value} {below : List Frame} {meth : Method} {c : Code} {H : Heap} {locs : List Loc} {cells slots : Nat} {Q : State → Prop}
variable {pc : Nat} {ls : Array Slot} {rest : List Value}
theorem tp_d {x y : UInt64} (h : x = y) (k : W p l e R s m args below meth c H locs cells slots Q (F0 m pc ls (.double y :: rest))) : W p l e R s m args below meth c H locs cells slots Q (F0 m pc ls (.double x :: rest)) := by
  rw [h]; exact k
end NVD
/-- what autocorrelationBits answers -/
def a_ac (s : List Nat) (x : Int32) : Int64 := if 0 ≤ x.toInt ∧ x.toInt ≤ 256 then (if s.length < 1 then (-3) else if repB s 0 1 s.length then (-8) else (acQ s (xN x)).toInt64) else (-1)
theorem rep_ne {s : List Nat} (h : repB s 0 1 s.length = false) : ∃ i j, i < s.length ∧ j < s.length ∧ s.getD i 0 ≠ s.getD j 0 := by
  refine Classical.byContradiction (fun hn => ?_)
  have h2 : cstB s = true := (cstL_iff s s.length 0).mpr (fun j h1 h2 => Classical.byContradiction (fun e => hn ⟨j, 0, by omega, by omega, e⟩))
  rw [cst_rep, h] at h2
  cases h2
theorem cv_nlt {x y : UInt64} {s t : Bool} {a b : Nat} (op : CmpOp) (hx : DV x s a) (hy : DV y t b) (h : sgI t b ≤ sgI s a) : 0 ≤ (Op.cmpValue (FP.dcmp x y) op).toInt := by
  rcases Int.le_iff_lt_or_eq.mp h with h1 | h1
  · rw [cv_gt op hx hy h1]; decide
  · rw [cv_eq op hx hy h1.symm]; decide
theorem one_le {y : UInt64} {c : Nat} (h : dfin y false c (-52 - ((0 : Nat) : Int))) (hc : 2 ^ 52 ≤ c) : 0 ≤ (Op.cmpValue (FP.dcmp y FP.dconst1) .g).toInt :=
  cv_nlt .g ⟨c, -52, h, rfl⟩ ⟨2 ^ 52, -52, dv_1, rfl⟩ (show ((2 ^ 52 * pw (-52) : Nat) : Int) ≤ ((c * pw (-52) : Nat) : Int) from Int.ofNat_le.mpr (Nat.mul_le_mul_right _ hc))
theorem one_gt {y : UInt64} {c r : Nat} (h : dfin y false c (-52 - ((r + 1 : Nat) : Int))) : (Op.cmpValue (FP.dcmp y FP.dconst1) .g).toInt < 0 := by
  have hc2 := h.2.1
  have e : pw (-53 + ((1 : Nat) : Int)) = pw (-53) * 2 ^ 1 := pw_add (by decide)
  have e2 : pw (-52) = pw (-53) * 2 ^ 1 := e
  have g1 : pw (-52 - ((r + 1 : Nat) : Int)) ≤ pw (-53) := pw_le (by omega)
  have g2 : c * pw (-52 - ((r + 1 : Nat) : Int)) ≤ c * pw (-53) := Nat.mul_le_mul_left _ g1
  have g3 : c * pw (-53) < 2 ^ 53 * pw (-53) := Nat.mul_lt_mul_of_pos_right hc2 (pw_pos _)
  have g4 : c * pw (-52 - ((r + 1 : Nat) : Int)) < 2 ^ 52 * pw (-52) := by
    rw [e2, Nat.mul_comm (pw (-53)), ← Nat.mul_assoc]
    exact Nat.lt_of_le_of_lt g2 g3
  rw [cv_lt .g ⟨c, _, h, rfl⟩ ⟨2 ^ 52, -52, dv_1, rfl⟩ (Int.ofNat_lt.mpr g4)]
  decide
theorem tw_step {y : UInt64} {c r : Nat} (h : dfin y false c (-52 - ((r + 1 : Nat) : Int))) (hc : 2 ^ 52 ≤ c) (hr : r + 1 ≤ 141) : dfin (FP.dmul y 4611686018427387904) false c (-52 - (r : Int)) := by
  have h2 := fp_twice h hc (by omega) (by omega)
  rw [show -52 - ((r + 1 : Nat) : Int) + 1 = -52 - (r : Int) by omega] at h2
  exact h2
theorem tl_1 {y : UInt64} {c : Nat} (h : dfin y false c (-52 - ((0 : Nat) : Int))) (hc : 2 ^ 52 ≤ c) : DV (FP.dsub y FP.dconst1) false (pw (-52) * (c - 2 ^ 52)) := fp_tail1 h hc
theorem tl_2 {y : UInt64} {c : Nat} (h : dfin y false c (-52 - ((0 : Nat) : Int))) (hc : 2 ^ 52 ≤ c) : DV (FP.dmul (FP.dsub y FP.dconst1) 4841369599423283200) false ((c - 2 ^ 52) * pw 0) := fp_tail2 (tl_1 h hc) (by have := h.2.1; omega)
theorem tl_3 {y : UInt64} {c : Nat} (h : dfin y false c (-52 - ((0 : Nat) : Int))) (hc : 2 ^ 52 ≤ c) : FP.d2l (FP.dmul (FP.dsub y FP.dconst1) 4841369599423283200) = lN (c - 2 ^ 52) := fp_d2l (tl_2 h hc) (by have := h.2.1; omega)
theorem shl_n52 {E : Nat} (h : E < 2048) : lN E <<< ((nI 52).toInt64 &&& 63) = lN (2 ^ 52 * E) := shl_52 h
theorem bits_P {x y : UInt64} {c n : Nat} (hd : dfin x false c (-52 - (n : Int))) (hc : 2 ^ 52 ≤ c) (hn : n ≤ 141) (h : dfin y false c (-52 - ((0 : Nat) : Int))) : lN 0 ||| lN (2 ^ 52 * (1023 - n)) ||| FP.d2l (FP.dmul (FP.dsub y FP.dconst1) 4841369599423283200) = x.toInt64 := by
  have e := bits_N hd hc (by omega)
  rw [show (-52 - (n : Int) + 1075).toNat = 1023 - n by omega] at e
  rw [tl_3 h hc]
  exact e
theorem bits_M {x y : UInt64} {c n : Nat} (hd : dfin x true c (-52 - (n : Int))) (hc : 2 ^ 52 ≤ c) (hn : n ≤ 141) (h : dfin y false c (-52 - ((0 : Nat) : Int))) : (-9223372036854775808 : Int64) ||| lN (2 ^ 52 * (1023 - n)) ||| FP.d2l (FP.dmul (FP.dsub y FP.dconst1) 4841369599423283200) = x.toInt64 := by
  have e := bits_N hd hc (by omega)
  rw [show (-52 - (n : Int) + 1075).toNat = 1023 - n by omega] at e
  rw [tl_3 h hc]
  exact e
theorem fin_pos {x : UInt64} {c : Nat} {q : Int} (op : CmpOp) (h : dfin x false c q) (hc : 2 ^ 52 ≤ c) : Op.cmpValue (FP.dcmp x FP.dconst0) op = nI 1 := by
  have h0 : (0 : Int) < ((c * pw q : Nat) : Int) := Int.ofNat_lt.mpr (Nat.mul_pos (Nat.lt_of_lt_of_le (by decide) hc) (pw_pos q))
  have e : sgI false (pw (-122) * 0) = 0 := by rw [Nat.mul_zero]; rfl
  rw [cv_gt op ⟨c, q, h, rfl⟩ dv_0 (by rw [e]; exact h0)]
  rfl
theorem fin_neg {x : UInt64} {c : Nat} {q : Int} (op : CmpOp) (h : dfin x true c q) (hc : 2 ^ 52 ≤ c) : Op.cmpValue (FP.dcmp x FP.dconst0) op = (-1) := by
  have h0 : (0 : Int) < ((c * pw q : Nat) : Int) := Int.ofNat_lt.mpr (Nat.mul_pos (Nat.lt_of_lt_of_le (by decide) hc) (pw_pos q))
  have e : sgI false (pw (-122) * 0) = 0 := by rw [Nat.mul_zero]; rfl
  have e2 : sgI true (c * pw q) = -((c * pw q : Nat) : Int) := rfl
  exact cv_lt op ⟨c, q, h, rfl⟩ dv_0 (by rw [e, e2]; omega)
theorem acOk.self {x : UInt64} (h : acOk x) (op : CmpOp) : Op.cmpValue (FP.dcmp x x) op = nI 0 := by
  rcases h with rfl | ⟨s, c, q, h, _⟩
  · exact cv_eq op dv_0 dv_0 rfl
  · exact cv_eq op ⟨c, q, h, rfl⟩ ⟨c, q, h, rfl⟩ rfl
theorem ac_in {j : Nat} (hj : j < 2 ^ 31) (h : j ≤ 256) : 0 ≤ (nI j).toInt ∧ (nI j).toInt ≤ 256 := by rw [nI_toInt hj]; omega
theorem ac_pos {s : List Nat} (hb : bd s) (hL : s.length ≤ 256) {i j : Nat} (hi : i < s.length) (hj : j < s.length) (hij : s.getD i 0 ≠ s.getD j 0) (h : Nat) : Op.cmpValue (FP.dcmp (acP s h s.length).2 FP.dconst0) .l = nI 1 := by
  obtain ⟨m, hm, m2⟩ := ac_all hb hL hi hj hij
  obtain ⟨sa, A, B, a1, a2, a3, a4, a5, a6⟩ := ac_sums hb hL hi hj hij hm m2 h
  have h0 : (0 : Int) < ((pw (-122) * B : Nat) : Int) := Int.ofNat_lt.mpr (Nat.mul_pos (pw_pos (-122)) a5)
  have e : sgI false (pw (-122) * 0) = 0 := by rw [Nat.mul_zero]; rfl
  rw [cv_gt .l a3 dv_0 (by rw [e]; exact h0)]
  rfl
