set_option maxHeartbeats 4000000 in
set_option maxRecDepth 100000 in
theorem c_misT (g : G5) (x : Int32) : PuI yX12_isTable cX12_isTable 1 (some .boolean) 1 22 g [.int x] [] (bI (decide (((0 : Nat) : Int) ≤ x.toInt ∧ x.toInt ≤ ((1 : Nat) : Int)))) := by
  refine PuI.of (by decide +kernel) (Nat.le_of_ble_eq_true rfl) ?_
  intro p_ l_ e_ S_ m_ args below meth co X hr hlk hP hK ls hl
  have X : CallFix p_ m_ co cX12_isTable 1 S_ args lw_all RX12 := X
  have hl : lv_has ls 1 [(0, .int x)] := hl
  refine lv_iload_n X.1 X.2.1 dX12_isTable_0 rfl (lv_at hl 0 rfl) ?_
  refine lv_iconst (v := (nI 0)) X.1 X.2.1 dX12_isTable_1 (by decide) ?_
  refine lv_iconst (v := (nI 1)) X.1 X.2.1 dX12_isTable_2 (by decide) ?_
  refine (c_inN g x 0 1 (by omega) (by omega)).callS (rest := []) X dX12_isTable_3 q1103 tX12_in hK (hP.sub [] rfl) hl ⟨⟨Nat.le_of_ble_eq_true rfl, Nat.le_of_ble_eq_true rfl⟩, Nat.le_of_ble_eq_true rfl, Nat.le_of_ble_eq_true rfl⟩ rfl rfl (Nat.le_of_ble_eq_true rfl) ?_
  exact PuI.ret X hr hlk dX12_isTable_6 (bI_nar _) (rfl)

set_option maxHeartbeats 4000000 in
set_option maxRecDepth 100000 in
theorem m_problem_bad (g : G5) (m0 : Nat) (lt : Nat) (er : Nat) (el : Nat) (cm_ : Nat) (sv : Nat) (md : Nat) (fmm : Nat) (lc : Nat) (lz : Nat) (af : Nat) (pt_ : Nat) (oc : Nat) (ty_ : Nat) (sz_ : Nat) (em : Nat) (k : Nat) (n : Nat) (s : List Nat) (h : List (List Nat)) (c : List Nat) (tk : Bool) (k0 : Nat) (n0 : Nat) (s0 : List Nat) (z : List Nat) (p : List Int) (x : Int32) (y : Int32) (hno : ¬ (x.toInt = 0 ∨ x.toInt = 1)) : PuI yX12_problem cX12_problem 3 (some .int) 2 42 g [.ref m0, .int x, .int y] [(m0, .inr (11, [.int (nI k), .int (nI n), .ref lt, .int (nI s.length), .ref er, .ref el, .int (nI h.length), .ref cm_, .int (nI c.length), .int (bI tk), .int (nI k0), .int (nI n0), .ref sv, .int (nI s0.length), .ref md, .int (nI z.length), .ref fmm, .ref lc, .ref lz, .ref af, .ref pt_, .int (nI p.length), .ref oc, .ref ty_, .ref sz_, .ref em]))] (-1) := by
  refine PuI.of (by decide +kernel) (Nat.le_of_ble_eq_true rfl) ?_
  intro p_ l_ e_ S_ m_ args below meth co X hr hlk hP hK ls hl
  have X : CallFix p_ m_ co cX12_problem 3 S_ args lw_all RX12 := X
  have hl : lv_has ls 3 [(0, .ref m0), (1, .int x), (2, .int y)] := hl
  refine lv_iload_n X.1 X.2.1 dX12_problem_0 rfl (lv_at hl 1 rfl) ?_
  refine (c_misT g x).callS (rest := []) X dX12_problem_1 q1455 tX12_isTable hK (hP.sub [] rfl) hl ⟨⟨Nat.le_of_ble_eq_true rfl, Nat.le_of_ble_eq_true rfl⟩, Nat.le_of_ble_eq_true rfl, Nat.le_of_ble_eq_true rfl⟩ rfl rfl (Nat.le_of_ble_eq_true rfl) ?_
  refine b_if_ne (tgt := 9) X dX12_problem_4 (by decide) (fun c4 => ?_) (fun c4 => ?_)
  · exfalso; have h6 := of_decide_eq_true c4; omega
  · refine lv_iconst (v := (-1)) X.1 X.2.1 dX12_problem_7 (by decide) ?_
    exact PuI.ret X hr hlk dX12_problem_8 (nI_nar _) (rfl)

set_option maxHeartbeats 4000000 in
set_option maxRecDepth 100000 in
theorem m_writeTable_bad (g : G5) (m0 : Nat) (lt : Nat) (er : Nat) (el : Nat) (cm_ : Nat) (sv : Nat) (md : Nat) (fmm : Nat) (lc : Nat) (lz : Nat) (af : Nat) (pt_ : Nat) (oc : Nat) (ty_ : Nat) (sz_ : Nat) (em : Nat) (k : Nat) (n : Nat) (s : List Nat) (h : List (List Nat)) (c : List Nat) (tk : Bool) (k0 : Nat) (n0 : Nat) (s0 : List Nat) (z : List Nat) (p : List Int) (x : Int32) (y : Int32) (w : Int32) (hno : ¬ (x.toInt = 0 ∨ x.toInt = 1)) : PuI yX12_writeTable cX12_writeTable 5 (some .int) 3 64 g [.ref m0, .int x, .int y, .int w] [(m0, .inr (11, [.int (nI k), .int (nI n), .ref lt, .int (nI s.length), .ref er, .ref el, .int (nI h.length), .ref cm_, .int (nI c.length), .int (bI tk), .int (nI k0), .int (nI n0), .ref sv, .int (nI s0.length), .ref md, .int (nI z.length), .ref fmm, .ref lc, .ref lz, .ref af, .ref pt_, .int (nI p.length), .ref oc, .ref ty_, .ref sz_, .ref em]))] (-1) := by
  refine PuI.of (by decide +kernel) (Nat.le_of_ble_eq_true rfl) ?_
  intro p_ l_ e_ S_ m_ args below meth co X hr hlk hP hK ls hl
  have X : CallFix p_ m_ co cX12_writeTable 5 S_ args lw_all RX12 := X
  have hl : lv_has ls 5 [(0, .ref m0), (1, .int x), (2, .int y), (3, .int w)] := hl
  refine lv_aload_n X.1 X.2.1 dX12_writeTable_0 rfl (lv_at hl 0 rfl) ?_
  refine lv_iload_n X.1 X.2.1 dX12_writeTable_1 rfl (lv_at hl 1 rfl) ?_
  refine lv_iload_n X.1 X.2.1 dX12_writeTable_2 rfl (lv_at hl 2 rfl) ?_
  refine (m_problem_bad g m0 lt er el cm_ sv md fmm lc lz af pt_ oc ty_ sz_ em k n s h c tk k0 n0 s0 z p x y (by assumption)).callV (rest := []) X dX12_writeTable_3 q1462 tX12_problem hK (hP.sub [0] rfl) 0 11 rfl rfl rfl hl ⟨⟨Nat.le_of_ble_eq_true rfl, Nat.le_of_ble_eq_true rfl⟩, Nat.le_of_ble_eq_true rfl, Nat.le_of_ble_eq_true rfl⟩ rfl rfl (Nat.le_of_ble_eq_true rfl) ?_
  refine lv_istore (lv' := [(4, .int (-1)), (0, .ref m0), (1, .int x), (2, .int y), (3, .int w)]) X.1 X.2.1 dX12_writeTable_6 hl (by decide) rfl (fun ls hl => ?_)
  refine lv_iload X.1 X.2.1 dX12_writeTable_8 (lv_at hl 0 rfl) ?_
  refine z_if_ge (tgt := 16) X dX12_writeTable_10 (by decide) (show Int32.toInt ((-1)) = (-1) from rfl) (fun c10 => ?_) (fun c10 => ?_)
  · exfalso; omega
  · refine lv_iload X.1 X.2.1 dX12_writeTable_13 (lv_at hl 0 rfl) ?_
    exact PuI.ret X hr hlk dX12_writeTable_15 (nI_nar _) (rfl)

set_option maxHeartbeats 4000000 in
set_option maxRecDepth 100000 in
theorem m_readTable_bad (g : G5) (m0 : Nat) (lt : Nat) (er : Nat) (el : Nat) (cm_ : Nat) (sv : Nat) (md : Nat) (fmm : Nat) (lc : Nat) (lz : Nat) (af : Nat) (pt_ : Nat) (oc : Nat) (ty_ : Nat) (sz_ : Nat) (em : Nat) (k : Nat) (n : Nat) (s : List Nat) (h : List (List Nat)) (c : List Nat) (tk : Bool) (k0 : Nat) (n0 : Nat) (s0 : List Nat) (z : List Nat) (p : List Int) (x : Int32) (y : Int32) (hno : ¬ (x.toInt = 0 ∨ x.toInt = 1)) : PuI yX12_readTable cX12_readTable 4 (some .int) 3 64 g [.ref m0, .int x, .int y] [(m0, .inr (11, [.int (nI k), .int (nI n), .ref lt, .int (nI s.length), .ref er, .ref el, .int (nI h.length), .ref cm_, .int (nI c.length), .int (bI tk), .int (nI k0), .int (nI n0), .ref sv, .int (nI s0.length), .ref md, .int (nI z.length), .ref fmm, .ref lc, .ref lz, .ref af, .ref pt_, .int (nI p.length), .ref oc, .ref ty_, .ref sz_, .ref em]))] (-1) := by
  refine PuI.of (by decide +kernel) (Nat.le_of_ble_eq_true rfl) ?_
  intro p_ l_ e_ S_ m_ args below meth co X hr hlk hP hK ls hl
  have X : CallFix p_ m_ co cX12_readTable 4 S_ args lw_all RX12 := X
  have hl : lv_has ls 4 [(0, .ref m0), (1, .int x), (2, .int y)] := hl
  refine lv_aload_n X.1 X.2.1 dX12_readTable_0 rfl (lv_at hl 0 rfl) ?_
  refine lv_iload_n X.1 X.2.1 dX12_readTable_1 rfl (lv_at hl 1 rfl) ?_
  refine lv_iload_n X.1 X.2.1 dX12_readTable_2 rfl (lv_at hl 2 rfl) ?_
  refine (m_problem_bad g m0 lt er el cm_ sv md fmm lc lz af pt_ oc ty_ sz_ em k n s h c tk k0 n0 s0 z p x y (by assumption)).callV (rest := []) X dX12_readTable_3 q1462 tX12_problem hK (hP.sub [0] rfl) 0 11 rfl rfl rfl hl ⟨⟨Nat.le_of_ble_eq_true rfl, Nat.le_of_ble_eq_true rfl⟩, Nat.le_of_ble_eq_true rfl, Nat.le_of_ble_eq_true rfl⟩ rfl rfl (Nat.le_of_ble_eq_true rfl) ?_
  refine lv_istore_n (lv' := [(3, .int (-1)), (0, .ref m0), (1, .int x), (2, .int y)]) X.1 X.2.1 dX12_readTable_6 rfl hl (by decide) rfl (fun ls hl => ?_)
  refine lv_iload_n X.1 X.2.1 dX12_readTable_7 rfl (lv_at hl 0 rfl) ?_
  refine z_if_ge (tgt := 15) X dX12_readTable_8 (by decide) (show Int32.toInt ((-1)) = (-1) from rfl) (fun c8 => ?_) (fun c8 => ?_)
  · exfalso; omega
  · refine lv_iload_n X.1 X.2.1 dX12_readTable_11 rfl (lv_at hl 0 rfl) ?_
    refine lv_goto (tgt := 27) X.1 X.2.1 dX12_readTable_12 (by decide) ?_
    exact PuI.ret X hr hlk dX12_readTable_27 (nI_nar _) (rfl)

set_option maxHeartbeats 4000000 in
set_option maxRecDepth 100000 in
theorem m_exportTable_bad (g : G5) (m0 : Nat) (lt : Nat) (er : Nat) (el : Nat) (cm_ : Nat) (sv : Nat) (md : Nat) (fmm : Nat) (lc : Nat) (lz : Nat) (af : Nat) (pt_ : Nat) (oc : Nat) (ty_ : Nat) (sz_ : Nat) (em : Nat) (k : Nat) (n : Nat) (s : List Nat) (h : List (List Nat)) (c : List Nat) (tk : Bool) (k0 : Nat) (n0 : Nat) (s0 : List Nat) (z : List Nat) (p : List Int) (x : Int32) (y : Int32) (hno : ¬ (x.toInt = 0 ∨ x.toInt = 1)) : PuI yX12_exportTable cX12_exportTable 6 (some .int) 2 42 g [.ref m0, .int x, .int y] [(m0, .inr (11, [.int (nI k), .int (nI n), .ref lt, .int (nI s.length), .ref er, .ref el, .int (nI h.length), .ref cm_, .int (nI c.length), .int (bI tk), .int (nI k0), .int (nI n0), .ref sv, .int (nI s0.length), .ref md, .int (nI z.length), .ref fmm, .ref lc, .ref lz, .ref af, .ref pt_, .int (nI p.length), .ref oc, .ref ty_, .ref sz_, .ref em]))] (-1) := by
  refine PuI.of (by decide +kernel) (Nat.le_of_ble_eq_true rfl) ?_
  intro p_ l_ e_ S_ m_ args below meth co X hr hlk hP hK ls hl
  have X : CallFix p_ m_ co cX12_exportTable 6 S_ args lw_all RX12 := X
  have hl : lv_has ls 6 [(0, .ref m0), (1, .int x), (2, .int y)] := hl
  refine lv_iload_n X.1 X.2.1 dX12_exportTable_0 rfl (lv_at hl 1 rfl) ?_
  refine (c_misT g x).callS (rest := []) X dX12_exportTable_1 q1455 tX12_isTable hK (hP.sub [] rfl) hl ⟨⟨Nat.le_of_ble_eq_true rfl, Nat.le_of_ble_eq_true rfl⟩, Nat.le_of_ble_eq_true rfl, Nat.le_of_ble_eq_true rfl⟩ rfl rfl (Nat.le_of_ble_eq_true rfl) ?_
  refine b_if_ne (tgt := 9) X dX12_exportTable_4 (by decide) (fun c4 => ?_) (fun c4 => ?_)
  · exfalso; have h6 := of_decide_eq_true c4; omega
  · refine lv_iconst (v := (-1)) X.1 X.2.1 dX12_exportTable_7 (by decide) ?_
    exact PuI.ret X hr hlk dX12_exportTable_8 (nI_nar _) (rfl)

set_option maxHeartbeats 4000000 in
set_option maxRecDepth 100000 in
theorem m_importTable_bad (g : G5) (m0 : Nat) (lt : Nat) (er : Nat) (el : Nat) (cm_ : Nat) (sv : Nat) (md : Nat) (fmm : Nat) (lc : Nat) (lz : Nat) (af : Nat) (pt_ : Nat) (oc : Nat) (ty_ : Nat) (sz_ : Nat) (em : Nat) (k : Nat) (n : Nat) (s : List Nat) (h : List (List Nat)) (c : List Nat) (tk : Bool) (k0 : Nat) (n0 : Nat) (s0 : List Nat) (z : List Nat) (p : List Int) (x : Int32) (y : Int32) (hno : ¬ ((x.toInt = 0 ∨ x.toInt = 1) ∧ (y.toInt = 0 ∨ y.toInt = 1))) : PuI yX12_importTable cX12_importTable 5 (some .int) 2 61 g [.ref m0, .int x, .int y] [(m0, .inr (11, [.int (nI k), .int (nI n), .ref lt, .int (nI s.length), .ref er, .ref el, .int (nI h.length), .ref cm_, .int (nI c.length), .int (bI tk), .int (nI k0), .int (nI n0), .ref sv, .int (nI s0.length), .ref md, .int (nI z.length), .ref fmm, .ref lc, .ref lz, .ref af, .ref pt_, .int (nI p.length), .ref oc, .ref ty_, .ref sz_, .ref em]))] (-1) := by
  refine PuI.of (by decide +kernel) (Nat.le_of_ble_eq_true rfl) ?_
  intro p_ l_ e_ S_ m_ args below meth co X hr hlk hP hK ls hl
  have X : CallFix p_ m_ co cX12_importTable 5 S_ args lw_all RX12 := X
  have hl : lv_has ls 5 [(0, .ref m0), (1, .int x), (2, .int y)] := hl
  refine lv_iload_n X.1 X.2.1 dX12_importTable_0 rfl (lv_at hl 1 rfl) ?_
  refine (c_misT g x).callS (rest := []) X dX12_importTable_1 q1455 tX12_isTable hK (hP.sub [] rfl) hl ⟨⟨Nat.le_of_ble_eq_true rfl, Nat.le_of_ble_eq_true rfl⟩, Nat.le_of_ble_eq_true rfl, Nat.le_of_ble_eq_true rfl⟩ rfl rfl (Nat.le_of_ble_eq_true rfl) ?_
  refine b_if_eq (tgt := 16) X dX12_importTable_4 (by decide) (fun c4 => ?_) (fun c4 => ?_)
  · refine lv_iconst (v := (-1)) X.1 X.2.1 dX12_importTable_16 (by decide) ?_
    exact PuI.ret X hr hlk dX12_importTable_17 (nI_nar _) (rfl)
  · have h5 := of_decide_eq_true c4
    refine lv_iload_n X.1 X.2.1 dX12_importTable_7 rfl (lv_at hl 2 rfl) ?_
    refine lv_iconst (v := (nI 0)) X.1 X.2.1 dX12_importTable_8 (by decide) ?_
    refine lv_iconst (v := (nI 1)) X.1 X.2.1 dX12_importTable_9 (by decide) ?_
    refine (c_inN g y 0 1 (by omega) (by omega)).callS (rest := []) X dX12_importTable_10 q1103 tX12_in hK (hP.sub [] rfl) hl ⟨⟨Nat.le_of_ble_eq_true rfl, Nat.le_of_ble_eq_true rfl⟩, Nat.le_of_ble_eq_true rfl, Nat.le_of_ble_eq_true rfl⟩ rfl rfl (Nat.le_of_ble_eq_true rfl) ?_
    refine b_if_ne (tgt := 18) X dX12_importTable_13 (by decide) (fun c13 => ?_) (fun c13 => ?_)
    · exfalso; have h6 := of_decide_eq_true c13; omega
    · refine lv_iconst (v := (-1)) X.1 X.2.1 dX12_importTable_16 (by decide) ?_
      exact PuI.ret X hr hlk dX12_importTable_17 (nI_nar _) (rfl)

set_option maxHeartbeats 4000000 in
set_option maxRecDepth 100000 in
theorem m_createTable_no (g : G5) (m0 : Nat) (lt : Nat) (er : Nat) (el : Nat) (cm_ : Nat) (sv : Nat) (md : Nat) (fmm : Nat) (lc : Nat) (lz : Nat) (af : Nat) (pt_ : Nat) (oc : Nat) (ty_ : Nat) (sz_ : Nat) (em : Nat) (k : Nat) (n : Nat) (s : List Nat) (h : List (List Nat)) (c : List Nat) (tk : Bool) (k0 : Nat) (n0 : Nat) (s0 : List Nat) (z : List Nat) (p : List Int) (x : Int32) (y : Int32) (w : Int32) (hno : ¬ ((x.toInt = 0 ∨ x.toInt = 1) ∧ (y.toInt = 0 ∨ y.toInt = 1) ∧ 0 ≤ w.toInt ∧ w.toInt ≤ 256)) : PuI yX12_createTable cX12_createTable 5 (some .int) 2 42 g [.ref m0, .int x, .int y, .int w] [(m0, .inr (11, [.int (nI k), .int (nI n), .ref lt, .int (nI s.length), .ref er, .ref el, .int (nI h.length), .ref cm_, .int (nI c.length), .int (bI tk), .int (nI k0), .int (nI n0), .ref sv, .int (nI s0.length), .ref md, .int (nI z.length), .ref fmm, .ref lc, .ref lz, .ref af, .ref pt_, .int (nI p.length), .ref oc, .ref ty_, .ref sz_, .ref em]))] (if (x.toInt = 0 ∨ x.toInt = 1) ∧ (y.toInt = 0 ∨ y.toInt = 1) ∧ w.toInt ≤ 256 then (-14) else (-1)) := by
  refine PuI.of (by decide +kernel) (Nat.le_of_ble_eq_true rfl) ?_
  intro p_ l_ e_ S_ m_ args below meth co X hr hlk hP hK ls hl
  have X : CallFix p_ m_ co cX12_createTable 5 S_ args lw_all RX12 := X
  have hl : lv_has ls 5 [(0, .ref m0), (1, .int x), (2, .int y), (3, .int w)] := hl
  refine lv_iload_n X.1 X.2.1 dX12_createTable_0 rfl (lv_at hl 1 rfl) ?_
  refine (c_misT g x).callS (rest := []) X dX12_createTable_1 q1455 tX12_isTable hK (hP.sub [] rfl) hl ⟨⟨Nat.le_of_ble_eq_true rfl, Nat.le_of_ble_eq_true rfl⟩, Nat.le_of_ble_eq_true rfl, Nat.le_of_ble_eq_true rfl⟩ rfl rfl (Nat.le_of_ble_eq_true rfl) ?_
  refine b_if_eq (tgt := 23) X dX12_createTable_4 (by decide) (fun c4 => ?_) (fun c4 => ?_)
  · have h5 := of_decide_eq_false c4
    refine lv_iconst (v := (-1)) X.1 X.2.1 dX12_createTable_23 (by decide) ?_
    exact PuI.ret X hr hlk dX12_createTable_24 (nI_nar _) (by rw [if_neg (by omega)])
  · have h5 := of_decide_eq_true c4
    refine lv_iload_n X.1 X.2.1 dX12_createTable_7 rfl (lv_at hl 2 rfl) ?_
    refine lv_iconst (v := (nI 0)) X.1 X.2.1 dX12_createTable_8 (by decide) ?_
    refine lv_iconst (v := (nI 1)) X.1 X.2.1 dX12_createTable_9 (by decide) ?_
    refine (c_inN g y 0 1 (by omega) (by omega)).callS (rest := []) X dX12_createTable_10 q1103 tX12_in hK (hP.sub [] rfl) hl ⟨⟨Nat.le_of_ble_eq_true rfl, Nat.le_of_ble_eq_true rfl⟩, Nat.le_of_ble_eq_true rfl, Nat.le_of_ble_eq_true rfl⟩ rfl rfl (Nat.le_of_ble_eq_true rfl) ?_
    refine b_if_eq (tgt := 23) X dX12_createTable_13 (by decide) (fun c13 => ?_) (fun c13 => ?_)
    · have h6 := of_decide_eq_false c13
      refine lv_iconst (v := (-1)) X.1 X.2.1 dX12_createTable_23 (by decide) ?_
      exact PuI.ret X hr hlk dX12_createTable_24 (nI_nar _) (by rw [if_neg (by omega)])
    · have h6 := of_decide_eq_true c13
      refine lv_iload_n X.1 X.2.1 dX12_createTable_16 rfl (lv_at hl 3 rfl) ?_
      refine lv_sipush (v := (nI 256)) X.1 X.2.1 dX12_createTable_17 (by decide) ?_
      refine z_icmp_le (tgt := 25) X dX12_createTable_20 (by decide) rfl (nI_toInt (by omega)) (fun c20 => ?_) (fun c20 => ?_)
      · refine lv_iload_n X.1 X.2.1 dX12_createTable_25 rfl (lv_at hl 3 rfl) ?_
        refine z_if_ge (tgt := 32) X dX12_createTable_26 (by decide) rfl (fun c26 => ?_) (fun c26 => ?_)
        · exfalso; omega
        · refine lv_bipush (v := (-14)) X.1 X.2.1 dX12_createTable_29 (by decide) ?_
          exact PuI.ret X hr hlk dX12_createTable_31 (nI_nar _) (by rw [if_pos (by omega)])
      · refine lv_iconst (v := (-1)) X.1 X.2.1 dX12_createTable_23 (by decide) ?_
        exact PuI.ret X hr hlk dX12_createTable_24 (nI_nar _) (by rw [if_neg (by omega)])

set_option maxHeartbeats 4000000 in
set_option maxRecDepth 100000 in
theorem m_problem0 (g : G5) (m0 : Nat) (lt : Nat) (er : Nat) (el : Nat) (cm_ : Nat) (sv : Nat) (md : Nat) (fmm : Nat) (lc : Nat) (lz : Nat) (af : Nat) (pt_ : Nat) (oc : Nat) (ty_ : Nat) (sz_ : Nat) (em : Nat) (k : Nat) (n : Nat) (s : List Nat) (h : List (List Nat)) (c : List Nat) (tk : Bool) (k0 : Nat) (n0 : Nat) (s0 : List Nat) (z : List Nat) (p : List Int) (fy : Nat → Int32) (fz_ : Nat → Int32) (fg : Nat → Int32) (ty : Int) (v : List Int32) (y : Int32) (hv : v.length ≤ 256) (hty : -1 ≤ ty ∧ ty ≤ 1) (hmt : mtb 0 fy fz_ fg ty v) : PuI yX12_problem cX12_problem 3 (some .int) 2 42 g [.ref m0, .int (nI 0), .int y] [(m0, .inr (11, [.int (nI k), .int (nI n), .ref lt, .int (nI s.length), .ref er, .ref el, .int (nI h.length), .ref cm_, .int (nI c.length), .int (bI tk), .int (nI k0), .int (nI n0), .ref sv, .int (nI s0.length), .ref md, .int (nI z.length), .ref fmm, .ref lc, .ref lz, .ref af, .ref pt_, .int (nI p.length), .ref oc, .ref ty_, .ref sz_, .ref em])), (ty_, .inl (g.2.1, 2, .inl fy)), (sz_, .inl (g.2.1, 2, .inl fz_)), (em, .inl (g.2.1, 512, .inl fg))] (if ty = -1 then (-11) else if hasB y v.length then 0 else (-13)) := by
  refine PuI.of (by decide +kernel) (Nat.le_of_ble_eq_true rfl) ?_
  intro p_ l_ e_ S_ m_ args below meth co X hr hlk hP hK ls hl
  have X : CallFix p_ m_ co cX12_problem 3 S_ args lw_all RX12 := X
  have hl : lv_has ls 3 [(0, .ref m0), (1, .int (nI 0)), (2, .int y)] := hl
  refine lv_iload_n X.1 X.2.1 dX12_problem_0 rfl (lv_at hl 1 rfl) ?_
  refine (c_misT g (nI 0)).callS (rest := []) X dX12_problem_1 q1455 tX12_isTable hK (hP.sub [] rfl) hl ⟨⟨Nat.le_of_ble_eq_true rfl, Nat.le_of_ble_eq_true rfl⟩, Nat.le_of_ble_eq_true rfl, Nat.le_of_ble_eq_true rfl⟩ rfl rfl (Nat.le_of_ble_eq_true rfl) ?_
  refine b_if_ne (tgt := 9) X dX12_problem_4 (by decide) (fun c4 => ?_) (fun c4 => ?_)
  · refine lv_aload_n X.1 X.2.1 dX12_problem_9 rfl (lv_at hl 0 rfl) ?_
    refine va_get (D := g.1) (ci := 11) (v := .ref ty_) (C := RX12) (T := TX12) (N := 26) X.1 X.2.1 X.2.2.2.2 iwX12 X.2.2.2.1 hK hP 0 rfl rfl 23 (by decide) (X.2.2.2.2 _ q1043) (fun _ h9 => h9) rfl dX12_problem_10 ?_
    refine lv_iload_n X.1 X.2.1 dX12_problem_13 rfl (lv_at hl 1 rfl) ?_
    refine n_iald X hK hP 1 0 rfl rfl (by omega) (by decide) dX12_problem_14 ?_
    refine tp_i (y := (iI ty)) (hmt.1) ?_
    refine z_if_ge (tgt := 21) X dX12_problem_15 (by decide) (iI_toInt (by omega) (by omega)) (fun c15 => ?_) (fun c15 => ?_)
    · refine lv_iload_n X.1 X.2.1 dX12_problem_21 rfl (lv_at hl 2 rfl) ?_
      refine lv_iconst (v := (nI 0)) X.1 X.2.1 dX12_problem_22 (by decide) ?_
      refine lv_aload_n X.1 X.2.1 dX12_problem_23 rfl (lv_at hl 0 rfl) ?_
      refine va_get (D := g.1) (ci := 11) (v := .ref sz_) (C := RX12) (T := TX12) (N := 26) X.1 X.2.1 X.2.2.2.2 iwX12 X.2.2.2.1 hK hP 0 rfl rfl 24 (by decide) (X.2.2.2.2 _ q1044) (fun _ h9 => h9) rfl dX12_problem_24 ?_
      refine lv_iload_n X.1 X.2.1 dX12_problem_27 rfl (lv_at hl 1 rfl) ?_
      refine n_iald X hK hP 2 0 rfl rfl (by omega) (by decide) dX12_problem_28 ?_
      refine tp_i (y := (nI v.length)) (hmt.2.1) ?_
      refine lv_iconst (v := (nI 1)) X.1 X.2.1 dX12_problem_29 (by decide) ?_
      refine lv_isub X.1 X.2.1 dX12_problem_30 ?_
      refine tp_i (y := (iI (((v.length : Nat) : Int) - ((1 : Nat) : Int)))) (by first | rw [iI_sub] | rw [nI_iI, nI_iI, iI_sub] | rw [nI_iI, iI_sub]) ?_
      refine (c_inI g y 0 (((v.length : Nat) : Int) - ((1 : Nat) : Int)) (by omega) (by omega)).callS (rest := []) X dX12_problem_31 q1103 tX12_in hK (hP.sub [] rfl) hl ⟨⟨Nat.le_of_ble_eq_true rfl, Nat.le_of_ble_eq_true rfl⟩, Nat.le_of_ble_eq_true rfl, Nat.le_of_ble_eq_true rfl⟩ rfl rfl (Nat.le_of_ble_eq_true rfl) ?_
      refine b_if_eq (tgt := 41) X dX12_problem_34 (by decide) (fun c34 => ?_) (fun c34 => ?_)
      · refine lv_bipush (v := (-13)) X.1 X.2.1 dX12_problem_41 (by decide) ?_
        exact PuI.ret X hr hlk dX12_problem_43 (nI_nar _) (by rw [if_neg (by omega)]; first | (rw [show hasB y v.length = true from by unfold hasB; have := of_decide_eq_true c34; exact decide_eq_true (by omega)]; rfl) | (rw [show hasB y v.length = false from by unfold hasB; have := of_decide_eq_false c34; exact decide_eq_false (by omega)]; rfl))
      · refine lv_iconst (v := (nI 0)) X.1 X.2.1 dX12_problem_37 (by decide) ?_
        refine lv_goto (tgt := 43) X.1 X.2.1 dX12_problem_38 (by decide) ?_
        exact PuI.ret X hr hlk dX12_problem_43 (nI_nar _) (by rw [if_neg (by omega)]; first | (rw [show hasB y v.length = true from by unfold hasB; have := of_decide_eq_true c34; exact decide_eq_true (by omega)]; rfl) | (rw [show hasB y v.length = false from by unfold hasB; have := of_decide_eq_false c34; exact decide_eq_false (by omega)]; rfl))
    · refine lv_bipush (v := (-11)) X.1 X.2.1 dX12_problem_18 (by decide) ?_
      exact PuI.ret X hr hlk dX12_problem_20 (nI_nar _) (by rw [if_pos (by omega)])
  · exfalso; have h6 := of_decide_eq_false c4; rw [nI_toInt (by omega)] at h6; omega

set_option maxHeartbeats 4000000 in
set_option maxRecDepth 100000 in
theorem m_readTable0 (g : G5) (m0 : Nat) (lt : Nat) (er : Nat) (el : Nat) (cm_ : Nat) (sv : Nat) (md : Nat) (fmm : Nat) (lc : Nat) (lz : Nat) (af : Nat) (pt_ : Nat) (oc : Nat) (ty_ : Nat) (sz_ : Nat) (em : Nat) (k : Nat) (n : Nat) (s : List Nat) (h : List (List Nat)) (c : List Nat) (tk : Bool) (k0 : Nat) (n0 : Nat) (s0 : List Nat) (z : List Nat) (p : List Int) (fy : Nat → Int32) (fz_ : Nat → Int32) (fg : Nat → Int32) (ty : Int) (v : List Int32) (y : Int32) (hv : v.length ≤ 256) (hty : -1 ≤ ty ∧ ty ≤ 1) (hmt : mtb 0 fy fz_ fg ty v) : PuI yX12_readTable cX12_readTable 4 (some .int) 3 64 g [.ref m0, .int (nI 0), .int y] [(m0, .inr (11, [.int (nI k), .int (nI n), .ref lt, .int (nI s.length), .ref er, .ref el, .int (nI h.length), .ref cm_, .int (nI c.length), .int (bI tk), .int (nI k0), .int (nI n0), .ref sv, .int (nI s0.length), .ref md, .int (nI z.length), .ref fmm, .ref lc, .ref lz, .ref af, .ref pt_, .int (nI p.length), .ref oc, .ref ty_, .ref sz_, .ref em])), (ty_, .inl (g.2.1, 2, .inl fy)), (sz_, .inl (g.2.1, 2, .inl fz_)), (em, .inl (g.2.1, 512, .inl fg))] (a_readTable ty v y) := by
  refine PuI.of (by decide +kernel) (Nat.le_of_ble_eq_true rfl) ?_
  intro p_ l_ e_ S_ m_ args below meth co X hr hlk hP hK ls hl
  have X : CallFix p_ m_ co cX12_readTable 4 S_ args lw_all RX12 := X
  have hl : lv_has ls 4 [(0, .ref m0), (1, .int (nI 0)), (2, .int y)] := hl
  refine lv_aload_n X.1 X.2.1 dX12_readTable_0 rfl (lv_at hl 0 rfl) ?_
  refine lv_iload_n X.1 X.2.1 dX12_readTable_1 rfl (lv_at hl 1 rfl) ?_
  refine lv_iload_n X.1 X.2.1 dX12_readTable_2 rfl (lv_at hl 2 rfl) ?_
  refine (m_problem0 g m0 lt er el cm_ sv md fmm lc lz af pt_ oc ty_ sz_ em k n s h c tk k0 n0 s0 z p fy fz_ fg ty v y (by omega) (by omega) (by assumption)).callV (rest := []) X dX12_readTable_3 q1462 tX12_problem hK (hP.sub [0, 1, 2, 3] rfl) 0 11 rfl rfl rfl hl ⟨⟨Nat.le_of_ble_eq_true rfl, Nat.le_of_ble_eq_true rfl⟩, Nat.le_of_ble_eq_true rfl, Nat.le_of_ble_eq_true rfl⟩ rfl rfl (Nat.le_of_ble_eq_true rfl) ?_
  rcases (show ty = -1 ∨ (ty ≠ -1 ∧ hasB y v.length = true) ∨ (ty ≠ -1 ∧ hasB y v.length = false) by cases hasB y v.length <;> simp <;> omega) with ht | ⟨ht, hy⟩ | ⟨ht, hy⟩
  · refine tp_i (y := (-11)) (by rw [if_pos ht]) ?_
    refine lv_istore_n (lv' := [(3, .int (-11)), (0, .ref m0), (1, .int (nI 0)), (2, .int y)]) X.1 X.2.1 dX12_readTable_6 rfl hl (by decide) rfl (fun ls hl => ?_)
    refine lv_iload_n X.1 X.2.1 dX12_readTable_7 rfl (lv_at hl 0 rfl) ?_
    refine z_if_ge (tgt := 15) X dX12_readTable_8 (by decide) (show Int32.toInt ((-11)) = (-11) from rfl) (fun c8 => ?_) (fun c8 => ?_)
    · exfalso; omega
    · refine lv_iload_n X.1 X.2.1 dX12_readTable_11 rfl (lv_at hl 0 rfl) ?_
      refine lv_goto (tgt := 27) X.1 X.2.1 dX12_readTable_12 (by decide) ?_
      exact PuI.ret X hr hlk dX12_readTable_27 (nI_nar _) (by unfold a_readTable; first | rw [if_pos ht] | (rw [if_neg ht, hy]; first | rfl | (rw [xN_N (by omega)]; exact hmt.2.2 j hj)))
  · refine tp_i (y := (nI 0)) (by rw [if_neg ht, hy]; rfl) ?_
    refine lv_istore_n (lv' := [(3, .int (nI 0)), (0, .ref m0), (1, .int (nI 0)), (2, .int y)]) X.1 X.2.1 dX12_readTable_6 rfl hl (by decide) rfl (fun ls hl => ?_)
    refine lv_iload_n X.1 X.2.1 dX12_readTable_7 rfl (lv_at hl 0 rfl) ?_
    refine z_if_ge (tgt := 15) X dX12_readTable_8 (by decide) (nI_toInt (by omega)) (fun c8 => ?_) (fun c8 => ?_)
    · obtain ⟨j, hj, rfl⟩ := hasB_t hy
      refine lv_aload_n X.1 X.2.1 dX12_readTable_15 rfl (lv_at hl 1 rfl) ?_
      refine va_get (D := g.1) (ci := 11) (v := .ref em) (C := RX12) (T := TX12) (N := 26) X.1 X.2.1 X.2.2.2.2 iwX12 X.2.2.2.1 hK hP 0 rfl rfl 25 (by decide) (X.2.2.2.2 _ q1045) (fun _ h9 => h9) rfl dX12_readTable_16 ?_
      refine lv_sipush (v := (nI 256)) X.1 X.2.1 dX12_readTable_19 (by decide) ?_
      refine lv_iload_n X.1 X.2.1 dX12_readTable_22 rfl (lv_at hl 2 rfl) ?_
      refine n_mul X dX12_readTable_23 ?_
      refine lv_iload_n X.1 X.2.1 dX12_readTable_24 rfl (lv_at hl 3 rfl) ?_
      refine n_add X dX12_readTable_25 ?_
      refine n_iald X hK hP 3 0 rfl rfl (by omega) (by decide) dX12_readTable_26 ?_
      exact PuI.ret X hr hlk dX12_readTable_27 (nI_nar _) (by unfold a_readTable; first | rw [if_pos ht] | (rw [if_neg ht, hy]; first | rfl | (rw [xN_N (by omega)]; exact hmt.2.2 j hj)))
    · exfalso; omega
  · refine tp_i (y := (-13)) (by rw [if_neg ht, hy]; rfl) ?_
    refine lv_istore_n (lv' := [(3, .int (-13)), (0, .ref m0), (1, .int (nI 0)), (2, .int y)]) X.1 X.2.1 dX12_readTable_6 rfl hl (by decide) rfl (fun ls hl => ?_)
    refine lv_iload_n X.1 X.2.1 dX12_readTable_7 rfl (lv_at hl 0 rfl) ?_
    refine z_if_ge (tgt := 15) X dX12_readTable_8 (by decide) (show Int32.toInt ((-13)) = (-13) from rfl) (fun c8 => ?_) (fun c8 => ?_)
    · exfalso; omega
    · refine lv_iload_n X.1 X.2.1 dX12_readTable_11 rfl (lv_at hl 0 rfl) ?_
      refine lv_goto (tgt := 27) X.1 X.2.1 dX12_readTable_12 (by decide) ?_
      exact PuI.ret X hr hlk dX12_readTable_27 (nI_nar _) (by unfold a_readTable; first | rw [if_pos ht] | (rw [if_neg ht, hy]; first | rfl | (rw [xN_N (by omega)]; exact hmt.2.2 j hj)))

set_option maxHeartbeats 4000000 in
set_option maxRecDepth 100000 in
theorem m_writeTable_no0 (g : G5) (m0 : Nat) (lt : Nat) (er : Nat) (el : Nat) (cm_ : Nat) (sv : Nat) (md : Nat) (fmm : Nat) (lc : Nat) (lz : Nat) (af : Nat) (pt_ : Nat) (oc : Nat) (ty_ : Nat) (sz_ : Nat) (em : Nat) (k : Nat) (n : Nat) (s : List Nat) (h : List (List Nat)) (c : List Nat) (tk : Bool) (k0 : Nat) (n0 : Nat) (s0 : List Nat) (z : List Nat) (p : List Int) (fy : Nat → Int32) (fz_ : Nat → Int32) (fg : Nat → Int32) (ty : Int) (v : List Int32) (y : Int32) (x : Int32) (hv : v.length ≤ 256) (hty : -1 ≤ ty ∧ ty ≤ 1) (hmt : mtb 0 fy fz_ fg ty v) (hno : ty = -1 ∨ hasB y v.length = false) : PuI yX12_writeTable cX12_writeTable 5 (some .int) 3 64 g [.ref m0, .int (nI 0), .int y, .int x] [(m0, .inr (11, [.int (nI k), .int (nI n), .ref lt, .int (nI s.length), .ref er, .ref el, .int (nI h.length), .ref cm_, .int (nI c.length), .int (bI tk), .int (nI k0), .int (nI n0), .ref sv, .int (nI s0.length), .ref md, .int (nI z.length), .ref fmm, .ref lc, .ref lz, .ref af, .ref pt_, .int (nI p.length), .ref oc, .ref ty_, .ref sz_, .ref em])), (ty_, .inl (g.2.1, 2, .inl fy)), (sz_, .inl (g.2.1, 2, .inl fz_)), (em, .inl (g.2.1, 512, .inl fg))] (if ty = -1 then (-11) else (-13)) := by
  refine PuI.of (by decide +kernel) (Nat.le_of_ble_eq_true rfl) ?_
  intro p_ l_ e_ S_ m_ args below meth co X hr hlk hP hK ls hl
  have X : CallFix p_ m_ co cX12_writeTable 5 S_ args lw_all RX12 := X
  have hl : lv_has ls 5 [(0, .ref m0), (1, .int (nI 0)), (2, .int y), (3, .int x)] := hl
  refine lv_aload_n X.1 X.2.1 dX12_writeTable_0 rfl (lv_at hl 0 rfl) ?_
  refine lv_iload_n X.1 X.2.1 dX12_writeTable_1 rfl (lv_at hl 1 rfl) ?_
  refine lv_iload_n X.1 X.2.1 dX12_writeTable_2 rfl (lv_at hl 2 rfl) ?_
  refine (m_problem0 g m0 lt er el cm_ sv md fmm lc lz af pt_ oc ty_ sz_ em k n s h c tk k0 n0 s0 z p fy fz_ fg ty v y (by omega) (by omega) (by assumption)).callV (rest := []) X dX12_writeTable_3 q1462 tX12_problem hK (hP.sub [0, 1, 2, 3] rfl) 0 11 rfl rfl rfl hl ⟨⟨Nat.le_of_ble_eq_true rfl, Nat.le_of_ble_eq_true rfl⟩, Nat.le_of_ble_eq_true rfl, Nat.le_of_ble_eq_true rfl⟩ rfl rfl (Nat.le_of_ble_eq_true rfl) ?_
  rcases (show ty = -1 ∨ (ty ≠ -1 ∧ hasB y v.length = false) by rcases hno with h | h <;> first | exact Or.inl h | (by_cases e : ty = -1 <;> first | exact Or.inl e | exact Or.inr ⟨e, h⟩)) with ht | ⟨ht, hy⟩
  · refine tp_i (y := (-11)) (by rw [if_pos ht]) ?_
    refine lv_istore (lv' := [(4, .int (-11)), (0, .ref m0), (1, .int (nI 0)), (2, .int y), (3, .int x)]) X.1 X.2.1 dX12_writeTable_6 hl (by decide) rfl (fun ls hl => ?_)
    refine lv_iload X.1 X.2.1 dX12_writeTable_8 (lv_at hl 0 rfl) ?_
    refine z_if_ge (tgt := 16) X dX12_writeTable_10 (by decide) (show Int32.toInt ((-11)) = (-11) from rfl) (fun c10 => ?_) (fun c10 => ?_)
    · exfalso; omega
    · refine lv_iload X.1 X.2.1 dX12_writeTable_13 (lv_at hl 0 rfl) ?_
      exact PuI.ret X hr hlk dX12_writeTable_15 (nI_nar _) (by first | (rw [if_pos ht]; done) | (rw [if_neg ht]; done))
  · refine tp_i (y := (-13)) (by rw [if_neg ht, hy]; rfl) ?_
    refine lv_istore (lv' := [(4, .int (-13)), (0, .ref m0), (1, .int (nI 0)), (2, .int y), (3, .int x)]) X.1 X.2.1 dX12_writeTable_6 hl (by decide) rfl (fun ls hl => ?_)
    refine lv_iload X.1 X.2.1 dX12_writeTable_8 (lv_at hl 0 rfl) ?_
    refine z_if_ge (tgt := 16) X dX12_writeTable_10 (by decide) (show Int32.toInt ((-13)) = (-13) from rfl) (fun c10 => ?_) (fun c10 => ?_)
    · exfalso; omega
    · refine lv_iload X.1 X.2.1 dX12_writeTable_13 (lv_at hl 0 rfl) ?_
      exact PuI.ret X hr hlk dX12_writeTable_15 (nI_nar _) (by first | (rw [if_pos ht]; done) | (rw [if_neg ht]; done))

set_option maxHeartbeats 4000000 in
set_option maxRecDepth 100000 in
theorem m_writeTable0 (g : G5) (m0 : Nat) (lt : Nat) (er : Nat) (el : Nat) (cm_ : Nat) (sv : Nat) (md : Nat) (fmm : Nat) (lc : Nat) (lz : Nat) (af : Nat) (pt_ : Nat) (oc : Nat) (ty_ : Nat) (sz_ : Nat) (em : Nat) (k : Nat) (n : Nat) (s : List Nat) (h : List (List Nat)) (c : List Nat) (tk : Bool) (k0 : Nat) (n0 : Nat) (s0 : List Nat) (z : List Nat) (p : List Int) (fy : Nat → Int32) (fz_ : Nat → Int32) (fg : Nat → Int32) (ty : Int) (v : List Int32) (j : Nat) (x : Int32) (hv : v.length ≤ 256) (hty : -1 ≤ ty ∧ ty ≤ 1) (hmt : mtb 0 fy fz_ fg ty v) (hty2 : ty ≠ -1) (hj : j < v.length) : MuI (S := (Nat → Int32)) yX12_writeTable cX12_writeTable 5 (some .int) 3 64 g [.ref m0, .int (nI 0), .int (nI j), .int x] [(m0, .inr (11, [.int (nI k), .int (nI n), .ref lt, .int (nI s.length), .ref er, .ref el, .int (nI h.length), .ref cm_, .int (nI c.length), .int (bI tk), .int (nI k0), .int (nI n0), .ref sv, .int (nI s0.length), .ref md, .int (nI z.length), .ref fmm, .ref lc, .ref lz, .ref af, .ref pt_, .int (nI p.length), .ref oc, .ref ty_, .ref sz_, .ref em])), (ty_, .inl (g.2.1, 2, .inl fy)), (sz_, .inl (g.2.1, 2, .inl fz_)), (em, .inl (g.2.1, 512, .inl fg))] (fun r fg1 => r = (nI 1) ∧ mtb 0 fy fz_ fg1 ty (v.set j (narT ty x)) ∧ oth 0 fy fz_ fg fy fz_ fg1) (fun fg1 => [(m0, .inr (11, [.int (nI k), .int (nI n), .ref lt, .int (nI s.length), .ref er, .ref el, .int (nI h.length), .ref cm_, .int (nI c.length), .int (bI tk), .int (nI k0), .int (nI n0), .ref sv, .int (nI s0.length), .ref md, .int (nI z.length), .ref fmm, .ref lc, .ref lz, .ref af, .ref pt_, .int (nI p.length), .ref oc, .ref ty_, .ref sz_, .ref em])), (ty_, .inl (g.2.1, 2, .inl fy)), (sz_, .inl (g.2.1, 2, .inl fz_)), (em, .inl (g.2.1, 512, .inl fg1))]) := by
  refine MuI.of (by decide +kernel) (Nat.le_of_ble_eq_true rfl) ?_
  intro p_ l_ e_ S_ m_ args below meth co X hr hlk hP hK A hA hD hS ls hl
  have X : CallFix p_ m_ co cX12_writeTable 5 S_ args lw_all RX12 := X
  have hl : lv_has ls 5 [(0, .ref m0), (1, .int (nI 0)), (2, .int (nI j)), (3, .int x)] := hl
  have h7 : hasB (nI j) v.length = true := by rw [hasB_N (by omega)]; exact decide_eq_true (by omega)
  refine lv_aload_n X.1 X.2.1 dX12_writeTable_0 rfl (lv_at hl 0 rfl) ?_
  refine lv_iload_n X.1 X.2.1 dX12_writeTable_1 rfl (lv_at hl 1 rfl) ?_
  refine lv_iload_n X.1 X.2.1 dX12_writeTable_2 rfl (lv_at hl 2 rfl) ?_
  refine (m_problem0 g m0 lt er el cm_ sv md fmm lc lz af pt_ oc ty_ sz_ em k n s h c tk k0 n0 s0 z p fy fz_ fg ty v (nI j) (by omega) (by omega) (by assumption)).callV (rest := []) X dX12_writeTable_3 q1462 tX12_problem hK (hP.sub [0, 1, 2, 3] rfl) 0 11 rfl rfl rfl hl ⟨⟨Nat.le_of_ble_eq_true rfl, Nat.le_of_ble_eq_true rfl⟩, Nat.le_of_ble_eq_true rfl, Nat.le_of_ble_eq_true rfl⟩ rfl rfl (Nat.le_of_ble_eq_true rfl) ?_
  refine tp_i (y := (nI 0)) (by rw [if_neg hty2, h7]; rfl) ?_
  refine lv_istore (lv' := [(4, .int (nI 0)), (0, .ref m0), (1, .int (nI 0)), (2, .int (nI j)), (3, .int x)]) X.1 X.2.1 dX12_writeTable_6 hl (by decide) rfl (fun ls hl => ?_)
  refine lv_iload X.1 X.2.1 dX12_writeTable_8 (lv_at hl 0 rfl) ?_
  refine z_if_ge (tgt := 16) X dX12_writeTable_10 (by decide) (nI_toInt (by omega)) (fun c10 => ?_) (fun c10 => ?_)
  · refine lv_aload_n X.1 X.2.1 dX12_writeTable_16 rfl (lv_at hl 1 rfl) ?_
    refine va_get (D := g.1) (ci := 11) (v := .ref em) (C := RX12) (T := TX12) (N := 26) X.1 X.2.1 X.2.2.2.2 iwX12 X.2.2.2.1 hK hP 0 rfl rfl 25 (by decide) (X.2.2.2.2 _ q1045) (fun _ h9 => h9) rfl dX12_writeTable_17 ?_
    refine lv_sipush (v := (nI 256)) X.1 X.2.1 dX12_writeTable_20 (by decide) ?_
    refine lv_iload_n X.1 X.2.1 dX12_writeTable_23 rfl (lv_at hl 2 rfl) ?_
    refine n_mul X dX12_writeTable_24 ?_
    refine lv_iload_n X.1 X.2.1 dX12_writeTable_25 rfl (lv_at hl 3 rfl) ?_
    refine n_add X dX12_writeTable_26 ?_
    refine lv_aload_n X.1 X.2.1 dX12_writeTable_27 rfl (lv_at hl 1 rfl) ?_
    refine va_get (D := g.1) (ci := 11) (v := .ref ty_) (C := RX12) (T := TX12) (N := 26) X.1 X.2.1 X.2.2.2.2 iwX12 X.2.2.2.1 hK hP 0 rfl rfl 23 (by decide) (X.2.2.2.2 _ q1043) (fun _ h9 => h9) rfl dX12_writeTable_28 ?_
    refine lv_iload_n X.1 X.2.1 dX12_writeTable_31 rfl (lv_at hl 2 rfl) ?_
    refine n_iald X hK hP 1 0 rfl rfl (by omega) (by decide) dX12_writeTable_32 ?_
    refine tp_i (y := (iI ty)) (hmt.1) ?_
    refine z_if_ne (tgt := 41) X dX12_writeTable_33 (by decide) (iI_toInt (by omega) (by omega)) (fun c33 => ?_) (fun c33 => ?_)
    · refine lv_iload_n X.1 X.2.1 dX12_writeTable_41 rfl (lv_at hl 4 rfl) ?_
      refine lv_i2c X.1 X.2.1 dX12_writeTable_42 rfl ?_
      refine tp_i (y := (narT ty x)) (by unfold narT; first | rw [if_pos (by omega)] | rw [if_neg (by omega)]) ?_
      refine n_iast X hK hP hD hS 3 0 rfl rfl (by omega) (by decide) dX12_writeTable_43 (fun H locs hP hD hS => ?_)
      have hP : PP g [(m0, .inr (11, [.int (nI k), .int (nI n), .ref lt, .int (nI s.length), .ref er, .ref el, .int (nI h.length), .ref cm_, .int (nI c.length), .int (bI tk), .int (nI k0), .int (nI n0), .ref sv, .int (nI s0.length), .ref md, .int (nI z.length), .ref fmm, .ref lc, .ref lz, .ref af, .ref pt_, .int (nI p.length), .ref oc, .ref ty_, .ref sz_, .ref em])), (ty_, .inl (g.2.1, 2, .inl fy)), (sz_, .inl (g.2.1, 2, .inl fz_)), (em, .inl (g.2.1, 512, .inl (upd fg (256 * 0 + j) (narT ty x))))] H := hP
      have hD : va_D A [(m0, .inr (11, [.int (nI k), .int (nI n), .ref lt, .int (nI s.length), .ref er, .ref el, .int (nI h.length), .ref cm_, .int (nI c.length), .int (bI tk), .int (nI k0), .int (nI n0), .ref sv, .int (nI s0.length), .ref md, .int (nI z.length), .ref fmm, .ref lc, .ref lz, .ref af, .ref pt_, .int (nI p.length), .ref oc, .ref ty_, .ref sz_, .ref em])), (ty_, .inl (g.2.1, 2, .inl fy)), (sz_, .inl (g.2.1, 2, .inl fz_)), (em, .inl (g.2.1, 512, .inl (upd fg (256 * 0 + j) (narT ty x))))] := hD
      refine lv_iconst (v := (nI 1)) X.1 X.2.1 dX12_writeTable_44 (by decide) ?_
      exact MuI.ret X hr hlk hK hS dX12_writeTable_45 (nI_nar _) (upd fg (256 * 0 + j) (narT ty x)) (hP.sub [0, 1, 2, 3] rfl) (hD.sub [0, 1, 2, 3] (by decide) rfl) (⟨rfl, mtb_set hmt _, oth_e (oth_rf _ _ _ _) (by omega) (by omega)⟩)
    · refine lv_iload_n X.1 X.2.1 dX12_writeTable_36 rfl (lv_at hl 4 rfl) ?_
      refine lv_i2b X.1 X.2.1 dX12_writeTable_37 rfl ?_
      refine lv_goto (tgt := 43) X.1 X.2.1 dX12_writeTable_38 (by decide) ?_
      refine tp_i (y := (narT ty x)) (by unfold narT; first | rw [if_pos (by omega)] | rw [if_neg (by omega)]) ?_
      refine n_iast X hK hP hD hS 3 0 rfl rfl (by omega) (by decide) dX12_writeTable_43 (fun H locs hP hD hS => ?_)
      have hP : PP g [(m0, .inr (11, [.int (nI k), .int (nI n), .ref lt, .int (nI s.length), .ref er, .ref el, .int (nI h.length), .ref cm_, .int (nI c.length), .int (bI tk), .int (nI k0), .int (nI n0), .ref sv, .int (nI s0.length), .ref md, .int (nI z.length), .ref fmm, .ref lc, .ref lz, .ref af, .ref pt_, .int (nI p.length), .ref oc, .ref ty_, .ref sz_, .ref em])), (ty_, .inl (g.2.1, 2, .inl fy)), (sz_, .inl (g.2.1, 2, .inl fz_)), (em, .inl (g.2.1, 512, .inl (upd fg (256 * 0 + j) (narT ty x))))] H := hP
      have hD : va_D A [(m0, .inr (11, [.int (nI k), .int (nI n), .ref lt, .int (nI s.length), .ref er, .ref el, .int (nI h.length), .ref cm_, .int (nI c.length), .int (bI tk), .int (nI k0), .int (nI n0), .ref sv, .int (nI s0.length), .ref md, .int (nI z.length), .ref fmm, .ref lc, .ref lz, .ref af, .ref pt_, .int (nI p.length), .ref oc, .ref ty_, .ref sz_, .ref em])), (ty_, .inl (g.2.1, 2, .inl fy)), (sz_, .inl (g.2.1, 2, .inl fz_)), (em, .inl (g.2.1, 512, .inl (upd fg (256 * 0 + j) (narT ty x))))] := hD
      refine lv_iconst (v := (nI 1)) X.1 X.2.1 dX12_writeTable_44 (by decide) ?_
      exact MuI.ret X hr hlk hK hS dX12_writeTable_45 (nI_nar _) (upd fg (256 * 0 + j) (narT ty x)) (hP.sub [0, 1, 2, 3] rfl) (hD.sub [0, 1, 2, 3] (by decide) rfl) (⟨rfl, mtb_set hmt _, oth_e (oth_rf _ _ _ _) (by omega) (by omega)⟩)
  · exfalso; omega

set_option maxHeartbeats 4000000 in
set_option maxRecDepth 100000 in
theorem m_createTable0 (g : G5) (m0 : Nat) (lt : Nat) (er : Nat) (el : Nat) (cm_ : Nat) (sv : Nat) (md : Nat) (fmm : Nat) (lc : Nat) (lz : Nat) (af : Nat) (pt_ : Nat) (oc : Nat) (ty_ : Nat) (sz_ : Nat) (em : Nat) (k : Nat) (n : Nat) (s : List Nat) (h : List (List Nat)) (c : List Nat) (tk : Bool) (k0 : Nat) (n0 : Nat) (s0 : List Nat) (z : List Nat) (p : List Int) (fy : Nat → Int32) (fz_ : Nat → Int32) (fg : Nat → Int32) (a : Nat) (m : Nat) (ha : a < 2) (hm : m ≤ 256) : MuI (S := (Nat → Int32) × (Nat → Int32) × (Nat → Int32)) yX12_createTable cX12_createTable 5 (some .int) 2 42 g [.ref m0, .int (nI 0), .int (nI a), .int (nI m)] [(m0, .inr (11, [.int (nI k), .int (nI n), .ref lt, .int (nI s.length), .ref er, .ref el, .int (nI h.length), .ref cm_, .int (nI c.length), .int (bI tk), .int (nI k0), .int (nI n0), .ref sv, .int (nI s0.length), .ref md, .int (nI z.length), .ref fmm, .ref lc, .ref lz, .ref af, .ref pt_, .int (nI p.length), .ref oc, .ref ty_, .ref sz_, .ref em])), (ty_, .inl (g.2.1, 2, .inl fy)), (sz_, .inl (g.2.1, 2, .inl fz_)), (em, .inl (g.2.1, 512, .inl fg))] (fun r u => r = (nI 1) ∧ mtb 0 u.1 u.2.1 u.2.2 ((a : Nat) : Int) (List.replicate m (0 : Int32)) ∧ oth 0 fy fz_ fg u.1 u.2.1 u.2.2) (fun u => [(m0, .inr (11, [.int (nI k), .int (nI n), .ref lt, .int (nI s.length), .ref er, .ref el, .int (nI h.length), .ref cm_, .int (nI c.length), .int (bI tk), .int (nI k0), .int (nI n0), .ref sv, .int (nI s0.length), .ref md, .int (nI z.length), .ref fmm, .ref lc, .ref lz, .ref af, .ref pt_, .int (nI p.length), .ref oc, .ref ty_, .ref sz_, .ref em])), (ty_, .inl (g.2.1, 2, .inl u.1)), (sz_, .inl (g.2.1, 2, .inl u.2.1)), (em, .inl (g.2.1, 512, .inl u.2.2))]) := by
  refine MuI.of (by decide +kernel) (Nat.le_of_ble_eq_true rfl) ?_
  intro p_ l_ e_ S_ m_ args below meth co X hr hlk hP hK A hA hD hS ls hl
  have X : CallFix p_ m_ co cX12_createTable 5 S_ args lw_all RX12 := X
  have hl : lv_has ls 5 [(0, .ref m0), (1, .int (nI 0)), (2, .int (nI a)), (3, .int (nI m))] := hl
  refine lv_iload_n X.1 X.2.1 dX12_createTable_0 rfl (lv_at hl 1 rfl) ?_
  refine (c_misT g (nI 0)).callS (rest := []) X dX12_createTable_1 q1455 tX12_isTable hK (hP.sub [] rfl) hl ⟨⟨Nat.le_of_ble_eq_true rfl, Nat.le_of_ble_eq_true rfl⟩, Nat.le_of_ble_eq_true rfl, Nat.le_of_ble_eq_true rfl⟩ rfl rfl (Nat.le_of_ble_eq_true rfl) ?_
  refine b_if_eq (tgt := 23) X dX12_createTable_4 (by decide) (fun c4 => ?_) (fun c4 => ?_)
  · exfalso; have h6 := of_decide_eq_false c4; rw [nI_toInt (by omega)] at h6; omega
  · refine lv_iload_n X.1 X.2.1 dX12_createTable_7 rfl (lv_at hl 2 rfl) ?_
    refine lv_iconst (v := (nI 0)) X.1 X.2.1 dX12_createTable_8 (by decide) ?_
    refine lv_iconst (v := (nI 1)) X.1 X.2.1 dX12_createTable_9 (by decide) ?_
    refine (c_inN g (nI a) 0 1 (by omega) (by omega)).callS (rest := []) X dX12_createTable_10 q1103 tX12_in hK (hP.sub [] rfl) hl ⟨⟨Nat.le_of_ble_eq_true rfl, Nat.le_of_ble_eq_true rfl⟩, Nat.le_of_ble_eq_true rfl, Nat.le_of_ble_eq_true rfl⟩ rfl rfl (Nat.le_of_ble_eq_true rfl) ?_
    refine b_if_eq (tgt := 23) X dX12_createTable_13 (by decide) (fun c13 => ?_) (fun c13 => ?_)
    · exfalso; have h6 := of_decide_eq_false c13; rw [nI_toInt (by omega)] at h6; omega
    · refine lv_iload_n X.1 X.2.1 dX12_createTable_16 rfl (lv_at hl 3 rfl) ?_
      refine lv_sipush (v := (nI 256)) X.1 X.2.1 dX12_createTable_17 (by decide) ?_
      refine z_icmp_le (tgt := 25) X dX12_createTable_20 (by decide) (nI_toInt (by omega)) (nI_toInt (by omega)) (fun c20 => ?_) (fun c20 => ?_)
      · refine lv_iload_n X.1 X.2.1 dX12_createTable_25 rfl (lv_at hl 3 rfl) ?_
        refine z_if_ge (tgt := 32) X dX12_createTable_26 (by decide) (nI_toInt (by omega)) (fun c26 => ?_) (fun c26 => ?_)
        · refine lv_aload_n X.1 X.2.1 dX12_createTable_32 rfl (lv_at hl 0 rfl) ?_
          refine va_get (D := g.1) (ci := 11) (v := .ref ty_) (C := RX12) (T := TX12) (N := 26) X.1 X.2.1 X.2.2.2.2 iwX12 X.2.2.2.1 hK hP 0 rfl rfl 23 (by decide) (X.2.2.2.2 _ q1043) (fun _ h9 => h9) rfl dX12_createTable_33 ?_
          refine lv_iload_n X.1 X.2.1 dX12_createTable_36 rfl (lv_at hl 1 rfl) ?_
          refine lv_iload_n X.1 X.2.1 dX12_createTable_37 rfl (lv_at hl 2 rfl) ?_
          refine n_iast X hK hP hD hS 1 0 rfl rfl (by omega) (by decide) dX12_createTable_38 (fun H locs hP hD hS => ?_)
          have hP : PP g [(m0, .inr (11, [.int (nI k), .int (nI n), .ref lt, .int (nI s.length), .ref er, .ref el, .int (nI h.length), .ref cm_, .int (nI c.length), .int (bI tk), .int (nI k0), .int (nI n0), .ref sv, .int (nI s0.length), .ref md, .int (nI z.length), .ref fmm, .ref lc, .ref lz, .ref af, .ref pt_, .int (nI p.length), .ref oc, .ref ty_, .ref sz_, .ref em])), (ty_, .inl (g.2.1, 2, .inl (upd fy 0 (nI a)))), (sz_, .inl (g.2.1, 2, .inl fz_)), (em, .inl (g.2.1, 512, .inl fg))] H := hP
          have hD : va_D A [(m0, .inr (11, [.int (nI k), .int (nI n), .ref lt, .int (nI s.length), .ref er, .ref el, .int (nI h.length), .ref cm_, .int (nI c.length), .int (bI tk), .int (nI k0), .int (nI n0), .ref sv, .int (nI s0.length), .ref md, .int (nI z.length), .ref fmm, .ref lc, .ref lz, .ref af, .ref pt_, .int (nI p.length), .ref oc, .ref ty_, .ref sz_, .ref em])), (ty_, .inl (g.2.1, 2, .inl (upd fy 0 (nI a)))), (sz_, .inl (g.2.1, 2, .inl fz_)), (em, .inl (g.2.1, 512, .inl fg))] := hD
          refine lv_aload_n X.1 X.2.1 dX12_createTable_39 rfl (lv_at hl 0 rfl) ?_
          refine va_get (D := g.1) (ci := 11) (v := .ref sz_) (C := RX12) (T := TX12) (N := 26) X.1 X.2.1 X.2.2.2.2 iwX12 X.2.2.2.1 hK hP 0 rfl rfl 24 (by decide) (X.2.2.2.2 _ q1044) (fun _ h9 => h9) rfl dX12_createTable_40 ?_
          refine lv_iload_n X.1 X.2.1 dX12_createTable_43 rfl (lv_at hl 1 rfl) ?_
          refine lv_iload_n X.1 X.2.1 dX12_createTable_44 rfl (lv_at hl 3 rfl) ?_
          refine n_iast X hK hP hD hS 2 0 rfl rfl (by omega) (by decide) dX12_createTable_45 (fun H locs hP hD hS => ?_)
          have hP : PP g [(m0, .inr (11, [.int (nI k), .int (nI n), .ref lt, .int (nI s.length), .ref er, .ref el, .int (nI h.length), .ref cm_, .int (nI c.length), .int (bI tk), .int (nI k0), .int (nI n0), .ref sv, .int (nI s0.length), .ref md, .int (nI z.length), .ref fmm, .ref lc, .ref lz, .ref af, .ref pt_, .int (nI p.length), .ref oc, .ref ty_, .ref sz_, .ref em])), (ty_, .inl (g.2.1, 2, .inl (upd fy 0 (nI a)))), (sz_, .inl (g.2.1, 2, .inl (upd fz_ 0 (nI m)))), (em, .inl (g.2.1, 512, .inl fg))] H := hP
          have hD : va_D A [(m0, .inr (11, [.int (nI k), .int (nI n), .ref lt, .int (nI s.length), .ref er, .ref el, .int (nI h.length), .ref cm_, .int (nI c.length), .int (bI tk), .int (nI k0), .int (nI n0), .ref sv, .int (nI s0.length), .ref md, .int (nI z.length), .ref fmm, .ref lc, .ref lz, .ref af, .ref pt_, .int (nI p.length), .ref oc, .ref ty_, .ref sz_, .ref em])), (ty_, .inl (g.2.1, 2, .inl (upd fy 0 (nI a)))), (sz_, .inl (g.2.1, 2, .inl (upd fz_ 0 (nI m)))), (em, .inl (g.2.1, 512, .inl fg))] := hD
          refine lv_iconst (v := (nI 0)) X.1 X.2.1 dX12_createTable_46 (by decide) ?_
          refine lv_istore (lv' := [(4, .int (nI 0)), (0, .ref m0), (1, .int (nI 0)), (2, .int (nI a)), (3, .int (nI m))]) X.1 X.2.1 dX12_createTable_47 hl (by decide) rfl (fun ls hl => ?_)
          have L49 : ∀ (r : Nat) (i : Nat) (g1 : Nat → Int32) (h1 : i + r = 256) (hz : ∀ j, j < i → g1 (256 * 0 + j) = nI 0) (ho : oth 0 fy fz_ fg (upd fy 0 (nI a)) (upd fz_ 0 (nI m)) g1) (H : Heap) (locs : List Loc) (hP : PP g [(m0, .inr (11, [.int (nI k), .int (nI n), .ref lt, .int (nI s.length), .ref er, .ref el, .int (nI h.length), .ref cm_, .int (nI c.length), .int (bI tk), .int (nI k0), .int (nI n0), .ref sv, .int (nI s0.length), .ref md, .int (nI z.length), .ref fmm, .ref lc, .ref lz, .ref af, .ref pt_, .int (nI p.length), .ref oc, .ref ty_, .ref sz_, .ref em])), (ty_, .inl (g.2.1, 2, .inl (upd fy 0 (nI a)))), (sz_, .inl (g.2.1, 2, .inl (upd fz_ 0 (nI m)))), (em, .inl (g.2.1, 512, .inl g1))] H) (hD : va_D A [(m0, .inr (11, [.int (nI k), .int (nI n), .ref lt, .int (nI s.length), .ref er, .ref el, .int (nI h.length), .ref cm_, .int (nI c.length), .int (bI tk), .int (nI k0), .int (nI n0), .ref sv, .int (nI s0.length), .ref md, .int (nI z.length), .ref fmm, .ref lc, .ref lz, .ref af, .ref pt_, .int (nI p.length), .ref oc, .ref ty_, .ref sz_, .ref em])), (ty_, .inl (g.2.1, 2, .inl (upd fy 0 (nI a)))), (sz_, .inl (g.2.1, 2, .inl (upd fz_ 0 (nI m)))), (em, .inl (g.2.1, 512, .inl g1))]) (hS : va_S A S_.heap H locs) (ls : Array Slot) (hl : lv_has ls 5 [(4, .int (nI i)), (0, .ref m0), (1, .int (nI 0)), (2, .int (nI a)), (3, .int (nI m))]), W p_ l_ e_ { frames := 2, cells := 0, slots := 0, locals := 42 } S_ m_ args below meth co H locs 0 0 (MQ below (va_Qi (S := (Nat → Int32) × (Nat → Int32) × (Nat → Int32)) (fun r u => r = (nI 1) ∧ mtb 0 u.1 u.2.1 u.2.2 ((a : Nat) : Int) (List.replicate m (0 : Int32)) ∧ oth 0 fy fz_ fg u.1 u.2.1 u.2.2) (MuB g A (fun u => [(m0, .inr (11, [.int (nI k), .int (nI n), .ref lt, .int (nI s.length), .ref er, .ref el, .int (nI h.length), .ref cm_, .int (nI c.length), .int (bI tk), .int (nI k0), .int (nI n0), .ref sv, .int (nI s0.length), .ref md, .int (nI z.length), .ref fmm, .ref lc, .ref lz, .ref af, .ref pt_, .int (nI p.length), .ref oc, .ref ty_, .ref sz_, .ref em])), (ty_, .inl (g.2.1, 2, .inl u.1)), (sz_, .inl (g.2.1, 2, .inl u.2.1)), (em, .inl (g.2.1, 512, .inl u.2.2))])) A) args S_ 0 0 A) (F0 m_ 49 ls []) := by
            intro r
            induction r with
            | zero =>
              intro i g1 h1 hz ho H locs hP hD hS ls hl
              refine lv_iload X.1 X.2.1 dX12_createTable_49 (lv_at hl 0 rfl) ?_
              refine lv_sipush (v := (nI 256)) X.1 X.2.1 dX12_createTable_51 (by decide) ?_
              refine z_icmp_ge (tgt := 77) X dX12_createTable_54 (by decide) (nI_toInt (by omega)) (nI_toInt (by omega)) (fun c54 => ?_) (fun c54 => ?_)
              · refine lv_iconst (v := (nI 1)) X.1 X.2.1 dX12_createTable_77 (by decide) ?_
                exact MuI.ret X hr hlk hK hS dX12_createTable_78 (nI_nar _) ((upd fy 0 (nI a)), (upd fz_ 0 (nI m)), g1) (hP.sub [0, 1, 2, 3] rfl) (hD.sub [0, 1, 2, 3] (by decide) rfl) (⟨rfl, mtb_new hm (fun j hj => hz j (by omega)), ho⟩)
              · exfalso; omega
            | succ r ih49 =>
              intro i g1 h1 hz ho H locs hP hD hS ls hl
              refine lv_iload X.1 X.2.1 dX12_createTable_49 (lv_at hl 0 rfl) ?_
              refine lv_sipush (v := (nI 256)) X.1 X.2.1 dX12_createTable_51 (by decide) ?_
              refine z_icmp_ge (tgt := 77) X dX12_createTable_54 (by decide) (nI_toInt (by omega)) (nI_toInt (by omega)) (fun c54 => ?_) (fun c54 => ?_)
              · exfalso; omega
              · refine lv_aload_n X.1 X.2.1 dX12_createTable_57 rfl (lv_at hl 1 rfl) ?_
                refine va_get (D := g.1) (ci := 11) (v := .ref em) (C := RX12) (T := TX12) (N := 26) X.1 X.2.1 X.2.2.2.2 iwX12 X.2.2.2.1 hK hP 0 rfl rfl 25 (by decide) (X.2.2.2.2 _ q1045) (fun _ h9 => h9) rfl dX12_createTable_58 ?_
                refine lv_sipush (v := (nI 256)) X.1 X.2.1 dX12_createTable_61 (by decide) ?_
                refine lv_iload_n X.1 X.2.1 dX12_createTable_64 rfl (lv_at hl 2 rfl) ?_
                refine n_mul X dX12_createTable_65 ?_
                refine lv_iload X.1 X.2.1 dX12_createTable_66 (lv_at hl 0 rfl) ?_
                refine n_add X dX12_createTable_68 ?_
                refine lv_iconst (v := (nI 0)) X.1 X.2.1 dX12_createTable_69 (by decide) ?_
                refine n_iast X hK hP hD hS 3 0 rfl rfl (by omega) (by decide) dX12_createTable_70 (fun H locs hP hD hS => ?_)
                have hP : PP g [(m0, .inr (11, [.int (nI k), .int (nI n), .ref lt, .int (nI s.length), .ref er, .ref el, .int (nI h.length), .ref cm_, .int (nI c.length), .int (bI tk), .int (nI k0), .int (nI n0), .ref sv, .int (nI s0.length), .ref md, .int (nI z.length), .ref fmm, .ref lc, .ref lz, .ref af, .ref pt_, .int (nI p.length), .ref oc, .ref ty_, .ref sz_, .ref em])), (ty_, .inl (g.2.1, 2, .inl (upd fy 0 (nI a)))), (sz_, .inl (g.2.1, 2, .inl (upd fz_ 0 (nI m)))), (em, .inl (g.2.1, 512, .inl (upd g1 (256 * 0 + i) (nI 0))))] H := hP
                have hD : va_D A [(m0, .inr (11, [.int (nI k), .int (nI n), .ref lt, .int (nI s.length), .ref er, .ref el, .int (nI h.length), .ref cm_, .int (nI c.length), .int (bI tk), .int (nI k0), .int (nI n0), .ref sv, .int (nI s0.length), .ref md, .int (nI z.length), .ref fmm, .ref lc, .ref lz, .ref af, .ref pt_, .int (nI p.length), .ref oc, .ref ty_, .ref sz_, .ref em])), (ty_, .inl (g.2.1, 2, .inl (upd fy 0 (nI a)))), (sz_, .inl (g.2.1, 2, .inl (upd fz_ 0 (nI m)))), (em, .inl (g.2.1, 512, .inl (upd g1 (256 * 0 + i) (nI 0))))] := hD
                refine lv_iinc (v := (nI (i + 1))) (lv' := [(4, .int (nI (i + 1))), (0, .ref m0), (1, .int (nI 0)), (2, .int (nI a)), (3, .int (nI m))]) X.1 X.2.1 dX12_createTable_71 hl (k := 0) rfl (nI_inc _) (by decide) rfl (fun ls hl => ?_)
                refine lv_goto (tgt := 49) X.1 X.2.1 dX12_createTable_74 (by decide) ?_
                exact ih49 (i + 1) (upd g1 (256 * 0 + i) (nI 0)) (by omega) (fun j hj => by unfold upd; split <;> first | rfl | exact hz j (by omega)) (oth_e ho (by omega) (by omega)) _ _ (hP.sub [0, 1, 2, 3] rfl) (hD.sub [0, 1, 2, 3] (by decide) rfl) hS ls (lv_sub hl [0, 1, 2, 3, 4] rfl)
          exact L49 256 0 fg (by omega) (fun j hj => absurd hj (Nat.not_lt_zero j)) (fun u hu hn => ⟨by simp [upd, hn], by simp [upd, hn], fun _ _ => rfl⟩) _ _ (hP.sub [0, 1, 2, 3] rfl) (hD.sub [0, 1, 2, 3] (by decide) rfl) hS ls (lv_sub hl [0, 1, 2, 3, 4] rfl)
        · exfalso; omega
      · exfalso; omega

set_option maxHeartbeats 4000000 in
set_option maxRecDepth 100000 in
theorem m_exportTable_m0 (g : G5) (m0 : Nat) (lt : Nat) (er : Nat) (el : Nat) (cm_ : Nat) (sv : Nat) (md : Nat) (fmm : Nat) (lc : Nat) (lz : Nat) (af : Nat) (pt_ : Nat) (oc : Nat) (ty_ : Nat) (sz_ : Nat) (em : Nat) (k : Nat) (n : Nat) (s : List Nat) (h : List (List Nat)) (c : List Nat) (tk : Bool) (k0 : Nat) (n0 : Nat) (s0 : List Nat) (z : List Nat) (p : List Int) (fy : Nat → Int32) (fz_ : Nat → Int32) (fg : Nat → Int32) (ty : Int) (v : List Int32) (y : Int32) (hv : v.length ≤ 256) (hty : -1 ≤ ty ∧ ty ≤ 1) (hmt : mtb 0 fy fz_ fg ty v) (hty2 : ty = -1) : PuI yX12_exportTable cX12_exportTable 6 (some .int) 2 42 g [.ref m0, .int (nI 0), .int y] [(m0, .inr (11, [.int (nI k), .int (nI n), .ref lt, .int (nI s.length), .ref er, .ref el, .int (nI h.length), .ref cm_, .int (nI c.length), .int (bI tk), .int (nI k0), .int (nI n0), .ref sv, .int (nI s0.length), .ref md, .int (nI z.length), .ref fmm, .ref lc, .ref lz, .ref af, .ref pt_, .int (nI p.length), .ref oc, .ref ty_, .ref sz_, .ref em])), (ty_, .inl (g.2.1, 2, .inl fy)), (sz_, .inl (g.2.1, 2, .inl fz_)), (em, .inl (g.2.1, 512, .inl fg))] (-11) := by
  refine PuI.of (by decide +kernel) (Nat.le_of_ble_eq_true rfl) ?_
  intro p_ l_ e_ S_ m_ args below meth co X hr hlk hP hK ls hl
  have X : CallFix p_ m_ co cX12_exportTable 6 S_ args lw_all RX12 := X
  have hl : lv_has ls 6 [(0, .ref m0), (1, .int (nI 0)), (2, .int y)] := hl
  refine lv_iload_n X.1 X.2.1 dX12_exportTable_0 rfl (lv_at hl 1 rfl) ?_
  refine (c_misT g (nI 0)).callS (rest := []) X dX12_exportTable_1 q1455 tX12_isTable hK (hP.sub [] rfl) hl ⟨⟨Nat.le_of_ble_eq_true rfl, Nat.le_of_ble_eq_true rfl⟩, Nat.le_of_ble_eq_true rfl, Nat.le_of_ble_eq_true rfl⟩ rfl rfl (Nat.le_of_ble_eq_true rfl) ?_
  refine b_if_ne (tgt := 9) X dX12_exportTable_4 (by decide) (fun c4 => ?_) (fun c4 => ?_)
  · refine lv_aload_n X.1 X.2.1 dX12_exportTable_9 rfl (lv_at hl 0 rfl) ?_
    refine va_get (D := g.1) (ci := 11) (v := .ref ty_) (C := RX12) (T := TX12) (N := 26) X.1 X.2.1 X.2.2.2.2 iwX12 X.2.2.2.1 hK hP 0 rfl rfl 23 (by decide) (X.2.2.2.2 _ q1043) (fun _ h9 => h9) rfl dX12_exportTable_10 ?_
    refine lv_iload_n X.1 X.2.1 dX12_exportTable_13 rfl (lv_at hl 1 rfl) ?_
    refine n_iald X hK hP 1 0 rfl rfl (by omega) (by decide) dX12_exportTable_14 ?_
    refine tp_i (y := (iI ty)) (hmt.1) ?_
    refine z_if_ge (tgt := 21) X dX12_exportTable_15 (by decide) (iI_toInt (by omega) (by omega)) (fun c15 => ?_) (fun c15 => ?_)
    · exfalso; omega
    · refine lv_bipush (v := (-11)) X.1 X.2.1 dX12_exportTable_18 (by decide) ?_
      exact PuI.ret X hr hlk dX12_exportTable_20 (nI_nar _) (rfl)
  · exfalso; have h6 := of_decide_eq_false c4; rw [nI_toInt (by omega)] at h6; omega

set_option maxHeartbeats 4000000 in
set_option maxRecDepth 100000 in
theorem m_exportTable0 (g : G5) (m0 : Nat) (lt : Nat) (er : Nat) (el : Nat) (cm_ : Nat) (sv : Nat) (md : Nat) (fmm : Nat) (lc : Nat) (lz : Nat) (af : Nat) (pt_ : Nat) (oc : Nat) (ty_ : Nat) (sz_ : Nat) (em : Nat) (k : Nat) (n : Nat) (s : List Nat) (h : List (List Nat)) (c : List Nat) (tk : Bool) (k0 : Nat) (n0 : Nat) (s0 : List Nat) (z : List Nat) (p : List Int) (f : Nat → Int32) (fy : Nat → Int32) (fz_ : Nat → Int32) (fg : Nat → Int32) (ty : Int) (v : List Int32) (y : Int32) (hv : v.length ≤ 256) (hty : -1 ≤ ty ∧ ty ≤ 1) (hmt : mtb 0 fy fz_ fg ty v) (hs : s.length ≤ 256) (hf : rep f s) (hb : bd s) (hty2 : ty ≠ -1) : MuI (S := (Nat → Int32)) yX12_exportTable cX12_exportTable 6 (some .int) 2 42 g [.ref m0, .int (nI 0), .int y] [(m0, .inr (11, [.int (nI k), .int (nI n), .ref lt, .int (nI s.length), .ref er, .ref el, .int (nI h.length), .ref cm_, .int (nI c.length), .int (bI tk), .int (nI k0), .int (nI n0), .ref sv, .int (nI s0.length), .ref md, .int (nI z.length), .ref fmm, .ref lc, .ref lz, .ref af, .ref pt_, .int (nI p.length), .ref oc, .ref ty_, .ref sz_, .ref em])), (lt, .inl (g.2.1, 256, .inl f)), (ty_, .inl (g.2.1, 2, .inl fy)), (sz_, .inl (g.2.1, 2, .inl fz_)), (em, .inl (g.2.1, 512, .inl fg))] (fun r fg1 => r = ((expL ty s y s.length 0 v).1) ∧ mtb 0 fy fz_ fg1 ty (expL ty s y s.length 0 v).2 ∧ oth 0 fy fz_ fg fy fz_ fg1) (fun fg1 => [(m0, .inr (11, [.int (nI k), .int (nI n), .ref lt, .int (nI s.length), .ref er, .ref el, .int (nI h.length), .ref cm_, .int (nI c.length), .int (bI tk), .int (nI k0), .int (nI n0), .ref sv, .int (nI s0.length), .ref md, .int (nI z.length), .ref fmm, .ref lc, .ref lz, .ref af, .ref pt_, .int (nI p.length), .ref oc, .ref ty_, .ref sz_, .ref em])), (lt, .inl (g.2.1, 256, .inl f)), (ty_, .inl (g.2.1, 2, .inl fy)), (sz_, .inl (g.2.1, 2, .inl fz_)), (em, .inl (g.2.1, 512, .inl fg1))]) := by
  refine MuI.of (by decide +kernel) (Nat.le_of_ble_eq_true rfl) ?_
  intro p_ l_ e_ S_ m_ args below meth co X hr hlk hP hK A hA hD hS ls hl
  have X : CallFix p_ m_ co cX12_exportTable 6 S_ args lw_all RX12 := X
  have hl : lv_has ls 6 [(0, .ref m0), (1, .int (nI 0)), (2, .int y)] := hl
  refine lv_iload_n X.1 X.2.1 dX12_exportTable_0 rfl (lv_at hl 1 rfl) ?_
  refine (c_misT g (nI 0)).callS (rest := []) X dX12_exportTable_1 q1455 tX12_isTable hK (hP.sub [] rfl) hl ⟨⟨Nat.le_of_ble_eq_true rfl, Nat.le_of_ble_eq_true rfl⟩, Nat.le_of_ble_eq_true rfl, Nat.le_of_ble_eq_true rfl⟩ rfl rfl (Nat.le_of_ble_eq_true rfl) ?_
  refine b_if_ne (tgt := 9) X dX12_exportTable_4 (by decide) (fun c4 => ?_) (fun c4 => ?_)
  · refine lv_aload_n X.1 X.2.1 dX12_exportTable_9 rfl (lv_at hl 0 rfl) ?_
    refine va_get (D := g.1) (ci := 11) (v := .ref ty_) (C := RX12) (T := TX12) (N := 26) X.1 X.2.1 X.2.2.2.2 iwX12 X.2.2.2.1 hK hP 0 rfl rfl 23 (by decide) (X.2.2.2.2 _ q1043) (fun _ h9 => h9) rfl dX12_exportTable_10 ?_
    refine lv_iload_n X.1 X.2.1 dX12_exportTable_13 rfl (lv_at hl 1 rfl) ?_
    refine n_iald X hK hP 2 0 rfl rfl (by omega) (by decide) dX12_exportTable_14 ?_
    refine tp_i (y := (iI ty)) (hmt.1) ?_
    refine z_if_ge (tgt := 21) X dX12_exportTable_15 (by decide) (iI_toInt (by omega) (by omega)) (fun c15 => ?_) (fun c15 => ?_)
    · refine lv_iconst (v := (nI 0)) X.1 X.2.1 dX12_exportTable_21 (by decide) ?_
      refine lv_istore_n (lv' := [(3, .int (nI 0)), (0, .ref m0), (1, .int (nI 0)), (2, .int y)]) X.1 X.2.1 dX12_exportTable_22 rfl hl (by decide) rfl (fun ls hl => ?_)
      have L23 : ∀ (r : Nat) (i : Nat) (v1 : List Int32) (g1 : Nat → Int32) (h1 : i + r = s.length) (hv1 : v1.length ≤ 256) (hq : expL ty s y r i v1 = expL ty s y s.length 0 v) (hmt1 : mtb 0 fy fz_ g1 ty v1) (ho : oth 0 fy fz_ fg fy fz_ g1) (H : Heap) (locs : List Loc) (hP : PP g [(m0, .inr (11, [.int (nI k), .int (nI n), .ref lt, .int (nI s.length), .ref er, .ref el, .int (nI h.length), .ref cm_, .int (nI c.length), .int (bI tk), .int (nI k0), .int (nI n0), .ref sv, .int (nI s0.length), .ref md, .int (nI z.length), .ref fmm, .ref lc, .ref lz, .ref af, .ref pt_, .int (nI p.length), .ref oc, .ref ty_, .ref sz_, .ref em])), (lt, .inl (g.2.1, 256, .inl f)), (ty_, .inl (g.2.1, 2, .inl fy)), (sz_, .inl (g.2.1, 2, .inl fz_)), (em, .inl (g.2.1, 512, .inl g1))] H) (hD : va_D A [(m0, .inr (11, [.int (nI k), .int (nI n), .ref lt, .int (nI s.length), .ref er, .ref el, .int (nI h.length), .ref cm_, .int (nI c.length), .int (bI tk), .int (nI k0), .int (nI n0), .ref sv, .int (nI s0.length), .ref md, .int (nI z.length), .ref fmm, .ref lc, .ref lz, .ref af, .ref pt_, .int (nI p.length), .ref oc, .ref ty_, .ref sz_, .ref em])), (lt, .inl (g.2.1, 256, .inl f)), (ty_, .inl (g.2.1, 2, .inl fy)), (sz_, .inl (g.2.1, 2, .inl fz_)), (em, .inl (g.2.1, 512, .inl g1))]) (hS : va_S A S_.heap H locs) (ls : Array Slot) (hl : lv_has ls 6 [(3, .int (nI i)), (0, .ref m0), (1, .int (nI 0)), (2, .int y)]), W p_ l_ e_ { frames := 2, cells := 0, slots := 0, locals := 42 } S_ m_ args below meth co H locs 0 0 (MQ below (va_Qi (S := (Nat → Int32)) (fun r fg1 => r = ((expL ty s y s.length 0 v).1) ∧ mtb 0 fy fz_ fg1 ty (expL ty s y s.length 0 v).2 ∧ oth 0 fy fz_ fg fy fz_ fg1) (MuB g A (fun fg1 => [(m0, .inr (11, [.int (nI k), .int (nI n), .ref lt, .int (nI s.length), .ref er, .ref el, .int (nI h.length), .ref cm_, .int (nI c.length), .int (bI tk), .int (nI k0), .int (nI n0), .ref sv, .int (nI s0.length), .ref md, .int (nI z.length), .ref fmm, .ref lc, .ref lz, .ref af, .ref pt_, .int (nI p.length), .ref oc, .ref ty_, .ref sz_, .ref em])), (lt, .inl (g.2.1, 256, .inl f)), (ty_, .inl (g.2.1, 2, .inl fy)), (sz_, .inl (g.2.1, 2, .inl fz_)), (em, .inl (g.2.1, 512, .inl fg1))])) A) args S_ 0 0 A) (F0 m_ 23 ls []) := by
        intro r
        induction r with
        | zero =>
          intro i v1 g1 h1 hv1 hq hmt1 ho H locs hP hD hS ls hl
          have e9 : (nI s.length, v1) = expL ty s y s.length 0 v := hq
          refine lv_iload_n X.1 X.2.1 dX12_exportTable_23 rfl (lv_at hl 0 rfl) ?_
          refine lv_aload_n X.1 X.2.1 dX12_exportTable_24 rfl (lv_at hl 1 rfl) ?_
          refine va_get (D := g.1) (ci := 11) (v := .int (nI s.length)) (C := RX12) (T := TX12) (N := 26) X.1 X.2.1 X.2.2.2.2 iwX12 X.2.2.2.1 hK hP 0 rfl rfl 3 (by decide) (X.2.2.2.2 _ q1023) (fun _ h9 => h9) rfl dX12_exportTable_25 ?_
          refine z_icmp_ge (tgt := 108) X dX12_exportTable_28 (by decide) (nI_toInt (by omega)) (nI_toInt (by omega)) (fun c28 => ?_) (fun c28 => ?_)
          · refine lv_aload_n X.1 X.2.1 dX12_exportTable_108 rfl (lv_at hl 1 rfl) ?_
            refine va_get (D := g.1) (ci := 11) (v := .int (nI s.length)) (C := RX12) (T := TX12) (N := 26) X.1 X.2.1 X.2.2.2.2 iwX12 X.2.2.2.1 hK hP 0 rfl rfl 3 (by decide) (X.2.2.2.2 _ q1023) (fun _ h9 => h9) rfl dX12_exportTable_109 ?_
            exact MuI.ret X hr hlk hK hS dX12_exportTable_112 (nI_nar _) g1 (hP.sub [0, 1, 2, 3, 4] rfl) (hD.sub [0, 1, 2, 3, 4] (by decide) rfl) (⟨congrArg Prod.fst e9, by rw [← congrArg Prod.snd e9]; exact hmt1, ho⟩)
          · exfalso; omega
        | succ r ih23 =>
          intro i v1 g1 h1 hv1 hq hmt1 ho H locs hP hD hS ls hl
          refine lv_iload_n X.1 X.2.1 dX12_exportTable_23 rfl (lv_at hl 0 rfl) ?_
          refine lv_aload_n X.1 X.2.1 dX12_exportTable_24 rfl (lv_at hl 1 rfl) ?_
          refine va_get (D := g.1) (ci := 11) (v := .int (nI s.length)) (C := RX12) (T := TX12) (N := 26) X.1 X.2.1 X.2.2.2.2 iwX12 X.2.2.2.1 hK hP 0 rfl rfl 3 (by decide) (X.2.2.2.2 _ q1023) (fun _ h9 => h9) rfl dX12_exportTable_25 ?_
          refine z_icmp_ge (tgt := 108) X dX12_exportTable_28 (by decide) (nI_toInt (by omega)) (nI_toInt (by omega)) (fun c28 => ?_) (fun c28 => ?_)
          · exfalso; omega
          · refine lv_iload_n X.1 X.2.1 dX12_exportTable_31 rfl (lv_at hl 3 rfl) ?_
            refine lv_i2l X.1 X.2.1 dX12_exportTable_32 rfl ?_
            refine lv_iload_n X.1 X.2.1 dX12_exportTable_33 rfl (lv_at hl 0 rfl) ?_
            refine lv_i2l (v := lN i) X.1 X.2.1 dX12_exportTable_34 (nI_l (by omega)) ?_
            refine lv_ladd X.1 X.2.1 dX12_exportTable_35 ?_
            refine lv_lstore (lv' := [(4, .long (y.toInt64 + (lN i))), (3, .int (nI i)), (0, .ref m0), (1, .int (nI 0)), (2, .int y)]) X.1 X.2.1 dX12_exportTable_36 hl (by decide) rfl (fun ls hl => ?_)
            refine lv_lload X.1 X.2.1 dX12_exportTable_38 (lv_at hl 0 rfl) ?_
            refine lv_lconst (v := lN 0) X.1 X.2.1 dX12_exportTable_40 (by decide) ?_
            refine W.lcmp X.1 X.2.1 dX12_exportTable_41 ?_
            have hX := exl_toInt y (i := i) (by omega)
            have hq2 := lgc_lt (y.toInt64 + lN i) (lN 0)
            rw [show (lN 0).toInt = 0 from rfl, hX] at hq2
            refine z_if_lt (tgt := 58) X dX12_exportTable_42 (by decide) rfl (fun c42 => ?_) (fun c42 => ?_)
            · have e9 : ((-13), v1) = expL ty s y s.length 0 v := by rw [expL, if_neg (by omega)] at hq; exact hq
              refine lv_bipush (v := (-13)) X.1 X.2.1 dX12_exportTable_58 (by decide) ?_
              exact MuI.ret X hr hlk hK hS dX12_exportTable_60 (nI_nar _) g1 (hP.sub [0, 1, 2, 3, 4] rfl) (hD.sub [0, 1, 2, 3, 4] (by decide) rfl) (⟨congrArg Prod.fst e9, by rw [← congrArg Prod.snd e9]; exact hmt1, ho⟩)
            · refine lv_lload X.1 X.2.1 dX12_exportTable_45 (lv_at hl 0 rfl) ?_
              refine lv_aload_n X.1 X.2.1 dX12_exportTable_47 rfl (lv_at hl 2 rfl) ?_
              refine va_get (D := g.1) (ci := 11) (v := .ref sz_) (C := RX12) (T := TX12) (N := 26) X.1 X.2.1 X.2.2.2.2 iwX12 X.2.2.2.1 hK hP 0 rfl rfl 24 (by decide) (X.2.2.2.2 _ q1044) (fun _ h9 => h9) rfl dX12_exportTable_48 ?_
              refine lv_iload_n X.1 X.2.1 dX12_exportTable_51 rfl (lv_at hl 3 rfl) ?_
              refine n_iald X hK hP 3 0 rfl rfl (by omega) (by decide) dX12_exportTable_52 ?_
              refine tp_i (y := (nI v1.length)) (hmt1.2.1) ?_
              refine lv_i2l (v := lN v1.length) X.1 X.2.1 dX12_exportTable_53 (nI_l (by omega)) ?_
              refine W.lcmp X.1 X.2.1 dX12_exportTable_54 ?_
              have hq3 := lgc_lt (y.toInt64 + lN i) (lN v1.length)
              rw [lN_toInt (by omega), hX] at hq3
              refine z_if_lt (tgt := 61) X dX12_exportTable_55 (by decide) rfl (fun c55 => ?_) (fun c55 => ?_)
              · have h5 : 0 ≤ y.toInt + (i : Int) ∧ y.toInt + (i : Int) < (v1.length : Int) := by omega
                refine lv_aload_n X.1 X.2.1 dX12_exportTable_61 rfl (lv_at hl 2 rfl) ?_
                refine va_get (D := g.1) (ci := 11) (v := .ref em) (C := RX12) (T := TX12) (N := 26) X.1 X.2.1 X.2.2.2.2 iwX12 X.2.2.2.1 hK hP 0 rfl rfl 25 (by decide) (X.2.2.2.2 _ q1045) (fun _ h9 => h9) rfl dX12_exportTable_62 ?_
                refine lv_sipush (v := (nI 256)) X.1 X.2.1 dX12_exportTable_65 (by decide) ?_
                refine lv_iload_n X.1 X.2.1 dX12_exportTable_68 rfl (lv_at hl 3 rfl) ?_
                refine n_mul X dX12_exportTable_69 ?_
                refine lv_lload X.1 X.2.1 dX12_exportTable_70 (lv_at hl 0 rfl) ?_
                refine lv_l2i X.1 X.2.1 dX12_exportTable_72 rfl ?_
                refine tp_i (y := (nI ((y.toInt + (i : Int)).toNat))) (exl_idx (by omega) hv1 h5.1 h5.2) ?_
                refine n_add X dX12_exportTable_73 ?_
                refine lv_aload_n X.1 X.2.1 dX12_exportTable_74 rfl (lv_at hl 2 rfl) ?_
                refine va_get (D := g.1) (ci := 11) (v := .ref ty_) (C := RX12) (T := TX12) (N := 26) X.1 X.2.1 X.2.2.2.2 iwX12 X.2.2.2.1 hK hP 0 rfl rfl 23 (by decide) (X.2.2.2.2 _ q1043) (fun _ h9 => h9) rfl dX12_exportTable_75 ?_
                refine lv_iload_n X.1 X.2.1 dX12_exportTable_78 rfl (lv_at hl 3 rfl) ?_
                refine n_iald X hK hP 2 0 rfl rfl (by omega) (by decide) dX12_exportTable_79 ?_
                have hsb := bd_at hb i
                refine tp_i (y := (iI ty)) (hmt.1) ?_
                refine z_if_ne (tgt := 92) X dX12_exportTable_80 (by decide) (iI_toInt (by omega) (by omega)) (fun c80 => ?_) (fun c80 => ?_)
                · refine lv_bipush (v := (nI 97)) X.1 X.2.1 dX12_exportTable_92 (by decide) ?_
                  refine lv_aload_n X.1 X.2.1 dX12_exportTable_94 rfl (lv_at hl 2 rfl) ?_
                  refine va_get (D := g.1) (ci := 11) (v := .ref lt) (C := RX12) (T := TX12) (N := 26) X.1 X.2.1 X.2.2.2.2 iwX12 X.2.2.2.1 hK hP 0 rfl rfl 2 (by decide) (X.2.2.2.2 _ q1022) (fun _ h9 => h9) rfl dX12_exportTable_95 ?_
                  refine lv_iload_n X.1 X.2.1 dX12_exportTable_98 rfl (lv_at hl 1 rfl) ?_
                  refine n_iald X hK hP 1 0 rfl rfl (by omega) (by decide) dX12_exportTable_99 ?_
                  refine tp_i (y := (nI (s.getD i 0))) (hf i (by omega)) ?_
                  refine n_add X dX12_exportTable_100 ?_
                  refine tp_i (y := (nI ((if ty = 1 then 97 else 0) + s.getD i 0))) (by first | (rw [if_pos (by omega)]; done) | (rw [if_neg (by omega), Nat.zero_add])) ?_
                  refine n_iast X hK hP hD hS 4 0 rfl rfl (by omega) (by decide) dX12_exportTable_101 (fun H locs hP hD hS => ?_)
                  have hP : PP g [(m0, .inr (11, [.int (nI k), .int (nI n), .ref lt, .int (nI s.length), .ref er, .ref el, .int (nI h.length), .ref cm_, .int (nI c.length), .int (bI tk), .int (nI k0), .int (nI n0), .ref sv, .int (nI s0.length), .ref md, .int (nI z.length), .ref fmm, .ref lc, .ref lz, .ref af, .ref pt_, .int (nI p.length), .ref oc, .ref ty_, .ref sz_, .ref em])), (lt, .inl (g.2.1, 256, .inl f)), (ty_, .inl (g.2.1, 2, .inl fy)), (sz_, .inl (g.2.1, 2, .inl fz_)), (em, .inl (g.2.1, 512, .inl (upd g1 (256 * 0 + ((y.toInt + (i : Int)).toNat)) (nI ((if ty = 1 then 97 else 0) + s.getD i 0)))))] H := hP
                  have hD : va_D A [(m0, .inr (11, [.int (nI k), .int (nI n), .ref lt, .int (nI s.length), .ref er, .ref el, .int (nI h.length), .ref cm_, .int (nI c.length), .int (bI tk), .int (nI k0), .int (nI n0), .ref sv, .int (nI s0.length), .ref md, .int (nI z.length), .ref fmm, .ref lc, .ref lz, .ref af, .ref pt_, .int (nI p.length), .ref oc, .ref ty_, .ref sz_, .ref em])), (lt, .inl (g.2.1, 256, .inl f)), (ty_, .inl (g.2.1, 2, .inl fy)), (sz_, .inl (g.2.1, 2, .inl fz_)), (em, .inl (g.2.1, 512, .inl (upd g1 (256 * 0 + ((y.toInt + (i : Int)).toNat)) (nI ((if ty = 1 then 97 else 0) + s.getD i 0)))))] := hD
                  refine lv_iinc (v := (nI (i + 1))) (lv' := [(3, .int (nI (i + 1))), (4, .long (y.toInt64 + (lN i))), (0, .ref m0), (1, .int (nI 0)), (2, .int y)]) X.1 X.2.1 dX12_exportTable_102 hl (k := 1) rfl (nI_inc _) (by decide) rfl (fun ls hl => ?_)
                  refine lv_goto (tgt := 23) X.1 X.2.1 dX12_exportTable_105 (by decide) ?_
                  exact ih23 (i + 1) (v1.set (y.toInt + (i : Int)).toNat (nI ((if ty = 1 then 97 else 0) + s.getD i 0))) (upd g1 (256 * 0 + ((y.toInt + (i : Int)).toNat)) (nI ((if ty = 1 then 97 else 0) + s.getD i 0))) (by omega) (by rw [List.length_set]; exact hv1) (by rw [expL, if_pos h5] at hq; exact hq) (mtb_set hmt1 _) (oth_e ho (by omega) (by omega)) _ _ (hP.sub [0, 1, 2, 3, 4] rfl) (hD.sub [0, 1, 2, 3, 4] (by decide) rfl) hS ls (lv_sub hl [0, 2, 3, 4] rfl)
                · refine lv_aload_n X.1 X.2.1 dX12_exportTable_83 rfl (lv_at hl 2 rfl) ?_
                  refine va_get (D := g.1) (ci := 11) (v := .ref lt) (C := RX12) (T := TX12) (N := 26) X.1 X.2.1 X.2.2.2.2 iwX12 X.2.2.2.1 hK hP 0 rfl rfl 2 (by decide) (X.2.2.2.2 _ q1022) (fun _ h9 => h9) rfl dX12_exportTable_84 ?_
                  refine lv_iload_n X.1 X.2.1 dX12_exportTable_87 rfl (lv_at hl 1 rfl) ?_
                  refine n_iald X hK hP 1 0 rfl rfl (by omega) (by decide) dX12_exportTable_88 ?_
                  refine tp_i (y := (nI (s.getD i 0))) (hf i (by omega)) ?_
                  refine lv_goto (tgt := 101) X.1 X.2.1 dX12_exportTable_89 (by decide) ?_
                  refine tp_i (y := (nI ((if ty = 1 then 97 else 0) + s.getD i 0))) (by first | (rw [if_pos (by omega)]; done) | (rw [if_neg (by omega), Nat.zero_add])) ?_
                  refine n_iast X hK hP hD hS 4 0 rfl rfl (by omega) (by decide) dX12_exportTable_101 (fun H locs hP hD hS => ?_)
                  have hP : PP g [(m0, .inr (11, [.int (nI k), .int (nI n), .ref lt, .int (nI s.length), .ref er, .ref el, .int (nI h.length), .ref cm_, .int (nI c.length), .int (bI tk), .int (nI k0), .int (nI n0), .ref sv, .int (nI s0.length), .ref md, .int (nI z.length), .ref fmm, .ref lc, .ref lz, .ref af, .ref pt_, .int (nI p.length), .ref oc, .ref ty_, .ref sz_, .ref em])), (lt, .inl (g.2.1, 256, .inl f)), (ty_, .inl (g.2.1, 2, .inl fy)), (sz_, .inl (g.2.1, 2, .inl fz_)), (em, .inl (g.2.1, 512, .inl (upd g1 (256 * 0 + ((y.toInt + (i : Int)).toNat)) (nI ((if ty = 1 then 97 else 0) + s.getD i 0)))))] H := hP
                  have hD : va_D A [(m0, .inr (11, [.int (nI k), .int (nI n), .ref lt, .int (nI s.length), .ref er, .ref el, .int (nI h.length), .ref cm_, .int (nI c.length), .int (bI tk), .int (nI k0), .int (nI n0), .ref sv, .int (nI s0.length), .ref md, .int (nI z.length), .ref fmm, .ref lc, .ref lz, .ref af, .ref pt_, .int (nI p.length), .ref oc, .ref ty_, .ref sz_, .ref em])), (lt, .inl (g.2.1, 256, .inl f)), (ty_, .inl (g.2.1, 2, .inl fy)), (sz_, .inl (g.2.1, 2, .inl fz_)), (em, .inl (g.2.1, 512, .inl (upd g1 (256 * 0 + ((y.toInt + (i : Int)).toNat)) (nI ((if ty = 1 then 97 else 0) + s.getD i 0)))))] := hD
                  refine lv_iinc (v := (nI (i + 1))) (lv' := [(3, .int (nI (i + 1))), (4, .long (y.toInt64 + (lN i))), (0, .ref m0), (1, .int (nI 0)), (2, .int y)]) X.1 X.2.1 dX12_exportTable_102 hl (k := 1) rfl (nI_inc _) (by decide) rfl (fun ls hl => ?_)
                  refine lv_goto (tgt := 23) X.1 X.2.1 dX12_exportTable_105 (by decide) ?_
                  exact ih23 (i + 1) (v1.set (y.toInt + (i : Int)).toNat (nI ((if ty = 1 then 97 else 0) + s.getD i 0))) (upd g1 (256 * 0 + ((y.toInt + (i : Int)).toNat)) (nI ((if ty = 1 then 97 else 0) + s.getD i 0))) (by omega) (by rw [List.length_set]; exact hv1) (by rw [expL, if_pos h5] at hq; exact hq) (mtb_set hmt1 _) (oth_e ho (by omega) (by omega)) _ _ (hP.sub [0, 1, 2, 3, 4] rfl) (hD.sub [0, 1, 2, 3, 4] (by decide) rfl) hS ls (lv_sub hl [0, 2, 3, 4] rfl)
              · have e9 : ((-13), v1) = expL ty s y s.length 0 v := by rw [expL, if_neg (by omega)] at hq; exact hq
                refine lv_bipush (v := (-13)) X.1 X.2.1 dX12_exportTable_58 (by decide) ?_
                exact MuI.ret X hr hlk hK hS dX12_exportTable_60 (nI_nar _) g1 (hP.sub [0, 1, 2, 3, 4] rfl) (hD.sub [0, 1, 2, 3, 4] (by decide) rfl) (⟨congrArg Prod.fst e9, by rw [← congrArg Prod.snd e9]; exact hmt1, ho⟩)
      exact L23 s.length 0 v fg (by omega) (by omega) (rfl) (hmt) (oth_rf _ _ _ _) _ _ (hP.sub [0, 1, 2, 3, 4] rfl) (hD.sub [0, 1, 2, 3, 4] (by decide) rfl) hS ls (lv_sub hl [0, 1, 2, 3] rfl)
    · exfalso; omega
  · exfalso; have h6 := of_decide_eq_false c4; rw [nI_toInt (by omega)] at h6; omega

set_option maxHeartbeats 4000000 in
set_option maxRecDepth 100000 in
theorem m_importTable_m0 (g : G5) (m0 : Nat) (lt : Nat) (er : Nat) (el : Nat) (cm_ : Nat) (sv : Nat) (md : Nat) (fmm : Nat) (lc : Nat) (lz : Nat) (af : Nat) (pt_ : Nat) (oc : Nat) (ty_ : Nat) (sz_ : Nat) (em : Nat) (k : Nat) (n : Nat) (s : List Nat) (h : List (List Nat)) (c : List Nat) (tk : Bool) (k0 : Nat) (n0 : Nat) (s0 : List Nat) (z : List Nat) (p : List Int) (fy : Nat → Int32) (fz_ : Nat → Int32) (fg : Nat → Int32) (ty : Int) (v : List Int32) (a : Nat) (hv : v.length ≤ 256) (hty : -1 ≤ ty ∧ ty ≤ 1) (hmt : mtb 0 fy fz_ fg ty v) (ha : a < 2) (hty2 : ty = -1 ∨ ty ≠ ((a : Nat) : Int)) : PuI yX12_importTable cX12_importTable 5 (some .int) 2 61 g [.ref m0, .int (nI 0), .int (nI a)] [(m0, .inr (11, [.int (nI k), .int (nI n), .ref lt, .int (nI s.length), .ref er, .ref el, .int (nI h.length), .ref cm_, .int (nI c.length), .int (bI tk), .int (nI k0), .int (nI n0), .ref sv, .int (nI s0.length), .ref md, .int (nI z.length), .ref fmm, .ref lc, .ref lz, .ref af, .ref pt_, .int (nI p.length), .ref oc, .ref ty_, .ref sz_, .ref em])), (ty_, .inl (g.2.1, 2, .inl fy)), (sz_, .inl (g.2.1, 2, .inl fz_)), (em, .inl (g.2.1, 512, .inl fg))] (if ty = -1 then (-11) else (-12)) := by
  refine PuI.of (by decide +kernel) (Nat.le_of_ble_eq_true rfl) ?_
  intro p_ l_ e_ S_ m_ args below meth co X hr hlk hP hK ls hl
  have X : CallFix p_ m_ co cX12_importTable 5 S_ args lw_all RX12 := X
  have hl : lv_has ls 5 [(0, .ref m0), (1, .int (nI 0)), (2, .int (nI a))] := hl
  refine lv_iload_n X.1 X.2.1 dX12_importTable_0 rfl (lv_at hl 1 rfl) ?_
  refine (c_misT g (nI 0)).callS (rest := []) X dX12_importTable_1 q1455 tX12_isTable hK (hP.sub [] rfl) hl ⟨⟨Nat.le_of_ble_eq_true rfl, Nat.le_of_ble_eq_true rfl⟩, Nat.le_of_ble_eq_true rfl, Nat.le_of_ble_eq_true rfl⟩ rfl rfl (Nat.le_of_ble_eq_true rfl) ?_
  refine b_if_eq (tgt := 16) X dX12_importTable_4 (by decide) (fun c4 => ?_) (fun c4 => ?_)
  · exfalso; have h6 := of_decide_eq_false c4; rw [nI_toInt (by omega)] at h6; omega
  · refine lv_iload_n X.1 X.2.1 dX12_importTable_7 rfl (lv_at hl 2 rfl) ?_
    refine lv_iconst (v := (nI 0)) X.1 X.2.1 dX12_importTable_8 (by decide) ?_
    refine lv_iconst (v := (nI 1)) X.1 X.2.1 dX12_importTable_9 (by decide) ?_
    refine (c_inN g (nI a) 0 1 (by omega) (by omega)).callS (rest := []) X dX12_importTable_10 q1103 tX12_in hK (hP.sub [] rfl) hl ⟨⟨Nat.le_of_ble_eq_true rfl, Nat.le_of_ble_eq_true rfl⟩, Nat.le_of_ble_eq_true rfl, Nat.le_of_ble_eq_true rfl⟩ rfl rfl (Nat.le_of_ble_eq_true rfl) ?_
    refine b_if_ne (tgt := 18) X dX12_importTable_13 (by decide) (fun c13 => ?_) (fun c13 => ?_)
    · refine lv_aload_n X.1 X.2.1 dX12_importTable_18 rfl (lv_at hl 0 rfl) ?_
      refine va_get (D := g.1) (ci := 11) (v := .ref ty_) (C := RX12) (T := TX12) (N := 26) X.1 X.2.1 X.2.2.2.2 iwX12 X.2.2.2.1 hK hP 0 rfl rfl 23 (by decide) (X.2.2.2.2 _ q1043) (fun _ h9 => h9) rfl dX12_importTable_19 ?_
      refine lv_iload_n X.1 X.2.1 dX12_importTable_22 rfl (lv_at hl 1 rfl) ?_
      refine n_iald X hK hP 1 0 rfl rfl (by omega) (by decide) dX12_importTable_23 ?_
      refine tp_i (y := (iI ty)) (hmt.1) ?_
      refine z_if_ge (tgt := 30) X dX12_importTable_24 (by decide) (iI_toInt (by omega) (by omega)) (fun c24 => ?_) (fun c24 => ?_)
      · refine lv_aload_n X.1 X.2.1 dX12_importTable_30 rfl (lv_at hl 0 rfl) ?_
        refine va_get (D := g.1) (ci := 11) (v := .ref ty_) (C := RX12) (T := TX12) (N := 26) X.1 X.2.1 X.2.2.2.2 iwX12 X.2.2.2.1 hK hP 0 rfl rfl 23 (by decide) (X.2.2.2.2 _ q1043) (fun _ h9 => h9) rfl dX12_importTable_31 ?_
        refine lv_iload_n X.1 X.2.1 dX12_importTable_34 rfl (lv_at hl 1 rfl) ?_
        refine n_iald X hK hP 1 0 rfl rfl (by omega) (by decide) dX12_importTable_35 ?_
        refine tp_i (y := (iI ty)) (hmt.1) ?_
        refine lv_iload_n X.1 X.2.1 dX12_importTable_36 rfl (lv_at hl 2 rfl) ?_
        refine z_icmp_eq (tgt := 43) X dX12_importTable_37 (by decide) (iI_toInt (by omega) (by omega)) (nI_toInt (by omega)) (fun c37 => ?_) (fun c37 => ?_)
        · exfalso; omega
        · refine lv_bipush (v := (-12)) X.1 X.2.1 dX12_importTable_40 (by decide) ?_
          exact PuI.ret X hr hlk dX12_importTable_42 (nI_nar _) (by rw [if_neg (by omega)])
      · refine lv_bipush (v := (-11)) X.1 X.2.1 dX12_importTable_27 (by decide) ?_
        exact PuI.ret X hr hlk dX12_importTable_29 (nI_nar _) (by rw [if_pos (by omega)])
    · exfalso; have h6 := of_decide_eq_false c13; rw [nI_toInt (by omega)] at h6; omega

set_option maxHeartbeats 4000000 in
set_option maxRecDepth 100000 in
theorem m_importTable0 (g : G5) (m0 : Nat) (lt : Nat) (er : Nat) (el : Nat) (cm_ : Nat) (sv : Nat) (md : Nat) (fmm : Nat) (lc : Nat) (lz : Nat) (af : Nat) (pt_ : Nat) (oc : Nat) (ty_ : Nat) (sz_ : Nat) (em : Nat) (k : Nat) (n : Nat) (s : List Nat) (h : List (List Nat)) (c : List Nat) (tk : Bool) (k0 : Nat) (n0 : Nat) (s0 : List Nat) (z : List Nat) (p : List Int) (f : Nat → Int32) (fe : Nat → Int32) (fl : Nat → Int32) (fm_ : Nat → Int32) (B : Nat) (T : Nat) (fy : Nat → Int32) (fz_ : Nat → Int32) (fg : Nat → Int32) (ty : Int) (v : List Int32) (a : Nat) (y : List Nat) (hc : shp k n B T) (hs : s.length ≤ 256) (hf : rep f s) (hlt : ltk k s) (hh : hrm fe fl h) (hv : v.length ≤ 256) (hty : -1 ≤ ty ∧ ty ≤ 1) (hmt : mtb 0 fy fz_ fg ty v) (ha : a < 2) (hta : ty = ((a : Nat) : Int)) (hbv : bdv v) (hy : impL k (basI ty) v = some y) : MuI (S := (Nat → Int32) × (Nat → Int32) × (Nat → Int32) × (Nat → Int32)) yX12_importTable cX12_importTable 5 (some .int) 2 61 g [.ref m0, .int (nI 0), .int (nI a)] [(m0, .inr (11, [.int (nI k), .int (nI n), .ref lt, .int (nI s.length), .ref er, .ref el, .int (nI h.length), .ref cm_, .int (nI c.length), .int (bI tk), .int (nI k0), .int (nI n0), .ref sv, .int (nI s0.length), .ref md, .int (nI z.length), .ref fmm, .ref lc, .ref lz, .ref af, .ref pt_, .int (nI p.length), .ref oc, .ref ty_, .ref sz_, .ref em])), (lt, .inl (g.2.1, 256, .inl f)), (er, .inl (g.2.1, 1536, .inl fe)), (el, .inl (g.2.1, 6, .inl fl)), (md, .inl (g.2.1, 256, .inl fm_)), (ty_, .inl (g.2.1, 2, .inl fy)), (sz_, .inl (g.2.1, 2, .inl fz_)), (em, .inl (g.2.1, 512, .inl fg))] (fun r u => r = (nI y.length) ∧ rep u.1 y ∧ hrm u.2.1 u.2.2.1 ((s :: h).take 6)) (fun u => [(m0, .inr (11, [.int (nI k), .int (nI n), .ref lt, .int (nI y.length), .ref er, .ref el, .int (nI (((s :: h).take 6).length)), .ref cm_, .int (nI c.length), .int (bI tk), .int (nI k0), .int (nI n0), .ref sv, .int (nI s0.length), .ref md, .int (nI y.length), .ref fmm, .ref lc, .ref lz, .ref af, .ref pt_, .int (nI p.length), .ref oc, .ref ty_, .ref sz_, .ref em])), (lt, .inl (g.2.1, 256, .inl u.1)), (er, .inl (g.2.1, 1536, .inl u.2.1)), (el, .inl (g.2.1, 6, .inl u.2.2.1)), (md, .inl (g.2.1, 256, .inl u.2.2.2)), (ty_, .inl (g.2.1, 2, .inl fy)), (sz_, .inl (g.2.1, 2, .inl fz_)), (em, .inl (g.2.1, 512, .inl fg))]) := by
  refine MuI.of (by decide +kernel) (Nat.le_of_ble_eq_true rfl) ?_
  intro p_ l_ e_ S_ m_ args below meth co X hr hlk hP hK A hA hD hS ls hl
  have X : CallFix p_ m_ co cX12_importTable 5 S_ args lw_all RX12 := X
  have hl : lv_has ls 5 [(0, .ref m0), (1, .int (nI 0)), (2, .int (nI a))] := hl
  obtain ⟨hk2, hk4, hn1, hn6, hB, hT, hBT, hT2⟩ := hc.f
  have hB0 : 0 < B := by rw [hBT]; exact Nat.mul_pos (by omega) (by omega)
  have hbs := hlt.bd hk4
  obtain ⟨hly, hky⟩ := imp_len hy
  refine lv_iload_n X.1 X.2.1 dX12_importTable_0 rfl (lv_at hl 1 rfl) ?_
  refine (c_misT g (nI 0)).callS (rest := []) X dX12_importTable_1 q1455 tX12_isTable hK (hP.sub [] rfl) hl ⟨⟨Nat.le_of_ble_eq_true rfl, Nat.le_of_ble_eq_true rfl⟩, Nat.le_of_ble_eq_true rfl, Nat.le_of_ble_eq_true rfl⟩ rfl rfl (Nat.le_of_ble_eq_true rfl) ?_
  refine b_if_eq (tgt := 16) X dX12_importTable_4 (by decide) (fun c4 => ?_) (fun c4 => ?_)
  · exfalso; have h6 := of_decide_eq_false c4; rw [nI_toInt (by omega)] at h6; omega
  · refine lv_iload_n X.1 X.2.1 dX12_importTable_7 rfl (lv_at hl 2 rfl) ?_
    refine lv_iconst (v := (nI 0)) X.1 X.2.1 dX12_importTable_8 (by decide) ?_
    refine lv_iconst (v := (nI 1)) X.1 X.2.1 dX12_importTable_9 (by decide) ?_
    refine (c_inN g (nI a) 0 1 (by omega) (by omega)).callS (rest := []) X dX12_importTable_10 q1103 tX12_in hK (hP.sub [] rfl) hl ⟨⟨Nat.le_of_ble_eq_true rfl, Nat.le_of_ble_eq_true rfl⟩, Nat.le_of_ble_eq_true rfl, Nat.le_of_ble_eq_true rfl⟩ rfl rfl (Nat.le_of_ble_eq_true rfl) ?_
    refine b_if_ne (tgt := 18) X dX12_importTable_13 (by decide) (fun c13 => ?_) (fun c13 => ?_)
    · refine lv_aload_n X.1 X.2.1 dX12_importTable_18 rfl (lv_at hl 0 rfl) ?_
      refine va_get (D := g.1) (ci := 11) (v := .ref ty_) (C := RX12) (T := TX12) (N := 26) X.1 X.2.1 X.2.2.2.2 iwX12 X.2.2.2.1 hK hP 0 rfl rfl 23 (by decide) (X.2.2.2.2 _ q1043) (fun _ h9 => h9) rfl dX12_importTable_19 ?_
      refine lv_iload_n X.1 X.2.1 dX12_importTable_22 rfl (lv_at hl 1 rfl) ?_
      refine n_iald X hK hP 5 0 rfl rfl (by omega) (by decide) dX12_importTable_23 ?_
      refine tp_i (y := (iI ty)) (hmt.1) ?_
      refine z_if_ge (tgt := 30) X dX12_importTable_24 (by decide) (iI_toInt (by omega) (by omega)) (fun c24 => ?_) (fun c24 => ?_)
      · refine lv_aload_n X.1 X.2.1 dX12_importTable_30 rfl (lv_at hl 0 rfl) ?_
        refine va_get (D := g.1) (ci := 11) (v := .ref ty_) (C := RX12) (T := TX12) (N := 26) X.1 X.2.1 X.2.2.2.2 iwX12 X.2.2.2.1 hK hP 0 rfl rfl 23 (by decide) (X.2.2.2.2 _ q1043) (fun _ h9 => h9) rfl dX12_importTable_31 ?_
        refine lv_iload_n X.1 X.2.1 dX12_importTable_34 rfl (lv_at hl 1 rfl) ?_
        refine n_iald X hK hP 5 0 rfl rfl (by omega) (by decide) dX12_importTable_35 ?_
        refine tp_i (y := (iI ty)) (hmt.1) ?_
        refine lv_iload_n X.1 X.2.1 dX12_importTable_36 rfl (lv_at hl 2 rfl) ?_
        refine z_icmp_eq (tgt := 43) X dX12_importTable_37 (by decide) (iI_toInt (by omega) (by omega)) (nI_toInt (by omega)) (fun c37 => ?_) (fun c37 => ?_)
        · refine lv_aload_n X.1 X.2.1 dX12_importTable_43 rfl (lv_at hl 0 rfl) ?_
          refine lv_iconst (v := (nI 0)) X.1 X.2.1 dX12_importTable_44 (by decide) ?_
          refine va_put (D := g.1) (ci := 11) (v := .int (nI 0)) (ty := .int) (C := RX12) (T := TX12) (N := 26) X.1 X.2.1 X.2.2.2.2 iwX12 tyX12 tyX12_ok nmX12 X.2.2.2.1 hK hP hD hS 0 rfl rfl 15 (by decide) (X.2.2.2.2 _ q1035) (fun _ h9 => h9) rfl (by decide +kernel) rfl rfl (Nat.le_of_ble_eq_true rfl) dX12_importTable_45 (fun H locs hP hD hS => ?_)
          have hP : PP g [(m0, .inr (11, [.int (nI k), .int (nI n), .ref lt, .int (nI s.length), .ref er, .ref el, .int (nI h.length), .ref cm_, .int (nI c.length), .int (bI tk), .int (nI k0), .int (nI n0), .ref sv, .int (nI s0.length), .ref md, .int (nI 0), .ref fmm, .ref lc, .ref lz, .ref af, .ref pt_, .int (nI p.length), .ref oc, .ref ty_, .ref sz_, .ref em])), (lt, .inl (g.2.1, 256, .inl f)), (er, .inl (g.2.1, 1536, .inl fe)), (el, .inl (g.2.1, 6, .inl fl)), (md, .inl (g.2.1, 256, .inl fm_)), (ty_, .inl (g.2.1, 2, .inl fy)), (sz_, .inl (g.2.1, 2, .inl fz_)), (em, .inl (g.2.1, 512, .inl fg))] H := hP
          have hD : va_D A [(m0, .inr (11, [.int (nI k), .int (nI n), .ref lt, .int (nI s.length), .ref er, .ref el, .int (nI h.length), .ref cm_, .int (nI c.length), .int (bI tk), .int (nI k0), .int (nI n0), .ref sv, .int (nI s0.length), .ref md, .int (nI 0), .ref fmm, .ref lc, .ref lz, .ref af, .ref pt_, .int (nI p.length), .ref oc, .ref ty_, .ref sz_, .ref em])), (lt, .inl (g.2.1, 256, .inl f)), (er, .inl (g.2.1, 1536, .inl fe)), (el, .inl (g.2.1, 6, .inl fl)), (md, .inl (g.2.1, 256, .inl fm_)), (ty_, .inl (g.2.1, 2, .inl fy)), (sz_, .inl (g.2.1, 2, .inl fz_)), (em, .inl (g.2.1, 512, .inl fg))] := hD
          have hP : PP g [(m0, .inr (11, [.int (nI k), .int (nI n), .ref lt, .int (nI s.length), .ref er, .ref el, .int (nI h.length), .ref cm_, .int (nI c.length), .int (bI tk), .int (nI k0), .int (nI n0), .ref sv, .int (nI s0.length), .ref md, .int (nI (([] : List Nat).length)), .ref fmm, .ref lc, .ref lz, .ref af, .ref pt_, .int (nI p.length), .ref oc, .ref ty_, .ref sz_, .ref em])), (lt, .inl (g.2.1, 256, .inl f)), (er, .inl (g.2.1, 1536, .inl fe)), (el, .inl (g.2.1, 6, .inl fl)), (md, .inl (g.2.1, 256, .inl fm_)), (ty_, .inl (g.2.1, 2, .inl fy)), (sz_, .inl (g.2.1, 2, .inl fz_)), (em, .inl (g.2.1, 512, .inl fg))] H := by exact hP
          have hD : va_D A [(m0, .inr (11, [.int (nI k), .int (nI n), .ref lt, .int (nI s.length), .ref er, .ref el, .int (nI h.length), .ref cm_, .int (nI c.length), .int (bI tk), .int (nI k0), .int (nI n0), .ref sv, .int (nI s0.length), .ref md, .int (nI (([] : List Nat).length)), .ref fmm, .ref lc, .ref lz, .ref af, .ref pt_, .int (nI p.length), .ref oc, .ref ty_, .ref sz_, .ref em])), (lt, .inl (g.2.1, 256, .inl f)), (er, .inl (g.2.1, 1536, .inl fe)), (el, .inl (g.2.1, 6, .inl fl)), (md, .inl (g.2.1, 256, .inl fm_)), (ty_, .inl (g.2.1, 2, .inl fy)), (sz_, .inl (g.2.1, 2, .inl fz_)), (em, .inl (g.2.1, 512, .inl fg))] := by exact hD
          refine lv_iconst (v := (nI 0)) X.1 X.2.1 dX12_importTable_48 (by decide) ?_
          refine lv_istore_n (lv' := [(3, .int (nI 0)), (0, .ref m0), (1, .int (nI 0)), (2, .int (nI a))]) X.1 X.2.1 dX12_importTable_49 rfl hl (by decide) rfl (fun ls hl => ?_)
          have L50 : ∀ (r : Nat) (j : Nat) (s1 : List Nat) (z1 : List Nat) (fm1 : Nat → Int32) (h1 : j + r = v.length) (hl1 : s1.length = j) (hq : impL k (basI ty) (v.drop j) = some z1) (hq2 : s1 ++ z1 = y) (hf1 : rep fm1 s1) (H : Heap) (locs : List Loc) (hP : PP g [(m0, .inr (11, [.int (nI k), .int (nI n), .ref lt, .int (nI s.length), .ref er, .ref el, .int (nI h.length), .ref cm_, .int (nI c.length), .int (bI tk), .int (nI k0), .int (nI n0), .ref sv, .int (nI s0.length), .ref md, .int (nI s1.length), .ref fmm, .ref lc, .ref lz, .ref af, .ref pt_, .int (nI p.length), .ref oc, .ref ty_, .ref sz_, .ref em])), (lt, .inl (g.2.1, 256, .inl f)), (er, .inl (g.2.1, 1536, .inl fe)), (el, .inl (g.2.1, 6, .inl fl)), (md, .inl (g.2.1, 256, .inl fm1)), (ty_, .inl (g.2.1, 2, .inl fy)), (sz_, .inl (g.2.1, 2, .inl fz_)), (em, .inl (g.2.1, 512, .inl fg))] H) (hD : va_D A [(m0, .inr (11, [.int (nI k), .int (nI n), .ref lt, .int (nI s.length), .ref er, .ref el, .int (nI h.length), .ref cm_, .int (nI c.length), .int (bI tk), .int (nI k0), .int (nI n0), .ref sv, .int (nI s0.length), .ref md, .int (nI s1.length), .ref fmm, .ref lc, .ref lz, .ref af, .ref pt_, .int (nI p.length), .ref oc, .ref ty_, .ref sz_, .ref em])), (lt, .inl (g.2.1, 256, .inl f)), (er, .inl (g.2.1, 1536, .inl fe)), (el, .inl (g.2.1, 6, .inl fl)), (md, .inl (g.2.1, 256, .inl fm1)), (ty_, .inl (g.2.1, 2, .inl fy)), (sz_, .inl (g.2.1, 2, .inl fz_)), (em, .inl (g.2.1, 512, .inl fg))]) (hS : va_S A S_.heap H locs) (ls : Array Slot) (hl : lv_has ls 5 [(3, .int (nI j)), (0, .ref m0), (1, .int (nI 0)), (2, .int (nI a))]), W p_ l_ e_ { frames := 2, cells := 0, slots := 0, locals := 61 } S_ m_ args below meth co H locs 0 0 (MQ below (va_Qi (S := (Nat → Int32) × (Nat → Int32) × (Nat → Int32) × (Nat → Int32)) (fun r u => r = (nI y.length) ∧ rep u.1 y ∧ hrm u.2.1 u.2.2.1 ((s :: h).take 6)) (MuB g A (fun u => [(m0, .inr (11, [.int (nI k), .int (nI n), .ref lt, .int (nI y.length), .ref er, .ref el, .int (nI (((s :: h).take 6).length)), .ref cm_, .int (nI c.length), .int (bI tk), .int (nI k0), .int (nI n0), .ref sv, .int (nI s0.length), .ref md, .int (nI y.length), .ref fmm, .ref lc, .ref lz, .ref af, .ref pt_, .int (nI p.length), .ref oc, .ref ty_, .ref sz_, .ref em])), (lt, .inl (g.2.1, 256, .inl u.1)), (er, .inl (g.2.1, 1536, .inl u.2.1)), (el, .inl (g.2.1, 6, .inl u.2.2.1)), (md, .inl (g.2.1, 256, .inl u.2.2.2)), (ty_, .inl (g.2.1, 2, .inl fy)), (sz_, .inl (g.2.1, 2, .inl fz_)), (em, .inl (g.2.1, 512, .inl fg))])) A) args S_ 0 0 A) (F0 m_ 50 ls []) := by
            intro r
            induction r with
            | zero =>
              intro j s1 z1 fm1 h1 hl1 hq hq2 hf1 H locs hP hD hS ls hl
              have e9 : s1 = y := by (have e8 : v.drop j = [] := List.drop_eq_nil_iff.mpr (by omega)); rw [e8, impL] at hq; cases hq; simpa using hq2
              refine lv_iload_n X.1 X.2.1 dX12_importTable_50 rfl (lv_at hl 0 rfl) ?_
              refine lv_aload_n X.1 X.2.1 dX12_importTable_51 rfl (lv_at hl 1 rfl) ?_
              refine va_get (D := g.1) (ci := 11) (v := .ref sz_) (C := RX12) (T := TX12) (N := 26) X.1 X.2.1 X.2.2.2.2 iwX12 X.2.2.2.1 hK hP 0 rfl rfl 24 (by decide) (X.2.2.2.2 _ q1044) (fun _ h9 => h9) rfl dX12_importTable_52 ?_
              refine lv_iload_n X.1 X.2.1 dX12_importTable_55 rfl (lv_at hl 2 rfl) ?_
              refine n_iald X hK hP 6 0 rfl rfl (by omega) (by decide) dX12_importTable_56 ?_
              refine tp_i (y := (nI v.length)) (hmt.2.1) ?_
              refine z_icmp_ge (tgt := 109) X dX12_importTable_57 (by decide) (nI_toInt (by omega)) (nI_toInt (by omega)) (fun c57 => ?_) (fun c57 => ?_)
              · have hP : PP g [(m0, .inr (11, [.int (nI k), .int (nI n), .ref lt, .int (nI s.length), .ref er, .ref el, .int (nI h.length), .ref cm_, .int (nI c.length), .int (bI tk), .int (nI k0), .int (nI n0), .ref sv, .int (nI s0.length), .ref md, .int (nI y.length), .ref fmm, .ref lc, .ref lz, .ref af, .ref pt_, .int (nI p.length), .ref oc, .ref ty_, .ref sz_, .ref em])), (lt, .inl (g.2.1, 256, .inl f)), (er, .inl (g.2.1, 1536, .inl fe)), (el, .inl (g.2.1, 6, .inl fl)), (md, .inl (g.2.1, 256, .inl fm1)), (ty_, .inl (g.2.1, 2, .inl fy)), (sz_, .inl (g.2.1, 2, .inl fz_)), (em, .inl (g.2.1, 512, .inl fg))] H := by rw [← e9]; exact hP
                have hD : va_D A [(m0, .inr (11, [.int (nI k), .int (nI n), .ref lt, .int (nI s.length), .ref er, .ref el, .int (nI h.length), .ref cm_, .int (nI c.length), .int (bI tk), .int (nI k0), .int (nI n0), .ref sv, .int (nI s0.length), .ref md, .int (nI y.length), .ref fmm, .ref lc, .ref lz, .ref af, .ref pt_, .int (nI p.length), .ref oc, .ref ty_, .ref sz_, .ref em])), (lt, .inl (g.2.1, 256, .inl f)), (er, .inl (g.2.1, 1536, .inl fe)), (el, .inl (g.2.1, 6, .inl fl)), (md, .inl (g.2.1, 256, .inl fm1)), (ty_, .inl (g.2.1, 2, .inl fy)), (sz_, .inl (g.2.1, 2, .inl fz_)), (em, .inl (g.2.1, 512, .inl fg))] := by rw [← e9]; exact hD
                refine lv_aload_n X.1 X.2.1 dX12_importTable_109 rfl (lv_at hl 1 rfl) ?_
                refine (m_edit g m0 lt er el cm_ sv md fmm lc lz af pt_ oc ty_ sz_ em k n s h c tk k0 n0 s0 y p f fe fl fm1 (by omega) (by assumption) (by omega) (rep_eq hf1 e9) (by assumption)).callV (rest := []) (wr := [(ty_, .inl (g.2.1, 2, .inl fy)), (sz_, .inl (g.2.1, 2, .inl fz_)), (em, .inl (g.2.1, 512, .inl fg))]) X dX12_importTable_110 q1194 tX12_edit hK hP hD hS hA [0, 1, 2, 3, 4] [5, 6, 7] (by decide) rfl rfl (by decide) (by decide) 0 11 rfl rfl rfl hl ⟨⟨Nat.le_of_ble_eq_true rfl, Nat.le_of_ble_eq_true rfl⟩, Nat.le_of_ble_eq_true rfl, Nat.le_of_ble_eq_true rfl⟩ rfl rfl (Nat.le_of_ble_eq_true rfl) (fun u110 H locs hw110 hP hD hS => ?_)
                obtain ⟨f1_110, fe1_110, fl1_110⟩ := u110
                have hP : PP g [(ty_, .inl (g.2.1, 2, .inl fy)), (sz_, .inl (g.2.1, 2, .inl fz_)), (em, .inl (g.2.1, 512, .inl fg)), (m0, .inr (11, [.int (nI k), .int (nI n), .ref lt, .int (nI y.length), .ref er, .ref el, .int (nI (((s :: h).take 6).length)), .ref cm_, .int (nI c.length), .int (bI tk), .int (nI k0), .int (nI n0), .ref sv, .int (nI s0.length), .ref md, .int (nI y.length), .ref fmm, .ref lc, .ref lz, .ref af, .ref pt_, .int (nI p.length), .ref oc, .ref ty_, .ref sz_, .ref em])), (lt, .inl (g.2.1, 256, .inl f1_110)), (er, .inl (g.2.1, 1536, .inl fe1_110)), (el, .inl (g.2.1, 6, .inl fl1_110)), (md, .inl (g.2.1, 256, .inl fm1))] H := hP
                have hD : va_D A [(ty_, .inl (g.2.1, 2, .inl fy)), (sz_, .inl (g.2.1, 2, .inl fz_)), (em, .inl (g.2.1, 512, .inl fg)), (m0, .inr (11, [.int (nI k), .int (nI n), .ref lt, .int (nI y.length), .ref er, .ref el, .int (nI (((s :: h).take 6).length)), .ref cm_, .int (nI c.length), .int (bI tk), .int (nI k0), .int (nI n0), .ref sv, .int (nI s0.length), .ref md, .int (nI y.length), .ref fmm, .ref lc, .ref lz, .ref af, .ref pt_, .int (nI p.length), .ref oc, .ref ty_, .ref sz_, .ref em])), (lt, .inl (g.2.1, 256, .inl f1_110)), (er, .inl (g.2.1, 1536, .inl fe1_110)), (el, .inl (g.2.1, 6, .inl fl1_110)), (md, .inl (g.2.1, 256, .inl fm1))] := hD
                try dsimp only at hw110
                refine lv_aload_n X.1 X.2.1 dX12_importTable_113 rfl (lv_at hl 1 rfl) ?_
                refine va_get (D := g.1) (ci := 11) (v := .int (nI y.length)) (C := RX12) (T := TX12) (N := 26) X.1 X.2.1 X.2.2.2.2 iwX12 X.2.2.2.1 hK hP 3 rfl rfl 3 (by decide) (X.2.2.2.2 _ q1023) (fun _ h9 => h9) rfl dX12_importTable_114 ?_
                exact MuI.ret X hr hlk hK hS dX12_importTable_117 (nI_nar _) (f1_110, fe1_110, fl1_110, fm1) (hP.sub [3, 4, 5, 6, 7, 0, 1, 2] rfl) (hD.sub [3, 4, 5, 6, 7, 0, 1, 2] (by decide) rfl) (⟨rfl, hw110⟩)
              · exfalso; omega
            | succ r ih50 =>
              intro j s1 z1 fm1 h1 hl1 hq hq2 hf1 H locs hP hD hS ls hl
              obtain ⟨hcn, z2, hz2, hz3⟩ := impL_some hq (by omega)
              have hbj := hbv j
              refine lv_iload_n X.1 X.2.1 dX12_importTable_50 rfl (lv_at hl 0 rfl) ?_
              refine lv_aload_n X.1 X.2.1 dX12_importTable_51 rfl (lv_at hl 1 rfl) ?_
              refine va_get (D := g.1) (ci := 11) (v := .ref sz_) (C := RX12) (T := TX12) (N := 26) X.1 X.2.1 X.2.2.2.2 iwX12 X.2.2.2.1 hK hP 0 rfl rfl 24 (by decide) (X.2.2.2.2 _ q1044) (fun _ h9 => h9) rfl dX12_importTable_52 ?_
              refine lv_iload_n X.1 X.2.1 dX12_importTable_55 rfl (lv_at hl 2 rfl) ?_
              refine n_iald X hK hP 6 0 rfl rfl (by omega) (by decide) dX12_importTable_56 ?_
              refine tp_i (y := (nI v.length)) (hmt.2.1) ?_
              refine z_icmp_ge (tgt := 109) X dX12_importTable_57 (by decide) (nI_toInt (by omega)) (nI_toInt (by omega)) (fun c57 => ?_) (fun c57 => ?_)
              · exfalso; omega
              · refine lv_aload_n X.1 X.2.1 dX12_importTable_60 rfl (lv_at hl 1 rfl) ?_
                refine va_get (D := g.1) (ci := 11) (v := .ref em) (C := RX12) (T := TX12) (N := 26) X.1 X.2.1 X.2.2.2.2 iwX12 X.2.2.2.1 hK hP 0 rfl rfl 25 (by decide) (X.2.2.2.2 _ q1045) (fun _ h9 => h9) rfl dX12_importTable_61 ?_
                refine lv_sipush (v := (nI 256)) X.1 X.2.1 dX12_importTable_64 (by decide) ?_
                refine lv_iload_n X.1 X.2.1 dX12_importTable_67 rfl (lv_at hl 2 rfl) ?_
                refine n_mul X dX12_importTable_68 ?_
                refine lv_iload_n X.1 X.2.1 dX12_importTable_69 rfl (lv_at hl 0 rfl) ?_
                refine n_add X dX12_importTable_70 ?_
                refine n_iald X hK hP 7 0 rfl rfl (by omega) (by decide) dX12_importTable_71 ?_
                have hbj := hbv j
                refine tp_i (y := (v.getD j 0)) (hmt.2.2 j (by omega)) ?_
                refine lv_iload_n X.1 X.2.1 dX12_importTable_72 rfl (lv_at hl 3 rfl) ?_
                refine z_if_ne (tgt := 80) X dX12_importTable_73 (by decide) (nI_toInt (by omega)) (fun c73 => ?_) (fun c73 => ?_)
                · refine lv_bipush (v := (nI 97)) X.1 X.2.1 dX12_importTable_80 (by decide) ?_
                  refine lv_isub X.1 X.2.1 dX12_importTable_82 ?_
                  refine tp_i (y := (nI (((v.getD j 0).toInt - basI ty).toNat))) ((show _ = v.getD j 0 - nI (if ty = 1 then 97 else 0) from by first | (rw [if_pos (by omega)]; done) | (rw [if_neg (by omega)]; done)).trans (imp_N hbj.1 hbj.2 hcn.1)) ?_
                  refine lv_istore (lv' := [(4, .int (nI (((v.getD j 0).toInt - basI ty).toNat))), (3, .int (nI j)), (0, .ref m0), (1, .int (nI 0)), (2, .int (nI a))]) X.1 X.2.1 dX12_importTable_83 hl (by decide) rfl (fun ls hl => ?_)
                  refine lv_aload_n X.1 X.2.1 dX12_importTable_85 rfl (lv_at hl 2 rfl) ?_
                  refine lv_iload X.1 X.2.1 dX12_importTable_86 (lv_at hl 0 rfl) ?_
                  refine (m_isLetter g m0 lt er el cm_ sv md fmm lc lz af pt_ oc ty_ sz_ em k n s h c tk k0 n0 s0 s1 p B T (nI (((v.getD j 0).toInt - basI ty).toNat)) (by assumption)).callV (rest := []) X dX12_importTable_88 q1222 tX12_isLetter hK (hP.sub [0] rfl) 0 11 rfl rfl rfl hl ⟨⟨Nat.le_of_ble_eq_true rfl, Nat.le_of_ble_eq_true rfl⟩, Nat.le_of_ble_eq_true rfl, Nat.le_of_ble_eq_true rfl⟩ rfl rfl (Nat.le_of_ble_eq_true rfl) ?_
                  have h8 : hasB (nI ((v.getD j 0).toInt - basI ty).toNat) k = true := by rw [hasB_N (by omega)]; exact decide_eq_true (by omega)
                  refine b_if_ne (tgt := 97) X dX12_importTable_91 (by decide) (fun c91 => ?_) (fun c91 => ?_)
                  · refine lv_aload_n X.1 X.2.1 dX12_importTable_97 rfl (lv_at hl 2 rfl) ?_
                    refine lv_iload X.1 X.2.1 dX12_importTable_98 (lv_at hl 0 rfl) ?_
                    refine (m_make g m0 lt er el cm_ sv md fmm lc lz af pt_ oc ty_ sz_ em k n s h c tk k0 n0 s0 s1 p fm1 (((v.getD j 0).toInt - basI ty).toNat) (by omega) (by assumption)).callV (rest := []) (wr := [(lt, .inl (g.2.1, 256, .inl f)), (er, .inl (g.2.1, 1536, .inl fe)), (el, .inl (g.2.1, 6, .inl fl)), (ty_, .inl (g.2.1, 2, .inl fy)), (sz_, .inl (g.2.1, 2, .inl fz_)), (em, .inl (g.2.1, 512, .inl fg))]) X dX12_importTable_100 q1141 tX12_make hK hP hD hS hA [0, 4] [1, 2, 3, 5, 6, 7] (by decide) rfl rfl (by decide) (by decide) 0 11 rfl rfl rfl hl ⟨⟨Nat.le_of_ble_eq_true rfl, Nat.le_of_ble_eq_true rfl⟩, Nat.le_of_ble_eq_true rfl, Nat.le_of_ble_eq_true rfl⟩ rfl rfl (Nat.le_of_ble_eq_true rfl) (fun u100 H locs hw100 hP hD hS => ?_)
                    obtain ⟨fm1_100, rfl⟩ : ∃ z, z = u100 := ⟨_, rfl⟩
                    have hP : PP g [(lt, .inl (g.2.1, 256, .inl f)), (er, .inl (g.2.1, 1536, .inl fe)), (el, .inl (g.2.1, 6, .inl fl)), (ty_, .inl (g.2.1, 2, .inl fy)), (sz_, .inl (g.2.1, 2, .inl fz_)), (em, .inl (g.2.1, 512, .inl fg)), (m0, .inr (11, [.int (nI k), .int (nI n), .ref lt, .int (nI s.length), .ref er, .ref el, .int (nI h.length), .ref cm_, .int (nI c.length), .int (bI tk), .int (nI k0), .int (nI n0), .ref sv, .int (nI s0.length), .ref md, .int (nI ((s1 ++ [(((v.getD j 0).toInt - basI ty).toNat)]).length)), .ref fmm, .ref lc, .ref lz, .ref af, .ref pt_, .int (nI p.length), .ref oc, .ref ty_, .ref sz_, .ref em])), (md, .inl (g.2.1, 256, .inl fm1_100))] H := hP
                    have hD : va_D A [(lt, .inl (g.2.1, 256, .inl f)), (er, .inl (g.2.1, 1536, .inl fe)), (el, .inl (g.2.1, 6, .inl fl)), (ty_, .inl (g.2.1, 2, .inl fy)), (sz_, .inl (g.2.1, 2, .inl fz_)), (em, .inl (g.2.1, 512, .inl fg)), (m0, .inr (11, [.int (nI k), .int (nI n), .ref lt, .int (nI s.length), .ref er, .ref el, .int (nI h.length), .ref cm_, .int (nI c.length), .int (bI tk), .int (nI k0), .int (nI n0), .ref sv, .int (nI s0.length), .ref md, .int (nI ((s1 ++ [(((v.getD j 0).toInt - basI ty).toNat)]).length)), .ref fmm, .ref lc, .ref lz, .ref af, .ref pt_, .int (nI p.length), .ref oc, .ref ty_, .ref sz_, .ref em])), (md, .inl (g.2.1, 256, .inl fm1_100))] := hD
                    try dsimp only at hw100
                    refine lv_iinc (v := (nI (j + 1))) (lv' := [(3, .int (nI (j + 1))), (4, .int (nI (((v.getD j 0).toInt - basI ty).toNat))), (0, .ref m0), (1, .int (nI 0)), (2, .int (nI a))]) X.1 X.2.1 dX12_importTable_103 hl (k := 1) rfl (nI_inc _) (by decide) rfl (fun ls hl => ?_)
                    refine lv_goto (tgt := 50) X.1 X.2.1 dX12_importTable_106 (by decide) ?_
                    exact ih50 (j + 1) (s1 ++ [((v.getD j 0).toInt - basI ty).toNat]) z2 fm1_100 (by omega) (by simp; omega) (hz2) (by rw [← hq2, hz3]; simp) (hw100) _ _ (hP.sub [6, 0, 1, 2, 7, 3, 4, 5] rfl) (hD.sub [6, 0, 1, 2, 7, 3, 4, 5] (by decide) rfl) hS ls (lv_sub hl [0, 2, 3, 4] rfl)
                  · exfalso; rw [h8] at c91; cases c91
                · refine lv_iconst (v := (nI 0)) X.1 X.2.1 dX12_importTable_76 (by decide) ?_
                  refine lv_goto (tgt := 82) X.1 X.2.1 dX12_importTable_77 (by decide) ?_
                  refine lv_isub X.1 X.2.1 dX12_importTable_82 ?_
                  refine tp_i (y := (nI (((v.getD j 0).toInt - basI ty).toNat))) ((show _ = v.getD j 0 - nI (if ty = 1 then 97 else 0) from by first | (rw [if_pos (by omega)]; done) | (rw [if_neg (by omega)]; done)).trans (imp_N hbj.1 hbj.2 hcn.1)) ?_
                  refine lv_istore (lv' := [(4, .int (nI (((v.getD j 0).toInt - basI ty).toNat))), (3, .int (nI j)), (0, .ref m0), (1, .int (nI 0)), (2, .int (nI a))]) X.1 X.2.1 dX12_importTable_83 hl (by decide) rfl (fun ls hl => ?_)
                  refine lv_aload_n X.1 X.2.1 dX12_importTable_85 rfl (lv_at hl 2 rfl) ?_
                  refine lv_iload X.1 X.2.1 dX12_importTable_86 (lv_at hl 0 rfl) ?_
                  refine (m_isLetter g m0 lt er el cm_ sv md fmm lc lz af pt_ oc ty_ sz_ em k n s h c tk k0 n0 s0 s1 p B T (nI (((v.getD j 0).toInt - basI ty).toNat)) (by assumption)).callV (rest := []) X dX12_importTable_88 q1222 tX12_isLetter hK (hP.sub [0] rfl) 0 11 rfl rfl rfl hl ⟨⟨Nat.le_of_ble_eq_true rfl, Nat.le_of_ble_eq_true rfl⟩, Nat.le_of_ble_eq_true rfl, Nat.le_of_ble_eq_true rfl⟩ rfl rfl (Nat.le_of_ble_eq_true rfl) ?_
                  have h8 : hasB (nI ((v.getD j 0).toInt - basI ty).toNat) k = true := by rw [hasB_N (by omega)]; exact decide_eq_true (by omega)
                  refine b_if_ne (tgt := 97) X dX12_importTable_91 (by decide) (fun c91 => ?_) (fun c91 => ?_)
                  · refine lv_aload_n X.1 X.2.1 dX12_importTable_97 rfl (lv_at hl 2 rfl) ?_
                    refine lv_iload X.1 X.2.1 dX12_importTable_98 (lv_at hl 0 rfl) ?_
                    refine (m_make g m0 lt er el cm_ sv md fmm lc lz af pt_ oc ty_ sz_ em k n s h c tk k0 n0 s0 s1 p fm1 (((v.getD j 0).toInt - basI ty).toNat) (by omega) (by assumption)).callV (rest := []) (wr := [(lt, .inl (g.2.1, 256, .inl f)), (er, .inl (g.2.1, 1536, .inl fe)), (el, .inl (g.2.1, 6, .inl fl)), (ty_, .inl (g.2.1, 2, .inl fy)), (sz_, .inl (g.2.1, 2, .inl fz_)), (em, .inl (g.2.1, 512, .inl fg))]) X dX12_importTable_100 q1141 tX12_make hK hP hD hS hA [0, 4] [1, 2, 3, 5, 6, 7] (by decide) rfl rfl (by decide) (by decide) 0 11 rfl rfl rfl hl ⟨⟨Nat.le_of_ble_eq_true rfl, Nat.le_of_ble_eq_true rfl⟩, Nat.le_of_ble_eq_true rfl, Nat.le_of_ble_eq_true rfl⟩ rfl rfl (Nat.le_of_ble_eq_true rfl) (fun u100 H locs hw100 hP hD hS => ?_)
                    obtain ⟨fm1_100, rfl⟩ : ∃ z, z = u100 := ⟨_, rfl⟩
                    have hP : PP g [(lt, .inl (g.2.1, 256, .inl f)), (er, .inl (g.2.1, 1536, .inl fe)), (el, .inl (g.2.1, 6, .inl fl)), (ty_, .inl (g.2.1, 2, .inl fy)), (sz_, .inl (g.2.1, 2, .inl fz_)), (em, .inl (g.2.1, 512, .inl fg)), (m0, .inr (11, [.int (nI k), .int (nI n), .ref lt, .int (nI s.length), .ref er, .ref el, .int (nI h.length), .ref cm_, .int (nI c.length), .int (bI tk), .int (nI k0), .int (nI n0), .ref sv, .int (nI s0.length), .ref md, .int (nI ((s1 ++ [(((v.getD j 0).toInt - basI ty).toNat)]).length)), .ref fmm, .ref lc, .ref lz, .ref af, .ref pt_, .int (nI p.length), .ref oc, .ref ty_, .ref sz_, .ref em])), (md, .inl (g.2.1, 256, .inl fm1_100))] H := hP
                    have hD : va_D A [(lt, .inl (g.2.1, 256, .inl f)), (er, .inl (g.2.1, 1536, .inl fe)), (el, .inl (g.2.1, 6, .inl fl)), (ty_, .inl (g.2.1, 2, .inl fy)), (sz_, .inl (g.2.1, 2, .inl fz_)), (em, .inl (g.2.1, 512, .inl fg)), (m0, .inr (11, [.int (nI k), .int (nI n), .ref lt, .int (nI s.length), .ref er, .ref el, .int (nI h.length), .ref cm_, .int (nI c.length), .int (bI tk), .int (nI k0), .int (nI n0), .ref sv, .int (nI s0.length), .ref md, .int (nI ((s1 ++ [(((v.getD j 0).toInt - basI ty).toNat)]).length)), .ref fmm, .ref lc, .ref lz, .ref af, .ref pt_, .int (nI p.length), .ref oc, .ref ty_, .ref sz_, .ref em])), (md, .inl (g.2.1, 256, .inl fm1_100))] := hD
                    try dsimp only at hw100
                    refine lv_iinc (v := (nI (j + 1))) (lv' := [(3, .int (nI (j + 1))), (4, .int (nI (((v.getD j 0).toInt - basI ty).toNat))), (0, .ref m0), (1, .int (nI 0)), (2, .int (nI a))]) X.1 X.2.1 dX12_importTable_103 hl (k := 1) rfl (nI_inc _) (by decide) rfl (fun ls hl => ?_)
                    refine lv_goto (tgt := 50) X.1 X.2.1 dX12_importTable_106 (by decide) ?_
                    exact ih50 (j + 1) (s1 ++ [((v.getD j 0).toInt - basI ty).toNat]) z2 fm1_100 (by omega) (by simp; omega) (hz2) (by rw [← hq2, hz3]; simp) (hw100) _ _ (hP.sub [6, 0, 1, 2, 7, 3, 4, 5] rfl) (hD.sub [6, 0, 1, 2, 7, 3, 4, 5] (by decide) rfl) hS ls (lv_sub hl [0, 2, 3, 4] rfl)
                  · exfalso; rw [h8] at c91; cases c91
          exact L50 v.length 0 ([] : List Nat) y fm_ (by omega) (rfl) (by rw [List.drop_zero]; exact hy) (rfl) (rep_nil) _ _ (hP.sub [0, 1, 2, 3, 4, 5, 6, 7] rfl) (hD.sub [0, 1, 2, 3, 4, 5, 6, 7] (by decide) rfl) hS ls (lv_sub hl [0, 1, 2, 3] rfl)
        · exfalso; omega
      · exfalso; omega
    · exfalso; have h6 := of_decide_eq_false c13; rw [nI_toInt (by omega)] at h6; omega

set_option maxHeartbeats 4000000 in
set_option maxRecDepth 100000 in
theorem m_importTable_x0 (g : G5) (m0 : Nat) (lt : Nat) (er : Nat) (el : Nat) (cm_ : Nat) (sv : Nat) (md : Nat) (fmm : Nat) (lc : Nat) (lz : Nat) (af : Nat) (pt_ : Nat) (oc : Nat) (ty_ : Nat) (sz_ : Nat) (em : Nat) (k : Nat) (n : Nat) (s : List Nat) (h : List (List Nat)) (c : List Nat) (tk : Bool) (k0 : Nat) (n0 : Nat) (s0 : List Nat) (z : List Nat) (p : List Int) (fm_ : Nat → Int32) (B : Nat) (T : Nat) (fy : Nat → Int32) (fz_ : Nat → Int32) (fg : Nat → Int32) (ty : Int) (v : List Int32) (a : Nat) (hc : shp k n B T) (hv : v.length ≤ 256) (hty : -1 ≤ ty ∧ ty ≤ 1) (hmt : mtb 0 fy fz_ fg ty v) (ha : a < 2) (hta : ty = ((a : Nat) : Int)) (hbv : bdv v) (hy : impL k (basI ty) v = none) : MuI (S := (List Nat) × (Nat → Int32)) yX12_importTable cX12_importTable 5 (some .int) 2 61 g [.ref m0, .int (nI 0), .int (nI a)] [(m0, .inr (11, [.int (nI k), .int (nI n), .ref lt, .int (nI s.length), .ref er, .ref el, .int (nI h.length), .ref cm_, .int (nI c.length), .int (bI tk), .int (nI k0), .int (nI n0), .ref sv, .int (nI s0.length), .ref md, .int (nI z.length), .ref fmm, .ref lc, .ref lz, .ref af, .ref pt_, .int (nI p.length), .ref oc, .ref ty_, .ref sz_, .ref em])), (md, .inl (g.2.1, 256, .inl fm_)), (ty_, .inl (g.2.1, 2, .inl fy)), (sz_, .inl (g.2.1, 2, .inl fz_)), (em, .inl (g.2.1, 512, .inl fg))] (fun r u => r = (-5) ∧ True) (fun u => [(m0, .inr (11, [.int (nI k), .int (nI n), .ref lt, .int (nI s.length), .ref er, .ref el, .int (nI h.length), .ref cm_, .int (nI c.length), .int (bI tk), .int (nI k0), .int (nI n0), .ref sv, .int (nI s0.length), .ref md, .int (nI u.1.length), .ref fmm, .ref lc, .ref lz, .ref af, .ref pt_, .int (nI p.length), .ref oc, .ref ty_, .ref sz_, .ref em])), (md, .inl (g.2.1, 256, .inl u.2)), (ty_, .inl (g.2.1, 2, .inl fy)), (sz_, .inl (g.2.1, 2, .inl fz_)), (em, .inl (g.2.1, 512, .inl fg))]) := by
  refine MuI.of (by decide +kernel) (Nat.le_of_ble_eq_true rfl) ?_
  intro p_ l_ e_ S_ m_ args below meth co X hr hlk hP hK A hA hD hS ls hl
  have X : CallFix p_ m_ co cX12_importTable 5 S_ args lw_all RX12 := X
  have hl : lv_has ls 5 [(0, .ref m0), (1, .int (nI 0)), (2, .int (nI a))] := hl
  obtain ⟨hk2, hk4, hn1, hn6, hB, hT, hBT, hT2⟩ := hc.f
  have hB0 : 0 < B := by rw [hBT]; exact Nat.mul_pos (by omega) (by omega)
  refine lv_iload_n X.1 X.2.1 dX12_importTable_0 rfl (lv_at hl 1 rfl) ?_
  refine (c_misT g (nI 0)).callS (rest := []) X dX12_importTable_1 q1455 tX12_isTable hK (hP.sub [] rfl) hl ⟨⟨Nat.le_of_ble_eq_true rfl, Nat.le_of_ble_eq_true rfl⟩, Nat.le_of_ble_eq_true rfl, Nat.le_of_ble_eq_true rfl⟩ rfl rfl (Nat.le_of_ble_eq_true rfl) ?_
  refine b_if_eq (tgt := 16) X dX12_importTable_4 (by decide) (fun c4 => ?_) (fun c4 => ?_)
  · exfalso; have h6 := of_decide_eq_false c4; rw [nI_toInt (by omega)] at h6; omega
  · refine lv_iload_n X.1 X.2.1 dX12_importTable_7 rfl (lv_at hl 2 rfl) ?_
    refine lv_iconst (v := (nI 0)) X.1 X.2.1 dX12_importTable_8 (by decide) ?_
    refine lv_iconst (v := (nI 1)) X.1 X.2.1 dX12_importTable_9 (by decide) ?_
    refine (c_inN g (nI a) 0 1 (by omega) (by omega)).callS (rest := []) X dX12_importTable_10 q1103 tX12_in hK (hP.sub [] rfl) hl ⟨⟨Nat.le_of_ble_eq_true rfl, Nat.le_of_ble_eq_true rfl⟩, Nat.le_of_ble_eq_true rfl, Nat.le_of_ble_eq_true rfl⟩ rfl rfl (Nat.le_of_ble_eq_true rfl) ?_
    refine b_if_ne (tgt := 18) X dX12_importTable_13 (by decide) (fun c13 => ?_) (fun c13 => ?_)
    · refine lv_aload_n X.1 X.2.1 dX12_importTable_18 rfl (lv_at hl 0 rfl) ?_
      refine va_get (D := g.1) (ci := 11) (v := .ref ty_) (C := RX12) (T := TX12) (N := 26) X.1 X.2.1 X.2.2.2.2 iwX12 X.2.2.2.1 hK hP 0 rfl rfl 23 (by decide) (X.2.2.2.2 _ q1043) (fun _ h9 => h9) rfl dX12_importTable_19 ?_
      refine lv_iload_n X.1 X.2.1 dX12_importTable_22 rfl (lv_at hl 1 rfl) ?_
      refine n_iald X hK hP 2 0 rfl rfl (by omega) (by decide) dX12_importTable_23 ?_
      refine tp_i (y := (iI ty)) (hmt.1) ?_
      refine z_if_ge (tgt := 30) X dX12_importTable_24 (by decide) (iI_toInt (by omega) (by omega)) (fun c24 => ?_) (fun c24 => ?_)
      · refine lv_aload_n X.1 X.2.1 dX12_importTable_30 rfl (lv_at hl 0 rfl) ?_
        refine va_get (D := g.1) (ci := 11) (v := .ref ty_) (C := RX12) (T := TX12) (N := 26) X.1 X.2.1 X.2.2.2.2 iwX12 X.2.2.2.1 hK hP 0 rfl rfl 23 (by decide) (X.2.2.2.2 _ q1043) (fun _ h9 => h9) rfl dX12_importTable_31 ?_
        refine lv_iload_n X.1 X.2.1 dX12_importTable_34 rfl (lv_at hl 1 rfl) ?_
        refine n_iald X hK hP 2 0 rfl rfl (by omega) (by decide) dX12_importTable_35 ?_
        refine tp_i (y := (iI ty)) (hmt.1) ?_
        refine lv_iload_n X.1 X.2.1 dX12_importTable_36 rfl (lv_at hl 2 rfl) ?_
        refine z_icmp_eq (tgt := 43) X dX12_importTable_37 (by decide) (iI_toInt (by omega) (by omega)) (nI_toInt (by omega)) (fun c37 => ?_) (fun c37 => ?_)
        · refine lv_aload_n X.1 X.2.1 dX12_importTable_43 rfl (lv_at hl 0 rfl) ?_
          refine lv_iconst (v := (nI 0)) X.1 X.2.1 dX12_importTable_44 (by decide) ?_
          refine va_put (D := g.1) (ci := 11) (v := .int (nI 0)) (ty := .int) (C := RX12) (T := TX12) (N := 26) X.1 X.2.1 X.2.2.2.2 iwX12 tyX12 tyX12_ok nmX12 X.2.2.2.1 hK hP hD hS 0 rfl rfl 15 (by decide) (X.2.2.2.2 _ q1035) (fun _ h9 => h9) rfl (by decide +kernel) rfl rfl (Nat.le_of_ble_eq_true rfl) dX12_importTable_45 (fun H locs hP hD hS => ?_)
          have hP : PP g [(m0, .inr (11, [.int (nI k), .int (nI n), .ref lt, .int (nI s.length), .ref er, .ref el, .int (nI h.length), .ref cm_, .int (nI c.length), .int (bI tk), .int (nI k0), .int (nI n0), .ref sv, .int (nI s0.length), .ref md, .int (nI 0), .ref fmm, .ref lc, .ref lz, .ref af, .ref pt_, .int (nI p.length), .ref oc, .ref ty_, .ref sz_, .ref em])), (md, .inl (g.2.1, 256, .inl fm_)), (ty_, .inl (g.2.1, 2, .inl fy)), (sz_, .inl (g.2.1, 2, .inl fz_)), (em, .inl (g.2.1, 512, .inl fg))] H := hP
          have hD : va_D A [(m0, .inr (11, [.int (nI k), .int (nI n), .ref lt, .int (nI s.length), .ref er, .ref el, .int (nI h.length), .ref cm_, .int (nI c.length), .int (bI tk), .int (nI k0), .int (nI n0), .ref sv, .int (nI s0.length), .ref md, .int (nI 0), .ref fmm, .ref lc, .ref lz, .ref af, .ref pt_, .int (nI p.length), .ref oc, .ref ty_, .ref sz_, .ref em])), (md, .inl (g.2.1, 256, .inl fm_)), (ty_, .inl (g.2.1, 2, .inl fy)), (sz_, .inl (g.2.1, 2, .inl fz_)), (em, .inl (g.2.1, 512, .inl fg))] := hD
          have hP : PP g [(m0, .inr (11, [.int (nI k), .int (nI n), .ref lt, .int (nI s.length), .ref er, .ref el, .int (nI h.length), .ref cm_, .int (nI c.length), .int (bI tk), .int (nI k0), .int (nI n0), .ref sv, .int (nI s0.length), .ref md, .int (nI (([] : List Nat).length)), .ref fmm, .ref lc, .ref lz, .ref af, .ref pt_, .int (nI p.length), .ref oc, .ref ty_, .ref sz_, .ref em])), (md, .inl (g.2.1, 256, .inl fm_)), (ty_, .inl (g.2.1, 2, .inl fy)), (sz_, .inl (g.2.1, 2, .inl fz_)), (em, .inl (g.2.1, 512, .inl fg))] H := by exact hP
          have hD : va_D A [(m0, .inr (11, [.int (nI k), .int (nI n), .ref lt, .int (nI s.length), .ref er, .ref el, .int (nI h.length), .ref cm_, .int (nI c.length), .int (bI tk), .int (nI k0), .int (nI n0), .ref sv, .int (nI s0.length), .ref md, .int (nI (([] : List Nat).length)), .ref fmm, .ref lc, .ref lz, .ref af, .ref pt_, .int (nI p.length), .ref oc, .ref ty_, .ref sz_, .ref em])), (md, .inl (g.2.1, 256, .inl fm_)), (ty_, .inl (g.2.1, 2, .inl fy)), (sz_, .inl (g.2.1, 2, .inl fz_)), (em, .inl (g.2.1, 512, .inl fg))] := by exact hD
          refine lv_iconst (v := (nI 0)) X.1 X.2.1 dX12_importTable_48 (by decide) ?_
          refine lv_istore_n (lv' := [(3, .int (nI 0)), (0, .ref m0), (1, .int (nI 0)), (2, .int (nI a))]) X.1 X.2.1 dX12_importTable_49 rfl hl (by decide) rfl (fun ls hl => ?_)
          have L50 : ∀ (r : Nat) (j : Nat) (s1 : List Nat) (fm1 : Nat → Int32) (h1 : j + r = v.length) (hl1 : s1.length = j) (hq : impL k (basI ty) (v.drop j) = none) (hf1 : rep fm1 s1) (H : Heap) (locs : List Loc) (hP : PP g [(m0, .inr (11, [.int (nI k), .int (nI n), .ref lt, .int (nI s.length), .ref er, .ref el, .int (nI h.length), .ref cm_, .int (nI c.length), .int (bI tk), .int (nI k0), .int (nI n0), .ref sv, .int (nI s0.length), .ref md, .int (nI s1.length), .ref fmm, .ref lc, .ref lz, .ref af, .ref pt_, .int (nI p.length), .ref oc, .ref ty_, .ref sz_, .ref em])), (md, .inl (g.2.1, 256, .inl fm1)), (ty_, .inl (g.2.1, 2, .inl fy)), (sz_, .inl (g.2.1, 2, .inl fz_)), (em, .inl (g.2.1, 512, .inl fg))] H) (hD : va_D A [(m0, .inr (11, [.int (nI k), .int (nI n), .ref lt, .int (nI s.length), .ref er, .ref el, .int (nI h.length), .ref cm_, .int (nI c.length), .int (bI tk), .int (nI k0), .int (nI n0), .ref sv, .int (nI s0.length), .ref md, .int (nI s1.length), .ref fmm, .ref lc, .ref lz, .ref af, .ref pt_, .int (nI p.length), .ref oc, .ref ty_, .ref sz_, .ref em])), (md, .inl (g.2.1, 256, .inl fm1)), (ty_, .inl (g.2.1, 2, .inl fy)), (sz_, .inl (g.2.1, 2, .inl fz_)), (em, .inl (g.2.1, 512, .inl fg))]) (hS : va_S A S_.heap H locs) (ls : Array Slot) (hl : lv_has ls 5 [(3, .int (nI j)), (0, .ref m0), (1, .int (nI 0)), (2, .int (nI a))]), W p_ l_ e_ { frames := 2, cells := 0, slots := 0, locals := 61 } S_ m_ args below meth co H locs 0 0 (MQ below (va_Qi (S := (List Nat) × (Nat → Int32)) (fun r u => r = (-5) ∧ True) (MuB g A (fun u => [(m0, .inr (11, [.int (nI k), .int (nI n), .ref lt, .int (nI s.length), .ref er, .ref el, .int (nI h.length), .ref cm_, .int (nI c.length), .int (bI tk), .int (nI k0), .int (nI n0), .ref sv, .int (nI s0.length), .ref md, .int (nI u.1.length), .ref fmm, .ref lc, .ref lz, .ref af, .ref pt_, .int (nI p.length), .ref oc, .ref ty_, .ref sz_, .ref em])), (md, .inl (g.2.1, 256, .inl u.2)), (ty_, .inl (g.2.1, 2, .inl fy)), (sz_, .inl (g.2.1, 2, .inl fz_)), (em, .inl (g.2.1, 512, .inl fg))])) A) args S_ 0 0 A) (F0 m_ 50 ls []) := by
            intro r
            induction r with
            | zero =>
              intro j s1 fm1 h1 hl1 hq hf1 H locs hP hD hS ls hl
              exfalso
              rw [List.drop_eq_nil_iff.mpr (by omega), impL] at hq
              cases hq
            | succ r ih50 =>
              intro j s1 fm1 h1 hl1 hq hf1 H locs hP hD hS ls hl
              have hbj := hbv j
              refine lv_iload_n X.1 X.2.1 dX12_importTable_50 rfl (lv_at hl 0 rfl) ?_
              refine lv_aload_n X.1 X.2.1 dX12_importTable_51 rfl (lv_at hl 1 rfl) ?_
              refine va_get (D := g.1) (ci := 11) (v := .ref sz_) (C := RX12) (T := TX12) (N := 26) X.1 X.2.1 X.2.2.2.2 iwX12 X.2.2.2.1 hK hP 0 rfl rfl 24 (by decide) (X.2.2.2.2 _ q1044) (fun _ h9 => h9) rfl dX12_importTable_52 ?_
              refine lv_iload_n X.1 X.2.1 dX12_importTable_55 rfl (lv_at hl 2 rfl) ?_
              refine n_iald X hK hP 3 0 rfl rfl (by omega) (by decide) dX12_importTable_56 ?_
              refine tp_i (y := (nI v.length)) (hmt.2.1) ?_
              refine z_icmp_ge (tgt := 109) X dX12_importTable_57 (by decide) (nI_toInt (by omega)) (nI_toInt (by omega)) (fun c57 => ?_) (fun c57 => ?_)
              · exfalso; omega
              · refine lv_aload_n X.1 X.2.1 dX12_importTable_60 rfl (lv_at hl 1 rfl) ?_
                refine va_get (D := g.1) (ci := 11) (v := .ref em) (C := RX12) (T := TX12) (N := 26) X.1 X.2.1 X.2.2.2.2 iwX12 X.2.2.2.1 hK hP 0 rfl rfl 25 (by decide) (X.2.2.2.2 _ q1045) (fun _ h9 => h9) rfl dX12_importTable_61 ?_
                refine lv_sipush (v := (nI 256)) X.1 X.2.1 dX12_importTable_64 (by decide) ?_
                refine lv_iload_n X.1 X.2.1 dX12_importTable_67 rfl (lv_at hl 2 rfl) ?_
                refine n_mul X dX12_importTable_68 ?_
                refine lv_iload_n X.1 X.2.1 dX12_importTable_69 rfl (lv_at hl 0 rfl) ?_
                refine n_add X dX12_importTable_70 ?_
                refine n_iald X hK hP 4 0 rfl rfl (by omega) (by decide) dX12_importTable_71 ?_
                have hbj := hbv j
                refine tp_i (y := (v.getD j 0)) (hmt.2.2 j (by omega)) ?_
                refine lv_iload_n X.1 X.2.1 dX12_importTable_72 rfl (lv_at hl 3 rfl) ?_
                refine z_if_ne (tgt := 80) X dX12_importTable_73 (by decide) (nI_toInt (by omega)) (fun c73 => ?_) (fun c73 => ?_)
                · refine lv_bipush (v := (nI 97)) X.1 X.2.1 dX12_importTable_80 (by decide) ?_
                  refine lv_isub X.1 X.2.1 dX12_importTable_82 ?_
                  by_cases hcn : 0 ≤ (v.getD j 0).toInt - basI ty ∧ (v.getD j 0).toInt - basI ty < (k : Int)
                  · have h8 : hasB (nI ((v.getD j 0).toInt - basI ty).toNat) k = true := by rw [hasB_N (by omega)]; exact decide_eq_true (by omega)
                    refine tp_i (y := (nI (((v.getD j 0).toInt - basI ty).toNat))) ((show _ = v.getD j 0 - nI (if ty = 1 then 97 else 0) from by first | (rw [if_pos (by omega)]; done) | (rw [if_neg (by omega)]; done)).trans (imp_N hbj.1 hbj.2 hcn.1)) ?_
                    refine lv_istore (lv' := [(4, .int (nI (((v.getD j 0).toInt - basI ty).toNat))), (3, .int (nI j)), (0, .ref m0), (1, .int (nI 0)), (2, .int (nI a))]) X.1 X.2.1 dX12_importTable_83 hl (by decide) rfl (fun ls hl => ?_)
                    refine lv_aload_n X.1 X.2.1 dX12_importTable_85 rfl (lv_at hl 2 rfl) ?_
                    refine lv_iload X.1 X.2.1 dX12_importTable_86 (lv_at hl 0 rfl) ?_
                    refine (m_isLetter g m0 lt er el cm_ sv md fmm lc lz af pt_ oc ty_ sz_ em k n s h c tk k0 n0 s0 s1 p B T (nI (((v.getD j 0).toInt - basI ty).toNat)) (by assumption)).callV (rest := []) X dX12_importTable_88 q1222 tX12_isLetter hK (hP.sub [0] rfl) 0 11 rfl rfl rfl hl ⟨⟨Nat.le_of_ble_eq_true rfl, Nat.le_of_ble_eq_true rfl⟩, Nat.le_of_ble_eq_true rfl, Nat.le_of_ble_eq_true rfl⟩ rfl rfl (Nat.le_of_ble_eq_true rfl) ?_
                    refine b_if_ne (tgt := 97) X dX12_importTable_91 (by decide) (fun c91 => ?_) (fun c91 => ?_)
                    · refine lv_aload_n X.1 X.2.1 dX12_importTable_97 rfl (lv_at hl 2 rfl) ?_
                      refine lv_iload X.1 X.2.1 dX12_importTable_98 (lv_at hl 0 rfl) ?_
                      refine (m_make g m0 lt er el cm_ sv md fmm lc lz af pt_ oc ty_ sz_ em k n s h c tk k0 n0 s0 s1 p fm1 (((v.getD j 0).toInt - basI ty).toNat) (by omega) (by assumption)).callV (rest := []) (wr := [(ty_, .inl (g.2.1, 2, .inl fy)), (sz_, .inl (g.2.1, 2, .inl fz_)), (em, .inl (g.2.1, 512, .inl fg))]) X dX12_importTable_100 q1141 tX12_make hK hP hD hS hA [0, 1] [2, 3, 4] (by decide) rfl rfl (by decide) (by decide) 0 11 rfl rfl rfl hl ⟨⟨Nat.le_of_ble_eq_true rfl, Nat.le_of_ble_eq_true rfl⟩, Nat.le_of_ble_eq_true rfl, Nat.le_of_ble_eq_true rfl⟩ rfl rfl (Nat.le_of_ble_eq_true rfl) (fun u100 H locs hw100 hP hD hS => ?_)
                      obtain ⟨fm1_100, rfl⟩ : ∃ z, z = u100 := ⟨_, rfl⟩
                      have hP : PP g [(ty_, .inl (g.2.1, 2, .inl fy)), (sz_, .inl (g.2.1, 2, .inl fz_)), (em, .inl (g.2.1, 512, .inl fg)), (m0, .inr (11, [.int (nI k), .int (nI n), .ref lt, .int (nI s.length), .ref er, .ref el, .int (nI h.length), .ref cm_, .int (nI c.length), .int (bI tk), .int (nI k0), .int (nI n0), .ref sv, .int (nI s0.length), .ref md, .int (nI ((s1 ++ [(((v.getD j 0).toInt - basI ty).toNat)]).length)), .ref fmm, .ref lc, .ref lz, .ref af, .ref pt_, .int (nI p.length), .ref oc, .ref ty_, .ref sz_, .ref em])), (md, .inl (g.2.1, 256, .inl fm1_100))] H := hP
                      have hD : va_D A [(ty_, .inl (g.2.1, 2, .inl fy)), (sz_, .inl (g.2.1, 2, .inl fz_)), (em, .inl (g.2.1, 512, .inl fg)), (m0, .inr (11, [.int (nI k), .int (nI n), .ref lt, .int (nI s.length), .ref er, .ref el, .int (nI h.length), .ref cm_, .int (nI c.length), .int (bI tk), .int (nI k0), .int (nI n0), .ref sv, .int (nI s0.length), .ref md, .int (nI ((s1 ++ [(((v.getD j 0).toInt - basI ty).toNat)]).length)), .ref fmm, .ref lc, .ref lz, .ref af, .ref pt_, .int (nI p.length), .ref oc, .ref ty_, .ref sz_, .ref em])), (md, .inl (g.2.1, 256, .inl fm1_100))] := hD
                      try dsimp only at hw100
                      refine lv_iinc (v := (nI (j + 1))) (lv' := [(3, .int (nI (j + 1))), (4, .int (nI (((v.getD j 0).toInt - basI ty).toNat))), (0, .ref m0), (1, .int (nI 0)), (2, .int (nI a))]) X.1 X.2.1 dX12_importTable_103 hl (k := 1) rfl (nI_inc _) (by decide) rfl (fun ls hl => ?_)
                      refine lv_goto (tgt := 50) X.1 X.2.1 dX12_importTable_106 (by decide) ?_
                      exact ih50 (j + 1) (s1 ++ [((v.getD j 0).toInt - basI ty).toNat]) fm1_100 (by omega) (by simp; omega) (impL_none hq (by omega) hcn) (hw100) _ _ (hP.sub [3, 4, 0, 1, 2] rfl) (hD.sub [3, 4, 0, 1, 2] (by decide) rfl) hS ls (lv_sub hl [0, 2, 3, 4] rfl)
                    · exfalso; rw [h8] at c91; cases c91
                  · have h8 : hasB (v.getD j 0 - nI (if ty = 1 then 97 else 0)) k = false := by unfold hasB; rw [imp_sub hbj.1 hbj.2]; exact decide_eq_false hcn
                    refine tp_i (y := (v.getD j 0 - nI (if ty = 1 then 97 else 0))) (by first | (rw [if_pos (by omega)]; done) | (rw [if_neg (by omega)]; done)) ?_
                    refine lv_istore (lv' := [(4, .int (v.getD j 0 - nI (if ty = 1 then 97 else 0))), (3, .int (nI j)), (0, .ref m0), (1, .int (nI 0)), (2, .int (nI a))]) X.1 X.2.1 dX12_importTable_83 hl (by decide) rfl (fun ls hl => ?_)
                    refine lv_aload_n X.1 X.2.1 dX12_importTable_85 rfl (lv_at hl 2 rfl) ?_
                    refine lv_iload X.1 X.2.1 dX12_importTable_86 (lv_at hl 0 rfl) ?_
                    refine (m_isLetter g m0 lt er el cm_ sv md fmm lc lz af pt_ oc ty_ sz_ em k n s h c tk k0 n0 s0 s1 p B T (v.getD j 0 - nI (if ty = 1 then 97 else 0)) (by assumption)).callV (rest := []) X dX12_importTable_88 q1222 tX12_isLetter hK (hP.sub [0] rfl) 0 11 rfl rfl rfl hl ⟨⟨Nat.le_of_ble_eq_true rfl, Nat.le_of_ble_eq_true rfl⟩, Nat.le_of_ble_eq_true rfl, Nat.le_of_ble_eq_true rfl⟩ rfl rfl (Nat.le_of_ble_eq_true rfl) ?_
                    refine b_if_ne (tgt := 97) X dX12_importTable_91 (by decide) (fun c91 => ?_) (fun c91 => ?_)
                    · exfalso; rw [h8] at c91; cases c91
                    · refine lv_bipush (v := (-5)) X.1 X.2.1 dX12_importTable_94 (by decide) ?_
                      exact MuI.ret X hr hlk hK hS dX12_importTable_96 (nI_nar _) (s1, fm1) (hP.sub [0, 1, 2, 3, 4] rfl) (hD.sub [0, 1, 2, 3, 4] (by decide) rfl) (⟨rfl, trivial⟩)
                · refine lv_iconst (v := (nI 0)) X.1 X.2.1 dX12_importTable_76 (by decide) ?_
                  refine lv_goto (tgt := 82) X.1 X.2.1 dX12_importTable_77 (by decide) ?_
                  refine lv_isub X.1 X.2.1 dX12_importTable_82 ?_
                  by_cases hcn : 0 ≤ (v.getD j 0).toInt - basI ty ∧ (v.getD j 0).toInt - basI ty < (k : Int)
                  · have h8 : hasB (nI ((v.getD j 0).toInt - basI ty).toNat) k = true := by rw [hasB_N (by omega)]; exact decide_eq_true (by omega)
                    refine tp_i (y := (nI (((v.getD j 0).toInt - basI ty).toNat))) ((show _ = v.getD j 0 - nI (if ty = 1 then 97 else 0) from by first | (rw [if_pos (by omega)]; done) | (rw [if_neg (by omega)]; done)).trans (imp_N hbj.1 hbj.2 hcn.1)) ?_
                    refine lv_istore (lv' := [(4, .int (nI (((v.getD j 0).toInt - basI ty).toNat))), (3, .int (nI j)), (0, .ref m0), (1, .int (nI 0)), (2, .int (nI a))]) X.1 X.2.1 dX12_importTable_83 hl (by decide) rfl (fun ls hl => ?_)
                    refine lv_aload_n X.1 X.2.1 dX12_importTable_85 rfl (lv_at hl 2 rfl) ?_
                    refine lv_iload X.1 X.2.1 dX12_importTable_86 (lv_at hl 0 rfl) ?_
                    refine (m_isLetter g m0 lt er el cm_ sv md fmm lc lz af pt_ oc ty_ sz_ em k n s h c tk k0 n0 s0 s1 p B T (nI (((v.getD j 0).toInt - basI ty).toNat)) (by assumption)).callV (rest := []) X dX12_importTable_88 q1222 tX12_isLetter hK (hP.sub [0] rfl) 0 11 rfl rfl rfl hl ⟨⟨Nat.le_of_ble_eq_true rfl, Nat.le_of_ble_eq_true rfl⟩, Nat.le_of_ble_eq_true rfl, Nat.le_of_ble_eq_true rfl⟩ rfl rfl (Nat.le_of_ble_eq_true rfl) ?_
                    refine b_if_ne (tgt := 97) X dX12_importTable_91 (by decide) (fun c91 => ?_) (fun c91 => ?_)
                    · refine lv_aload_n X.1 X.2.1 dX12_importTable_97 rfl (lv_at hl 2 rfl) ?_
                      refine lv_iload X.1 X.2.1 dX12_importTable_98 (lv_at hl 0 rfl) ?_
                      refine (m_make g m0 lt er el cm_ sv md fmm lc lz af pt_ oc ty_ sz_ em k n s h c tk k0 n0 s0 s1 p fm1 (((v.getD j 0).toInt - basI ty).toNat) (by omega) (by assumption)).callV (rest := []) (wr := [(ty_, .inl (g.2.1, 2, .inl fy)), (sz_, .inl (g.2.1, 2, .inl fz_)), (em, .inl (g.2.1, 512, .inl fg))]) X dX12_importTable_100 q1141 tX12_make hK hP hD hS hA [0, 1] [2, 3, 4] (by decide) rfl rfl (by decide) (by decide) 0 11 rfl rfl rfl hl ⟨⟨Nat.le_of_ble_eq_true rfl, Nat.le_of_ble_eq_true rfl⟩, Nat.le_of_ble_eq_true rfl, Nat.le_of_ble_eq_true rfl⟩ rfl rfl (Nat.le_of_ble_eq_true rfl) (fun u100 H locs hw100 hP hD hS => ?_)
                      obtain ⟨fm1_100, rfl⟩ : ∃ z, z = u100 := ⟨_, rfl⟩
                      have hP : PP g [(ty_, .inl (g.2.1, 2, .inl fy)), (sz_, .inl (g.2.1, 2, .inl fz_)), (em, .inl (g.2.1, 512, .inl fg)), (m0, .inr (11, [.int (nI k), .int (nI n), .ref lt, .int (nI s.length), .ref er, .ref el, .int (nI h.length), .ref cm_, .int (nI c.length), .int (bI tk), .int (nI k0), .int (nI n0), .ref sv, .int (nI s0.length), .ref md, .int (nI ((s1 ++ [(((v.getD j 0).toInt - basI ty).toNat)]).length)), .ref fmm, .ref lc, .ref lz, .ref af, .ref pt_, .int (nI p.length), .ref oc, .ref ty_, .ref sz_, .ref em])), (md, .inl (g.2.1, 256, .inl fm1_100))] H := hP
                      have hD : va_D A [(ty_, .inl (g.2.1, 2, .inl fy)), (sz_, .inl (g.2.1, 2, .inl fz_)), (em, .inl (g.2.1, 512, .inl fg)), (m0, .inr (11, [.int (nI k), .int (nI n), .ref lt, .int (nI s.length), .ref er, .ref el, .int (nI h.length), .ref cm_, .int (nI c.length), .int (bI tk), .int (nI k0), .int (nI n0), .ref sv, .int (nI s0.length), .ref md, .int (nI ((s1 ++ [(((v.getD j 0).toInt - basI ty).toNat)]).length)), .ref fmm, .ref lc, .ref lz, .ref af, .ref pt_, .int (nI p.length), .ref oc, .ref ty_, .ref sz_, .ref em])), (md, .inl (g.2.1, 256, .inl fm1_100))] := hD
                      try dsimp only at hw100
                      refine lv_iinc (v := (nI (j + 1))) (lv' := [(3, .int (nI (j + 1))), (4, .int (nI (((v.getD j 0).toInt - basI ty).toNat))), (0, .ref m0), (1, .int (nI 0)), (2, .int (nI a))]) X.1 X.2.1 dX12_importTable_103 hl (k := 1) rfl (nI_inc _) (by decide) rfl (fun ls hl => ?_)
                      refine lv_goto (tgt := 50) X.1 X.2.1 dX12_importTable_106 (by decide) ?_
                      exact ih50 (j + 1) (s1 ++ [((v.getD j 0).toInt - basI ty).toNat]) fm1_100 (by omega) (by simp; omega) (impL_none hq (by omega) hcn) (hw100) _ _ (hP.sub [3, 4, 0, 1, 2] rfl) (hD.sub [3, 4, 0, 1, 2] (by decide) rfl) hS ls (lv_sub hl [0, 2, 3, 4] rfl)
                    · exfalso; rw [h8] at c91; cases c91
                  · have h8 : hasB (v.getD j 0 - nI (if ty = 1 then 97 else 0)) k = false := by unfold hasB; rw [imp_sub hbj.1 hbj.2]; exact decide_eq_false hcn
                    refine tp_i (y := (v.getD j 0 - nI (if ty = 1 then 97 else 0))) (by first | (rw [if_pos (by omega)]; done) | (rw [if_neg (by omega)]; done)) ?_
                    refine lv_istore (lv' := [(4, .int (v.getD j 0 - nI (if ty = 1 then 97 else 0))), (3, .int (nI j)), (0, .ref m0), (1, .int (nI 0)), (2, .int (nI a))]) X.1 X.2.1 dX12_importTable_83 hl (by decide) rfl (fun ls hl => ?_)
                    refine lv_aload_n X.1 X.2.1 dX12_importTable_85 rfl (lv_at hl 2 rfl) ?_
                    refine lv_iload X.1 X.2.1 dX12_importTable_86 (lv_at hl 0 rfl) ?_
                    refine (m_isLetter g m0 lt er el cm_ sv md fmm lc lz af pt_ oc ty_ sz_ em k n s h c tk k0 n0 s0 s1 p B T (v.getD j 0 - nI (if ty = 1 then 97 else 0)) (by assumption)).callV (rest := []) X dX12_importTable_88 q1222 tX12_isLetter hK (hP.sub [0] rfl) 0 11 rfl rfl rfl hl ⟨⟨Nat.le_of_ble_eq_true rfl, Nat.le_of_ble_eq_true rfl⟩, Nat.le_of_ble_eq_true rfl, Nat.le_of_ble_eq_true rfl⟩ rfl rfl (Nat.le_of_ble_eq_true rfl) ?_
                    refine b_if_ne (tgt := 97) X dX12_importTable_91 (by decide) (fun c91 => ?_) (fun c91 => ?_)
                    · exfalso; rw [h8] at c91; cases c91
                    · refine lv_bipush (v := (-5)) X.1 X.2.1 dX12_importTable_94 (by decide) ?_
                      exact MuI.ret X hr hlk hK hS dX12_importTable_96 (nI_nar _) (s1, fm1) (hP.sub [0, 1, 2, 3, 4] rfl) (hD.sub [0, 1, 2, 3, 4] (by decide) rfl) (⟨rfl, trivial⟩)
          exact L50 v.length 0 ([] : List Nat) fm_ (by omega) (rfl) (by rw [List.drop_zero]; exact hy) (rep_nil) _ _ (hP.sub [0, 1, 2, 3, 4] rfl) (hD.sub [0, 1, 2, 3, 4] (by decide) rfl) hS ls (lv_sub hl [0, 1, 2, 3] rfl)
        · exfalso; omega
      · exfalso; omega
    · exfalso; have h6 := of_decide_eq_false c13; rw [nI_toInt (by omega)] at h6; omega

set_option maxHeartbeats 4000000 in
set_option maxRecDepth 100000 in
theorem m_problem1 (g : G5) (m0 : Nat) (lt : Nat) (er : Nat) (el : Nat) (cm_ : Nat) (sv : Nat) (md : Nat) (fmm : Nat) (lc : Nat) (lz : Nat) (af : Nat) (pt_ : Nat) (oc : Nat) (ty_ : Nat) (sz_ : Nat) (em : Nat) (k : Nat) (n : Nat) (s : List Nat) (h : List (List Nat)) (c : List Nat) (tk : Bool) (k0 : Nat) (n0 : Nat) (s0 : List Nat) (z : List Nat) (p : List Int) (fy : Nat → Int32) (fz_ : Nat → Int32) (fg : Nat → Int32) (ty : Int) (v : List Int32) (y : Int32) (hv : v.length ≤ 256) (hty : -1 ≤ ty ∧ ty ≤ 1) (hmt : mtb 1 fy fz_ fg ty v) : PuI yX12_problem cX12_problem 3 (some .int) 2 42 g [.ref m0, .int (nI 1), .int y] [(m0, .inr (11, [.int (nI k), .int (nI n), .ref lt, .int (nI s.length), .ref er, .ref el, .int (nI h.length), .ref cm_, .int (nI c.length), .int (bI tk), .int (nI k0), .int (nI n0), .ref sv, .int (nI s0.length), .ref md, .int (nI z.length), .ref fmm, .ref lc, .ref lz, .ref af, .ref pt_, .int (nI p.length), .ref oc, .ref ty_, .ref sz_, .ref em])), (ty_, .inl (g.2.1, 2, .inl fy)), (sz_, .inl (g.2.1, 2, .inl fz_)), (em, .inl (g.2.1, 512, .inl fg))] (if ty = -1 then (-11) else if hasB y v.length then 0 else (-13)) := by
  refine PuI.of (by decide +kernel) (Nat.le_of_ble_eq_true rfl) ?_
  intro p_ l_ e_ S_ m_ args below meth co X hr hlk hP hK ls hl
  have X : CallFix p_ m_ co cX12_problem 3 S_ args lw_all RX12 := X
  have hl : lv_has ls 3 [(0, .ref m0), (1, .int (nI 1)), (2, .int y)] := hl
  refine lv_iload_n X.1 X.2.1 dX12_problem_0 rfl (lv_at hl 1 rfl) ?_
  refine (c_misT g (nI 1)).callS (rest := []) X dX12_problem_1 q1455 tX12_isTable hK (hP.sub [] rfl) hl ⟨⟨Nat.le_of_ble_eq_true rfl, Nat.le_of_ble_eq_true rfl⟩, Nat.le_of_ble_eq_true rfl, Nat.le_of_ble_eq_true rfl⟩ rfl rfl (Nat.le_of_ble_eq_true rfl) ?_
  refine b_if_ne (tgt := 9) X dX12_problem_4 (by decide) (fun c4 => ?_) (fun c4 => ?_)
  · refine lv_aload_n X.1 X.2.1 dX12_problem_9 rfl (lv_at hl 0 rfl) ?_
    refine va_get (D := g.1) (ci := 11) (v := .ref ty_) (C := RX12) (T := TX12) (N := 26) X.1 X.2.1 X.2.2.2.2 iwX12 X.2.2.2.1 hK hP 0 rfl rfl 23 (by decide) (X.2.2.2.2 _ q1043) (fun _ h9 => h9) rfl dX12_problem_10 ?_
    refine lv_iload_n X.1 X.2.1 dX12_problem_13 rfl (lv_at hl 1 rfl) ?_
    refine n_iald X hK hP 1 0 rfl rfl (by omega) (by decide) dX12_problem_14 ?_
    refine tp_i (y := (iI ty)) (hmt.1) ?_
    refine z_if_ge (tgt := 21) X dX12_problem_15 (by decide) (iI_toInt (by omega) (by omega)) (fun c15 => ?_) (fun c15 => ?_)
    · refine lv_iload_n X.1 X.2.1 dX12_problem_21 rfl (lv_at hl 2 rfl) ?_
      refine lv_iconst (v := (nI 0)) X.1 X.2.1 dX12_problem_22 (by decide) ?_
      refine lv_aload_n X.1 X.2.1 dX12_problem_23 rfl (lv_at hl 0 rfl) ?_
      refine va_get (D := g.1) (ci := 11) (v := .ref sz_) (C := RX12) (T := TX12) (N := 26) X.1 X.2.1 X.2.2.2.2 iwX12 X.2.2.2.1 hK hP 0 rfl rfl 24 (by decide) (X.2.2.2.2 _ q1044) (fun _ h9 => h9) rfl dX12_problem_24 ?_
      refine lv_iload_n X.1 X.2.1 dX12_problem_27 rfl (lv_at hl 1 rfl) ?_
      refine n_iald X hK hP 2 0 rfl rfl (by omega) (by decide) dX12_problem_28 ?_
      refine tp_i (y := (nI v.length)) (hmt.2.1) ?_
      refine lv_iconst (v := (nI 1)) X.1 X.2.1 dX12_problem_29 (by decide) ?_
      refine lv_isub X.1 X.2.1 dX12_problem_30 ?_
      refine tp_i (y := (iI (((v.length : Nat) : Int) - ((1 : Nat) : Int)))) (by first | rw [iI_sub] | rw [nI_iI, nI_iI, iI_sub] | rw [nI_iI, iI_sub]) ?_
      refine (c_inI g y 0 (((v.length : Nat) : Int) - ((1 : Nat) : Int)) (by omega) (by omega)).callS (rest := []) X dX12_problem_31 q1103 tX12_in hK (hP.sub [] rfl) hl ⟨⟨Nat.le_of_ble_eq_true rfl, Nat.le_of_ble_eq_true rfl⟩, Nat.le_of_ble_eq_true rfl, Nat.le_of_ble_eq_true rfl⟩ rfl rfl (Nat.le_of_ble_eq_true rfl) ?_
      refine b_if_eq (tgt := 41) X dX12_problem_34 (by decide) (fun c34 => ?_) (fun c34 => ?_)
      · refine lv_bipush (v := (-13)) X.1 X.2.1 dX12_problem_41 (by decide) ?_
        exact PuI.ret X hr hlk dX12_problem_43 (nI_nar _) (by rw [if_neg (by omega)]; first | (rw [show hasB y v.length = true from by unfold hasB; have := of_decide_eq_true c34; exact decide_eq_true (by omega)]; rfl) | (rw [show hasB y v.length = false from by unfold hasB; have := of_decide_eq_false c34; exact decide_eq_false (by omega)]; rfl))
      · refine lv_iconst (v := (nI 0)) X.1 X.2.1 dX12_problem_37 (by decide) ?_
        refine lv_goto (tgt := 43) X.1 X.2.1 dX12_problem_38 (by decide) ?_
        exact PuI.ret X hr hlk dX12_problem_43 (nI_nar _) (by rw [if_neg (by omega)]; first | (rw [show hasB y v.length = true from by unfold hasB; have := of_decide_eq_true c34; exact decide_eq_true (by omega)]; rfl) | (rw [show hasB y v.length = false from by unfold hasB; have := of_decide_eq_false c34; exact decide_eq_false (by omega)]; rfl))
    · refine lv_bipush (v := (-11)) X.1 X.2.1 dX12_problem_18 (by decide) ?_
      exact PuI.ret X hr hlk dX12_problem_20 (nI_nar _) (by rw [if_pos (by omega)])
  · exfalso; have h6 := of_decide_eq_false c4; rw [nI_toInt (by omega)] at h6; omega

set_option maxHeartbeats 4000000 in
set_option maxRecDepth 100000 in
theorem m_readTable1 (g : G5) (m0 : Nat) (lt : Nat) (er : Nat) (el : Nat) (cm_ : Nat) (sv : Nat) (md : Nat) (fmm : Nat) (lc : Nat) (lz : Nat) (af : Nat) (pt_ : Nat) (oc : Nat) (ty_ : Nat) (sz_ : Nat) (em : Nat) (k : Nat) (n : Nat) (s : List Nat) (h : List (List Nat)) (c : List Nat) (tk : Bool) (k0 : Nat) (n0 : Nat) (s0 : List Nat) (z : List Nat) (p : List Int) (fy : Nat → Int32) (fz_ : Nat → Int32) (fg : Nat → Int32) (ty : Int) (v : List Int32) (y : Int32) (hv : v.length ≤ 256) (hty : -1 ≤ ty ∧ ty ≤ 1) (hmt : mtb 1 fy fz_ fg ty v) : PuI yX12_readTable cX12_readTable 4 (some .int) 3 64 g [.ref m0, .int (nI 1), .int y] [(m0, .inr (11, [.int (nI k), .int (nI n), .ref lt, .int (nI s.length), .ref er, .ref el, .int (nI h.length), .ref cm_, .int (nI c.length), .int (bI tk), .int (nI k0), .int (nI n0), .ref sv, .int (nI s0.length), .ref md, .int (nI z.length), .ref fmm, .ref lc, .ref lz, .ref af, .ref pt_, .int (nI p.length), .ref oc, .ref ty_, .ref sz_, .ref em])), (ty_, .inl (g.2.1, 2, .inl fy)), (sz_, .inl (g.2.1, 2, .inl fz_)), (em, .inl (g.2.1, 512, .inl fg))] (a_readTable ty v y) := by
  refine PuI.of (by decide +kernel) (Nat.le_of_ble_eq_true rfl) ?_
  intro p_ l_ e_ S_ m_ args below meth co X hr hlk hP hK ls hl
  have X : CallFix p_ m_ co cX12_readTable 4 S_ args lw_all RX12 := X
  have hl : lv_has ls 4 [(0, .ref m0), (1, .int (nI 1)), (2, .int y)] := hl
  refine lv_aload_n X.1 X.2.1 dX12_readTable_0 rfl (lv_at hl 0 rfl) ?_
  refine lv_iload_n X.1 X.2.1 dX12_readTable_1 rfl (lv_at hl 1 rfl) ?_
  refine lv_iload_n X.1 X.2.1 dX12_readTable_2 rfl (lv_at hl 2 rfl) ?_
  refine (m_problem1 g m0 lt er el cm_ sv md fmm lc lz af pt_ oc ty_ sz_ em k n s h c tk k0 n0 s0 z p fy fz_ fg ty v y (by omega) (by omega) (by assumption)).callV (rest := []) X dX12_readTable_3 q1462 tX12_problem hK (hP.sub [0, 1, 2, 3] rfl) 0 11 rfl rfl rfl hl ⟨⟨Nat.le_of_ble_eq_true rfl, Nat.le_of_ble_eq_true rfl⟩, Nat.le_of_ble_eq_true rfl, Nat.le_of_ble_eq_true rfl⟩ rfl rfl (Nat.le_of_ble_eq_true rfl) ?_
  rcases (show ty = -1 ∨ (ty ≠ -1 ∧ hasB y v.length = true) ∨ (ty ≠ -1 ∧ hasB y v.length = false) by cases hasB y v.length <;> simp <;> omega) with ht | ⟨ht, hy⟩ | ⟨ht, hy⟩
  · refine tp_i (y := (-11)) (by rw [if_pos ht]) ?_
    refine lv_istore_n (lv' := [(3, .int (-11)), (0, .ref m0), (1, .int (nI 1)), (2, .int y)]) X.1 X.2.1 dX12_readTable_6 rfl hl (by decide) rfl (fun ls hl => ?_)
    refine lv_iload_n X.1 X.2.1 dX12_readTable_7 rfl (lv_at hl 0 rfl) ?_
    refine z_if_ge (tgt := 15) X dX12_readTable_8 (by decide) (show Int32.toInt ((-11)) = (-11) from rfl) (fun c8 => ?_) (fun c8 => ?_)
    · exfalso; omega
    · refine lv_iload_n X.1 X.2.1 dX12_readTable_11 rfl (lv_at hl 0 rfl) ?_
      refine lv_goto (tgt := 27) X.1 X.2.1 dX12_readTable_12 (by decide) ?_
      exact PuI.ret X hr hlk dX12_readTable_27 (nI_nar _) (by unfold a_readTable; first | rw [if_pos ht] | (rw [if_neg ht, hy]; first | rfl | (rw [xN_N (by omega)]; exact hmt.2.2 j hj)))
  · refine tp_i (y := (nI 0)) (by rw [if_neg ht, hy]; rfl) ?_
    refine lv_istore_n (lv' := [(3, .int (nI 0)), (0, .ref m0), (1, .int (nI 1)), (2, .int y)]) X.1 X.2.1 dX12_readTable_6 rfl hl (by decide) rfl (fun ls hl => ?_)
    refine lv_iload_n X.1 X.2.1 dX12_readTable_7 rfl (lv_at hl 0 rfl) ?_
    refine z_if_ge (tgt := 15) X dX12_readTable_8 (by decide) (nI_toInt (by omega)) (fun c8 => ?_) (fun c8 => ?_)
    · obtain ⟨j, hj, rfl⟩ := hasB_t hy
      refine lv_aload_n X.1 X.2.1 dX12_readTable_15 rfl (lv_at hl 1 rfl) ?_
      refine va_get (D := g.1) (ci := 11) (v := .ref em) (C := RX12) (T := TX12) (N := 26) X.1 X.2.1 X.2.2.2.2 iwX12 X.2.2.2.1 hK hP 0 rfl rfl 25 (by decide) (X.2.2.2.2 _ q1045) (fun _ h9 => h9) rfl dX12_readTable_16 ?_
      refine lv_sipush (v := (nI 256)) X.1 X.2.1 dX12_readTable_19 (by decide) ?_
      refine lv_iload_n X.1 X.2.1 dX12_readTable_22 rfl (lv_at hl 2 rfl) ?_
      refine n_mul X dX12_readTable_23 ?_
      refine lv_iload_n X.1 X.2.1 dX12_readTable_24 rfl (lv_at hl 3 rfl) ?_
      refine n_add X dX12_readTable_25 ?_
      refine n_iald X hK hP 3 0 rfl rfl (by omega) (by decide) dX12_readTable_26 ?_
      exact PuI.ret X hr hlk dX12_readTable_27 (nI_nar _) (by unfold a_readTable; first | rw [if_pos ht] | (rw [if_neg ht, hy]; first | rfl | (rw [xN_N (by omega)]; exact hmt.2.2 j hj)))
    · exfalso; omega
  · refine tp_i (y := (-13)) (by rw [if_neg ht, hy]; rfl) ?_
    refine lv_istore_n (lv' := [(3, .int (-13)), (0, .ref m0), (1, .int (nI 1)), (2, .int y)]) X.1 X.2.1 dX12_readTable_6 rfl hl (by decide) rfl (fun ls hl => ?_)
    refine lv_iload_n X.1 X.2.1 dX12_readTable_7 rfl (lv_at hl 0 rfl) ?_
    refine z_if_ge (tgt := 15) X dX12_readTable_8 (by decide) (show Int32.toInt ((-13)) = (-13) from rfl) (fun c8 => ?_) (fun c8 => ?_)
    · exfalso; omega
    · refine lv_iload_n X.1 X.2.1 dX12_readTable_11 rfl (lv_at hl 0 rfl) ?_
      refine lv_goto (tgt := 27) X.1 X.2.1 dX12_readTable_12 (by decide) ?_
      exact PuI.ret X hr hlk dX12_readTable_27 (nI_nar _) (by unfold a_readTable; first | rw [if_pos ht] | (rw [if_neg ht, hy]; first | rfl | (rw [xN_N (by omega)]; exact hmt.2.2 j hj)))

set_option maxHeartbeats 4000000 in
set_option maxRecDepth 100000 in
theorem m_writeTable_no1 (g : G5) (m0 : Nat) (lt : Nat) (er : Nat) (el : Nat) (cm_ : Nat) (sv : Nat) (md : Nat) (fmm : Nat) (lc : Nat) (lz : Nat) (af : Nat) (pt_ : Nat) (oc : Nat) (ty_ : Nat) (sz_ : Nat) (em : Nat) (k : Nat) (n : Nat) (s : List Nat) (h : List (List Nat)) (c : List Nat) (tk : Bool) (k0 : Nat) (n0 : Nat) (s0 : List Nat) (z : List Nat) (p : List Int) (fy : Nat → Int32) (fz_ : Nat → Int32) (fg : Nat → Int32) (ty : Int) (v : List Int32) (y : Int32) (x : Int32) (hv : v.length ≤ 256) (hty : -1 ≤ ty ∧ ty ≤ 1) (hmt : mtb 1 fy fz_ fg ty v) (hno : ty = -1 ∨ hasB y v.length = false) : PuI yX12_writeTable cX12_writeTable 5 (some .int) 3 64 g [.ref m0, .int (nI 1), .int y, .int x] [(m0, .inr (11, [.int (nI k), .int (nI n), .ref lt, .int (nI s.length), .ref er, .ref el, .int (nI h.length), .ref cm_, .int (nI c.length), .int (bI tk), .int (nI k0), .int (nI n0), .ref sv, .int (nI s0.length), .ref md, .int (nI z.length), .ref fmm, .ref lc, .ref lz, .ref af, .ref pt_, .int (nI p.length), .ref oc, .ref ty_, .ref sz_, .ref em])), (ty_, .inl (g.2.1, 2, .inl fy)), (sz_, .inl (g.2.1, 2, .inl fz_)), (em, .inl (g.2.1, 512, .inl fg))] (if ty = -1 then (-11) else (-13)) := by
  refine PuI.of (by decide +kernel) (Nat.le_of_ble_eq_true rfl) ?_
  intro p_ l_ e_ S_ m_ args below meth co X hr hlk hP hK ls hl
  have X : CallFix p_ m_ co cX12_writeTable 5 S_ args lw_all RX12 := X
  have hl : lv_has ls 5 [(0, .ref m0), (1, .int (nI 1)), (2, .int y), (3, .int x)] := hl
  refine lv_aload_n X.1 X.2.1 dX12_writeTable_0 rfl (lv_at hl 0 rfl) ?_
  refine lv_iload_n X.1 X.2.1 dX12_writeTable_1 rfl (lv_at hl 1 rfl) ?_
  refine lv_iload_n X.1 X.2.1 dX12_writeTable_2 rfl (lv_at hl 2 rfl) ?_
  refine (m_problem1 g m0 lt er el cm_ sv md fmm lc lz af pt_ oc ty_ sz_ em k n s h c tk k0 n0 s0 z p fy fz_ fg ty v y (by omega) (by omega) (by assumption)).callV (rest := []) X dX12_writeTable_3 q1462 tX12_problem hK (hP.sub [0, 1, 2, 3] rfl) 0 11 rfl rfl rfl hl ⟨⟨Nat.le_of_ble_eq_true rfl, Nat.le_of_ble_eq_true rfl⟩, Nat.le_of_ble_eq_true rfl, Nat.le_of_ble_eq_true rfl⟩ rfl rfl (Nat.le_of_ble_eq_true rfl) ?_
  rcases (show ty = -1 ∨ (ty ≠ -1 ∧ hasB y v.length = false) by rcases hno with h | h <;> first | exact Or.inl h | (by_cases e : ty = -1 <;> first | exact Or.inl e | exact Or.inr ⟨e, h⟩)) with ht | ⟨ht, hy⟩
  · refine tp_i (y := (-11)) (by rw [if_pos ht]) ?_
    refine lv_istore (lv' := [(4, .int (-11)), (0, .ref m0), (1, .int (nI 1)), (2, .int y), (3, .int x)]) X.1 X.2.1 dX12_writeTable_6 hl (by decide) rfl (fun ls hl => ?_)
    refine lv_iload X.1 X.2.1 dX12_writeTable_8 (lv_at hl 0 rfl) ?_
    refine z_if_ge (tgt := 16) X dX12_writeTable_10 (by decide) (show Int32.toInt ((-11)) = (-11) from rfl) (fun c10 => ?_) (fun c10 => ?_)
    · exfalso; omega
    · refine lv_iload X.1 X.2.1 dX12_writeTable_13 (lv_at hl 0 rfl) ?_
      exact PuI.ret X hr hlk dX12_writeTable_15 (nI_nar _) (by first | (rw [if_pos ht]; done) | (rw [if_neg ht]; done))
  · refine tp_i (y := (-13)) (by rw [if_neg ht, hy]; rfl) ?_
    refine lv_istore (lv' := [(4, .int (-13)), (0, .ref m0), (1, .int (nI 1)), (2, .int y), (3, .int x)]) X.1 X.2.1 dX12_writeTable_6 hl (by decide) rfl (fun ls hl => ?_)
    refine lv_iload X.1 X.2.1 dX12_writeTable_8 (lv_at hl 0 rfl) ?_
    refine z_if_ge (tgt := 16) X dX12_writeTable_10 (by decide) (show Int32.toInt ((-13)) = (-13) from rfl) (fun c10 => ?_) (fun c10 => ?_)
    · exfalso; omega
    · refine lv_iload X.1 X.2.1 dX12_writeTable_13 (lv_at hl 0 rfl) ?_
      exact PuI.ret X hr hlk dX12_writeTable_15 (nI_nar _) (by first | (rw [if_pos ht]; done) | (rw [if_neg ht]; done))

set_option maxHeartbeats 4000000 in
set_option maxRecDepth 100000 in
theorem m_writeTable1 (g : G5) (m0 : Nat) (lt : Nat) (er : Nat) (el : Nat) (cm_ : Nat) (sv : Nat) (md : Nat) (fmm : Nat) (lc : Nat) (lz : Nat) (af : Nat) (pt_ : Nat) (oc : Nat) (ty_ : Nat) (sz_ : Nat) (em : Nat) (k : Nat) (n : Nat) (s : List Nat) (h : List (List Nat)) (c : List Nat) (tk : Bool) (k0 : Nat) (n0 : Nat) (s0 : List Nat) (z : List Nat) (p : List Int) (fy : Nat → Int32) (fz_ : Nat → Int32) (fg : Nat → Int32) (ty : Int) (v : List Int32) (j : Nat) (x : Int32) (hv : v.length ≤ 256) (hty : -1 ≤ ty ∧ ty ≤ 1) (hmt : mtb 1 fy fz_ fg ty v) (hty2 : ty ≠ -1) (hj : j < v.length) : MuI (S := (Nat → Int32)) yX12_writeTable cX12_writeTable 5 (some .int) 3 64 g [.ref m0, .int (nI 1), .int (nI j), .int x] [(m0, .inr (11, [.int (nI k), .int (nI n), .ref lt, .int (nI s.length), .ref er, .ref el, .int (nI h.length), .ref cm_, .int (nI c.length), .int (bI tk), .int (nI k0), .int (nI n0), .ref sv, .int (nI s0.length), .ref md, .int (nI z.length), .ref fmm, .ref lc, .ref lz, .ref af, .ref pt_, .int (nI p.length), .ref oc, .ref ty_, .ref sz_, .ref em])), (ty_, .inl (g.2.1, 2, .inl fy)), (sz_, .inl (g.2.1, 2, .inl fz_)), (em, .inl (g.2.1, 512, .inl fg))] (fun r fg1 => r = (nI 1) ∧ mtb 1 fy fz_ fg1 ty (v.set j (narT ty x)) ∧ oth 1 fy fz_ fg fy fz_ fg1) (fun fg1 => [(m0, .inr (11, [.int (nI k), .int (nI n), .ref lt, .int (nI s.length), .ref er, .ref el, .int (nI h.length), .ref cm_, .int (nI c.length), .int (bI tk), .int (nI k0), .int (nI n0), .ref sv, .int (nI s0.length), .ref md, .int (nI z.length), .ref fmm, .ref lc, .ref lz, .ref af, .ref pt_, .int (nI p.length), .ref oc, .ref ty_, .ref sz_, .ref em])), (ty_, .inl (g.2.1, 2, .inl fy)), (sz_, .inl (g.2.1, 2, .inl fz_)), (em, .inl (g.2.1, 512, .inl fg1))]) := by
  refine MuI.of (by decide +kernel) (Nat.le_of_ble_eq_true rfl) ?_
  intro p_ l_ e_ S_ m_ args below meth co X hr hlk hP hK A hA hD hS ls hl
  have X : CallFix p_ m_ co cX12_writeTable 5 S_ args lw_all RX12 := X
  have hl : lv_has ls 5 [(0, .ref m0), (1, .int (nI 1)), (2, .int (nI j)), (3, .int x)] := hl
  have h7 : hasB (nI j) v.length = true := by rw [hasB_N (by omega)]; exact decide_eq_true (by omega)
  refine lv_aload_n X.1 X.2.1 dX12_writeTable_0 rfl (lv_at hl 0 rfl) ?_
  refine lv_iload_n X.1 X.2.1 dX12_writeTable_1 rfl (lv_at hl 1 rfl) ?_
  refine lv_iload_n X.1 X.2.1 dX12_writeTable_2 rfl (lv_at hl 2 rfl) ?_
  refine (m_problem1 g m0 lt er el cm_ sv md fmm lc lz af pt_ oc ty_ sz_ em k n s h c tk k0 n0 s0 z p fy fz_ fg ty v (nI j) (by omega) (by omega) (by assumption)).callV (rest := []) X dX12_writeTable_3 q1462 tX12_problem hK (hP.sub [0, 1, 2, 3] rfl) 0 11 rfl rfl rfl hl ⟨⟨Nat.le_of_ble_eq_true rfl, Nat.le_of_ble_eq_true rfl⟩, Nat.le_of_ble_eq_true rfl, Nat.le_of_ble_eq_true rfl⟩ rfl rfl (Nat.le_of_ble_eq_true rfl) ?_
  refine tp_i (y := (nI 0)) (by rw [if_neg hty2, h7]; rfl) ?_
  refine lv_istore (lv' := [(4, .int (nI 0)), (0, .ref m0), (1, .int (nI 1)), (2, .int (nI j)), (3, .int x)]) X.1 X.2.1 dX12_writeTable_6 hl (by decide) rfl (fun ls hl => ?_)
  refine lv_iload X.1 X.2.1 dX12_writeTable_8 (lv_at hl 0 rfl) ?_
  refine z_if_ge (tgt := 16) X dX12_writeTable_10 (by decide) (nI_toInt (by omega)) (fun c10 => ?_) (fun c10 => ?_)
  · refine lv_aload_n X.1 X.2.1 dX12_writeTable_16 rfl (lv_at hl 1 rfl) ?_
    refine va_get (D := g.1) (ci := 11) (v := .ref em) (C := RX12) (T := TX12) (N := 26) X.1 X.2.1 X.2.2.2.2 iwX12 X.2.2.2.1 hK hP 0 rfl rfl 25 (by decide) (X.2.2.2.2 _ q1045) (fun _ h9 => h9) rfl dX12_writeTable_17 ?_
    refine lv_sipush (v := (nI 256)) X.1 X.2.1 dX12_writeTable_20 (by decide) ?_
    refine lv_iload_n X.1 X.2.1 dX12_writeTable_23 rfl (lv_at hl 2 rfl) ?_
    refine n_mul X dX12_writeTable_24 ?_
    refine lv_iload_n X.1 X.2.1 dX12_writeTable_25 rfl (lv_at hl 3 rfl) ?_
    refine n_add X dX12_writeTable_26 ?_
    refine lv_aload_n X.1 X.2.1 dX12_writeTable_27 rfl (lv_at hl 1 rfl) ?_
    refine va_get (D := g.1) (ci := 11) (v := .ref ty_) (C := RX12) (T := TX12) (N := 26) X.1 X.2.1 X.2.2.2.2 iwX12 X.2.2.2.1 hK hP 0 rfl rfl 23 (by decide) (X.2.2.2.2 _ q1043) (fun _ h9 => h9) rfl dX12_writeTable_28 ?_
    refine lv_iload_n X.1 X.2.1 dX12_writeTable_31 rfl (lv_at hl 2 rfl) ?_
    refine n_iald X hK hP 1 0 rfl rfl (by omega) (by decide) dX12_writeTable_32 ?_
    refine tp_i (y := (iI ty)) (hmt.1) ?_
    refine z_if_ne (tgt := 41) X dX12_writeTable_33 (by decide) (iI_toInt (by omega) (by omega)) (fun c33 => ?_) (fun c33 => ?_)
    · refine lv_iload_n X.1 X.2.1 dX12_writeTable_41 rfl (lv_at hl 4 rfl) ?_
      refine lv_i2c X.1 X.2.1 dX12_writeTable_42 rfl ?_
      refine tp_i (y := (narT ty x)) (by unfold narT; first | rw [if_pos (by omega)] | rw [if_neg (by omega)]) ?_
      refine n_iast X hK hP hD hS 3 0 rfl rfl (by omega) (by decide) dX12_writeTable_43 (fun H locs hP hD hS => ?_)
      have hP : PP g [(m0, .inr (11, [.int (nI k), .int (nI n), .ref lt, .int (nI s.length), .ref er, .ref el, .int (nI h.length), .ref cm_, .int (nI c.length), .int (bI tk), .int (nI k0), .int (nI n0), .ref sv, .int (nI s0.length), .ref md, .int (nI z.length), .ref fmm, .ref lc, .ref lz, .ref af, .ref pt_, .int (nI p.length), .ref oc, .ref ty_, .ref sz_, .ref em])), (ty_, .inl (g.2.1, 2, .inl fy)), (sz_, .inl (g.2.1, 2, .inl fz_)), (em, .inl (g.2.1, 512, .inl (upd fg (256 * 1 + j) (narT ty x))))] H := hP
      have hD : va_D A [(m0, .inr (11, [.int (nI k), .int (nI n), .ref lt, .int (nI s.length), .ref er, .ref el, .int (nI h.length), .ref cm_, .int (nI c.length), .int (bI tk), .int (nI k0), .int (nI n0), .ref sv, .int (nI s0.length), .ref md, .int (nI z.length), .ref fmm, .ref lc, .ref lz, .ref af, .ref pt_, .int (nI p.length), .ref oc, .ref ty_, .ref sz_, .ref em])), (ty_, .inl (g.2.1, 2, .inl fy)), (sz_, .inl (g.2.1, 2, .inl fz_)), (em, .inl (g.2.1, 512, .inl (upd fg (256 * 1 + j) (narT ty x))))] := hD
      refine lv_iconst (v := (nI 1)) X.1 X.2.1 dX12_writeTable_44 (by decide) ?_
      exact MuI.ret X hr hlk hK hS dX12_writeTable_45 (nI_nar _) (upd fg (256 * 1 + j) (narT ty x)) (hP.sub [0, 1, 2, 3] rfl) (hD.sub [0, 1, 2, 3] (by decide) rfl) (⟨rfl, mtb_set hmt _, oth_e (oth_rf _ _ _ _) (by omega) (by omega)⟩)
    · refine lv_iload_n X.1 X.2.1 dX12_writeTable_36 rfl (lv_at hl 4 rfl) ?_
      refine lv_i2b X.1 X.2.1 dX12_writeTable_37 rfl ?_
      refine lv_goto (tgt := 43) X.1 X.2.1 dX12_writeTable_38 (by decide) ?_
      refine tp_i (y := (narT ty x)) (by unfold narT; first | rw [if_pos (by omega)] | rw [if_neg (by omega)]) ?_
      refine n_iast X hK hP hD hS 3 0 rfl rfl (by omega) (by decide) dX12_writeTable_43 (fun H locs hP hD hS => ?_)
      have hP : PP g [(m0, .inr (11, [.int (nI k), .int (nI n), .ref lt, .int (nI s.length), .ref er, .ref el, .int (nI h.length), .ref cm_, .int (nI c.length), .int (bI tk), .int (nI k0), .int (nI n0), .ref sv, .int (nI s0.length), .ref md, .int (nI z.length), .ref fmm, .ref lc, .ref lz, .ref af, .ref pt_, .int (nI p.length), .ref oc, .ref ty_, .ref sz_, .ref em])), (ty_, .inl (g.2.1, 2, .inl fy)), (sz_, .inl (g.2.1, 2, .inl fz_)), (em, .inl (g.2.1, 512, .inl (upd fg (256 * 1 + j) (narT ty x))))] H := hP
      have hD : va_D A [(m0, .inr (11, [.int (nI k), .int (nI n), .ref lt, .int (nI s.length), .ref er, .ref el, .int (nI h.length), .ref cm_, .int (nI c.length), .int (bI tk), .int (nI k0), .int (nI n0), .ref sv, .int (nI s0.length), .ref md, .int (nI z.length), .ref fmm, .ref lc, .ref lz, .ref af, .ref pt_, .int (nI p.length), .ref oc, .ref ty_, .ref sz_, .ref em])), (ty_, .inl (g.2.1, 2, .inl fy)), (sz_, .inl (g.2.1, 2, .inl fz_)), (em, .inl (g.2.1, 512, .inl (upd fg (256 * 1 + j) (narT ty x))))] := hD
      refine lv_iconst (v := (nI 1)) X.1 X.2.1 dX12_writeTable_44 (by decide) ?_
      exact MuI.ret X hr hlk hK hS dX12_writeTable_45 (nI_nar _) (upd fg (256 * 1 + j) (narT ty x)) (hP.sub [0, 1, 2, 3] rfl) (hD.sub [0, 1, 2, 3] (by decide) rfl) (⟨rfl, mtb_set hmt _, oth_e (oth_rf _ _ _ _) (by omega) (by omega)⟩)
  · exfalso; omega

set_option maxHeartbeats 4000000 in
set_option maxRecDepth 100000 in
theorem m_createTable1 (g : G5) (m0 : Nat) (lt : Nat) (er : Nat) (el : Nat) (cm_ : Nat) (sv : Nat) (md : Nat) (fmm : Nat) (lc : Nat) (lz : Nat) (af : Nat) (pt_ : Nat) (oc : Nat) (ty_ : Nat) (sz_ : Nat) (em : Nat) (k : Nat) (n : Nat) (s : List Nat) (h : List (List Nat)) (c : List Nat) (tk : Bool) (k0 : Nat) (n0 : Nat) (s0 : List Nat) (z : List Nat) (p : List Int) (fy : Nat → Int32) (fz_ : Nat → Int32) (fg : Nat → Int32) (a : Nat) (m : Nat) (ha : a < 2) (hm : m ≤ 256) : MuI (S := (Nat → Int32) × (Nat → Int32) × (Nat → Int32)) yX12_createTable cX12_createTable 5 (some .int) 2 42 g [.ref m0, .int (nI 1), .int (nI a), .int (nI m)] [(m0, .inr (11, [.int (nI k), .int (nI n), .ref lt, .int (nI s.length), .ref er, .ref el, .int (nI h.length), .ref cm_, .int (nI c.length), .int (bI tk), .int (nI k0), .int (nI n0), .ref sv, .int (nI s0.length), .ref md, .int (nI z.length), .ref fmm, .ref lc, .ref lz, .ref af, .ref pt_, .int (nI p.length), .ref oc, .ref ty_, .ref sz_, .ref em])), (ty_, .inl (g.2.1, 2, .inl fy)), (sz_, .inl (g.2.1, 2, .inl fz_)), (em, .inl (g.2.1, 512, .inl fg))] (fun r u => r = (nI 1) ∧ mtb 1 u.1 u.2.1 u.2.2 ((a : Nat) : Int) (List.replicate m (0 : Int32)) ∧ oth 1 fy fz_ fg u.1 u.2.1 u.2.2) (fun u => [(m0, .inr (11, [.int (nI k), .int (nI n), .ref lt, .int (nI s.length), .ref er, .ref el, .int (nI h.length), .ref cm_, .int (nI c.length), .int (bI tk), .int (nI k0), .int (nI n0), .ref sv, .int (nI s0.length), .ref md, .int (nI z.length), .ref fmm, .ref lc, .ref lz, .ref af, .ref pt_, .int (nI p.length), .ref oc, .ref ty_, .ref sz_, .ref em])), (ty_, .inl (g.2.1, 2, .inl u.1)), (sz_, .inl (g.2.1, 2, .inl u.2.1)), (em, .inl (g.2.1, 512, .inl u.2.2))]) := by
  refine MuI.of (by decide +kernel) (Nat.le_of_ble_eq_true rfl) ?_
  intro p_ l_ e_ S_ m_ args below meth co X hr hlk hP hK A hA hD hS ls hl
  have X : CallFix p_ m_ co cX12_createTable 5 S_ args lw_all RX12 := X
  have hl : lv_has ls 5 [(0, .ref m0), (1, .int (nI 1)), (2, .int (nI a)), (3, .int (nI m))] := hl
  refine lv_iload_n X.1 X.2.1 dX12_createTable_0 rfl (lv_at hl 1 rfl) ?_
  refine (c_misT g (nI 1)).callS (rest := []) X dX12_createTable_1 q1455 tX12_isTable hK (hP.sub [] rfl) hl ⟨⟨Nat.le_of_ble_eq_true rfl, Nat.le_of_ble_eq_true rfl⟩, Nat.le_of_ble_eq_true rfl, Nat.le_of_ble_eq_true rfl⟩ rfl rfl (Nat.le_of_ble_eq_true rfl) ?_
  refine b_if_eq (tgt := 23) X dX12_createTable_4 (by decide) (fun c4 => ?_) (fun c4 => ?_)
  · exfalso; have h6 := of_decide_eq_false c4; rw [nI_toInt (by omega)] at h6; omega
  · refine lv_iload_n X.1 X.2.1 dX12_createTable_7 rfl (lv_at hl 2 rfl) ?_
    refine lv_iconst (v := (nI 0)) X.1 X.2.1 dX12_createTable_8 (by decide) ?_
    refine lv_iconst (v := (nI 1)) X.1 X.2.1 dX12_createTable_9 (by decide) ?_
    refine (c_inN g (nI a) 0 1 (by omega) (by omega)).callS (rest := []) X dX12_createTable_10 q1103 tX12_in hK (hP.sub [] rfl) hl ⟨⟨Nat.le_of_ble_eq_true rfl, Nat.le_of_ble_eq_true rfl⟩, Nat.le_of_ble_eq_true rfl, Nat.le_of_ble_eq_true rfl⟩ rfl rfl (Nat.le_of_ble_eq_true rfl) ?_
    refine b_if_eq (tgt := 23) X dX12_createTable_13 (by decide) (fun c13 => ?_) (fun c13 => ?_)
    · exfalso; have h6 := of_decide_eq_false c13; rw [nI_toInt (by omega)] at h6; omega
    · refine lv_iload_n X.1 X.2.1 dX12_createTable_16 rfl (lv_at hl 3 rfl) ?_
      refine lv_sipush (v := (nI 256)) X.1 X.2.1 dX12_createTable_17 (by decide) ?_
      refine z_icmp_le (tgt := 25) X dX12_createTable_20 (by decide) (nI_toInt (by omega)) (nI_toInt (by omega)) (fun c20 => ?_) (fun c20 => ?_)
      · refine lv_iload_n X.1 X.2.1 dX12_createTable_25 rfl (lv_at hl 3 rfl) ?_
        refine z_if_ge (tgt := 32) X dX12_createTable_26 (by decide) (nI_toInt (by omega)) (fun c26 => ?_) (fun c26 => ?_)
        · refine lv_aload_n X.1 X.2.1 dX12_createTable_32 rfl (lv_at hl 0 rfl) ?_
          refine va_get (D := g.1) (ci := 11) (v := .ref ty_) (C := RX12) (T := TX12) (N := 26) X.1 X.2.1 X.2.2.2.2 iwX12 X.2.2.2.1 hK hP 0 rfl rfl 23 (by decide) (X.2.2.2.2 _ q1043) (fun _ h9 => h9) rfl dX12_createTable_33 ?_
          refine lv_iload_n X.1 X.2.1 dX12_createTable_36 rfl (lv_at hl 1 rfl) ?_
          refine lv_iload_n X.1 X.2.1 dX12_createTable_37 rfl (lv_at hl 2 rfl) ?_
          refine n_iast X hK hP hD hS 1 0 rfl rfl (by omega) (by decide) dX12_createTable_38 (fun H locs hP hD hS => ?_)
          have hP : PP g [(m0, .inr (11, [.int (nI k), .int (nI n), .ref lt, .int (nI s.length), .ref er, .ref el, .int (nI h.length), .ref cm_, .int (nI c.length), .int (bI tk), .int (nI k0), .int (nI n0), .ref sv, .int (nI s0.length), .ref md, .int (nI z.length), .ref fmm, .ref lc, .ref lz, .ref af, .ref pt_, .int (nI p.length), .ref oc, .ref ty_, .ref sz_, .ref em])), (ty_, .inl (g.2.1, 2, .inl (upd fy 1 (nI a)))), (sz_, .inl (g.2.1, 2, .inl fz_)), (em, .inl (g.2.1, 512, .inl fg))] H := hP
          have hD : va_D A [(m0, .inr (11, [.int (nI k), .int (nI n), .ref lt, .int (nI s.length), .ref er, .ref el, .int (nI h.length), .ref cm_, .int (nI c.length), .int (bI tk), .int (nI k0), .int (nI n0), .ref sv, .int (nI s0.length), .ref md, .int (nI z.length), .ref fmm, .ref lc, .ref lz, .ref af, .ref pt_, .int (nI p.length), .ref oc, .ref ty_, .ref sz_, .ref em])), (ty_, .inl (g.2.1, 2, .inl (upd fy 1 (nI a)))), (sz_, .inl (g.2.1, 2, .inl fz_)), (em, .inl (g.2.1, 512, .inl fg))] := hD
          refine lv_aload_n X.1 X.2.1 dX12_createTable_39 rfl (lv_at hl 0 rfl) ?_
          refine va_get (D := g.1) (ci := 11) (v := .ref sz_) (C := RX12) (T := TX12) (N := 26) X.1 X.2.1 X.2.2.2.2 iwX12 X.2.2.2.1 hK hP 0 rfl rfl 24 (by decide) (X.2.2.2.2 _ q1044) (fun _ h9 => h9) rfl dX12_createTable_40 ?_
          refine lv_iload_n X.1 X.2.1 dX12_createTable_43 rfl (lv_at hl 1 rfl) ?_
          refine lv_iload_n X.1 X.2.1 dX12_createTable_44 rfl (lv_at hl 3 rfl) ?_
          refine n_iast X hK hP hD hS 2 0 rfl rfl (by omega) (by decide) dX12_createTable_45 (fun H locs hP hD hS => ?_)
          have hP : PP g [(m0, .inr (11, [.int (nI k), .int (nI n), .ref lt, .int (nI s.length), .ref er, .ref el, .int (nI h.length), .ref cm_, .int (nI c.length), .int (bI tk), .int (nI k0), .int (nI n0), .ref sv, .int (nI s0.length), .ref md, .int (nI z.length), .ref fmm, .ref lc, .ref lz, .ref af, .ref pt_, .int (nI p.length), .ref oc, .ref ty_, .ref sz_, .ref em])), (ty_, .inl (g.2.1, 2, .inl (upd fy 1 (nI a)))), (sz_, .inl (g.2.1, 2, .inl (upd fz_ 1 (nI m)))), (em, .inl (g.2.1, 512, .inl fg))] H := hP
          have hD : va_D A [(m0, .inr (11, [.int (nI k), .int (nI n), .ref lt, .int (nI s.length), .ref er, .ref el, .int (nI h.length), .ref cm_, .int (nI c.length), .int (bI tk), .int (nI k0), .int (nI n0), .ref sv, .int (nI s0.length), .ref md, .int (nI z.length), .ref fmm, .ref lc, .ref lz, .ref af, .ref pt_, .int (nI p.length), .ref oc, .ref ty_, .ref sz_, .ref em])), (ty_, .inl (g.2.1, 2, .inl (upd fy 1 (nI a)))), (sz_, .inl (g.2.1, 2, .inl (upd fz_ 1 (nI m)))), (em, .inl (g.2.1, 512, .inl fg))] := hD
          refine lv_iconst (v := (nI 0)) X.1 X.2.1 dX12_createTable_46 (by decide) ?_
          refine lv_istore (lv' := [(4, .int (nI 0)), (0, .ref m0), (1, .int (nI 1)), (2, .int (nI a)), (3, .int (nI m))]) X.1 X.2.1 dX12_createTable_47 hl (by decide) rfl (fun ls hl => ?_)
          have L49 : ∀ (r : Nat) (i : Nat) (g1 : Nat → Int32) (h1 : i + r = 256) (hz : ∀ j, j < i → g1 (256 * 1 + j) = nI 0) (ho : oth 1 fy fz_ fg (upd fy 1 (nI a)) (upd fz_ 1 (nI m)) g1) (H : Heap) (locs : List Loc) (hP : PP g [(m0, .inr (11, [.int (nI k), .int (nI n), .ref lt, .int (nI s.length), .ref er, .ref el, .int (nI h.length), .ref cm_, .int (nI c.length), .int (bI tk), .int (nI k0), .int (nI n0), .ref sv, .int (nI s0.length), .ref md, .int (nI z.length), .ref fmm, .ref lc, .ref lz, .ref af, .ref pt_, .int (nI p.length), .ref oc, .ref ty_, .ref sz_, .ref em])), (ty_, .inl (g.2.1, 2, .inl (upd fy 1 (nI a)))), (sz_, .inl (g.2.1, 2, .inl (upd fz_ 1 (nI m)))), (em, .inl (g.2.1, 512, .inl g1))] H) (hD : va_D A [(m0, .inr (11, [.int (nI k), .int (nI n), .ref lt, .int (nI s.length), .ref er, .ref el, .int (nI h.length), .ref cm_, .int (nI c.length), .int (bI tk), .int (nI k0), .int (nI n0), .ref sv, .int (nI s0.length), .ref md, .int (nI z.length), .ref fmm, .ref lc, .ref lz, .ref af, .ref pt_, .int (nI p.length), .ref oc, .ref ty_, .ref sz_, .ref em])), (ty_, .inl (g.2.1, 2, .inl (upd fy 1 (nI a)))), (sz_, .inl (g.2.1, 2, .inl (upd fz_ 1 (nI m)))), (em, .inl (g.2.1, 512, .inl g1))]) (hS : va_S A S_.heap H locs) (ls : Array Slot) (hl : lv_has ls 5 [(4, .int (nI i)), (0, .ref m0), (1, .int (nI 1)), (2, .int (nI a)), (3, .int (nI m))]), W p_ l_ e_ { frames := 2, cells := 0, slots := 0, locals := 42 } S_ m_ args below meth co H locs 0 0 (MQ below (va_Qi (S := (Nat → Int32) × (Nat → Int32) × (Nat → Int32)) (fun r u => r = (nI 1) ∧ mtb 1 u.1 u.2.1 u.2.2 ((a : Nat) : Int) (List.replicate m (0 : Int32)) ∧ oth 1 fy fz_ fg u.1 u.2.1 u.2.2) (MuB g A (fun u => [(m0, .inr (11, [.int (nI k), .int (nI n), .ref lt, .int (nI s.length), .ref er, .ref el, .int (nI h.length), .ref cm_, .int (nI c.length), .int (bI tk), .int (nI k0), .int (nI n0), .ref sv, .int (nI s0.length), .ref md, .int (nI z.length), .ref fmm, .ref lc, .ref lz, .ref af, .ref pt_, .int (nI p.length), .ref oc, .ref ty_, .ref sz_, .ref em])), (ty_, .inl (g.2.1, 2, .inl u.1)), (sz_, .inl (g.2.1, 2, .inl u.2.1)), (em, .inl (g.2.1, 512, .inl u.2.2))])) A) args S_ 0 0 A) (F0 m_ 49 ls []) := by
            intro r
            induction r with
            | zero =>
              intro i g1 h1 hz ho H locs hP hD hS ls hl
              refine lv_iload X.1 X.2.1 dX12_createTable_49 (lv_at hl 0 rfl) ?_
              refine lv_sipush (v := (nI 256)) X.1 X.2.1 dX12_createTable_51 (by decide) ?_
              refine z_icmp_ge (tgt := 77) X dX12_createTable_54 (by decide) (nI_toInt (by omega)) (nI_toInt (by omega)) (fun c54 => ?_) (fun c54 => ?_)
              · refine lv_iconst (v := (nI 1)) X.1 X.2.1 dX12_createTable_77 (by decide) ?_
                exact MuI.ret X hr hlk hK hS dX12_createTable_78 (nI_nar _) ((upd fy 1 (nI a)), (upd fz_ 1 (nI m)), g1) (hP.sub [0, 1, 2, 3] rfl) (hD.sub [0, 1, 2, 3] (by decide) rfl) (⟨rfl, mtb_new hm (fun j hj => hz j (by omega)), ho⟩)
              · exfalso; omega
            | succ r ih49 =>
              intro i g1 h1 hz ho H locs hP hD hS ls hl
              refine lv_iload X.1 X.2.1 dX12_createTable_49 (lv_at hl 0 rfl) ?_
              refine lv_sipush (v := (nI 256)) X.1 X.2.1 dX12_createTable_51 (by decide) ?_
              refine z_icmp_ge (tgt := 77) X dX12_createTable_54 (by decide) (nI_toInt (by omega)) (nI_toInt (by omega)) (fun c54 => ?_) (fun c54 => ?_)
              · exfalso; omega
              · refine lv_aload_n X.1 X.2.1 dX12_createTable_57 rfl (lv_at hl 1 rfl) ?_
                refine va_get (D := g.1) (ci := 11) (v := .ref em) (C := RX12) (T := TX12) (N := 26) X.1 X.2.1 X.2.2.2.2 iwX12 X.2.2.2.1 hK hP 0 rfl rfl 25 (by decide) (X.2.2.2.2 _ q1045) (fun _ h9 => h9) rfl dX12_createTable_58 ?_
                refine lv_sipush (v := (nI 256)) X.1 X.2.1 dX12_createTable_61 (by decide) ?_
                refine lv_iload_n X.1 X.2.1 dX12_createTable_64 rfl (lv_at hl 2 rfl) ?_
                refine n_mul X dX12_createTable_65 ?_
                refine lv_iload X.1 X.2.1 dX12_createTable_66 (lv_at hl 0 rfl) ?_
                refine n_add X dX12_createTable_68 ?_
                refine lv_iconst (v := (nI 0)) X.1 X.2.1 dX12_createTable_69 (by decide) ?_
                refine n_iast X hK hP hD hS 3 0 rfl rfl (by omega) (by decide) dX12_createTable_70 (fun H locs hP hD hS => ?_)
                have hP : PP g [(m0, .inr (11, [.int (nI k), .int (nI n), .ref lt, .int (nI s.length), .ref er, .ref el, .int (nI h.length), .ref cm_, .int (nI c.length), .int (bI tk), .int (nI k0), .int (nI n0), .ref sv, .int (nI s0.length), .ref md, .int (nI z.length), .ref fmm, .ref lc, .ref lz, .ref af, .ref pt_, .int (nI p.length), .ref oc, .ref ty_, .ref sz_, .ref em])), (ty_, .inl (g.2.1, 2, .inl (upd fy 1 (nI a)))), (sz_, .inl (g.2.1, 2, .inl (upd fz_ 1 (nI m)))), (em, .inl (g.2.1, 512, .inl (upd g1 (256 * 1 + i) (nI 0))))] H := hP
                have hD : va_D A [(m0, .inr (11, [.int (nI k), .int (nI n), .ref lt, .int (nI s.length), .ref er, .ref el, .int (nI h.length), .ref cm_, .int (nI c.length), .int (bI tk), .int (nI k0), .int (nI n0), .ref sv, .int (nI s0.length), .ref md, .int (nI z.length), .ref fmm, .ref lc, .ref lz, .ref af, .ref pt_, .int (nI p.length), .ref oc, .ref ty_, .ref sz_, .ref em])), (ty_, .inl (g.2.1, 2, .inl (upd fy 1 (nI a)))), (sz_, .inl (g.2.1, 2, .inl (upd fz_ 1 (nI m)))), (em, .inl (g.2.1, 512, .inl (upd g1 (256 * 1 + i) (nI 0))))] := hD
                refine lv_iinc (v := (nI (i + 1))) (lv' := [(4, .int (nI (i + 1))), (0, .ref m0), (1, .int (nI 1)), (2, .int (nI a)), (3, .int (nI m))]) X.1 X.2.1 dX12_createTable_71 hl (k := 0) rfl (nI_inc _) (by decide) rfl (fun ls hl => ?_)
                refine lv_goto (tgt := 49) X.1 X.2.1 dX12_createTable_74 (by decide) ?_
                exact ih49 (i + 1) (upd g1 (256 * 1 + i) (nI 0)) (by omega) (fun j hj => by unfold upd; split <;> first | rfl | exact hz j (by omega)) (oth_e ho (by omega) (by omega)) _ _ (hP.sub [0, 1, 2, 3] rfl) (hD.sub [0, 1, 2, 3] (by decide) rfl) hS ls (lv_sub hl [0, 1, 2, 3, 4] rfl)
          exact L49 256 0 fg (by omega) (fun j hj => absurd hj (Nat.not_lt_zero j)) (fun u hu hn => ⟨by simp [upd, hn], by simp [upd, hn], fun _ _ => rfl⟩) _ _ (hP.sub [0, 1, 2, 3] rfl) (hD.sub [0, 1, 2, 3] (by decide) rfl) hS ls (lv_sub hl [0, 1, 2, 3, 4] rfl)
        · exfalso; omega
      · exfalso; omega

set_option maxHeartbeats 4000000 in
set_option maxRecDepth 100000 in
theorem m_exportTable_m1 (g : G5) (m0 : Nat) (lt : Nat) (er : Nat) (el : Nat) (cm_ : Nat) (sv : Nat) (md : Nat) (fmm : Nat) (lc : Nat) (lz : Nat) (af : Nat) (pt_ : Nat) (oc : Nat) (ty_ : Nat) (sz_ : Nat) (em : Nat) (k : Nat) (n : Nat) (s : List Nat) (h : List (List Nat)) (c : List Nat) (tk : Bool) (k0 : Nat) (n0 : Nat) (s0 : List Nat) (z : List Nat) (p : List Int) (fy : Nat → Int32) (fz_ : Nat → Int32) (fg : Nat → Int32) (ty : Int) (v : List Int32) (y : Int32) (hv : v.length ≤ 256) (hty : -1 ≤ ty ∧ ty ≤ 1) (hmt : mtb 1 fy fz_ fg ty v) (hty2 : ty = -1) : PuI yX12_exportTable cX12_exportTable 6 (some .int) 2 42 g [.ref m0, .int (nI 1), .int y] [(m0, .inr (11, [.int (nI k), .int (nI n), .ref lt, .int (nI s.length), .ref er, .ref el, .int (nI h.length), .ref cm_, .int (nI c.length), .int (bI tk), .int (nI k0), .int (nI n0), .ref sv, .int (nI s0.length), .ref md, .int (nI z.length), .ref fmm, .ref lc, .ref lz, .ref af, .ref pt_, .int (nI p.length), .ref oc, .ref ty_, .ref sz_, .ref em])), (ty_, .inl (g.2.1, 2, .inl fy)), (sz_, .inl (g.2.1, 2, .inl fz_)), (em, .inl (g.2.1, 512, .inl fg))] (-11) := by
  refine PuI.of (by decide +kernel) (Nat.le_of_ble_eq_true rfl) ?_
  intro p_ l_ e_ S_ m_ args below meth co X hr hlk hP hK ls hl
  have X : CallFix p_ m_ co cX12_exportTable 6 S_ args lw_all RX12 := X
  have hl : lv_has ls 6 [(0, .ref m0), (1, .int (nI 1)), (2, .int y)] := hl
  refine lv_iload_n X.1 X.2.1 dX12_exportTable_0 rfl (lv_at hl 1 rfl) ?_
  refine (c_misT g (nI 1)).callS (rest := []) X dX12_exportTable_1 q1455 tX12_isTable hK (hP.sub [] rfl) hl ⟨⟨Nat.le_of_ble_eq_true rfl, Nat.le_of_ble_eq_true rfl⟩, Nat.le_of_ble_eq_true rfl, Nat.le_of_ble_eq_true rfl⟩ rfl rfl (Nat.le_of_ble_eq_true rfl) ?_
  refine b_if_ne (tgt := 9) X dX12_exportTable_4 (by decide) (fun c4 => ?_) (fun c4 => ?_)
  · refine lv_aload_n X.1 X.2.1 dX12_exportTable_9 rfl (lv_at hl 0 rfl) ?_
    refine va_get (D := g.1) (ci := 11) (v := .ref ty_) (C := RX12) (T := TX12) (N := 26) X.1 X.2.1 X.2.2.2.2 iwX12 X.2.2.2.1 hK hP 0 rfl rfl 23 (by decide) (X.2.2.2.2 _ q1043) (fun _ h9 => h9) rfl dX12_exportTable_10 ?_
    refine lv_iload_n X.1 X.2.1 dX12_exportTable_13 rfl (lv_at hl 1 rfl) ?_
    refine n_iald X hK hP 1 0 rfl rfl (by omega) (by decide) dX12_exportTable_14 ?_
    refine tp_i (y := (iI ty)) (hmt.1) ?_
    refine z_if_ge (tgt := 21) X dX12_exportTable_15 (by decide) (iI_toInt (by omega) (by omega)) (fun c15 => ?_) (fun c15 => ?_)
    · exfalso; omega
    · refine lv_bipush (v := (-11)) X.1 X.2.1 dX12_exportTable_18 (by decide) ?_
      exact PuI.ret X hr hlk dX12_exportTable_20 (nI_nar _) (rfl)
  · exfalso; have h6 := of_decide_eq_false c4; rw [nI_toInt (by omega)] at h6; omega

set_option maxHeartbeats 4000000 in
set_option maxRecDepth 100000 in
theorem m_exportTable1 (g : G5) (m0 : Nat) (lt : Nat) (er : Nat) (el : Nat) (cm_ : Nat) (sv : Nat) (md : Nat) (fmm : Nat) (lc : Nat) (lz : Nat) (af : Nat) (pt_ : Nat) (oc : Nat) (ty_ : Nat) (sz_ : Nat) (em : Nat) (k : Nat) (n : Nat) (s : List Nat) (h : List (List Nat)) (c : List Nat) (tk : Bool) (k0 : Nat) (n0 : Nat) (s0 : List Nat) (z : List Nat) (p : List Int) (f : Nat → Int32) (fy : Nat → Int32) (fz_ : Nat → Int32) (fg : Nat → Int32) (ty : Int) (v : List Int32) (y : Int32) (hv : v.length ≤ 256) (hty : -1 ≤ ty ∧ ty ≤ 1) (hmt : mtb 1 fy fz_ fg ty v) (hs : s.length ≤ 256) (hf : rep f s) (hb : bd s) (hty2 : ty ≠ -1) : MuI (S := (Nat → Int32)) yX12_exportTable cX12_exportTable 6 (some .int) 2 42 g [.ref m0, .int (nI 1), .int y] [(m0, .inr (11, [.int (nI k), .int (nI n), .ref lt, .int (nI s.length), .ref er, .ref el, .int (nI h.length), .ref cm_, .int (nI c.length), .int (bI tk), .int (nI k0), .int (nI n0), .ref sv, .int (nI s0.length), .ref md, .int (nI z.length), .ref fmm, .ref lc, .ref lz, .ref af, .ref pt_, .int (nI p.length), .ref oc, .ref ty_, .ref sz_, .ref em])), (lt, .inl (g.2.1, 256, .inl f)), (ty_, .inl (g.2.1, 2, .inl fy)), (sz_, .inl (g.2.1, 2, .inl fz_)), (em, .inl (g.2.1, 512, .inl fg))] (fun r fg1 => r = ((expL ty s y s.length 0 v).1) ∧ mtb 1 fy fz_ fg1 ty (expL ty s y s.length 0 v).2 ∧ oth 1 fy fz_ fg fy fz_ fg1) (fun fg1 => [(m0, .inr (11, [.int (nI k), .int (nI n), .ref lt, .int (nI s.length), .ref er, .ref el, .int (nI h.length), .ref cm_, .int (nI c.length), .int (bI tk), .int (nI k0), .int (nI n0), .ref sv, .int (nI s0.length), .ref md, .int (nI z.length), .ref fmm, .ref lc, .ref lz, .ref af, .ref pt_, .int (nI p.length), .ref oc, .ref ty_, .ref sz_, .ref em])), (lt, .inl (g.2.1, 256, .inl f)), (ty_, .inl (g.2.1, 2, .inl fy)), (sz_, .inl (g.2.1, 2, .inl fz_)), (em, .inl (g.2.1, 512, .inl fg1))]) := by
  refine MuI.of (by decide +kernel) (Nat.le_of_ble_eq_true rfl) ?_
  intro p_ l_ e_ S_ m_ args below meth co X hr hlk hP hK A hA hD hS ls hl
  have X : CallFix p_ m_ co cX12_exportTable 6 S_ args lw_all RX12 := X
  have hl : lv_has ls 6 [(0, .ref m0), (1, .int (nI 1)), (2, .int y)] := hl
  refine lv_iload_n X.1 X.2.1 dX12_exportTable_0 rfl (lv_at hl 1 rfl) ?_
  refine (c_misT g (nI 1)).callS (rest := []) X dX12_exportTable_1 q1455 tX12_isTable hK (hP.sub [] rfl) hl ⟨⟨Nat.le_of_ble_eq_true rfl, Nat.le_of_ble_eq_true rfl⟩, Nat.le_of_ble_eq_true rfl, Nat.le_of_ble_eq_true rfl⟩ rfl rfl (Nat.le_of_ble_eq_true rfl) ?_
  refine b_if_ne (tgt := 9) X dX12_exportTable_4 (by decide) (fun c4 => ?_) (fun c4 => ?_)
  · refine lv_aload_n X.1 X.2.1 dX12_exportTable_9 rfl (lv_at hl 0 rfl) ?_
    refine va_get (D := g.1) (ci := 11) (v := .ref ty_) (C := RX12) (T := TX12) (N := 26) X.1 X.2.1 X.2.2.2.2 iwX12 X.2.2.2.1 hK hP 0 rfl rfl 23 (by decide) (X.2.2.2.2 _ q1043) (fun _ h9 => h9) rfl dX12_exportTable_10 ?_
    refine lv_iload_n X.1 X.2.1 dX12_exportTable_13 rfl (lv_at hl 1 rfl) ?_
    refine n_iald X hK hP 2 0 rfl rfl (by omega) (by decide) dX12_exportTable_14 ?_
    refine tp_i (y := (iI ty)) (hmt.1) ?_
    refine z_if_ge (tgt := 21) X dX12_exportTable_15 (by decide) (iI_toInt (by omega) (by omega)) (fun c15 => ?_) (fun c15 => ?_)
    · refine lv_iconst (v := (nI 0)) X.1 X.2.1 dX12_exportTable_21 (by decide) ?_
      refine lv_istore_n (lv' := [(3, .int (nI 0)), (0, .ref m0), (1, .int (nI 1)), (2, .int y)]) X.1 X.2.1 dX12_exportTable_22 rfl hl (by decide) rfl (fun ls hl => ?_)
      have L23 : ∀ (r : Nat) (i : Nat) (v1 : List Int32) (g1 : Nat → Int32) (h1 : i + r = s.length) (hv1 : v1.length ≤ 256) (hq : expL ty s y r i v1 = expL ty s y s.length 0 v) (hmt1 : mtb 1 fy fz_ g1 ty v1) (ho : oth 1 fy fz_ fg fy fz_ g1) (H : Heap) (locs : List Loc) (hP : PP g [(m0, .inr (11, [.int (nI k), .int (nI n), .ref lt, .int (nI s.length), .ref er, .ref el, .int (nI h.length), .ref cm_, .int (nI c.length), .int (bI tk), .int (nI k0), .int (nI n0), .ref sv, .int (nI s0.length), .ref md, .int (nI z.length), .ref fmm, .ref lc, .ref lz, .ref af, .ref pt_, .int (nI p.length), .ref oc, .ref ty_, .ref sz_, .ref em])), (lt, .inl (g.2.1, 256, .inl f)), (ty_, .inl (g.2.1, 2, .inl fy)), (sz_, .inl (g.2.1, 2, .inl fz_)), (em, .inl (g.2.1, 512, .inl g1))] H) (hD : va_D A [(m0, .inr (11, [.int (nI k), .int (nI n), .ref lt, .int (nI s.length), .ref er, .ref el, .int (nI h.length), .ref cm_, .int (nI c.length), .int (bI tk), .int (nI k0), .int (nI n0), .ref sv, .int (nI s0.length), .ref md, .int (nI z.length), .ref fmm, .ref lc, .ref lz, .ref af, .ref pt_, .int (nI p.length), .ref oc, .ref ty_, .ref sz_, .ref em])), (lt, .inl (g.2.1, 256, .inl f)), (ty_, .inl (g.2.1, 2, .inl fy)), (sz_, .inl (g.2.1, 2, .inl fz_)), (em, .inl (g.2.1, 512, .inl g1))]) (hS : va_S A S_.heap H locs) (ls : Array Slot) (hl : lv_has ls 6 [(3, .int (nI i)), (0, .ref m0), (1, .int (nI 1)), (2, .int y)]), W p_ l_ e_ { frames := 2, cells := 0, slots := 0, locals := 42 } S_ m_ args below meth co H locs 0 0 (MQ below (va_Qi (S := (Nat → Int32)) (fun r fg1 => r = ((expL ty s y s.length 0 v).1) ∧ mtb 1 fy fz_ fg1 ty (expL ty s y s.length 0 v).2 ∧ oth 1 fy fz_ fg fy fz_ fg1) (MuB g A (fun fg1 => [(m0, .inr (11, [.int (nI k), .int (nI n), .ref lt, .int (nI s.length), .ref er, .ref el, .int (nI h.length), .ref cm_, .int (nI c.length), .int (bI tk), .int (nI k0), .int (nI n0), .ref sv, .int (nI s0.length), .ref md, .int (nI z.length), .ref fmm, .ref lc, .ref lz, .ref af, .ref pt_, .int (nI p.length), .ref oc, .ref ty_, .ref sz_, .ref em])), (lt, .inl (g.2.1, 256, .inl f)), (ty_, .inl (g.2.1, 2, .inl fy)), (sz_, .inl (g.2.1, 2, .inl fz_)), (em, .inl (g.2.1, 512, .inl fg1))])) A) args S_ 0 0 A) (F0 m_ 23 ls []) := by
        intro r
        induction r with
        | zero =>
          intro i v1 g1 h1 hv1 hq hmt1 ho H locs hP hD hS ls hl
          have e9 : (nI s.length, v1) = expL ty s y s.length 0 v := hq
          refine lv_iload_n X.1 X.2.1 dX12_exportTable_23 rfl (lv_at hl 0 rfl) ?_
          refine lv_aload_n X.1 X.2.1 dX12_exportTable_24 rfl (lv_at hl 1 rfl) ?_
          refine va_get (D := g.1) (ci := 11) (v := .int (nI s.length)) (C := RX12) (T := TX12) (N := 26) X.1 X.2.1 X.2.2.2.2 iwX12 X.2.2.2.1 hK hP 0 rfl rfl 3 (by decide) (X.2.2.2.2 _ q1023) (fun _ h9 => h9) rfl dX12_exportTable_25 ?_
          refine z_icmp_ge (tgt := 108) X dX12_exportTable_28 (by decide) (nI_toInt (by omega)) (nI_toInt (by omega)) (fun c28 => ?_) (fun c28 => ?_)
          · refine lv_aload_n X.1 X.2.1 dX12_exportTable_108 rfl (lv_at hl 1 rfl) ?_
            refine va_get (D := g.1) (ci := 11) (v := .int (nI s.length)) (C := RX12) (T := TX12) (N := 26) X.1 X.2.1 X.2.2.2.2 iwX12 X.2.2.2.1 hK hP 0 rfl rfl 3 (by decide) (X.2.2.2.2 _ q1023) (fun _ h9 => h9) rfl dX12_exportTable_109 ?_
            exact MuI.ret X hr hlk hK hS dX12_exportTable_112 (nI_nar _) g1 (hP.sub [0, 1, 2, 3, 4] rfl) (hD.sub [0, 1, 2, 3, 4] (by decide) rfl) (⟨congrArg Prod.fst e9, by rw [← congrArg Prod.snd e9]; exact hmt1, ho⟩)
          · exfalso; omega
        | succ r ih23 =>
          intro i v1 g1 h1 hv1 hq hmt1 ho H locs hP hD hS ls hl
          refine lv_iload_n X.1 X.2.1 dX12_exportTable_23 rfl (lv_at hl 0 rfl) ?_
          refine lv_aload_n X.1 X.2.1 dX12_exportTable_24 rfl (lv_at hl 1 rfl) ?_
          refine va_get (D := g.1) (ci := 11) (v := .int (nI s.length)) (C := RX12) (T := TX12) (N := 26) X.1 X.2.1 X.2.2.2.2 iwX12 X.2.2.2.1 hK hP 0 rfl rfl 3 (by decide) (X.2.2.2.2 _ q1023) (fun _ h9 => h9) rfl dX12_exportTable_25 ?_
          refine z_icmp_ge (tgt := 108) X dX12_exportTable_28 (by decide) (nI_toInt (by omega)) (nI_toInt (by omega)) (fun c28 => ?_) (fun c28 => ?_)
          · exfalso; omega
          · refine lv_iload_n X.1 X.2.1 dX12_exportTable_31 rfl (lv_at hl 3 rfl) ?_
            refine lv_i2l X.1 X.2.1 dX12_exportTable_32 rfl ?_
            refine lv_iload_n X.1 X.2.1 dX12_exportTable_33 rfl (lv_at hl 0 rfl) ?_
            refine lv_i2l (v := lN i) X.1 X.2.1 dX12_exportTable_34 (nI_l (by omega)) ?_
            refine lv_ladd X.1 X.2.1 dX12_exportTable_35 ?_
            refine lv_lstore (lv' := [(4, .long (y.toInt64 + (lN i))), (3, .int (nI i)), (0, .ref m0), (1, .int (nI 1)), (2, .int y)]) X.1 X.2.1 dX12_exportTable_36 hl (by decide) rfl (fun ls hl => ?_)
            refine lv_lload X.1 X.2.1 dX12_exportTable_38 (lv_at hl 0 rfl) ?_
            refine lv_lconst (v := lN 0) X.1 X.2.1 dX12_exportTable_40 (by decide) ?_
            refine W.lcmp X.1 X.2.1 dX12_exportTable_41 ?_
            have hX := exl_toInt y (i := i) (by omega)
            have hq2 := lgc_lt (y.toInt64 + lN i) (lN 0)
            rw [show (lN 0).toInt = 0 from rfl, hX] at hq2
            refine z_if_lt (tgt := 58) X dX12_exportTable_42 (by decide) rfl (fun c42 => ?_) (fun c42 => ?_)
            · have e9 : ((-13), v1) = expL ty s y s.length 0 v := by rw [expL, if_neg (by omega)] at hq; exact hq
              refine lv_bipush (v := (-13)) X.1 X.2.1 dX12_exportTable_58 (by decide) ?_
              exact MuI.ret X hr hlk hK hS dX12_exportTable_60 (nI_nar _) g1 (hP.sub [0, 1, 2, 3, 4] rfl) (hD.sub [0, 1, 2, 3, 4] (by decide) rfl) (⟨congrArg Prod.fst e9, by rw [← congrArg Prod.snd e9]; exact hmt1, ho⟩)
            · refine lv_lload X.1 X.2.1 dX12_exportTable_45 (lv_at hl 0 rfl) ?_
              refine lv_aload_n X.1 X.2.1 dX12_exportTable_47 rfl (lv_at hl 2 rfl) ?_
              refine va_get (D := g.1) (ci := 11) (v := .ref sz_) (C := RX12) (T := TX12) (N := 26) X.1 X.2.1 X.2.2.2.2 iwX12 X.2.2.2.1 hK hP 0 rfl rfl 24 (by decide) (X.2.2.2.2 _ q1044) (fun _ h9 => h9) rfl dX12_exportTable_48 ?_
              refine lv_iload_n X.1 X.2.1 dX12_exportTable_51 rfl (lv_at hl 3 rfl) ?_
              refine n_iald X hK hP 3 0 rfl rfl (by omega) (by decide) dX12_exportTable_52 ?_
              refine tp_i (y := (nI v1.length)) (hmt1.2.1) ?_
              refine lv_i2l (v := lN v1.length) X.1 X.2.1 dX12_exportTable_53 (nI_l (by omega)) ?_
              refine W.lcmp X.1 X.2.1 dX12_exportTable_54 ?_
              have hq3 := lgc_lt (y.toInt64 + lN i) (lN v1.length)
              rw [lN_toInt (by omega), hX] at hq3
              refine z_if_lt (tgt := 61) X dX12_exportTable_55 (by decide) rfl (fun c55 => ?_) (fun c55 => ?_)
              · have h5 : 0 ≤ y.toInt + (i : Int) ∧ y.toInt + (i : Int) < (v1.length : Int) := by omega
                refine lv_aload_n X.1 X.2.1 dX12_exportTable_61 rfl (lv_at hl 2 rfl) ?_
                refine va_get (D := g.1) (ci := 11) (v := .ref em) (C := RX12) (T := TX12) (N := 26) X.1 X.2.1 X.2.2.2.2 iwX12 X.2.2.2.1 hK hP 0 rfl rfl 25 (by decide) (X.2.2.2.2 _ q1045) (fun _ h9 => h9) rfl dX12_exportTable_62 ?_
                refine lv_sipush (v := (nI 256)) X.1 X.2.1 dX12_exportTable_65 (by decide) ?_
                refine lv_iload_n X.1 X.2.1 dX12_exportTable_68 rfl (lv_at hl 3 rfl) ?_
                refine n_mul X dX12_exportTable_69 ?_
                refine lv_lload X.1 X.2.1 dX12_exportTable_70 (lv_at hl 0 rfl) ?_
                refine lv_l2i X.1 X.2.1 dX12_exportTable_72 rfl ?_
                refine tp_i (y := (nI ((y.toInt + (i : Int)).toNat))) (exl_idx (by omega) hv1 h5.1 h5.2) ?_
                refine n_add X dX12_exportTable_73 ?_
                refine lv_aload_n X.1 X.2.1 dX12_exportTable_74 rfl (lv_at hl 2 rfl) ?_
                refine va_get (D := g.1) (ci := 11) (v := .ref ty_) (C := RX12) (T := TX12) (N := 26) X.1 X.2.1 X.2.2.2.2 iwX12 X.2.2.2.1 hK hP 0 rfl rfl 23 (by decide) (X.2.2.2.2 _ q1043) (fun _ h9 => h9) rfl dX12_exportTable_75 ?_
                refine lv_iload_n X.1 X.2.1 dX12_exportTable_78 rfl (lv_at hl 3 rfl) ?_
                refine n_iald X hK hP 2 0 rfl rfl (by omega) (by decide) dX12_exportTable_79 ?_
                have hsb := bd_at hb i
                refine tp_i (y := (iI ty)) (hmt.1) ?_
                refine z_if_ne (tgt := 92) X dX12_exportTable_80 (by decide) (iI_toInt (by omega) (by omega)) (fun c80 => ?_) (fun c80 => ?_)
                · refine lv_bipush (v := (nI 97)) X.1 X.2.1 dX12_exportTable_92 (by decide) ?_
                  refine lv_aload_n X.1 X.2.1 dX12_exportTable_94 rfl (lv_at hl 2 rfl) ?_
                  refine va_get (D := g.1) (ci := 11) (v := .ref lt) (C := RX12) (T := TX12) (N := 26) X.1 X.2.1 X.2.2.2.2 iwX12 X.2.2.2.1 hK hP 0 rfl rfl 2 (by decide) (X.2.2.2.2 _ q1022) (fun _ h9 => h9) rfl dX12_exportTable_95 ?_
                  refine lv_iload_n X.1 X.2.1 dX12_exportTable_98 rfl (lv_at hl 1 rfl) ?_
                  refine n_iald X hK hP 1 0 rfl rfl (by omega) (by decide) dX12_exportTable_99 ?_
                  refine tp_i (y := (nI (s.getD i 0))) (hf i (by omega)) ?_
                  refine n_add X dX12_exportTable_100 ?_
                  refine tp_i (y := (nI ((if ty = 1 then 97 else 0) + s.getD i 0))) (by first | (rw [if_pos (by omega)]; done) | (rw [if_neg (by omega), Nat.zero_add])) ?_
                  refine n_iast X hK hP hD hS 4 0 rfl rfl (by omega) (by decide) dX12_exportTable_101 (fun H locs hP hD hS => ?_)
                  have hP : PP g [(m0, .inr (11, [.int (nI k), .int (nI n), .ref lt, .int (nI s.length), .ref er, .ref el, .int (nI h.length), .ref cm_, .int (nI c.length), .int (bI tk), .int (nI k0), .int (nI n0), .ref sv, .int (nI s0.length), .ref md, .int (nI z.length), .ref fmm, .ref lc, .ref lz, .ref af, .ref pt_, .int (nI p.length), .ref oc, .ref ty_, .ref sz_, .ref em])), (lt, .inl (g.2.1, 256, .inl f)), (ty_, .inl (g.2.1, 2, .inl fy)), (sz_, .inl (g.2.1, 2, .inl fz_)), (em, .inl (g.2.1, 512, .inl (upd g1 (256 * 1 + ((y.toInt + (i : Int)).toNat)) (nI ((if ty = 1 then 97 else 0) + s.getD i 0)))))] H := hP
                  have hD : va_D A [(m0, .inr (11, [.int (nI k), .int (nI n), .ref lt, .int (nI s.length), .ref er, .ref el, .int (nI h.length), .ref cm_, .int (nI c.length), .int (bI tk), .int (nI k0), .int (nI n0), .ref sv, .int (nI s0.length), .ref md, .int (nI z.length), .ref fmm, .ref lc, .ref lz, .ref af, .ref pt_, .int (nI p.length), .ref oc, .ref ty_, .ref sz_, .ref em])), (lt, .inl (g.2.1, 256, .inl f)), (ty_, .inl (g.2.1, 2, .inl fy)), (sz_, .inl (g.2.1, 2, .inl fz_)), (em, .inl (g.2.1, 512, .inl (upd g1 (256 * 1 + ((y.toInt + (i : Int)).toNat)) (nI ((if ty = 1 then 97 else 0) + s.getD i 0)))))] := hD
                  refine lv_iinc (v := (nI (i + 1))) (lv' := [(3, .int (nI (i + 1))), (4, .long (y.toInt64 + (lN i))), (0, .ref m0), (1, .int (nI 1)), (2, .int y)]) X.1 X.2.1 dX12_exportTable_102 hl (k := 1) rfl (nI_inc _) (by decide) rfl (fun ls hl => ?_)
                  refine lv_goto (tgt := 23) X.1 X.2.1 dX12_exportTable_105 (by decide) ?_
                  exact ih23 (i + 1) (v1.set (y.toInt + (i : Int)).toNat (nI ((if ty = 1 then 97 else 0) + s.getD i 0))) (upd g1 (256 * 1 + ((y.toInt + (i : Int)).toNat)) (nI ((if ty = 1 then 97 else 0) + s.getD i 0))) (by omega) (by rw [List.length_set]; exact hv1) (by rw [expL, if_pos h5] at hq; exact hq) (mtb_set hmt1 _) (oth_e ho (by omega) (by omega)) _ _ (hP.sub [0, 1, 2, 3, 4] rfl) (hD.sub [0, 1, 2, 3, 4] (by decide) rfl) hS ls (lv_sub hl [0, 2, 3, 4] rfl)
                · refine lv_aload_n X.1 X.2.1 dX12_exportTable_83 rfl (lv_at hl 2 rfl) ?_
                  refine va_get (D := g.1) (ci := 11) (v := .ref lt) (C := RX12) (T := TX12) (N := 26) X.1 X.2.1 X.2.2.2.2 iwX12 X.2.2.2.1 hK hP 0 rfl rfl 2 (by decide) (X.2.2.2.2 _ q1022) (fun _ h9 => h9) rfl dX12_exportTable_84 ?_
                  refine lv_iload_n X.1 X.2.1 dX12_exportTable_87 rfl (lv_at hl 1 rfl) ?_
                  refine n_iald X hK hP 1 0 rfl rfl (by omega) (by decide) dX12_exportTable_88 ?_
                  refine tp_i (y := (nI (s.getD i 0))) (hf i (by omega)) ?_
                  refine lv_goto (tgt := 101) X.1 X.2.1 dX12_exportTable_89 (by decide) ?_
                  refine tp_i (y := (nI ((if ty = 1 then 97 else 0) + s.getD i 0))) (by first | (rw [if_pos (by omega)]; done) | (rw [if_neg (by omega), Nat.zero_add])) ?_
                  refine n_iast X hK hP hD hS 4 0 rfl rfl (by omega) (by decide) dX12_exportTable_101 (fun H locs hP hD hS => ?_)
                  have hP : PP g [(m0, .inr (11, [.int (nI k), .int (nI n), .ref lt, .int (nI s.length), .ref er, .ref el, .int (nI h.length), .ref cm_, .int (nI c.length), .int (bI tk), .int (nI k0), .int (nI n0), .ref sv, .int (nI s0.length), .ref md, .int (nI z.length), .ref fmm, .ref lc, .ref lz, .ref af, .ref pt_, .int (nI p.length), .ref oc, .ref ty_, .ref sz_, .ref em])), (lt, .inl (g.2.1, 256, .inl f)), (ty_, .inl (g.2.1, 2, .inl fy)), (sz_, .inl (g.2.1, 2, .inl fz_)), (em, .inl (g.2.1, 512, .inl (upd g1 (256 * 1 + ((y.toInt + (i : Int)).toNat)) (nI ((if ty = 1 then 97 else 0) + s.getD i 0)))))] H := hP
                  have hD : va_D A [(m0, .inr (11, [.int (nI k), .int (nI n), .ref lt, .int (nI s.length), .ref er, .ref el, .int (nI h.length), .ref cm_, .int (nI c.length), .int (bI tk), .int (nI k0), .int (nI n0), .ref sv, .int (nI s0.length), .ref md, .int (nI z.length), .ref fmm, .ref lc, .ref lz, .ref af, .ref pt_, .int (nI p.length), .ref oc, .ref ty_, .ref sz_, .ref em])), (lt, .inl (g.2.1, 256, .inl f)), (ty_, .inl (g.2.1, 2, .inl fy)), (sz_, .inl (g.2.1, 2, .inl fz_)), (em, .inl (g.2.1, 512, .inl (upd g1 (256 * 1 + ((y.toInt + (i : Int)).toNat)) (nI ((if ty = 1 then 97 else 0) + s.getD i 0)))))] := hD
                  refine lv_iinc (v := (nI (i + 1))) (lv' := [(3, .int (nI (i + 1))), (4, .long (y.toInt64 + (lN i))), (0, .ref m0), (1, .int (nI 1)), (2, .int y)]) X.1 X.2.1 dX12_exportTable_102 hl (k := 1) rfl (nI_inc _) (by decide) rfl (fun ls hl => ?_)
                  refine lv_goto (tgt := 23) X.1 X.2.1 dX12_exportTable_105 (by decide) ?_
                  exact ih23 (i + 1) (v1.set (y.toInt + (i : Int)).toNat (nI ((if ty = 1 then 97 else 0) + s.getD i 0))) (upd g1 (256 * 1 + ((y.toInt + (i : Int)).toNat)) (nI ((if ty = 1 then 97 else 0) + s.getD i 0))) (by omega) (by rw [List.length_set]; exact hv1) (by rw [expL, if_pos h5] at hq; exact hq) (mtb_set hmt1 _) (oth_e ho (by omega) (by omega)) _ _ (hP.sub [0, 1, 2, 3, 4] rfl) (hD.sub [0, 1, 2, 3, 4] (by decide) rfl) hS ls (lv_sub hl [0, 2, 3, 4] rfl)
              · have e9 : ((-13), v1) = expL ty s y s.length 0 v := by rw [expL, if_neg (by omega)] at hq; exact hq
                refine lv_bipush (v := (-13)) X.1 X.2.1 dX12_exportTable_58 (by decide) ?_
                exact MuI.ret X hr hlk hK hS dX12_exportTable_60 (nI_nar _) g1 (hP.sub [0, 1, 2, 3, 4] rfl) (hD.sub [0, 1, 2, 3, 4] (by decide) rfl) (⟨congrArg Prod.fst e9, by rw [← congrArg Prod.snd e9]; exact hmt1, ho⟩)
      exact L23 s.length 0 v fg (by omega) (by omega) (rfl) (hmt) (oth_rf _ _ _ _) _ _ (hP.sub [0, 1, 2, 3, 4] rfl) (hD.sub [0, 1, 2, 3, 4] (by decide) rfl) hS ls (lv_sub hl [0, 1, 2, 3] rfl)
    · exfalso; omega
  · exfalso; have h6 := of_decide_eq_false c4; rw [nI_toInt (by omega)] at h6; omega

set_option maxHeartbeats 4000000 in
set_option maxRecDepth 100000 in
theorem m_importTable_m1 (g : G5) (m0 : Nat) (lt : Nat) (er : Nat) (el : Nat) (cm_ : Nat) (sv : Nat) (md : Nat) (fmm : Nat) (lc : Nat) (lz : Nat) (af : Nat) (pt_ : Nat) (oc : Nat) (ty_ : Nat) (sz_ : Nat) (em : Nat) (k : Nat) (n : Nat) (s : List Nat) (h : List (List Nat)) (c : List Nat) (tk : Bool) (k0 : Nat) (n0 : Nat) (s0 : List Nat) (z : List Nat) (p : List Int) (fy : Nat → Int32) (fz_ : Nat → Int32) (fg : Nat → Int32) (ty : Int) (v : List Int32) (a : Nat) (hv : v.length ≤ 256) (hty : -1 ≤ ty ∧ ty ≤ 1) (hmt : mtb 1 fy fz_ fg ty v) (ha : a < 2) (hty2 : ty = -1 ∨ ty ≠ ((a : Nat) : Int)) : PuI yX12_importTable cX12_importTable 5 (some .int) 2 61 g [.ref m0, .int (nI 1), .int (nI a)] [(m0, .inr (11, [.int (nI k), .int (nI n), .ref lt, .int (nI s.length), .ref er, .ref el, .int (nI h.length), .ref cm_, .int (nI c.length), .int (bI tk), .int (nI k0), .int (nI n0), .ref sv, .int (nI s0.length), .ref md, .int (nI z.length), .ref fmm, .ref lc, .ref lz, .ref af, .ref pt_, .int (nI p.length), .ref oc, .ref ty_, .ref sz_, .ref em])), (ty_, .inl (g.2.1, 2, .inl fy)), (sz_, .inl (g.2.1, 2, .inl fz_)), (em, .inl (g.2.1, 512, .inl fg))] (if ty = -1 then (-11) else (-12)) := by
  refine PuI.of (by decide +kernel) (Nat.le_of_ble_eq_true rfl) ?_
  intro p_ l_ e_ S_ m_ args below meth co X hr hlk hP hK ls hl
  have X : CallFix p_ m_ co cX12_importTable 5 S_ args lw_all RX12 := X
  have hl : lv_has ls 5 [(0, .ref m0), (1, .int (nI 1)), (2, .int (nI a))] := hl
  refine lv_iload_n X.1 X.2.1 dX12_importTable_0 rfl (lv_at hl 1 rfl) ?_
  refine (c_misT g (nI 1)).callS (rest := []) X dX12_importTable_1 q1455 tX12_isTable hK (hP.sub [] rfl) hl ⟨⟨Nat.le_of_ble_eq_true rfl, Nat.le_of_ble_eq_true rfl⟩, Nat.le_of_ble_eq_true rfl, Nat.le_of_ble_eq_true rfl⟩ rfl rfl (Nat.le_of_ble_eq_true rfl) ?_
  refine b_if_eq (tgt := 16) X dX12_importTable_4 (by decide) (fun c4 => ?_) (fun c4 => ?_)
  · exfalso; have h6 := of_decide_eq_false c4; rw [nI_toInt (by omega)] at h6; omega
  · refine lv_iload_n X.1 X.2.1 dX12_importTable_7 rfl (lv_at hl 2 rfl) ?_
    refine lv_iconst (v := (nI 0)) X.1 X.2.1 dX12_importTable_8 (by decide) ?_
    refine lv_iconst (v := (nI 1)) X.1 X.2.1 dX12_importTable_9 (by decide) ?_
    refine (c_inN g (nI a) 0 1 (by omega) (by omega)).callS (rest := []) X dX12_importTable_10 q1103 tX12_in hK (hP.sub [] rfl) hl ⟨⟨Nat.le_of_ble_eq_true rfl, Nat.le_of_ble_eq_true rfl⟩, Nat.le_of_ble_eq_true rfl, Nat.le_of_ble_eq_true rfl⟩ rfl rfl (Nat.le_of_ble_eq_true rfl) ?_
    refine b_if_ne (tgt := 18) X dX12_importTable_13 (by decide) (fun c13 => ?_) (fun c13 => ?_)
    · refine lv_aload_n X.1 X.2.1 dX12_importTable_18 rfl (lv_at hl 0 rfl) ?_
      refine va_get (D := g.1) (ci := 11) (v := .ref ty_) (C := RX12) (T := TX12) (N := 26) X.1 X.2.1 X.2.2.2.2 iwX12 X.2.2.2.1 hK hP 0 rfl rfl 23 (by decide) (X.2.2.2.2 _ q1043) (fun _ h9 => h9) rfl dX12_importTable_19 ?_
      refine lv_iload_n X.1 X.2.1 dX12_importTable_22 rfl (lv_at hl 1 rfl) ?_
      refine n_iald X hK hP 1 0 rfl rfl (by omega) (by decide) dX12_importTable_23 ?_
      refine tp_i (y := (iI ty)) (hmt.1) ?_
      refine z_if_ge (tgt := 30) X dX12_importTable_24 (by decide) (iI_toInt (by omega) (by omega)) (fun c24 => ?_) (fun c24 => ?_)
      · refine lv_aload_n X.1 X.2.1 dX12_importTable_30 rfl (lv_at hl 0 rfl) ?_
        refine va_get (D := g.1) (ci := 11) (v := .ref ty_) (C := RX12) (T := TX12) (N := 26) X.1 X.2.1 X.2.2.2.2 iwX12 X.2.2.2.1 hK hP 0 rfl rfl 23 (by decide) (X.2.2.2.2 _ q1043) (fun _ h9 => h9) rfl dX12_importTable_31 ?_
        refine lv_iload_n X.1 X.2.1 dX12_importTable_34 rfl (lv_at hl 1 rfl) ?_
        refine n_iald X hK hP 1 0 rfl rfl (by omega) (by decide) dX12_importTable_35 ?_
        refine tp_i (y := (iI ty)) (hmt.1) ?_
        refine lv_iload_n X.1 X.2.1 dX12_importTable_36 rfl (lv_at hl 2 rfl) ?_
        refine z_icmp_eq (tgt := 43) X dX12_importTable_37 (by decide) (iI_toInt (by omega) (by omega)) (nI_toInt (by omega)) (fun c37 => ?_) (fun c37 => ?_)
        · exfalso; omega
        · refine lv_bipush (v := (-12)) X.1 X.2.1 dX12_importTable_40 (by decide) ?_
          exact PuI.ret X hr hlk dX12_importTable_42 (nI_nar _) (by rw [if_neg (by omega)])
      · refine lv_bipush (v := (-11)) X.1 X.2.1 dX12_importTable_27 (by decide) ?_
        exact PuI.ret X hr hlk dX12_importTable_29 (nI_nar _) (by rw [if_pos (by omega)])
    · exfalso; have h6 := of_decide_eq_false c13; rw [nI_toInt (by omega)] at h6; omega

set_option maxHeartbeats 4000000 in
set_option maxRecDepth 100000 in
theorem m_importTable1 (g : G5) (m0 : Nat) (lt : Nat) (er : Nat) (el : Nat) (cm_ : Nat) (sv : Nat) (md : Nat) (fmm : Nat) (lc : Nat) (lz : Nat) (af : Nat) (pt_ : Nat) (oc : Nat) (ty_ : Nat) (sz_ : Nat) (em : Nat) (k : Nat) (n : Nat) (s : List Nat) (h : List (List Nat)) (c : List Nat) (tk : Bool) (k0 : Nat) (n0 : Nat) (s0 : List Nat) (z : List Nat) (p : List Int) (f : Nat → Int32) (fe : Nat → Int32) (fl : Nat → Int32) (fm_ : Nat → Int32) (B : Nat) (T : Nat) (fy : Nat → Int32) (fz_ : Nat → Int32) (fg : Nat → Int32) (ty : Int) (v : List Int32) (a : Nat) (y : List Nat) (hc : shp k n B T) (hs : s.length ≤ 256) (hf : rep f s) (hlt : ltk k s) (hh : hrm fe fl h) (hv : v.length ≤ 256) (hty : -1 ≤ ty ∧ ty ≤ 1) (hmt : mtb 1 fy fz_ fg ty v) (ha : a < 2) (hta : ty = ((a : Nat) : Int)) (hbv : bdv v) (hy : impL k (basI ty) v = some y) : MuI (S := (Nat → Int32) × (Nat → Int32) × (Nat → Int32) × (Nat → Int32)) yX12_importTable cX12_importTable 5 (some .int) 2 61 g [.ref m0, .int (nI 1), .int (nI a)] [(m0, .inr (11, [.int (nI k), .int (nI n), .ref lt, .int (nI s.length), .ref er, .ref el, .int (nI h.length), .ref cm_, .int (nI c.length), .int (bI tk), .int (nI k0), .int (nI n0), .ref sv, .int (nI s0.length), .ref md, .int (nI z.length), .ref fmm, .ref lc, .ref lz, .ref af, .ref pt_, .int (nI p.length), .ref oc, .ref ty_, .ref sz_, .ref em])), (lt, .inl (g.2.1, 256, .inl f)), (er, .inl (g.2.1, 1536, .inl fe)), (el, .inl (g.2.1, 6, .inl fl)), (md, .inl (g.2.1, 256, .inl fm_)), (ty_, .inl (g.2.1, 2, .inl fy)), (sz_, .inl (g.2.1, 2, .inl fz_)), (em, .inl (g.2.1, 512, .inl fg))] (fun r u => r = (nI y.length) ∧ rep u.1 y ∧ hrm u.2.1 u.2.2.1 ((s :: h).take 6)) (fun u => [(m0, .inr (11, [.int (nI k), .int (nI n), .ref lt, .int (nI y.length), .ref er, .ref el, .int (nI (((s :: h).take 6).length)), .ref cm_, .int (nI c.length), .int (bI tk), .int (nI k0), .int (nI n0), .ref sv, .int (nI s0.length), .ref md, .int (nI y.length), .ref fmm, .ref lc, .ref lz, .ref af, .ref pt_, .int (nI p.length), .ref oc, .ref ty_, .ref sz_, .ref em])), (lt, .inl (g.2.1, 256, .inl u.1)), (er, .inl (g.2.1, 1536, .inl u.2.1)), (el, .inl (g.2.1, 6, .inl u.2.2.1)), (md, .inl (g.2.1, 256, .inl u.2.2.2)), (ty_, .inl (g.2.1, 2, .inl fy)), (sz_, .inl (g.2.1, 2, .inl fz_)), (em, .inl (g.2.1, 512, .inl fg))]) := by
  refine MuI.of (by decide +kernel) (Nat.le_of_ble_eq_true rfl) ?_
  intro p_ l_ e_ S_ m_ args below meth co X hr hlk hP hK A hA hD hS ls hl
  have X : CallFix p_ m_ co cX12_importTable 5 S_ args lw_all RX12 := X
  have hl : lv_has ls 5 [(0, .ref m0), (1, .int (nI 1)), (2, .int (nI a))] := hl
  obtain ⟨hk2, hk4, hn1, hn6, hB, hT, hBT, hT2⟩ := hc.f
  have hB0 : 0 < B := by rw [hBT]; exact Nat.mul_pos (by omega) (by omega)
  have hbs := hlt.bd hk4
  obtain ⟨hly, hky⟩ := imp_len hy
  refine lv_iload_n X.1 X.2.1 dX12_importTable_0 rfl (lv_at hl 1 rfl) ?_
  refine (c_misT g (nI 1)).callS (rest := []) X dX12_importTable_1 q1455 tX12_isTable hK (hP.sub [] rfl) hl ⟨⟨Nat.le_of_ble_eq_true rfl, Nat.le_of_ble_eq_true rfl⟩, Nat.le_of_ble_eq_true rfl, Nat.le_of_ble_eq_true rfl⟩ rfl rfl (Nat.le_of_ble_eq_true rfl) ?_
  refine b_if_eq (tgt := 16) X dX12_importTable_4 (by decide) (fun c4 => ?_) (fun c4 => ?_)
  · exfalso; have h6 := of_decide_eq_false c4; rw [nI_toInt (by omega)] at h6; omega
  · refine lv_iload_n X.1 X.2.1 dX12_importTable_7 rfl (lv_at hl 2 rfl) ?_
    refine lv_iconst (v := (nI 0)) X.1 X.2.1 dX12_importTable_8 (by decide) ?_
    refine lv_iconst (v := (nI 1)) X.1 X.2.1 dX12_importTable_9 (by decide) ?_
    refine (c_inN g (nI a) 0 1 (by omega) (by omega)).callS (rest := []) X dX12_importTable_10 q1103 tX12_in hK (hP.sub [] rfl) hl ⟨⟨Nat.le_of_ble_eq_true rfl, Nat.le_of_ble_eq_true rfl⟩, Nat.le_of_ble_eq_true rfl, Nat.le_of_ble_eq_true rfl⟩ rfl rfl (Nat.le_of_ble_eq_true rfl) ?_
    refine b_if_ne (tgt := 18) X dX12_importTable_13 (by decide) (fun c13 => ?_) (fun c13 => ?_)
    · refine lv_aload_n X.1 X.2.1 dX12_importTable_18 rfl (lv_at hl 0 rfl) ?_
      refine va_get (D := g.1) (ci := 11) (v := .ref ty_) (C := RX12) (T := TX12) (N := 26) X.1 X.2.1 X.2.2.2.2 iwX12 X.2.2.2.1 hK hP 0 rfl rfl 23 (by decide) (X.2.2.2.2 _ q1043) (fun _ h9 => h9) rfl dX12_importTable_19 ?_
      refine lv_iload_n X.1 X.2.1 dX12_importTable_22 rfl (lv_at hl 1 rfl) ?_
      refine n_iald X hK hP 5 0 rfl rfl (by omega) (by decide) dX12_importTable_23 ?_
      refine tp_i (y := (iI ty)) (hmt.1) ?_
      refine z_if_ge (tgt := 30) X dX12_importTable_24 (by decide) (iI_toInt (by omega) (by omega)) (fun c24 => ?_) (fun c24 => ?_)
      · refine lv_aload_n X.1 X.2.1 dX12_importTable_30 rfl (lv_at hl 0 rfl) ?_
        refine va_get (D := g.1) (ci := 11) (v := .ref ty_) (C := RX12) (T := TX12) (N := 26) X.1 X.2.1 X.2.2.2.2 iwX12 X.2.2.2.1 hK hP 0 rfl rfl 23 (by decide) (X.2.2.2.2 _ q1043) (fun _ h9 => h9) rfl dX12_importTable_31 ?_
        refine lv_iload_n X.1 X.2.1 dX12_importTable_34 rfl (lv_at hl 1 rfl) ?_
        refine n_iald X hK hP 5 0 rfl rfl (by omega) (by decide) dX12_importTable_35 ?_
        refine tp_i (y := (iI ty)) (hmt.1) ?_
        refine lv_iload_n X.1 X.2.1 dX12_importTable_36 rfl (lv_at hl 2 rfl) ?_
        refine z_icmp_eq (tgt := 43) X dX12_importTable_37 (by decide) (iI_toInt (by omega) (by omega)) (nI_toInt (by omega)) (fun c37 => ?_) (fun c37 => ?_)
        · refine lv_aload_n X.1 X.2.1 dX12_importTable_43 rfl (lv_at hl 0 rfl) ?_
          refine lv_iconst (v := (nI 0)) X.1 X.2.1 dX12_importTable_44 (by decide) ?_
          refine va_put (D := g.1) (ci := 11) (v := .int (nI 0)) (ty := .int) (C := RX12) (T := TX12) (N := 26) X.1 X.2.1 X.2.2.2.2 iwX12 tyX12 tyX12_ok nmX12 X.2.2.2.1 hK hP hD hS 0 rfl rfl 15 (by decide) (X.2.2.2.2 _ q1035) (fun _ h9 => h9) rfl (by decide +kernel) rfl rfl (Nat.le_of_ble_eq_true rfl) dX12_importTable_45 (fun H locs hP hD hS => ?_)
          have hP : PP g [(m0, .inr (11, [.int (nI k), .int (nI n), .ref lt, .int (nI s.length), .ref er, .ref el, .int (nI h.length), .ref cm_, .int (nI c.length), .int (bI tk), .int (nI k0), .int (nI n0), .ref sv, .int (nI s0.length), .ref md, .int (nI 0), .ref fmm, .ref lc, .ref lz, .ref af, .ref pt_, .int (nI p.length), .ref oc, .ref ty_, .ref sz_, .ref em])), (lt, .inl (g.2.1, 256, .inl f)), (er, .inl (g.2.1, 1536, .inl fe)), (el, .inl (g.2.1, 6, .inl fl)), (md, .inl (g.2.1, 256, .inl fm_)), (ty_, .inl (g.2.1, 2, .inl fy)), (sz_, .inl (g.2.1, 2, .inl fz_)), (em, .inl (g.2.1, 512, .inl fg))] H := hP
          have hD : va_D A [(m0, .inr (11, [.int (nI k), .int (nI n), .ref lt, .int (nI s.length), .ref er, .ref el, .int (nI h.length), .ref cm_, .int (nI c.length), .int (bI tk), .int (nI k0), .int (nI n0), .ref sv, .int (nI s0.length), .ref md, .int (nI 0), .ref fmm, .ref lc, .ref lz, .ref af, .ref pt_, .int (nI p.length), .ref oc, .ref ty_, .ref sz_, .ref em])), (lt, .inl (g.2.1, 256, .inl f)), (er, .inl (g.2.1, 1536, .inl fe)), (el, .inl (g.2.1, 6, .inl fl)), (md, .inl (g.2.1, 256, .inl fm_)), (ty_, .inl (g.2.1, 2, .inl fy)), (sz_, .inl (g.2.1, 2, .inl fz_)), (em, .inl (g.2.1, 512, .inl fg))] := hD
          have hP : PP g [(m0, .inr (11, [.int (nI k), .int (nI n), .ref lt, .int (nI s.length), .ref er, .ref el, .int (nI h.length), .ref cm_, .int (nI c.length), .int (bI tk), .int (nI k0), .int (nI n0), .ref sv, .int (nI s0.length), .ref md, .int (nI (([] : List Nat).length)), .ref fmm, .ref lc, .ref lz, .ref af, .ref pt_, .int (nI p.length), .ref oc, .ref ty_, .ref sz_, .ref em])), (lt, .inl (g.2.1, 256, .inl f)), (er, .inl (g.2.1, 1536, .inl fe)), (el, .inl (g.2.1, 6, .inl fl)), (md, .inl (g.2.1, 256, .inl fm_)), (ty_, .inl (g.2.1, 2, .inl fy)), (sz_, .inl (g.2.1, 2, .inl fz_)), (em, .inl (g.2.1, 512, .inl fg))] H := by exact hP
          have hD : va_D A [(m0, .inr (11, [.int (nI k), .int (nI n), .ref lt, .int (nI s.length), .ref er, .ref el, .int (nI h.length), .ref cm_, .int (nI c.length), .int (bI tk), .int (nI k0), .int (nI n0), .ref sv, .int (nI s0.length), .ref md, .int (nI (([] : List Nat).length)), .ref fmm, .ref lc, .ref lz, .ref af, .ref pt_, .int (nI p.length), .ref oc, .ref ty_, .ref sz_, .ref em])), (lt, .inl (g.2.1, 256, .inl f)), (er, .inl (g.2.1, 1536, .inl fe)), (el, .inl (g.2.1, 6, .inl fl)), (md, .inl (g.2.1, 256, .inl fm_)), (ty_, .inl (g.2.1, 2, .inl fy)), (sz_, .inl (g.2.1, 2, .inl fz_)), (em, .inl (g.2.1, 512, .inl fg))] := by exact hD
          refine lv_iconst (v := (nI 0)) X.1 X.2.1 dX12_importTable_48 (by decide) ?_
          refine lv_istore_n (lv' := [(3, .int (nI 0)), (0, .ref m0), (1, .int (nI 1)), (2, .int (nI a))]) X.1 X.2.1 dX12_importTable_49 rfl hl (by decide) rfl (fun ls hl => ?_)
          have L50 : ∀ (r : Nat) (j : Nat) (s1 : List Nat) (z1 : List Nat) (fm1 : Nat → Int32) (h1 : j + r = v.length) (hl1 : s1.length = j) (hq : impL k (basI ty) (v.drop j) = some z1) (hq2 : s1 ++ z1 = y) (hf1 : rep fm1 s1) (H : Heap) (locs : List Loc) (hP : PP g [(m0, .inr (11, [.int (nI k), .int (nI n), .ref lt, .int (nI s.length), .ref er, .ref el, .int (nI h.length), .ref cm_, .int (nI c.length), .int (bI tk), .int (nI k0), .int (nI n0), .ref sv, .int (nI s0.length), .ref md, .int (nI s1.length), .ref fmm, .ref lc, .ref lz, .ref af, .ref pt_, .int (nI p.length), .ref oc, .ref ty_, .ref sz_, .ref em])), (lt, .inl (g.2.1, 256, .inl f)), (er, .inl (g.2.1, 1536, .inl fe)), (el, .inl (g.2.1, 6, .inl fl)), (md, .inl (g.2.1, 256, .inl fm1)), (ty_, .inl (g.2.1, 2, .inl fy)), (sz_, .inl (g.2.1, 2, .inl fz_)), (em, .inl (g.2.1, 512, .inl fg))] H) (hD : va_D A [(m0, .inr (11, [.int (nI k), .int (nI n), .ref lt, .int (nI s.length), .ref er, .ref el, .int (nI h.length), .ref cm_, .int (nI c.length), .int (bI tk), .int (nI k0), .int (nI n0), .ref sv, .int (nI s0.length), .ref md, .int (nI s1.length), .ref fmm, .ref lc, .ref lz, .ref af, .ref pt_, .int (nI p.length), .ref oc, .ref ty_, .ref sz_, .ref em])), (lt, .inl (g.2.1, 256, .inl f)), (er, .inl (g.2.1, 1536, .inl fe)), (el, .inl (g.2.1, 6, .inl fl)), (md, .inl (g.2.1, 256, .inl fm1)), (ty_, .inl (g.2.1, 2, .inl fy)), (sz_, .inl (g.2.1, 2, .inl fz_)), (em, .inl (g.2.1, 512, .inl fg))]) (hS : va_S A S_.heap H locs) (ls : Array Slot) (hl : lv_has ls 5 [(3, .int (nI j)), (0, .ref m0), (1, .int (nI 1)), (2, .int (nI a))]), W p_ l_ e_ { frames := 2, cells := 0, slots := 0, locals := 61 } S_ m_ args below meth co H locs 0 0 (MQ below (va_Qi (S := (Nat → Int32) × (Nat → Int32) × (Nat → Int32) × (Nat → Int32)) (fun r u => r = (nI y.length) ∧ rep u.1 y ∧ hrm u.2.1 u.2.2.1 ((s :: h).take 6)) (MuB g A (fun u => [(m0, .inr (11, [.int (nI k), .int (nI n), .ref lt, .int (nI y.length), .ref er, .ref el, .int (nI (((s :: h).take 6).length)), .ref cm_, .int (nI c.length), .int (bI tk), .int (nI k0), .int (nI n0), .ref sv, .int (nI s0.length), .ref md, .int (nI y.length), .ref fmm, .ref lc, .ref lz, .ref af, .ref pt_, .int (nI p.length), .ref oc, .ref ty_, .ref sz_, .ref em])), (lt, .inl (g.2.1, 256, .inl u.1)), (er, .inl (g.2.1, 1536, .inl u.2.1)), (el, .inl (g.2.1, 6, .inl u.2.2.1)), (md, .inl (g.2.1, 256, .inl u.2.2.2)), (ty_, .inl (g.2.1, 2, .inl fy)), (sz_, .inl (g.2.1, 2, .inl fz_)), (em, .inl (g.2.1, 512, .inl fg))])) A) args S_ 0 0 A) (F0 m_ 50 ls []) := by
            intro r
            induction r with
            | zero =>
              intro j s1 z1 fm1 h1 hl1 hq hq2 hf1 H locs hP hD hS ls hl
              have e9 : s1 = y := by (have e8 : v.drop j = [] := List.drop_eq_nil_iff.mpr (by omega)); rw [e8, impL] at hq; cases hq; simpa using hq2
              refine lv_iload_n X.1 X.2.1 dX12_importTable_50 rfl (lv_at hl 0 rfl) ?_
              refine lv_aload_n X.1 X.2.1 dX12_importTable_51 rfl (lv_at hl 1 rfl) ?_
              refine va_get (D := g.1) (ci := 11) (v := .ref sz_) (C := RX12) (T := TX12) (N := 26) X.1 X.2.1 X.2.2.2.2 iwX12 X.2.2.2.1 hK hP 0 rfl rfl 24 (by decide) (X.2.2.2.2 _ q1044) (fun _ h9 => h9) rfl dX12_importTable_52 ?_
              refine lv_iload_n X.1 X.2.1 dX12_importTable_55 rfl (lv_at hl 2 rfl) ?_
              refine n_iald X hK hP 6 0 rfl rfl (by omega) (by decide) dX12_importTable_56 ?_
              refine tp_i (y := (nI v.length)) (hmt.2.1) ?_
              refine z_icmp_ge (tgt := 109) X dX12_importTable_57 (by decide) (nI_toInt (by omega)) (nI_toInt (by omega)) (fun c57 => ?_) (fun c57 => ?_)
              · have hP : PP g [(m0, .inr (11, [.int (nI k), .int (nI n), .ref lt, .int (nI s.length), .ref er, .ref el, .int (nI h.length), .ref cm_, .int (nI c.length), .int (bI tk), .int (nI k0), .int (nI n0), .ref sv, .int (nI s0.length), .ref md, .int (nI y.length), .ref fmm, .ref lc, .ref lz, .ref af, .ref pt_, .int (nI p.length), .ref oc, .ref ty_, .ref sz_, .ref em])), (lt, .inl (g.2.1, 256, .inl f)), (er, .inl (g.2.1, 1536, .inl fe)), (el, .inl (g.2.1, 6, .inl fl)), (md, .inl (g.2.1, 256, .inl fm1)), (ty_, .inl (g.2.1, 2, .inl fy)), (sz_, .inl (g.2.1, 2, .inl fz_)), (em, .inl (g.2.1, 512, .inl fg))] H := by rw [← e9]; exact hP
                have hD : va_D A [(m0, .inr (11, [.int (nI k), .int (nI n), .ref lt, .int (nI s.length), .ref er, .ref el, .int (nI h.length), .ref cm_, .int (nI c.length), .int (bI tk), .int (nI k0), .int (nI n0), .ref sv, .int (nI s0.length), .ref md, .int (nI y.length), .ref fmm, .ref lc, .ref lz, .ref af, .ref pt_, .int (nI p.length), .ref oc, .ref ty_, .ref sz_, .ref em])), (lt, .inl (g.2.1, 256, .inl f)), (er, .inl (g.2.1, 1536, .inl fe)), (el, .inl (g.2.1, 6, .inl fl)), (md, .inl (g.2.1, 256, .inl fm1)), (ty_, .inl (g.2.1, 2, .inl fy)), (sz_, .inl (g.2.1, 2, .inl fz_)), (em, .inl (g.2.1, 512, .inl fg))] := by rw [← e9]; exact hD
                refine lv_aload_n X.1 X.2.1 dX12_importTable_109 rfl (lv_at hl 1 rfl) ?_
                refine (m_edit g m0 lt er el cm_ sv md fmm lc lz af pt_ oc ty_ sz_ em k n s h c tk k0 n0 s0 y p f fe fl fm1 (by omega) (by assumption) (by omega) (rep_eq hf1 e9) (by assumption)).callV (rest := []) (wr := [(ty_, .inl (g.2.1, 2, .inl fy)), (sz_, .inl (g.2.1, 2, .inl fz_)), (em, .inl (g.2.1, 512, .inl fg))]) X dX12_importTable_110 q1194 tX12_edit hK hP hD hS hA [0, 1, 2, 3, 4] [5, 6, 7] (by decide) rfl rfl (by decide) (by decide) 0 11 rfl rfl rfl hl ⟨⟨Nat.le_of_ble_eq_true rfl, Nat.le_of_ble_eq_true rfl⟩, Nat.le_of_ble_eq_true rfl, Nat.le_of_ble_eq_true rfl⟩ rfl rfl (Nat.le_of_ble_eq_true rfl) (fun u110 H locs hw110 hP hD hS => ?_)
                obtain ⟨f1_110, fe1_110, fl1_110⟩ := u110
                have hP : PP g [(ty_, .inl (g.2.1, 2, .inl fy)), (sz_, .inl (g.2.1, 2, .inl fz_)), (em, .inl (g.2.1, 512, .inl fg)), (m0, .inr (11, [.int (nI k), .int (nI n), .ref lt, .int (nI y.length), .ref er, .ref el, .int (nI (((s :: h).take 6).length)), .ref cm_, .int (nI c.length), .int (bI tk), .int (nI k0), .int (nI n0), .ref sv, .int (nI s0.length), .ref md, .int (nI y.length), .ref fmm, .ref lc, .ref lz, .ref af, .ref pt_, .int (nI p.length), .ref oc, .ref ty_, .ref sz_, .ref em])), (lt, .inl (g.2.1, 256, .inl f1_110)), (er, .inl (g.2.1, 1536, .inl fe1_110)), (el, .inl (g.2.1, 6, .inl fl1_110)), (md, .inl (g.2.1, 256, .inl fm1))] H := hP
                have hD : va_D A [(ty_, .inl (g.2.1, 2, .inl fy)), (sz_, .inl (g.2.1, 2, .inl fz_)), (em, .inl (g.2.1, 512, .inl fg)), (m0, .inr (11, [.int (nI k), .int (nI n), .ref lt, .int (nI y.length), .ref er, .ref el, .int (nI (((s :: h).take 6).length)), .ref cm_, .int (nI c.length), .int (bI tk), .int (nI k0), .int (nI n0), .ref sv, .int (nI s0.length), .ref md, .int (nI y.length), .ref fmm, .ref lc, .ref lz, .ref af, .ref pt_, .int (nI p.length), .ref oc, .ref ty_, .ref sz_, .ref em])), (lt, .inl (g.2.1, 256, .inl f1_110)), (er, .inl (g.2.1, 1536, .inl fe1_110)), (el, .inl (g.2.1, 6, .inl fl1_110)), (md, .inl (g.2.1, 256, .inl fm1))] := hD
                try dsimp only at hw110
                refine lv_aload_n X.1 X.2.1 dX12_importTable_113 rfl (lv_at hl 1 rfl) ?_
                refine va_get (D := g.1) (ci := 11) (v := .int (nI y.length)) (C := RX12) (T := TX12) (N := 26) X.1 X.2.1 X.2.2.2.2 iwX12 X.2.2.2.1 hK hP 3 rfl rfl 3 (by decide) (X.2.2.2.2 _ q1023) (fun _ h9 => h9) rfl dX12_importTable_114 ?_
                exact MuI.ret X hr hlk hK hS dX12_importTable_117 (nI_nar _) (f1_110, fe1_110, fl1_110, fm1) (hP.sub [3, 4, 5, 6, 7, 0, 1, 2] rfl) (hD.sub [3, 4, 5, 6, 7, 0, 1, 2] (by decide) rfl) (⟨rfl, hw110⟩)
              · exfalso; omega
            | succ r ih50 =>
              intro j s1 z1 fm1 h1 hl1 hq hq2 hf1 H locs hP hD hS ls hl
              obtain ⟨hcn, z2, hz2, hz3⟩ := impL_some hq (by omega)
              have hbj := hbv j
              refine lv_iload_n X.1 X.2.1 dX12_importTable_50 rfl (lv_at hl 0 rfl) ?_
              refine lv_aload_n X.1 X.2.1 dX12_importTable_51 rfl (lv_at hl 1 rfl) ?_
              refine va_get (D := g.1) (ci := 11) (v := .ref sz_) (C := RX12) (T := TX12) (N := 26) X.1 X.2.1 X.2.2.2.2 iwX12 X.2.2.2.1 hK hP 0 rfl rfl 24 (by decide) (X.2.2.2.2 _ q1044) (fun _ h9 => h9) rfl dX12_importTable_52 ?_
              refine lv_iload_n X.1 X.2.1 dX12_importTable_55 rfl (lv_at hl 2 rfl) ?_
              refine n_iald X hK hP 6 0 rfl rfl (by omega) (by decide) dX12_importTable_56 ?_
              refine tp_i (y := (nI v.length)) (hmt.2.1) ?_
              refine z_icmp_ge (tgt := 109) X dX12_importTable_57 (by decide) (nI_toInt (by omega)) (nI_toInt (by omega)) (fun c57 => ?_) (fun c57 => ?_)
              · exfalso; omega
              · refine lv_aload_n X.1 X.2.1 dX12_importTable_60 rfl (lv_at hl 1 rfl) ?_
                refine va_get (D := g.1) (ci := 11) (v := .ref em) (C := RX12) (T := TX12) (N := 26) X.1 X.2.1 X.2.2.2.2 iwX12 X.2.2.2.1 hK hP 0 rfl rfl 25 (by decide) (X.2.2.2.2 _ q1045) (fun _ h9 => h9) rfl dX12_importTable_61 ?_
                refine lv_sipush (v := (nI 256)) X.1 X.2.1 dX12_importTable_64 (by decide) ?_
                refine lv_iload_n X.1 X.2.1 dX12_importTable_67 rfl (lv_at hl 2 rfl) ?_
                refine n_mul X dX12_importTable_68 ?_
                refine lv_iload_n X.1 X.2.1 dX12_importTable_69 rfl (lv_at hl 0 rfl) ?_
                refine n_add X dX12_importTable_70 ?_
                refine n_iald X hK hP 7 0 rfl rfl (by omega) (by decide) dX12_importTable_71 ?_
                have hbj := hbv j
                refine tp_i (y := (v.getD j 0)) (hmt.2.2 j (by omega)) ?_
                refine lv_iload_n X.1 X.2.1 dX12_importTable_72 rfl (lv_at hl 3 rfl) ?_
                refine z_if_ne (tgt := 80) X dX12_importTable_73 (by decide) (nI_toInt (by omega)) (fun c73 => ?_) (fun c73 => ?_)
                · refine lv_bipush (v := (nI 97)) X.1 X.2.1 dX12_importTable_80 (by decide) ?_
                  refine lv_isub X.1 X.2.1 dX12_importTable_82 ?_
                  refine tp_i (y := (nI (((v.getD j 0).toInt - basI ty).toNat))) ((show _ = v.getD j 0 - nI (if ty = 1 then 97 else 0) from by first | (rw [if_pos (by omega)]; done) | (rw [if_neg (by omega)]; done)).trans (imp_N hbj.1 hbj.2 hcn.1)) ?_
                  refine lv_istore (lv' := [(4, .int (nI (((v.getD j 0).toInt - basI ty).toNat))), (3, .int (nI j)), (0, .ref m0), (1, .int (nI 1)), (2, .int (nI a))]) X.1 X.2.1 dX12_importTable_83 hl (by decide) rfl (fun ls hl => ?_)
                  refine lv_aload_n X.1 X.2.1 dX12_importTable_85 rfl (lv_at hl 2 rfl) ?_
                  refine lv_iload X.1 X.2.1 dX12_importTable_86 (lv_at hl 0 rfl) ?_
                  refine (m_isLetter g m0 lt er el cm_ sv md fmm lc lz af pt_ oc ty_ sz_ em k n s h c tk k0 n0 s0 s1 p B T (nI (((v.getD j 0).toInt - basI ty).toNat)) (by assumption)).callV (rest := []) X dX12_importTable_88 q1222 tX12_isLetter hK (hP.sub [0] rfl) 0 11 rfl rfl rfl hl ⟨⟨Nat.le_of_ble_eq_true rfl, Nat.le_of_ble_eq_true rfl⟩, Nat.le_of_ble_eq_true rfl, Nat.le_of_ble_eq_true rfl⟩ rfl rfl (Nat.le_of_ble_eq_true rfl) ?_
                  have h8 : hasB (nI ((v.getD j 0).toInt - basI ty).toNat) k = true := by rw [hasB_N (by omega)]; exact decide_eq_true (by omega)
                  refine b_if_ne (tgt := 97) X dX12_importTable_91 (by decide) (fun c91 => ?_) (fun c91 => ?_)
                  · refine lv_aload_n X.1 X.2.1 dX12_importTable_97 rfl (lv_at hl 2 rfl) ?_
                    refine lv_iload X.1 X.2.1 dX12_importTable_98 (lv_at hl 0 rfl) ?_
                    refine (m_make g m0 lt er el cm_ sv md fmm lc lz af pt_ oc ty_ sz_ em k n s h c tk k0 n0 s0 s1 p fm1 (((v.getD j 0).toInt - basI ty).toNat) (by omega) (by assumption)).callV (rest := []) (wr := [(lt, .inl (g.2.1, 256, .inl f)), (er, .inl (g.2.1, 1536, .inl fe)), (el, .inl (g.2.1, 6, .inl fl)), (ty_, .inl (g.2.1, 2, .inl fy)), (sz_, .inl (g.2.1, 2, .inl fz_)), (em, .inl (g.2.1, 512, .inl fg))]) X dX12_importTable_100 q1141 tX12_make hK hP hD hS hA [0, 4] [1, 2, 3, 5, 6, 7] (by decide) rfl rfl (by decide) (by decide) 0 11 rfl rfl rfl hl ⟨⟨Nat.le_of_ble_eq_true rfl, Nat.le_of_ble_eq_true rfl⟩, Nat.le_of_ble_eq_true rfl, Nat.le_of_ble_eq_true rfl⟩ rfl rfl (Nat.le_of_ble_eq_true rfl) (fun u100 H locs hw100 hP hD hS => ?_)
                    obtain ⟨fm1_100, rfl⟩ : ∃ z, z = u100 := ⟨_, rfl⟩
                    have hP : PP g [(lt, .inl (g.2.1, 256, .inl f)), (er, .inl (g.2.1, 1536, .inl fe)), (el, .inl (g.2.1, 6, .inl fl)), (ty_, .inl (g.2.1, 2, .inl fy)), (sz_, .inl (g.2.1, 2, .inl fz_)), (em, .inl (g.2.1, 512, .inl fg)), (m0, .inr (11, [.int (nI k), .int (nI n), .ref lt, .int (nI s.length), .ref er, .ref el, .int (nI h.length), .ref cm_, .int (nI c.length), .int (bI tk), .int (nI k0), .int (nI n0), .ref sv, .int (nI s0.length), .ref md, .int (nI ((s1 ++ [(((v.getD j 0).toInt - basI ty).toNat)]).length)), .ref fmm, .ref lc, .ref lz, .ref af, .ref pt_, .int (nI p.length), .ref oc, .ref ty_, .ref sz_, .ref em])), (md, .inl (g.2.1, 256, .inl fm1_100))] H := hP
                    have hD : va_D A [(lt, .inl (g.2.1, 256, .inl f)), (er, .inl (g.2.1, 1536, .inl fe)), (el, .inl (g.2.1, 6, .inl fl)), (ty_, .inl (g.2.1, 2, .inl fy)), (sz_, .inl (g.2.1, 2, .inl fz_)), (em, .inl (g.2.1, 512, .inl fg)), (m0, .inr (11, [.int (nI k), .int (nI n), .ref lt, .int (nI s.length), .ref er, .ref el, .int (nI h.length), .ref cm_, .int (nI c.length), .int (bI tk), .int (nI k0), .int (nI n0), .ref sv, .int (nI s0.length), .ref md, .int (nI ((s1 ++ [(((v.getD j 0).toInt - basI ty).toNat)]).length)), .ref fmm, .ref lc, .ref lz, .ref af, .ref pt_, .int (nI p.length), .ref oc, .ref ty_, .ref sz_, .ref em])), (md, .inl (g.2.1, 256, .inl fm1_100))] := hD
                    try dsimp only at hw100
                    refine lv_iinc (v := (nI (j + 1))) (lv' := [(3, .int (nI (j + 1))), (4, .int (nI (((v.getD j 0).toInt - basI ty).toNat))), (0, .ref m0), (1, .int (nI 1)), (2, .int (nI a))]) X.1 X.2.1 dX12_importTable_103 hl (k := 1) rfl (nI_inc _) (by decide) rfl (fun ls hl => ?_)
                    refine lv_goto (tgt := 50) X.1 X.2.1 dX12_importTable_106 (by decide) ?_
                    exact ih50 (j + 1) (s1 ++ [((v.getD j 0).toInt - basI ty).toNat]) z2 fm1_100 (by omega) (by simp; omega) (hz2) (by rw [← hq2, hz3]; simp) (hw100) _ _ (hP.sub [6, 0, 1, 2, 7, 3, 4, 5] rfl) (hD.sub [6, 0, 1, 2, 7, 3, 4, 5] (by decide) rfl) hS ls (lv_sub hl [0, 2, 3, 4] rfl)
                  · exfalso; rw [h8] at c91; cases c91
                · refine lv_iconst (v := (nI 0)) X.1 X.2.1 dX12_importTable_76 (by decide) ?_
                  refine lv_goto (tgt := 82) X.1 X.2.1 dX12_importTable_77 (by decide) ?_
                  refine lv_isub X.1 X.2.1 dX12_importTable_82 ?_
                  refine tp_i (y := (nI (((v.getD j 0).toInt - basI ty).toNat))) ((show _ = v.getD j 0 - nI (if ty = 1 then 97 else 0) from by first | (rw [if_pos (by omega)]; done) | (rw [if_neg (by omega)]; done)).trans (imp_N hbj.1 hbj.2 hcn.1)) ?_
                  refine lv_istore (lv' := [(4, .int (nI (((v.getD j 0).toInt - basI ty).toNat))), (3, .int (nI j)), (0, .ref m0), (1, .int (nI 1)), (2, .int (nI a))]) X.1 X.2.1 dX12_importTable_83 hl (by decide) rfl (fun ls hl => ?_)
                  refine lv_aload_n X.1 X.2.1 dX12_importTable_85 rfl (lv_at hl 2 rfl) ?_
                  refine lv_iload X.1 X.2.1 dX12_importTable_86 (lv_at hl 0 rfl) ?_
                  refine (m_isLetter g m0 lt er el cm_ sv md fmm lc lz af pt_ oc ty_ sz_ em k n s h c tk k0 n0 s0 s1 p B T (nI (((v.getD j 0).toInt - basI ty).toNat)) (by assumption)).callV (rest := []) X dX12_importTable_88 q1222 tX12_isLetter hK (hP.sub [0] rfl) 0 11 rfl rfl rfl hl ⟨⟨Nat.le_of_ble_eq_true rfl, Nat.le_of_ble_eq_true rfl⟩, Nat.le_of_ble_eq_true rfl, Nat.le_of_ble_eq_true rfl⟩ rfl rfl (Nat.le_of_ble_eq_true rfl) ?_
                  have h8 : hasB (nI ((v.getD j 0).toInt - basI ty).toNat) k = true := by rw [hasB_N (by omega)]; exact decide_eq_true (by omega)
                  refine b_if_ne (tgt := 97) X dX12_importTable_91 (by decide) (fun c91 => ?_) (fun c91 => ?_)
                  · refine lv_aload_n X.1 X.2.1 dX12_importTable_97 rfl (lv_at hl 2 rfl) ?_
                    refine lv_iload X.1 X.2.1 dX12_importTable_98 (lv_at hl 0 rfl) ?_
                    refine (m_make g m0 lt er el cm_ sv md fmm lc lz af pt_ oc ty_ sz_ em k n s h c tk k0 n0 s0 s1 p fm1 (((v.getD j 0).toInt - basI ty).toNat) (by omega) (by assumption)).callV (rest := []) (wr := [(lt, .inl (g.2.1, 256, .inl f)), (er, .inl (g.2.1, 1536, .inl fe)), (el, .inl (g.2.1, 6, .inl fl)), (ty_, .inl (g.2.1, 2, .inl fy)), (sz_, .inl (g.2.1, 2, .inl fz_)), (em, .inl (g.2.1, 512, .inl fg))]) X dX12_importTable_100 q1141 tX12_make hK hP hD hS hA [0, 4] [1, 2, 3, 5, 6, 7] (by decide) rfl rfl (by decide) (by decide) 0 11 rfl rfl rfl hl ⟨⟨Nat.le_of_ble_eq_true rfl, Nat.le_of_ble_eq_true rfl⟩, Nat.le_of_ble_eq_true rfl, Nat.le_of_ble_eq_true rfl⟩ rfl rfl (Nat.le_of_ble_eq_true rfl) (fun u100 H locs hw100 hP hD hS => ?_)
                    obtain ⟨fm1_100, rfl⟩ : ∃ z, z = u100 := ⟨_, rfl⟩
                    have hP : PP g [(lt, .inl (g.2.1, 256, .inl f)), (er, .inl (g.2.1, 1536, .inl fe)), (el, .inl (g.2.1, 6, .inl fl)), (ty_, .inl (g.2.1, 2, .inl fy)), (sz_, .inl (g.2.1, 2, .inl fz_)), (em, .inl (g.2.1, 512, .inl fg)), (m0, .inr (11, [.int (nI k), .int (nI n), .ref lt, .int (nI s.length), .ref er, .ref el, .int (nI h.length), .ref cm_, .int (nI c.length), .int (bI tk), .int (nI k0), .int (nI n0), .ref sv, .int (nI s0.length), .ref md, .int (nI ((s1 ++ [(((v.getD j 0).toInt - basI ty).toNat)]).length)), .ref fmm, .ref lc, .ref lz, .ref af, .ref pt_, .int (nI p.length), .ref oc, .ref ty_, .ref sz_, .ref em])), (md, .inl (g.2.1, 256, .inl fm1_100))] H := hP
                    have hD : va_D A [(lt, .inl (g.2.1, 256, .inl f)), (er, .inl (g.2.1, 1536, .inl fe)), (el, .inl (g.2.1, 6, .inl fl)), (ty_, .inl (g.2.1, 2, .inl fy)), (sz_, .inl (g.2.1, 2, .inl fz_)), (em, .inl (g.2.1, 512, .inl fg)), (m0, .inr (11, [.int (nI k), .int (nI n), .ref lt, .int (nI s.length), .ref er, .ref el, .int (nI h.length), .ref cm_, .int (nI c.length), .int (bI tk), .int (nI k0), .int (nI n0), .ref sv, .int (nI s0.length), .ref md, .int (nI ((s1 ++ [(((v.getD j 0).toInt - basI ty).toNat)]).length)), .ref fmm, .ref lc, .ref lz, .ref af, .ref pt_, .int (nI p.length), .ref oc, .ref ty_, .ref sz_, .ref em])), (md, .inl (g.2.1, 256, .inl fm1_100))] := hD
                    try dsimp only at hw100
                    refine lv_iinc (v := (nI (j + 1))) (lv' := [(3, .int (nI (j + 1))), (4, .int (nI (((v.getD j 0).toInt - basI ty).toNat))), (0, .ref m0), (1, .int (nI 1)), (2, .int (nI a))]) X.1 X.2.1 dX12_importTable_103 hl (k := 1) rfl (nI_inc _) (by decide) rfl (fun ls hl => ?_)
                    refine lv_goto (tgt := 50) X.1 X.2.1 dX12_importTable_106 (by decide) ?_
                    exact ih50 (j + 1) (s1 ++ [((v.getD j 0).toInt - basI ty).toNat]) z2 fm1_100 (by omega) (by simp; omega) (hz2) (by rw [← hq2, hz3]; simp) (hw100) _ _ (hP.sub [6, 0, 1, 2, 7, 3, 4, 5] rfl) (hD.sub [6, 0, 1, 2, 7, 3, 4, 5] (by decide) rfl) hS ls (lv_sub hl [0, 2, 3, 4] rfl)
                  · exfalso; rw [h8] at c91; cases c91
          exact L50 v.length 0 ([] : List Nat) y fm_ (by omega) (rfl) (by rw [List.drop_zero]; exact hy) (rfl) (rep_nil) _ _ (hP.sub [0, 1, 2, 3, 4, 5, 6, 7] rfl) (hD.sub [0, 1, 2, 3, 4, 5, 6, 7] (by decide) rfl) hS ls (lv_sub hl [0, 1, 2, 3] rfl)
        · exfalso; omega
      · exfalso; omega
    · exfalso; have h6 := of_decide_eq_false c13; rw [nI_toInt (by omega)] at h6; omega

set_option maxHeartbeats 4000000 in
set_option maxRecDepth 100000 in
theorem m_importTable_x1 (g : G5) (m0 : Nat) (lt : Nat) (er : Nat) (el : Nat) (cm_ : Nat) (sv : Nat) (md : Nat) (fmm : Nat) (lc : Nat) (lz : Nat) (af : Nat) (pt_ : Nat) (oc : Nat) (ty_ : Nat) (sz_ : Nat) (em : Nat) (k : Nat) (n : Nat) (s : List Nat) (h : List (List Nat)) (c : List Nat) (tk : Bool) (k0 : Nat) (n0 : Nat) (s0 : List Nat) (z : List Nat) (p : List Int) (fm_ : Nat → Int32) (B : Nat) (T : Nat) (fy : Nat → Int32) (fz_ : Nat → Int32) (fg : Nat → Int32) (ty : Int) (v : List Int32) (a : Nat) (hc : shp k n B T) (hv : v.length ≤ 256) (hty : -1 ≤ ty ∧ ty ≤ 1) (hmt : mtb 1 fy fz_ fg ty v) (ha : a < 2) (hta : ty = ((a : Nat) : Int)) (hbv : bdv v) (hy : impL k (basI ty) v = none) : MuI (S := (List Nat) × (Nat → Int32)) yX12_importTable cX12_importTable 5 (some .int) 2 61 g [.ref m0, .int (nI 1), .int (nI a)] [(m0, .inr (11, [.int (nI k), .int (nI n), .ref lt, .int (nI s.length), .ref er, .ref el, .int (nI h.length), .ref cm_, .int (nI c.length), .int (bI tk), .int (nI k0), .int (nI n0), .ref sv, .int (nI s0.length), .ref md, .int (nI z.length), .ref fmm, .ref lc, .ref lz, .ref af, .ref pt_, .int (nI p.length), .ref oc, .ref ty_, .ref sz_, .ref em])), (md, .inl (g.2.1, 256, .inl fm_)), (ty_, .inl (g.2.1, 2, .inl fy)), (sz_, .inl (g.2.1, 2, .inl fz_)), (em, .inl (g.2.1, 512, .inl fg))] (fun r u => r = (-5) ∧ True) (fun u => [(m0, .inr (11, [.int (nI k), .int (nI n), .ref lt, .int (nI s.length), .ref er, .ref el, .int (nI h.length), .ref cm_, .int (nI c.length), .int (bI tk), .int (nI k0), .int (nI n0), .ref sv, .int (nI s0.length), .ref md, .int (nI u.1.length), .ref fmm, .ref lc, .ref lz, .ref af, .ref pt_, .int (nI p.length), .ref oc, .ref ty_, .ref sz_, .ref em])), (md, .inl (g.2.1, 256, .inl u.2)), (ty_, .inl (g.2.1, 2, .inl fy)), (sz_, .inl (g.2.1, 2, .inl fz_)), (em, .inl (g.2.1, 512, .inl fg))]) := by
  refine MuI.of (by decide +kernel) (Nat.le_of_ble_eq_true rfl) ?_
  intro p_ l_ e_ S_ m_ args below meth co X hr hlk hP hK A hA hD hS ls hl
  have X : CallFix p_ m_ co cX12_importTable 5 S_ args lw_all RX12 := X
  have hl : lv_has ls 5 [(0, .ref m0), (1, .int (nI 1)), (2, .int (nI a))] := hl
  obtain ⟨hk2, hk4, hn1, hn6, hB, hT, hBT, hT2⟩ := hc.f
  have hB0 : 0 < B := by rw [hBT]; exact Nat.mul_pos (by omega) (by omega)
  refine lv_iload_n X.1 X.2.1 dX12_importTable_0 rfl (lv_at hl 1 rfl) ?_
  refine (c_misT g (nI 1)).callS (rest := []) X dX12_importTable_1 q1455 tX12_isTable hK (hP.sub [] rfl) hl ⟨⟨Nat.le_of_ble_eq_true rfl, Nat.le_of_ble_eq_true rfl⟩, Nat.le_of_ble_eq_true rfl, Nat.le_of_ble_eq_true rfl⟩ rfl rfl (Nat.le_of_ble_eq_true rfl) ?_
  refine b_if_eq (tgt := 16) X dX12_importTable_4 (by decide) (fun c4 => ?_) (fun c4 => ?_)
  · exfalso; have h6 := of_decide_eq_false c4; rw [nI_toInt (by omega)] at h6; omega
  · refine lv_iload_n X.1 X.2.1 dX12_importTable_7 rfl (lv_at hl 2 rfl) ?_
    refine lv_iconst (v := (nI 0)) X.1 X.2.1 dX12_importTable_8 (by decide) ?_
    refine lv_iconst (v := (nI 1)) X.1 X.2.1 dX12_importTable_9 (by decide) ?_
    refine (c_inN g (nI a) 0 1 (by omega) (by omega)).callS (rest := []) X dX12_importTable_10 q1103 tX12_in hK (hP.sub [] rfl) hl ⟨⟨Nat.le_of_ble_eq_true rfl, Nat.le_of_ble_eq_true rfl⟩, Nat.le_of_ble_eq_true rfl, Nat.le_of_ble_eq_true rfl⟩ rfl rfl (Nat.le_of_ble_eq_true rfl) ?_
    refine b_if_ne (tgt := 18) X dX12_importTable_13 (by decide) (fun c13 => ?_) (fun c13 => ?_)
    · refine lv_aload_n X.1 X.2.1 dX12_importTable_18 rfl (lv_at hl 0 rfl) ?_
      refine va_get (D := g.1) (ci := 11) (v := .ref ty_) (C := RX12) (T := TX12) (N := 26) X.1 X.2.1 X.2.2.2.2 iwX12 X.2.2.2.1 hK hP 0 rfl rfl 23 (by decide) (X.2.2.2.2 _ q1043) (fun _ h9 => h9) rfl dX12_importTable_19 ?_
      refine lv_iload_n X.1 X.2.1 dX12_importTable_22 rfl (lv_at hl 1 rfl) ?_
      refine n_iald X hK hP 2 0 rfl rfl (by omega) (by decide) dX12_importTable_23 ?_
      refine tp_i (y := (iI ty)) (hmt.1) ?_
      refine z_if_ge (tgt := 30) X dX12_importTable_24 (by decide) (iI_toInt (by omega) (by omega)) (fun c24 => ?_) (fun c24 => ?_)
      · refine lv_aload_n X.1 X.2.1 dX12_importTable_30 rfl (lv_at hl 0 rfl) ?_
        refine va_get (D := g.1) (ci := 11) (v := .ref ty_) (C := RX12) (T := TX12) (N := 26) X.1 X.2.1 X.2.2.2.2 iwX12 X.2.2.2.1 hK hP 0 rfl rfl 23 (by decide) (X.2.2.2.2 _ q1043) (fun _ h9 => h9) rfl dX12_importTable_31 ?_
        refine lv_iload_n X.1 X.2.1 dX12_importTable_34 rfl (lv_at hl 1 rfl) ?_
        refine n_iald X hK hP 2 0 rfl rfl (by omega) (by decide) dX12_importTable_35 ?_
        refine tp_i (y := (iI ty)) (hmt.1) ?_
        refine lv_iload_n X.1 X.2.1 dX12_importTable_36 rfl (lv_at hl 2 rfl) ?_
        refine z_icmp_eq (tgt := 43) X dX12_importTable_37 (by decide) (iI_toInt (by omega) (by omega)) (nI_toInt (by omega)) (fun c37 => ?_) (fun c37 => ?_)
        · refine lv_aload_n X.1 X.2.1 dX12_importTable_43 rfl (lv_at hl 0 rfl) ?_
          refine lv_iconst (v := (nI 0)) X.1 X.2.1 dX12_importTable_44 (by decide) ?_
          refine va_put (D := g.1) (ci := 11) (v := .int (nI 0)) (ty := .int) (C := RX12) (T := TX12) (N := 26) X.1 X.2.1 X.2.2.2.2 iwX12 tyX12 tyX12_ok nmX12 X.2.2.2.1 hK hP hD hS 0 rfl rfl 15 (by decide) (X.2.2.2.2 _ q1035) (fun _ h9 => h9) rfl (by decide +kernel) rfl rfl (Nat.le_of_ble_eq_true rfl) dX12_importTable_45 (fun H locs hP hD hS => ?_)
          have hP : PP g [(m0, .inr (11, [.int (nI k), .int (nI n), .ref lt, .int (nI s.length), .ref er, .ref el, .int (nI h.length), .ref cm_, .int (nI c.length), .int (bI tk), .int (nI k0), .int (nI n0), .ref sv, .int (nI s0.length), .ref md, .int (nI 0), .ref fmm, .ref lc, .ref lz, .ref af, .ref pt_, .int (nI p.length), .ref oc, .ref ty_, .ref sz_, .ref em])), (md, .inl (g.2.1, 256, .inl fm_)), (ty_, .inl (g.2.1, 2, .inl fy)), (sz_, .inl (g.2.1, 2, .inl fz_)), (em, .inl (g.2.1, 512, .inl fg))] H := hP
          have hD : va_D A [(m0, .inr (11, [.int (nI k), .int (nI n), .ref lt, .int (nI s.length), .ref er, .ref el, .int (nI h.length), .ref cm_, .int (nI c.length), .int (bI tk), .int (nI k0), .int (nI n0), .ref sv, .int (nI s0.length), .ref md, .int (nI 0), .ref fmm, .ref lc, .ref lz, .ref af, .ref pt_, .int (nI p.length), .ref oc, .ref ty_, .ref sz_, .ref em])), (md, .inl (g.2.1, 256, .inl fm_)), (ty_, .inl (g.2.1, 2, .inl fy)), (sz_, .inl (g.2.1, 2, .inl fz_)), (em, .inl (g.2.1, 512, .inl fg))] := hD
          have hP : PP g [(m0, .inr (11, [.int (nI k), .int (nI n), .ref lt, .int (nI s.length), .ref er, .ref el, .int (nI h.length), .ref cm_, .int (nI c.length), .int (bI tk), .int (nI k0), .int (nI n0), .ref sv, .int (nI s0.length), .ref md, .int (nI (([] : List Nat).length)), .ref fmm, .ref lc, .ref lz, .ref af, .ref pt_, .int (nI p.length), .ref oc, .ref ty_, .ref sz_, .ref em])), (md, .inl (g.2.1, 256, .inl fm_)), (ty_, .inl (g.2.1, 2, .inl fy)), (sz_, .inl (g.2.1, 2, .inl fz_)), (em, .inl (g.2.1, 512, .inl fg))] H := by exact hP
          have hD : va_D A [(m0, .inr (11, [.int (nI k), .int (nI n), .ref lt, .int (nI s.length), .ref er, .ref el, .int (nI h.length), .ref cm_, .int (nI c.length), .int (bI tk), .int (nI k0), .int (nI n0), .ref sv, .int (nI s0.length), .ref md, .int (nI (([] : List Nat).length)), .ref fmm, .ref lc, .ref lz, .ref af, .ref pt_, .int (nI p.length), .ref oc, .ref ty_, .ref sz_, .ref em])), (md, .inl (g.2.1, 256, .inl fm_)), (ty_, .inl (g.2.1, 2, .inl fy)), (sz_, .inl (g.2.1, 2, .inl fz_)), (em, .inl (g.2.1, 512, .inl fg))] := by exact hD
          refine lv_iconst (v := (nI 0)) X.1 X.2.1 dX12_importTable_48 (by decide) ?_
          refine lv_istore_n (lv' := [(3, .int (nI 0)), (0, .ref m0), (1, .int (nI 1)), (2, .int (nI a))]) X.1 X.2.1 dX12_importTable_49 rfl hl (by decide) rfl (fun ls hl => ?_)
          have L50 : ∀ (r : Nat) (j : Nat) (s1 : List Nat) (fm1 : Nat → Int32) (h1 : j + r = v.length) (hl1 : s1.length = j) (hq : impL k (basI ty) (v.drop j) = none) (hf1 : rep fm1 s1) (H : Heap) (locs : List Loc) (hP : PP g [(m0, .inr (11, [.int (nI k), .int (nI n), .ref lt, .int (nI s.length), .ref er, .ref el, .int (nI h.length), .ref cm_, .int (nI c.length), .int (bI tk), .int (nI k0), .int (nI n0), .ref sv, .int (nI s0.length), .ref md, .int (nI s1.length), .ref fmm, .ref lc, .ref lz, .ref af, .ref pt_, .int (nI p.length), .ref oc, .ref ty_, .ref sz_, .ref em])), (md, .inl (g.2.1, 256, .inl fm1)), (ty_, .inl (g.2.1, 2, .inl fy)), (sz_, .inl (g.2.1, 2, .inl fz_)), (em, .inl (g.2.1, 512, .inl fg))] H) (hD : va_D A [(m0, .inr (11, [.int (nI k), .int (nI n), .ref lt, .int (nI s.length), .ref er, .ref el, .int (nI h.length), .ref cm_, .int (nI c.length), .int (bI tk), .int (nI k0), .int (nI n0), .ref sv, .int (nI s0.length), .ref md, .int (nI s1.length), .ref fmm, .ref lc, .ref lz, .ref af, .ref pt_, .int (nI p.length), .ref oc, .ref ty_, .ref sz_, .ref em])), (md, .inl (g.2.1, 256, .inl fm1)), (ty_, .inl (g.2.1, 2, .inl fy)), (sz_, .inl (g.2.1, 2, .inl fz_)), (em, .inl (g.2.1, 512, .inl fg))]) (hS : va_S A S_.heap H locs) (ls : Array Slot) (hl : lv_has ls 5 [(3, .int (nI j)), (0, .ref m0), (1, .int (nI 1)), (2, .int (nI a))]), W p_ l_ e_ { frames := 2, cells := 0, slots := 0, locals := 61 } S_ m_ args below meth co H locs 0 0 (MQ below (va_Qi (S := (List Nat) × (Nat → Int32)) (fun r u => r = (-5) ∧ True) (MuB g A (fun u => [(m0, .inr (11, [.int (nI k), .int (nI n), .ref lt, .int (nI s.length), .ref er, .ref el, .int (nI h.length), .ref cm_, .int (nI c.length), .int (bI tk), .int (nI k0), .int (nI n0), .ref sv, .int (nI s0.length), .ref md, .int (nI u.1.length), .ref fmm, .ref lc, .ref lz, .ref af, .ref pt_, .int (nI p.length), .ref oc, .ref ty_, .ref sz_, .ref em])), (md, .inl (g.2.1, 256, .inl u.2)), (ty_, .inl (g.2.1, 2, .inl fy)), (sz_, .inl (g.2.1, 2, .inl fz_)), (em, .inl (g.2.1, 512, .inl fg))])) A) args S_ 0 0 A) (F0 m_ 50 ls []) := by
            intro r
            induction r with
            | zero =>
              intro j s1 fm1 h1 hl1 hq hf1 H locs hP hD hS ls hl
              exfalso
              rw [List.drop_eq_nil_iff.mpr (by omega), impL] at hq
              cases hq
            | succ r ih50 =>
              intro j s1 fm1 h1 hl1 hq hf1 H locs hP hD hS ls hl
              have hbj := hbv j
              refine lv_iload_n X.1 X.2.1 dX12_importTable_50 rfl (lv_at hl 0 rfl) ?_
              refine lv_aload_n X.1 X.2.1 dX12_importTable_51 rfl (lv_at hl 1 rfl) ?_
              refine va_get (D := g.1) (ci := 11) (v := .ref sz_) (C := RX12) (T := TX12) (N := 26) X.1 X.2.1 X.2.2.2.2 iwX12 X.2.2.2.1 hK hP 0 rfl rfl 24 (by decide) (X.2.2.2.2 _ q1044) (fun _ h9 => h9) rfl dX12_importTable_52 ?_
              refine lv_iload_n X.1 X.2.1 dX12_importTable_55 rfl (lv_at hl 2 rfl) ?_
              refine n_iald X hK hP 3 0 rfl rfl (by omega) (by decide) dX12_importTable_56 ?_
              refine tp_i (y := (nI v.length)) (hmt.2.1) ?_
              refine z_icmp_ge (tgt := 109) X dX12_importTable_57 (by decide) (nI_toInt (by omega)) (nI_toInt (by omega)) (fun c57 => ?_) (fun c57 => ?_)
              · exfalso; omega
              · refine lv_aload_n X.1 X.2.1 dX12_importTable_60 rfl (lv_at hl 1 rfl) ?_
                refine va_get (D := g.1) (ci := 11) (v := .ref em) (C := RX12) (T := TX12) (N := 26) X.1 X.2.1 X.2.2.2.2 iwX12 X.2.2.2.1 hK hP 0 rfl rfl 25 (by decide) (X.2.2.2.2 _ q1045) (fun _ h9 => h9) rfl dX12_importTable_61 ?_
                refine lv_sipush (v := (nI 256)) X.1 X.2.1 dX12_importTable_64 (by decide) ?_
                refine lv_iload_n X.1 X.2.1 dX12_importTable_67 rfl (lv_at hl 2 rfl) ?_
                refine n_mul X dX12_importTable_68 ?_
                refine lv_iload_n X.1 X.2.1 dX12_importTable_69 rfl (lv_at hl 0 rfl) ?_
                refine n_add X dX12_importTable_70 ?_
                refine n_iald X hK hP 4 0 rfl rfl (by omega) (by decide) dX12_importTable_71 ?_
                have hbj := hbv j
                refine tp_i (y := (v.getD j 0)) (hmt.2.2 j (by omega)) ?_
                refine lv_iload_n X.1 X.2.1 dX12_importTable_72 rfl (lv_at hl 3 rfl) ?_
                refine z_if_ne (tgt := 80) X dX12_importTable_73 (by decide) (nI_toInt (by omega)) (fun c73 => ?_) (fun c73 => ?_)
                · refine lv_bipush (v := (nI 97)) X.1 X.2.1 dX12_importTable_80 (by decide) ?_
                  refine lv_isub X.1 X.2.1 dX12_importTable_82 ?_
                  by_cases hcn : 0 ≤ (v.getD j 0).toInt - basI ty ∧ (v.getD j 0).toInt - basI ty < (k : Int)
                  · have h8 : hasB (nI ((v.getD j 0).toInt - basI ty).toNat) k = true := by rw [hasB_N (by omega)]; exact decide_eq_true (by omega)
                    refine tp_i (y := (nI (((v.getD j 0).toInt - basI ty).toNat))) ((show _ = v.getD j 0 - nI (if ty = 1 then 97 else 0) from by first | (rw [if_pos (by omega)]; done) | (rw [if_neg (by omega)]; done)).trans (imp_N hbj.1 hbj.2 hcn.1)) ?_
                    refine lv_istore (lv' := [(4, .int (nI (((v.getD j 0).toInt - basI ty).toNat))), (3, .int (nI j)), (0, .ref m0), (1, .int (nI 1)), (2, .int (nI a))]) X.1 X.2.1 dX12_importTable_83 hl (by decide) rfl (fun ls hl => ?_)
                    refine lv_aload_n X.1 X.2.1 dX12_importTable_85 rfl (lv_at hl 2 rfl) ?_
                    refine lv_iload X.1 X.2.1 dX12_importTable_86 (lv_at hl 0 rfl) ?_
                    refine (m_isLetter g m0 lt er el cm_ sv md fmm lc lz af pt_ oc ty_ sz_ em k n s h c tk k0 n0 s0 s1 p B T (nI (((v.getD j 0).toInt - basI ty).toNat)) (by assumption)).callV (rest := []) X dX12_importTable_88 q1222 tX12_isLetter hK (hP.sub [0] rfl) 0 11 rfl rfl rfl hl ⟨⟨Nat.le_of_ble_eq_true rfl, Nat.le_of_ble_eq_true rfl⟩, Nat.le_of_ble_eq_true rfl, Nat.le_of_ble_eq_true rfl⟩ rfl rfl (Nat.le_of_ble_eq_true rfl) ?_
                    refine b_if_ne (tgt := 97) X dX12_importTable_91 (by decide) (fun c91 => ?_) (fun c91 => ?_)
                    · refine lv_aload_n X.1 X.2.1 dX12_importTable_97 rfl (lv_at hl 2 rfl) ?_
                      refine lv_iload X.1 X.2.1 dX12_importTable_98 (lv_at hl 0 rfl) ?_
                      refine (m_make g m0 lt er el cm_ sv md fmm lc lz af pt_ oc ty_ sz_ em k n s h c tk k0 n0 s0 s1 p fm1 (((v.getD j 0).toInt - basI ty).toNat) (by omega) (by assumption)).callV (rest := []) (wr := [(ty_, .inl (g.2.1, 2, .inl fy)), (sz_, .inl (g.2.1, 2, .inl fz_)), (em, .inl (g.2.1, 512, .inl fg))]) X dX12_importTable_100 q1141 tX12_make hK hP hD hS hA [0, 1] [2, 3, 4] (by decide) rfl rfl (by decide) (by decide) 0 11 rfl rfl rfl hl ⟨⟨Nat.le_of_ble_eq_true rfl, Nat.le_of_ble_eq_true rfl⟩, Nat.le_of_ble_eq_true rfl, Nat.le_of_ble_eq_true rfl⟩ rfl rfl (Nat.le_of_ble_eq_true rfl) (fun u100 H locs hw100 hP hD hS => ?_)
                      obtain ⟨fm1_100, rfl⟩ : ∃ z, z = u100 := ⟨_, rfl⟩
                      have hP : PP g [(ty_, .inl (g.2.1, 2, .inl fy)), (sz_, .inl (g.2.1, 2, .inl fz_)), (em, .inl (g.2.1, 512, .inl fg)), (m0, .inr (11, [.int (nI k), .int (nI n), .ref lt, .int (nI s.length), .ref er, .ref el, .int (nI h.length), .ref cm_, .int (nI c.length), .int (bI tk), .int (nI k0), .int (nI n0), .ref sv, .int (nI s0.length), .ref md, .int (nI ((s1 ++ [(((v.getD j 0).toInt - basI ty).toNat)]).length)), .ref fmm, .ref lc, .ref lz, .ref af, .ref pt_, .int (nI p.length), .ref oc, .ref ty_, .ref sz_, .ref em])), (md, .inl (g.2.1, 256, .inl fm1_100))] H := hP
                      have hD : va_D A [(ty_, .inl (g.2.1, 2, .inl fy)), (sz_, .inl (g.2.1, 2, .inl fz_)), (em, .inl (g.2.1, 512, .inl fg)), (m0, .inr (11, [.int (nI k), .int (nI n), .ref lt, .int (nI s.length), .ref er, .ref el, .int (nI h.length), .ref cm_, .int (nI c.length), .int (bI tk), .int (nI k0), .int (nI n0), .ref sv, .int (nI s0.length), .ref md, .int (nI ((s1 ++ [(((v.getD j 0).toInt - basI ty).toNat)]).length)), .ref fmm, .ref lc, .ref lz, .ref af, .ref pt_, .int (nI p.length), .ref oc, .ref ty_, .ref sz_, .ref em])), (md, .inl (g.2.1, 256, .inl fm1_100))] := hD
                      try dsimp only at hw100
                      refine lv_iinc (v := (nI (j + 1))) (lv' := [(3, .int (nI (j + 1))), (4, .int (nI (((v.getD j 0).toInt - basI ty).toNat))), (0, .ref m0), (1, .int (nI 1)), (2, .int (nI a))]) X.1 X.2.1 dX12_importTable_103 hl (k := 1) rfl (nI_inc _) (by decide) rfl (fun ls hl => ?_)
                      refine lv_goto (tgt := 50) X.1 X.2.1 dX12_importTable_106 (by decide) ?_
                      exact ih50 (j + 1) (s1 ++ [((v.getD j 0).toInt - basI ty).toNat]) fm1_100 (by omega) (by simp; omega) (impL_none hq (by omega) hcn) (hw100) _ _ (hP.sub [3, 4, 0, 1, 2] rfl) (hD.sub [3, 4, 0, 1, 2] (by decide) rfl) hS ls (lv_sub hl [0, 2, 3, 4] rfl)
                    · exfalso; rw [h8] at c91; cases c91
                  · have h8 : hasB (v.getD j 0 - nI (if ty = 1 then 97 else 0)) k = false := by unfold hasB; rw [imp_sub hbj.1 hbj.2]; exact decide_eq_false hcn
                    refine tp_i (y := (v.getD j 0 - nI (if ty = 1 then 97 else 0))) (by first | (rw [if_pos (by omega)]; done) | (rw [if_neg (by omega)]; done)) ?_
                    refine lv_istore (lv' := [(4, .int (v.getD j 0 - nI (if ty = 1 then 97 else 0))), (3, .int (nI j)), (0, .ref m0), (1, .int (nI 1)), (2, .int (nI a))]) X.1 X.2.1 dX12_importTable_83 hl (by decide) rfl (fun ls hl => ?_)
                    refine lv_aload_n X.1 X.2.1 dX12_importTable_85 rfl (lv_at hl 2 rfl) ?_
                    refine lv_iload X.1 X.2.1 dX12_importTable_86 (lv_at hl 0 rfl) ?_
                    refine (m_isLetter g m0 lt er el cm_ sv md fmm lc lz af pt_ oc ty_ sz_ em k n s h c tk k0 n0 s0 s1 p B T (v.getD j 0 - nI (if ty = 1 then 97 else 0)) (by assumption)).callV (rest := []) X dX12_importTable_88 q1222 tX12_isLetter hK (hP.sub [0] rfl) 0 11 rfl rfl rfl hl ⟨⟨Nat.le_of_ble_eq_true rfl, Nat.le_of_ble_eq_true rfl⟩, Nat.le_of_ble_eq_true rfl, Nat.le_of_ble_eq_true rfl⟩ rfl rfl (Nat.le_of_ble_eq_true rfl) ?_
                    refine b_if_ne (tgt := 97) X dX12_importTable_91 (by decide) (fun c91 => ?_) (fun c91 => ?_)
                    · exfalso; rw [h8] at c91; cases c91
                    · refine lv_bipush (v := (-5)) X.1 X.2.1 dX12_importTable_94 (by decide) ?_
                      exact MuI.ret X hr hlk hK hS dX12_importTable_96 (nI_nar _) (s1, fm1) (hP.sub [0, 1, 2, 3, 4] rfl) (hD.sub [0, 1, 2, 3, 4] (by decide) rfl) (⟨rfl, trivial⟩)
                · refine lv_iconst (v := (nI 0)) X.1 X.2.1 dX12_importTable_76 (by decide) ?_
                  refine lv_goto (tgt := 82) X.1 X.2.1 dX12_importTable_77 (by decide) ?_
                  refine lv_isub X.1 X.2.1 dX12_importTable_82 ?_
                  by_cases hcn : 0 ≤ (v.getD j 0).toInt - basI ty ∧ (v.getD j 0).toInt - basI ty < (k : Int)
                  · have h8 : hasB (nI ((v.getD j 0).toInt - basI ty).toNat) k = true := by rw [hasB_N (by omega)]; exact decide_eq_true (by omega)
                    refine tp_i (y := (nI (((v.getD j 0).toInt - basI ty).toNat))) ((show _ = v.getD j 0 - nI (if ty = 1 then 97 else 0) from by first | (rw [if_pos (by omega)]; done) | (rw [if_neg (by omega)]; done)).trans (imp_N hbj.1 hbj.2 hcn.1)) ?_
                    refine lv_istore (lv' := [(4, .int (nI (((v.getD j 0).toInt - basI ty).toNat))), (3, .int (nI j)), (0, .ref m0), (1, .int (nI 1)), (2, .int (nI a))]) X.1 X.2.1 dX12_importTable_83 hl (by decide) rfl (fun ls hl => ?_)
                    refine lv_aload_n X.1 X.2.1 dX12_importTable_85 rfl (lv_at hl 2 rfl) ?_
                    refine lv_iload X.1 X.2.1 dX12_importTable_86 (lv_at hl 0 rfl) ?_
                    refine (m_isLetter g m0 lt er el cm_ sv md fmm lc lz af pt_ oc ty_ sz_ em k n s h c tk k0 n0 s0 s1 p B T (nI (((v.getD j 0).toInt - basI ty).toNat)) (by assumption)).callV (rest := []) X dX12_importTable_88 q1222 tX12_isLetter hK (hP.sub [0] rfl) 0 11 rfl rfl rfl hl ⟨⟨Nat.le_of_ble_eq_true rfl, Nat.le_of_ble_eq_true rfl⟩, Nat.le_of_ble_eq_true rfl, Nat.le_of_ble_eq_true rfl⟩ rfl rfl (Nat.le_of_ble_eq_true rfl) ?_
                    refine b_if_ne (tgt := 97) X dX12_importTable_91 (by decide) (fun c91 => ?_) (fun c91 => ?_)
                    · refine lv_aload_n X.1 X.2.1 dX12_importTable_97 rfl (lv_at hl 2 rfl) ?_
                      refine lv_iload X.1 X.2.1 dX12_importTable_98 (lv_at hl 0 rfl) ?_
                      refine (m_make g m0 lt er el cm_ sv md fmm lc lz af pt_ oc ty_ sz_ em k n s h c tk k0 n0 s0 s1 p fm1 (((v.getD j 0).toInt - basI ty).toNat) (by omega) (by assumption)).callV (rest := []) (wr := [(ty_, .inl (g.2.1, 2, .inl fy)), (sz_, .inl (g.2.1, 2, .inl fz_)), (em, .inl (g.2.1, 512, .inl fg))]) X dX12_importTable_100 q1141 tX12_make hK hP hD hS hA [0, 1] [2, 3, 4] (by decide) rfl rfl (by decide) (by decide) 0 11 rfl rfl rfl hl ⟨⟨Nat.le_of_ble_eq_true rfl, Nat.le_of_ble_eq_true rfl⟩, Nat.le_of_ble_eq_true rfl, Nat.le_of_ble_eq_true rfl⟩ rfl rfl (Nat.le_of_ble_eq_true rfl) (fun u100 H locs hw100 hP hD hS => ?_)
                      obtain ⟨fm1_100, rfl⟩ : ∃ z, z = u100 := ⟨_, rfl⟩
                      have hP : PP g [(ty_, .inl (g.2.1, 2, .inl fy)), (sz_, .inl (g.2.1, 2, .inl fz_)), (em, .inl (g.2.1, 512, .inl fg)), (m0, .inr (11, [.int (nI k), .int (nI n), .ref lt, .int (nI s.length), .ref er, .ref el, .int (nI h.length), .ref cm_, .int (nI c.length), .int (bI tk), .int (nI k0), .int (nI n0), .ref sv, .int (nI s0.length), .ref md, .int (nI ((s1 ++ [(((v.getD j 0).toInt - basI ty).toNat)]).length)), .ref fmm, .ref lc, .ref lz, .ref af, .ref pt_, .int (nI p.length), .ref oc, .ref ty_, .ref sz_, .ref em])), (md, .inl (g.2.1, 256, .inl fm1_100))] H := hP
                      have hD : va_D A [(ty_, .inl (g.2.1, 2, .inl fy)), (sz_, .inl (g.2.1, 2, .inl fz_)), (em, .inl (g.2.1, 512, .inl fg)), (m0, .inr (11, [.int (nI k), .int (nI n), .ref lt, .int (nI s.length), .ref er, .ref el, .int (nI h.length), .ref cm_, .int (nI c.length), .int (bI tk), .int (nI k0), .int (nI n0), .ref sv, .int (nI s0.length), .ref md, .int (nI ((s1 ++ [(((v.getD j 0).toInt - basI ty).toNat)]).length)), .ref fmm, .ref lc, .ref lz, .ref af, .ref pt_, .int (nI p.length), .ref oc, .ref ty_, .ref sz_, .ref em])), (md, .inl (g.2.1, 256, .inl fm1_100))] := hD
                      try dsimp only at hw100
                      refine lv_iinc (v := (nI (j + 1))) (lv' := [(3, .int (nI (j + 1))), (4, .int (nI (((v.getD j 0).toInt - basI ty).toNat))), (0, .ref m0), (1, .int (nI 1)), (2, .int (nI a))]) X.1 X.2.1 dX12_importTable_103 hl (k := 1) rfl (nI_inc _) (by decide) rfl (fun ls hl => ?_)
                      refine lv_goto (tgt := 50) X.1 X.2.1 dX12_importTable_106 (by decide) ?_
                      exact ih50 (j + 1) (s1 ++ [((v.getD j 0).toInt - basI ty).toNat]) fm1_100 (by omega) (by simp; omega) (impL_none hq (by omega) hcn) (hw100) _ _ (hP.sub [3, 4, 0, 1, 2] rfl) (hD.sub [3, 4, 0, 1, 2] (by decide) rfl) hS ls (lv_sub hl [0, 2, 3, 4] rfl)
                    · exfalso; rw [h8] at c91; cases c91
                  · have h8 : hasB (v.getD j 0 - nI (if ty = 1 then 97 else 0)) k = false := by unfold hasB; rw [imp_sub hbj.1 hbj.2]; exact decide_eq_false hcn
                    refine tp_i (y := (v.getD j 0 - nI (if ty = 1 then 97 else 0))) (by first | (rw [if_pos (by omega)]; done) | (rw [if_neg (by omega)]; done)) ?_
                    refine lv_istore (lv' := [(4, .int (v.getD j 0 - nI (if ty = 1 then 97 else 0))), (3, .int (nI j)), (0, .ref m0), (1, .int (nI 1)), (2, .int (nI a))]) X.1 X.2.1 dX12_importTable_83 hl (by decide) rfl (fun ls hl => ?_)
                    refine lv_aload_n X.1 X.2.1 dX12_importTable_85 rfl (lv_at hl 2 rfl) ?_
                    refine lv_iload X.1 X.2.1 dX12_importTable_86 (lv_at hl 0 rfl) ?_
                    refine (m_isLetter g m0 lt er el cm_ sv md fmm lc lz af pt_ oc ty_ sz_ em k n s h c tk k0 n0 s0 s1 p B T (v.getD j 0 - nI (if ty = 1 then 97 else 0)) (by assumption)).callV (rest := []) X dX12_importTable_88 q1222 tX12_isLetter hK (hP.sub [0] rfl) 0 11 rfl rfl rfl hl ⟨⟨Nat.le_of_ble_eq_true rfl, Nat.le_of_ble_eq_true rfl⟩, Nat.le_of_ble_eq_true rfl, Nat.le_of_ble_eq_true rfl⟩ rfl rfl (Nat.le_of_ble_eq_true rfl) ?_
                    refine b_if_ne (tgt := 97) X dX12_importTable_91 (by decide) (fun c91 => ?_) (fun c91 => ?_)
                    · exfalso; rw [h8] at c91; cases c91
                    · refine lv_bipush (v := (-5)) X.1 X.2.1 dX12_importTable_94 (by decide) ?_
                      exact MuI.ret X hr hlk hK hS dX12_importTable_96 (nI_nar _) (s1, fm1) (hP.sub [0, 1, 2, 3, 4] rfl) (hD.sub [0, 1, 2, 3, 4] (by decide) rfl) (⟨rfl, trivial⟩)
          exact L50 v.length 0 ([] : List Nat) fm_ (by omega) (rfl) (by rw [List.drop_zero]; exact hy) (rep_nil) _ _ (hP.sub [0, 1, 2, 3, 4] rfl) (hD.sub [0, 1, 2, 3, 4] (by decide) rfl) hS ls (lv_sub hl [0, 1, 2, 3] rfl)
        · exfalso; omega
      · exfalso; omega
    · exfalso; have h6 := of_decide_eq_false c13; rw [nI_toInt (by omega)] at h6; omega
