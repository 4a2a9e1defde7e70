set_option maxHeartbeats 4000000 in
set_option maxRecDepth 100000 in
theorem m_make (g : G5) (m0 : Nat) (lt : Nat) (er : Nat) (el : Nat) (cm_ : Nat) (sv : Nat) (md : Nat) (fmm : Nat) (lc : Nat) (lz : Nat) (af : Nat) (pt_ : Nat) (oc : Nat) (ty_ : Nat) (sz_ : Nat) (em : Nat) (k : Nat) (n : Nat) (s : List Nat) (h : List (List Nat)) (c : List Nat) (tk : Bool) (k0 : Nat) (n0 : Nat) (s0 : List Nat) (z : List Nat) (p : List Int) (fm_ : Nat → Int32) (x : Nat) (hz : z.length < 256) (hfm : rep fm_ z) : MuV (S := (Nat → Int32)) yX12_make cX12_make 2 none 0 0 g [.ref m0, .int (nI x)] [(m0, .inr (11, [.int (nI k), .int (nI n), .ref lt, .int (nI s.length), .ref er, .ref el, .int (nI h.length), .ref cm_, .int (nI c.length), .int (bI tk), .int (nI k0), .int (nI n0), .ref sv, .int (nI s0.length), .ref md, .int (nI z.length), .ref fmm, .ref lc, .ref lz, .ref af, .ref pt_, .int (nI p.length), .ref oc, .ref ty_, .ref sz_, .ref em])), (md, .inl (g.2.1, 256, .inl fm_))] (fun fm1 => rep fm1 (z ++ [x])) (fun fm1 => [(m0, .inr (11, [.int (nI k), .int (nI n), .ref lt, .int (nI s.length), .ref er, .ref el, .int (nI h.length), .ref cm_, .int (nI c.length), .int (bI tk), .int (nI k0), .int (nI n0), .ref sv, .int (nI s0.length), .ref md, .int (nI ((z ++ [x]).length)), .ref fmm, .ref lc, .ref lz, .ref af, .ref pt_, .int (nI p.length), .ref oc, .ref ty_, .ref sz_, .ref em])), (md, .inl (g.2.1, 256, .inl fm1))]) := by
  refine MuV.of (by decide +kernel) (Nat.le_of_ble_eq_true rfl) ?_
  intro p_ l_ e_ S_ m_ args below meth co X hr hlk hP hK A hA hD hS ls hl
  have X : CallFix p_ m_ co cX12_make 2 S_ args lw_all RX12 := X
  have hl : lv_has ls 2 [(0, .ref m0), (1, .int (nI x))] := hl
  refine lv_aload_n X.1 X.2.1 dX12_make_0 rfl (lv_at hl 0 rfl) ?_
  refine va_get (D := g.1) (ci := 11) (v := .ref md) (C := RX12) (T := TX12) (N := 26) X.1 X.2.1 X.2.2.2.2 iwX12 X.2.2.2.1 hK hP 0 rfl rfl 14 (by decide) (X.2.2.2.2 _ q1034) (fun _ h9 => h9) rfl dX12_make_1 ?_
  refine lv_aload_n X.1 X.2.1 dX12_make_4 rfl (lv_at hl 0 rfl) ?_
  refine va_get (D := g.1) (ci := 11) (v := .int (nI z.length)) (C := RX12) (T := TX12) (N := 26) X.1 X.2.1 X.2.2.2.2 iwX12 X.2.2.2.1 hK hP 0 rfl rfl 15 (by decide) (X.2.2.2.2 _ q1035) (fun _ h9 => h9) rfl dX12_make_5 ?_
  refine lv_iload_n X.1 X.2.1 dX12_make_8 rfl (lv_at hl 1 rfl) ?_
  refine n_iast X hK hP hD hS 1 0 rfl rfl (by omega) (by decide) dX12_make_9 (fun H locs hP hD hS => ?_)
  have hP : PP g [(m0, .inr (11, [.int (nI k), .int (nI n), .ref lt, .int (nI s.length), .ref er, .ref el, .int (nI h.length), .ref cm_, .int (nI c.length), .int (bI tk), .int (nI k0), .int (nI n0), .ref sv, .int (nI s0.length), .ref md, .int (nI z.length), .ref fmm, .ref lc, .ref lz, .ref af, .ref pt_, .int (nI p.length), .ref oc, .ref ty_, .ref sz_, .ref em])), (md, .inl (g.2.1, 256, .inl (upd fm_ z.length (nI x))))] H := hP
  have hD : va_D A [(m0, .inr (11, [.int (nI k), .int (nI n), .ref lt, .int (nI s.length), .ref er, .ref el, .int (nI h.length), .ref cm_, .int (nI c.length), .int (bI tk), .int (nI k0), .int (nI n0), .ref sv, .int (nI s0.length), .ref md, .int (nI z.length), .ref fmm, .ref lc, .ref lz, .ref af, .ref pt_, .int (nI p.length), .ref oc, .ref ty_, .ref sz_, .ref em])), (md, .inl (g.2.1, 256, .inl (upd fm_ z.length (nI x))))] := hD
  refine lv_aload_n X.1 X.2.1 dX12_make_10 rfl (lv_at hl 0 rfl) ?_
  refine lv_dup X.1 X.2.1 dX12_make_11 rfl ?_
  refine va_get (D := g.1) (ci := 11) (v := .int (nI z.length)) (C := RX12) (T := TX12) (N := 26) X.1 X.2.1 X.2.2.2.2 iwX12 X.2.2.2.1 hK hP 0 rfl rfl 15 (by decide) (X.2.2.2.2 _ q1035) (fun _ h9 => h9) rfl dX12_make_12 ?_
  refine lv_iconst (v := (nI 1)) X.1 X.2.1 dX12_make_15 (by decide) ?_
  refine n_add X dX12_make_16 ?_
  refine va_put (D := g.1) (ci := 11) (v := .int (nI (z.length + 1))) (ty := .int) (C := RX12) (T := TX12) (N := 26) X.1 X.2.1 X.2.2.2.2 iwX12 tyX12 tyX12_ok nmX12 X.2.2.2.1 hK hP hD hS 0 rfl rfl 15 (by decide) (X.2.2.2.2 _ q1035) (fun _ h9 => h9) rfl (by decide +kernel) rfl rfl (Nat.le_of_ble_eq_true rfl) dX12_make_17 (fun H locs hP hD hS => ?_)
  have hP : PP g [(m0, .inr (11, [.int (nI k), .int (nI n), .ref lt, .int (nI s.length), .ref er, .ref el, .int (nI h.length), .ref cm_, .int (nI c.length), .int (bI tk), .int (nI k0), .int (nI n0), .ref sv, .int (nI s0.length), .ref md, .int (nI (z.length + 1)), .ref fmm, .ref lc, .ref lz, .ref af, .ref pt_, .int (nI p.length), .ref oc, .ref ty_, .ref sz_, .ref em])), (md, .inl (g.2.1, 256, .inl (upd fm_ z.length (nI x))))] H := hP
  have hD : va_D A [(m0, .inr (11, [.int (nI k), .int (nI n), .ref lt, .int (nI s.length), .ref er, .ref el, .int (nI h.length), .ref cm_, .int (nI c.length), .int (bI tk), .int (nI k0), .int (nI n0), .ref sv, .int (nI s0.length), .ref md, .int (nI (z.length + 1)), .ref fmm, .ref lc, .ref lz, .ref af, .ref pt_, .int (nI p.length), .ref oc, .ref ty_, .ref sz_, .ref em])), (md, .inl (g.2.1, 256, .inl (upd fm_ z.length (nI x))))] := hD
  have hP : PP g [(m0, .inr (11, [.int (nI k), .int (nI n), .ref lt, .int (nI s.length), .ref er, .ref el, .int (nI h.length), .ref cm_, .int (nI c.length), .int (bI tk), .int (nI k0), .int (nI n0), .ref sv, .int (nI s0.length), .ref md, .int (nI ((z ++ [x]).length)), .ref fmm, .ref lc, .ref lz, .ref af, .ref pt_, .int (nI p.length), .ref oc, .ref ty_, .ref sz_, .ref em])), (md, .inl (g.2.1, 256, .inl (upd fm_ z.length (nI x))))] H := by rw [show (z ++ [x]).length = z.length + 1 by simp]; exact hP
  have hD : va_D A [(m0, .inr (11, [.int (nI k), .int (nI n), .ref lt, .int (nI s.length), .ref er, .ref el, .int (nI h.length), .ref cm_, .int (nI c.length), .int (bI tk), .int (nI k0), .int (nI n0), .ref sv, .int (nI s0.length), .ref md, .int (nI ((z ++ [x]).length)), .ref fmm, .ref lc, .ref lz, .ref af, .ref pt_, .int (nI p.length), .ref oc, .ref ty_, .ref sz_, .ref em])), (md, .inl (g.2.1, 256, .inl (upd fm_ z.length (nI x))))] := by rw [show (z ++ [x]).length = z.length + 1 by simp]; exact hD
  exact MuV.ret X hr hlk hK hS dX12_make_20 (upd fm_ z.length (nI x)) (hP.sub [0, 1] rfl) (hD.sub [0, 1] (by decide) rfl) (rep_add hfm x)

set_option maxHeartbeats 4000000 in
set_option maxRecDepth 100000 in
theorem m_begin (g : G5) (m0 : Nat) (lt : Nat) (er : Nat) (el : Nat) (cm_ : Nat) (sv : Nat) (md : Nat) (fmm : Nat) (lc : Nat) (lz : Nat) (af : Nat) (pt_ : Nat) (oc : Nat) (ty_ : Nat) (sz_ : Nat) (em : Nat) (k : Nat) (n : Nat) (s : List Nat) (h : List (List Nat)) (c : List Nat) (tk : Bool) (k0 : Nat) (n0 : Nat) (s0 : List Nat) (z : List Nat) (p : List Int) (f : Nat → Int32) (fm_ : Nat → Int32) (hs : s.length ≤ 256) (hf : rep f s) : MuV (S := (Nat → Int32)) yX12_begin cX12_begin 1 none 1 40 g [.ref m0] [(m0, .inr (11, [.int (nI k), .int (nI n), .ref lt, .int (nI s.length), .ref er, .ref el, .int (nI h.length), .ref cm_, .int (nI c.length), .int (bI tk), .int (nI k0), .int (nI n0), .ref sv, .int (nI s0.length), .ref md, .int (nI z.length), .ref fmm, .ref lc, .ref lz, .ref af, .ref pt_, .int (nI p.length), .ref oc, .ref ty_, .ref sz_, .ref em])), (lt, .inl (g.2.1, 256, .inl f)), (md, .inl (g.2.1, 256, .inl fm_))] (fun fm1 => rep fm1 s) (fun fm1 => [(m0, .inr (11, [.int (nI k), .int (nI n), .ref lt, .int (nI s.length), .ref er, .ref el, .int (nI h.length), .ref cm_, .int (nI c.length), .int (bI tk), .int (nI k0), .int (nI n0), .ref sv, .int (nI s0.length), .ref md, .int (nI s.length), .ref fmm, .ref lc, .ref lz, .ref af, .ref pt_, .int (nI p.length), .ref oc, .ref ty_, .ref sz_, .ref em])), (lt, .inl (g.2.1, 256, .inl f)), (md, .inl (g.2.1, 256, .inl fm1))]) := by
  refine MuV.of (by decide +kernel) (Nat.le_of_ble_eq_true rfl) ?_
  intro p_ l_ e_ S_ m_ args below meth co X hr hlk hP hK A hA hD hS ls hl
  have X : CallFix p_ m_ co cX12_begin 1 S_ args lw_all RX12 := X
  have hl : lv_has ls 1 [(0, .ref m0)] := hl
  refine lv_aload_n X.1 X.2.1 dX12_begin_0 rfl (lv_at hl 0 rfl) ?_
  refine va_get (D := g.1) (ci := 11) (v := .ref lt) (C := RX12) (T := TX12) (N := 26) X.1 X.2.1 X.2.2.2.2 iwX12 X.2.2.2.1 hK hP 0 rfl rfl 2 (by decide) (X.2.2.2.2 _ q1022) (fun _ h9 => h9) rfl dX12_begin_1 ?_
  refine lv_iconst (v := (nI 0)) X.1 X.2.1 dX12_begin_4 (by decide) ?_
  refine lv_aload_n X.1 X.2.1 dX12_begin_5 rfl (lv_at hl 0 rfl) ?_
  refine va_get (D := g.1) (ci := 11) (v := .ref md) (C := RX12) (T := TX12) (N := 26) X.1 X.2.1 X.2.2.2.2 iwX12 X.2.2.2.1 hK hP 0 rfl rfl 14 (by decide) (X.2.2.2.2 _ q1034) (fun _ h9 => h9) rfl dX12_begin_6 ?_
  refine lv_iconst (v := (nI 0)) X.1 X.2.1 dX12_begin_9 (by decide) ?_
  refine lv_aload_n X.1 X.2.1 dX12_begin_10 rfl (lv_at hl 0 rfl) ?_
  refine va_get (D := g.1) (ci := 11) (v := .int (nI s.length)) (C := RX12) (T := TX12) (N := 26) X.1 X.2.1 X.2.2.2.2 iwX12 X.2.2.2.1 hK hP 0 rfl rfl 3 (by decide) (X.2.2.2.2 _ q1023) (fun _ h9 => h9) rfl dX12_begin_11 ?_
  refine n_copy (rest := []) X q1198 q478 q477 q66 hl.1 hK hP hD hS 1 2 rfl rfl (by omega) (by omega) (by omega) (by omega) (Nat.le_of_ble_eq_true rfl) (by decide) dX12_begin_14 (fun H locs hP hD hS => ?_)
  have hP : PP g [(m0, .inr (11, [.int (nI k), .int (nI n), .ref lt, .int (nI s.length), .ref er, .ref el, .int (nI h.length), .ref cm_, .int (nI c.length), .int (bI tk), .int (nI k0), .int (nI n0), .ref sv, .int (nI s0.length), .ref md, .int (nI z.length), .ref fmm, .ref lc, .ref lz, .ref af, .ref pt_, .int (nI p.length), .ref oc, .ref ty_, .ref sz_, .ref em])), (lt, .inl (g.2.1, 256, .inl f)), (md, .inl (g.2.1, 256, .inl (va_cpy f fm_ 0 0 s.length)))] H := hP
  have hD : va_D A [(m0, .inr (11, [.int (nI k), .int (nI n), .ref lt, .int (nI s.length), .ref er, .ref el, .int (nI h.length), .ref cm_, .int (nI c.length), .int (bI tk), .int (nI k0), .int (nI n0), .ref sv, .int (nI s0.length), .ref md, .int (nI z.length), .ref fmm, .ref lc, .ref lz, .ref af, .ref pt_, .int (nI p.length), .ref oc, .ref ty_, .ref sz_, .ref em])), (lt, .inl (g.2.1, 256, .inl f)), (md, .inl (g.2.1, 256, .inl (va_cpy f fm_ 0 0 s.length)))] := hD
  refine lv_aload_n X.1 X.2.1 dX12_begin_17 rfl (lv_at hl 0 rfl) ?_
  refine lv_aload_n X.1 X.2.1 dX12_begin_18 rfl (lv_at hl 0 rfl) ?_
  refine va_get (D := g.1) (ci := 11) (v := .int (nI s.length)) (C := RX12) (T := TX12) (N := 26) X.1 X.2.1 X.2.2.2.2 iwX12 X.2.2.2.1 hK hP 0 rfl rfl 3 (by decide) (X.2.2.2.2 _ q1023) (fun _ h9 => h9) rfl dX12_begin_19 ?_
  refine va_put (D := g.1) (ci := 11) (v := .int (nI s.length)) (ty := .int) (C := RX12) (T := TX12) (N := 26) X.1 X.2.1 X.2.2.2.2 iwX12 tyX12 tyX12_ok nmX12 X.2.2.2.1 hK hP hD hS 0 rfl rfl 15 (by decide) (X.2.2.2.2 _ q1035) (fun _ h9 => h9) rfl (by decide +kernel) rfl rfl (Nat.le_of_ble_eq_true rfl) dX12_begin_22 (fun H locs hP hD hS => ?_)
  have hP : PP g [(m0, .inr (11, [.int (nI k), .int (nI n), .ref lt, .int (nI s.length), .ref er, .ref el, .int (nI h.length), .ref cm_, .int (nI c.length), .int (bI tk), .int (nI k0), .int (nI n0), .ref sv, .int (nI s0.length), .ref md, .int (nI s.length), .ref fmm, .ref lc, .ref lz, .ref af, .ref pt_, .int (nI p.length), .ref oc, .ref ty_, .ref sz_, .ref em])), (lt, .inl (g.2.1, 256, .inl f)), (md, .inl (g.2.1, 256, .inl (va_cpy f fm_ 0 0 s.length)))] H := hP
  have hD : va_D A [(m0, .inr (11, [.int (nI k), .int (nI n), .ref lt, .int (nI s.length), .ref er, .ref el, .int (nI h.length), .ref cm_, .int (nI c.length), .int (bI tk), .int (nI k0), .int (nI n0), .ref sv, .int (nI s0.length), .ref md, .int (nI s.length), .ref fmm, .ref lc, .ref lz, .ref af, .ref pt_, .int (nI p.length), .ref oc, .ref ty_, .ref sz_, .ref em])), (lt, .inl (g.2.1, 256, .inl f)), (md, .inl (g.2.1, 256, .inl (va_cpy f fm_ 0 0 s.length)))] := hD
  exact MuV.ret X hr hlk hK hS dX12_begin_25 (va_cpy f fm_ 0 0 s.length) (hP.sub [0, 1, 2] rfl) (hD.sub [0, 1, 2] (by decide) rfl) (cpy_rep hf)

set_option maxHeartbeats 4000000 in
set_option maxRecDepth 100000 in
theorem m_edit (g : G5) (m0 : Nat) (lt : Nat) (er : Nat) (el : Nat) (cm_ : Nat) (sv : Nat) (md : Nat) (fmm : Nat) (lc : Nat) (lz : Nat) (af : Nat) (pt_ : Nat) (oc : Nat) (ty_ : Nat) (sz_ : Nat) (em : Nat) (k : Nat) (n : Nat) (s : List Nat) (h : List (List Nat)) (c : List Nat) (tk : Bool) (k0 : Nat) (n0 : Nat) (s0 : List Nat) (z : List Nat) (p : List Int) (f : Nat → Int32) (fe : Nat → Int32) (fl : Nat → Int32) (fm_ : Nat → Int32) (hs : s.length ≤ 256) (hf : rep f s) (hz : z.length ≤ 256) (hfm : rep fm_ z) (hh : hrm fe fl h) : MuV (S := (Nat → Int32) × (Nat → Int32) × (Nat → Int32)) yX12_edit cX12_edit 2 none 1 40 g [.ref m0] [(m0, .inr (11, [.int (nI k), .int (nI n), .ref lt, .int (nI s.length), .ref er, .ref el, .int (nI h.length), .ref cm_, .int (nI c.length), .int (bI tk), .int (nI k0), .int (nI n0), .ref sv, .int (nI s0.length), .ref md, .int (nI z.length), .ref fmm, .ref lc, .ref lz, .ref af, .ref pt_, .int (nI p.length), .ref oc, .ref ty_, .ref sz_, .ref em])), (lt, .inl (g.2.1, 256, .inl f)), (er, .inl (g.2.1, 1536, .inl fe)), (el, .inl (g.2.1, 6, .inl fl)), (md, .inl (g.2.1, 256, .inl fm_))] (fun u => rep u.1 z ∧ hrm u.2.1 u.2.2 ((s :: h).take 6)) (fun u => [(m0, .inr (11, [.int (nI k), .int (nI n), .ref lt, .int (nI z.length), .ref er, .ref el, .int (nI (((s :: h).take 6).length)), .ref cm_, .int (nI c.length), .int (bI tk), .int (nI k0), .int (nI n0), .ref sv, .int (nI s0.length), .ref md, .int (nI z.length), .ref fmm, .ref lc, .ref lz, .ref af, .ref pt_, .int (nI p.length), .ref oc, .ref ty_, .ref sz_, .ref em])), (lt, .inl (g.2.1, 256, .inl u.1)), (er, .inl (g.2.1, 1536, .inl u.2.1)), (el, .inl (g.2.1, 6, .inl u.2.2)), (md, .inl (g.2.1, 256, .inl fm_))]) := by
  refine MuV.of (by decide +kernel) (Nat.le_of_ble_eq_true rfl) ?_
  intro p_ l_ e_ S_ m_ args below meth co X hr hlk hP hK A hA hD hS ls hl
  have X : CallFix p_ m_ co cX12_edit 2 S_ args lw_all RX12 := X
  have hl : lv_has ls 2 [(0, .ref m0)] := hl
  have hh6 := hh.1
  refine lv_aload_n X.1 X.2.1 dX12_edit_0 rfl (lv_at hl 0 rfl) ?_
  refine va_get (D := g.1) (ci := 11) (v := .int (nI h.length)) (C := RX12) (T := TX12) (N := 26) X.1 X.2.1 X.2.2.2.2 iwX12 X.2.2.2.1 hK hP 0 rfl rfl 6 (by decide) (X.2.2.2.2 _ q1026) (fun _ h9 => h9) rfl dX12_edit_1 ?_
  refine lv_bipush (v := (nI 6)) X.1 X.2.1 dX12_edit_4 (by decide) ?_
  refine z_icmp_ne (tgt := 73) X dX12_edit_6 (by decide) (nI_toInt (by omega)) (nI_toInt (by omega)) (fun c6 => ?_) (fun c6 => ?_)
  · refine lv_aload_n X.1 X.2.1 dX12_edit_73 rfl (lv_at hl 0 rfl) ?_
    refine va_get (D := g.1) (ci := 11) (v := .ref lt) (C := RX12) (T := TX12) (N := 26) X.1 X.2.1 X.2.2.2.2 iwX12 X.2.2.2.1 hK hP 0 rfl rfl 2 (by decide) (X.2.2.2.2 _ q1022) (fun _ h9 => h9) rfl dX12_edit_74 ?_
    refine lv_iconst (v := (nI 0)) X.1 X.2.1 dX12_edit_77 (by decide) ?_
    refine lv_aload_n X.1 X.2.1 dX12_edit_78 rfl (lv_at hl 0 rfl) ?_
    refine va_get (D := g.1) (ci := 11) (v := .ref er) (C := RX12) (T := TX12) (N := 26) X.1 X.2.1 X.2.2.2.2 iwX12 X.2.2.2.1 hK hP 0 rfl rfl 4 (by decide) (X.2.2.2.2 _ q1024) (fun _ h9 => h9) rfl dX12_edit_79 ?_
    refine lv_sipush (v := (nI 256)) X.1 X.2.1 dX12_edit_82 (by decide) ?_
    refine lv_aload_n X.1 X.2.1 dX12_edit_85 rfl (lv_at hl 0 rfl) ?_
    refine va_get (D := g.1) (ci := 11) (v := .int (nI h.length)) (C := RX12) (T := TX12) (N := 26) X.1 X.2.1 X.2.2.2.2 iwX12 X.2.2.2.1 hK hP 0 rfl rfl 6 (by decide) (X.2.2.2.2 _ q1026) (fun _ h9 => h9) rfl dX12_edit_86 ?_
    refine n_mul X dX12_edit_89 ?_
    refine lv_aload_n X.1 X.2.1 dX12_edit_90 rfl (lv_at hl 0 rfl) ?_
    refine va_get (D := g.1) (ci := 11) (v := .int (nI s.length)) (C := RX12) (T := TX12) (N := 26) X.1 X.2.1 X.2.2.2.2 iwX12 X.2.2.2.1 hK hP 0 rfl rfl 3 (by decide) (X.2.2.2.2 _ q1023) (fun _ h9 => h9) rfl dX12_edit_91 ?_
    refine n_copy (rest := []) X q1198 q478 q477 q66 hl.1 hK hP hD hS 1 2 rfl rfl (by omega) (by omega) (by omega) (by omega) (Nat.le_of_ble_eq_true rfl) (by decide) dX12_edit_94 (fun H locs hP hD hS => ?_)
    have hP : PP g [(m0, .inr (11, [.int (nI k), .int (nI n), .ref lt, .int (nI s.length), .ref er, .ref el, .int (nI h.length), .ref cm_, .int (nI c.length), .int (bI tk), .int (nI k0), .int (nI n0), .ref sv, .int (nI s0.length), .ref md, .int (nI z.length), .ref fmm, .ref lc, .ref lz, .ref af, .ref pt_, .int (nI p.length), .ref oc, .ref ty_, .ref sz_, .ref em])), (lt, .inl (g.2.1, 256, .inl f)), (er, .inl (g.2.1, 1536, .inl (va_cpy f fe 0 (256 * h.length) s.length))), (el, .inl (g.2.1, 6, .inl fl)), (md, .inl (g.2.1, 256, .inl fm_))] H := hP
    have hD : va_D A [(m0, .inr (11, [.int (nI k), .int (nI n), .ref lt, .int (nI s.length), .ref er, .ref el, .int (nI h.length), .ref cm_, .int (nI c.length), .int (bI tk), .int (nI k0), .int (nI n0), .ref sv, .int (nI s0.length), .ref md, .int (nI z.length), .ref fmm, .ref lc, .ref lz, .ref af, .ref pt_, .int (nI p.length), .ref oc, .ref ty_, .ref sz_, .ref em])), (lt, .inl (g.2.1, 256, .inl f)), (er, .inl (g.2.1, 1536, .inl (va_cpy f fe 0 (256 * h.length) s.length))), (el, .inl (g.2.1, 6, .inl fl)), (md, .inl (g.2.1, 256, .inl fm_))] := hD
    refine lv_aload_n X.1 X.2.1 dX12_edit_97 rfl (lv_at hl 0 rfl) ?_
    refine va_get (D := g.1) (ci := 11) (v := .ref el) (C := RX12) (T := TX12) (N := 26) X.1 X.2.1 X.2.2.2.2 iwX12 X.2.2.2.1 hK hP 0 rfl rfl 5 (by decide) (X.2.2.2.2 _ q1025) (fun _ h9 => h9) rfl dX12_edit_98 ?_
    refine lv_aload_n X.1 X.2.1 dX12_edit_101 rfl (lv_at hl 0 rfl) ?_
    refine va_get (D := g.1) (ci := 11) (v := .int (nI h.length)) (C := RX12) (T := TX12) (N := 26) X.1 X.2.1 X.2.2.2.2 iwX12 X.2.2.2.1 hK hP 0 rfl rfl 6 (by decide) (X.2.2.2.2 _ q1026) (fun _ h9 => h9) rfl dX12_edit_102 ?_
    refine lv_aload_n X.1 X.2.1 dX12_edit_105 rfl (lv_at hl 0 rfl) ?_
    refine va_get (D := g.1) (ci := 11) (v := .int (nI s.length)) (C := RX12) (T := TX12) (N := 26) X.1 X.2.1 X.2.2.2.2 iwX12 X.2.2.2.1 hK hP 0 rfl rfl 3 (by decide) (X.2.2.2.2 _ q1023) (fun _ h9 => h9) rfl dX12_edit_106 ?_
    refine n_iast X hK hP hD hS 3 0 rfl rfl (by omega) (by decide) dX12_edit_109 (fun H locs hP hD hS => ?_)
    have hP : PP g [(m0, .inr (11, [.int (nI k), .int (nI n), .ref lt, .int (nI s.length), .ref er, .ref el, .int (nI h.length), .ref cm_, .int (nI c.length), .int (bI tk), .int (nI k0), .int (nI n0), .ref sv, .int (nI s0.length), .ref md, .int (nI z.length), .ref fmm, .ref lc, .ref lz, .ref af, .ref pt_, .int (nI p.length), .ref oc, .ref ty_, .ref sz_, .ref em])), (lt, .inl (g.2.1, 256, .inl f)), (er, .inl (g.2.1, 1536, .inl (va_cpy f fe 0 (256 * h.length) s.length))), (el, .inl (g.2.1, 6, .inl (upd fl h.length (nI s.length)))), (md, .inl (g.2.1, 256, .inl fm_))] H := hP
    have hD : va_D A [(m0, .inr (11, [.int (nI k), .int (nI n), .ref lt, .int (nI s.length), .ref er, .ref el, .int (nI h.length), .ref cm_, .int (nI c.length), .int (bI tk), .int (nI k0), .int (nI n0), .ref sv, .int (nI s0.length), .ref md, .int (nI z.length), .ref fmm, .ref lc, .ref lz, .ref af, .ref pt_, .int (nI p.length), .ref oc, .ref ty_, .ref sz_, .ref em])), (lt, .inl (g.2.1, 256, .inl f)), (er, .inl (g.2.1, 1536, .inl (va_cpy f fe 0 (256 * h.length) s.length))), (el, .inl (g.2.1, 6, .inl (upd fl h.length (nI s.length)))), (md, .inl (g.2.1, 256, .inl fm_))] := hD
    refine lv_aload_n X.1 X.2.1 dX12_edit_110 rfl (lv_at hl 0 rfl) ?_
    refine lv_dup X.1 X.2.1 dX12_edit_111 rfl ?_
    refine va_get (D := g.1) (ci := 11) (v := .int (nI h.length)) (C := RX12) (T := TX12) (N := 26) X.1 X.2.1 X.2.2.2.2 iwX12 X.2.2.2.1 hK hP 0 rfl rfl 6 (by decide) (X.2.2.2.2 _ q1026) (fun _ h9 => h9) rfl dX12_edit_112 ?_
    refine lv_iconst (v := (nI 1)) X.1 X.2.1 dX12_edit_115 (by decide) ?_
    refine n_add X dX12_edit_116 ?_
    refine va_put (D := g.1) (ci := 11) (v := .int (nI (h.length + 1))) (ty := .int) (C := RX12) (T := TX12) (N := 26) X.1 X.2.1 X.2.2.2.2 iwX12 tyX12 tyX12_ok nmX12 X.2.2.2.1 hK hP hD hS 0 rfl rfl 6 (by decide) (X.2.2.2.2 _ q1026) (fun _ h9 => h9) rfl (by decide +kernel) rfl rfl (Nat.le_of_ble_eq_true rfl) dX12_edit_117 (fun H locs hP hD hS => ?_)
    have hP : PP g [(m0, .inr (11, [.int (nI k), .int (nI n), .ref lt, .int (nI s.length), .ref er, .ref el, .int (nI (h.length + 1)), .ref cm_, .int (nI c.length), .int (bI tk), .int (nI k0), .int (nI n0), .ref sv, .int (nI s0.length), .ref md, .int (nI z.length), .ref fmm, .ref lc, .ref lz, .ref af, .ref pt_, .int (nI p.length), .ref oc, .ref ty_, .ref sz_, .ref em])), (lt, .inl (g.2.1, 256, .inl f)), (er, .inl (g.2.1, 1536, .inl (va_cpy f fe 0 (256 * h.length) s.length))), (el, .inl (g.2.1, 6, .inl (upd fl h.length (nI s.length)))), (md, .inl (g.2.1, 256, .inl fm_))] H := hP
    have hD : va_D A [(m0, .inr (11, [.int (nI k), .int (nI n), .ref lt, .int (nI s.length), .ref er, .ref el, .int (nI (h.length + 1)), .ref cm_, .int (nI c.length), .int (bI tk), .int (nI k0), .int (nI n0), .ref sv, .int (nI s0.length), .ref md, .int (nI z.length), .ref fmm, .ref lc, .ref lz, .ref af, .ref pt_, .int (nI p.length), .ref oc, .ref ty_, .ref sz_, .ref em])), (lt, .inl (g.2.1, 256, .inl f)), (er, .inl (g.2.1, 1536, .inl (va_cpy f fe 0 (256 * h.length) s.length))), (el, .inl (g.2.1, 6, .inl (upd fl h.length (nI s.length)))), (md, .inl (g.2.1, 256, .inl fm_))] := hD
    refine lv_aload_n X.1 X.2.1 dX12_edit_120 rfl (lv_at hl 0 rfl) ?_
    refine va_get (D := g.1) (ci := 11) (v := .ref md) (C := RX12) (T := TX12) (N := 26) X.1 X.2.1 X.2.2.2.2 iwX12 X.2.2.2.1 hK hP 0 rfl rfl 14 (by decide) (X.2.2.2.2 _ q1034) (fun _ h9 => h9) rfl dX12_edit_121 ?_
    refine lv_iconst (v := (nI 0)) X.1 X.2.1 dX12_edit_124 (by decide) ?_
    refine lv_aload_n X.1 X.2.1 dX12_edit_125 rfl (lv_at hl 0 rfl) ?_
    refine va_get (D := g.1) (ci := 11) (v := .ref lt) (C := RX12) (T := TX12) (N := 26) X.1 X.2.1 X.2.2.2.2 iwX12 X.2.2.2.1 hK hP 0 rfl rfl 2 (by decide) (X.2.2.2.2 _ q1022) (fun _ h9 => h9) rfl dX12_edit_126 ?_
    refine lv_iconst (v := (nI 0)) X.1 X.2.1 dX12_edit_129 (by decide) ?_
    refine lv_aload_n X.1 X.2.1 dX12_edit_130 rfl (lv_at hl 0 rfl) ?_
    refine va_get (D := g.1) (ci := 11) (v := .int (nI z.length)) (C := RX12) (T := TX12) (N := 26) X.1 X.2.1 X.2.2.2.2 iwX12 X.2.2.2.1 hK hP 0 rfl rfl 15 (by decide) (X.2.2.2.2 _ q1035) (fun _ h9 => h9) rfl dX12_edit_131 ?_
    refine n_copy (rest := []) X q1198 q478 q477 q66 hl.1 hK hP hD hS 4 1 rfl rfl (by omega) (by omega) (by omega) (by omega) (Nat.le_of_ble_eq_true rfl) (by decide) dX12_edit_134 (fun H locs hP hD hS => ?_)
    have hP : PP g [(m0, .inr (11, [.int (nI k), .int (nI n), .ref lt, .int (nI s.length), .ref er, .ref el, .int (nI (h.length + 1)), .ref cm_, .int (nI c.length), .int (bI tk), .int (nI k0), .int (nI n0), .ref sv, .int (nI s0.length), .ref md, .int (nI z.length), .ref fmm, .ref lc, .ref lz, .ref af, .ref pt_, .int (nI p.length), .ref oc, .ref ty_, .ref sz_, .ref em])), (lt, .inl (g.2.1, 256, .inl (va_cpy fm_ f 0 0 z.length))), (er, .inl (g.2.1, 1536, .inl (va_cpy f fe 0 (256 * h.length) s.length))), (el, .inl (g.2.1, 6, .inl (upd fl h.length (nI s.length)))), (md, .inl (g.2.1, 256, .inl fm_))] H := hP
    have hD : va_D A [(m0, .inr (11, [.int (nI k), .int (nI n), .ref lt, .int (nI s.length), .ref er, .ref el, .int (nI (h.length + 1)), .ref cm_, .int (nI c.length), .int (bI tk), .int (nI k0), .int (nI n0), .ref sv, .int (nI s0.length), .ref md, .int (nI z.length), .ref fmm, .ref lc, .ref lz, .ref af, .ref pt_, .int (nI p.length), .ref oc, .ref ty_, .ref sz_, .ref em])), (lt, .inl (g.2.1, 256, .inl (va_cpy fm_ f 0 0 z.length))), (er, .inl (g.2.1, 1536, .inl (va_cpy f fe 0 (256 * h.length) s.length))), (el, .inl (g.2.1, 6, .inl (upd fl h.length (nI s.length)))), (md, .inl (g.2.1, 256, .inl fm_))] := hD
    refine lv_aload_n X.1 X.2.1 dX12_edit_137 rfl (lv_at hl 0 rfl) ?_
    refine lv_aload_n X.1 X.2.1 dX12_edit_138 rfl (lv_at hl 0 rfl) ?_
    refine va_get (D := g.1) (ci := 11) (v := .int (nI z.length)) (C := RX12) (T := TX12) (N := 26) X.1 X.2.1 X.2.2.2.2 iwX12 X.2.2.2.1 hK hP 0 rfl rfl 15 (by decide) (X.2.2.2.2 _ q1035) (fun _ h9 => h9) rfl dX12_edit_139 ?_
    refine va_put (D := g.1) (ci := 11) (v := .int (nI z.length)) (ty := .int) (C := RX12) (T := TX12) (N := 26) X.1 X.2.1 X.2.2.2.2 iwX12 tyX12 tyX12_ok nmX12 X.2.2.2.1 hK hP hD hS 0 rfl rfl 3 (by decide) (X.2.2.2.2 _ q1023) (fun _ h9 => h9) rfl (by decide +kernel) rfl rfl (Nat.le_of_ble_eq_true rfl) dX12_edit_142 (fun H locs hP hD hS => ?_)
    have hP : PP g [(m0, .inr (11, [.int (nI k), .int (nI n), .ref lt, .int (nI z.length), .ref er, .ref el, .int (nI (h.length + 1)), .ref cm_, .int (nI c.length), .int (bI tk), .int (nI k0), .int (nI n0), .ref sv, .int (nI s0.length), .ref md, .int (nI z.length), .ref fmm, .ref lc, .ref lz, .ref af, .ref pt_, .int (nI p.length), .ref oc, .ref ty_, .ref sz_, .ref em])), (lt, .inl (g.2.1, 256, .inl (va_cpy fm_ f 0 0 z.length))), (er, .inl (g.2.1, 1536, .inl (va_cpy f fe 0 (256 * h.length) s.length))), (el, .inl (g.2.1, 6, .inl (upd fl h.length (nI s.length)))), (md, .inl (g.2.1, 256, .inl fm_))] H := hP
    have hD : va_D A [(m0, .inr (11, [.int (nI k), .int (nI n), .ref lt, .int (nI z.length), .ref er, .ref el, .int (nI (h.length + 1)), .ref cm_, .int (nI c.length), .int (bI tk), .int (nI k0), .int (nI n0), .ref sv, .int (nI s0.length), .ref md, .int (nI z.length), .ref fmm, .ref lc, .ref lz, .ref af, .ref pt_, .int (nI p.length), .ref oc, .ref ty_, .ref sz_, .ref em])), (lt, .inl (g.2.1, 256, .inl (va_cpy fm_ f 0 0 z.length))), (er, .inl (g.2.1, 1536, .inl (va_cpy f fe 0 (256 * h.length) s.length))), (el, .inl (g.2.1, 6, .inl (upd fl h.length (nI s.length)))), (md, .inl (g.2.1, 256, .inl fm_))] := hD
    have hP : PP g [(m0, .inr (11, [.int (nI k), .int (nI n), .ref lt, .int (nI z.length), .ref er, .ref el, .int (nI (((s :: h).take 6).length)), .ref cm_, .int (nI c.length), .int (bI tk), .int (nI k0), .int (nI n0), .ref sv, .int (nI s0.length), .ref md, .int (nI z.length), .ref fmm, .ref lc, .ref lz, .ref af, .ref pt_, .int (nI p.length), .ref oc, .ref ty_, .ref sz_, .ref em])), (lt, .inl (g.2.1, 256, .inl (va_cpy fm_ f 0 0 z.length))), (er, .inl (g.2.1, 1536, .inl (va_cpy f fe 0 (256 * h.length) s.length))), (el, .inl (g.2.1, 6, .inl (upd fl h.length (nI s.length)))), (md, .inl (g.2.1, 256, .inl fm_))] H := by rw [← take6 (by omega)]; exact hP
    have hD : va_D A [(m0, .inr (11, [.int (nI k), .int (nI n), .ref lt, .int (nI z.length), .ref er, .ref el, .int (nI (((s :: h).take 6).length)), .ref cm_, .int (nI c.length), .int (bI tk), .int (nI k0), .int (nI n0), .ref sv, .int (nI s0.length), .ref md, .int (nI z.length), .ref fmm, .ref lc, .ref lz, .ref af, .ref pt_, .int (nI p.length), .ref oc, .ref ty_, .ref sz_, .ref em])), (lt, .inl (g.2.1, 256, .inl (va_cpy fm_ f 0 0 z.length))), (er, .inl (g.2.1, 1536, .inl (va_cpy f fe 0 (256 * h.length) s.length))), (el, .inl (g.2.1, 6, .inl (upd fl h.length (nI s.length)))), (md, .inl (g.2.1, 256, .inl fm_))] := by rw [← take6 (by omega)]; exact hD
    exact MuV.ret X hr hlk hK hS dX12_edit_145 (va_cpy fm_ f 0 0 z.length, va_cpy f fe 0 (256 * h.length) s.length, upd fl h.length (nI s.length)) (hP.sub [0, 1, 2, 3, 4] rfl) (hD.sub [0, 1, 2, 3, 4] (by decide) rfl) (⟨cpy_rep hfm, by rw [← take6 (by omega)]; exact hrm_add hh (by omega) hf hs⟩)
  · refine lv_iconst (v := (nI 1)) X.1 X.2.1 dX12_edit_9 (by decide) ?_
    refine lv_istore_n (lv' := [(1, .int (nI 1)), (0, .ref m0)]) X.1 X.2.1 dX12_edit_10 rfl hl (by decide) rfl (fun ls hl => ?_)
    have L11 : ∀ (r : Nat) (i : Nat) (fe1 : Nat → Int32) (fl1 : Nat → Int32) (h1 : i + r = 6) (h2 : 1 ≤ i) (hsh : shI i fe fe1 fl fl1) (H : Heap) (locs : List Loc) (hP : PP g [(m0, .inr (11, [.int (nI k), .int (nI n), .ref lt, .int (nI s.length), .ref er, .ref el, .int (nI h.length), .ref cm_, .int (nI c.length), .int (bI tk), .int (nI k0), .int (nI n0), .ref sv, .int (nI s0.length), .ref md, .int (nI z.length), .ref fmm, .ref lc, .ref lz, .ref af, .ref pt_, .int (nI p.length), .ref oc, .ref ty_, .ref sz_, .ref em])), (lt, .inl (g.2.1, 256, .inl f)), (er, .inl (g.2.1, 1536, .inl fe1)), (el, .inl (g.2.1, 6, .inl fl1)), (md, .inl (g.2.1, 256, .inl fm_))] H) (hD : va_D A [(m0, .inr (11, [.int (nI k), .int (nI n), .ref lt, .int (nI s.length), .ref er, .ref el, .int (nI h.length), .ref cm_, .int (nI c.length), .int (bI tk), .int (nI k0), .int (nI n0), .ref sv, .int (nI s0.length), .ref md, .int (nI z.length), .ref fmm, .ref lc, .ref lz, .ref af, .ref pt_, .int (nI p.length), .ref oc, .ref ty_, .ref sz_, .ref em])), (lt, .inl (g.2.1, 256, .inl f)), (er, .inl (g.2.1, 1536, .inl fe1)), (el, .inl (g.2.1, 6, .inl fl1)), (md, .inl (g.2.1, 256, .inl fm_))]) (hS : va_S A S_.heap H locs) (ls : Array Slot) (hl : lv_has ls 2 [(1, .int (nI i)), (0, .ref m0)]), W p_ l_ e_ { frames := 1, cells := 0, slots := 0, locals := 40 } S_ m_ args below meth co H locs 0 0 (MQ below (va_Qv (S := (Nat → Int32) × (Nat → Int32) × (Nat → Int32)) (fun u => rep u.1 z ∧ hrm u.2.1 u.2.2 ((s :: h).take 6)) (MuB g A (fun u => [(m0, .inr (11, [.int (nI k), .int (nI n), .ref lt, .int (nI z.length), .ref er, .ref el, .int (nI (((s :: h).take 6).length)), .ref cm_, .int (nI c.length), .int (bI tk), .int (nI k0), .int (nI n0), .ref sv, .int (nI s0.length), .ref md, .int (nI z.length), .ref fmm, .ref lc, .ref lz, .ref af, .ref pt_, .int (nI p.length), .ref oc, .ref ty_, .ref sz_, .ref em])), (lt, .inl (g.2.1, 256, .inl u.1)), (er, .inl (g.2.1, 1536, .inl u.2.1)), (el, .inl (g.2.1, 6, .inl u.2.2)), (md, .inl (g.2.1, 256, .inl fm_))])) A) args S_ 0 0 A) (F0 m_ 11 ls []) := by
      intro r
      induction r with
      | zero =>
        intro i fe1 fl1 h1 h2 hsh H locs hP hD hS ls hl
        have h16 : i = 6 := by omega
        refine lv_iload_n X.1 X.2.1 dX12_edit_11 rfl (lv_at hl 0 rfl) ?_
        refine lv_bipush (v := (nI 6)) X.1 X.2.1 dX12_edit_12 (by decide) ?_
        refine z_icmp_ge (tgt := 63) X dX12_edit_14 (by decide) (nI_toInt (by omega)) (nI_toInt (by omega)) (fun c14 => ?_) (fun c14 => ?_)
        · refine lv_aload_n X.1 X.2.1 dX12_edit_63 rfl (lv_at hl 1 rfl) ?_
          refine lv_dup X.1 X.2.1 dX12_edit_64 rfl ?_
          refine va_get (D := g.1) (ci := 11) (v := .int (nI h.length)) (C := RX12) (T := TX12) (N := 26) X.1 X.2.1 X.2.2.2.2 iwX12 X.2.2.2.1 hK hP 0 rfl rfl 6 (by decide) (X.2.2.2.2 _ q1026) (fun _ h9 => h9) rfl dX12_edit_65 ?_
          refine lv_iconst (v := (nI 1)) X.1 X.2.1 dX12_edit_68 (by decide) ?_
          refine n_sub X dX12_edit_69 (by omega) ?_
          refine va_put (D := g.1) (ci := 11) (v := .int (nI (h.length - 1))) (ty := .int) (C := RX12) (T := TX12) (N := 26) X.1 X.2.1 X.2.2.2.2 iwX12 tyX12 tyX12_ok nmX12 X.2.2.2.1 hK hP hD hS 0 rfl rfl 6 (by decide) (X.2.2.2.2 _ q1026) (fun _ h9 => h9) rfl (by decide +kernel) rfl rfl (Nat.le_of_ble_eq_true rfl) dX12_edit_70 (fun H locs hP hD hS => ?_)
          have hP : PP g [(m0, .inr (11, [.int (nI k), .int (nI n), .ref lt, .int (nI s.length), .ref er, .ref el, .int (nI (h.length - 1)), .ref cm_, .int (nI c.length), .int (bI tk), .int (nI k0), .int (nI n0), .ref sv, .int (nI s0.length), .ref md, .int (nI z.length), .ref fmm, .ref lc, .ref lz, .ref af, .ref pt_, .int (nI p.length), .ref oc, .ref ty_, .ref sz_, .ref em])), (lt, .inl (g.2.1, 256, .inl f)), (er, .inl (g.2.1, 1536, .inl fe1)), (el, .inl (g.2.1, 6, .inl fl1)), (md, .inl (g.2.1, 256, .inl fm_))] H := hP
          have hD : va_D A [(m0, .inr (11, [.int (nI k), .int (nI n), .ref lt, .int (nI s.length), .ref er, .ref el, .int (nI (h.length - 1)), .ref cm_, .int (nI c.length), .int (bI tk), .int (nI k0), .int (nI n0), .ref sv, .int (nI s0.length), .ref md, .int (nI z.length), .ref fmm, .ref lc, .ref lz, .ref af, .ref pt_, .int (nI p.length), .ref oc, .ref ty_, .ref sz_, .ref em])), (lt, .inl (g.2.1, 256, .inl f)), (er, .inl (g.2.1, 1536, .inl fe1)), (el, .inl (g.2.1, 6, .inl fl1)), (md, .inl (g.2.1, 256, .inl fm_))] := hD
          have h5 : (h.take 5).length = h.length - 1 := by rw [List.length_take]; omega
          have hP : PP g [(m0, .inr (11, [.int (nI k), .int (nI n), .ref lt, .int (nI s.length), .ref er, .ref el, .int (nI ((h.take 5).length)), .ref cm_, .int (nI c.length), .int (bI tk), .int (nI k0), .int (nI n0), .ref sv, .int (nI s0.length), .ref md, .int (nI z.length), .ref fmm, .ref lc, .ref lz, .ref af, .ref pt_, .int (nI p.length), .ref oc, .ref ty_, .ref sz_, .ref em])), (lt, .inl (g.2.1, 256, .inl f)), (er, .inl (g.2.1, 1536, .inl fe1)), (el, .inl (g.2.1, 6, .inl fl1)), (md, .inl (g.2.1, 256, .inl fm_))] H := by rw [h5]; exact hP
          have hD : va_D A [(m0, .inr (11, [.int (nI k), .int (nI n), .ref lt, .int (nI s.length), .ref er, .ref el, .int (nI ((h.take 5).length)), .ref cm_, .int (nI c.length), .int (bI tk), .int (nI k0), .int (nI n0), .ref sv, .int (nI s0.length), .ref md, .int (nI z.length), .ref fmm, .ref lc, .ref lz, .ref af, .ref pt_, .int (nI p.length), .ref oc, .ref ty_, .ref sz_, .ref em])), (lt, .inl (g.2.1, 256, .inl f)), (er, .inl (g.2.1, 1536, .inl fe1)), (el, .inl (g.2.1, 6, .inl fl1)), (md, .inl (g.2.1, 256, .inl fm_))] := by rw [h5]; exact hD
          refine lv_aload_n X.1 X.2.1 dX12_edit_73 rfl (lv_at hl 1 rfl) ?_
          refine va_get (D := g.1) (ci := 11) (v := .ref lt) (C := RX12) (T := TX12) (N := 26) X.1 X.2.1 X.2.2.2.2 iwX12 X.2.2.2.1 hK hP 0 rfl rfl 2 (by decide) (X.2.2.2.2 _ q1022) (fun _ h9 => h9) rfl dX12_edit_74 ?_
          refine lv_iconst (v := (nI 0)) X.1 X.2.1 dX12_edit_77 (by decide) ?_
          refine lv_aload_n X.1 X.2.1 dX12_edit_78 rfl (lv_at hl 1 rfl) ?_
          refine va_get (D := g.1) (ci := 11) (v := .ref er) (C := RX12) (T := TX12) (N := 26) X.1 X.2.1 X.2.2.2.2 iwX12 X.2.2.2.1 hK hP 0 rfl rfl 4 (by decide) (X.2.2.2.2 _ q1024) (fun _ h9 => h9) rfl dX12_edit_79 ?_
          refine lv_sipush (v := (nI 256)) X.1 X.2.1 dX12_edit_82 (by decide) ?_
          refine lv_aload_n X.1 X.2.1 dX12_edit_85 rfl (lv_at hl 1 rfl) ?_
          refine va_get (D := g.1) (ci := 11) (v := .int (nI ((h.take 5).length))) (C := RX12) (T := TX12) (N := 26) X.1 X.2.1 X.2.2.2.2 iwX12 X.2.2.2.1 hK hP 0 rfl rfl 6 (by decide) (X.2.2.2.2 _ q1026) (fun _ h9 => h9) rfl dX12_edit_86 ?_
          refine n_mul X dX12_edit_89 ?_
          refine lv_aload_n X.1 X.2.1 dX12_edit_90 rfl (lv_at hl 1 rfl) ?_
          refine va_get (D := g.1) (ci := 11) (v := .int (nI s.length)) (C := RX12) (T := TX12) (N := 26) X.1 X.2.1 X.2.2.2.2 iwX12 X.2.2.2.1 hK hP 0 rfl rfl 3 (by decide) (X.2.2.2.2 _ q1023) (fun _ h9 => h9) rfl dX12_edit_91 ?_
          refine n_copy (rest := []) X q1198 q478 q477 q66 hl.1 hK hP hD hS 1 2 rfl rfl (by omega) (by omega) (by omega) (by omega) (Nat.le_of_ble_eq_true rfl) (by decide) dX12_edit_94 (fun H locs hP hD hS => ?_)
          have hP : PP g [(m0, .inr (11, [.int (nI k), .int (nI n), .ref lt, .int (nI s.length), .ref er, .ref el, .int (nI ((h.take 5).length)), .ref cm_, .int (nI c.length), .int (bI tk), .int (nI k0), .int (nI n0), .ref sv, .int (nI s0.length), .ref md, .int (nI z.length), .ref fmm, .ref lc, .ref lz, .ref af, .ref pt_, .int (nI p.length), .ref oc, .ref ty_, .ref sz_, .ref em])), (lt, .inl (g.2.1, 256, .inl f)), (er, .inl (g.2.1, 1536, .inl (va_cpy f fe1 0 (256 * ((h.take 5).length)) s.length))), (el, .inl (g.2.1, 6, .inl fl1)), (md, .inl (g.2.1, 256, .inl fm_))] H := hP
          have hD : va_D A [(m0, .inr (11, [.int (nI k), .int (nI n), .ref lt, .int (nI s.length), .ref er, .ref el, .int (nI ((h.take 5).length)), .ref cm_, .int (nI c.length), .int (bI tk), .int (nI k0), .int (nI n0), .ref sv, .int (nI s0.length), .ref md, .int (nI z.length), .ref fmm, .ref lc, .ref lz, .ref af, .ref pt_, .int (nI p.length), .ref oc, .ref ty_, .ref sz_, .ref em])), (lt, .inl (g.2.1, 256, .inl f)), (er, .inl (g.2.1, 1536, .inl (va_cpy f fe1 0 (256 * ((h.take 5).length)) s.length))), (el, .inl (g.2.1, 6, .inl fl1)), (md, .inl (g.2.1, 256, .inl fm_))] := hD
          refine lv_aload_n X.1 X.2.1 dX12_edit_97 rfl (lv_at hl 1 rfl) ?_
          refine va_get (D := g.1) (ci := 11) (v := .ref el) (C := RX12) (T := TX12) (N := 26) X.1 X.2.1 X.2.2.2.2 iwX12 X.2.2.2.1 hK hP 0 rfl rfl 5 (by decide) (X.2.2.2.2 _ q1025) (fun _ h9 => h9) rfl dX12_edit_98 ?_
          refine lv_aload_n X.1 X.2.1 dX12_edit_101 rfl (lv_at hl 1 rfl) ?_
          refine va_get (D := g.1) (ci := 11) (v := .int (nI ((h.take 5).length))) (C := RX12) (T := TX12) (N := 26) X.1 X.2.1 X.2.2.2.2 iwX12 X.2.2.2.1 hK hP 0 rfl rfl 6 (by decide) (X.2.2.2.2 _ q1026) (fun _ h9 => h9) rfl dX12_edit_102 ?_
          refine lv_aload_n X.1 X.2.1 dX12_edit_105 rfl (lv_at hl 1 rfl) ?_
          refine va_get (D := g.1) (ci := 11) (v := .int (nI s.length)) (C := RX12) (T := TX12) (N := 26) X.1 X.2.1 X.2.2.2.2 iwX12 X.2.2.2.1 hK hP 0 rfl rfl 3 (by decide) (X.2.2.2.2 _ q1023) (fun _ h9 => h9) rfl dX12_edit_106 ?_
          refine n_iast X hK hP hD hS 3 0 rfl rfl (by omega) (by decide) dX12_edit_109 (fun H locs hP hD hS => ?_)
          have hP : PP g [(m0, .inr (11, [.int (nI k), .int (nI n), .ref lt, .int (nI s.length), .ref er, .ref el, .int (nI ((h.take 5).length)), .ref cm_, .int (nI c.length), .int (bI tk), .int (nI k0), .int (nI n0), .ref sv, .int (nI s0.length), .ref md, .int (nI z.length), .ref fmm, .ref lc, .ref lz, .ref af, .ref pt_, .int (nI p.length), .ref oc, .ref ty_, .ref sz_, .ref em])), (lt, .inl (g.2.1, 256, .inl f)), (er, .inl (g.2.1, 1536, .inl (va_cpy f fe1 0 (256 * ((h.take 5).length)) s.length))), (el, .inl (g.2.1, 6, .inl (upd fl1 ((h.take 5).length) (nI s.length)))), (md, .inl (g.2.1, 256, .inl fm_))] H := hP
          have hD : va_D A [(m0, .inr (11, [.int (nI k), .int (nI n), .ref lt, .int (nI s.length), .ref er, .ref el, .int (nI ((h.take 5).length)), .ref cm_, .int (nI c.length), .int (bI tk), .int (nI k0), .int (nI n0), .ref sv, .int (nI s0.length), .ref md, .int (nI z.length), .ref fmm, .ref lc, .ref lz, .ref af, .ref pt_, .int (nI p.length), .ref oc, .ref ty_, .ref sz_, .ref em])), (lt, .inl (g.2.1, 256, .inl f)), (er, .inl (g.2.1, 1536, .inl (va_cpy f fe1 0 (256 * ((h.take 5).length)) s.length))), (el, .inl (g.2.1, 6, .inl (upd fl1 ((h.take 5).length) (nI s.length)))), (md, .inl (g.2.1, 256, .inl fm_))] := hD
          refine lv_aload_n X.1 X.2.1 dX12_edit_110 rfl (lv_at hl 1 rfl) ?_
          refine lv_dup X.1 X.2.1 dX12_edit_111 rfl ?_
          refine va_get (D := g.1) (ci := 11) (v := .int (nI ((h.take 5).length))) (C := RX12) (T := TX12) (N := 26) X.1 X.2.1 X.2.2.2.2 iwX12 X.2.2.2.1 hK hP 0 rfl rfl 6 (by decide) (X.2.2.2.2 _ q1026) (fun _ h9 => h9) rfl dX12_edit_112 ?_
          refine lv_iconst (v := (nI 1)) X.1 X.2.1 dX12_edit_115 (by decide) ?_
          refine n_add X dX12_edit_116 ?_
          refine va_put (D := g.1) (ci := 11) (v := .int (nI ((h.take 5).length + 1))) (ty := .int) (C := RX12) (T := TX12) (N := 26) X.1 X.2.1 X.2.2.2.2 iwX12 tyX12 tyX12_ok nmX12 X.2.2.2.1 hK hP hD hS 0 rfl rfl 6 (by decide) (X.2.2.2.2 _ q1026) (fun _ h9 => h9) rfl (by decide +kernel) rfl rfl (Nat.le_of_ble_eq_true rfl) dX12_edit_117 (fun H locs hP hD hS => ?_)
          have hP : PP g [(m0, .inr (11, [.int (nI k), .int (nI n), .ref lt, .int (nI s.length), .ref er, .ref el, .int (nI ((h.take 5).length + 1)), .ref cm_, .int (nI c.length), .int (bI tk), .int (nI k0), .int (nI n0), .ref sv, .int (nI s0.length), .ref md, .int (nI z.length), .ref fmm, .ref lc, .ref lz, .ref af, .ref pt_, .int (nI p.length), .ref oc, .ref ty_, .ref sz_, .ref em])), (lt, .inl (g.2.1, 256, .inl f)), (er, .inl (g.2.1, 1536, .inl (va_cpy f fe1 0 (256 * ((h.take 5).length)) s.length))), (el, .inl (g.2.1, 6, .inl (upd fl1 ((h.take 5).length) (nI s.length)))), (md, .inl (g.2.1, 256, .inl fm_))] H := hP
          have hD : va_D A [(m0, .inr (11, [.int (nI k), .int (nI n), .ref lt, .int (nI s.length), .ref er, .ref el, .int (nI ((h.take 5).length + 1)), .ref cm_, .int (nI c.length), .int (bI tk), .int (nI k0), .int (nI n0), .ref sv, .int (nI s0.length), .ref md, .int (nI z.length), .ref fmm, .ref lc, .ref lz, .ref af, .ref pt_, .int (nI p.length), .ref oc, .ref ty_, .ref sz_, .ref em])), (lt, .inl (g.2.1, 256, .inl f)), (er, .inl (g.2.1, 1536, .inl (va_cpy f fe1 0 (256 * ((h.take 5).length)) s.length))), (el, .inl (g.2.1, 6, .inl (upd fl1 ((h.take 5).length) (nI s.length)))), (md, .inl (g.2.1, 256, .inl fm_))] := hD
          refine lv_aload_n X.1 X.2.1 dX12_edit_120 rfl (lv_at hl 1 rfl) ?_
          refine va_get (D := g.1) (ci := 11) (v := .ref md) (C := RX12) (T := TX12) (N := 26) X.1 X.2.1 X.2.2.2.2 iwX12 X.2.2.2.1 hK hP 0 rfl rfl 14 (by decide) (X.2.2.2.2 _ q1034) (fun _ h9 => h9) rfl dX12_edit_121 ?_
          refine lv_iconst (v := (nI 0)) X.1 X.2.1 dX12_edit_124 (by decide) ?_
          refine lv_aload_n X.1 X.2.1 dX12_edit_125 rfl (lv_at hl 1 rfl) ?_
          refine va_get (D := g.1) (ci := 11) (v := .ref lt) (C := RX12) (T := TX12) (N := 26) X.1 X.2.1 X.2.2.2.2 iwX12 X.2.2.2.1 hK hP 0 rfl rfl 2 (by decide) (X.2.2.2.2 _ q1022) (fun _ h9 => h9) rfl dX12_edit_126 ?_
          refine lv_iconst (v := (nI 0)) X.1 X.2.1 dX12_edit_129 (by decide) ?_
          refine lv_aload_n X.1 X.2.1 dX12_edit_130 rfl (lv_at hl 1 rfl) ?_
          refine va_get (D := g.1) (ci := 11) (v := .int (nI z.length)) (C := RX12) (T := TX12) (N := 26) X.1 X.2.1 X.2.2.2.2 iwX12 X.2.2.2.1 hK hP 0 rfl rfl 15 (by decide) (X.2.2.2.2 _ q1035) (fun _ h9 => h9) rfl dX12_edit_131 ?_
          refine n_copy (rest := []) X q1198 q478 q477 q66 hl.1 hK hP hD hS 4 1 rfl rfl (by omega) (by omega) (by omega) (by omega) (Nat.le_of_ble_eq_true rfl) (by decide) dX12_edit_134 (fun H locs hP hD hS => ?_)
          have hP : PP g [(m0, .inr (11, [.int (nI k), .int (nI n), .ref lt, .int (nI s.length), .ref er, .ref el, .int (nI ((h.take 5).length + 1)), .ref cm_, .int (nI c.length), .int (bI tk), .int (nI k0), .int (nI n0), .ref sv, .int (nI s0.length), .ref md, .int (nI z.length), .ref fmm, .ref lc, .ref lz, .ref af, .ref pt_, .int (nI p.length), .ref oc, .ref ty_, .ref sz_, .ref em])), (lt, .inl (g.2.1, 256, .inl (va_cpy fm_ f 0 0 z.length))), (er, .inl (g.2.1, 1536, .inl (va_cpy f fe1 0 (256 * ((h.take 5).length)) s.length))), (el, .inl (g.2.1, 6, .inl (upd fl1 ((h.take 5).length) (nI s.length)))), (md, .inl (g.2.1, 256, .inl fm_))] H := hP
          have hD : va_D A [(m0, .inr (11, [.int (nI k), .int (nI n), .ref lt, .int (nI s.length), .ref er, .ref el, .int (nI ((h.take 5).length + 1)), .ref cm_, .int (nI c.length), .int (bI tk), .int (nI k0), .int (nI n0), .ref sv, .int (nI s0.length), .ref md, .int (nI z.length), .ref fmm, .ref lc, .ref lz, .ref af, .ref pt_, .int (nI p.length), .ref oc, .ref ty_, .ref sz_, .ref em])), (lt, .inl (g.2.1, 256, .inl (va_cpy fm_ f 0 0 z.length))), (er, .inl (g.2.1, 1536, .inl (va_cpy f fe1 0 (256 * ((h.take 5).length)) s.length))), (el, .inl (g.2.1, 6, .inl (upd fl1 ((h.take 5).length) (nI s.length)))), (md, .inl (g.2.1, 256, .inl fm_))] := hD
          refine lv_aload_n X.1 X.2.1 dX12_edit_137 rfl (lv_at hl 1 rfl) ?_
          refine lv_aload_n X.1 X.2.1 dX12_edit_138 rfl (lv_at hl 1 rfl) ?_
          refine va_get (D := g.1) (ci := 11) (v := .int (nI z.length)) (C := RX12) (T := TX12) (N := 26) X.1 X.2.1 X.2.2.2.2 iwX12 X.2.2.2.1 hK hP 0 rfl rfl 15 (by decide) (X.2.2.2.2 _ q1035) (fun _ h9 => h9) rfl dX12_edit_139 ?_
          refine va_put (D := g.1) (ci := 11) (v := .int (nI z.length)) (ty := .int) (C := RX12) (T := TX12) (N := 26) X.1 X.2.1 X.2.2.2.2 iwX12 tyX12 tyX12_ok nmX12 X.2.2.2.1 hK hP hD hS 0 rfl rfl 3 (by decide) (X.2.2.2.2 _ q1023) (fun _ h9 => h9) rfl (by decide +kernel) rfl rfl (Nat.le_of_ble_eq_true rfl) dX12_edit_142 (fun H locs hP hD hS => ?_)
          have hP : PP g [(m0, .inr (11, [.int (nI k), .int (nI n), .ref lt, .int (nI z.length), .ref er, .ref el, .int (nI ((h.take 5).length + 1)), .ref cm_, .int (nI c.length), .int (bI tk), .int (nI k0), .int (nI n0), .ref sv, .int (nI s0.length), .ref md, .int (nI z.length), .ref fmm, .ref lc, .ref lz, .ref af, .ref pt_, .int (nI p.length), .ref oc, .ref ty_, .ref sz_, .ref em])), (lt, .inl (g.2.1, 256, .inl (va_cpy fm_ f 0 0 z.length))), (er, .inl (g.2.1, 1536, .inl (va_cpy f fe1 0 (256 * ((h.take 5).length)) s.length))), (el, .inl (g.2.1, 6, .inl (upd fl1 ((h.take 5).length) (nI s.length)))), (md, .inl (g.2.1, 256, .inl fm_))] H := hP
          have hD : va_D A [(m0, .inr (11, [.int (nI k), .int (nI n), .ref lt, .int (nI z.length), .ref er, .ref el, .int (nI ((h.take 5).length + 1)), .ref cm_, .int (nI c.length), .int (bI tk), .int (nI k0), .int (nI n0), .ref sv, .int (nI s0.length), .ref md, .int (nI z.length), .ref fmm, .ref lc, .ref lz, .ref af, .ref pt_, .int (nI p.length), .ref oc, .ref ty_, .ref sz_, .ref em])), (lt, .inl (g.2.1, 256, .inl (va_cpy fm_ f 0 0 z.length))), (er, .inl (g.2.1, 1536, .inl (va_cpy f fe1 0 (256 * ((h.take 5).length)) s.length))), (el, .inl (g.2.1, 6, .inl (upd fl1 ((h.take 5).length) (nI s.length)))), (md, .inl (g.2.1, 256, .inl fm_))] := hD
          have hP : PP g [(m0, .inr (11, [.int (nI k), .int (nI n), .ref lt, .int (nI z.length), .ref er, .ref el, .int (nI (((s :: h).take 6).length)), .ref cm_, .int (nI c.length), .int (bI tk), .int (nI k0), .int (nI n0), .ref sv, .int (nI s0.length), .ref md, .int (nI z.length), .ref fmm, .ref lc, .ref lz, .ref af, .ref pt_, .int (nI p.length), .ref oc, .ref ty_, .ref sz_, .ref em])), (lt, .inl (g.2.1, 256, .inl (va_cpy fm_ f 0 0 z.length))), (er, .inl (g.2.1, 1536, .inl (va_cpy f fe1 0 (256 * ((h.take 5).length)) s.length))), (el, .inl (g.2.1, 6, .inl (upd fl1 ((h.take 5).length) (nI s.length)))), (md, .inl (g.2.1, 256, .inl fm_))] H := by exact hP
          have hD : va_D A [(m0, .inr (11, [.int (nI k), .int (nI n), .ref lt, .int (nI z.length), .ref er, .ref el, .int (nI (((s :: h).take 6).length)), .ref cm_, .int (nI c.length), .int (bI tk), .int (nI k0), .int (nI n0), .ref sv, .int (nI s0.length), .ref md, .int (nI z.length), .ref fmm, .ref lc, .ref lz, .ref af, .ref pt_, .int (nI p.length), .ref oc, .ref ty_, .ref sz_, .ref em])), (lt, .inl (g.2.1, 256, .inl (va_cpy fm_ f 0 0 z.length))), (er, .inl (g.2.1, 1536, .inl (va_cpy f fe1 0 (256 * ((h.take 5).length)) s.length))), (el, .inl (g.2.1, 6, .inl (upd fl1 ((h.take 5).length) (nI s.length)))), (md, .inl (g.2.1, 256, .inl fm_))] := by exact hD
          exact MuV.ret X hr hlk hK hS dX12_edit_145 (va_cpy fm_ f 0 0 z.length, va_cpy f fe1 0 (256 * ((h.take 5).length)) s.length, upd fl1 ((h.take 5).length) (nI s.length)) (hP.sub [0, 1, 2, 3, 4] rfl) (hD.sub [0, 1, 2, 3, 4] (by decide) rfl) (⟨cpy_rep hfm, hrm_add (hrm_sh hh (by omega) (by rw [← h16]; exact hsh)) (by omega) hf hs⟩)
        · exfalso; omega
      | succ r ih11 =>
        intro i fe1 fl1 h1 h2 hsh H locs hP hD hS ls hl
        refine lv_iload_n X.1 X.2.1 dX12_edit_11 rfl (lv_at hl 0 rfl) ?_
        refine lv_bipush (v := (nI 6)) X.1 X.2.1 dX12_edit_12 (by decide) ?_
        refine z_icmp_ge (tgt := 63) X dX12_edit_14 (by decide) (nI_toInt (by omega)) (nI_toInt (by omega)) (fun c14 => ?_) (fun c14 => ?_)
        · exfalso; omega
        · refine lv_aload_n X.1 X.2.1 dX12_edit_17 rfl (lv_at hl 1 rfl) ?_
          refine va_get (D := g.1) (ci := 11) (v := .ref er) (C := RX12) (T := TX12) (N := 26) X.1 X.2.1 X.2.2.2.2 iwX12 X.2.2.2.1 hK hP 0 rfl rfl 4 (by decide) (X.2.2.2.2 _ q1024) (fun _ h9 => h9) rfl dX12_edit_18 ?_
          refine lv_sipush (v := (nI 256)) X.1 X.2.1 dX12_edit_21 (by decide) ?_
          refine lv_iload_n X.1 X.2.1 dX12_edit_24 rfl (lv_at hl 0 rfl) ?_
          refine n_mul X dX12_edit_25 ?_
          refine lv_aload_n X.1 X.2.1 dX12_edit_26 rfl (lv_at hl 1 rfl) ?_
          refine va_get (D := g.1) (ci := 11) (v := .ref er) (C := RX12) (T := TX12) (N := 26) X.1 X.2.1 X.2.2.2.2 iwX12 X.2.2.2.1 hK hP 0 rfl rfl 4 (by decide) (X.2.2.2.2 _ q1024) (fun _ h9 => h9) rfl dX12_edit_27 ?_
          refine lv_sipush (v := (nI 256)) X.1 X.2.1 dX12_edit_30 (by decide) ?_
          refine lv_iload_n X.1 X.2.1 dX12_edit_33 rfl (lv_at hl 0 rfl) ?_
          refine lv_iconst (v := (nI 1)) X.1 X.2.1 dX12_edit_34 (by decide) ?_
          refine n_sub X dX12_edit_35 (by omega) ?_
          refine n_mul X dX12_edit_36 ?_
          refine lv_sipush (v := (nI 256)) X.1 X.2.1 dX12_edit_37 (by decide) ?_
          refine n_copy (rest := []) X q1198 q478 q477 q66 hl.1 hK hP hD hS 2 2 rfl rfl (by omega) (by omega) (by omega) (by omega) (Nat.le_of_ble_eq_true rfl) (by decide) dX12_edit_40 (fun H locs hP hD hS => ?_)
          have hP : PP g [(m0, .inr (11, [.int (nI k), .int (nI n), .ref lt, .int (nI s.length), .ref er, .ref el, .int (nI h.length), .ref cm_, .int (nI c.length), .int (bI tk), .int (nI k0), .int (nI n0), .ref sv, .int (nI s0.length), .ref md, .int (nI z.length), .ref fmm, .ref lc, .ref lz, .ref af, .ref pt_, .int (nI p.length), .ref oc, .ref ty_, .ref sz_, .ref em])), (lt, .inl (g.2.1, 256, .inl f)), (er, .inl (g.2.1, 1536, .inl (va_cpy fe1 fe1 (256 * i) (256 * (i - 1)) 256))), (el, .inl (g.2.1, 6, .inl fl1)), (md, .inl (g.2.1, 256, .inl fm_))] H := hP
          have hD : va_D A [(m0, .inr (11, [.int (nI k), .int (nI n), .ref lt, .int (nI s.length), .ref er, .ref el, .int (nI h.length), .ref cm_, .int (nI c.length), .int (bI tk), .int (nI k0), .int (nI n0), .ref sv, .int (nI s0.length), .ref md, .int (nI z.length), .ref fmm, .ref lc, .ref lz, .ref af, .ref pt_, .int (nI p.length), .ref oc, .ref ty_, .ref sz_, .ref em])), (lt, .inl (g.2.1, 256, .inl f)), (er, .inl (g.2.1, 1536, .inl (va_cpy fe1 fe1 (256 * i) (256 * (i - 1)) 256))), (el, .inl (g.2.1, 6, .inl fl1)), (md, .inl (g.2.1, 256, .inl fm_))] := hD
          refine lv_aload_n X.1 X.2.1 dX12_edit_43 rfl (lv_at hl 1 rfl) ?_
          refine va_get (D := g.1) (ci := 11) (v := .ref el) (C := RX12) (T := TX12) (N := 26) X.1 X.2.1 X.2.2.2.2 iwX12 X.2.2.2.1 hK hP 0 rfl rfl 5 (by decide) (X.2.2.2.2 _ q1025) (fun _ h9 => h9) rfl dX12_edit_44 ?_
          refine lv_iload_n X.1 X.2.1 dX12_edit_47 rfl (lv_at hl 0 rfl) ?_
          refine lv_iconst (v := (nI 1)) X.1 X.2.1 dX12_edit_48 (by decide) ?_
          refine n_sub X dX12_edit_49 (by omega) ?_
          refine lv_aload_n X.1 X.2.1 dX12_edit_50 rfl (lv_at hl 1 rfl) ?_
          refine va_get (D := g.1) (ci := 11) (v := .ref el) (C := RX12) (T := TX12) (N := 26) X.1 X.2.1 X.2.2.2.2 iwX12 X.2.2.2.1 hK hP 0 rfl rfl 5 (by decide) (X.2.2.2.2 _ q1025) (fun _ h9 => h9) rfl dX12_edit_51 ?_
          refine lv_iload_n X.1 X.2.1 dX12_edit_54 rfl (lv_at hl 0 rfl) ?_
          refine n_iald X hK hP 3 0 rfl rfl (by omega) (by decide) dX12_edit_55 ?_
          refine n_iast X hK hP hD hS 3 0 rfl rfl (by omega) (by decide) dX12_edit_56 (fun H locs hP hD hS => ?_)
          have hP : PP g [(m0, .inr (11, [.int (nI k), .int (nI n), .ref lt, .int (nI s.length), .ref er, .ref el, .int (nI h.length), .ref cm_, .int (nI c.length), .int (bI tk), .int (nI k0), .int (nI n0), .ref sv, .int (nI s0.length), .ref md, .int (nI z.length), .ref fmm, .ref lc, .ref lz, .ref af, .ref pt_, .int (nI p.length), .ref oc, .ref ty_, .ref sz_, .ref em])), (lt, .inl (g.2.1, 256, .inl f)), (er, .inl (g.2.1, 1536, .inl (va_cpy fe1 fe1 (256 * i) (256 * (i - 1)) 256))), (el, .inl (g.2.1, 6, .inl (upd fl1 (i - 1) (fl1 i)))), (md, .inl (g.2.1, 256, .inl fm_))] H := hP
          have hD : va_D A [(m0, .inr (11, [.int (nI k), .int (nI n), .ref lt, .int (nI s.length), .ref er, .ref el, .int (nI h.length), .ref cm_, .int (nI c.length), .int (bI tk), .int (nI k0), .int (nI n0), .ref sv, .int (nI s0.length), .ref md, .int (nI z.length), .ref fmm, .ref lc, .ref lz, .ref af, .ref pt_, .int (nI p.length), .ref oc, .ref ty_, .ref sz_, .ref em])), (lt, .inl (g.2.1, 256, .inl f)), (er, .inl (g.2.1, 1536, .inl (va_cpy fe1 fe1 (256 * i) (256 * (i - 1)) 256))), (el, .inl (g.2.1, 6, .inl (upd fl1 (i - 1) (fl1 i)))), (md, .inl (g.2.1, 256, .inl fm_))] := hD
          refine lv_iinc (v := (nI (i + 1))) (lv' := [(1, .int (nI (i + 1))), (0, .ref m0)]) X.1 X.2.1 dX12_edit_57 hl (k := 0) rfl (nI_inc _) (by decide) rfl (fun ls hl => ?_)
          refine lv_goto (tgt := 11) X.1 X.2.1 dX12_edit_60 (by decide) ?_
          exact ih11 (i + 1) (va_cpy fe1 fe1 (256 * i) (256 * (i - 1)) 256) (upd fl1 (i - 1) (fl1 i)) (by omega) (by omega) (shI_s hsh h2 (by omega)) _ _ (hP.sub [0, 1, 2, 3, 4] rfl) (hD.sub [0, 1, 2, 3, 4] (by decide) rfl) hS ls (lv_sub hl [0, 1] rfl)
    exact L11 5 1 fe fl (by omega) (by omega) (shI_1 fe fl) _ _ (hP.sub [0, 1, 2, 3, 4] rfl) (hD.sub [0, 1, 2, 3, 4] (by decide) rfl) hS ls (lv_sub hl [0, 1] rfl)

set_option maxHeartbeats 4000000 in
set_option maxRecDepth 100000 in
theorem m_makeFrom (g : G5) (m0 : Nat) (lt : Nat) (er : Nat) (el : Nat) (cm_ : Nat) (sv : Nat) (md : Nat) (fmm : Nat) (lc : Nat) (lz : Nat) (af : Nat) (pt_ : Nat) (oc : Nat) (ty_ : Nat) (sz_ : Nat) (em : Nat) (k : Nat) (n : Nat) (s : List Nat) (h : List (List Nat)) (c : List Nat) (tk : Bool) (k0 : Nat) (n0 : Nat) (s0 : List Nat) (z : List Nat) (p : List Int) (f : Nat → Int32) (fm_ : Nat → Int32) (i : Nat) (j : Nat) (hs : s.length ≤ 256) (hf : rep f s) (hfm : rep fm_ z) (hij : i ≤ j) (hj : j ≤ s.length) (hz : z.length + (j - i) ≤ 256) : MuV (S := (Nat → Int32)) yX12_makeFrom cX12_makeFrom 4 none 1 21 g [.ref m0, .int (nI i), .int (nI j)] [(m0, .inr (11, [.int (nI k), .int (nI n), .ref lt, .int (nI s.length), .ref er, .ref el, .int (nI h.length), .ref cm_, .int (nI c.length), .int (bI tk), .int (nI k0), .int (nI n0), .ref sv, .int (nI s0.length), .ref md, .int (nI z.length), .ref fmm, .ref lc, .ref lz, .ref af, .ref pt_, .int (nI p.length), .ref oc, .ref ty_, .ref sz_, .ref em])), (lt, .inl (g.2.1, 256, .inl f)), (md, .inl (g.2.1, 256, .inl fm_))] (fun fm1 => rep fm1 (z ++ partL s i (j - i) 0)) (fun fm1 => [(m0, .inr (11, [.int (nI k), .int (nI n), .ref lt, .int (nI s.length), .ref er, .ref el, .int (nI h.length), .ref cm_, .int (nI c.length), .int (bI tk), .int (nI k0), .int (nI n0), .ref sv, .int (nI s0.length), .ref md, .int (nI ((z ++ partL s i (j - i) 0).length)), .ref fmm, .ref lc, .ref lz, .ref af, .ref pt_, .int (nI p.length), .ref oc, .ref ty_, .ref sz_, .ref em])), (lt, .inl (g.2.1, 256, .inl f)), (md, .inl (g.2.1, 256, .inl fm1))]) := by
  refine MuV.of (by decide +kernel) (Nat.le_of_ble_eq_true rfl) ?_
  intro p_ l_ e_ S_ m_ args below meth co X hr hlk hP hK A hA hD hS ls hl
  have X : CallFix p_ m_ co cX12_makeFrom 4 S_ args lw_all RX12 := X
  have hl : lv_has ls 4 [(0, .ref m0), (1, .int (nI i)), (2, .int (nI j))] := hl
  refine lv_iload_n X.1 X.2.1 dX12_makeFrom_0 rfl (lv_at hl 1 rfl) ?_
  refine lv_istore_n (lv' := [(3, .int (nI i)), (0, .ref m0), (1, .int (nI i)), (2, .int (nI j))]) X.1 X.2.1 dX12_makeFrom_1 rfl hl (by decide) rfl (fun ls hl => ?_)
  have L2 : ∀ (r : Nat) (t : Nat) (z1 : List Nat) (fm1 : Nat → Int32) (h1 : i + t + r = j) (hz1 : z1.length + r ≤ 256) (hq : z1 ++ partL s i r t = z ++ partL s i (j - i) 0) (hf1 : rep fm1 z1) (H : Heap) (locs : List Loc) (hP : PP g [(m0, .inr (11, [.int (nI k), .int (nI n), .ref lt, .int (nI s.length), .ref er, .ref el, .int (nI h.length), .ref cm_, .int (nI c.length), .int (bI tk), .int (nI k0), .int (nI n0), .ref sv, .int (nI s0.length), .ref md, .int (nI z1.length), .ref fmm, .ref lc, .ref lz, .ref af, .ref pt_, .int (nI p.length), .ref oc, .ref ty_, .ref sz_, .ref em])), (lt, .inl (g.2.1, 256, .inl f)), (md, .inl (g.2.1, 256, .inl fm1))] H) (hD : va_D A [(m0, .inr (11, [.int (nI k), .int (nI n), .ref lt, .int (nI s.length), .ref er, .ref el, .int (nI h.length), .ref cm_, .int (nI c.length), .int (bI tk), .int (nI k0), .int (nI n0), .ref sv, .int (nI s0.length), .ref md, .int (nI z1.length), .ref fmm, .ref lc, .ref lz, .ref af, .ref pt_, .int (nI p.length), .ref oc, .ref ty_, .ref sz_, .ref em])), (lt, .inl (g.2.1, 256, .inl f)), (md, .inl (g.2.1, 256, .inl fm1))]) (hS : va_S A S_.heap H locs) (ls : Array Slot) (hl : lv_has ls 4 [(3, .int (nI (i + t))), (0, .ref m0), (1, .int (nI i)), (2, .int (nI j))]), W p_ l_ e_ { frames := 1, cells := 0, slots := 0, locals := 21 } S_ m_ args below meth co H locs 0 0 (MQ below (va_Qv (S := (Nat → Int32)) (fun fm1 => rep fm1 (z ++ partL s i (j - i) 0)) (MuB g A (fun fm1 => [(m0, .inr (11, [.int (nI k), .int (nI n), .ref lt, .int (nI s.length), .ref er, .ref el, .int (nI h.length), .ref cm_, .int (nI c.length), .int (bI tk), .int (nI k0), .int (nI n0), .ref sv, .int (nI s0.length), .ref md, .int (nI ((z ++ partL s i (j - i) 0).length)), .ref fmm, .ref lc, .ref lz, .ref af, .ref pt_, .int (nI p.length), .ref oc, .ref ty_, .ref sz_, .ref em])), (lt, .inl (g.2.1, 256, .inl f)), (md, .inl (g.2.1, 256, .inl fm1))])) A) args S_ 0 0 A) (F0 m_ 2 ls []) := by
    intro r
    induction r with
    | zero =>
      intro t z1 fm1 h1 hz1 hq hf1 H locs hP hD hS ls hl
      have e9 : z1 = z ++ partL s i (j - i) 0 := by simpa [partL] using hq
      refine lv_iload_n X.1 X.2.1 dX12_makeFrom_2 rfl (lv_at hl 0 rfl) ?_
      refine lv_iload_n X.1 X.2.1 dX12_makeFrom_3 rfl (lv_at hl 3 rfl) ?_
      refine z_icmp_ge (tgt := 23) X dX12_makeFrom_4 (by decide) (nI_toInt (by omega)) (nI_toInt (by omega)) (fun c4 => ?_) (fun c4 => ?_)
      · have hP : PP g [(m0, .inr (11, [.int (nI k), .int (nI n), .ref lt, .int (nI s.length), .ref er, .ref el, .int (nI h.length), .ref cm_, .int (nI c.length), .int (bI tk), .int (nI k0), .int (nI n0), .ref sv, .int (nI s0.length), .ref md, .int (nI ((z ++ partL s i (j - i) 0).length)), .ref fmm, .ref lc, .ref lz, .ref af, .ref pt_, .int (nI p.length), .ref oc, .ref ty_, .ref sz_, .ref em])), (lt, .inl (g.2.1, 256, .inl f)), (md, .inl (g.2.1, 256, .inl fm1))] H := by rw [← e9]; exact hP
        have hD : va_D A [(m0, .inr (11, [.int (nI k), .int (nI n), .ref lt, .int (nI s.length), .ref er, .ref el, .int (nI h.length), .ref cm_, .int (nI c.length), .int (bI tk), .int (nI k0), .int (nI n0), .ref sv, .int (nI s0.length), .ref md, .int (nI ((z ++ partL s i (j - i) 0).length)), .ref fmm, .ref lc, .ref lz, .ref af, .ref pt_, .int (nI p.length), .ref oc, .ref ty_, .ref sz_, .ref em])), (lt, .inl (g.2.1, 256, .inl f)), (md, .inl (g.2.1, 256, .inl fm1))] := by rw [← e9]; exact hD
        exact MuV.ret X hr hlk hK hS dX12_makeFrom_23 fm1 (hP.sub [0, 1, 2] rfl) (hD.sub [0, 1, 2] (by decide) rfl) (rep_eq hf1 e9)
      · exfalso; omega
    | succ r ih2 =>
      intro t z1 fm1 h1 hz1 hq hf1 H locs hP hD hS ls hl
      refine lv_iload_n X.1 X.2.1 dX12_makeFrom_2 rfl (lv_at hl 0 rfl) ?_
      refine lv_iload_n X.1 X.2.1 dX12_makeFrom_3 rfl (lv_at hl 3 rfl) ?_
      refine z_icmp_ge (tgt := 23) X dX12_makeFrom_4 (by decide) (nI_toInt (by omega)) (nI_toInt (by omega)) (fun c4 => ?_) (fun c4 => ?_)
      · exfalso; omega
      · refine lv_aload_n X.1 X.2.1 dX12_makeFrom_7 rfl (lv_at hl 1 rfl) ?_
        refine lv_aload_n X.1 X.2.1 dX12_makeFrom_8 rfl (lv_at hl 1 rfl) ?_
        refine va_get (D := g.1) (ci := 11) (v := .ref lt) (C := RX12) (T := TX12) (N := 26) X.1 X.2.1 X.2.2.2.2 iwX12 X.2.2.2.1 hK hP 0 rfl rfl 2 (by decide) (X.2.2.2.2 _ q1022) (fun _ h9 => h9) rfl dX12_makeFrom_9 ?_
        refine lv_iload_n X.1 X.2.1 dX12_makeFrom_12 rfl (lv_at hl 0 rfl) ?_
        refine n_iald X hK hP 1 0 rfl rfl (by omega) (by decide) dX12_makeFrom_13 ?_
        refine tp_i (y := (nI (s.getD ((i + t) % s.length) 0))) (by rw [Nat.mod_eq_of_lt (by omega)]; exact hf _ (by omega)) ?_
        refine (m_make g m0 lt er el cm_ sv md fmm lc lz af pt_ oc ty_ sz_ em k n s h c tk k0 n0 s0 z1 p fm1 (s.getD ((i + t) % s.length) 0) (by omega) (by assumption)).callV (rest := []) (wr := [(lt, .inl (g.2.1, 256, .inl f))]) X dX12_makeFrom_14 q1141 tX12_make hK hP hD hS hA [0, 2] [1] (by decide) rfl rfl (by decide) (by decide) 0 11 rfl rfl rfl hl ⟨⟨Nat.le_of_ble_eq_true rfl, Nat.le_of_ble_eq_true rfl⟩, Nat.le_of_ble_eq_true rfl, Nat.le_of_ble_eq_true rfl⟩ rfl rfl (Nat.le_of_ble_eq_true rfl) (fun u14 H locs hw14 hP hD hS => ?_)
        obtain ⟨fm1_14, rfl⟩ : ∃ z, z = u14 := ⟨_, rfl⟩
        have hP : PP g [(lt, .inl (g.2.1, 256, .inl f)), (m0, .inr (11, [.int (nI k), .int (nI n), .ref lt, .int (nI s.length), .ref er, .ref el, .int (nI h.length), .ref cm_, .int (nI c.length), .int (bI tk), .int (nI k0), .int (nI n0), .ref sv, .int (nI s0.length), .ref md, .int (nI ((z1 ++ [(s.getD ((i + t) % s.length) 0)]).length)), .ref fmm, .ref lc, .ref lz, .ref af, .ref pt_, .int (nI p.length), .ref oc, .ref ty_, .ref sz_, .ref em])), (md, .inl (g.2.1, 256, .inl fm1_14))] H := hP
        have hD : va_D A [(lt, .inl (g.2.1, 256, .inl f)), (m0, .inr (11, [.int (nI k), .int (nI n), .ref lt, .int (nI s.length), .ref er, .ref el, .int (nI h.length), .ref cm_, .int (nI c.length), .int (bI tk), .int (nI k0), .int (nI n0), .ref sv, .int (nI s0.length), .ref md, .int (nI ((z1 ++ [(s.getD ((i + t) % s.length) 0)]).length)), .ref fmm, .ref lc, .ref lz, .ref af, .ref pt_, .int (nI p.length), .ref oc, .ref ty_, .ref sz_, .ref em])), (md, .inl (g.2.1, 256, .inl fm1_14))] := hD
        try dsimp only at hw14
        refine lv_iinc (v := (nI (i + t + 1))) (lv' := [(3, .int (nI (i + t + 1))), (0, .ref m0), (1, .int (nI i)), (2, .int (nI j))]) X.1 X.2.1 dX12_makeFrom_17 hl (k := 0) rfl (nI_inc _) (by decide) rfl (fun ls hl => ?_)
        refine lv_goto (tgt := 2) X.1 X.2.1 dX12_makeFrom_20 (by decide) ?_
        exact ih2 (t + 1) (z1 ++ [s.getD ((i + t) % s.length) 0]) fm1_14 (by omega) (by simp; omega) (by rw [partL] at hq; simpa using hq) (hw14) _ _ (hP.sub [1, 0, 2] rfl) (hD.sub [1, 0, 2] (by decide) rfl) hS ls (lv_sub hl [0, 1, 2, 3] rfl)
  exact L2 (j - i) 0 z fm_ (by omega) (by omega) (rfl) (hfm) _ _ (hP.sub [0, 1, 2] rfl) (hD.sub [0, 1, 2] (by decide) rfl) hS ls (lv_sub hl [0, 1, 2, 3] rfl)

set_option maxHeartbeats 4000000 in
set_option maxRecDepth 100000 in
theorem m_setLetter_ok (g : G5) (m0 : Nat) (lt : Nat) (er : Nat) (el : Nat) (cm_ : Nat) (sv : Nat) (md : Nat) (fmm : Nat) (lc : Nat) (lz : Nat) (af : Nat) (pt_ : Nat) (oc : Nat) (ty_ : Nat) (sz_ : Nat) (em : Nat) (k : Nat) (n : Nat) (s : List Nat) (h : List (List Nat)) (c : List Nat) (tk : Bool) (k0 : Nat) (n0 : Nat) (s0 : List Nat) (z : List Nat) (p : List Int) (f : Nat → Int32) (fe : Nat → Int32) (fl : Nat → Int32) (fm_ : Nat → Int32) (B : Nat) (T : Nat) (j : Nat) (x : Nat) (hc : shp k n B T) (hs : s.length ≤ 256) (hf : rep f s) (hlt : ltk k s) (hh : hrm fe fl h) (hj : j < s.length) (hx : x < k) : MuI (S := (Nat → Int32) × (Nat → Int32) × (Nat → Int32) × (Nat → Int32)) yX12_setLetter cX12_setLetter 4 (some .int) 2 61 g [.ref m0, .int (nI j), .int (nI x)] [(m0, .inr (11, [.int (nI k), .int (nI n), .ref lt, .int (nI s.length), .ref er, .ref el, .int (nI h.length), .ref cm_, .int (nI c.length), .int (bI tk), .int (nI k0), .int (nI n0), .ref sv, .int (nI s0.length), .ref md, .int (nI z.length), .ref fmm, .ref lc, .ref lz, .ref af, .ref pt_, .int (nI p.length), .ref oc, .ref ty_, .ref sz_, .ref em])), (lt, .inl (g.2.1, 256, .inl f)), (er, .inl (g.2.1, 1536, .inl fe)), (el, .inl (g.2.1, 6, .inl fl)), (md, .inl (g.2.1, 256, .inl fm_))] (fun r u => r = (nI (s.getD j 0)) ∧ rep u.1 (s.set j x) ∧ hrm u.2.1 u.2.2.1 ((s :: h).take 6)) (fun u => [(m0, .inr (11, [.int (nI k), .int (nI n), .ref lt, .int (nI ((s.set j x).length)), .ref er, .ref el, .int (nI (((s :: h).take 6).length)), .ref cm_, .int (nI c.length), .int (bI tk), .int (nI k0), .int (nI n0), .ref sv, .int (nI s0.length), .ref md, .int (nI ((s.set j x).length)), .ref fmm, .ref lc, .ref lz, .ref af, .ref pt_, .int (nI p.length), .ref oc, .ref ty_, .ref sz_, .ref em])), (lt, .inl (g.2.1, 256, .inl u.1)), (er, .inl (g.2.1, 1536, .inl u.2.1)), (el, .inl (g.2.1, 6, .inl u.2.2.1)), (md, .inl (g.2.1, 256, .inl u.2.2.2))]) := by
  refine MuI.of (by decide +kernel) (Nat.le_of_ble_eq_true rfl) ?_
  intro p_ l_ e_ S_ m_ args below meth co X hr hlk hP hK A hA hD hS ls hl
  have X : CallFix p_ m_ co cX12_setLetter 4 S_ args lw_all RX12 := X
  have hl : lv_has ls 4 [(0, .ref m0), (1, .int (nI j)), (2, .int (nI x))] := hl
  obtain ⟨hk2, hk4, hn1, hn6, hB, hT, hBT, hT2⟩ := hc.f
  have hB0 : 0 < B := by rw [hBT]; exact Nat.mul_pos (by omega) (by omega)
  have hbs := hlt.bd hk4
  have h7 : hasB (nI j) s.length = true := by rw [hasB_N (by omega)]; exact decide_eq_true (by omega)
  have h8 : hasB (nI x) k = true := by rw [hasB_N (by omega)]; exact decide_eq_true (by omega)
  have hlz : (s.set j x).length ≤ 256 := by rw [List.length_set]; exact hs
  refine lv_aload_n X.1 X.2.1 dX12_setLetter_0 rfl (lv_at hl 0 rfl) ?_
  refine lv_iload_n X.1 X.2.1 dX12_setLetter_1 rfl (lv_at hl 1 rfl) ?_
  refine (m_isPosition g m0 lt er el cm_ sv md fmm lc lz af pt_ oc ty_ sz_ em k n s h c tk k0 n0 s0 z p (nI j) (by omega)).callV (rest := []) X dX12_setLetter_2 q1129 tX12_isPosition hK (hP.sub [0] rfl) 0 11 rfl rfl rfl hl ⟨⟨Nat.le_of_ble_eq_true rfl, Nat.le_of_ble_eq_true rfl⟩, Nat.le_of_ble_eq_true rfl, Nat.le_of_ble_eq_true rfl⟩ rfl rfl (Nat.le_of_ble_eq_true rfl) ?_
  refine b_if_ne (tgt := 11) X dX12_setLetter_5 (by decide) (fun c5 => ?_) (fun c5 => ?_)
  · refine lv_aload_n X.1 X.2.1 dX12_setLetter_11 rfl (lv_at hl 0 rfl) ?_
    refine lv_iload_n X.1 X.2.1 dX12_setLetter_12 rfl (lv_at hl 2 rfl) ?_
    refine (m_isLetter g m0 lt er el cm_ sv md fmm lc lz af pt_ oc ty_ sz_ em k n s h c tk k0 n0 s0 z p B T (nI x) (by assumption)).callV (rest := []) X dX12_setLetter_13 q1222 tX12_isLetter hK (hP.sub [0] rfl) 0 11 rfl rfl rfl hl ⟨⟨Nat.le_of_ble_eq_true rfl, Nat.le_of_ble_eq_true rfl⟩, Nat.le_of_ble_eq_true rfl, Nat.le_of_ble_eq_true rfl⟩ rfl rfl (Nat.le_of_ble_eq_true rfl) ?_
    refine b_if_ne (tgt := 21) X dX12_setLetter_16 (by decide) (fun c16 => ?_) (fun c16 => ?_)
    · refine lv_aload_n X.1 X.2.1 dX12_setLetter_21 rfl (lv_at hl 0 rfl) ?_
      refine va_get (D := g.1) (ci := 11) (v := .ref lt) (C := RX12) (T := TX12) (N := 26) X.1 X.2.1 X.2.2.2.2 iwX12 X.2.2.2.1 hK hP 0 rfl rfl 2 (by decide) (X.2.2.2.2 _ q1022) (fun _ h9 => h9) rfl dX12_setLetter_22 ?_
      refine lv_iload_n X.1 X.2.1 dX12_setLetter_25 rfl (lv_at hl 1 rfl) ?_
      refine n_iald X hK hP 1 0 rfl rfl (by omega) (by decide) dX12_setLetter_26 ?_
      refine tp_i (y := (nI (s.getD j 0))) (hf j hj) ?_
      refine lv_istore_n (lv' := [(3, .int (nI (s.getD j 0))), (0, .ref m0), (1, .int (nI j)), (2, .int (nI x))]) X.1 X.2.1 dX12_setLetter_27 rfl hl (by decide) rfl (fun ls hl => ?_)
      refine lv_aload_n X.1 X.2.1 dX12_setLetter_28 rfl (lv_at hl 1 rfl) ?_
      refine (m_begin g m0 lt er el cm_ sv md fmm lc lz af pt_ oc ty_ sz_ em k n s h c tk k0 n0 s0 z p f fm_ (by omega) (by assumption)).callV (rest := []) (wr := [(er, .inl (g.2.1, 1536, .inl fe)), (el, .inl (g.2.1, 6, .inl fl))]) X dX12_setLetter_29 q1226 tX12_begin hK hP hD hS hA [0, 1, 4] [2, 3] (by decide) rfl rfl (by decide) (by decide) 0 11 rfl rfl rfl hl ⟨⟨Nat.le_of_ble_eq_true rfl, Nat.le_of_ble_eq_true rfl⟩, Nat.le_of_ble_eq_true rfl, Nat.le_of_ble_eq_true rfl⟩ rfl rfl (Nat.le_of_ble_eq_true rfl) (fun u29 H locs hw29 hP hD hS => ?_)
      obtain ⟨fm1_29, rfl⟩ : ∃ z, z = u29 := ⟨_, rfl⟩
      have hP : PP g [(er, .inl (g.2.1, 1536, .inl fe)), (el, .inl (g.2.1, 6, .inl fl)), (m0, .inr (11, [.int (nI k), .int (nI n), .ref lt, .int (nI s.length), .ref er, .ref el, .int (nI h.length), .ref cm_, .int (nI c.length), .int (bI tk), .int (nI k0), .int (nI n0), .ref sv, .int (nI s0.length), .ref md, .int (nI s.length), .ref fmm, .ref lc, .ref lz, .ref af, .ref pt_, .int (nI p.length), .ref oc, .ref ty_, .ref sz_, .ref em])), (lt, .inl (g.2.1, 256, .inl f)), (md, .inl (g.2.1, 256, .inl fm1_29))] H := hP
      have hD : va_D A [(er, .inl (g.2.1, 1536, .inl fe)), (el, .inl (g.2.1, 6, .inl fl)), (m0, .inr (11, [.int (nI k), .int (nI n), .ref lt, .int (nI s.length), .ref er, .ref el, .int (nI h.length), .ref cm_, .int (nI c.length), .int (bI tk), .int (nI k0), .int (nI n0), .ref sv, .int (nI s0.length), .ref md, .int (nI s.length), .ref fmm, .ref lc, .ref lz, .ref af, .ref pt_, .int (nI p.length), .ref oc, .ref ty_, .ref sz_, .ref em])), (lt, .inl (g.2.1, 256, .inl f)), (md, .inl (g.2.1, 256, .inl fm1_29))] := hD
      try dsimp only at hw29
      refine lv_aload_n X.1 X.2.1 dX12_setLetter_32 rfl (lv_at hl 1 rfl) ?_
      refine va_get (D := g.1) (ci := 11) (v := .ref md) (C := RX12) (T := TX12) (N := 26) X.1 X.2.1 X.2.2.2.2 iwX12 X.2.2.2.1 hK hP 2 rfl rfl 14 (by decide) (X.2.2.2.2 _ q1034) (fun _ h9 => h9) rfl dX12_setLetter_33 ?_
      refine lv_iload_n X.1 X.2.1 dX12_setLetter_36 rfl (lv_at hl 2 rfl) ?_
      refine lv_iload_n X.1 X.2.1 dX12_setLetter_37 rfl (lv_at hl 3 rfl) ?_
      refine n_iast X hK hP hD hS 4 0 rfl rfl (by omega) (by decide) dX12_setLetter_38 (fun H locs hP hD hS => ?_)
      have hP : PP g [(er, .inl (g.2.1, 1536, .inl fe)), (el, .inl (g.2.1, 6, .inl fl)), (m0, .inr (11, [.int (nI k), .int (nI n), .ref lt, .int (nI s.length), .ref er, .ref el, .int (nI h.length), .ref cm_, .int (nI c.length), .int (bI tk), .int (nI k0), .int (nI n0), .ref sv, .int (nI s0.length), .ref md, .int (nI s.length), .ref fmm, .ref lc, .ref lz, .ref af, .ref pt_, .int (nI p.length), .ref oc, .ref ty_, .ref sz_, .ref em])), (lt, .inl (g.2.1, 256, .inl f)), (md, .inl (g.2.1, 256, .inl (upd fm1_29 j (nI x))))] H := hP
      have hD : va_D A [(er, .inl (g.2.1, 1536, .inl fe)), (el, .inl (g.2.1, 6, .inl fl)), (m0, .inr (11, [.int (nI k), .int (nI n), .ref lt, .int (nI s.length), .ref er, .ref el, .int (nI h.length), .ref cm_, .int (nI c.length), .int (bI tk), .int (nI k0), .int (nI n0), .ref sv, .int (nI s0.length), .ref md, .int (nI s.length), .ref fmm, .ref lc, .ref lz, .ref af, .ref pt_, .int (nI p.length), .ref oc, .ref ty_, .ref sz_, .ref em])), (lt, .inl (g.2.1, 256, .inl f)), (md, .inl (g.2.1, 256, .inl (upd fm1_29 j (nI x))))] := hD
      have hP : PP g [(er, .inl (g.2.1, 1536, .inl fe)), (el, .inl (g.2.1, 6, .inl fl)), (m0, .inr (11, [.int (nI k), .int (nI n), .ref lt, .int (nI s.length), .ref er, .ref el, .int (nI h.length), .ref cm_, .int (nI c.length), .int (bI tk), .int (nI k0), .int (nI n0), .ref sv, .int (nI s0.length), .ref md, .int (nI ((s.set j x).length)), .ref fmm, .ref lc, .ref lz, .ref af, .ref pt_, .int (nI p.length), .ref oc, .ref ty_, .ref sz_, .ref em])), (lt, .inl (g.2.1, 256, .inl f)), (md, .inl (g.2.1, 256, .inl (upd fm1_29 j (nI x))))] H := by rw [List.length_set]; exact hP
      have hD : va_D A [(er, .inl (g.2.1, 1536, .inl fe)), (el, .inl (g.2.1, 6, .inl fl)), (m0, .inr (11, [.int (nI k), .int (nI n), .ref lt, .int (nI s.length), .ref er, .ref el, .int (nI h.length), .ref cm_, .int (nI c.length), .int (bI tk), .int (nI k0), .int (nI n0), .ref sv, .int (nI s0.length), .ref md, .int (nI ((s.set j x).length)), .ref fmm, .ref lc, .ref lz, .ref af, .ref pt_, .int (nI p.length), .ref oc, .ref ty_, .ref sz_, .ref em])), (lt, .inl (g.2.1, 256, .inl f)), (md, .inl (g.2.1, 256, .inl (upd fm1_29 j (nI x))))] := by rw [List.length_set]; exact hD
      refine lv_aload_n X.1 X.2.1 dX12_setLetter_39 rfl (lv_at hl 1 rfl) ?_
      refine (m_edit g m0 lt er el cm_ sv md fmm lc lz af pt_ oc ty_ sz_ em k n s h c tk k0 n0 s0 (s.set j x) p f fe fl (upd fm1_29 j (nI x)) (by omega) (by assumption) (hlz) (rep_set hw29 j x) (by assumption)).callV (rest := []) (wr := []) X dX12_setLetter_40 q1194 tX12_edit hK hP hD hS hA [2, 3, 0, 1, 4] [] (by decide) rfl rfl (by decide) (by decide) 0 11 rfl rfl rfl hl ⟨⟨Nat.le_of_ble_eq_true rfl, Nat.le_of_ble_eq_true rfl⟩, Nat.le_of_ble_eq_true rfl, Nat.le_of_ble_eq_true rfl⟩ rfl rfl (Nat.le_of_ble_eq_true rfl) (fun u40 H locs hw40 hP hD hS => ?_)
      obtain ⟨f1_40, fe1_40, fl1_40⟩ := u40
      have hP : PP g [(m0, .inr (11, [.int (nI k), .int (nI n), .ref lt, .int (nI ((s.set j x).length)), .ref er, .ref el, .int (nI (((s :: h).take 6).length)), .ref cm_, .int (nI c.length), .int (bI tk), .int (nI k0), .int (nI n0), .ref sv, .int (nI s0.length), .ref md, .int (nI ((s.set j x).length)), .ref fmm, .ref lc, .ref lz, .ref af, .ref pt_, .int (nI p.length), .ref oc, .ref ty_, .ref sz_, .ref em])), (lt, .inl (g.2.1, 256, .inl f1_40)), (er, .inl (g.2.1, 1536, .inl fe1_40)), (el, .inl (g.2.1, 6, .inl fl1_40)), (md, .inl (g.2.1, 256, .inl (upd fm1_29 j (nI x))))] H := hP
      have hD : va_D A [(m0, .inr (11, [.int (nI k), .int (nI n), .ref lt, .int (nI ((s.set j x).length)), .ref er, .ref el, .int (nI (((s :: h).take 6).length)), .ref cm_, .int (nI c.length), .int (bI tk), .int (nI k0), .int (nI n0), .ref sv, .int (nI s0.length), .ref md, .int (nI ((s.set j x).length)), .ref fmm, .ref lc, .ref lz, .ref af, .ref pt_, .int (nI p.length), .ref oc, .ref ty_, .ref sz_, .ref em])), (lt, .inl (g.2.1, 256, .inl f1_40)), (er, .inl (g.2.1, 1536, .inl fe1_40)), (el, .inl (g.2.1, 6, .inl fl1_40)), (md, .inl (g.2.1, 256, .inl (upd fm1_29 j (nI x))))] := hD
      try dsimp only at hw40
      refine lv_iload_n X.1 X.2.1 dX12_setLetter_43 rfl (lv_at hl 0 rfl) ?_
      exact MuI.ret X hr hlk hK hS dX12_setLetter_44 (nI_nar _) (f1_40, fe1_40, fl1_40, (upd fm1_29 j (nI x))) (hP.sub [0, 1, 2, 3, 4] rfl) (hD.sub [0, 1, 2, 3, 4] (by decide) rfl) (⟨rfl, hw40⟩)
    · exfalso; rw [h8] at c16; cases c16
  · exfalso; rw [h7] at c5; cases c5

set_option maxHeartbeats 4000000 in
set_option maxRecDepth 100000 in
theorem m_setLetter_no (g : G5) (m0 : Nat) (lt : Nat) (er : Nat) (el : Nat) (cm_ : Nat) (sv : Nat) (md : Nat) (fmm : Nat) (lc : Nat) (lz : Nat) (af : Nat) (pt_ : Nat) (oc : Nat) (ty_ : Nat) (sz_ : Nat) (em : Nat) (k : Nat) (n : Nat) (s : List Nat) (h : List (List Nat)) (c : List Nat) (tk : Bool) (k0 : Nat) (n0 : Nat) (s0 : List Nat) (z : List Nat) (p : List Int) (B : Nat) (T : Nat) (x : Int32) (y : Int32) (hc : shp k n B T) (hs : s.length ≤ 256) (hno : (hasB x s.length && hasB y k) = false) : PuI yX12_setLetter cX12_setLetter 4 (some .int) 2 61 g [.ref m0, .int x, .int y] [(m0, .inr (11, [.int (nI k), .int (nI n), .ref lt, .int (nI s.length), .ref er, .ref el, .int (nI h.length), .ref cm_, .int (nI c.length), .int (bI tk), .int (nI k0), .int (nI n0), .ref sv, .int (nI s0.length), .ref md, .int (nI z.length), .ref fmm, .ref lc, .ref lz, .ref af, .ref pt_, .int (nI p.length), .ref oc, .ref ty_, .ref sz_, .ref em]))] (if hasB x s.length then (-1) else (-2)) := by
  refine PuI.of (by decide +kernel) (Nat.le_of_ble_eq_true rfl) ?_
  intro p_ l_ e_ S_ m_ args below meth co X hr hlk hP hK ls hl
  have X : CallFix p_ m_ co cX12_setLetter 4 S_ args lw_all RX12 := X
  have hl : lv_has ls 4 [(0, .ref m0), (1, .int x), (2, .int y)] := hl
  obtain ⟨hk2, hk4, hn1, hn6, hB, hT, hBT, hT2⟩ := hc.f
  have hB0 : 0 < B := by rw [hBT]; exact Nat.mul_pos (by omega) (by omega)
  refine lv_aload_n X.1 X.2.1 dX12_setLetter_0 rfl (lv_at hl 0 rfl) ?_
  refine lv_iload_n X.1 X.2.1 dX12_setLetter_1 rfl (lv_at hl 1 rfl) ?_
  refine (m_isPosition g m0 lt er el cm_ sv md fmm lc lz af pt_ oc ty_ sz_ em k n s h c tk k0 n0 s0 z p x (by omega)).callV (rest := []) X dX12_setLetter_2 q1129 tX12_isPosition hK (hP.sub [0] rfl) 0 11 rfl rfl rfl hl ⟨⟨Nat.le_of_ble_eq_true rfl, Nat.le_of_ble_eq_true rfl⟩, Nat.le_of_ble_eq_true rfl, Nat.le_of_ble_eq_true rfl⟩ rfl rfl (Nat.le_of_ble_eq_true rfl) ?_
  refine b_if_ne (tgt := 11) X dX12_setLetter_5 (by decide) (fun c5 => ?_) (fun c5 => ?_)
  · refine lv_aload_n X.1 X.2.1 dX12_setLetter_11 rfl (lv_at hl 0 rfl) ?_
    refine lv_iload_n X.1 X.2.1 dX12_setLetter_12 rfl (lv_at hl 2 rfl) ?_
    refine (m_isLetter g m0 lt er el cm_ sv md fmm lc lz af pt_ oc ty_ sz_ em k n s h c tk k0 n0 s0 z p B T y (by assumption)).callV (rest := []) X dX12_setLetter_13 q1222 tX12_isLetter hK (hP.sub [0] rfl) 0 11 rfl rfl rfl hl ⟨⟨Nat.le_of_ble_eq_true rfl, Nat.le_of_ble_eq_true rfl⟩, Nat.le_of_ble_eq_true rfl, Nat.le_of_ble_eq_true rfl⟩ rfl rfl (Nat.le_of_ble_eq_true rfl) ?_
    refine b_if_ne (tgt := 21) X dX12_setLetter_16 (by decide) (fun c16 => ?_) (fun c16 => ?_)
    · exfalso; rw [c5, c16] at hno; cases hno
    · refine lv_iconst (v := (-1)) X.1 X.2.1 dX12_setLetter_19 (by decide) ?_
      exact PuI.ret X hr hlk dX12_setLetter_20 (nI_nar _) (by rw [c5]; rfl)
  · refine lv_bipush (v := (-2)) X.1 X.2.1 dX12_setLetter_8 (by decide) ?_
    exact PuI.ret X hr hlk dX12_setLetter_10 (nI_nar _) (by rw [c5]; rfl)

set_option maxHeartbeats 4000000 in
set_option maxRecDepth 100000 in
theorem m_appendLetter_ok (g : G5) (m0 : Nat) (lt : Nat) (er : Nat) (el : Nat) (cm_ : Nat) (sv : Nat) (md : Nat) (fmm : Nat) (lc : Nat) (lz : Nat) (af : Nat) (pt_ : Nat) (oc : Nat) (ty_ : Nat) (sz_ : Nat) (em : Nat) (k : Nat) (n : Nat) (s : List Nat) (h : List (List Nat)) (c : List Nat) (tk : Bool) (k0 : Nat) (n0 : Nat) (s0 : List Nat) (z : List Nat) (p : List Int) (f : Nat → Int32) (fe : Nat → Int32) (fl : Nat → Int32) (fm_ : Nat → Int32) (B : Nat) (T : Nat) (x : Nat) (hc : shp k n B T) (hs : s.length ≤ 256) (hf : rep f s) (hlt : ltk k s) (hh : hrm fe fl h) (hl2 : s.length < 256) (hx : x < k) : MuI (S := (Nat → Int32) × (Nat → Int32) × (Nat → Int32) × (Nat → Int32)) yX12_appendLetter cX12_appendLetter 2 (some .int) 2 61 g [.ref m0, .int (nI x)] [(m0, .inr (11, [.int (nI k), .int (nI n), .ref lt, .int (nI s.length), .ref er, .ref el, .int (nI h.length), .ref cm_, .int (nI c.length), .int (bI tk), .int (nI k0), .int (nI n0), .ref sv, .int (nI s0.length), .ref md, .int (nI z.length), .ref fmm, .ref lc, .ref lz, .ref af, .ref pt_, .int (nI p.length), .ref oc, .ref ty_, .ref sz_, .ref em])), (lt, .inl (g.2.1, 256, .inl f)), (er, .inl (g.2.1, 1536, .inl fe)), (el, .inl (g.2.1, 6, .inl fl)), (md, .inl (g.2.1, 256, .inl fm_))] (fun r u => r = (nI ((s ++ [x]).length)) ∧ rep u.1 (s ++ [x]) ∧ hrm u.2.1 u.2.2.1 ((s :: h).take 6)) (fun u => [(m0, .inr (11, [.int (nI k), .int (nI n), .ref lt, .int (nI ((s ++ [x]).length)), .ref er, .ref el, .int (nI (((s :: h).take 6).length)), .ref cm_, .int (nI c.length), .int (bI tk), .int (nI k0), .int (nI n0), .ref sv, .int (nI s0.length), .ref md, .int (nI ((s ++ [x]).length)), .ref fmm, .ref lc, .ref lz, .ref af, .ref pt_, .int (nI p.length), .ref oc, .ref ty_, .ref sz_, .ref em])), (lt, .inl (g.2.1, 256, .inl u.1)), (er, .inl (g.2.1, 1536, .inl u.2.1)), (el, .inl (g.2.1, 6, .inl u.2.2.1)), (md, .inl (g.2.1, 256, .inl u.2.2.2))]) := by
  refine MuI.of (by decide +kernel) (Nat.le_of_ble_eq_true rfl) ?_
  intro p_ l_ e_ S_ m_ args below meth co X hr hlk hP hK A hA hD hS ls hl
  have X : CallFix p_ m_ co cX12_appendLetter 2 S_ args lw_all RX12 := X
  have hl : lv_has ls 2 [(0, .ref m0), (1, .int (nI x))] := hl
  obtain ⟨hk2, hk4, hn1, hn6, hB, hT, hBT, hT2⟩ := hc.f
  have hB0 : 0 < B := by rw [hBT]; exact Nat.mul_pos (by omega) (by omega)
  have hbs := hlt.bd hk4
  have h8 : hasB (nI x) k = true := by rw [hasB_N (by omega)]; exact decide_eq_true (by omega)
  have hlz : (s ++ [x]).length ≤ 256 := by simp; omega
  refine lv_aload_n X.1 X.2.1 dX12_appendLetter_0 rfl (lv_at hl 0 rfl) ?_
  refine lv_iload_n X.1 X.2.1 dX12_appendLetter_1 rfl (lv_at hl 1 rfl) ?_
  refine (m_isLetter g m0 lt er el cm_ sv md fmm lc lz af pt_ oc ty_ sz_ em k n s h c tk k0 n0 s0 z p B T (nI x) (by assumption)).callV (rest := []) X dX12_appendLetter_2 q1222 tX12_isLetter hK (hP.sub [0] rfl) 0 11 rfl rfl rfl hl ⟨⟨Nat.le_of_ble_eq_true rfl, Nat.le_of_ble_eq_true rfl⟩, Nat.le_of_ble_eq_true rfl, Nat.le_of_ble_eq_true rfl⟩ rfl rfl (Nat.le_of_ble_eq_true rfl) ?_
  refine b_if_ne (tgt := 10) X dX12_appendLetter_5 (by decide) (fun c5 => ?_) (fun c5 => ?_)
  · refine lv_aload_n X.1 X.2.1 dX12_appendLetter_10 rfl (lv_at hl 0 rfl) ?_
    refine va_get (D := g.1) (ci := 11) (v := .int (nI s.length)) (C := RX12) (T := TX12) (N := 26) X.1 X.2.1 X.2.2.2.2 iwX12 X.2.2.2.1 hK hP 0 rfl rfl 3 (by decide) (X.2.2.2.2 _ q1023) (fun _ h9 => h9) rfl dX12_appendLetter_11 ?_
    refine lv_sipush (v := (nI 256)) X.1 X.2.1 dX12_appendLetter_14 (by decide) ?_
    refine z_icmp_ne (tgt := 23) X dX12_appendLetter_17 (by decide) (nI_toInt (by omega)) (nI_toInt (by omega)) (fun c17 => ?_) (fun c17 => ?_)
    · refine lv_aload_n X.1 X.2.1 dX12_appendLetter_23 rfl (lv_at hl 0 rfl) ?_
      refine (m_begin g m0 lt er el cm_ sv md fmm lc lz af pt_ oc ty_ sz_ em k n s h c tk k0 n0 s0 z p f fm_ (by omega) (by assumption)).callV (rest := []) (wr := [(er, .inl (g.2.1, 1536, .inl fe)), (el, .inl (g.2.1, 6, .inl fl))]) X dX12_appendLetter_24 q1226 tX12_begin hK hP hD hS hA [0, 1, 4] [2, 3] (by decide) rfl rfl (by decide) (by decide) 0 11 rfl rfl rfl hl ⟨⟨Nat.le_of_ble_eq_true rfl, Nat.le_of_ble_eq_true rfl⟩, Nat.le_of_ble_eq_true rfl, Nat.le_of_ble_eq_true rfl⟩ rfl rfl (Nat.le_of_ble_eq_true rfl) (fun u24 H locs hw24 hP hD hS => ?_)
      obtain ⟨fm1_24, rfl⟩ : ∃ z, z = u24 := ⟨_, rfl⟩
      have hP : PP g [(er, .inl (g.2.1, 1536, .inl fe)), (el, .inl (g.2.1, 6, .inl fl)), (m0, .inr (11, [.int (nI k), .int (nI n), .ref lt, .int (nI s.length), .ref er, .ref el, .int (nI h.length), .ref cm_, .int (nI c.length), .int (bI tk), .int (nI k0), .int (nI n0), .ref sv, .int (nI s0.length), .ref md, .int (nI s.length), .ref fmm, .ref lc, .ref lz, .ref af, .ref pt_, .int (nI p.length), .ref oc, .ref ty_, .ref sz_, .ref em])), (lt, .inl (g.2.1, 256, .inl f)), (md, .inl (g.2.1, 256, .inl fm1_24))] H := hP
      have hD : va_D A [(er, .inl (g.2.1, 1536, .inl fe)), (el, .inl (g.2.1, 6, .inl fl)), (m0, .inr (11, [.int (nI k), .int (nI n), .ref lt, .int (nI s.length), .ref er, .ref el, .int (nI h.length), .ref cm_, .int (nI c.length), .int (bI tk), .int (nI k0), .int (nI n0), .ref sv, .int (nI s0.length), .ref md, .int (nI s.length), .ref fmm, .ref lc, .ref lz, .ref af, .ref pt_, .int (nI p.length), .ref oc, .ref ty_, .ref sz_, .ref em])), (lt, .inl (g.2.1, 256, .inl f)), (md, .inl (g.2.1, 256, .inl fm1_24))] := hD
      try dsimp only at hw24
      refine lv_aload_n X.1 X.2.1 dX12_appendLetter_27 rfl (lv_at hl 0 rfl) ?_
      refine lv_iload_n X.1 X.2.1 dX12_appendLetter_28 rfl (lv_at hl 1 rfl) ?_
      refine (m_make g m0 lt er el cm_ sv md fmm lc lz af pt_ oc ty_ sz_ em k n s h c tk k0 n0 s0 s p fm1_24 x (by omega) (hw24)).callV (rest := []) (wr := [(er, .inl (g.2.1, 1536, .inl fe)), (el, .inl (g.2.1, 6, .inl fl)), (lt, .inl (g.2.1, 256, .inl f))]) X dX12_appendLetter_29 q1141 tX12_make hK hP hD hS hA [2, 4] [0, 1, 3] (by decide) rfl rfl (by decide) (by decide) 0 11 rfl rfl rfl hl ⟨⟨Nat.le_of_ble_eq_true rfl, Nat.le_of_ble_eq_true rfl⟩, Nat.le_of_ble_eq_true rfl, Nat.le_of_ble_eq_true rfl⟩ rfl rfl (Nat.le_of_ble_eq_true rfl) (fun u29 H locs hw29 hP hD hS => ?_)
      obtain ⟨fm1_29, rfl⟩ : ∃ z, z = u29 := ⟨_, rfl⟩
      have hP : PP g [(er, .inl (g.2.1, 1536, .inl fe)), (el, .inl (g.2.1, 6, .inl fl)), (lt, .inl (g.2.1, 256, .inl f)), (m0, .inr (11, [.int (nI k), .int (nI n), .ref lt, .int (nI s.length), .ref er, .ref el, .int (nI h.length), .ref cm_, .int (nI c.length), .int (bI tk), .int (nI k0), .int (nI n0), .ref sv, .int (nI s0.length), .ref md, .int (nI ((s ++ [x]).length)), .ref fmm, .ref lc, .ref lz, .ref af, .ref pt_, .int (nI p.length), .ref oc, .ref ty_, .ref sz_, .ref em])), (md, .inl (g.2.1, 256, .inl fm1_29))] H := hP
      have hD : va_D A [(er, .inl (g.2.1, 1536, .inl fe)), (el, .inl (g.2.1, 6, .inl fl)), (lt, .inl (g.2.1, 256, .inl f)), (m0, .inr (11, [.int (nI k), .int (nI n), .ref lt, .int (nI s.length), .ref er, .ref el, .int (nI h.length), .ref cm_, .int (nI c.length), .int (bI tk), .int (nI k0), .int (nI n0), .ref sv, .int (nI s0.length), .ref md, .int (nI ((s ++ [x]).length)), .ref fmm, .ref lc, .ref lz, .ref af, .ref pt_, .int (nI p.length), .ref oc, .ref ty_, .ref sz_, .ref em])), (md, .inl (g.2.1, 256, .inl fm1_29))] := hD
      try dsimp only at hw29
      refine lv_aload_n X.1 X.2.1 dX12_appendLetter_32 rfl (lv_at hl 0 rfl) ?_
      refine (m_edit g m0 lt er el cm_ sv md fmm lc lz af pt_ oc ty_ sz_ em k n s h c tk k0 n0 s0 (s ++ [x]) p f fe fl fm1_29 (by omega) (by assumption) (hlz) (hw29) (by assumption)).callV (rest := []) (wr := []) X dX12_appendLetter_33 q1194 tX12_edit hK hP hD hS hA [3, 2, 0, 1, 4] [] (by decide) rfl rfl (by decide) (by decide) 0 11 rfl rfl rfl hl ⟨⟨Nat.le_of_ble_eq_true rfl, Nat.le_of_ble_eq_true rfl⟩, Nat.le_of_ble_eq_true rfl, Nat.le_of_ble_eq_true rfl⟩ rfl rfl (Nat.le_of_ble_eq_true rfl) (fun u33 H locs hw33 hP hD hS => ?_)
      obtain ⟨f1_33, fe1_33, fl1_33⟩ := u33
      have hP : PP g [(m0, .inr (11, [.int (nI k), .int (nI n), .ref lt, .int (nI ((s ++ [x]).length)), .ref er, .ref el, .int (nI (((s :: h).take 6).length)), .ref cm_, .int (nI c.length), .int (bI tk), .int (nI k0), .int (nI n0), .ref sv, .int (nI s0.length), .ref md, .int (nI ((s ++ [x]).length)), .ref fmm, .ref lc, .ref lz, .ref af, .ref pt_, .int (nI p.length), .ref oc, .ref ty_, .ref sz_, .ref em])), (lt, .inl (g.2.1, 256, .inl f1_33)), (er, .inl (g.2.1, 1536, .inl fe1_33)), (el, .inl (g.2.1, 6, .inl fl1_33)), (md, .inl (g.2.1, 256, .inl fm1_29))] H := hP
      have hD : va_D A [(m0, .inr (11, [.int (nI k), .int (nI n), .ref lt, .int (nI ((s ++ [x]).length)), .ref er, .ref el, .int (nI (((s :: h).take 6).length)), .ref cm_, .int (nI c.length), .int (bI tk), .int (nI k0), .int (nI n0), .ref sv, .int (nI s0.length), .ref md, .int (nI ((s ++ [x]).length)), .ref fmm, .ref lc, .ref lz, .ref af, .ref pt_, .int (nI p.length), .ref oc, .ref ty_, .ref sz_, .ref em])), (lt, .inl (g.2.1, 256, .inl f1_33)), (er, .inl (g.2.1, 1536, .inl fe1_33)), (el, .inl (g.2.1, 6, .inl fl1_33)), (md, .inl (g.2.1, 256, .inl fm1_29))] := hD
      try dsimp only at hw33
      refine lv_aload_n X.1 X.2.1 dX12_appendLetter_36 rfl (lv_at hl 0 rfl) ?_
      refine va_get (D := g.1) (ci := 11) (v := .int (nI ((s ++ [x]).length))) (C := RX12) (T := TX12) (N := 26) X.1 X.2.1 X.2.2.2.2 iwX12 X.2.2.2.1 hK hP 0 rfl rfl 3 (by decide) (X.2.2.2.2 _ q1023) (fun _ h9 => h9) rfl dX12_appendLetter_37 ?_
      exact MuI.ret X hr hlk hK hS dX12_appendLetter_40 (nI_nar _) (f1_33, fe1_33, fl1_33, fm1_29) (hP.sub [0, 1, 2, 3, 4] rfl) (hD.sub [0, 1, 2, 3, 4] (by decide) rfl) (⟨rfl, hw33⟩)
    · exfalso; omega
  · exfalso; rw [h8] at c5; cases c5

set_option maxHeartbeats 4000000 in
set_option maxRecDepth 100000 in
theorem m_appendLetter_no (g : G5) (m0 : Nat) (lt : Nat) (er : Nat) (el : Nat) (cm_ : Nat) (sv : Nat) (md : Nat) (fmm : Nat) (lc : Nat) (lz : Nat) (af : Nat) (pt_ : Nat) (oc : Nat) (ty_ : Nat) (sz_ : Nat) (em : Nat) (k : Nat) (n : Nat) (s : List Nat) (h : List (List Nat)) (c : List Nat) (tk : Bool) (k0 : Nat) (n0 : Nat) (s0 : List Nat) (z : List Nat) (p : List Int) (B : Nat) (T : Nat) (x : Int32) (hc : shp k n B T) (hs : s.length ≤ 256) (hno : hasB x k = false ∨ s.length = 256) : PuI yX12_appendLetter cX12_appendLetter 2 (some .int) 2 61 g [.ref m0, .int x] [(m0, .inr (11, [.int (nI k), .int (nI n), .ref lt, .int (nI s.length), .ref er, .ref el, .int (nI h.length), .ref cm_, .int (nI c.length), .int (bI tk), .int (nI k0), .int (nI n0), .ref sv, .int (nI s0.length), .ref md, .int (nI z.length), .ref fmm, .ref lc, .ref lz, .ref af, .ref pt_, .int (nI p.length), .ref oc, .ref ty_, .ref sz_, .ref em]))] (if hasB x k then (-4) else (-1)) := by
  refine PuI.of (by decide +kernel) (Nat.le_of_ble_eq_true rfl) ?_
  intro p_ l_ e_ S_ m_ args below meth co X hr hlk hP hK ls hl
  have X : CallFix p_ m_ co cX12_appendLetter 2 S_ args lw_all RX12 := X
  have hl : lv_has ls 2 [(0, .ref m0), (1, .int x)] := hl
  obtain ⟨hk2, hk4, hn1, hn6, hB, hT, hBT, hT2⟩ := hc.f
  have hB0 : 0 < B := by rw [hBT]; exact Nat.mul_pos (by omega) (by omega)
  refine lv_aload_n X.1 X.2.1 dX12_appendLetter_0 rfl (lv_at hl 0 rfl) ?_
  refine lv_iload_n X.1 X.2.1 dX12_appendLetter_1 rfl (lv_at hl 1 rfl) ?_
  refine (m_isLetter g m0 lt er el cm_ sv md fmm lc lz af pt_ oc ty_ sz_ em k n s h c tk k0 n0 s0 z p B T x (by assumption)).callV (rest := []) X dX12_appendLetter_2 q1222 tX12_isLetter hK (hP.sub [0] rfl) 0 11 rfl rfl rfl hl ⟨⟨Nat.le_of_ble_eq_true rfl, Nat.le_of_ble_eq_true rfl⟩, Nat.le_of_ble_eq_true rfl, Nat.le_of_ble_eq_true rfl⟩ rfl rfl (Nat.le_of_ble_eq_true rfl) ?_
  refine b_if_ne (tgt := 10) X dX12_appendLetter_5 (by decide) (fun c5 => ?_) (fun c5 => ?_)
  · refine lv_aload_n X.1 X.2.1 dX12_appendLetter_10 rfl (lv_at hl 0 rfl) ?_
    refine va_get (D := g.1) (ci := 11) (v := .int (nI s.length)) (C := RX12) (T := TX12) (N := 26) X.1 X.2.1 X.2.2.2.2 iwX12 X.2.2.2.1 hK hP 0 rfl rfl 3 (by decide) (X.2.2.2.2 _ q1023) (fun _ h9 => h9) rfl dX12_appendLetter_11 ?_
    refine lv_sipush (v := (nI 256)) X.1 X.2.1 dX12_appendLetter_14 (by decide) ?_
    refine z_icmp_ne (tgt := 23) X dX12_appendLetter_17 (by decide) (nI_toInt (by omega)) (nI_toInt (by omega)) (fun c17 => ?_) (fun c17 => ?_)
    · exfalso; (rcases hno with h | h) <;> first | (rw [h] at c5; cases c5) | omega
    · refine lv_bipush (v := (-4)) X.1 X.2.1 dX12_appendLetter_20 (by decide) ?_
      exact PuI.ret X hr hlk dX12_appendLetter_22 (nI_nar _) (by rw [c5]; rfl)
  · refine lv_iconst (v := (-1)) X.1 X.2.1 dX12_appendLetter_8 (by decide) ?_
    exact PuI.ret X hr hlk dX12_appendLetter_9 (nI_nar _) (by rw [c5]; rfl)

set_option maxHeartbeats 4000000 in
set_option maxRecDepth 100000 in
theorem m_rotate_ok (g : G5) (m0 : Nat) (lt : Nat) (er : Nat) (el : Nat) (cm_ : Nat) (sv : Nat) (md : Nat) (fmm : Nat) (lc : Nat) (lz : Nat) (af : Nat) (pt_ : Nat) (oc : Nat) (ty_ : Nat) (sz_ : Nat) (em : Nat) (k : Nat) (n : Nat) (s : List Nat) (h : List (List Nat)) (c : List Nat) (tk : Bool) (k0 : Nat) (n0 : Nat) (s0 : List Nat) (z : List Nat) (p : List Int) (f : Nat → Int32) (fe : Nat → Int32) (fl : Nat → Int32) (fm_ : Nat → Int32) (B : Nat) (T : Nat) (x : Int32) (hc : shp k n B T) (hs : s.length ≤ 256) (hf : rep f s) (hlt : ltk k s) (hh : hrm fe fl h) (h0 : 0 < s.length) : MuI (S := (Nat → Int32) × (Nat → Int32) × (Nat → Int32) × (Nat → Int32)) yX12_rotate cX12_rotate 3 (some .int) 2 61 g [.ref m0, .int x] [(m0, .inr (11, [.int (nI k), .int (nI n), .ref lt, .int (nI s.length), .ref er, .ref el, .int (nI h.length), .ref cm_, .int (nI c.length), .int (bI tk), .int (nI k0), .int (nI n0), .ref sv, .int (nI s0.length), .ref md, .int (nI z.length), .ref fmm, .ref lc, .ref lz, .ref af, .ref pt_, .int (nI p.length), .ref oc, .ref ty_, .ref sz_, .ref em])), (lt, .inl (g.2.1, 256, .inl f)), (er, .inl (g.2.1, 1536, .inl fe)), (el, .inl (g.2.1, 6, .inl fl)), (md, .inl (g.2.1, 256, .inl fm_))] (fun r u => r = (nI ((partL s (x.toInt % (s.length : Int)).toNat s.length 0).getD 0 0)) ∧ rep u.1 (partL s (x.toInt % (s.length : Int)).toNat s.length 0) ∧ hrm u.2.1 u.2.2.1 ((s :: h).take 6)) (fun u => [(m0, .inr (11, [.int (nI k), .int (nI n), .ref lt, .int (nI ((partL s (x.toInt % (s.length : Int)).toNat s.length 0).length)), .ref er, .ref el, .int (nI (((s :: h).take 6).length)), .ref cm_, .int (nI c.length), .int (bI tk), .int (nI k0), .int (nI n0), .ref sv, .int (nI s0.length), .ref md, .int (nI ((partL s (x.toInt % (s.length : Int)).toNat s.length 0).length)), .ref fmm, .ref lc, .ref lz, .ref af, .ref pt_, .int (nI p.length), .ref oc, .ref ty_, .ref sz_, .ref em])), (lt, .inl (g.2.1, 256, .inl u.1)), (er, .inl (g.2.1, 1536, .inl u.2.1)), (el, .inl (g.2.1, 6, .inl u.2.2.1)), (md, .inl (g.2.1, 256, .inl u.2.2.2))]) := by
  refine MuI.of (by decide +kernel) (Nat.le_of_ble_eq_true rfl) ?_
  intro p_ l_ e_ S_ m_ args below meth co X hr hlk hP hK A hA hD hS ls hl
  have X : CallFix p_ m_ co cX12_rotate 3 S_ args lw_all RX12 := X
  have hl : lv_has ls 3 [(0, .ref m0), (1, .int x)] := hl
  obtain ⟨hk2, hk4, hn1, hn6, hB, hT, hBT, hT2⟩ := hc.f
  have hB0 : 0 < B := by rw [hBT]; exact Nat.mul_pos (by omega) (by omega)
  have hbs := hlt.bd hk4
  have hlz := partL_len s (x.toInt % (s.length : Int)).toNat s.length 0
  refine lv_aload_n X.1 X.2.1 dX12_rotate_0 rfl (lv_at hl 0 rfl) ?_
  refine va_get (D := g.1) (ci := 11) (v := .int (nI s.length)) (C := RX12) (T := TX12) (N := 26) X.1 X.2.1 X.2.2.2.2 iwX12 X.2.2.2.1 hK hP 0 rfl rfl 3 (by decide) (X.2.2.2.2 _ q1023) (fun _ h9 => h9) rfl dX12_rotate_1 ?_
  refine z_if_ne (tgt := 10) X dX12_rotate_4 (by decide) (nI_toInt (by omega)) (fun c4 => ?_) (fun c4 => ?_)
  · refine lv_aload_n X.1 X.2.1 dX12_rotate_10 rfl (lv_at hl 0 rfl) ?_
    refine lv_iconst (v := (nI 0)) X.1 X.2.1 dX12_rotate_11 (by decide) ?_
    refine va_put (D := g.1) (ci := 11) (v := .int (nI 0)) (ty := .int) (C := RX12) (T := TX12) (N := 26) X.1 X.2.1 X.2.2.2.2 iwX12 tyX12 tyX12_ok nmX12 X.2.2.2.1 hK hP hD hS 0 rfl rfl 15 (by decide) (X.2.2.2.2 _ q1035) (fun _ h9 => h9) rfl (by decide +kernel) rfl rfl (Nat.le_of_ble_eq_true rfl) dX12_rotate_12 (fun H locs hP hD hS => ?_)
    have hP : PP g [(m0, .inr (11, [.int (nI k), .int (nI n), .ref lt, .int (nI s.length), .ref er, .ref el, .int (nI h.length), .ref cm_, .int (nI c.length), .int (bI tk), .int (nI k0), .int (nI n0), .ref sv, .int (nI s0.length), .ref md, .int (nI 0), .ref fmm, .ref lc, .ref lz, .ref af, .ref pt_, .int (nI p.length), .ref oc, .ref ty_, .ref sz_, .ref em])), (lt, .inl (g.2.1, 256, .inl f)), (er, .inl (g.2.1, 1536, .inl fe)), (el, .inl (g.2.1, 6, .inl fl)), (md, .inl (g.2.1, 256, .inl fm_))] H := hP
    have hD : va_D A [(m0, .inr (11, [.int (nI k), .int (nI n), .ref lt, .int (nI s.length), .ref er, .ref el, .int (nI h.length), .ref cm_, .int (nI c.length), .int (bI tk), .int (nI k0), .int (nI n0), .ref sv, .int (nI s0.length), .ref md, .int (nI 0), .ref fmm, .ref lc, .ref lz, .ref af, .ref pt_, .int (nI p.length), .ref oc, .ref ty_, .ref sz_, .ref em])), (lt, .inl (g.2.1, 256, .inl f)), (er, .inl (g.2.1, 1536, .inl fe)), (el, .inl (g.2.1, 6, .inl fl)), (md, .inl (g.2.1, 256, .inl fm_))] := hD
    have hP : PP g [(m0, .inr (11, [.int (nI k), .int (nI n), .ref lt, .int (nI s.length), .ref er, .ref el, .int (nI h.length), .ref cm_, .int (nI c.length), .int (bI tk), .int (nI k0), .int (nI n0), .ref sv, .int (nI s0.length), .ref md, .int (nI (([] : List Nat).length)), .ref fmm, .ref lc, .ref lz, .ref af, .ref pt_, .int (nI p.length), .ref oc, .ref ty_, .ref sz_, .ref em])), (lt, .inl (g.2.1, 256, .inl f)), (er, .inl (g.2.1, 1536, .inl fe)), (el, .inl (g.2.1, 6, .inl fl)), (md, .inl (g.2.1, 256, .inl fm_))] H := by exact hP
    have hD : va_D A [(m0, .inr (11, [.int (nI k), .int (nI n), .ref lt, .int (nI s.length), .ref er, .ref el, .int (nI h.length), .ref cm_, .int (nI c.length), .int (bI tk), .int (nI k0), .int (nI n0), .ref sv, .int (nI s0.length), .ref md, .int (nI (([] : List Nat).length)), .ref fmm, .ref lc, .ref lz, .ref af, .ref pt_, .int (nI p.length), .ref oc, .ref ty_, .ref sz_, .ref em])), (lt, .inl (g.2.1, 256, .inl f)), (er, .inl (g.2.1, 1536, .inl fe)), (el, .inl (g.2.1, 6, .inl fl)), (md, .inl (g.2.1, 256, .inl fm_))] := by exact hD
    refine lv_iconst (v := (nI 0)) X.1 X.2.1 dX12_rotate_15 (by decide) ?_
    refine lv_istore_n (lv' := [(2, .int (nI 0)), (0, .ref m0), (1, .int x)]) X.1 X.2.1 dX12_rotate_16 rfl hl (by decide) rfl (fun ls hl => ?_)
    have L17 : ∀ (r : Nat) (i : Nat) (z1 : List Nat) (fm1 : Nat → Int32) (h1 : i + r = s.length) (hl1 : z1.length = i) (hq : z1 ++ partL s (x.toInt % (s.length : Int)).toNat r i = (partL s (x.toInt % (s.length : Int)).toNat s.length 0)) (hf1 : rep fm1 z1) (H : Heap) (locs : List Loc) (hP : PP g [(m0, .inr (11, [.int (nI k), .int (nI n), .ref lt, .int (nI s.length), .ref er, .ref el, .int (nI h.length), .ref cm_, .int (nI c.length), .int (bI tk), .int (nI k0), .int (nI n0), .ref sv, .int (nI s0.length), .ref md, .int (nI z1.length), .ref fmm, .ref lc, .ref lz, .ref af, .ref pt_, .int (nI p.length), .ref oc, .ref ty_, .ref sz_, .ref em])), (lt, .inl (g.2.1, 256, .inl f)), (er, .inl (g.2.1, 1536, .inl fe)), (el, .inl (g.2.1, 6, .inl fl)), (md, .inl (g.2.1, 256, .inl fm1))] H) (hD : va_D A [(m0, .inr (11, [.int (nI k), .int (nI n), .ref lt, .int (nI s.length), .ref er, .ref el, .int (nI h.length), .ref cm_, .int (nI c.length), .int (bI tk), .int (nI k0), .int (nI n0), .ref sv, .int (nI s0.length), .ref md, .int (nI z1.length), .ref fmm, .ref lc, .ref lz, .ref af, .ref pt_, .int (nI p.length), .ref oc, .ref ty_, .ref sz_, .ref em])), (lt, .inl (g.2.1, 256, .inl f)), (er, .inl (g.2.1, 1536, .inl fe)), (el, .inl (g.2.1, 6, .inl fl)), (md, .inl (g.2.1, 256, .inl fm1))]) (hS : va_S A S_.heap H locs) (ls : Array Slot) (hl : lv_has ls 3 [(2, .int (nI i)), (0, .ref m0), (1, .int x)]), W p_ l_ e_ { frames := 2, cells := 0, slots := 0, locals := 61 } S_ m_ args below meth co H locs 0 0 (MQ below (va_Qi (S := (Nat → Int32) × (Nat → Int32) × (Nat → Int32) × (Nat → Int32)) (fun r u => r = (nI ((partL s (x.toInt % (s.length : Int)).toNat s.length 0).getD 0 0)) ∧ rep u.1 (partL s (x.toInt % (s.length : Int)).toNat s.length 0) ∧ hrm u.2.1 u.2.2.1 ((s :: h).take 6)) (MuB g A (fun u => [(m0, .inr (11, [.int (nI k), .int (nI n), .ref lt, .int (nI ((partL s (x.toInt % (s.length : Int)).toNat s.length 0).length)), .ref er, .ref el, .int (nI (((s :: h).take 6).length)), .ref cm_, .int (nI c.length), .int (bI tk), .int (nI k0), .int (nI n0), .ref sv, .int (nI s0.length), .ref md, .int (nI ((partL s (x.toInt % (s.length : Int)).toNat s.length 0).length)), .ref fmm, .ref lc, .ref lz, .ref af, .ref pt_, .int (nI p.length), .ref oc, .ref ty_, .ref sz_, .ref em])), (lt, .inl (g.2.1, 256, .inl u.1)), (er, .inl (g.2.1, 1536, .inl u.2.1)), (el, .inl (g.2.1, 6, .inl u.2.2.1)), (md, .inl (g.2.1, 256, .inl u.2.2.2))])) A) args S_ 0 0 A) (F0 m_ 17 ls []) := by
      intro r
      induction r with
      | zero =>
        intro i z1 fm1 h1 hl1 hq hf1 H locs hP hD hS ls hl
        have e9 : z1 = (partL s (x.toInt % (s.length : Int)).toNat s.length 0) := by simpa [partL] using hq
        refine lv_iload_n X.1 X.2.1 dX12_rotate_17 rfl (lv_at hl 0 rfl) ?_
        refine lv_aload_n X.1 X.2.1 dX12_rotate_18 rfl (lv_at hl 1 rfl) ?_
        refine va_get (D := g.1) (ci := 11) (v := .int (nI s.length)) (C := RX12) (T := TX12) (N := 26) X.1 X.2.1 X.2.2.2.2 iwX12 X.2.2.2.1 hK hP 0 rfl rfl 3 (by decide) (X.2.2.2.2 _ q1023) (fun _ h9 => h9) rfl dX12_rotate_19 ?_
        refine z_icmp_ge (tgt := 44) X dX12_rotate_22 (by decide) (nI_toInt (by omega)) (nI_toInt (by omega)) (fun c22 => ?_) (fun c22 => ?_)
        · have hP : PP g [(m0, .inr (11, [.int (nI k), .int (nI n), .ref lt, .int (nI s.length), .ref er, .ref el, .int (nI h.length), .ref cm_, .int (nI c.length), .int (bI tk), .int (nI k0), .int (nI n0), .ref sv, .int (nI s0.length), .ref md, .int (nI ((partL s (x.toInt % (s.length : Int)).toNat s.length 0).length)), .ref fmm, .ref lc, .ref lz, .ref af, .ref pt_, .int (nI p.length), .ref oc, .ref ty_, .ref sz_, .ref em])), (lt, .inl (g.2.1, 256, .inl f)), (er, .inl (g.2.1, 1536, .inl fe)), (el, .inl (g.2.1, 6, .inl fl)), (md, .inl (g.2.1, 256, .inl fm1))] H := by rw [← e9]; exact hP
          have hD : va_D A [(m0, .inr (11, [.int (nI k), .int (nI n), .ref lt, .int (nI s.length), .ref er, .ref el, .int (nI h.length), .ref cm_, .int (nI c.length), .int (bI tk), .int (nI k0), .int (nI n0), .ref sv, .int (nI s0.length), .ref md, .int (nI ((partL s (x.toInt % (s.length : Int)).toNat s.length 0).length)), .ref fmm, .ref lc, .ref lz, .ref af, .ref pt_, .int (nI p.length), .ref oc, .ref ty_, .ref sz_, .ref em])), (lt, .inl (g.2.1, 256, .inl f)), (er, .inl (g.2.1, 1536, .inl fe)), (el, .inl (g.2.1, 6, .inl fl)), (md, .inl (g.2.1, 256, .inl fm1))] := by rw [← e9]; exact hD
          refine lv_aload_n X.1 X.2.1 dX12_rotate_44 rfl (lv_at hl 1 rfl) ?_
          refine (m_edit g m0 lt er el cm_ sv md fmm lc lz af pt_ oc ty_ sz_ em k n s h c tk k0 n0 s0 (partL s (x.toInt % (s.length : Int)).toNat s.length 0) p f fe fl fm1 (by omega) (by assumption) (by omega) (rep_eq hf1 e9) (by assumption)).callV (rest := []) (wr := []) X dX12_rotate_45 q1194 tX12_edit hK hP hD hS hA [0, 1, 2, 3, 4] [] (by decide) rfl rfl (by decide) (by decide) 0 11 rfl rfl rfl hl ⟨⟨Nat.le_of_ble_eq_true rfl, Nat.le_of_ble_eq_true rfl⟩, Nat.le_of_ble_eq_true rfl, Nat.le_of_ble_eq_true rfl⟩ rfl rfl (Nat.le_of_ble_eq_true rfl) (fun u45 H locs hw45 hP hD hS => ?_)
          obtain ⟨f1_45, fe1_45, fl1_45⟩ := u45
          have hP : PP g [(m0, .inr (11, [.int (nI k), .int (nI n), .ref lt, .int (nI ((partL s (x.toInt % (s.length : Int)).toNat s.length 0).length)), .ref er, .ref el, .int (nI (((s :: h).take 6).length)), .ref cm_, .int (nI c.length), .int (bI tk), .int (nI k0), .int (nI n0), .ref sv, .int (nI s0.length), .ref md, .int (nI ((partL s (x.toInt % (s.length : Int)).toNat s.length 0).length)), .ref fmm, .ref lc, .ref lz, .ref af, .ref pt_, .int (nI p.length), .ref oc, .ref ty_, .ref sz_, .ref em])), (lt, .inl (g.2.1, 256, .inl f1_45)), (er, .inl (g.2.1, 1536, .inl fe1_45)), (el, .inl (g.2.1, 6, .inl fl1_45)), (md, .inl (g.2.1, 256, .inl fm1))] H := hP
          have hD : va_D A [(m0, .inr (11, [.int (nI k), .int (nI n), .ref lt, .int (nI ((partL s (x.toInt % (s.length : Int)).toNat s.length 0).length)), .ref er, .ref el, .int (nI (((s :: h).take 6).length)), .ref cm_, .int (nI c.length), .int (bI tk), .int (nI k0), .int (nI n0), .ref sv, .int (nI s0.length), .ref md, .int (nI ((partL s (x.toInt % (s.length : Int)).toNat s.length 0).length)), .ref fmm, .ref lc, .ref lz, .ref af, .ref pt_, .int (nI p.length), .ref oc, .ref ty_, .ref sz_, .ref em])), (lt, .inl (g.2.1, 256, .inl f1_45)), (er, .inl (g.2.1, 1536, .inl fe1_45)), (el, .inl (g.2.1, 6, .inl fl1_45)), (md, .inl (g.2.1, 256, .inl fm1))] := hD
          try dsimp only at hw45
          refine lv_aload_n X.1 X.2.1 dX12_rotate_48 rfl (lv_at hl 1 rfl) ?_
          refine va_get (D := g.1) (ci := 11) (v := .ref lt) (C := RX12) (T := TX12) (N := 26) X.1 X.2.1 X.2.2.2.2 iwX12 X.2.2.2.1 hK hP 0 rfl rfl 2 (by decide) (X.2.2.2.2 _ q1022) (fun _ h9 => h9) rfl dX12_rotate_49 ?_
          refine lv_iconst (v := (nI 0)) X.1 X.2.1 dX12_rotate_52 (by decide) ?_
          refine n_iald X hK hP 1 0 rfl rfl (by omega) (by decide) dX12_rotate_53 ?_
          refine tp_i (y := (nI ((partL s (x.toInt % (s.length : Int)).toNat s.length 0).getD 0 0))) (hw45.1 0 (by omega)) ?_
          exact MuI.ret X hr hlk hK hS dX12_rotate_54 (nI_nar _) (f1_45, fe1_45, fl1_45, fm1) (hP.sub [0, 1, 2, 3, 4] rfl) (hD.sub [0, 1, 2, 3, 4] (by decide) rfl) (⟨rfl, hw45⟩)
        · exfalso; omega
      | succ r ih17 =>
        intro i z1 fm1 h1 hl1 hq hf1 H locs hP hD hS ls hl
        refine lv_iload_n X.1 X.2.1 dX12_rotate_17 rfl (lv_at hl 0 rfl) ?_
        refine lv_aload_n X.1 X.2.1 dX12_rotate_18 rfl (lv_at hl 1 rfl) ?_
        refine va_get (D := g.1) (ci := 11) (v := .int (nI s.length)) (C := RX12) (T := TX12) (N := 26) X.1 X.2.1 X.2.2.2.2 iwX12 X.2.2.2.1 hK hP 0 rfl rfl 3 (by decide) (X.2.2.2.2 _ q1023) (fun _ h9 => h9) rfl dX12_rotate_19 ?_
        refine z_icmp_ge (tgt := 44) X dX12_rotate_22 (by decide) (nI_toInt (by omega)) (nI_toInt (by omega)) (fun c22 => ?_) (fun c22 => ?_)
        · exfalso; omega
        · refine lv_aload_n X.1 X.2.1 dX12_rotate_25 rfl (lv_at hl 1 rfl) ?_
          refine lv_aload_n X.1 X.2.1 dX12_rotate_26 rfl (lv_at hl 1 rfl) ?_
          refine lv_iload_n X.1 X.2.1 dX12_rotate_27 rfl (lv_at hl 0 rfl) ?_
          refine lv_i2l (v := lN i) X.1 X.2.1 dX12_rotate_28 (nI_l (by omega)) ?_
          refine lv_iload_n X.1 X.2.1 dX12_rotate_29 rfl (lv_at hl 2 rfl) ?_
          refine lv_i2l X.1 X.2.1 dX12_rotate_30 rfl ?_
          refine lv_ladd X.1 X.2.1 dX12_rotate_31 ?_
          refine (m_at g m0 lt er el cm_ sv md fmm lc lz af pt_ oc ty_ sz_ em k n s h c tk k0 n0 s0 z1 p f ((lN i) + x.toInt64) (by omega) (by assumption) (by omega)).callV (rest := [.ref m0]) X dX12_rotate_32 q1238 tX12_at hK (hP.sub [0, 1] rfl) 0 11 rfl rfl rfl hl ⟨⟨Nat.le_of_ble_eq_true rfl, Nat.le_of_ble_eq_true rfl⟩, Nat.le_of_ble_eq_true rfl, Nat.le_of_ble_eq_true rfl⟩ rfl rfl (Nat.le_of_ble_eq_true rfl) ?_
          refine tp_i (y := (nI (s.getD (((x.toInt % (s.length : Int)).toNat + i) % s.length) 0))) (by rw [rot_at (by omega) (by omega)]) ?_
          refine (m_make g m0 lt er el cm_ sv md fmm lc lz af pt_ oc ty_ sz_ em k n s h c tk k0 n0 s0 z1 p fm1 (s.getD (((x.toInt % (s.length : Int)).toNat + i) % s.length) 0) (by omega) (by assumption)).callV (rest := []) (wr := [(lt, .inl (g.2.1, 256, .inl f)), (er, .inl (g.2.1, 1536, .inl fe)), (el, .inl (g.2.1, 6, .inl fl))]) X dX12_rotate_35 q1141 tX12_make hK hP hD hS hA [0, 4] [1, 2, 3] (by decide) rfl rfl (by decide) (by decide) 0 11 rfl rfl rfl hl ⟨⟨Nat.le_of_ble_eq_true rfl, Nat.le_of_ble_eq_true rfl⟩, Nat.le_of_ble_eq_true rfl, Nat.le_of_ble_eq_true rfl⟩ rfl rfl (Nat.le_of_ble_eq_true rfl) (fun u35 H locs hw35 hP hD hS => ?_)
          obtain ⟨fm1_35, rfl⟩ : ∃ z, z = u35 := ⟨_, rfl⟩
          have hP : PP g [(lt, .inl (g.2.1, 256, .inl f)), (er, .inl (g.2.1, 1536, .inl fe)), (el, .inl (g.2.1, 6, .inl fl)), (m0, .inr (11, [.int (nI k), .int (nI n), .ref lt, .int (nI s.length), .ref er, .ref el, .int (nI h.length), .ref cm_, .int (nI c.length), .int (bI tk), .int (nI k0), .int (nI n0), .ref sv, .int (nI s0.length), .ref md, .int (nI ((z1 ++ [(s.getD (((x.toInt % (s.length : Int)).toNat + i) % s.length) 0)]).length)), .ref fmm, .ref lc, .ref lz, .ref af, .ref pt_, .int (nI p.length), .ref oc, .ref ty_, .ref sz_, .ref em])), (md, .inl (g.2.1, 256, .inl fm1_35))] H := hP
          have hD : va_D A [(lt, .inl (g.2.1, 256, .inl f)), (er, .inl (g.2.1, 1536, .inl fe)), (el, .inl (g.2.1, 6, .inl fl)), (m0, .inr (11, [.int (nI k), .int (nI n), .ref lt, .int (nI s.length), .ref er, .ref el, .int (nI h.length), .ref cm_, .int (nI c.length), .int (bI tk), .int (nI k0), .int (nI n0), .ref sv, .int (nI s0.length), .ref md, .int (nI ((z1 ++ [(s.getD (((x.toInt % (s.length : Int)).toNat + i) % s.length) 0)]).length)), .ref fmm, .ref lc, .ref lz, .ref af, .ref pt_, .int (nI p.length), .ref oc, .ref ty_, .ref sz_, .ref em])), (md, .inl (g.2.1, 256, .inl fm1_35))] := hD
          try dsimp only at hw35
          refine lv_iinc (v := (nI (i + 1))) (lv' := [(2, .int (nI (i + 1))), (0, .ref m0), (1, .int x)]) X.1 X.2.1 dX12_rotate_38 hl (k := 0) rfl (nI_inc _) (by decide) rfl (fun ls hl => ?_)
          refine lv_goto (tgt := 17) X.1 X.2.1 dX12_rotate_41 (by decide) ?_
          exact ih17 (i + 1) (z1 ++ [s.getD (((x.toInt % (s.length : Int)).toNat + i) % s.length) 0]) fm1_35 (by omega) (by simp; omega) (by rw [partL] at hq; simpa using hq) (hw35) _ _ (hP.sub [3, 0, 1, 2, 4] rfl) (hD.sub [3, 0, 1, 2, 4] (by decide) rfl) hS ls (lv_sub hl [0, 1, 2] rfl)
    exact L17 s.length 0 ([] : List Nat) fm_ (by omega) (rfl) (rfl) (rep_nil) _ _ (hP.sub [0, 1, 2, 3, 4] rfl) (hD.sub [0, 1, 2, 3, 4] (by decide) rfl) hS ls (lv_sub hl [0, 1, 2] rfl)
  · exfalso; omega

set_option maxHeartbeats 4000000 in
set_option maxRecDepth 100000 in
theorem m_rotate_no (g : G5) (m0 : Nat) (lt : Nat) (er : Nat) (el : Nat) (cm_ : Nat) (sv : Nat) (md : Nat) (fmm : Nat) (lc : Nat) (lz : Nat) (af : Nat) (pt_ : Nat) (oc : Nat) (ty_ : Nat) (sz_ : Nat) (em : Nat) (k : Nat) (n : Nat) (s : List Nat) (h : List (List Nat)) (c : List Nat) (tk : Bool) (k0 : Nat) (n0 : Nat) (s0 : List Nat) (z : List Nat) (p : List Int) (x : Int32) (h0 : s.length < 1) : PuI yX12_rotate cX12_rotate 3 (some .int) 2 61 g [.ref m0, .int x] [(m0, .inr (11, [.int (nI k), .int (nI n), .ref lt, .int (nI s.length), .ref er, .ref el, .int (nI h.length), .ref cm_, .int (nI c.length), .int (bI tk), .int (nI k0), .int (nI n0), .ref sv, .int (nI s0.length), .ref md, .int (nI z.length), .ref fmm, .ref lc, .ref lz, .ref af, .ref pt_, .int (nI p.length), .ref oc, .ref ty_, .ref sz_, .ref em]))] (-3) := by
  refine PuI.of (by decide +kernel) (Nat.le_of_ble_eq_true rfl) ?_
  intro p_ l_ e_ S_ m_ args below meth co X hr hlk hP hK ls hl
  have X : CallFix p_ m_ co cX12_rotate 3 S_ args lw_all RX12 := X
  have hl : lv_has ls 3 [(0, .ref m0), (1, .int x)] := hl
  refine lv_aload_n X.1 X.2.1 dX12_rotate_0 rfl (lv_at hl 0 rfl) ?_
  refine va_get (D := g.1) (ci := 11) (v := .int (nI s.length)) (C := RX12) (T := TX12) (N := 26) X.1 X.2.1 X.2.2.2.2 iwX12 X.2.2.2.1 hK hP 0 rfl rfl 3 (by decide) (X.2.2.2.2 _ q1023) (fun _ h9 => h9) rfl dX12_rotate_1 ?_
  refine z_if_ne (tgt := 10) X dX12_rotate_4 (by decide) (nI_toInt (by omega)) (fun c4 => ?_) (fun c4 => ?_)
  · exfalso; omega
  · refine lv_bipush (v := (-3)) X.1 X.2.1 dX12_rotate_7 (by decide) ?_
    exact PuI.ret X hr hlk dX12_rotate_9 (nI_nar _) (rfl)

set_option maxHeartbeats 4000000 in
set_option maxRecDepth 100000 in
theorem m_reverse_no (g : G5) (m0 : Nat) (lt : Nat) (er : Nat) (el : Nat) (cm_ : Nat) (sv : Nat) (md : Nat) (fmm : Nat) (lc : Nat) (lz : Nat) (af : Nat) (pt_ : Nat) (oc : Nat) (ty_ : Nat) (sz_ : Nat) (em : Nat) (k : Nat) (n : Nat) (s : List Nat) (h : List (List Nat)) (c : List Nat) (tk : Bool) (k0 : Nat) (n0 : Nat) (s0 : List Nat) (z : List Nat) (p : List Int) (h0 : s.length < 1) : PuI yX12_reverse cX12_reverse 3 (some .int) 2 61 g [.ref m0] [(m0, .inr (11, [.int (nI k), .int (nI n), .ref lt, .int (nI s.length), .ref er, .ref el, .int (nI h.length), .ref cm_, .int (nI c.length), .int (bI tk), .int (nI k0), .int (nI n0), .ref sv, .int (nI s0.length), .ref md, .int (nI z.length), .ref fmm, .ref lc, .ref lz, .ref af, .ref pt_, .int (nI p.length), .ref oc, .ref ty_, .ref sz_, .ref em]))] (-3) := by
  refine PuI.of (by decide +kernel) (Nat.le_of_ble_eq_true rfl) ?_
  intro p_ l_ e_ S_ m_ args below meth co X hr hlk hP hK ls hl
  have X : CallFix p_ m_ co cX12_reverse 3 S_ args lw_all RX12 := X
  have hl : lv_has ls 3 [(0, .ref m0)] := hl
  refine lv_aload_n X.1 X.2.1 dX12_reverse_0 rfl (lv_at hl 0 rfl) ?_
  refine va_get (D := g.1) (ci := 11) (v := .int (nI s.length)) (C := RX12) (T := TX12) (N := 26) X.1 X.2.1 X.2.2.2.2 iwX12 X.2.2.2.1 hK hP 0 rfl rfl 3 (by decide) (X.2.2.2.2 _ q1023) (fun _ h9 => h9) rfl dX12_reverse_1 ?_
  refine z_if_ne (tgt := 10) X dX12_reverse_4 (by decide) (nI_toInt (by omega)) (fun c4 => ?_) (fun c4 => ?_)
  · exfalso; omega
  · refine lv_bipush (v := (-3)) X.1 X.2.1 dX12_reverse_7 (by decide) ?_
    exact PuI.ret X hr hlk dX12_reverse_9 (nI_nar _) (rfl)

set_option maxHeartbeats 4000000 in
set_option maxRecDepth 100000 in
theorem m_complement_no (g : G5) (m0 : Nat) (lt : Nat) (er : Nat) (el : Nat) (cm_ : Nat) (sv : Nat) (md : Nat) (fmm : Nat) (lc : Nat) (lz : Nat) (af : Nat) (pt_ : Nat) (oc : Nat) (ty_ : Nat) (sz_ : Nat) (em : Nat) (k : Nat) (n : Nat) (s : List Nat) (h : List (List Nat)) (c : List Nat) (tk : Bool) (k0 : Nat) (n0 : Nat) (s0 : List Nat) (z : List Nat) (p : List Int) (h0 : s.length < 1) : PuI yX12_complement cX12_complement 2 (some .int) 2 61 g [.ref m0] [(m0, .inr (11, [.int (nI k), .int (nI n), .ref lt, .int (nI s.length), .ref er, .ref el, .int (nI h.length), .ref cm_, .int (nI c.length), .int (bI tk), .int (nI k0), .int (nI n0), .ref sv, .int (nI s0.length), .ref md, .int (nI z.length), .ref fmm, .ref lc, .ref lz, .ref af, .ref pt_, .int (nI p.length), .ref oc, .ref ty_, .ref sz_, .ref em]))] (-3) := by
  refine PuI.of (by decide +kernel) (Nat.le_of_ble_eq_true rfl) ?_
  intro p_ l_ e_ S_ m_ args below meth co X hr hlk hP hK ls hl
  have X : CallFix p_ m_ co cX12_complement 2 S_ args lw_all RX12 := X
  have hl : lv_has ls 2 [(0, .ref m0)] := hl
  refine lv_aload_n X.1 X.2.1 dX12_complement_0 rfl (lv_at hl 0 rfl) ?_
  refine va_get (D := g.1) (ci := 11) (v := .int (nI s.length)) (C := RX12) (T := TX12) (N := 26) X.1 X.2.1 X.2.2.2.2 iwX12 X.2.2.2.1 hK hP 0 rfl rfl 3 (by decide) (X.2.2.2.2 _ q1023) (fun _ h9 => h9) rfl dX12_complement_1 ?_
  refine z_if_ne (tgt := 10) X dX12_complement_4 (by decide) (nI_toInt (by omega)) (fun c4 => ?_) (fun c4 => ?_)
  · exfalso; omega
  · refine lv_bipush (v := (-3)) X.1 X.2.1 dX12_complement_7 (by decide) ?_
    exact PuI.ret X hr hlk dX12_complement_9 (nI_nar _) (rfl)

set_option maxHeartbeats 4000000 in
set_option maxRecDepth 100000 in
theorem m_reverse_ok (g : G5) (m0 : Nat) (lt : Nat) (er : Nat) (el : Nat) (cm_ : Nat) (sv : Nat) (md : Nat) (fmm : Nat) (lc : Nat) (lz : Nat) (af : Nat) (pt_ : Nat) (oc : Nat) (ty_ : Nat) (sz_ : Nat) (em : Nat) (k : Nat) (n : Nat) (s : List Nat) (h : List (List Nat)) (c : List Nat) (tk : Bool) (k0 : Nat) (n0 : Nat) (s0 : List Nat) (z : List Nat) (p : List Int) (f : Nat → Int32) (fe : Nat → Int32) (fl : Nat → Int32) (fm_ : Nat → Int32) (B : Nat) (T : Nat) (hc : shp k n B T) (hs : s.length ≤ 256) (hf : rep f s) (hlt : ltk k s) (hh : hrm fe fl h) (h0 : 0 < s.length) : MuI (S := (Nat → Int32) × (Nat → Int32) × (Nat → Int32) × (Nat → Int32)) yX12_reverse cX12_reverse 3 (some .int) 2 61 g [.ref m0] [(m0, .inr (11, [.int (nI k), .int (nI n), .ref lt, .int (nI s.length), .ref er, .ref el, .int (nI h.length), .ref cm_, .int (nI c.length), .int (bI tk), .int (nI k0), .int (nI n0), .ref sv, .int (nI s0.length), .ref md, .int (nI z.length), .ref fmm, .ref lc, .ref lz, .ref af, .ref pt_, .int (nI p.length), .ref oc, .ref ty_, .ref sz_, .ref em])), (lt, .inl (g.2.1, 256, .inl f)), (er, .inl (g.2.1, 1536, .inl fe)), (el, .inl (g.2.1, 6, .inl fl)), (md, .inl (g.2.1, 256, .inl fm_))] (fun r u => r = (nI (if sameB (revL s s.length) s then 1 else 0)) ∧ rep u.1 (revL s s.length) ∧ hrm u.2.1 u.2.2.1 ((s :: h).take 6)) (fun u => [(m0, .inr (11, [.int (nI k), .int (nI n), .ref lt, .int (nI ((revL s s.length).length)), .ref er, .ref el, .int (nI (((s :: h).take 6).length)), .ref cm_, .int (nI c.length), .int (bI tk), .int (nI k0), .int (nI n0), .ref sv, .int (nI s0.length), .ref md, .int (nI ((revL s s.length).length)), .ref fmm, .ref lc, .ref lz, .ref af, .ref pt_, .int (nI p.length), .ref oc, .ref ty_, .ref sz_, .ref em])), (lt, .inl (g.2.1, 256, .inl u.1)), (er, .inl (g.2.1, 1536, .inl u.2.1)), (el, .inl (g.2.1, 6, .inl u.2.2.1)), (md, .inl (g.2.1, 256, .inl u.2.2.2))]) := by
  refine MuI.of (by decide +kernel) (Nat.le_of_ble_eq_true rfl) ?_
  intro p_ l_ e_ S_ m_ args below meth co X hr hlk hP hK A hA hD hS ls hl
  have X : CallFix p_ m_ co cX12_reverse 3 S_ args lw_all RX12 := X
  have hl : lv_has ls 3 [(0, .ref m0)] := hl
  obtain ⟨hk2, hk4, hn1, hn6, hB, hT, hBT, hT2⟩ := hc.f
  have hB0 : 0 < B := by rw [hBT]; exact Nat.mul_pos (by omega) (by omega)
  have hbs := hlt.bd hk4
  have hlz := revL_len s s.length
  refine lv_aload_n X.1 X.2.1 dX12_reverse_0 rfl (lv_at hl 0 rfl) ?_
  refine va_get (D := g.1) (ci := 11) (v := .int (nI s.length)) (C := RX12) (T := TX12) (N := 26) X.1 X.2.1 X.2.2.2.2 iwX12 X.2.2.2.1 hK hP 0 rfl rfl 3 (by decide) (X.2.2.2.2 _ q1023) (fun _ h9 => h9) rfl dX12_reverse_1 ?_
  refine z_if_ne (tgt := 10) X dX12_reverse_4 (by decide) (nI_toInt (by omega)) (fun c4 => ?_) (fun c4 => ?_)
  · refine lv_aload_n X.1 X.2.1 dX12_reverse_10 rfl (lv_at hl 0 rfl) ?_
    refine lv_iconst (v := (nI 0)) X.1 X.2.1 dX12_reverse_11 (by decide) ?_
    refine va_put (D := g.1) (ci := 11) (v := .int (nI 0)) (ty := .int) (C := RX12) (T := TX12) (N := 26) X.1 X.2.1 X.2.2.2.2 iwX12 tyX12 tyX12_ok nmX12 X.2.2.2.1 hK hP hD hS 0 rfl rfl 15 (by decide) (X.2.2.2.2 _ q1035) (fun _ h9 => h9) rfl (by decide +kernel) rfl rfl (Nat.le_of_ble_eq_true rfl) dX12_reverse_12 (fun H locs hP hD hS => ?_)
    have hP : PP g [(m0, .inr (11, [.int (nI k), .int (nI n), .ref lt, .int (nI s.length), .ref er, .ref el, .int (nI h.length), .ref cm_, .int (nI c.length), .int (bI tk), .int (nI k0), .int (nI n0), .ref sv, .int (nI s0.length), .ref md, .int (nI 0), .ref fmm, .ref lc, .ref lz, .ref af, .ref pt_, .int (nI p.length), .ref oc, .ref ty_, .ref sz_, .ref em])), (lt, .inl (g.2.1, 256, .inl f)), (er, .inl (g.2.1, 1536, .inl fe)), (el, .inl (g.2.1, 6, .inl fl)), (md, .inl (g.2.1, 256, .inl fm_))] H := hP
    have hD : va_D A [(m0, .inr (11, [.int (nI k), .int (nI n), .ref lt, .int (nI s.length), .ref er, .ref el, .int (nI h.length), .ref cm_, .int (nI c.length), .int (bI tk), .int (nI k0), .int (nI n0), .ref sv, .int (nI s0.length), .ref md, .int (nI 0), .ref fmm, .ref lc, .ref lz, .ref af, .ref pt_, .int (nI p.length), .ref oc, .ref ty_, .ref sz_, .ref em])), (lt, .inl (g.2.1, 256, .inl f)), (er, .inl (g.2.1, 1536, .inl fe)), (el, .inl (g.2.1, 6, .inl fl)), (md, .inl (g.2.1, 256, .inl fm_))] := hD
    have hP : PP g [(m0, .inr (11, [.int (nI k), .int (nI n), .ref lt, .int (nI s.length), .ref er, .ref el, .int (nI h.length), .ref cm_, .int (nI c.length), .int (bI tk), .int (nI k0), .int (nI n0), .ref sv, .int (nI s0.length), .ref md, .int (nI (([] : List Nat).length)), .ref fmm, .ref lc, .ref lz, .ref af, .ref pt_, .int (nI p.length), .ref oc, .ref ty_, .ref sz_, .ref em])), (lt, .inl (g.2.1, 256, .inl f)), (er, .inl (g.2.1, 1536, .inl fe)), (el, .inl (g.2.1, 6, .inl fl)), (md, .inl (g.2.1, 256, .inl fm_))] H := by exact hP
    have hD : va_D A [(m0, .inr (11, [.int (nI k), .int (nI n), .ref lt, .int (nI s.length), .ref er, .ref el, .int (nI h.length), .ref cm_, .int (nI c.length), .int (bI tk), .int (nI k0), .int (nI n0), .ref sv, .int (nI s0.length), .ref md, .int (nI (([] : List Nat).length)), .ref fmm, .ref lc, .ref lz, .ref af, .ref pt_, .int (nI p.length), .ref oc, .ref ty_, .ref sz_, .ref em])), (lt, .inl (g.2.1, 256, .inl f)), (er, .inl (g.2.1, 1536, .inl fe)), (el, .inl (g.2.1, 6, .inl fl)), (md, .inl (g.2.1, 256, .inl fm_))] := by exact hD
    refine lv_iconst (v := (nI 1)) X.1 X.2.1 dX12_reverse_15 (by decide) ?_
    refine tp_i (y := bI true) rfl ?_
    refine lv_istore_n (lv' := [(1, .int (bI true)), (0, .ref m0)]) X.1 X.2.1 dX12_reverse_16 rfl hl (by decide) rfl (fun ls hl => ?_)
    refine lv_iconst (v := (nI 0)) X.1 X.2.1 dX12_reverse_17 (by decide) ?_
    refine lv_istore_n (lv' := [(2, .int (nI 0)), (1, .int (bI true)), (0, .ref m0)]) X.1 X.2.1 dX12_reverse_18 rfl hl (by decide) rfl (fun ls hl => ?_)
    have L19 : ∀ (r : Nat) (b : Bool) (i : Nat) (z1 : List Nat) (fm1 : Nat → Int32) (h1 : i + r = s.length) (hsb : (b && sameL (revL s s.length) s r i) = sameB (revL s s.length) s) (hl1 : z1.length = i) (hq : z1 ++ revL s r = (revL s s.length)) (hf1 : rep fm1 z1) (H : Heap) (locs : List Loc) (hP : PP g [(m0, .inr (11, [.int (nI k), .int (nI n), .ref lt, .int (nI s.length), .ref er, .ref el, .int (nI h.length), .ref cm_, .int (nI c.length), .int (bI tk), .int (nI k0), .int (nI n0), .ref sv, .int (nI s0.length), .ref md, .int (nI z1.length), .ref fmm, .ref lc, .ref lz, .ref af, .ref pt_, .int (nI p.length), .ref oc, .ref ty_, .ref sz_, .ref em])), (lt, .inl (g.2.1, 256, .inl f)), (er, .inl (g.2.1, 1536, .inl fe)), (el, .inl (g.2.1, 6, .inl fl)), (md, .inl (g.2.1, 256, .inl fm1))] H) (hD : va_D A [(m0, .inr (11, [.int (nI k), .int (nI n), .ref lt, .int (nI s.length), .ref er, .ref el, .int (nI h.length), .ref cm_, .int (nI c.length), .int (bI tk), .int (nI k0), .int (nI n0), .ref sv, .int (nI s0.length), .ref md, .int (nI z1.length), .ref fmm, .ref lc, .ref lz, .ref af, .ref pt_, .int (nI p.length), .ref oc, .ref ty_, .ref sz_, .ref em])), (lt, .inl (g.2.1, 256, .inl f)), (er, .inl (g.2.1, 1536, .inl fe)), (el, .inl (g.2.1, 6, .inl fl)), (md, .inl (g.2.1, 256, .inl fm1))]) (hS : va_S A S_.heap H locs) (ls : Array Slot) (hl : lv_has ls 3 [(2, .int (nI i)), (1, .int (bI b)), (0, .ref m0)]), W p_ l_ e_ { frames := 2, cells := 0, slots := 0, locals := 61 } S_ m_ args below meth co H locs 0 0 (MQ below (va_Qi (S := (Nat → Int32) × (Nat → Int32) × (Nat → Int32) × (Nat → Int32)) (fun r u => r = (nI (if sameB (revL s s.length) s then 1 else 0)) ∧ rep u.1 (revL s s.length) ∧ hrm u.2.1 u.2.2.1 ((s :: h).take 6)) (MuB g A (fun u => [(m0, .inr (11, [.int (nI k), .int (nI n), .ref lt, .int (nI ((revL s s.length).length)), .ref er, .ref el, .int (nI (((s :: h).take 6).length)), .ref cm_, .int (nI c.length), .int (bI tk), .int (nI k0), .int (nI n0), .ref sv, .int (nI s0.length), .ref md, .int (nI ((revL s s.length).length)), .ref fmm, .ref lc, .ref lz, .ref af, .ref pt_, .int (nI p.length), .ref oc, .ref ty_, .ref sz_, .ref em])), (lt, .inl (g.2.1, 256, .inl u.1)), (er, .inl (g.2.1, 1536, .inl u.2.1)), (el, .inl (g.2.1, 6, .inl u.2.2.1)), (md, .inl (g.2.1, 256, .inl u.2.2.2))])) A) args S_ 0 0 A) (F0 m_ 19 ls []) := by
      intro r
      induction r with
      | zero =>
        intro b i z1 fm1 h1 hsb hl1 hq hf1 H locs hP hD hS ls hl
        have e9 : z1 = (revL s s.length) := by simpa [revL] using hq
        refine lv_iload_n X.1 X.2.1 dX12_reverse_19 rfl (lv_at hl 0 rfl) ?_
        refine lv_aload_n X.1 X.2.1 dX12_reverse_20 rfl (lv_at hl 2 rfl) ?_
        refine va_get (D := g.1) (ci := 11) (v := .int (nI s.length)) (C := RX12) (T := TX12) (N := 26) X.1 X.2.1 X.2.2.2.2 iwX12 X.2.2.2.1 hK hP 0 rfl rfl 3 (by decide) (X.2.2.2.2 _ q1023) (fun _ h9 => h9) rfl dX12_reverse_21 ?_
        refine z_icmp_ge (tgt := 75) X dX12_reverse_24 (by decide) (nI_toInt (by omega)) (nI_toInt (by omega)) (fun c24 => ?_) (fun c24 => ?_)
        · have hP : PP g [(m0, .inr (11, [.int (nI k), .int (nI n), .ref lt, .int (nI s.length), .ref er, .ref el, .int (nI h.length), .ref cm_, .int (nI c.length), .int (bI tk), .int (nI k0), .int (nI n0), .ref sv, .int (nI s0.length), .ref md, .int (nI ((revL s s.length).length)), .ref fmm, .ref lc, .ref lz, .ref af, .ref pt_, .int (nI p.length), .ref oc, .ref ty_, .ref sz_, .ref em])), (lt, .inl (g.2.1, 256, .inl f)), (er, .inl (g.2.1, 1536, .inl fe)), (el, .inl (g.2.1, 6, .inl fl)), (md, .inl (g.2.1, 256, .inl fm1))] H := by rw [← e9]; exact hP
          have hD : va_D A [(m0, .inr (11, [.int (nI k), .int (nI n), .ref lt, .int (nI s.length), .ref er, .ref el, .int (nI h.length), .ref cm_, .int (nI c.length), .int (bI tk), .int (nI k0), .int (nI n0), .ref sv, .int (nI s0.length), .ref md, .int (nI ((revL s s.length).length)), .ref fmm, .ref lc, .ref lz, .ref af, .ref pt_, .int (nI p.length), .ref oc, .ref ty_, .ref sz_, .ref em])), (lt, .inl (g.2.1, 256, .inl f)), (er, .inl (g.2.1, 1536, .inl fe)), (el, .inl (g.2.1, 6, .inl fl)), (md, .inl (g.2.1, 256, .inl fm1))] := by rw [← e9]; exact hD
          refine lv_aload_n X.1 X.2.1 dX12_reverse_75 rfl (lv_at hl 2 rfl) ?_
          refine (m_edit g m0 lt er el cm_ sv md fmm lc lz af pt_ oc ty_ sz_ em k n s h c tk k0 n0 s0 (revL s s.length) p f fe fl fm1 (by omega) (by assumption) (by omega) (rep_eq hf1 e9) (by assumption)).callV (rest := []) (wr := []) X dX12_reverse_76 q1194 tX12_edit hK hP hD hS hA [0, 1, 2, 3, 4] [] (by decide) rfl rfl (by decide) (by decide) 0 11 rfl rfl rfl hl ⟨⟨Nat.le_of_ble_eq_true rfl, Nat.le_of_ble_eq_true rfl⟩, Nat.le_of_ble_eq_true rfl, Nat.le_of_ble_eq_true rfl⟩ rfl rfl (Nat.le_of_ble_eq_true rfl) (fun u76 H locs hw76 hP hD hS => ?_)
          obtain ⟨f1_76, fe1_76, fl1_76⟩ := u76
          have hP : PP g [(m0, .inr (11, [.int (nI k), .int (nI n), .ref lt, .int (nI ((revL s s.length).length)), .ref er, .ref el, .int (nI (((s :: h).take 6).length)), .ref cm_, .int (nI c.length), .int (bI tk), .int (nI k0), .int (nI n0), .ref sv, .int (nI s0.length), .ref md, .int (nI ((revL s s.length).length)), .ref fmm, .ref lc, .ref lz, .ref af, .ref pt_, .int (nI p.length), .ref oc, .ref ty_, .ref sz_, .ref em])), (lt, .inl (g.2.1, 256, .inl f1_76)), (er, .inl (g.2.1, 1536, .inl fe1_76)), (el, .inl (g.2.1, 6, .inl fl1_76)), (md, .inl (g.2.1, 256, .inl fm1))] H := hP
          have hD : va_D A [(m0, .inr (11, [.int (nI k), .int (nI n), .ref lt, .int (nI ((revL s s.length).length)), .ref er, .ref el, .int (nI (((s :: h).take 6).length)), .ref cm_, .int (nI c.length), .int (bI tk), .int (nI k0), .int (nI n0), .ref sv, .int (nI s0.length), .ref md, .int (nI ((revL s s.length).length)), .ref fmm, .ref lc, .ref lz, .ref af, .ref pt_, .int (nI p.length), .ref oc, .ref ty_, .ref sz_, .ref em])), (lt, .inl (g.2.1, 256, .inl f1_76)), (er, .inl (g.2.1, 1536, .inl fe1_76)), (el, .inl (g.2.1, 6, .inl fl1_76)), (md, .inl (g.2.1, 256, .inl fm1))] := hD
          try dsimp only at hw76
          refine lv_iload_n X.1 X.2.1 dX12_reverse_79 rfl (lv_at hl 1 rfl) ?_
          refine b_if_eq (tgt := 87) X dX12_reverse_80 (by decide) (fun c80 => ?_) (fun c80 => ?_)
          · refine lv_iconst (v := (nI 0)) X.1 X.2.1 dX12_reverse_87 (by decide) ?_
            exact MuI.ret X hr hlk hK hS dX12_reverse_88 (nI_nar _) (f1_76, fe1_76, fl1_76, fm1) (hP.sub [0, 1, 2, 3, 4] rfl) (hD.sub [0, 1, 2, 3, 4] (by decide) rfl) (⟨by (have e6 : b = sameB (revL s s.length) s := by rw [← hsb]; cases b <;> rfl); rw [← e6, c80]; rfl, hw76⟩)
          · refine lv_iconst (v := (nI 1)) X.1 X.2.1 dX12_reverse_83 (by decide) ?_
            refine lv_goto (tgt := 88) X.1 X.2.1 dX12_reverse_84 (by decide) ?_
            exact MuI.ret X hr hlk hK hS dX12_reverse_88 (nI_nar _) (f1_76, fe1_76, fl1_76, fm1) (hP.sub [0, 1, 2, 3, 4] rfl) (hD.sub [0, 1, 2, 3, 4] (by decide) rfl) (⟨by (have e6 : b = sameB (revL s s.length) s := by rw [← hsb]; cases b <;> rfl); rw [← e6, c80]; rfl, hw76⟩)
        · exfalso; omega
      | succ r ih19 =>
        intro b i z1 fm1 h1 hsb hl1 hq hf1 H locs hP hD hS ls hl
        have e7 := rev_at hq hl1
        refine lv_iload_n X.1 X.2.1 dX12_reverse_19 rfl (lv_at hl 0 rfl) ?_
        refine lv_aload_n X.1 X.2.1 dX12_reverse_20 rfl (lv_at hl 2 rfl) ?_
        refine va_get (D := g.1) (ci := 11) (v := .int (nI s.length)) (C := RX12) (T := TX12) (N := 26) X.1 X.2.1 X.2.2.2.2 iwX12 X.2.2.2.1 hK hP 0 rfl rfl 3 (by decide) (X.2.2.2.2 _ q1023) (fun _ h9 => h9) rfl dX12_reverse_21 ?_
        refine z_icmp_ge (tgt := 75) X dX12_reverse_24 (by decide) (nI_toInt (by omega)) (nI_toInt (by omega)) (fun c24 => ?_) (fun c24 => ?_)
        · exfalso; omega
        · refine lv_aload_n X.1 X.2.1 dX12_reverse_27 rfl (lv_at hl 2 rfl) ?_
          refine lv_aload_n X.1 X.2.1 dX12_reverse_28 rfl (lv_at hl 2 rfl) ?_
          refine va_get (D := g.1) (ci := 11) (v := .ref lt) (C := RX12) (T := TX12) (N := 26) X.1 X.2.1 X.2.2.2.2 iwX12 X.2.2.2.1 hK hP 0 rfl rfl 2 (by decide) (X.2.2.2.2 _ q1022) (fun _ h9 => h9) rfl dX12_reverse_29 ?_
          refine lv_aload_n X.1 X.2.1 dX12_reverse_32 rfl (lv_at hl 2 rfl) ?_
          refine va_get (D := g.1) (ci := 11) (v := .int (nI s.length)) (C := RX12) (T := TX12) (N := 26) X.1 X.2.1 X.2.2.2.2 iwX12 X.2.2.2.1 hK hP 0 rfl rfl 3 (by decide) (X.2.2.2.2 _ q1023) (fun _ h9 => h9) rfl dX12_reverse_33 ?_
          refine lv_iconst (v := (nI 1)) X.1 X.2.1 dX12_reverse_36 (by decide) ?_
          refine n_sub X dX12_reverse_37 (by omega) ?_
          refine lv_iload_n X.1 X.2.1 dX12_reverse_38 rfl (lv_at hl 0 rfl) ?_
          refine n_sub X dX12_reverse_39 (by omega) ?_
          refine n_iald X hK hP 1 0 rfl rfl (by omega) (by decide) dX12_reverse_40 ?_
          refine tp_i (y := (nI (s.getD r 0))) (by rw [show s.length - 1 - i = r by omega]; exact hf r (by omega)) ?_
          refine (m_make g m0 lt er el cm_ sv md fmm lc lz af pt_ oc ty_ sz_ em k n s h c tk k0 n0 s0 z1 p fm1 (s.getD r 0) (by omega) (by assumption)).callV (rest := []) (wr := [(lt, .inl (g.2.1, 256, .inl f)), (er, .inl (g.2.1, 1536, .inl fe)), (el, .inl (g.2.1, 6, .inl fl))]) X dX12_reverse_41 q1141 tX12_make hK hP hD hS hA [0, 4] [1, 2, 3] (by decide) rfl rfl (by decide) (by decide) 0 11 rfl rfl rfl hl ⟨⟨Nat.le_of_ble_eq_true rfl, Nat.le_of_ble_eq_true rfl⟩, Nat.le_of_ble_eq_true rfl, Nat.le_of_ble_eq_true rfl⟩ rfl rfl (Nat.le_of_ble_eq_true rfl) (fun u41 H locs hw41 hP hD hS => ?_)
          obtain ⟨fm1_41, rfl⟩ : ∃ z, z = u41 := ⟨_, rfl⟩
          have hP : PP g [(lt, .inl (g.2.1, 256, .inl f)), (er, .inl (g.2.1, 1536, .inl fe)), (el, .inl (g.2.1, 6, .inl fl)), (m0, .inr (11, [.int (nI k), .int (nI n), .ref lt, .int (nI s.length), .ref er, .ref el, .int (nI h.length), .ref cm_, .int (nI c.length), .int (bI tk), .int (nI k0), .int (nI n0), .ref sv, .int (nI s0.length), .ref md, .int (nI ((z1 ++ [(s.getD r 0)]).length)), .ref fmm, .ref lc, .ref lz, .ref af, .ref pt_, .int (nI p.length), .ref oc, .ref ty_, .ref sz_, .ref em])), (md, .inl (g.2.1, 256, .inl fm1_41))] H := hP
          have hD : va_D A [(lt, .inl (g.2.1, 256, .inl f)), (er, .inl (g.2.1, 1536, .inl fe)), (el, .inl (g.2.1, 6, .inl fl)), (m0, .inr (11, [.int (nI k), .int (nI n), .ref lt, .int (nI s.length), .ref er, .ref el, .int (nI h.length), .ref cm_, .int (nI c.length), .int (bI tk), .int (nI k0), .int (nI n0), .ref sv, .int (nI s0.length), .ref md, .int (nI ((z1 ++ [(s.getD r 0)]).length)), .ref fmm, .ref lc, .ref lz, .ref af, .ref pt_, .int (nI p.length), .ref oc, .ref ty_, .ref sz_, .ref em])), (md, .inl (g.2.1, 256, .inl fm1_41))] := hD
          try dsimp only at hw41
          refine lv_iload_n X.1 X.2.1 dX12_reverse_44 rfl (lv_at hl 1 rfl) ?_
          refine b_if_eq (tgt := 67) X dX12_reverse_45 (by decide) (fun c45 => ?_) (fun c45 => ?_)
          · refine lv_iconst (v := (nI 0)) X.1 X.2.1 dX12_reverse_67 (by decide) ?_
            refine tp_i (y := bI false) rfl ?_
            refine lv_istore_n (lv' := [(1, .int (bI false)), (2, .int (nI i)), (0, .ref m0)]) X.1 X.2.1 dX12_reverse_68 rfl hl (by decide) rfl (fun ls hl => ?_)
            refine lv_iinc (v := (nI (i + 1))) (lv' := [(2, .int (nI (i + 1))), (1, .int (bI false)), (0, .ref m0)]) X.1 X.2.1 dX12_reverse_69 hl (k := 1) rfl (nI_inc _) (by decide) rfl (fun ls hl => ?_)
            refine lv_goto (tgt := 19) X.1 X.2.1 dX12_reverse_72 (by decide) ?_
            exact ih19 false (i + 1) (z1 ++ [s.getD r 0]) fm1_41 (by omega) (by first | (rw [c45, sameL, if_pos (by omega)] at hsb; exact hsb) | (rw [c45, sameL, if_neg (by omega)] at hsb; exact hsb) | (rw [c45] at hsb; exact hsb)) (by simp; omega) (by rw [revL] at hq; simpa using hq) (hw41) _ _ (hP.sub [3, 0, 1, 2, 4] rfl) (hD.sub [3, 0, 1, 2, 4] (by decide) rfl) hS ls (lv_sub hl [0, 1, 2] rfl)
          · refine lv_aload_n X.1 X.2.1 dX12_reverse_48 rfl (lv_at hl 2 rfl) ?_
            refine va_get (D := g.1) (ci := 11) (v := .ref md) (C := RX12) (T := TX12) (N := 26) X.1 X.2.1 X.2.2.2.2 iwX12 X.2.2.2.1 hK hP 3 rfl rfl 14 (by decide) (X.2.2.2.2 _ q1034) (fun _ h9 => h9) rfl dX12_reverse_49 ?_
            refine lv_iload_n X.1 X.2.1 dX12_reverse_52 rfl (lv_at hl 0 rfl) ?_
            refine n_iald X hK hP 4 0 rfl rfl (by omega) (by decide) dX12_reverse_53 ?_
            have e1 := bd_at hbs r
            have e2 := bd_at hbs i
            refine tp_i (y := (nI (s.getD r 0))) (by rw [hw41 i (by simp; omega), app_last hl1]) ?_
            refine lv_aload_n X.1 X.2.1 dX12_reverse_54 rfl (lv_at hl 2 rfl) ?_
            refine va_get (D := g.1) (ci := 11) (v := .ref lt) (C := RX12) (T := TX12) (N := 26) X.1 X.2.1 X.2.2.2.2 iwX12 X.2.2.2.1 hK hP 3 rfl rfl 2 (by decide) (X.2.2.2.2 _ q1022) (fun _ h9 => h9) rfl dX12_reverse_55 ?_
            refine lv_iload_n X.1 X.2.1 dX12_reverse_58 rfl (lv_at hl 0 rfl) ?_
            refine n_iald X hK hP 0 0 rfl rfl (by omega) (by decide) dX12_reverse_59 ?_
            refine tp_i (y := (nI (s.getD i 0))) (hf i (by omega)) ?_
            refine z_icmp_ne (tgt := 67) X dX12_reverse_60 (by decide) (nI_toInt (by omega)) (nI_toInt (by omega)) (fun c60 => ?_) (fun c60 => ?_)
            · refine lv_iconst (v := (nI 0)) X.1 X.2.1 dX12_reverse_67 (by decide) ?_
              refine tp_i (y := bI false) rfl ?_
              refine lv_istore_n (lv' := [(1, .int (bI false)), (2, .int (nI i)), (0, .ref m0)]) X.1 X.2.1 dX12_reverse_68 rfl hl (by decide) rfl (fun ls hl => ?_)
              refine lv_iinc (v := (nI (i + 1))) (lv' := [(2, .int (nI (i + 1))), (1, .int (bI false)), (0, .ref m0)]) X.1 X.2.1 dX12_reverse_69 hl (k := 1) rfl (nI_inc _) (by decide) rfl (fun ls hl => ?_)
              refine lv_goto (tgt := 19) X.1 X.2.1 dX12_reverse_72 (by decide) ?_
              exact ih19 false (i + 1) (z1 ++ [s.getD r 0]) fm1_41 (by omega) (by first | (rw [c45, sameL, if_pos (by omega)] at hsb; exact hsb) | (rw [c45, sameL, if_neg (by omega)] at hsb; exact hsb) | (rw [c45] at hsb; exact hsb)) (by simp; omega) (by rw [revL] at hq; simpa using hq) (hw41) _ _ (hP.sub [3, 0, 1, 2, 4] rfl) (hD.sub [3, 0, 1, 2, 4] (by decide) rfl) hS ls (lv_sub hl [0, 1, 2] rfl)
            · refine lv_iconst (v := (nI 1)) X.1 X.2.1 dX12_reverse_63 (by decide) ?_
              refine lv_goto (tgt := 68) X.1 X.2.1 dX12_reverse_64 (by decide) ?_
              refine tp_i (y := bI true) rfl ?_
              refine lv_istore_n (lv' := [(1, .int (bI true)), (2, .int (nI i)), (0, .ref m0)]) X.1 X.2.1 dX12_reverse_68 rfl hl (by decide) rfl (fun ls hl => ?_)
              refine lv_iinc (v := (nI (i + 1))) (lv' := [(2, .int (nI (i + 1))), (1, .int (bI true)), (0, .ref m0)]) X.1 X.2.1 dX12_reverse_69 hl (k := 1) rfl (nI_inc _) (by decide) rfl (fun ls hl => ?_)
              refine lv_goto (tgt := 19) X.1 X.2.1 dX12_reverse_72 (by decide) ?_
              exact ih19 true (i + 1) (z1 ++ [s.getD r 0]) fm1_41 (by omega) (by first | (rw [c45, sameL, if_pos (by omega)] at hsb; exact hsb) | (rw [c45, sameL, if_neg (by omega)] at hsb; exact hsb) | (rw [c45] at hsb; exact hsb)) (by simp; omega) (by rw [revL] at hq; simpa using hq) (hw41) _ _ (hP.sub [3, 0, 1, 2, 4] rfl) (hD.sub [3, 0, 1, 2, 4] (by decide) rfl) hS ls (lv_sub hl [0, 1, 2] rfl)
    exact L19 s.length true 0 ([] : List Nat) fm_ (by omega) (by unfold sameB; rw [if_pos hlz, hlz]; rfl) (rfl) (rfl) (rep_nil) _ _ (hP.sub [0, 1, 2, 3, 4] rfl) (hD.sub [0, 1, 2, 3, 4] (by decide) rfl) hS ls (lv_sub hl [0, 1, 2] rfl)
  · exfalso; omega

set_option maxHeartbeats 4000000 in
set_option maxRecDepth 100000 in
theorem m_complement_ok (g : G5) (m0 : Nat) (lt : Nat) (er : Nat) (el : Nat) (cm_ : Nat) (sv : Nat) (md : Nat) (fmm : Nat) (lc : Nat) (lz : Nat) (af : Nat) (pt_ : Nat) (oc : Nat) (ty_ : Nat) (sz_ : Nat) (em : Nat) (k : Nat) (n : Nat) (s : List Nat) (h : List (List Nat)) (c : List Nat) (tk : Bool) (k0 : Nat) (n0 : Nat) (s0 : List Nat) (z : List Nat) (p : List Int) (f : Nat → Int32) (fe : Nat → Int32) (fl : Nat → Int32) (fm_ : Nat → Int32) (B : Nat) (T : Nat) (hc : shp k n B T) (hs : s.length ≤ 256) (hf : rep f s) (hlt : ltk k s) (hh : hrm fe fl h) (h0 : 0 < s.length) : MuI (S := (Nat → Int32) × (Nat → Int32) × (Nat → Int32) × (Nat → Int32)) yX12_complement cX12_complement 2 (some .int) 2 61 g [.ref m0] [(m0, .inr (11, [.int (nI k), .int (nI n), .ref lt, .int (nI s.length), .ref er, .ref el, .int (nI h.length), .ref cm_, .int (nI c.length), .int (bI tk), .int (nI k0), .int (nI n0), .ref sv, .int (nI s0.length), .ref md, .int (nI z.length), .ref fmm, .ref lc, .ref lz, .ref af, .ref pt_, .int (nI p.length), .ref oc, .ref ty_, .ref sz_, .ref em])), (lt, .inl (g.2.1, 256, .inl f)), (er, .inl (g.2.1, 1536, .inl fe)), (el, .inl (g.2.1, 6, .inl fl)), (md, .inl (g.2.1, 256, .inl fm_))] (fun r u => r = (nI ((comL k s s.length 0).getD 0 0)) ∧ rep u.1 (comL k s s.length 0) ∧ hrm u.2.1 u.2.2.1 ((s :: h).take 6)) (fun u => [(m0, .inr (11, [.int (nI k), .int (nI n), .ref lt, .int (nI ((comL k s s.length 0).length)), .ref er, .ref el, .int (nI (((s :: h).take 6).length)), .ref cm_, .int (nI c.length), .int (bI tk), .int (nI k0), .int (nI n0), .ref sv, .int (nI s0.length), .ref md, .int (nI ((comL k s s.length 0).length)), .ref fmm, .ref lc, .ref lz, .ref af, .ref pt_, .int (nI p.length), .ref oc, .ref ty_, .ref sz_, .ref em])), (lt, .inl (g.2.1, 256, .inl u.1)), (er, .inl (g.2.1, 1536, .inl u.2.1)), (el, .inl (g.2.1, 6, .inl u.2.2.1)), (md, .inl (g.2.1, 256, .inl u.2.2.2))]) := by
  refine MuI.of (by decide +kernel) (Nat.le_of_ble_eq_true rfl) ?_
  intro p_ l_ e_ S_ m_ args below meth co X hr hlk hP hK A hA hD hS ls hl
  have X : CallFix p_ m_ co cX12_complement 2 S_ args lw_all RX12 := X
  have hl : lv_has ls 2 [(0, .ref m0)] := hl
  obtain ⟨hk2, hk4, hn1, hn6, hB, hT, hBT, hT2⟩ := hc.f
  have hB0 : 0 < B := by rw [hBT]; exact Nat.mul_pos (by omega) (by omega)
  have hbs := hlt.bd hk4
  have hlz := comL_len k s s.length 0
  refine lv_aload_n X.1 X.2.1 dX12_complement_0 rfl (lv_at hl 0 rfl) ?_
  refine va_get (D := g.1) (ci := 11) (v := .int (nI s.length)) (C := RX12) (T := TX12) (N := 26) X.1 X.2.1 X.2.2.2.2 iwX12 X.2.2.2.1 hK hP 0 rfl rfl 3 (by decide) (X.2.2.2.2 _ q1023) (fun _ h9 => h9) rfl dX12_complement_1 ?_
  refine z_if_ne (tgt := 10) X dX12_complement_4 (by decide) (nI_toInt (by omega)) (fun c4 => ?_) (fun c4 => ?_)
  · refine lv_aload_n X.1 X.2.1 dX12_complement_10 rfl (lv_at hl 0 rfl) ?_
    refine lv_iconst (v := (nI 0)) X.1 X.2.1 dX12_complement_11 (by decide) ?_
    refine va_put (D := g.1) (ci := 11) (v := .int (nI 0)) (ty := .int) (C := RX12) (T := TX12) (N := 26) X.1 X.2.1 X.2.2.2.2 iwX12 tyX12 tyX12_ok nmX12 X.2.2.2.1 hK hP hD hS 0 rfl rfl 15 (by decide) (X.2.2.2.2 _ q1035) (fun _ h9 => h9) rfl (by decide +kernel) rfl rfl (Nat.le_of_ble_eq_true rfl) dX12_complement_12 (fun H locs hP hD hS => ?_)
    have hP : PP g [(m0, .inr (11, [.int (nI k), .int (nI n), .ref lt, .int (nI s.length), .ref er, .ref el, .int (nI h.length), .ref cm_, .int (nI c.length), .int (bI tk), .int (nI k0), .int (nI n0), .ref sv, .int (nI s0.length), .ref md, .int (nI 0), .ref fmm, .ref lc, .ref lz, .ref af, .ref pt_, .int (nI p.length), .ref oc, .ref ty_, .ref sz_, .ref em])), (lt, .inl (g.2.1, 256, .inl f)), (er, .inl (g.2.1, 1536, .inl fe)), (el, .inl (g.2.1, 6, .inl fl)), (md, .inl (g.2.1, 256, .inl fm_))] H := hP
    have hD : va_D A [(m0, .inr (11, [.int (nI k), .int (nI n), .ref lt, .int (nI s.length), .ref er, .ref el, .int (nI h.length), .ref cm_, .int (nI c.length), .int (bI tk), .int (nI k0), .int (nI n0), .ref sv, .int (nI s0.length), .ref md, .int (nI 0), .ref fmm, .ref lc, .ref lz, .ref af, .ref pt_, .int (nI p.length), .ref oc, .ref ty_, .ref sz_, .ref em])), (lt, .inl (g.2.1, 256, .inl f)), (er, .inl (g.2.1, 1536, .inl fe)), (el, .inl (g.2.1, 6, .inl fl)), (md, .inl (g.2.1, 256, .inl fm_))] := hD
    have hP : PP g [(m0, .inr (11, [.int (nI k), .int (nI n), .ref lt, .int (nI s.length), .ref er, .ref el, .int (nI h.length), .ref cm_, .int (nI c.length), .int (bI tk), .int (nI k0), .int (nI n0), .ref sv, .int (nI s0.length), .ref md, .int (nI (([] : List Nat).length)), .ref fmm, .ref lc, .ref lz, .ref af, .ref pt_, .int (nI p.length), .ref oc, .ref ty_, .ref sz_, .ref em])), (lt, .inl (g.2.1, 256, .inl f)), (er, .inl (g.2.1, 1536, .inl fe)), (el, .inl (g.2.1, 6, .inl fl)), (md, .inl (g.2.1, 256, .inl fm_))] H := by exact hP
    have hD : va_D A [(m0, .inr (11, [.int (nI k), .int (nI n), .ref lt, .int (nI s.length), .ref er, .ref el, .int (nI h.length), .ref cm_, .int (nI c.length), .int (bI tk), .int (nI k0), .int (nI n0), .ref sv, .int (nI s0.length), .ref md, .int (nI (([] : List Nat).length)), .ref fmm, .ref lc, .ref lz, .ref af, .ref pt_, .int (nI p.length), .ref oc, .ref ty_, .ref sz_, .ref em])), (lt, .inl (g.2.1, 256, .inl f)), (er, .inl (g.2.1, 1536, .inl fe)), (el, .inl (g.2.1, 6, .inl fl)), (md, .inl (g.2.1, 256, .inl fm_))] := by exact hD
    refine lv_iconst (v := (nI 0)) X.1 X.2.1 dX12_complement_15 (by decide) ?_
    refine lv_istore_n (lv' := [(1, .int (nI 0)), (0, .ref m0)]) X.1 X.2.1 dX12_complement_16 rfl hl (by decide) rfl (fun ls hl => ?_)
    have L17 : ∀ (r : Nat) (i : Nat) (z1 : List Nat) (fm1 : Nat → Int32) (h1 : i + r = s.length) (hl1 : z1.length = i) (hq : z1 ++ comL k s r i = (comL k s s.length 0)) (hf1 : rep fm1 z1) (H : Heap) (locs : List Loc) (hP : PP g [(m0, .inr (11, [.int (nI k), .int (nI n), .ref lt, .int (nI s.length), .ref er, .ref el, .int (nI h.length), .ref cm_, .int (nI c.length), .int (bI tk), .int (nI k0), .int (nI n0), .ref sv, .int (nI s0.length), .ref md, .int (nI z1.length), .ref fmm, .ref lc, .ref lz, .ref af, .ref pt_, .int (nI p.length), .ref oc, .ref ty_, .ref sz_, .ref em])), (lt, .inl (g.2.1, 256, .inl f)), (er, .inl (g.2.1, 1536, .inl fe)), (el, .inl (g.2.1, 6, .inl fl)), (md, .inl (g.2.1, 256, .inl fm1))] H) (hD : va_D A [(m0, .inr (11, [.int (nI k), .int (nI n), .ref lt, .int (nI s.length), .ref er, .ref el, .int (nI h.length), .ref cm_, .int (nI c.length), .int (bI tk), .int (nI k0), .int (nI n0), .ref sv, .int (nI s0.length), .ref md, .int (nI z1.length), .ref fmm, .ref lc, .ref lz, .ref af, .ref pt_, .int (nI p.length), .ref oc, .ref ty_, .ref sz_, .ref em])), (lt, .inl (g.2.1, 256, .inl f)), (er, .inl (g.2.1, 1536, .inl fe)), (el, .inl (g.2.1, 6, .inl fl)), (md, .inl (g.2.1, 256, .inl fm1))]) (hS : va_S A S_.heap H locs) (ls : Array Slot) (hl : lv_has ls 2 [(1, .int (nI i)), (0, .ref m0)]), W p_ l_ e_ { frames := 2, cells := 0, slots := 0, locals := 61 } S_ m_ args below meth co H locs 0 0 (MQ below (va_Qi (S := (Nat → Int32) × (Nat → Int32) × (Nat → Int32) × (Nat → Int32)) (fun r u => r = (nI ((comL k s s.length 0).getD 0 0)) ∧ rep u.1 (comL k s s.length 0) ∧ hrm u.2.1 u.2.2.1 ((s :: h).take 6)) (MuB g A (fun u => [(m0, .inr (11, [.int (nI k), .int (nI n), .ref lt, .int (nI ((comL k s s.length 0).length)), .ref er, .ref el, .int (nI (((s :: h).take 6).length)), .ref cm_, .int (nI c.length), .int (bI tk), .int (nI k0), .int (nI n0), .ref sv, .int (nI s0.length), .ref md, .int (nI ((comL k s s.length 0).length)), .ref fmm, .ref lc, .ref lz, .ref af, .ref pt_, .int (nI p.length), .ref oc, .ref ty_, .ref sz_, .ref em])), (lt, .inl (g.2.1, 256, .inl u.1)), (er, .inl (g.2.1, 1536, .inl u.2.1)), (el, .inl (g.2.1, 6, .inl u.2.2.1)), (md, .inl (g.2.1, 256, .inl u.2.2.2))])) A) args S_ 0 0 A) (F0 m_ 17 ls []) := by
      intro r
      induction r with
      | zero =>
        intro i z1 fm1 h1 hl1 hq hf1 H locs hP hD hS ls hl
        have e9 : z1 = (comL k s s.length 0) := by simpa [comL] using hq
        refine lv_iload_n X.1 X.2.1 dX12_complement_17 rfl (lv_at hl 0 rfl) ?_
        refine lv_aload_n X.1 X.2.1 dX12_complement_18 rfl (lv_at hl 1 rfl) ?_
        refine va_get (D := g.1) (ci := 11) (v := .int (nI s.length)) (C := RX12) (T := TX12) (N := 26) X.1 X.2.1 X.2.2.2.2 iwX12 X.2.2.2.1 hK hP 0 rfl rfl 3 (by decide) (X.2.2.2.2 _ q1023) (fun _ h9 => h9) rfl dX12_complement_19 ?_
        refine z_icmp_ge (tgt := 48) X dX12_complement_22 (by decide) (nI_toInt (by omega)) (nI_toInt (by omega)) (fun c22 => ?_) (fun c22 => ?_)
        · have hP : PP g [(m0, .inr (11, [.int (nI k), .int (nI n), .ref lt, .int (nI s.length), .ref er, .ref el, .int (nI h.length), .ref cm_, .int (nI c.length), .int (bI tk), .int (nI k0), .int (nI n0), .ref sv, .int (nI s0.length), .ref md, .int (nI ((comL k s s.length 0).length)), .ref fmm, .ref lc, .ref lz, .ref af, .ref pt_, .int (nI p.length), .ref oc, .ref ty_, .ref sz_, .ref em])), (lt, .inl (g.2.1, 256, .inl f)), (er, .inl (g.2.1, 1536, .inl fe)), (el, .inl (g.2.1, 6, .inl fl)), (md, .inl (g.2.1, 256, .inl fm1))] H := by rw [← e9]; exact hP
          have hD : va_D A [(m0, .inr (11, [.int (nI k), .int (nI n), .ref lt, .int (nI s.length), .ref er, .ref el, .int (nI h.length), .ref cm_, .int (nI c.length), .int (bI tk), .int (nI k0), .int (nI n0), .ref sv, .int (nI s0.length), .ref md, .int (nI ((comL k s s.length 0).length)), .ref fmm, .ref lc, .ref lz, .ref af, .ref pt_, .int (nI p.length), .ref oc, .ref ty_, .ref sz_, .ref em])), (lt, .inl (g.2.1, 256, .inl f)), (er, .inl (g.2.1, 1536, .inl fe)), (el, .inl (g.2.1, 6, .inl fl)), (md, .inl (g.2.1, 256, .inl fm1))] := by rw [← e9]; exact hD
          refine lv_aload_n X.1 X.2.1 dX12_complement_48 rfl (lv_at hl 1 rfl) ?_
          refine (m_edit g m0 lt er el cm_ sv md fmm lc lz af pt_ oc ty_ sz_ em k n s h c tk k0 n0 s0 (comL k s s.length 0) p f fe fl fm1 (by omega) (by assumption) (by omega) (rep_eq hf1 e9) (by assumption)).callV (rest := []) (wr := []) X dX12_complement_49 q1194 tX12_edit hK hP hD hS hA [0, 1, 2, 3, 4] [] (by decide) rfl rfl (by decide) (by decide) 0 11 rfl rfl rfl hl ⟨⟨Nat.le_of_ble_eq_true rfl, Nat.le_of_ble_eq_true rfl⟩, Nat.le_of_ble_eq_true rfl, Nat.le_of_ble_eq_true rfl⟩ rfl rfl (Nat.le_of_ble_eq_true rfl) (fun u49 H locs hw49 hP hD hS => ?_)
          obtain ⟨f1_49, fe1_49, fl1_49⟩ := u49
          have hP : PP g [(m0, .inr (11, [.int (nI k), .int (nI n), .ref lt, .int (nI ((comL k s s.length 0).length)), .ref er, .ref el, .int (nI (((s :: h).take 6).length)), .ref cm_, .int (nI c.length), .int (bI tk), .int (nI k0), .int (nI n0), .ref sv, .int (nI s0.length), .ref md, .int (nI ((comL k s s.length 0).length)), .ref fmm, .ref lc, .ref lz, .ref af, .ref pt_, .int (nI p.length), .ref oc, .ref ty_, .ref sz_, .ref em])), (lt, .inl (g.2.1, 256, .inl f1_49)), (er, .inl (g.2.1, 1536, .inl fe1_49)), (el, .inl (g.2.1, 6, .inl fl1_49)), (md, .inl (g.2.1, 256, .inl fm1))] H := hP
          have hD : va_D A [(m0, .inr (11, [.int (nI k), .int (nI n), .ref lt, .int (nI ((comL k s s.length 0).length)), .ref er, .ref el, .int (nI (((s :: h).take 6).length)), .ref cm_, .int (nI c.length), .int (bI tk), .int (nI k0), .int (nI n0), .ref sv, .int (nI s0.length), .ref md, .int (nI ((comL k s s.length 0).length)), .ref fmm, .ref lc, .ref lz, .ref af, .ref pt_, .int (nI p.length), .ref oc, .ref ty_, .ref sz_, .ref em])), (lt, .inl (g.2.1, 256, .inl f1_49)), (er, .inl (g.2.1, 1536, .inl fe1_49)), (el, .inl (g.2.1, 6, .inl fl1_49)), (md, .inl (g.2.1, 256, .inl fm1))] := hD
          try dsimp only at hw49
          refine lv_aload_n X.1 X.2.1 dX12_complement_52 rfl (lv_at hl 1 rfl) ?_
          refine va_get (D := g.1) (ci := 11) (v := .ref lt) (C := RX12) (T := TX12) (N := 26) X.1 X.2.1 X.2.2.2.2 iwX12 X.2.2.2.1 hK hP 0 rfl rfl 2 (by decide) (X.2.2.2.2 _ q1022) (fun _ h9 => h9) rfl dX12_complement_53 ?_
          refine lv_iconst (v := (nI 0)) X.1 X.2.1 dX12_complement_56 (by decide) ?_
          refine n_iald X hK hP 1 0 rfl rfl (by omega) (by decide) dX12_complement_57 ?_
          refine tp_i (y := (nI ((comL k s s.length 0).getD 0 0))) (hw49.1 0 (by omega)) ?_
          exact MuI.ret X hr hlk hK hS dX12_complement_58 (nI_nar _) (f1_49, fe1_49, fl1_49, fm1) (hP.sub [0, 1, 2, 3, 4] rfl) (hD.sub [0, 1, 2, 3, 4] (by decide) rfl) (⟨rfl, hw49⟩)
        · exfalso; omega
      | succ r ih17 =>
        intro i z1 fm1 h1 hl1 hq hf1 H locs hP hD hS ls hl
        refine lv_iload_n X.1 X.2.1 dX12_complement_17 rfl (lv_at hl 0 rfl) ?_
        refine lv_aload_n X.1 X.2.1 dX12_complement_18 rfl (lv_at hl 1 rfl) ?_
        refine va_get (D := g.1) (ci := 11) (v := .int (nI s.length)) (C := RX12) (T := TX12) (N := 26) X.1 X.2.1 X.2.2.2.2 iwX12 X.2.2.2.1 hK hP 0 rfl rfl 3 (by decide) (X.2.2.2.2 _ q1023) (fun _ h9 => h9) rfl dX12_complement_19 ?_
        refine z_icmp_ge (tgt := 48) X dX12_complement_22 (by decide) (nI_toInt (by omega)) (nI_toInt (by omega)) (fun c22 => ?_) (fun c22 => ?_)
        · exfalso; omega
        · refine lv_aload_n X.1 X.2.1 dX12_complement_25 rfl (lv_at hl 1 rfl) ?_
          refine lv_aload_n X.1 X.2.1 dX12_complement_26 rfl (lv_at hl 1 rfl) ?_
          refine va_get (D := g.1) (ci := 11) (v := .int (nI k)) (C := RX12) (T := TX12) (N := 26) X.1 X.2.1 X.2.2.2.2 iwX12 X.2.2.2.1 hK hP 0 rfl rfl 0 (by decide) (X.2.2.2.2 _ q1020) (fun _ h9 => h9) rfl dX12_complement_27 ?_
          refine lv_iconst (v := (nI 1)) X.1 X.2.1 dX12_complement_30 (by decide) ?_
          refine n_sub X dX12_complement_31 (by omega) ?_
          refine lv_aload_n X.1 X.2.1 dX12_complement_32 rfl (lv_at hl 1 rfl) ?_
          refine va_get (D := g.1) (ci := 11) (v := .ref lt) (C := RX12) (T := TX12) (N := 26) X.1 X.2.1 X.2.2.2.2 iwX12 X.2.2.2.1 hK hP 0 rfl rfl 2 (by decide) (X.2.2.2.2 _ q1022) (fun _ h9 => h9) rfl dX12_complement_33 ?_
          refine lv_iload_n X.1 X.2.1 dX12_complement_36 rfl (lv_at hl 0 rfl) ?_
          refine n_iald X hK hP 1 0 rfl rfl (by omega) (by decide) dX12_complement_37 ?_
          have hsk := ltk_at hlt (by omega) i
          refine tp_i (y := (nI (s.getD i 0))) (hf i (by omega)) ?_
          refine n_sub X dX12_complement_38 (by omega) ?_
          refine (m_make g m0 lt er el cm_ sv md fmm lc lz af pt_ oc ty_ sz_ em k n s h c tk k0 n0 s0 z1 p fm1 ((k - 1) - (s.getD i 0)) (by omega) (by assumption)).callV (rest := []) (wr := [(lt, .inl (g.2.1, 256, .inl f)), (er, .inl (g.2.1, 1536, .inl fe)), (el, .inl (g.2.1, 6, .inl fl))]) X dX12_complement_39 q1141 tX12_make hK hP hD hS hA [0, 4] [1, 2, 3] (by decide) rfl rfl (by decide) (by decide) 0 11 rfl rfl rfl hl ⟨⟨Nat.le_of_ble_eq_true rfl, Nat.le_of_ble_eq_true rfl⟩, Nat.le_of_ble_eq_true rfl, Nat.le_of_ble_eq_true rfl⟩ rfl rfl (Nat.le_of_ble_eq_true rfl) (fun u39 H locs hw39 hP hD hS => ?_)
          obtain ⟨fm1_39, rfl⟩ : ∃ z, z = u39 := ⟨_, rfl⟩
          have hP : PP g [(lt, .inl (g.2.1, 256, .inl f)), (er, .inl (g.2.1, 1536, .inl fe)), (el, .inl (g.2.1, 6, .inl fl)), (m0, .inr (11, [.int (nI k), .int (nI n), .ref lt, .int (nI s.length), .ref er, .ref el, .int (nI h.length), .ref cm_, .int (nI c.length), .int (bI tk), .int (nI k0), .int (nI n0), .ref sv, .int (nI s0.length), .ref md, .int (nI ((z1 ++ [((k - 1) - (s.getD i 0))]).length)), .ref fmm, .ref lc, .ref lz, .ref af, .ref pt_, .int (nI p.length), .ref oc, .ref ty_, .ref sz_, .ref em])), (md, .inl (g.2.1, 256, .inl fm1_39))] H := hP
          have hD : va_D A [(lt, .inl (g.2.1, 256, .inl f)), (er, .inl (g.2.1, 1536, .inl fe)), (el, .inl (g.2.1, 6, .inl fl)), (m0, .inr (11, [.int (nI k), .int (nI n), .ref lt, .int (nI s.length), .ref er, .ref el, .int (nI h.length), .ref cm_, .int (nI c.length), .int (bI tk), .int (nI k0), .int (nI n0), .ref sv, .int (nI s0.length), .ref md, .int (nI ((z1 ++ [((k - 1) - (s.getD i 0))]).length)), .ref fmm, .ref lc, .ref lz, .ref af, .ref pt_, .int (nI p.length), .ref oc, .ref ty_, .ref sz_, .ref em])), (md, .inl (g.2.1, 256, .inl fm1_39))] := hD
          try dsimp only at hw39
          refine lv_iinc (v := (nI (i + 1))) (lv' := [(1, .int (nI (i + 1))), (0, .ref m0)]) X.1 X.2.1 dX12_complement_42 hl (k := 0) rfl (nI_inc _) (by decide) rfl (fun ls hl => ?_)
          refine lv_goto (tgt := 17) X.1 X.2.1 dX12_complement_45 (by decide) ?_
          exact ih17 (i + 1) (z1 ++ [k - 1 - s.getD i 0]) fm1_39 (by omega) (by simp; omega) (by rw [comL] at hq; simpa using hq) (hw39) _ _ (hP.sub [3, 0, 1, 2, 4] rfl) (hD.sub [3, 0, 1, 2, 4] (by decide) rfl) hS ls (lv_sub hl [0, 1] rfl)
    exact L17 s.length 0 ([] : List Nat) fm_ (by omega) (rfl) (rfl) (rep_nil) _ _ (hP.sub [0, 1, 2, 3, 4] rfl) (hD.sub [0, 1, 2, 3, 4] (by decide) rfl) hS ls (lv_sub hl [0, 1] rfl)
  · exfalso; omega

set_option maxHeartbeats 4000000 in
set_option maxRecDepth 100000 in
theorem m_cut_ok (g : G5) (m0 : Nat) (lt : Nat) (er : Nat) (el : Nat) (cm_ : Nat) (sv : Nat) (md : Nat) (fmm : Nat) (lc : Nat) (lz : Nat) (af : Nat) (pt_ : Nat) (oc : Nat) (ty_ : Nat) (sz_ : Nat) (em : Nat) (k : Nat) (n : Nat) (s : List Nat) (h : List (List Nat)) (c : List Nat) (tk : Bool) (k0 : Nat) (n0 : Nat) (s0 : List Nat) (z : List Nat) (p : List Int) (f : Nat → Int32) (fe : Nat → Int32) (fl : Nat → Int32) (fm_ : Nat → Int32) (B : Nat) (T : Nat) (a : Nat) (j : Nat) (hc : shp k n B T) (hs : s.length ≤ 256) (hf : rep f s) (hlt : ltk k s) (hh : hrm fe fl h) (hi : a < s.length) (hj1 : 1 ≤ j) (hj : j < s.length) (hrp : repB s a (a + j) (n - 1) = true) : MuI (S := (Nat → Int32) × (Nat → Int32) × (Nat → Int32) × (Nat → Int32)) yX12_cut cX12_cut 4 (some .int) 4 93 g [.ref m0, .int (nI a), .int (nI j)] [(m0, .inr (11, [.int (nI k), .int (nI n), .ref lt, .int (nI s.length), .ref er, .ref el, .int (nI h.length), .ref cm_, .int (nI c.length), .int (bI tk), .int (nI k0), .int (nI n0), .ref sv, .int (nI s0.length), .ref md, .int (nI z.length), .ref fmm, .ref lc, .ref lz, .ref af, .ref pt_, .int (nI p.length), .ref oc, .ref ty_, .ref sz_, .ref em])), (lt, .inl (g.2.1, 256, .inl f)), (er, .inl (g.2.1, 1536, .inl fe)), (el, .inl (g.2.1, 6, .inl fl)), (md, .inl (g.2.1, 256, .inl fm_))] (fun r u => r = (nI ((partL s (a + j) (s.length - j) 0).length)) ∧ rep u.1 (partL s (a + j) (s.length - j) 0) ∧ hrm u.2.1 u.2.2.1 ((s :: h).take 6)) (fun u => [(m0, .inr (11, [.int (nI k), .int (nI n), .ref lt, .int (nI ((partL s (a + j) (s.length - j) 0).length)), .ref er, .ref el, .int (nI (((s :: h).take 6).length)), .ref cm_, .int (nI c.length), .int (bI tk), .int (nI k0), .int (nI n0), .ref sv, .int (nI s0.length), .ref md, .int (nI ((partL s (a + j) (s.length - j) 0).length)), .ref fmm, .ref lc, .ref lz, .ref af, .ref pt_, .int (nI p.length), .ref oc, .ref ty_, .ref sz_, .ref em])), (lt, .inl (g.2.1, 256, .inl u.1)), (er, .inl (g.2.1, 1536, .inl u.2.1)), (el, .inl (g.2.1, 6, .inl u.2.2.1)), (md, .inl (g.2.1, 256, .inl u.2.2.2))]) := by
  refine MuI.of (by decide +kernel) (Nat.le_of_ble_eq_true rfl) ?_
  intro p_ l_ e_ S_ m_ args below meth co X hr hlk hP hK A hA hD hS ls hl
  have X : CallFix p_ m_ co cX12_cut 4 S_ args lw_all RX12 := X
  have hl : lv_has ls 4 [(0, .ref m0), (1, .int (nI a)), (2, .int (nI j))] := hl
  obtain ⟨hk2, hk4, hn1, hn6, hB, hT, hBT, hT2⟩ := hc.f
  have hB0 : 0 < B := by rw [hBT]; exact Nat.mul_pos (by omega) (by omega)
  have hbs := hlt.bd hk4
  have h7 : hasB (nI a) s.length = true := by rw [hasB_N (by omega)]; exact decide_eq_true (by omega)
  have hlz := partL_len s (a + j) (s.length - j) 0
  refine lv_aload_n X.1 X.2.1 dX12_cut_0 rfl (lv_at hl 0 rfl) ?_
  refine lv_iload_n X.1 X.2.1 dX12_cut_1 rfl (lv_at hl 1 rfl) ?_
  refine (m_isPosition g m0 lt er el cm_ sv md fmm lc lz af pt_ oc ty_ sz_ em k n s h c tk k0 n0 s0 z p (nI a) (by omega)).callV (rest := []) X dX12_cut_2 q1129 tX12_isPosition hK (hP.sub [0] rfl) 0 11 rfl rfl rfl hl ⟨⟨Nat.le_of_ble_eq_true rfl, Nat.le_of_ble_eq_true rfl⟩, Nat.le_of_ble_eq_true rfl, Nat.le_of_ble_eq_true rfl⟩ rfl rfl (Nat.le_of_ble_eq_true rfl) ?_
  refine b_if_ne (tgt := 11) X dX12_cut_5 (by decide) (fun c5 => ?_) (fun c5 => ?_)
  · refine lv_iload_n X.1 X.2.1 dX12_cut_11 rfl (lv_at hl 2 rfl) ?_
    refine lv_iconst (v := (nI 1)) X.1 X.2.1 dX12_cut_12 (by decide) ?_
    refine lv_aload_n X.1 X.2.1 dX12_cut_13 rfl (lv_at hl 0 rfl) ?_
    refine va_get (D := g.1) (ci := 11) (v := .int (nI s.length)) (C := RX12) (T := TX12) (N := 26) X.1 X.2.1 X.2.2.2.2 iwX12 X.2.2.2.1 hK hP 0 rfl rfl 3 (by decide) (X.2.2.2.2 _ q1023) (fun _ h9 => h9) rfl dX12_cut_14 ?_
    refine lv_iconst (v := (nI 1)) X.1 X.2.1 dX12_cut_17 (by decide) ?_
    refine n_sub X dX12_cut_18 (by omega) ?_
    refine (c_inN g (nI j) 1 (s.length - 1) (by omega) (by omega)).callS (rest := []) X dX12_cut_19 q1103 tX12_in hK (hP.sub [] rfl) hl ⟨⟨Nat.le_of_ble_eq_true rfl, Nat.le_of_ble_eq_true rfl⟩, Nat.le_of_ble_eq_true rfl, Nat.le_of_ble_eq_true rfl⟩ rfl rfl (Nat.le_of_ble_eq_true rfl) ?_
    refine b_if_ne (tgt := 27) X dX12_cut_22 (by decide) (fun c22 => ?_) (fun c22 => ?_)
    · refine lv_aload_n X.1 X.2.1 dX12_cut_27 rfl (lv_at hl 0 rfl) ?_
      refine lv_iload_n X.1 X.2.1 dX12_cut_28 rfl (lv_at hl 1 rfl) ?_
      refine lv_iload_n X.1 X.2.1 dX12_cut_29 rfl (lv_at hl 2 rfl) ?_
      refine (m_canCut g m0 lt er el cm_ sv md fmm lc lz af pt_ oc ty_ sz_ em k n s h c tk k0 n0 s0 z p f a j (by omega) (by omega) (by assumption) (hbs) (by omega) (by omega) (by omega)).callV (rest := []) X dX12_cut_30 q1257 tX12_canCut hK (hP.sub [0, 1] rfl) 0 11 rfl rfl rfl hl ⟨⟨Nat.le_of_ble_eq_true rfl, Nat.le_of_ble_eq_true rfl⟩, Nat.le_of_ble_eq_true rfl, Nat.le_of_ble_eq_true rfl⟩ rfl rfl (Nat.le_of_ble_eq_true rfl) ?_
      refine b_if_ne (tgt := 39) X dX12_cut_33 (by decide) (fun c33 => ?_) (fun c33 => ?_)
      · refine lv_aload_n X.1 X.2.1 dX12_cut_39 rfl (lv_at hl 0 rfl) ?_
        refine lv_iconst (v := (nI 0)) X.1 X.2.1 dX12_cut_40 (by decide) ?_
        refine va_put (D := g.1) (ci := 11) (v := .int (nI 0)) (ty := .int) (C := RX12) (T := TX12) (N := 26) X.1 X.2.1 X.2.2.2.2 iwX12 tyX12 tyX12_ok nmX12 X.2.2.2.1 hK hP hD hS 0 rfl rfl 15 (by decide) (X.2.2.2.2 _ q1035) (fun _ h9 => h9) rfl (by decide +kernel) rfl rfl (Nat.le_of_ble_eq_true rfl) dX12_cut_41 (fun H locs hP hD hS => ?_)
        have hP : PP g [(m0, .inr (11, [.int (nI k), .int (nI n), .ref lt, .int (nI s.length), .ref er, .ref el, .int (nI h.length), .ref cm_, .int (nI c.length), .int (bI tk), .int (nI k0), .int (nI n0), .ref sv, .int (nI s0.length), .ref md, .int (nI 0), .ref fmm, .ref lc, .ref lz, .ref af, .ref pt_, .int (nI p.length), .ref oc, .ref ty_, .ref sz_, .ref em])), (lt, .inl (g.2.1, 256, .inl f)), (er, .inl (g.2.1, 1536, .inl fe)), (el, .inl (g.2.1, 6, .inl fl)), (md, .inl (g.2.1, 256, .inl fm_))] H := hP
        have hD : va_D A [(m0, .inr (11, [.int (nI k), .int (nI n), .ref lt, .int (nI s.length), .ref er, .ref el, .int (nI h.length), .ref cm_, .int (nI c.length), .int (bI tk), .int (nI k0), .int (nI n0), .ref sv, .int (nI s0.length), .ref md, .int (nI 0), .ref fmm, .ref lc, .ref lz, .ref af, .ref pt_, .int (nI p.length), .ref oc, .ref ty_, .ref sz_, .ref em])), (lt, .inl (g.2.1, 256, .inl f)), (er, .inl (g.2.1, 1536, .inl fe)), (el, .inl (g.2.1, 6, .inl fl)), (md, .inl (g.2.1, 256, .inl fm_))] := hD
        have hP : PP g [(m0, .inr (11, [.int (nI k), .int (nI n), .ref lt, .int (nI s.length), .ref er, .ref el, .int (nI h.length), .ref cm_, .int (nI c.length), .int (bI tk), .int (nI k0), .int (nI n0), .ref sv, .int (nI s0.length), .ref md, .int (nI (([] : List Nat).length)), .ref fmm, .ref lc, .ref lz, .ref af, .ref pt_, .int (nI p.length), .ref oc, .ref ty_, .ref sz_, .ref em])), (lt, .inl (g.2.1, 256, .inl f)), (er, .inl (g.2.1, 1536, .inl fe)), (el, .inl (g.2.1, 6, .inl fl)), (md, .inl (g.2.1, 256, .inl fm_))] H := by exact hP
        have hD : va_D A [(m0, .inr (11, [.int (nI k), .int (nI n), .ref lt, .int (nI s.length), .ref er, .ref el, .int (nI h.length), .ref cm_, .int (nI c.length), .int (bI tk), .int (nI k0), .int (nI n0), .ref sv, .int (nI s0.length), .ref md, .int (nI (([] : List Nat).length)), .ref fmm, .ref lc, .ref lz, .ref af, .ref pt_, .int (nI p.length), .ref oc, .ref ty_, .ref sz_, .ref em])), (lt, .inl (g.2.1, 256, .inl f)), (er, .inl (g.2.1, 1536, .inl fe)), (el, .inl (g.2.1, 6, .inl fl)), (md, .inl (g.2.1, 256, .inl fm_))] := by exact hD
        refine lv_iconst (v := (nI 0)) X.1 X.2.1 dX12_cut_44 (by decide) ?_
        refine lv_istore_n (lv' := [(3, .int (nI 0)), (0, .ref m0), (1, .int (nI a)), (2, .int (nI j))]) X.1 X.2.1 dX12_cut_45 rfl hl (by decide) rfl (fun ls hl => ?_)
        have L46 : ∀ (r : Nat) (i : Nat) (z1 : List Nat) (fm1 : Nat → Int32) (h1 : i + r = s.length - j) (hl1 : z1.length = i) (hq : z1 ++ partL s (a + j) r i = (partL s (a + j) (s.length - j) 0)) (hf1 : rep fm1 z1) (H : Heap) (locs : List Loc) (hP : PP g [(m0, .inr (11, [.int (nI k), .int (nI n), .ref lt, .int (nI s.length), .ref er, .ref el, .int (nI h.length), .ref cm_, .int (nI c.length), .int (bI tk), .int (nI k0), .int (nI n0), .ref sv, .int (nI s0.length), .ref md, .int (nI z1.length), .ref fmm, .ref lc, .ref lz, .ref af, .ref pt_, .int (nI p.length), .ref oc, .ref ty_, .ref sz_, .ref em])), (lt, .inl (g.2.1, 256, .inl f)), (er, .inl (g.2.1, 1536, .inl fe)), (el, .inl (g.2.1, 6, .inl fl)), (md, .inl (g.2.1, 256, .inl fm1))] H) (hD : va_D A [(m0, .inr (11, [.int (nI k), .int (nI n), .ref lt, .int (nI s.length), .ref er, .ref el, .int (nI h.length), .ref cm_, .int (nI c.length), .int (bI tk), .int (nI k0), .int (nI n0), .ref sv, .int (nI s0.length), .ref md, .int (nI z1.length), .ref fmm, .ref lc, .ref lz, .ref af, .ref pt_, .int (nI p.length), .ref oc, .ref ty_, .ref sz_, .ref em])), (lt, .inl (g.2.1, 256, .inl f)), (er, .inl (g.2.1, 1536, .inl fe)), (el, .inl (g.2.1, 6, .inl fl)), (md, .inl (g.2.1, 256, .inl fm1))]) (hS : va_S A S_.heap H locs) (ls : Array Slot) (hl : lv_has ls 4 [(3, .int (nI i)), (0, .ref m0), (1, .int (nI a)), (2, .int (nI j))]), W p_ l_ e_ { frames := 4, cells := 0, slots := 0, locals := 93 } S_ m_ args below meth co H locs 0 0 (MQ below (va_Qi (S := (Nat → Int32) × (Nat → Int32) × (Nat → Int32) × (Nat → Int32)) (fun r u => r = (nI ((partL s (a + j) (s.length - j) 0).length)) ∧ rep u.1 (partL s (a + j) (s.length - j) 0) ∧ hrm u.2.1 u.2.2.1 ((s :: h).take 6)) (MuB g A (fun u => [(m0, .inr (11, [.int (nI k), .int (nI n), .ref lt, .int (nI ((partL s (a + j) (s.length - j) 0).length)), .ref er, .ref el, .int (nI (((s :: h).take 6).length)), .ref cm_, .int (nI c.length), .int (bI tk), .int (nI k0), .int (nI n0), .ref sv, .int (nI s0.length), .ref md, .int (nI ((partL s (a + j) (s.length - j) 0).length)), .ref fmm, .ref lc, .ref lz, .ref af, .ref pt_, .int (nI p.length), .ref oc, .ref ty_, .ref sz_, .ref em])), (lt, .inl (g.2.1, 256, .inl u.1)), (er, .inl (g.2.1, 1536, .inl u.2.1)), (el, .inl (g.2.1, 6, .inl u.2.2.1)), (md, .inl (g.2.1, 256, .inl u.2.2.2))])) A) args S_ 0 0 A) (F0 m_ 46 ls []) := by
          intro r
          induction r with
          | zero =>
            intro i z1 fm1 h1 hl1 hq hf1 H locs hP hD hS ls hl
            have e9 : z1 = (partL s (a + j) (s.length - j) 0) := by simpa [partL] using hq
            refine lv_iload_n X.1 X.2.1 dX12_cut_46 rfl (lv_at hl 0 rfl) ?_
            refine lv_aload_n X.1 X.2.1 dX12_cut_47 rfl (lv_at hl 1 rfl) ?_
            refine va_get (D := g.1) (ci := 11) (v := .int (nI s.length)) (C := RX12) (T := TX12) (N := 26) X.1 X.2.1 X.2.2.2.2 iwX12 X.2.2.2.1 hK hP 0 rfl rfl 3 (by decide) (X.2.2.2.2 _ q1023) (fun _ h9 => h9) rfl dX12_cut_48 ?_
            refine lv_iload_n X.1 X.2.1 dX12_cut_51 rfl (lv_at hl 3 rfl) ?_
            refine n_sub X dX12_cut_52 (by omega) ?_
            refine z_icmp_ge (tgt := 76) X dX12_cut_53 (by decide) (nI_toInt (by omega)) (nI_toInt (by omega)) (fun c53 => ?_) (fun c53 => ?_)
            · have hP : PP g [(m0, .inr (11, [.int (nI k), .int (nI n), .ref lt, .int (nI s.length), .ref er, .ref el, .int (nI h.length), .ref cm_, .int (nI c.length), .int (bI tk), .int (nI k0), .int (nI n0), .ref sv, .int (nI s0.length), .ref md, .int (nI ((partL s (a + j) (s.length - j) 0).length)), .ref fmm, .ref lc, .ref lz, .ref af, .ref pt_, .int (nI p.length), .ref oc, .ref ty_, .ref sz_, .ref em])), (lt, .inl (g.2.1, 256, .inl f)), (er, .inl (g.2.1, 1536, .inl fe)), (el, .inl (g.2.1, 6, .inl fl)), (md, .inl (g.2.1, 256, .inl fm1))] H := by rw [← e9]; exact hP
              have hD : va_D A [(m0, .inr (11, [.int (nI k), .int (nI n), .ref lt, .int (nI s.length), .ref er, .ref el, .int (nI h.length), .ref cm_, .int (nI c.length), .int (bI tk), .int (nI k0), .int (nI n0), .ref sv, .int (nI s0.length), .ref md, .int (nI ((partL s (a + j) (s.length - j) 0).length)), .ref fmm, .ref lc, .ref lz, .ref af, .ref pt_, .int (nI p.length), .ref oc, .ref ty_, .ref sz_, .ref em])), (lt, .inl (g.2.1, 256, .inl f)), (er, .inl (g.2.1, 1536, .inl fe)), (el, .inl (g.2.1, 6, .inl fl)), (md, .inl (g.2.1, 256, .inl fm1))] := by rw [← e9]; exact hD
              refine lv_aload_n X.1 X.2.1 dX12_cut_76 rfl (lv_at hl 1 rfl) ?_
              refine (m_edit g m0 lt er el cm_ sv md fmm lc lz af pt_ oc ty_ sz_ em k n s h c tk k0 n0 s0 (partL s (a + j) (s.length - j) 0) p f fe fl fm1 (by omega) (by assumption) (by omega) (rep_eq hf1 e9) (by assumption)).callV (rest := []) (wr := []) X dX12_cut_77 q1194 tX12_edit hK hP hD hS hA [0, 1, 2, 3, 4] [] (by decide) rfl rfl (by decide) (by decide) 0 11 rfl rfl rfl hl ⟨⟨Nat.le_of_ble_eq_true rfl, Nat.le_of_ble_eq_true rfl⟩, Nat.le_of_ble_eq_true rfl, Nat.le_of_ble_eq_true rfl⟩ rfl rfl (Nat.le_of_ble_eq_true rfl) (fun u77 H locs hw77 hP hD hS => ?_)
              obtain ⟨f1_77, fe1_77, fl1_77⟩ := u77
              have hP : PP g [(m0, .inr (11, [.int (nI k), .int (nI n), .ref lt, .int (nI ((partL s (a + j) (s.length - j) 0).length)), .ref er, .ref el, .int (nI (((s :: h).take 6).length)), .ref cm_, .int (nI c.length), .int (bI tk), .int (nI k0), .int (nI n0), .ref sv, .int (nI s0.length), .ref md, .int (nI ((partL s (a + j) (s.length - j) 0).length)), .ref fmm, .ref lc, .ref lz, .ref af, .ref pt_, .int (nI p.length), .ref oc, .ref ty_, .ref sz_, .ref em])), (lt, .inl (g.2.1, 256, .inl f1_77)), (er, .inl (g.2.1, 1536, .inl fe1_77)), (el, .inl (g.2.1, 6, .inl fl1_77)), (md, .inl (g.2.1, 256, .inl fm1))] H := hP
              have hD : va_D A [(m0, .inr (11, [.int (nI k), .int (nI n), .ref lt, .int (nI ((partL s (a + j) (s.length - j) 0).length)), .ref er, .ref el, .int (nI (((s :: h).take 6).length)), .ref cm_, .int (nI c.length), .int (bI tk), .int (nI k0), .int (nI n0), .ref sv, .int (nI s0.length), .ref md, .int (nI ((partL s (a + j) (s.length - j) 0).length)), .ref fmm, .ref lc, .ref lz, .ref af, .ref pt_, .int (nI p.length), .ref oc, .ref ty_, .ref sz_, .ref em])), (lt, .inl (g.2.1, 256, .inl f1_77)), (er, .inl (g.2.1, 1536, .inl fe1_77)), (el, .inl (g.2.1, 6, .inl fl1_77)), (md, .inl (g.2.1, 256, .inl fm1))] := hD
              try dsimp only at hw77
              refine lv_aload_n X.1 X.2.1 dX12_cut_80 rfl (lv_at hl 1 rfl) ?_
              refine va_get (D := g.1) (ci := 11) (v := .int (nI ((partL s (a + j) (s.length - j) 0).length))) (C := RX12) (T := TX12) (N := 26) X.1 X.2.1 X.2.2.2.2 iwX12 X.2.2.2.1 hK hP 0 rfl rfl 3 (by decide) (X.2.2.2.2 _ q1023) (fun _ h9 => h9) rfl dX12_cut_81 ?_
              exact MuI.ret X hr hlk hK hS dX12_cut_84 (nI_nar _) (f1_77, fe1_77, fl1_77, fm1) (hP.sub [0, 1, 2, 3, 4] rfl) (hD.sub [0, 1, 2, 3, 4] (by decide) rfl) (⟨rfl, hw77⟩)
            · exfalso; omega
          | succ r ih46 =>
            intro i z1 fm1 h1 hl1 hq hf1 H locs hP hD hS ls hl
            refine lv_iload_n X.1 X.2.1 dX12_cut_46 rfl (lv_at hl 0 rfl) ?_
            refine lv_aload_n X.1 X.2.1 dX12_cut_47 rfl (lv_at hl 1 rfl) ?_
            refine va_get (D := g.1) (ci := 11) (v := .int (nI s.length)) (C := RX12) (T := TX12) (N := 26) X.1 X.2.1 X.2.2.2.2 iwX12 X.2.2.2.1 hK hP 0 rfl rfl 3 (by decide) (X.2.2.2.2 _ q1023) (fun _ h9 => h9) rfl dX12_cut_48 ?_
            refine lv_iload_n X.1 X.2.1 dX12_cut_51 rfl (lv_at hl 3 rfl) ?_
            refine n_sub X dX12_cut_52 (by omega) ?_
            refine z_icmp_ge (tgt := 76) X dX12_cut_53 (by decide) (nI_toInt (by omega)) (nI_toInt (by omega)) (fun c53 => ?_) (fun c53 => ?_)
            · exfalso; omega
            · refine lv_aload_n X.1 X.2.1 dX12_cut_56 rfl (lv_at hl 1 rfl) ?_
              refine lv_aload_n X.1 X.2.1 dX12_cut_57 rfl (lv_at hl 1 rfl) ?_
              refine lv_iload_n X.1 X.2.1 dX12_cut_58 rfl (lv_at hl 2 rfl) ?_
              refine lv_iload_n X.1 X.2.1 dX12_cut_59 rfl (lv_at hl 3 rfl) ?_
              refine n_add X dX12_cut_60 ?_
              refine lv_iload_n X.1 X.2.1 dX12_cut_61 rfl (lv_at hl 0 rfl) ?_
              refine n_add X dX12_cut_62 ?_
              refine lv_i2l (v := lN (a + j + i)) X.1 X.2.1 dX12_cut_63 (nI_l (by omega)) ?_
              refine (m_atN g m0 lt er el cm_ sv md fmm lc lz af pt_ oc ty_ sz_ em k n s h c tk k0 n0 s0 z1 p f (a + j + i) (by omega) (by assumption) (by omega) (by omega)).callV (rest := [.ref m0]) X dX12_cut_64 q1238 tX12_at hK (hP.sub [0, 1] rfl) 0 11 rfl rfl rfl hl ⟨⟨Nat.le_of_ble_eq_true rfl, Nat.le_of_ble_eq_true rfl⟩, Nat.le_of_ble_eq_true rfl, Nat.le_of_ble_eq_true rfl⟩ rfl rfl (Nat.le_of_ble_eq_true rfl) ?_
              refine (m_make g m0 lt er el cm_ sv md fmm lc lz af pt_ oc ty_ sz_ em k n s h c tk k0 n0 s0 z1 p fm1 (s.getD ((a + j + i) % s.length) 0) (by omega) (by assumption)).callV (rest := []) (wr := [(lt, .inl (g.2.1, 256, .inl f)), (er, .inl (g.2.1, 1536, .inl fe)), (el, .inl (g.2.1, 6, .inl fl))]) X dX12_cut_67 q1141 tX12_make hK hP hD hS hA [0, 4] [1, 2, 3] (by decide) rfl rfl (by decide) (by decide) 0 11 rfl rfl rfl hl ⟨⟨Nat.le_of_ble_eq_true rfl, Nat.le_of_ble_eq_true rfl⟩, Nat.le_of_ble_eq_true rfl, Nat.le_of_ble_eq_true rfl⟩ rfl rfl (Nat.le_of_ble_eq_true rfl) (fun u67 H locs hw67 hP hD hS => ?_)
              obtain ⟨fm1_67, rfl⟩ : ∃ z, z = u67 := ⟨_, rfl⟩
              have hP : PP g [(lt, .inl (g.2.1, 256, .inl f)), (er, .inl (g.2.1, 1536, .inl fe)), (el, .inl (g.2.1, 6, .inl fl)), (m0, .inr (11, [.int (nI k), .int (nI n), .ref lt, .int (nI s.length), .ref er, .ref el, .int (nI h.length), .ref cm_, .int (nI c.length), .int (bI tk), .int (nI k0), .int (nI n0), .ref sv, .int (nI s0.length), .ref md, .int (nI ((z1 ++ [(s.getD ((a + j + i) % s.length) 0)]).length)), .ref fmm, .ref lc, .ref lz, .ref af, .ref pt_, .int (nI p.length), .ref oc, .ref ty_, .ref sz_, .ref em])), (md, .inl (g.2.1, 256, .inl fm1_67))] H := hP
              have hD : va_D A [(lt, .inl (g.2.1, 256, .inl f)), (er, .inl (g.2.1, 1536, .inl fe)), (el, .inl (g.2.1, 6, .inl fl)), (m0, .inr (11, [.int (nI k), .int (nI n), .ref lt, .int (nI s.length), .ref er, .ref el, .int (nI h.length), .ref cm_, .int (nI c.length), .int (bI tk), .int (nI k0), .int (nI n0), .ref sv, .int (nI s0.length), .ref md, .int (nI ((z1 ++ [(s.getD ((a + j + i) % s.length) 0)]).length)), .ref fmm, .ref lc, .ref lz, .ref af, .ref pt_, .int (nI p.length), .ref oc, .ref ty_, .ref sz_, .ref em])), (md, .inl (g.2.1, 256, .inl fm1_67))] := hD
              try dsimp only at hw67
              refine lv_iinc (v := (nI (i + 1))) (lv' := [(3, .int (nI (i + 1))), (0, .ref m0), (1, .int (nI a)), (2, .int (nI j))]) X.1 X.2.1 dX12_cut_70 hl (k := 0) rfl (nI_inc _) (by decide) rfl (fun ls hl => ?_)
              refine lv_goto (tgt := 46) X.1 X.2.1 dX12_cut_73 (by decide) ?_
              exact ih46 (i + 1) (z1 ++ [s.getD ((a + j + i) % s.length) 0]) fm1_67 (by omega) (by simp; omega) (by rw [partL] at hq; simpa using hq) (hw67) _ _ (hP.sub [3, 0, 1, 2, 4] rfl) (hD.sub [3, 0, 1, 2, 4] (by decide) rfl) hS ls (lv_sub hl [0, 1, 2, 3] rfl)
        exact L46 (s.length - j) 0 ([] : List Nat) fm_ (by omega) (rfl) (rfl) (rep_nil) _ _ (hP.sub [0, 1, 2, 3, 4] rfl) (hD.sub [0, 1, 2, 3, 4] (by decide) rfl) hS ls (lv_sub hl [0, 1, 2, 3] rfl)
      · exfalso; rw [hrp] at c33; cases c33
    · exfalso; have h6 := of_decide_eq_false c22; rw [nI_toInt (by omega)] at h6; omega
  · exfalso; rw [h7] at c5; cases c5

set_option maxHeartbeats 4000000 in
set_option maxRecDepth 100000 in
theorem m_cut_no1 (g : G5) (m0 : Nat) (lt : Nat) (er : Nat) (el : Nat) (cm_ : Nat) (sv : Nat) (md : Nat) (fmm : Nat) (lc : Nat) (lz : Nat) (af : Nat) (pt_ : Nat) (oc : Nat) (ty_ : Nat) (sz_ : Nat) (em : Nat) (k : Nat) (n : Nat) (s : List Nat) (h : List (List Nat)) (c : List Nat) (tk : Bool) (k0 : Nat) (n0 : Nat) (s0 : List Nat) (z : List Nat) (p : List Int) (B : Nat) (T : Nat) (x : Int32) (y : Int32) (hc : shp k n B T) (hs : s.length ≤ 256) (hno : (hasB x s.length && cutB s y) = false) : PuI yX12_cut cX12_cut 4 (some .int) 4 93 g [.ref m0, .int x, .int y] [(m0, .inr (11, [.int (nI k), .int (nI n), .ref lt, .int (nI s.length), .ref er, .ref el, .int (nI h.length), .ref cm_, .int (nI c.length), .int (bI tk), .int (nI k0), .int (nI n0), .ref sv, .int (nI s0.length), .ref md, .int (nI z.length), .ref fmm, .ref lc, .ref lz, .ref af, .ref pt_, .int (nI p.length), .ref oc, .ref ty_, .ref sz_, .ref em]))] (if hasB x s.length then (-1) else (-2)) := by
  refine PuI.of (by decide +kernel) (Nat.le_of_ble_eq_true rfl) ?_
  intro p_ l_ e_ S_ m_ args below meth co X hr hlk hP hK ls hl
  have X : CallFix p_ m_ co cX12_cut 4 S_ args lw_all RX12 := X
  have hl : lv_has ls 4 [(0, .ref m0), (1, .int x), (2, .int y)] := hl
  refine lv_aload_n X.1 X.2.1 dX12_cut_0 rfl (lv_at hl 0 rfl) ?_
  refine lv_iload_n X.1 X.2.1 dX12_cut_1 rfl (lv_at hl 1 rfl) ?_
  refine (m_isPosition g m0 lt er el cm_ sv md fmm lc lz af pt_ oc ty_ sz_ em k n s h c tk k0 n0 s0 z p x (by omega)).callV (rest := []) X dX12_cut_2 q1129 tX12_isPosition hK (hP.sub [0] rfl) 0 11 rfl rfl rfl hl ⟨⟨Nat.le_of_ble_eq_true rfl, Nat.le_of_ble_eq_true rfl⟩, Nat.le_of_ble_eq_true rfl, Nat.le_of_ble_eq_true rfl⟩ rfl rfl (Nat.le_of_ble_eq_true rfl) ?_
  refine b_if_ne (tgt := 11) X dX12_cut_5 (by decide) (fun c5 => ?_) (fun c5 => ?_)
  · refine lv_iload_n X.1 X.2.1 dX12_cut_11 rfl (lv_at hl 2 rfl) ?_
    refine lv_iconst (v := (nI 1)) X.1 X.2.1 dX12_cut_12 (by decide) ?_
    refine lv_aload_n X.1 X.2.1 dX12_cut_13 rfl (lv_at hl 0 rfl) ?_
    refine va_get (D := g.1) (ci := 11) (v := .int (nI s.length)) (C := RX12) (T := TX12) (N := 26) X.1 X.2.1 X.2.2.2.2 iwX12 X.2.2.2.1 hK hP 0 rfl rfl 3 (by decide) (X.2.2.2.2 _ q1023) (fun _ h9 => h9) rfl dX12_cut_14 ?_
    refine lv_iconst (v := (nI 1)) X.1 X.2.1 dX12_cut_17 (by decide) ?_
    refine lv_isub X.1 X.2.1 dX12_cut_18 ?_
    refine tp_i (y := (iI (((s.length : Nat) : Int) - ((1 : Nat) : Int)))) (by first | rw [iI_sub] | rw [nI_iI, nI_iI, iI_sub] | rw [nI_iI, iI_sub]) ?_
    refine (c_inI g y 1 (((s.length : Nat) : Int) - ((1 : Nat) : Int)) (by omega) (by omega)).callS (rest := []) X dX12_cut_19 q1103 tX12_in hK (hP.sub [] rfl) hl ⟨⟨Nat.le_of_ble_eq_true rfl, Nat.le_of_ble_eq_true rfl⟩, Nat.le_of_ble_eq_true rfl, Nat.le_of_ble_eq_true rfl⟩ rfl rfl (Nat.le_of_ble_eq_true rfl) ?_
    refine b_if_ne (tgt := 27) X dX12_cut_22 (by decide) (fun c22 => ?_) (fun c22 => ?_)
    · exfalso; have h6 := of_decide_eq_true c22; rw [c5, show cutB s y = true from by unfold cutB; exact decide_eq_true (by omega)] at hno; cases hno
    · refine lv_iconst (v := (-1)) X.1 X.2.1 dX12_cut_25 (by decide) ?_
      exact PuI.ret X hr hlk dX12_cut_26 (nI_nar _) (by rw [c5]; rfl)
  · refine lv_bipush (v := (-2)) X.1 X.2.1 dX12_cut_8 (by decide) ?_
    exact PuI.ret X hr hlk dX12_cut_10 (nI_nar _) (by rw [c5]; rfl)

set_option maxHeartbeats 4000000 in
set_option maxRecDepth 100000 in
theorem m_cut_no2 (g : G5) (m0 : Nat) (lt : Nat) (er : Nat) (el : Nat) (cm_ : Nat) (sv : Nat) (md : Nat) (fmm : Nat) (lc : Nat) (lz : Nat) (af : Nat) (pt_ : Nat) (oc : Nat) (ty_ : Nat) (sz_ : Nat) (em : Nat) (k : Nat) (n : Nat) (s : List Nat) (h : List (List Nat)) (c : List Nat) (tk : Bool) (k0 : Nat) (n0 : Nat) (s0 : List Nat) (z : List Nat) (p : List Int) (f : Nat → Int32) (B : Nat) (T : Nat) (a : Nat) (j : Nat) (hc : shp k n B T) (hs : s.length ≤ 256) (hf : rep f s) (hlt : ltk k s) (hi : a < s.length) (hj1 : 1 ≤ j) (hj : j < s.length) (hrp : repB s a (a + j) (n - 1) = false) : PuI yX12_cut cX12_cut 4 (some .int) 4 93 g [.ref m0, .int (nI a), .int (nI j)] [(m0, .inr (11, [.int (nI k), .int (nI n), .ref lt, .int (nI s.length), .ref er, .ref el, .int (nI h.length), .ref cm_, .int (nI c.length), .int (bI tk), .int (nI k0), .int (nI n0), .ref sv, .int (nI s0.length), .ref md, .int (nI z.length), .ref fmm, .ref lc, .ref lz, .ref af, .ref pt_, .int (nI p.length), .ref oc, .ref ty_, .ref sz_, .ref em])), (lt, .inl (g.2.1, 256, .inl f))] (-5) := by
  refine PuI.of (by decide +kernel) (Nat.le_of_ble_eq_true rfl) ?_
  intro p_ l_ e_ S_ m_ args below meth co X hr hlk hP hK ls hl
  have X : CallFix p_ m_ co cX12_cut 4 S_ args lw_all RX12 := X
  have hl : lv_has ls 4 [(0, .ref m0), (1, .int (nI a)), (2, .int (nI j))] := hl
  obtain ⟨hk2, hk4, hn1, hn6, hB, hT, hBT, hT2⟩ := hc.f
  have hB0 : 0 < B := by rw [hBT]; exact Nat.mul_pos (by omega) (by omega)
  have hbs := hlt.bd hk4
  have h7 : hasB (nI a) s.length = true := by rw [hasB_N (by omega)]; exact decide_eq_true (by omega)
  refine lv_aload_n X.1 X.2.1 dX12_cut_0 rfl (lv_at hl 0 rfl) ?_
  refine lv_iload_n X.1 X.2.1 dX12_cut_1 rfl (lv_at hl 1 rfl) ?_
  refine (m_isPosition g m0 lt er el cm_ sv md fmm lc lz af pt_ oc ty_ sz_ em k n s h c tk k0 n0 s0 z p (nI a) (by omega)).callV (rest := []) X dX12_cut_2 q1129 tX12_isPosition hK (hP.sub [0] rfl) 0 11 rfl rfl rfl hl ⟨⟨Nat.le_of_ble_eq_true rfl, Nat.le_of_ble_eq_true rfl⟩, Nat.le_of_ble_eq_true rfl, Nat.le_of_ble_eq_true rfl⟩ rfl rfl (Nat.le_of_ble_eq_true rfl) ?_
  refine b_if_ne (tgt := 11) X dX12_cut_5 (by decide) (fun c5 => ?_) (fun c5 => ?_)
  · refine lv_iload_n X.1 X.2.1 dX12_cut_11 rfl (lv_at hl 2 rfl) ?_
    refine lv_iconst (v := (nI 1)) X.1 X.2.1 dX12_cut_12 (by decide) ?_
    refine lv_aload_n X.1 X.2.1 dX12_cut_13 rfl (lv_at hl 0 rfl) ?_
    refine va_get (D := g.1) (ci := 11) (v := .int (nI s.length)) (C := RX12) (T := TX12) (N := 26) X.1 X.2.1 X.2.2.2.2 iwX12 X.2.2.2.1 hK hP 0 rfl rfl 3 (by decide) (X.2.2.2.2 _ q1023) (fun _ h9 => h9) rfl dX12_cut_14 ?_
    refine lv_iconst (v := (nI 1)) X.1 X.2.1 dX12_cut_17 (by decide) ?_
    refine n_sub X dX12_cut_18 (by omega) ?_
    refine (c_inN g (nI j) 1 (s.length - 1) (by omega) (by omega)).callS (rest := []) X dX12_cut_19 q1103 tX12_in hK (hP.sub [] rfl) hl ⟨⟨Nat.le_of_ble_eq_true rfl, Nat.le_of_ble_eq_true rfl⟩, Nat.le_of_ble_eq_true rfl, Nat.le_of_ble_eq_true rfl⟩ rfl rfl (Nat.le_of_ble_eq_true rfl) ?_
    refine b_if_ne (tgt := 27) X dX12_cut_22 (by decide) (fun c22 => ?_) (fun c22 => ?_)
    · refine lv_aload_n X.1 X.2.1 dX12_cut_27 rfl (lv_at hl 0 rfl) ?_
      refine lv_iload_n X.1 X.2.1 dX12_cut_28 rfl (lv_at hl 1 rfl) ?_
      refine lv_iload_n X.1 X.2.1 dX12_cut_29 rfl (lv_at hl 2 rfl) ?_
      refine (m_canCut g m0 lt er el cm_ sv md fmm lc lz af pt_ oc ty_ sz_ em k n s h c tk k0 n0 s0 z p f a j (by omega) (by omega) (by assumption) (hbs) (by omega) (by omega) (by omega)).callV (rest := []) X dX12_cut_30 q1257 tX12_canCut hK (hP.sub [0, 1] rfl) 0 11 rfl rfl rfl hl ⟨⟨Nat.le_of_ble_eq_true rfl, Nat.le_of_ble_eq_true rfl⟩, Nat.le_of_ble_eq_true rfl, Nat.le_of_ble_eq_true rfl⟩ rfl rfl (Nat.le_of_ble_eq_true rfl) ?_
      refine b_if_ne (tgt := 39) X dX12_cut_33 (by decide) (fun c33 => ?_) (fun c33 => ?_)
      · exfalso; rw [hrp] at c33; cases c33
      · refine lv_bipush (v := (-5)) X.1 X.2.1 dX12_cut_36 (by decide) ?_
        exact PuI.ret X hr hlk dX12_cut_38 (nI_nar _) (rfl)
    · exfalso; have h6 := of_decide_eq_false c22; rw [nI_toInt (by omega)] at h6; omega
  · exfalso; rw [h7] at c5; cases c5

set_option maxHeartbeats 4000000 in
set_option maxRecDepth 100000 in
theorem m_firstCut_ok (g : G5) (m0 : Nat) (lt : Nat) (er : Nat) (el : Nat) (cm_ : Nat) (sv : Nat) (md : Nat) (fmm : Nat) (lc : Nat) (lz : Nat) (af : Nat) (pt_ : Nat) (oc : Nat) (ty_ : Nat) (sz_ : Nat) (em : Nat) (k : Nat) (n : Nat) (s : List Nat) (h : List (List Nat)) (c : List Nat) (tk : Bool) (k0 : Nat) (n0 : Nat) (s0 : List Nat) (z : List Nat) (p : List Int) (f : Nat → Int32) (B : Nat) (T : Nat) (j : Nat) (hc : shp k n B T) (hs : s.length ≤ 256) (hf : rep f s) (hb : bd s) (h1j : 1 ≤ j) (hj : j < s.length) : PuI yX12_firstCut cX12_firstCut 3 (some .int) 4 93 g [.ref m0, .int (nI j)] [(m0, .inr (11, [.int (nI k), .int (nI n), .ref lt, .int (nI s.length), .ref er, .ref el, .int (nI h.length), .ref cm_, .int (nI c.length), .int (bI tk), .int (nI k0), .int (nI n0), .ref sv, .int (nI s0.length), .ref md, .int (nI z.length), .ref fmm, .ref lc, .ref lz, .ref af, .ref pt_, .int (nI p.length), .ref oc, .ref ty_, .ref sz_, .ref em])), (lt, .inl (g.2.1, 256, .inl f))] (oI (firstL (cutQ n s j) s.length 0)) := by
  refine PuI.of (by decide +kernel) (Nat.le_of_ble_eq_true rfl) ?_
  intro p_ l_ e_ S_ m_ args below meth co X hr hlk hP hK ls hl
  have X : CallFix p_ m_ co cX12_firstCut 3 S_ args lw_all RX12 := X
  have hl : lv_has ls 3 [(0, .ref m0), (1, .int (nI j))] := hl
  obtain ⟨hk2, hk4, hn1, hn6, hB, hT, hBT, hT2⟩ := hc.f
  have hB0 : 0 < B := by rw [hBT]; exact Nat.mul_pos (by omega) (by omega)
  refine lv_aload_n X.1 X.2.1 dX12_firstCut_0 rfl (lv_at hl 0 rfl) ?_
  refine va_get (D := g.1) (ci := 11) (v := .int (nI s.length)) (C := RX12) (T := TX12) (N := 26) X.1 X.2.1 X.2.2.2.2 iwX12 X.2.2.2.1 hK hP 0 rfl rfl 3 (by decide) (X.2.2.2.2 _ q1023) (fun _ h9 => h9) rfl dX12_firstCut_1 ?_
  refine z_if_ne (tgt := 10) X dX12_firstCut_4 (by decide) (nI_toInt (by omega)) (fun c4 => ?_) (fun c4 => ?_)
  · refine lv_iload_n X.1 X.2.1 dX12_firstCut_10 rfl (lv_at hl 1 rfl) ?_
    refine lv_iconst (v := (nI 1)) X.1 X.2.1 dX12_firstCut_11 (by decide) ?_
    refine lv_aload_n X.1 X.2.1 dX12_firstCut_12 rfl (lv_at hl 0 rfl) ?_
    refine va_get (D := g.1) (ci := 11) (v := .int (nI s.length)) (C := RX12) (T := TX12) (N := 26) X.1 X.2.1 X.2.2.2.2 iwX12 X.2.2.2.1 hK hP 0 rfl rfl 3 (by decide) (X.2.2.2.2 _ q1023) (fun _ h9 => h9) rfl dX12_firstCut_13 ?_
    refine lv_iconst (v := (nI 1)) X.1 X.2.1 dX12_firstCut_16 (by decide) ?_
    refine n_sub X dX12_firstCut_17 (by omega) ?_
    refine (c_inN g (nI j) 1 (s.length - 1) (by omega) (by omega)).callS (rest := []) X dX12_firstCut_18 q1103 tX12_in hK (hP.sub [] rfl) hl ⟨⟨Nat.le_of_ble_eq_true rfl, Nat.le_of_ble_eq_true rfl⟩, Nat.le_of_ble_eq_true rfl, Nat.le_of_ble_eq_true rfl⟩ rfl rfl (Nat.le_of_ble_eq_true rfl) ?_
    refine b_if_ne (tgt := 26) X dX12_firstCut_21 (by decide) (fun c21 => ?_) (fun c21 => ?_)
    · refine lv_iconst (v := (nI 0)) X.1 X.2.1 dX12_firstCut_26 (by decide) ?_
      refine lv_istore_n (lv' := [(2, .int (nI 0)), (0, .ref m0), (1, .int (nI j))]) X.1 X.2.1 dX12_firstCut_27 rfl hl (by decide) rfl (fun ls hl => ?_)
      have L28 : ∀ (r : Nat) (i : Nat) (h1 : i + r = s.length) (hq : firstL (cutQ n s j) r i = firstL (cutQ n s j) s.length 0) (ls : Array Slot) (hl : lv_has ls 3 [(2, .int (nI i)), (0, .ref m0), (1, .int (nI j))]), W p_ l_ e_ { frames := 4, cells := 0, slots := 0, locals := 93 } S_ m_ args below meth co S_.heap [] 0 0 (MQ below (vp_Si (fun r => r = (oI (firstL (cutQ n s j) s.length 0)))) args S_ 0 0 (fun _ => False)) (F0 m_ 28 ls []) := by
        intro r
        induction r with
        | zero =>
          intro i h1 hq ls hl
          refine lv_iload_n X.1 X.2.1 dX12_firstCut_28 rfl (lv_at hl 0 rfl) ?_
          refine lv_aload_n X.1 X.2.1 dX12_firstCut_29 rfl (lv_at hl 1 rfl) ?_
          refine va_get (D := g.1) (ci := 11) (v := .int (nI s.length)) (C := RX12) (T := TX12) (N := 26) X.1 X.2.1 X.2.2.2.2 iwX12 X.2.2.2.1 hK hP 0 rfl rfl 3 (by decide) (X.2.2.2.2 _ q1023) (fun _ h9 => h9) rfl dX12_firstCut_30 ?_
          refine z_icmp_ge (tgt := 53) X dX12_firstCut_33 (by decide) (nI_toInt (by omega)) (nI_toInt (by omega)) (fun c33 => ?_) (fun c33 => ?_)
          · refine lv_bipush (v := (-2)) X.1 X.2.1 dX12_firstCut_53 (by decide) ?_
            exact PuI.ret X hr hlk dX12_firstCut_55 (nI_nar _) (by rw [← hq]; rfl)
          · exfalso; omega
        | succ r ih28 =>
          intro i h1 hq ls hl
          refine lv_iload_n X.1 X.2.1 dX12_firstCut_28 rfl (lv_at hl 0 rfl) ?_
          refine lv_aload_n X.1 X.2.1 dX12_firstCut_29 rfl (lv_at hl 1 rfl) ?_
          refine va_get (D := g.1) (ci := 11) (v := .int (nI s.length)) (C := RX12) (T := TX12) (N := 26) X.1 X.2.1 X.2.2.2.2 iwX12 X.2.2.2.1 hK hP 0 rfl rfl 3 (by decide) (X.2.2.2.2 _ q1023) (fun _ h9 => h9) rfl dX12_firstCut_30 ?_
          refine z_icmp_ge (tgt := 53) X dX12_firstCut_33 (by decide) (nI_toInt (by omega)) (nI_toInt (by omega)) (fun c33 => ?_) (fun c33 => ?_)
          · exfalso; omega
          · refine lv_aload_n X.1 X.2.1 dX12_firstCut_36 rfl (lv_at hl 1 rfl) ?_
            refine lv_iload_n X.1 X.2.1 dX12_firstCut_37 rfl (lv_at hl 0 rfl) ?_
            refine lv_iload_n X.1 X.2.1 dX12_firstCut_38 rfl (lv_at hl 2 rfl) ?_
            refine (m_canCut g m0 lt er el cm_ sv md fmm lc lz af pt_ oc ty_ sz_ em k n s h c tk k0 n0 s0 z p f i j (by omega) (by omega) (by assumption) (by assumption) (by omega) (by omega) (by omega)).callV (rest := []) X dX12_firstCut_39 q1257 tX12_canCut hK (hP.sub [0, 1] rfl) 0 11 rfl rfl rfl hl ⟨⟨Nat.le_of_ble_eq_true rfl, Nat.le_of_ble_eq_true rfl⟩, Nat.le_of_ble_eq_true rfl, Nat.le_of_ble_eq_true rfl⟩ rfl rfl (Nat.le_of_ble_eq_true rfl) ?_
            refine b_if_eq (tgt := 47) X dX12_firstCut_42 (by decide) (fun c42 => ?_) (fun c42 => ?_)
            · refine lv_iinc (v := (nI (i + 1))) (lv' := [(2, .int (nI (i + 1))), (0, .ref m0), (1, .int (nI j))]) X.1 X.2.1 dX12_firstCut_47 hl (k := 0) rfl (nI_inc _) (by decide) rfl (fun ls hl => ?_)
              refine lv_goto (tgt := 28) X.1 X.2.1 dX12_firstCut_50 (by decide) ?_
              exact ih28 (i + 1) (by omega) (by rw [firstL, cutQ, c42] at hq; exact hq) ls (lv_sub hl [0, 1, 2] rfl)
            · refine lv_iload_n X.1 X.2.1 dX12_firstCut_45 rfl (lv_at hl 0 rfl) ?_
              exact PuI.ret X hr hlk dX12_firstCut_46 (nI_nar _) (by rw [firstL, cutQ, c42] at hq; rw [← hq]; rfl)
      exact L28 s.length 0 (by omega) (rfl) ls (lv_sub hl [0, 1, 2] rfl)
    · exfalso; have h6 := of_decide_eq_false c21; rw [nI_toInt (by omega)] at h6; omega
  · exfalso; omega

set_option maxHeartbeats 4000000 in
set_option maxRecDepth 100000 in
theorem m_firstCut_no (g : G5) (m0 : Nat) (lt : Nat) (er : Nat) (el : Nat) (cm_ : Nat) (sv : Nat) (md : Nat) (fmm : Nat) (lc : Nat) (lz : Nat) (af : Nat) (pt_ : Nat) (oc : Nat) (ty_ : Nat) (sz_ : Nat) (em : Nat) (k : Nat) (n : Nat) (s : List Nat) (h : List (List Nat)) (c : List Nat) (tk : Bool) (k0 : Nat) (n0 : Nat) (s0 : List Nat) (z : List Nat) (p : List Int) (f : Nat → Int32) (B : Nat) (T : Nat) (x : Int32) (hc : shp k n B T) (hs : s.length ≤ 256) (hno : s.length < 1 ∨ cutB s x = false) : PuI yX12_firstCut cX12_firstCut 3 (some .int) 4 93 g [.ref m0, .int x] [(m0, .inr (11, [.int (nI k), .int (nI n), .ref lt, .int (nI s.length), .ref er, .ref el, .int (nI h.length), .ref cm_, .int (nI c.length), .int (bI tk), .int (nI k0), .int (nI n0), .ref sv, .int (nI s0.length), .ref md, .int (nI z.length), .ref fmm, .ref lc, .ref lz, .ref af, .ref pt_, .int (nI p.length), .ref oc, .ref ty_, .ref sz_, .ref em])), (lt, .inl (g.2.1, 256, .inl f))] (if s.length < 1 then (-3) else (-1)) := by
  refine PuI.of (by decide +kernel) (Nat.le_of_ble_eq_true rfl) ?_
  intro p_ l_ e_ S_ m_ args below meth co X hr hlk hP hK ls hl
  have X : CallFix p_ m_ co cX12_firstCut 3 S_ args lw_all RX12 := X
  have hl : lv_has ls 3 [(0, .ref m0), (1, .int x)] := hl
  obtain ⟨hk2, hk4, hn1, hn6, hB, hT, hBT, hT2⟩ := hc.f
  have hB0 : 0 < B := by rw [hBT]; exact Nat.mul_pos (by omega) (by omega)
  refine lv_aload_n X.1 X.2.1 dX12_firstCut_0 rfl (lv_at hl 0 rfl) ?_
  refine va_get (D := g.1) (ci := 11) (v := .int (nI s.length)) (C := RX12) (T := TX12) (N := 26) X.1 X.2.1 X.2.2.2.2 iwX12 X.2.2.2.1 hK hP 0 rfl rfl 3 (by decide) (X.2.2.2.2 _ q1023) (fun _ h9 => h9) rfl dX12_firstCut_1 ?_
  refine z_if_ne (tgt := 10) X dX12_firstCut_4 (by decide) (nI_toInt (by omega)) (fun c4 => ?_) (fun c4 => ?_)
  · refine lv_iload_n X.1 X.2.1 dX12_firstCut_10 rfl (lv_at hl 1 rfl) ?_
    refine lv_iconst (v := (nI 1)) X.1 X.2.1 dX12_firstCut_11 (by decide) ?_
    refine lv_aload_n X.1 X.2.1 dX12_firstCut_12 rfl (lv_at hl 0 rfl) ?_
    refine va_get (D := g.1) (ci := 11) (v := .int (nI s.length)) (C := RX12) (T := TX12) (N := 26) X.1 X.2.1 X.2.2.2.2 iwX12 X.2.2.2.1 hK hP 0 rfl rfl 3 (by decide) (X.2.2.2.2 _ q1023) (fun _ h9 => h9) rfl dX12_firstCut_13 ?_
    refine lv_iconst (v := (nI 1)) X.1 X.2.1 dX12_firstCut_16 (by decide) ?_
    refine lv_isub X.1 X.2.1 dX12_firstCut_17 ?_
    refine tp_i (y := (iI (((s.length : Nat) : Int) - ((1 : Nat) : Int)))) (by first | rw [iI_sub] | rw [nI_iI, nI_iI, iI_sub] | rw [nI_iI, iI_sub]) ?_
    refine (c_inI g x 1 (((s.length : Nat) : Int) - ((1 : Nat) : Int)) (by omega) (by omega)).callS (rest := []) X dX12_firstCut_18 q1103 tX12_in hK (hP.sub [] rfl) hl ⟨⟨Nat.le_of_ble_eq_true rfl, Nat.le_of_ble_eq_true rfl⟩, Nat.le_of_ble_eq_true rfl, Nat.le_of_ble_eq_true rfl⟩ rfl rfl (Nat.le_of_ble_eq_true rfl) ?_
    refine b_if_ne (tgt := 26) X dX12_firstCut_21 (by decide) (fun c21 => ?_) (fun c21 => ?_)
    · exfalso; have h6 := of_decide_eq_true c21; (rcases hno with h | h) <;> first | omega | (rw [show cutB s x = true from by unfold cutB; exact decide_eq_true (by omega)] at h; cases h)
    · refine lv_iconst (v := (-1)) X.1 X.2.1 dX12_firstCut_24 (by decide) ?_
      exact PuI.ret X hr hlk dX12_firstCut_25 (nI_nar _) (by first | (rw [if_pos (by omega)]; done) | (rw [if_neg (by omega)]; done))
  · refine lv_bipush (v := (-3)) X.1 X.2.1 dX12_firstCut_7 (by decide) ?_
    exact PuI.ret X hr hlk dX12_firstCut_9 (nI_nar _) (by first | (rw [if_pos (by omega)]; done) | (rw [if_neg (by omega)]; done))

theorem m_firstCut (g : G5) (m0 : Nat) (lt : Nat) (er : Nat) (el : Nat) (cm_ : Nat) (sv : Nat) (md : Nat) (fmm : Nat) (lc : Nat) (lz : Nat) (af : Nat) (pt_ : Nat) (oc : Nat) (ty_ : Nat) (sz_ : Nat) (em : Nat) (k : Nat) (n : Nat) (s : List Nat) (h : List (List Nat)) (c : List Nat) (tk : Bool) (k0 : Nat) (n0 : Nat) (s0 : List Nat) (z : List Nat) (p : List Int) (f : Nat → Int32) (B : Nat) (T : Nat) (x : Int32) (hc : shp k n B T) (hs : s.length ≤ 256) (hf : rep f s) (hb : bd s) : PuI yX12_firstCut cX12_firstCut 3 (some .int) 4 93 g [.ref m0, .int x] [(m0, .inr (11, [.int (nI k), .int (nI n), .ref lt, .int (nI s.length), .ref er, .ref el, .int (nI h.length), .ref cm_, .int (nI c.length), .int (bI tk), .int (nI k0), .int (nI n0), .ref sv, .int (nI s0.length), .ref md, .int (nI z.length), .ref fmm, .ref lc, .ref lz, .ref af, .ref pt_, .int (nI p.length), .ref oc, .ref ty_, .ref sz_, .ref em])), (lt, .inl (g.2.1, 256, .inl f))] (a_firstCut n s x) := by
  unfold a_firstCut
  by_cases h0 : s.length < 1
  · rw [if_pos h0]
    have h := m_firstCut_no g m0 lt er el cm_ sv md fmm lc lz af pt_ oc ty_ sz_ em k n s h c tk k0 n0 s0 z p f B T x hc hs (Or.inl h0)
    rw [if_pos h0] at h
    exact h
  · rw [if_neg h0]
    cases hcb : cutB s x with
    | false =>
      have h := m_firstCut_no g m0 lt er el cm_ sv md fmm lc lz af pt_ oc ty_ sz_ em k n s h c tk k0 n0 s0 z p f B T x hc hs (Or.inr hcb)
      rw [if_neg h0] at h
      exact h
    | true =>
      obtain ⟨j, hj, hj1, hj2, rfl⟩ := cutB_t hcb
      rw [xN_N hj]
      exact m_firstCut_ok g m0 lt er el cm_ sv md fmm lc lz af pt_ oc ty_ sz_ em k n s h c tk k0 n0 s0 z p f B T j hc hs hf hb hj1 hj2
