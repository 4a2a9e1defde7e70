set_option maxHeartbeats 4000000 in
set_option maxRecDepth 100000 in
theorem m_at (g : G5) (m0 : Nat) (lt : Nat) (er : Nat) (el : Nat) (cm_ : Nat) (sv : Nat) (md : Nat) (fmm : Nat) (lc : Nat) (lz : Nat) (af : Nat) (pt_ : Nat) (oc : Nat) (ty_ : Nat) (sz_ : Nat) (em : Nat) (k : Nat) (n : Nat) (s : List Nat) (h : List (List Nat)) (c : List Nat) (tk : Bool) (k0 : Nat) (n0 : Nat) (s0 : List Nat) (z : List Nat) (p : List Int) (f : Nat → Int32) (x : Int64) (hs : s.length ≤ 256) (hf : rep f s) (h0 : 0 < s.length) : PuI yX12_at cX12_at 3 (some .int) 1 25 g [.ref m0, .long x] [(m0, .inr (11, [.int (nI k), .int (nI n), .ref lt, .int (nI s.length), .ref er, .ref el, .int (nI h.length), .ref cm_, .int (nI c.length), .int (bI tk), .int (nI k0), .int (nI n0), .ref sv, .int (nI s0.length), .ref md, .int (nI z.length), .ref fmm, .ref lc, .ref lz, .ref af, .ref pt_, .int (nI p.length), .ref oc, .ref ty_, .ref sz_, .ref em])), (lt, .inl (g.2.1, 256, .inl f))] (nI (s.getD (x.toInt % (s.length : Int)).toNat 0)) := by
  refine PuI.of (by decide +kernel) (Nat.le_of_ble_eq_true rfl) ?_
  intro p_ l_ e_ S_ m_ args below meth co X hr hlk hP hK ls hl
  have X : CallFix p_ m_ co cX12_at 3 S_ args lw_all RX12 := X
  have hl : lv_has ls 3 [(0, .ref m0), (1, .long x)] := hl
  have h8 := fm_lt (x := x.toInt) (n := s.length) h0
  refine lv_aload_n X.1 X.2.1 dX12_at_0 rfl (lv_at hl 0 rfl) ?_
  refine va_get (D := g.1) (ci := 11) (v := .ref lt) (C := RX12) (T := TX12) (N := 26) X.1 X.2.1 X.2.2.2.2 iwX12 X.2.2.2.1 hK hP 0 rfl rfl 2 (by decide) (X.2.2.2.2 _ q1022) (fun _ h9 => h9) rfl dX12_at_1 ?_
  refine lv_lload_n X.1 X.2.1 dX12_at_4 rfl (lv_at hl 1 rfl) ?_
  refine lv_aload_n X.1 X.2.1 dX12_at_5 rfl (lv_at hl 0 rfl) ?_
  refine va_get (D := g.1) (ci := 11) (v := .int (nI s.length)) (C := RX12) (T := TX12) (N := 26) X.1 X.2.1 X.2.2.2.2 iwX12 X.2.2.2.1 hK hP 0 rfl rfl 3 (by decide) (X.2.2.2.2 _ q1023) (fun _ h9 => h9) rfl dX12_at_6 ?_
  refine lv_i2l (v := lN s.length) X.1 X.2.1 dX12_at_9 (nI_l (by omega)) ?_
  refine (c_fmodL g x s.length (by omega) (by omega)).callS (rest := [.ref lt]) X dX12_at_10 q1242 tJ9_floorMod_f86c9 hK (hP.sub [] rfl) hl ⟨⟨Nat.le_of_ble_eq_true rfl, Nat.le_of_ble_eq_true rfl⟩, Nat.le_of_ble_eq_true rfl, Nat.le_of_ble_eq_true rfl⟩ rfl rfl (Nat.le_of_ble_eq_true rfl) ?_
  refine tp_l (y := (lN ((x.toInt % (s.length : Int)).toNat))) (rfl) ?_
  refine lv_l2i (v := nI ((x.toInt % (s.length : Int)).toNat)) X.1 X.2.1 dX12_at_13 (lN_i _) ?_
  refine n_iald X hK hP 1 0 rfl rfl (by omega) (by decide) dX12_at_14 ?_
  exact PuI.ret X hr hlk dX12_at_15 (nI_nar _) (hf _ h8)

theorem m_atN (g : G5) (m0 : Nat) (lt : Nat) (er : Nat) (el : Nat) (cm_ : Nat) (sv : Nat) (md : Nat) (fmm : Nat) (lc : Nat) (lz : Nat) (af : Nat) (pt_ : Nat) (oc : Nat) (ty_ : Nat) (sz_ : Nat) (em : Nat) (k : Nat) (n : Nat) (s : List Nat) (h : List (List Nat)) (c : List Nat) (tk : Bool) (k0 : Nat) (n0 : Nat) (s0 : List Nat) (z : List Nat) (p : List Int) (f : Nat → Int32) (j : Nat) (hs : s.length ≤ 256) (hf : rep f s) (h0 : 0 < s.length) (hj : j < 2 ^ 31) : PuI yX12_at cX12_at 3 (some .int) 1 25 g [.ref m0, .long (lN j)] [(m0, .inr (11, [.int (nI k), .int (nI n), .ref lt, .int (nI s.length), .ref er, .ref el, .int (nI h.length), .ref cm_, .int (nI c.length), .int (bI tk), .int (nI k0), .int (nI n0), .ref sv, .int (nI s0.length), .ref md, .int (nI z.length), .ref fmm, .ref lc, .ref lz, .ref af, .ref pt_, .int (nI p.length), .ref oc, .ref ty_, .ref sz_, .ref em])), (lt, .inl (g.2.1, 256, .inl f))] (nI (s.getD (j % s.length) 0)) := by
  have e : ((lN j).toInt % (s.length : Int)).toNat = j % s.length := by rw [lN_toInt hj, ← Int.natCast_emod, Int.toNat_natCast]
  have h := m_at g m0 lt er el cm_ sv md fmm lc lz af pt_ oc ty_ sz_ em k n s h c tk k0 n0 s0 z p f (lN j) hs hf h0
  rw [e] at h
  exact h

set_option maxHeartbeats 4000000 in
set_option maxRecDepth 100000 in
theorem m_letterOf (g : G5) (m0 : Nat) (lt : Nat) (er : Nat) (el : Nat) (cm_ : Nat) (sv : Nat) (md : Nat) (fmm : Nat) (lc : Nat) (lz : Nat) (af : Nat) (pt_ : Nat) (oc : Nat) (ty_ : Nat) (sz_ : Nat) (em : Nat) (k : Nat) (n : Nat) (s : List Nat) (h : List (List Nat)) (c : List Nat) (tk : Bool) (k0 : Nat) (n0 : Nat) (s0 : List Nat) (z : List Nat) (p : List Int) (m : Nat) (B1 : Nat) (T1 : Nat) (b : Nat) (i : Nat) (hsm : shp k m B1 T1) (hb : b < 2 ^ 31) (hi : i < m) : PuI yX12_letterOf cX12_letterOf 4 (some .int) 1 23 g [.ref m0, .int (nI b), .int (nI m), .int (nI i)] [(m0, .inr (11, [.int (nI k), .int (nI n), .ref lt, .int (nI s.length), .ref er, .ref el, .int (nI h.length), .ref cm_, .int (nI c.length), .int (bI tk), .int (nI k0), .int (nI n0), .ref sv, .int (nI s0.length), .ref md, .int (nI z.length), .ref fmm, .ref lc, .ref lz, .ref af, .ref pt_, .int (nI p.length), .ref oc, .ref ty_, .ref sz_, .ref em]))] (nI (b / k ^ (m - 1 - i) % k)) := by
  refine PuI.of (by decide +kernel) (Nat.le_of_ble_eq_true rfl) ?_
  intro p_ l_ e_ S_ m_ args below meth co X hr hlk hP hK ls hl
  have X : CallFix p_ m_ co cX12_letterOf 4 S_ args lw_all RX12 := X
  have hl : lv_has ls 4 [(0, .ref m0), (1, .int (nI b)), (2, .int (nI m)), (3, .int (nI i))] := hl
  obtain ⟨hk2, hk4, hm1, hm6, hB1, hT1, hBT1, hT12⟩ := hsm.f
  have hpw := pow_le hsm (m := m - 1 - i) (by omega)
  have hpp : 0 < k ^ (m - 1 - i) := Nat.pow_pos (by omega)
  have hdv := Nat.div_le_self b (k ^ (m - 1 - i))
  refine lv_iload_n X.1 X.2.1 dX12_letterOf_0 rfl (lv_at hl 1 rfl) ?_
  refine lv_aload_n X.1 X.2.1 dX12_letterOf_1 rfl (lv_at hl 0 rfl) ?_
  refine va_get (D := g.1) (ci := 11) (v := .int (nI k)) (C := RX12) (T := TX12) (N := 26) X.1 X.2.1 X.2.2.2.2 iwX12 X.2.2.2.1 hK hP 0 rfl rfl 0 (by decide) (X.2.2.2.2 _ q1020) (fun _ h9 => h9) rfl dX12_letterOf_2 ?_
  refine lv_iload_n X.1 X.2.1 dX12_letterOf_5 rfl (lv_at hl 2 rfl) ?_
  refine lv_iconst (v := (nI 1)) X.1 X.2.1 dX12_letterOf_6 (by decide) ?_
  refine n_sub X dX12_letterOf_7 (by omega) ?_
  refine lv_iload_n X.1 X.2.1 dX12_letterOf_8 rfl (lv_at hl 3 rfl) ?_
  refine n_sub X dX12_letterOf_9 (by omega) ?_
  refine (c_mpower g k ((m - 1) - i) (by omega)).callS (rest := [.int (nI b)]) X dX12_letterOf_10 q1106 tX12_power hK (hP.sub [] rfl) hl ⟨⟨Nat.le_of_ble_eq_true rfl, Nat.le_of_ble_eq_true rfl⟩, Nat.le_of_ble_eq_true rfl, Nat.le_of_ble_eq_true rfl⟩ rfl rfl (Nat.le_of_ble_eq_true rfl) ?_
  refine n_div X dX12_letterOf_13 (by omega) (by omega) (by omega) ?_
  refine lv_aload_n X.1 X.2.1 dX12_letterOf_14 rfl (lv_at hl 0 rfl) ?_
  refine va_get (D := g.1) (ci := 11) (v := .int (nI k)) (C := RX12) (T := TX12) (N := 26) X.1 X.2.1 X.2.2.2.2 iwX12 X.2.2.2.1 hK hP 0 rfl rfl 0 (by decide) (X.2.2.2.2 _ q1020) (fun _ h9 => h9) rfl dX12_letterOf_15 ?_
  refine n_rem X dX12_letterOf_18 (by omega) (by omega) (by omega) ?_
  exact PuI.ret X hr hlk dX12_letterOf_19 (nI_nar _) (rfl)

set_option maxHeartbeats 4000000 in
set_option maxRecDepth 100000 in
theorem m_occurring (g : G5) (m0 : Nat) (lt : Nat) (er : Nat) (el : Nat) (cm_ : Nat) (sv : Nat) (md : Nat) (fmm : Nat) (lc : Nat) (lz : Nat) (af : Nat) (pt_ : Nat) (oc : Nat) (ty_ : Nat) (sz_ : Nat) (em : Nat) (k : Nat) (n : Nat) (s : List Nat) (h : List (List Nat)) (c : List Nat) (tk : Bool) (k0 : Nat) (n0 : Nat) (s0 : List Nat) (z : List Nat) (p : List Int) (f : Nat → Int32) (j : Nat) (hn : n ≤ 6) (hs : s.length ≤ 256) (hf : rep f s) (h0 : 0 < s.length) (hj : j < 1000) : PuI yX12_occurring cX12_occurring 4 (some .int) 2 47 g [.ref m0, .int (nI j)] [(m0, .inr (11, [.int (nI k), .int (nI n), .ref lt, .int (nI s.length), .ref er, .ref el, .int (nI h.length), .ref cm_, .int (nI c.length), .int (bI tk), .int (nI k0), .int (nI n0), .ref sv, .int (nI s0.length), .ref md, .int (nI z.length), .ref fmm, .ref lc, .ref lz, .ref af, .ref pt_, .int (nI p.length), .ref oc, .ref ty_, .ref sz_, .ref em])), (lt, .inl (g.2.1, 256, .inl f))] (nI (codeN k n s j)) := by
  refine PuI.of (by decide +kernel) (Nat.le_of_ble_eq_true rfl) ?_
  intro p_ l_ e_ S_ m_ args below meth co X hr hlk hP hK ls hl
  have X : CallFix p_ m_ co cX12_occurring 4 S_ args lw_all RX12 := X
  have hl : lv_has ls 4 [(0, .ref m0), (1, .int (nI j))] := hl
  refine lv_iconst (v := (nI 0)) X.1 X.2.1 dX12_occurring_0 (by decide) ?_
  refine lv_istore_n (lv' := [(2, .int (nI 0)), (0, .ref m0), (1, .int (nI j))]) X.1 X.2.1 dX12_occurring_1 rfl hl (by decide) rfl (fun ls hl => ?_)
  refine lv_iconst (v := (nI 0)) X.1 X.2.1 dX12_occurring_2 (by decide) ?_
  refine lv_istore_n (lv' := [(3, .int (nI 0)), (2, .int (nI 0)), (0, .ref m0), (1, .int (nI j))]) X.1 X.2.1 dX12_occurring_3 rfl hl (by decide) rfl (fun ls hl => ?_)
  have L4 : ∀ (r : Nat) (v : Nat) (i : Nat) (h1 : i + r = n) (hq : codeL k s r (j + i) v = codeN k n s j) (ls : Array Slot) (hl : lv_has ls 4 [(3, .int (nI i)), (2, .int (nI v)), (0, .ref m0), (1, .int (nI j))]), W p_ l_ e_ { frames := 2, cells := 0, slots := 0, locals := 47 } S_ m_ args below meth co S_.heap [] 0 0 (MQ below (vp_Si (fun r => r = (nI (codeN k n s j)))) args S_ 0 0 (fun _ => False)) (F0 m_ 4 ls []) := by
    intro r
    induction r with
    | zero =>
      intro v i h1 hq ls hl
      refine lv_iload_n X.1 X.2.1 dX12_occurring_4 rfl (lv_at hl 0 rfl) ?_
      refine lv_aload_n X.1 X.2.1 dX12_occurring_5 rfl (lv_at hl 2 rfl) ?_
      refine va_get (D := g.1) (ci := 11) (v := .int (nI n)) (C := RX12) (T := TX12) (N := 26) X.1 X.2.1 X.2.2.2.2 iwX12 X.2.2.2.1 hK hP 0 rfl rfl 1 (by decide) (X.2.2.2.2 _ q1021) (fun _ h9 => h9) rfl dX12_occurring_6 ?_
      refine z_icmp_ge (tgt := 34) X dX12_occurring_9 (by decide) (nI_toInt (by omega)) (nI_toInt (by omega)) (fun c9 => ?_) (fun c9 => ?_)
      · refine lv_iload_n X.1 X.2.1 dX12_occurring_34 rfl (lv_at hl 1 rfl) ?_
        exact PuI.ret X hr hlk dX12_occurring_35 (nI_nar _) (by rw [← hq]; rfl)
      · exfalso; omega
    | succ r ih4 =>
      intro v i h1 hq ls hl
      refine lv_iload_n X.1 X.2.1 dX12_occurring_4 rfl (lv_at hl 0 rfl) ?_
      refine lv_aload_n X.1 X.2.1 dX12_occurring_5 rfl (lv_at hl 2 rfl) ?_
      refine va_get (D := g.1) (ci := 11) (v := .int (nI n)) (C := RX12) (T := TX12) (N := 26) X.1 X.2.1 X.2.2.2.2 iwX12 X.2.2.2.1 hK hP 0 rfl rfl 1 (by decide) (X.2.2.2.2 _ q1021) (fun _ h9 => h9) rfl dX12_occurring_6 ?_
      refine z_icmp_ge (tgt := 34) X dX12_occurring_9 (by decide) (nI_toInt (by omega)) (nI_toInt (by omega)) (fun c9 => ?_) (fun c9 => ?_)
      · exfalso; omega
      · refine lv_aload_n X.1 X.2.1 dX12_occurring_12 rfl (lv_at hl 2 rfl) ?_
        refine va_get (D := g.1) (ci := 11) (v := .int (nI k)) (C := RX12) (T := TX12) (N := 26) X.1 X.2.1 X.2.2.2.2 iwX12 X.2.2.2.1 hK hP 0 rfl rfl 0 (by decide) (X.2.2.2.2 _ q1020) (fun _ h9 => h9) rfl dX12_occurring_13 ?_
        refine lv_iload_n X.1 X.2.1 dX12_occurring_16 rfl (lv_at hl 1 rfl) ?_
        refine n_mul X dX12_occurring_17 ?_
        refine lv_aload_n X.1 X.2.1 dX12_occurring_18 rfl (lv_at hl 2 rfl) ?_
        refine lv_iload_n X.1 X.2.1 dX12_occurring_19 rfl (lv_at hl 3 rfl) ?_
        refine lv_iload_n X.1 X.2.1 dX12_occurring_20 rfl (lv_at hl 0 rfl) ?_
        refine n_add X dX12_occurring_21 ?_
        refine lv_i2l (v := lN (j + i)) X.1 X.2.1 dX12_occurring_22 (nI_l (by omega)) ?_
        refine (m_atN g m0 lt er el cm_ sv md fmm lc lz af pt_ oc ty_ sz_ em k n s h c tk k0 n0 s0 z p f (j + i) (by omega) (by assumption) (by omega) (by omega)).callV (rest := [.int (nI (k * v))]) X dX12_occurring_23 q1238 tX12_at hK (hP.sub [0, 1] rfl) 0 11 rfl rfl rfl hl ⟨⟨Nat.le_of_ble_eq_true rfl, Nat.le_of_ble_eq_true rfl⟩, Nat.le_of_ble_eq_true rfl, Nat.le_of_ble_eq_true rfl⟩ rfl rfl (Nat.le_of_ble_eq_true rfl) ?_
        refine n_add X dX12_occurring_26 ?_
        refine lv_istore_n (lv' := [(2, .int (nI (k * v + (s.getD ((j + i) % s.length) 0)))), (3, .int (nI i)), (0, .ref m0), (1, .int (nI j))]) X.1 X.2.1 dX12_occurring_27 rfl hl (by decide) rfl (fun ls hl => ?_)
        refine lv_iinc (v := (nI (i + 1))) (lv' := [(3, .int (nI (i + 1))), (2, .int (nI (k * v + (s.getD ((j + i) % s.length) 0)))), (0, .ref m0), (1, .int (nI j))]) X.1 X.2.1 dX12_occurring_28 hl (k := 1) rfl (nI_inc _) (by decide) rfl (fun ls hl => ?_)
        refine lv_goto (tgt := 4) X.1 X.2.1 dX12_occurring_31 (by decide) ?_
        exact ih4 (k * v + (s.getD ((j + i) % s.length) 0)) (i + 1) (by omega) (by rw [codeL, Nat.mul_comm v k] at hq; exact hq) ls (lv_sub hl [0, 1, 2, 3] rfl)
  exact L4 n 0 0 (by omega) (rfl) ls (lv_sub hl [0, 1, 2, 3] rfl)

set_option maxHeartbeats 4000000 in
set_option maxRecDepth 100000 in
theorem m_first (g : G5) (m0 : Nat) (lt : Nat) (er : Nat) (el : Nat) (cm_ : Nat) (sv : Nat) (md : Nat) (fmm : Nat) (lc : Nat) (lz : Nat) (af : Nat) (pt_ : Nat) (oc : Nat) (ty_ : Nat) (sz_ : Nat) (em : Nat) (k : Nat) (n : Nat) (s : List Nat) (h : List (List Nat)) (c : List Nat) (tk : Bool) (k0 : Nat) (n0 : Nat) (s0 : List Nat) (z : List Nat) (p : List Int) (f : Nat → Int32) (B : Nat) (T : Nat) (b : Nat) (hc : shp k n B T) (hs : s.length ≤ 256) (hf : rep f s) (hlt : ltk k s) (hb : b < 256) : PuI yX12_first cX12_first 3 (some .int) 3 70 g [.ref m0, .int (nI b)] [(m0, .inr (11, [.int (nI k), .int (nI n), .ref lt, .int (nI s.length), .ref er, .ref el, .int (nI h.length), .ref cm_, .int (nI c.length), .int (bI tk), .int (nI k0), .int (nI n0), .ref sv, .int (nI s0.length), .ref md, .int (nI z.length), .ref fmm, .ref lc, .ref lz, .ref af, .ref pt_, .int (nI p.length), .ref oc, .ref ty_, .ref sz_, .ref em])), (lt, .inl (g.2.1, 256, .inl f))] (oI (fpO k n s b)) := by
  refine PuI.of (by decide +kernel) (Nat.le_of_ble_eq_true rfl) ?_
  intro p_ l_ e_ S_ m_ args below meth co X hr hlk hP hK ls hl
  have X : CallFix p_ m_ co cX12_first 3 S_ args lw_all RX12 := X
  have hl : lv_has ls 3 [(0, .ref m0), (1, .int (nI b))] := hl
  obtain ⟨hk2, hk4, hn1, hn6, hB, hT, hBT, hT2⟩ := hc.f
  have hB0 : 0 < B := by rw [hBT]; exact Nat.mul_pos (by omega) (by omega)
  refine lv_iconst (v := (nI 0)) X.1 X.2.1 dX12_first_0 (by decide) ?_
  refine lv_istore_n (lv' := [(2, .int (nI 0)), (0, .ref m0), (1, .int (nI b))]) X.1 X.2.1 dX12_first_1 rfl hl (by decide) rfl (fun ls hl => ?_)
  have L2 : ∀ (r : Nat) (i : Nat) (h1 : i + r = s.length) (hq : firstL (eqC k n s b) r i = fpO k n s b) (ls : Array Slot) (hl : lv_has ls 3 [(2, .int (nI i)), (0, .ref m0), (1, .int (nI b))]), W p_ l_ e_ { frames := 3, cells := 0, slots := 0, locals := 70 } S_ m_ args below meth co S_.heap [] 0 0 (MQ below (vp_Si (fun r => r = (oI (fpO k n s b)))) args S_ 0 0 (fun _ => False)) (F0 m_ 2 ls []) := by
    intro r
    induction r with
    | zero =>
      intro i h1 hq ls hl
      refine lv_iload_n X.1 X.2.1 dX12_first_2 rfl (lv_at hl 0 rfl) ?_
      refine lv_aload_n X.1 X.2.1 dX12_first_3 rfl (lv_at hl 1 rfl) ?_
      refine va_get (D := g.1) (ci := 11) (v := .int (nI s.length)) (C := RX12) (T := TX12) (N := 26) X.1 X.2.1 X.2.2.2.2 iwX12 X.2.2.2.1 hK hP 0 rfl rfl 3 (by decide) (X.2.2.2.2 _ q1023) (fun _ h9 => h9) rfl dX12_first_4 ?_
      refine z_icmp_ge (tgt := 27) X dX12_first_7 (by decide) (nI_toInt (by omega)) (nI_toInt (by omega)) (fun c7 => ?_) (fun c7 => ?_)
      · refine lv_bipush (v := (-2)) X.1 X.2.1 dX12_first_27 (by decide) ?_
        exact PuI.ret X hr hlk dX12_first_29 (nI_nar _) (by rw [← hq]; rfl)
      · exfalso; omega
    | succ r ih2 =>
      intro i h1 hq ls hl
      refine lv_iload_n X.1 X.2.1 dX12_first_2 rfl (lv_at hl 0 rfl) ?_
      refine lv_aload_n X.1 X.2.1 dX12_first_3 rfl (lv_at hl 1 rfl) ?_
      refine va_get (D := g.1) (ci := 11) (v := .int (nI s.length)) (C := RX12) (T := TX12) (N := 26) X.1 X.2.1 X.2.2.2.2 iwX12 X.2.2.2.1 hK hP 0 rfl rfl 3 (by decide) (X.2.2.2.2 _ q1023) (fun _ h9 => h9) rfl dX12_first_4 ?_
      refine z_icmp_ge (tgt := 27) X dX12_first_7 (by decide) (nI_toInt (by omega)) (nI_toInt (by omega)) (fun c7 => ?_) (fun c7 => ?_)
      · exfalso; omega
      · refine lv_aload_n X.1 X.2.1 dX12_first_10 rfl (lv_at hl 1 rfl) ?_
        refine lv_iload_n X.1 X.2.1 dX12_first_11 rfl (lv_at hl 0 rfl) ?_
        refine (m_occurring g m0 lt er el cm_ sv md fmm lc lz af pt_ oc ty_ sz_ em k n s h c tk k0 n0 s0 z p f i (by omega) (by omega) (by assumption) (by omega) (by omega)).callV (rest := []) X dX12_first_12 q1301 tX12_occurring hK (hP.sub [0, 1] rfl) 0 11 rfl rfl rfl hl ⟨⟨Nat.le_of_ble_eq_true rfl, Nat.le_of_ble_eq_true rfl⟩, Nat.le_of_ble_eq_true rfl, Nat.le_of_ble_eq_true rfl⟩ rfl rfl (Nat.le_of_ble_eq_true rfl) ?_
        have hF := codeN_lt hc hlt i
        refine lv_iload_n X.1 X.2.1 dX12_first_15 rfl (lv_at hl 2 rfl) ?_
        refine z_icmp_ne (tgt := 21) X dX12_first_16 (by decide) (nI_toInt (by omega)) (nI_toInt (by omega)) (fun c16 => ?_) (fun c16 => ?_)
        · refine lv_iinc (v := (nI (i + 1))) (lv' := [(2, .int (nI (i + 1))), (0, .ref m0), (1, .int (nI b))]) X.1 X.2.1 dX12_first_21 hl (k := 0) rfl (nI_inc _) (by decide) rfl (fun ls hl => ?_)
          refine lv_goto (tgt := 2) X.1 X.2.1 dX12_first_24 (by decide) ?_
          exact ih2 (i + 1) (by omega) (by rw [firstL, eqC, decide_eq_false (by omega)] at hq; exact hq) ls (lv_sub hl [0, 1, 2] rfl)
        · refine lv_iload_n X.1 X.2.1 dX12_first_19 rfl (lv_at hl 0 rfl) ?_
          exact PuI.ret X hr hlk dX12_first_20 (nI_nar _) (by rw [firstL, eqC, decide_eq_true (by omega)] at hq; rw [← hq]; rfl)
  exact L2 s.length 0 (by omega) (rfl) ls (lv_sub hl [0, 1, 2] rfl)

set_option maxHeartbeats 4000000 in
set_option maxRecDepth 100000 in
theorem m_count (g : G5) (m0 : Nat) (lt : Nat) (er : Nat) (el : Nat) (cm_ : Nat) (sv : Nat) (md : Nat) (fmm : Nat) (lc : Nat) (lz : Nat) (af : Nat) (pt_ : Nat) (oc : Nat) (ty_ : Nat) (sz_ : Nat) (em : Nat) (k : Nat) (n : Nat) (s : List Nat) (h : List (List Nat)) (c : List Nat) (tk : Bool) (k0 : Nat) (n0 : Nat) (s0 : List Nat) (z : List Nat) (p : List Int) (f : Nat → Int32) (B : Nat) (T : Nat) (b : Nat) (hc : shp k n B T) (hs : s.length ≤ 256) (hf : rep f s) (hlt : ltk k s) (hb : b < 256) : PuI yX12_count cX12_count 4 (some .int) 3 70 g [.ref m0, .int (nI b)] [(m0, .inr (11, [.int (nI k), .int (nI n), .ref lt, .int (nI s.length), .ref er, .ref el, .int (nI h.length), .ref cm_, .int (nI c.length), .int (bI tk), .int (nI k0), .int (nI n0), .ref sv, .int (nI s0.length), .ref md, .int (nI z.length), .ref fmm, .ref lc, .ref lz, .ref af, .ref pt_, .int (nI p.length), .ref oc, .ref ty_, .ref sz_, .ref em])), (lt, .inl (g.2.1, 256, .inl f))] (nI (cntL (eqC k n s b) s.length 0 0)) := by
  refine PuI.of (by decide +kernel) (Nat.le_of_ble_eq_true rfl) ?_
  intro p_ l_ e_ S_ m_ args below meth co X hr hlk hP hK ls hl
  have X : CallFix p_ m_ co cX12_count 4 S_ args lw_all RX12 := X
  have hl : lv_has ls 4 [(0, .ref m0), (1, .int (nI b))] := hl
  obtain ⟨hk2, hk4, hn1, hn6, hB, hT, hBT, hT2⟩ := hc.f
  have hB0 : 0 < B := by rw [hBT]; exact Nat.mul_pos (by omega) (by omega)
  refine lv_iconst (v := (nI 0)) X.1 X.2.1 dX12_count_0 (by decide) ?_
  refine lv_istore_n (lv' := [(2, .int (nI 0)), (0, .ref m0), (1, .int (nI b))]) X.1 X.2.1 dX12_count_1 rfl hl (by decide) rfl (fun ls hl => ?_)
  refine lv_iconst (v := (nI 0)) X.1 X.2.1 dX12_count_2 (by decide) ?_
  refine lv_istore_n (lv' := [(3, .int (nI 0)), (2, .int (nI 0)), (0, .ref m0), (1, .int (nI b))]) X.1 X.2.1 dX12_count_3 rfl hl (by decide) rfl (fun ls hl => ?_)
  have L4 : ∀ (r : Nat) (v : Nat) (i : Nat) (h1 : i + r = s.length) (hq : cntL (eqC k n s b) r i v = cntL (eqC k n s b) s.length 0 0) (ls : Array Slot) (hl : lv_has ls 4 [(3, .int (nI i)), (2, .int (nI v)), (0, .ref m0), (1, .int (nI b))]), W p_ l_ e_ { frames := 3, cells := 0, slots := 0, locals := 70 } S_ m_ args below meth co S_.heap [] 0 0 (MQ below (vp_Si (fun r => r = (nI (cntL (eqC k n s b) s.length 0 0)))) args S_ 0 0 (fun _ => False)) (F0 m_ 4 ls []) := by
    intro r
    induction r with
    | zero =>
      intro v i h1 hq ls hl
      refine lv_iload_n X.1 X.2.1 dX12_count_4 rfl (lv_at hl 0 rfl) ?_
      refine lv_aload_n X.1 X.2.1 dX12_count_5 rfl (lv_at hl 2 rfl) ?_
      refine va_get (D := g.1) (ci := 11) (v := .int (nI s.length)) (C := RX12) (T := TX12) (N := 26) X.1 X.2.1 X.2.2.2.2 iwX12 X.2.2.2.1 hK hP 0 rfl rfl 3 (by decide) (X.2.2.2.2 _ q1023) (fun _ h9 => h9) rfl dX12_count_6 ?_
      refine z_icmp_ge (tgt := 35) X dX12_count_9 (by decide) (nI_toInt (by omega)) (nI_toInt (by omega)) (fun c9 => ?_) (fun c9 => ?_)
      · refine lv_iload_n X.1 X.2.1 dX12_count_35 rfl (lv_at hl 1 rfl) ?_
        exact PuI.ret X hr hlk dX12_count_36 (nI_nar _) (by rw [← hq]; rfl)
      · exfalso; omega
    | succ r ih4 =>
      intro v i h1 hq ls hl
      refine lv_iload_n X.1 X.2.1 dX12_count_4 rfl (lv_at hl 0 rfl) ?_
      refine lv_aload_n X.1 X.2.1 dX12_count_5 rfl (lv_at hl 2 rfl) ?_
      refine va_get (D := g.1) (ci := 11) (v := .int (nI s.length)) (C := RX12) (T := TX12) (N := 26) X.1 X.2.1 X.2.2.2.2 iwX12 X.2.2.2.1 hK hP 0 rfl rfl 3 (by decide) (X.2.2.2.2 _ q1023) (fun _ h9 => h9) rfl dX12_count_6 ?_
      refine z_icmp_ge (tgt := 35) X dX12_count_9 (by decide) (nI_toInt (by omega)) (nI_toInt (by omega)) (fun c9 => ?_) (fun c9 => ?_)
      · exfalso; omega
      · refine lv_iload_n X.1 X.2.1 dX12_count_12 rfl (lv_at hl 1 rfl) ?_
        refine lv_aload_n X.1 X.2.1 dX12_count_13 rfl (lv_at hl 2 rfl) ?_
        refine lv_iload_n X.1 X.2.1 dX12_count_14 rfl (lv_at hl 0 rfl) ?_
        refine (m_occurring g m0 lt er el cm_ sv md fmm lc lz af pt_ oc ty_ sz_ em k n s h c tk k0 n0 s0 z p f i (by omega) (by omega) (by assumption) (by omega) (by omega)).callV (rest := [.int (nI v)]) X dX12_count_15 q1301 tX12_occurring hK (hP.sub [0, 1] rfl) 0 11 rfl rfl rfl hl ⟨⟨Nat.le_of_ble_eq_true rfl, Nat.le_of_ble_eq_true rfl⟩, Nat.le_of_ble_eq_true rfl, Nat.le_of_ble_eq_true rfl⟩ rfl rfl (Nat.le_of_ble_eq_true rfl) ?_
        have hF := codeN_lt hc hlt i
        refine lv_iload_n X.1 X.2.1 dX12_count_18 rfl (lv_at hl 3 rfl) ?_
        refine z_icmp_ne (tgt := 26) X dX12_count_19 (by decide) (nI_toInt (by omega)) (nI_toInt (by omega)) (fun c19 => ?_) (fun c19 => ?_)
        · refine lv_iconst (v := (nI 0)) X.1 X.2.1 dX12_count_26 (by decide) ?_
          refine n_add X dX12_count_27 ?_
          refine lv_istore_n (lv' := [(2, .int (nI (v + 0))), (3, .int (nI i)), (0, .ref m0), (1, .int (nI b))]) X.1 X.2.1 dX12_count_28 rfl hl (by decide) rfl (fun ls hl => ?_)
          refine lv_iinc (v := (nI (i + 1))) (lv' := [(3, .int (nI (i + 1))), (2, .int (nI (v + 0))), (0, .ref m0), (1, .int (nI b))]) X.1 X.2.1 dX12_count_29 hl (k := 1) rfl (nI_inc _) (by decide) rfl (fun ls hl => ?_)
          refine lv_goto (tgt := 4) X.1 X.2.1 dX12_count_32 (by decide) ?_
          exact ih4 (v + 0) (i + 1) (by omega) (by rw [cntL, eqC] at hq; first | (rw [decide_eq_true (by omega)] at hq; exact hq) | (rw [decide_eq_false (by omega)] at hq; exact hq)) ls (lv_sub hl [0, 1, 2, 3] rfl)
        · refine lv_iconst (v := (nI 1)) X.1 X.2.1 dX12_count_22 (by decide) ?_
          refine lv_goto (tgt := 27) X.1 X.2.1 dX12_count_23 (by decide) ?_
          refine n_add X dX12_count_27 ?_
          refine lv_istore_n (lv' := [(2, .int (nI (v + 1))), (3, .int (nI i)), (0, .ref m0), (1, .int (nI b))]) X.1 X.2.1 dX12_count_28 rfl hl (by decide) rfl (fun ls hl => ?_)
          refine lv_iinc (v := (nI (i + 1))) (lv' := [(3, .int (nI (i + 1))), (2, .int (nI (v + 1))), (0, .ref m0), (1, .int (nI b))]) X.1 X.2.1 dX12_count_29 hl (k := 1) rfl (nI_inc _) (by decide) rfl (fun ls hl => ?_)
          refine lv_goto (tgt := 4) X.1 X.2.1 dX12_count_32 (by decide) ?_
          exact ih4 (v + 1) (i + 1) (by omega) (by rw [cntL, eqC] at hq; first | (rw [decide_eq_true (by omega)] at hq; exact hq) | (rw [decide_eq_false (by omega)] at hq; exact hq)) ls (lv_sub hl [0, 1, 2, 3] rfl)
  exact L4 s.length 0 0 (by omega) (rfl) ls (lv_sub hl [0, 1, 2, 3] rfl)

set_option maxHeartbeats 4000000 in
set_option maxRecDepth 100000 in
theorem m_agree (g : G5) (m0 : Nat) (lt : Nat) (er : Nat) (el : Nat) (cm_ : Nat) (sv : Nat) (md : Nat) (fmm : Nat) (lc : Nat) (lz : Nat) (af : Nat) (pt_ : Nat) (oc : Nat) (ty_ : Nat) (sz_ : Nat) (em : Nat) (k : Nat) (n : Nat) (s : List Nat) (h : List (List Nat)) (c : List Nat) (tk : Bool) (k0 : Nat) (n0 : Nat) (s0 : List Nat) (z : List Nat) (p : List Int) (f : Nat → Int32) (i : Nat) (j : Nat) (hn1 : 1 ≤ n ∧ n ≤ 6) (hs : s.length ≤ 256) (hf : rep f s) (hb : bd s) (h0 : 0 < s.length) (hi : i < 1000) (hj : j < 1000) : PuI yX12_agree cX12_agree 5 (some .boolean) 2 47 g [.ref m0, .int (nI i), .int (nI j)] [(m0, .inr (11, [.int (nI k), .int (nI n), .ref lt, .int (nI s.length), .ref er, .ref el, .int (nI h.length), .ref cm_, .int (nI c.length), .int (bI tk), .int (nI k0), .int (nI n0), .ref sv, .int (nI s0.length), .ref md, .int (nI z.length), .ref fmm, .ref lc, .ref lz, .ref af, .ref pt_, .int (nI p.length), .ref oc, .ref ty_, .ref sz_, .ref em])), (lt, .inl (g.2.1, 256, .inl f))] (bI (repB s i j (n - 1))) := by
  refine PuI.of (by decide +kernel) (Nat.le_of_ble_eq_true rfl) ?_
  intro p_ l_ e_ S_ m_ args below meth co X hr hlk hP hK ls hl
  have X : CallFix p_ m_ co cX12_agree 5 S_ args lw_all RX12 := X
  have hl : lv_has ls 5 [(0, .ref m0), (1, .int (nI i)), (2, .int (nI j))] := hl
  refine lv_iconst (v := (nI 1)) X.1 X.2.1 dX12_agree_0 (by decide) ?_
  refine tp_i (y := bI true) rfl ?_
  refine lv_istore_n (lv' := [(3, .int (bI true)), (0, .ref m0), (1, .int (nI i)), (2, .int (nI j))]) X.1 X.2.1 dX12_agree_1 rfl hl (by decide) rfl (fun ls hl => ?_)
  refine lv_iconst (v := (nI 0)) X.1 X.2.1 dX12_agree_2 (by decide) ?_
  refine lv_istore (lv' := [(4, .int (nI 0)), (3, .int (bI true)), (0, .ref m0), (1, .int (nI i)), (2, .int (nI j))]) X.1 X.2.1 dX12_agree_3 hl (by decide) rfl (fun ls hl => ?_)
  have L5 : ∀ (r : Nat) (b : Bool) (t : Nat) (h1 : t + r = n - 1) (hq : (b && repL s i j r t) = repB s i j (n - 1)) (ls : Array Slot) (hl : lv_has ls 5 [(4, .int (nI t)), (3, .int (bI b)), (0, .ref m0), (1, .int (nI i)), (2, .int (nI j))]), W p_ l_ e_ { frames := 2, cells := 0, slots := 0, locals := 47 } S_ m_ args below meth co S_.heap [] 0 0 (MQ below (vp_Si (fun r => r = (bI (repB s i j (n - 1))))) args S_ 0 0 (fun _ => False)) (F0 m_ 5 ls []) := by
    intro r
    induction r with
    | zero =>
      intro b t h1 hq ls hl
      refine lv_iload X.1 X.2.1 dX12_agree_5 (lv_at hl 0 rfl) ?_
      refine lv_aload_n X.1 X.2.1 dX12_agree_7 rfl (lv_at hl 2 rfl) ?_
      refine va_get (D := g.1) (ci := 11) (v := .int (nI n)) (C := RX12) (T := TX12) (N := 26) X.1 X.2.1 X.2.2.2.2 iwX12 X.2.2.2.1 hK hP 0 rfl rfl 1 (by decide) (X.2.2.2.2 _ q1021) (fun _ h9 => h9) rfl dX12_agree_8 ?_
      refine lv_iconst (v := (nI 1)) X.1 X.2.1 dX12_agree_11 (by decide) ?_
      refine n_sub X dX12_agree_12 (by omega) ?_
      refine z_icmp_ge (tgt := 53) X dX12_agree_13 (by decide) (nI_toInt (by omega)) (nI_toInt (by omega)) (fun c13 => ?_) (fun c13 => ?_)
      · refine lv_iload_n X.1 X.2.1 dX12_agree_53 rfl (lv_at hl 1 rfl) ?_
        exact PuI.ret X hr hlk dX12_agree_54 (bI_nar _) (by rw [← hq]; cases b <;> rfl)
      · exfalso; omega
    | succ r ih5 =>
      intro b t h1 hq ls hl
      refine lv_iload X.1 X.2.1 dX12_agree_5 (lv_at hl 0 rfl) ?_
      refine lv_aload_n X.1 X.2.1 dX12_agree_7 rfl (lv_at hl 2 rfl) ?_
      refine va_get (D := g.1) (ci := 11) (v := .int (nI n)) (C := RX12) (T := TX12) (N := 26) X.1 X.2.1 X.2.2.2.2 iwX12 X.2.2.2.1 hK hP 0 rfl rfl 1 (by decide) (X.2.2.2.2 _ q1021) (fun _ h9 => h9) rfl dX12_agree_8 ?_
      refine lv_iconst (v := (nI 1)) X.1 X.2.1 dX12_agree_11 (by decide) ?_
      refine n_sub X dX12_agree_12 (by omega) ?_
      refine z_icmp_ge (tgt := 53) X dX12_agree_13 (by decide) (nI_toInt (by omega)) (nI_toInt (by omega)) (fun c13 => ?_) (fun c13 => ?_)
      · exfalso; omega
      · refine lv_iload_n X.1 X.2.1 dX12_agree_16 rfl (lv_at hl 1 rfl) ?_
        refine b_if_eq (tgt := 45) X dX12_agree_17 (by decide) (fun c17 => ?_) (fun c17 => ?_)
        · refine lv_iconst (v := (nI 0)) X.1 X.2.1 dX12_agree_45 (by decide) ?_
          refine tp_i (y := bI false) rfl ?_
          refine lv_istore_n (lv' := [(3, .int (bI false)), (4, .int (nI t)), (0, .ref m0), (1, .int (nI i)), (2, .int (nI j))]) X.1 X.2.1 dX12_agree_46 rfl hl (by decide) rfl (fun ls hl => ?_)
          refine lv_iinc (v := (nI (t + 1))) (lv' := [(4, .int (nI (t + 1))), (3, .int (bI false)), (0, .ref m0), (1, .int (nI i)), (2, .int (nI j))]) X.1 X.2.1 dX12_agree_47 hl (k := 1) rfl (nI_inc _) (by decide) rfl (fun ls hl => ?_)
          refine lv_goto (tgt := 5) X.1 X.2.1 dX12_agree_50 (by decide) ?_
          exact ih5 false (t + 1) (by omega) (by first | (rw [c17, repL, if_pos (by omega)] at hq; exact hq) | (rw [c17, repL, if_neg (by omega)] at hq; exact hq) | (rw [c17] at hq; exact hq)) ls (lv_sub hl [0, 1, 2, 3, 4] rfl)
        · refine lv_aload_n X.1 X.2.1 dX12_agree_20 rfl (lv_at hl 2 rfl) ?_
          refine lv_iload_n X.1 X.2.1 dX12_agree_21 rfl (lv_at hl 3 rfl) ?_
          refine lv_iload X.1 X.2.1 dX12_agree_22 (lv_at hl 0 rfl) ?_
          refine n_add X dX12_agree_24 ?_
          refine lv_i2l (v := lN (i + t)) X.1 X.2.1 dX12_agree_25 (nI_l (by omega)) ?_
          refine (m_atN g m0 lt er el cm_ sv md fmm lc lz af pt_ oc ty_ sz_ em k n s h c tk k0 n0 s0 z p f (i + t) (by omega) (by assumption) (by omega) (by omega)).callV (rest := []) X dX12_agree_26 q1238 tX12_at hK (hP.sub [0, 1] rfl) 0 11 rfl rfl rfl hl ⟨⟨Nat.le_of_ble_eq_true rfl, Nat.le_of_ble_eq_true rfl⟩, Nat.le_of_ble_eq_true rfl, Nat.le_of_ble_eq_true rfl⟩ rfl rfl (Nat.le_of_ble_eq_true rfl) ?_
          refine lv_aload_n X.1 X.2.1 dX12_agree_29 rfl (lv_at hl 2 rfl) ?_
          refine lv_iload_n X.1 X.2.1 dX12_agree_30 rfl (lv_at hl 4 rfl) ?_
          refine lv_iload X.1 X.2.1 dX12_agree_31 (lv_at hl 0 rfl) ?_
          refine n_add X dX12_agree_33 ?_
          refine lv_i2l (v := lN (j + t)) X.1 X.2.1 dX12_agree_34 (nI_l (by omega)) ?_
          refine (m_atN g m0 lt er el cm_ sv md fmm lc lz af pt_ oc ty_ sz_ em k n s h c tk k0 n0 s0 z p f (j + t) (by omega) (by assumption) (by omega) (by omega)).callV (rest := [.int (nI (s.getD ((i + t) % s.length) 0))]) X dX12_agree_35 q1238 tX12_at hK (hP.sub [0, 1] rfl) 0 11 rfl rfl rfl hl ⟨⟨Nat.le_of_ble_eq_true rfl, Nat.le_of_ble_eq_true rfl⟩, Nat.le_of_ble_eq_true rfl, Nat.le_of_ble_eq_true rfl⟩ rfl rfl (Nat.le_of_ble_eq_true rfl) ?_
          have e1 := bd_at hb ((i + t) % s.length)
          have e2 := bd_at hb ((j + t) % s.length)
          refine z_icmp_ne (tgt := 45) X dX12_agree_38 (by decide) (nI_toInt (by omega)) (nI_toInt (by omega)) (fun c38 => ?_) (fun c38 => ?_)
          · refine lv_iconst (v := (nI 0)) X.1 X.2.1 dX12_agree_45 (by decide) ?_
            refine tp_i (y := bI false) rfl ?_
            refine lv_istore_n (lv' := [(3, .int (bI false)), (4, .int (nI t)), (0, .ref m0), (1, .int (nI i)), (2, .int (nI j))]) X.1 X.2.1 dX12_agree_46 rfl hl (by decide) rfl (fun ls hl => ?_)
            refine lv_iinc (v := (nI (t + 1))) (lv' := [(4, .int (nI (t + 1))), (3, .int (bI false)), (0, .ref m0), (1, .int (nI i)), (2, .int (nI j))]) X.1 X.2.1 dX12_agree_47 hl (k := 1) rfl (nI_inc _) (by decide) rfl (fun ls hl => ?_)
            refine lv_goto (tgt := 5) X.1 X.2.1 dX12_agree_50 (by decide) ?_
            exact ih5 false (t + 1) (by omega) (by first | (rw [c17, repL, if_pos (by omega)] at hq; exact hq) | (rw [c17, repL, if_neg (by omega)] at hq; exact hq) | (rw [c17] at hq; exact hq)) ls (lv_sub hl [0, 1, 2, 3, 4] rfl)
          · refine lv_iconst (v := (nI 1)) X.1 X.2.1 dX12_agree_41 (by decide) ?_
            refine lv_goto (tgt := 46) X.1 X.2.1 dX12_agree_42 (by decide) ?_
            refine tp_i (y := bI true) rfl ?_
            refine lv_istore_n (lv' := [(3, .int (bI true)), (4, .int (nI t)), (0, .ref m0), (1, .int (nI i)), (2, .int (nI j))]) X.1 X.2.1 dX12_agree_46 rfl hl (by decide) rfl (fun ls hl => ?_)
            refine lv_iinc (v := (nI (t + 1))) (lv' := [(4, .int (nI (t + 1))), (3, .int (bI true)), (0, .ref m0), (1, .int (nI i)), (2, .int (nI j))]) X.1 X.2.1 dX12_agree_47 hl (k := 1) rfl (nI_inc _) (by decide) rfl (fun ls hl => ?_)
            refine lv_goto (tgt := 5) X.1 X.2.1 dX12_agree_50 (by decide) ?_
            exact ih5 true (t + 1) (by omega) (by first | (rw [c17, repL, if_pos (by omega)] at hq; exact hq) | (rw [c17, repL, if_neg (by omega)] at hq; exact hq) | (rw [c17] at hq; exact hq)) ls (lv_sub hl [0, 1, 2, 3, 4] rfl)
  exact L5 (n - 1) true 0 (by omega) (rfl) ls (lv_sub hl [0, 1, 2, 3, 4] rfl)

set_option maxHeartbeats 4000000 in
set_option maxRecDepth 100000 in
theorem m_canCut (g : G5) (m0 : Nat) (lt : Nat) (er : Nat) (el : Nat) (cm_ : Nat) (sv : Nat) (md : Nat) (fmm : Nat) (lc : Nat) (lz : Nat) (af : Nat) (pt_ : Nat) (oc : Nat) (ty_ : Nat) (sz_ : Nat) (em : Nat) (k : Nat) (n : Nat) (s : List Nat) (h : List (List Nat)) (c : List Nat) (tk : Bool) (k0 : Nat) (n0 : Nat) (s0 : List Nat) (z : List Nat) (p : List Int) (f : Nat → Int32) (i : Nat) (j : Nat) (hn1 : 1 ≤ n ∧ n ≤ 6) (hs : s.length ≤ 256) (hf : rep f s) (hb : bd s) (h0 : 0 < s.length) (hi : i < 500) (hj : j < 500) : PuI yX12_canCut cX12_canCut 3 (some .boolean) 3 71 g [.ref m0, .int (nI i), .int (nI j)] [(m0, .inr (11, [.int (nI k), .int (nI n), .ref lt, .int (nI s.length), .ref er, .ref el, .int (nI h.length), .ref cm_, .int (nI c.length), .int (bI tk), .int (nI k0), .int (nI n0), .ref sv, .int (nI s0.length), .ref md, .int (nI z.length), .ref fmm, .ref lc, .ref lz, .ref af, .ref pt_, .int (nI p.length), .ref oc, .ref ty_, .ref sz_, .ref em])), (lt, .inl (g.2.1, 256, .inl f))] (bI (repB s i (i + j) (n - 1))) := by
  refine PuI.of (by decide +kernel) (Nat.le_of_ble_eq_true rfl) ?_
  intro p_ l_ e_ S_ m_ args below meth co X hr hlk hP hK ls hl
  have X : CallFix p_ m_ co cX12_canCut 3 S_ args lw_all RX12 := X
  have hl : lv_has ls 3 [(0, .ref m0), (1, .int (nI i)), (2, .int (nI j))] := hl
  refine lv_aload_n X.1 X.2.1 dX12_canCut_0 rfl (lv_at hl 0 rfl) ?_
  refine lv_iload_n X.1 X.2.1 dX12_canCut_1 rfl (lv_at hl 1 rfl) ?_
  refine lv_iload_n X.1 X.2.1 dX12_canCut_2 rfl (lv_at hl 1 rfl) ?_
  refine lv_iload_n X.1 X.2.1 dX12_canCut_3 rfl (lv_at hl 2 rfl) ?_
  refine n_add X dX12_canCut_4 ?_
  refine (m_agree g m0 lt er el cm_ sv md fmm lc lz af pt_ oc ty_ sz_ em k n s h c tk k0 n0 s0 z p f i (i + j) (by omega) (by omega) (by assumption) (by assumption) (by omega) (by omega) (by omega)).callV (rest := []) X dX12_canCut_5 q1261 tX12_agree hK (hP.sub [0, 1] rfl) 0 11 rfl rfl rfl hl ⟨⟨Nat.le_of_ble_eq_true rfl, Nat.le_of_ble_eq_true rfl⟩, Nat.le_of_ble_eq_true rfl, Nat.le_of_ble_eq_true rfl⟩ rfl rfl (Nat.le_of_ble_eq_true rfl) ?_
  exact PuI.ret X hr hlk dX12_canCut_8 (bI_nar _) (rfl)

set_option maxHeartbeats 4000000 in
set_option maxRecDepth 100000 in
theorem m_matches (g : G5) (m0 : Nat) (lt : Nat) (er : Nat) (el : Nat) (cm_ : Nat) (sv : Nat) (md : Nat) (fmm : Nat) (lc : Nat) (lz : Nat) (af : Nat) (pt_ : Nat) (oc : Nat) (ty_ : Nat) (sz_ : Nat) (em : Nat) (k : Nat) (n : Nat) (s : List Nat) (h : List (List Nat)) (c : List Nat) (tk : Bool) (k0 : Nat) (n0 : Nat) (s0 : List Nat) (z : List Nat) (p : List Int) (f : Nat → Int32) (fp : Nat → Int32) (j : Nat) (hp : p.length ≤ 8) (hfp : repZ fp p) (ho : okp p) (hs : s.length ≤ 256) (hf : rep f s) (hb : bd s) (h0 : 0 < s.length) (hj : j < 1000) : PuI yX12_matches cX12_matches 4 (some .boolean) 2 47 g [.ref m0, .int (nI j)] [(m0, .inr (11, [.int (nI k), .int (nI n), .ref lt, .int (nI s.length), .ref er, .ref el, .int (nI h.length), .ref cm_, .int (nI c.length), .int (bI tk), .int (nI k0), .int (nI n0), .ref sv, .int (nI s0.length), .ref md, .int (nI z.length), .ref fmm, .ref lc, .ref lz, .ref af, .ref pt_, .int (nI p.length), .ref oc, .ref ty_, .ref sz_, .ref em])), (lt, .inl (g.2.1, 256, .inl f)), (pt_, .inl (g.2.1, 8, .inl fp))] (bI (patB s p j)) := by
  refine PuI.of (by decide +kernel) (Nat.le_of_ble_eq_true rfl) ?_
  intro p_ l_ e_ S_ m_ args below meth co X hr hlk hP hK ls hl
  have X : CallFix p_ m_ co cX12_matches 4 S_ args lw_all RX12 := X
  have hl : lv_has ls 4 [(0, .ref m0), (1, .int (nI j))] := hl
  refine lv_iconst (v := (nI 1)) X.1 X.2.1 dX12_matches_0 (by decide) ?_
  refine tp_i (y := bI true) rfl ?_
  refine lv_istore_n (lv' := [(2, .int (bI true)), (0, .ref m0), (1, .int (nI j))]) X.1 X.2.1 dX12_matches_1 rfl hl (by decide) rfl (fun ls hl => ?_)
  refine lv_iconst (v := (nI 0)) X.1 X.2.1 dX12_matches_2 (by decide) ?_
  refine lv_istore_n (lv' := [(3, .int (nI 0)), (2, .int (bI true)), (0, .ref m0), (1, .int (nI j))]) X.1 X.2.1 dX12_matches_3 rfl hl (by decide) rfl (fun ls hl => ?_)
  have L4 : ∀ (r : Nat) (b : Bool) (i : Nat) (h1 : i + r = p.length) (hq : (b && patL s p j r i) = patB s p j) (ls : Array Slot) (hl : lv_has ls 4 [(3, .int (nI i)), (2, .int (bI b)), (0, .ref m0), (1, .int (nI j))]), W p_ l_ e_ { frames := 2, cells := 0, slots := 0, locals := 47 } S_ m_ args below meth co S_.heap [] 0 0 (MQ below (vp_Si (fun r => r = (bI (patB s p j)))) args S_ 0 0 (fun _ => False)) (F0 m_ 4 ls []) := by
    intro r
    induction r with
    | zero =>
      intro b i h1 hq ls hl
      refine lv_iload_n X.1 X.2.1 dX12_matches_4 rfl (lv_at hl 0 rfl) ?_
      refine lv_aload_n X.1 X.2.1 dX12_matches_5 rfl (lv_at hl 2 rfl) ?_
      refine va_get (D := g.1) (ci := 11) (v := .int (nI p.length)) (C := RX12) (T := TX12) (N := 26) X.1 X.2.1 X.2.2.2.2 iwX12 X.2.2.2.1 hK hP 0 rfl rfl 21 (by decide) (X.2.2.2.2 _ q1041) (fun _ h9 => h9) rfl dX12_matches_6 ?_
      refine z_icmp_ge (tgt := 54) X dX12_matches_9 (by decide) (nI_toInt (by omega)) (nI_toInt (by omega)) (fun c9 => ?_) (fun c9 => ?_)
      · refine lv_iload_n X.1 X.2.1 dX12_matches_54 rfl (lv_at hl 1 rfl) ?_
        exact PuI.ret X hr hlk dX12_matches_55 (bI_nar _) (by rw [← hq]; cases b <;> rfl)
      · exfalso; omega
    | succ r ih4 =>
      intro b i h1 hq ls hl
      refine lv_iload_n X.1 X.2.1 dX12_matches_4 rfl (lv_at hl 0 rfl) ?_
      refine lv_aload_n X.1 X.2.1 dX12_matches_5 rfl (lv_at hl 2 rfl) ?_
      refine va_get (D := g.1) (ci := 11) (v := .int (nI p.length)) (C := RX12) (T := TX12) (N := 26) X.1 X.2.1 X.2.2.2.2 iwX12 X.2.2.2.1 hK hP 0 rfl rfl 21 (by decide) (X.2.2.2.2 _ q1041) (fun _ h9 => h9) rfl dX12_matches_6 ?_
      refine z_icmp_ge (tgt := 54) X dX12_matches_9 (by decide) (nI_toInt (by omega)) (nI_toInt (by omega)) (fun c9 => ?_) (fun c9 => ?_)
      · exfalso; omega
      · refine lv_iload_n X.1 X.2.1 dX12_matches_12 rfl (lv_at hl 1 rfl) ?_
        refine b_if_eq (tgt := 46) X dX12_matches_13 (by decide) (fun c13 => ?_) (fun c13 => ?_)
        · refine lv_iconst (v := (nI 0)) X.1 X.2.1 dX12_matches_46 (by decide) ?_
          refine tp_i (y := bI false) rfl ?_
          refine lv_istore_n (lv' := [(2, .int (bI false)), (3, .int (nI i)), (0, .ref m0), (1, .int (nI j))]) X.1 X.2.1 dX12_matches_47 rfl hl (by decide) rfl (fun ls hl => ?_)
          refine lv_iinc (v := (nI (i + 1))) (lv' := [(3, .int (nI (i + 1))), (2, .int (bI false)), (0, .ref m0), (1, .int (nI j))]) X.1 X.2.1 dX12_matches_48 hl (k := 1) rfl (nI_inc _) (by decide) rfl (fun ls hl => ?_)
          refine lv_goto (tgt := 4) X.1 X.2.1 dX12_matches_51 (by decide) ?_
          exact ih4 false (i + 1) (by omega) (by first | (rw [c13, patL, if_pos (by omega)] at hq; exact hq) | (rw [c13, patL, if_neg (by omega)] at hq; exact hq) | (rw [c13] at hq; exact hq)) ls (lv_sub hl [0, 1, 2, 3] rfl)
        · refine lv_aload_n X.1 X.2.1 dX12_matches_16 rfl (lv_at hl 2 rfl) ?_
          refine va_get (D := g.1) (ci := 11) (v := .ref pt_) (C := RX12) (T := TX12) (N := 26) X.1 X.2.1 X.2.2.2.2 iwX12 X.2.2.2.1 hK hP 0 rfl rfl 20 (by decide) (X.2.2.2.2 _ q1040) (fun _ h9 => h9) rfl dX12_matches_17 ?_
          refine lv_iload_n X.1 X.2.1 dX12_matches_20 rfl (lv_at hl 0 rfl) ?_
          refine n_iald X hK hP 2 0 rfl rfl (by omega) (by decide) dX12_matches_21 ?_
          have hoi := ho i
          refine tp_i (y := (iI (p.getD i 0))) (hfp i (by omega)) ?_
          refine z_if_lt (tgt := 42) X dX12_matches_22 (by decide) (iI_toInt (by omega) (by omega)) (fun c22 => ?_) (fun c22 => ?_)
          · refine lv_iconst (v := (nI 1)) X.1 X.2.1 dX12_matches_42 (by decide) ?_
            refine lv_goto (tgt := 47) X.1 X.2.1 dX12_matches_43 (by decide) ?_
            refine tp_i (y := bI true) rfl ?_
            refine lv_istore_n (lv' := [(2, .int (bI true)), (3, .int (nI i)), (0, .ref m0), (1, .int (nI j))]) X.1 X.2.1 dX12_matches_47 rfl hl (by decide) rfl (fun ls hl => ?_)
            refine lv_iinc (v := (nI (i + 1))) (lv' := [(3, .int (nI (i + 1))), (2, .int (bI true)), (0, .ref m0), (1, .int (nI j))]) X.1 X.2.1 dX12_matches_48 hl (k := 1) rfl (nI_inc _) (by decide) rfl (fun ls hl => ?_)
            refine lv_goto (tgt := 4) X.1 X.2.1 dX12_matches_51 (by decide) ?_
            exact ih4 true (i + 1) (by omega) (by first | (rw [c13, patL, if_pos (by omega)] at hq; exact hq) | (rw [c13, patL, if_neg (by omega)] at hq; exact hq) | (rw [c13] at hq; exact hq)) ls (lv_sub hl [0, 1, 2, 3] rfl)
          · refine lv_aload_n X.1 X.2.1 dX12_matches_25 rfl (lv_at hl 2 rfl) ?_
            refine va_get (D := g.1) (ci := 11) (v := .ref pt_) (C := RX12) (T := TX12) (N := 26) X.1 X.2.1 X.2.2.2.2 iwX12 X.2.2.2.1 hK hP 0 rfl rfl 20 (by decide) (X.2.2.2.2 _ q1040) (fun _ h9 => h9) rfl dX12_matches_26 ?_
            refine lv_iload_n X.1 X.2.1 dX12_matches_29 rfl (lv_at hl 0 rfl) ?_
            refine n_iald X hK hP 2 0 rfl rfl (by omega) (by decide) dX12_matches_30 ?_
            refine tp_i (y := (iI (p.getD i 0))) (hfp i (by omega)) ?_
            refine lv_aload_n X.1 X.2.1 dX12_matches_31 rfl (lv_at hl 2 rfl) ?_
            refine lv_iload_n X.1 X.2.1 dX12_matches_32 rfl (lv_at hl 3 rfl) ?_
            refine lv_iload_n X.1 X.2.1 dX12_matches_33 rfl (lv_at hl 0 rfl) ?_
            refine n_add X dX12_matches_34 ?_
            refine lv_i2l (v := lN (j + i)) X.1 X.2.1 dX12_matches_35 (nI_l (by omega)) ?_
            refine (m_atN g m0 lt er el cm_ sv md fmm lc lz af pt_ oc ty_ sz_ em k n s h c tk k0 n0 s0 z p f (j + i) (by omega) (by assumption) (by omega) (by omega)).callV (rest := [.int (iI (p.getD i 0))]) X dX12_matches_36 q1238 tX12_at hK (hP.sub [0, 1] rfl) 0 11 rfl rfl rfl hl ⟨⟨Nat.le_of_ble_eq_true rfl, Nat.le_of_ble_eq_true rfl⟩, Nat.le_of_ble_eq_true rfl, Nat.le_of_ble_eq_true rfl⟩ rfl rfl (Nat.le_of_ble_eq_true rfl) ?_
            have e1 := bd_at hb ((j + i) % s.length)
            refine z_icmp_ne (tgt := 46) X dX12_matches_39 (by decide) (iI_toInt (by omega) (by omega)) (nI_toInt (by omega)) (fun c39 => ?_) (fun c39 => ?_)
            · refine lv_iconst (v := (nI 0)) X.1 X.2.1 dX12_matches_46 (by decide) ?_
              refine tp_i (y := bI false) rfl ?_
              refine lv_istore_n (lv' := [(2, .int (bI false)), (3, .int (nI i)), (0, .ref m0), (1, .int (nI j))]) X.1 X.2.1 dX12_matches_47 rfl hl (by decide) rfl (fun ls hl => ?_)
              refine lv_iinc (v := (nI (i + 1))) (lv' := [(3, .int (nI (i + 1))), (2, .int (bI false)), (0, .ref m0), (1, .int (nI j))]) X.1 X.2.1 dX12_matches_48 hl (k := 1) rfl (nI_inc _) (by decide) rfl (fun ls hl => ?_)
              refine lv_goto (tgt := 4) X.1 X.2.1 dX12_matches_51 (by decide) ?_
              exact ih4 false (i + 1) (by omega) (by first | (rw [c13, patL, if_pos (by omega)] at hq; exact hq) | (rw [c13, patL, if_neg (by omega)] at hq; exact hq) | (rw [c13] at hq; exact hq)) ls (lv_sub hl [0, 1, 2, 3] rfl)
            · refine lv_iconst (v := (nI 1)) X.1 X.2.1 dX12_matches_42 (by decide) ?_
              refine lv_goto (tgt := 47) X.1 X.2.1 dX12_matches_43 (by decide) ?_
              refine tp_i (y := bI true) rfl ?_
              refine lv_istore_n (lv' := [(2, .int (bI true)), (3, .int (nI i)), (0, .ref m0), (1, .int (nI j))]) X.1 X.2.1 dX12_matches_47 rfl hl (by decide) rfl (fun ls hl => ?_)
              refine lv_iinc (v := (nI (i + 1))) (lv' := [(3, .int (nI (i + 1))), (2, .int (bI true)), (0, .ref m0), (1, .int (nI j))]) X.1 X.2.1 dX12_matches_48 hl (k := 1) rfl (nI_inc _) (by decide) rfl (fun ls hl => ?_)
              refine lv_goto (tgt := 4) X.1 X.2.1 dX12_matches_51 (by decide) ?_
              exact ih4 true (i + 1) (by omega) (by first | (rw [c13, patL, if_pos (by omega)] at hq; exact hq) | (rw [c13, patL, if_neg (by omega)] at hq; exact hq) | (rw [c13] at hq; exact hq)) ls (lv_sub hl [0, 1, 2, 3] rfl)
  exact L4 p.length true 0 (by omega) (rfl) ls (lv_sub hl [0, 1, 2, 3] rfl)

set_option maxHeartbeats 4000000 in
set_option maxRecDepth 100000 in
theorem m_patternCount (g : G5) (m0 : Nat) (lt : Nat) (er : Nat) (el : Nat) (cm_ : Nat) (sv : Nat) (md : Nat) (fmm : Nat) (lc : Nat) (lz : Nat) (af : Nat) (pt_ : Nat) (oc : Nat) (ty_ : Nat) (sz_ : Nat) (em : Nat) (k : Nat) (n : Nat) (s : List Nat) (h : List (List Nat)) (c : List Nat) (tk : Bool) (k0 : Nat) (n0 : Nat) (s0 : List Nat) (z : List Nat) (p : List Int) (f : Nat → Int32) (fp : Nat → Int32) (hp : p.length ≤ 8) (hfp : repZ fp p) (ho : okp p) (hs : s.length ≤ 256) (hf : rep f s) (hb : bd s) : PuI yX12_patternCount cX12_patternCount 3 (some .int) 3 70 g [.ref m0] [(m0, .inr (11, [.int (nI k), .int (nI n), .ref lt, .int (nI s.length), .ref er, .ref el, .int (nI h.length), .ref cm_, .int (nI c.length), .int (bI tk), .int (nI k0), .int (nI n0), .ref sv, .int (nI s0.length), .ref md, .int (nI z.length), .ref fmm, .ref lc, .ref lz, .ref af, .ref pt_, .int (nI p.length), .ref oc, .ref ty_, .ref sz_, .ref em])), (lt, .inl (g.2.1, 256, .inl f)), (pt_, .inl (g.2.1, 8, .inl fp))] (nI (cntL (patB s p) s.length 0 0)) := by
  refine PuI.of (by decide +kernel) (Nat.le_of_ble_eq_true rfl) ?_
  intro p_ l_ e_ S_ m_ args below meth co X hr hlk hP hK ls hl
  have X : CallFix p_ m_ co cX12_patternCount 3 S_ args lw_all RX12 := X
  have hl : lv_has ls 3 [(0, .ref m0)] := hl
  refine lv_iconst (v := (nI 0)) X.1 X.2.1 dX12_patternCount_0 (by decide) ?_
  refine lv_istore_n (lv' := [(1, .int (nI 0)), (0, .ref m0)]) X.1 X.2.1 dX12_patternCount_1 rfl hl (by decide) rfl (fun ls hl => ?_)
  refine lv_iconst (v := (nI 0)) X.1 X.2.1 dX12_patternCount_2 (by decide) ?_
  refine lv_istore_n (lv' := [(2, .int (nI 0)), (1, .int (nI 0)), (0, .ref m0)]) X.1 X.2.1 dX12_patternCount_3 rfl hl (by decide) rfl (fun ls hl => ?_)
  have L4 : ∀ (r : Nat) (v : Nat) (i : Nat) (h1 : i + r = s.length) (hq : cntL (patB s p) r i v = cntL (patB s p) s.length 0 0) (ls : Array Slot) (hl : lv_has ls 3 [(2, .int (nI i)), (1, .int (nI v)), (0, .ref m0)]), W p_ l_ e_ { frames := 3, cells := 0, slots := 0, locals := 70 } S_ m_ args below meth co S_.heap [] 0 0 (MQ below (vp_Si (fun r => r = (nI (cntL (patB s p) s.length 0 0)))) args S_ 0 0 (fun _ => False)) (F0 m_ 4 ls []) := by
    intro r
    induction r with
    | zero =>
      intro v i h1 hq ls hl
      refine lv_iload_n X.1 X.2.1 dX12_patternCount_4 rfl (lv_at hl 0 rfl) ?_
      refine lv_aload_n X.1 X.2.1 dX12_patternCount_5 rfl (lv_at hl 2 rfl) ?_
      refine va_get (D := g.1) (ci := 11) (v := .int (nI s.length)) (C := RX12) (T := TX12) (N := 26) X.1 X.2.1 X.2.2.2.2 iwX12 X.2.2.2.1 hK hP 0 rfl rfl 3 (by decide) (X.2.2.2.2 _ q1023) (fun _ h9 => h9) rfl dX12_patternCount_6 ?_
      refine z_icmp_ge (tgt := 34) X dX12_patternCount_9 (by decide) (nI_toInt (by omega)) (nI_toInt (by omega)) (fun c9 => ?_) (fun c9 => ?_)
      · refine lv_iload_n X.1 X.2.1 dX12_patternCount_34 rfl (lv_at hl 1 rfl) ?_
        exact PuI.ret X hr hlk dX12_patternCount_35 (nI_nar _) (by rw [← hq]; rfl)
      · exfalso; omega
    | succ r ih4 =>
      intro v i h1 hq ls hl
      refine lv_iload_n X.1 X.2.1 dX12_patternCount_4 rfl (lv_at hl 0 rfl) ?_
      refine lv_aload_n X.1 X.2.1 dX12_patternCount_5 rfl (lv_at hl 2 rfl) ?_
      refine va_get (D := g.1) (ci := 11) (v := .int (nI s.length)) (C := RX12) (T := TX12) (N := 26) X.1 X.2.1 X.2.2.2.2 iwX12 X.2.2.2.1 hK hP 0 rfl rfl 3 (by decide) (X.2.2.2.2 _ q1023) (fun _ h9 => h9) rfl dX12_patternCount_6 ?_
      refine z_icmp_ge (tgt := 34) X dX12_patternCount_9 (by decide) (nI_toInt (by omega)) (nI_toInt (by omega)) (fun c9 => ?_) (fun c9 => ?_)
      · exfalso; omega
      · refine lv_iload_n X.1 X.2.1 dX12_patternCount_12 rfl (lv_at hl 1 rfl) ?_
        refine lv_aload_n X.1 X.2.1 dX12_patternCount_13 rfl (lv_at hl 2 rfl) ?_
        refine lv_iload_n X.1 X.2.1 dX12_patternCount_14 rfl (lv_at hl 0 rfl) ?_
        refine (m_matches g m0 lt er el cm_ sv md fmm lc lz af pt_ oc ty_ sz_ em k n s h c tk k0 n0 s0 z p f fp i (by omega) (by assumption) (by assumption) (by omega) (by assumption) (by assumption) (by omega) (by omega)).callV (rest := [.int (nI v)]) X dX12_patternCount_15 q1289 tX12_matches hK (hP.sub [0, 1, 2] rfl) 0 11 rfl rfl rfl hl ⟨⟨Nat.le_of_ble_eq_true rfl, Nat.le_of_ble_eq_true rfl⟩, Nat.le_of_ble_eq_true rfl, Nat.le_of_ble_eq_true rfl⟩ rfl rfl (Nat.le_of_ble_eq_true rfl) ?_
        refine b_if_eq (tgt := 25) X dX12_patternCount_18 (by decide) (fun c18 => ?_) (fun c18 => ?_)
        · refine lv_iconst (v := (nI 0)) X.1 X.2.1 dX12_patternCount_25 (by decide) ?_
          refine n_add X dX12_patternCount_26 ?_
          refine lv_istore_n (lv' := [(1, .int (nI (v + 0))), (2, .int (nI i)), (0, .ref m0)]) X.1 X.2.1 dX12_patternCount_27 rfl hl (by decide) rfl (fun ls hl => ?_)
          refine lv_iinc (v := (nI (i + 1))) (lv' := [(2, .int (nI (i + 1))), (1, .int (nI (v + 0))), (0, .ref m0)]) X.1 X.2.1 dX12_patternCount_28 hl (k := 1) rfl (nI_inc _) (by decide) rfl (fun ls hl => ?_)
          refine lv_goto (tgt := 4) X.1 X.2.1 dX12_patternCount_31 (by decide) ?_
          exact ih4 (v + 0) (i + 1) (by omega) (by rw [cntL, c18] at hq; exact hq) ls (lv_sub hl [0, 1, 2] rfl)
        · refine lv_iconst (v := (nI 1)) X.1 X.2.1 dX12_patternCount_21 (by decide) ?_
          refine lv_goto (tgt := 26) X.1 X.2.1 dX12_patternCount_22 (by decide) ?_
          refine n_add X dX12_patternCount_26 ?_
          refine lv_istore_n (lv' := [(1, .int (nI (v + 1))), (2, .int (nI i)), (0, .ref m0)]) X.1 X.2.1 dX12_patternCount_27 rfl hl (by decide) rfl (fun ls hl => ?_)
          refine lv_iinc (v := (nI (i + 1))) (lv' := [(2, .int (nI (i + 1))), (1, .int (nI (v + 1))), (0, .ref m0)]) X.1 X.2.1 dX12_patternCount_28 hl (k := 1) rfl (nI_inc _) (by decide) rfl (fun ls hl => ?_)
          refine lv_goto (tgt := 4) X.1 X.2.1 dX12_patternCount_31 (by decide) ?_
          exact ih4 (v + 1) (i + 1) (by omega) (by rw [cntL, c18] at hq; exact hq) ls (lv_sub hl [0, 1, 2] rfl)
  exact L4 s.length 0 0 (by omega) (rfl) ls (lv_sub hl [0, 1, 2] rfl)

set_option maxHeartbeats 4000000 in
set_option maxRecDepth 100000 in
theorem m_patternPosition (g : G5) (m0 : Nat) (lt : Nat) (er : Nat) (el : Nat) (cm_ : Nat) (sv : Nat) (md : Nat) (fmm : Nat) (lc : Nat) (lz : Nat) (af : Nat) (pt_ : Nat) (oc : Nat) (ty_ : Nat) (sz_ : Nat) (em : Nat) (k : Nat) (n : Nat) (s : List Nat) (h : List (List Nat)) (c : List Nat) (tk : Bool) (k0 : Nat) (n0 : Nat) (s0 : List Nat) (z : List Nat) (p : List Int) (f : Nat → Int32) (fp : Nat → Int32) (x : Int32) (hp : p.length ≤ 8) (hfp : repZ fp p) (ho : okp p) (hs : s.length ≤ 256) (hf : rep f s) (hb : bd s) : PuI yX12_patternPosition cX12_patternPosition 4 (some .int) 3 70 g [.ref m0, .int x] [(m0, .inr (11, [.int (nI k), .int (nI n), .ref lt, .int (nI s.length), .ref er, .ref el, .int (nI h.length), .ref cm_, .int (nI c.length), .int (bI tk), .int (nI k0), .int (nI n0), .ref sv, .int (nI s0.length), .ref md, .int (nI z.length), .ref fmm, .ref lc, .ref lz, .ref af, .ref pt_, .int (nI p.length), .ref oc, .ref ty_, .ref sz_, .ref em])), (lt, .inl (g.2.1, 256, .inl f)), (pt_, .inl (g.2.1, 8, .inl fp))] (nthL (patB s p) x.toInt s.length 0 0) := by
  refine PuI.of (by decide +kernel) (Nat.le_of_ble_eq_true rfl) ?_
  intro p_ l_ e_ S_ m_ args below meth co X hr hlk hP hK ls hl
  have X : CallFix p_ m_ co cX12_patternPosition 4 S_ args lw_all RX12 := X
  have hl : lv_has ls 4 [(0, .ref m0), (1, .int x)] := hl
  have hxr := z_rng x
  refine lv_iload_n X.1 X.2.1 dX12_patternPosition_0 rfl (lv_at hl 1 rfl) ?_
  refine tp_i (y := (iI (x.toInt - ((0 : Nat) : Int)))) (z_sub0 _) ?_
  refine lv_istore_n (lv' := [(2, .int (iI (x.toInt - ((0 : Nat) : Int)))), (0, .ref m0), (1, .int x)]) X.1 X.2.1 dX12_patternPosition_1 rfl hl (by decide) rfl (fun ls hl => ?_)
  refine lv_iconst (v := (nI 0)) X.1 X.2.1 dX12_patternPosition_2 (by decide) ?_
  refine lv_istore_n (lv' := [(3, .int (nI 0)), (2, .int (iI (x.toInt - ((0 : Nat) : Int)))), (0, .ref m0), (1, .int x)]) X.1 X.2.1 dX12_patternPosition_3 rfl hl (by decide) rfl (fun ls hl => ?_)
  have L4 : ∀ (r : Nat) (v : Nat) (i : Nat) (h1 : i + r = s.length) (h2 : v ≤ i) (hv : ((v : Nat) : Int) ≤ x.toInt ∨ v = 0) (hq : nthL (patB s p) x.toInt r i v = nthL (patB s p) x.toInt s.length 0 0) (ls : Array Slot) (hl : lv_has ls 4 [(3, .int (nI i)), (2, .int (iI (x.toInt - ((v : Nat) : Int)))), (0, .ref m0), (1, .int x)]), W p_ l_ e_ { frames := 3, cells := 0, slots := 0, locals := 70 } S_ m_ args below meth co S_.heap [] 0 0 (MQ below (vp_Si (fun r => r = (nthL (patB s p) x.toInt s.length 0 0))) args S_ 0 0 (fun _ => False)) (F0 m_ 4 ls []) := by
    intro r
    induction r with
    | zero =>
      intro v i h1 h2 hv hq ls hl
      refine lv_iload_n X.1 X.2.1 dX12_patternPosition_4 rfl (lv_at hl 0 rfl) ?_
      refine lv_aload_n X.1 X.2.1 dX12_patternPosition_5 rfl (lv_at hl 2 rfl) ?_
      refine va_get (D := g.1) (ci := 11) (v := .int (nI s.length)) (C := RX12) (T := TX12) (N := 26) X.1 X.2.1 X.2.2.2.2 iwX12 X.2.2.2.1 hK hP 0 rfl rfl 3 (by decide) (X.2.2.2.2 _ q1023) (fun _ h9 => h9) rfl dX12_patternPosition_6 ?_
      refine z_icmp_ge (tgt := 39) X dX12_patternPosition_9 (by decide) (nI_toInt (by omega)) (nI_toInt (by omega)) (fun c9 => ?_) (fun c9 => ?_)
      · refine lv_bipush (v := (-2)) X.1 X.2.1 dX12_patternPosition_39 (by decide) ?_
        exact PuI.ret X hr hlk dX12_patternPosition_41 (nI_nar _) (by first | (rw [nthL_neg (by omega)]; done) | (rw [← hq]; rfl))
      · exfalso; omega
    | succ r ih4 =>
      intro v i h1 h2 hv hq ls hl
      refine lv_iload_n X.1 X.2.1 dX12_patternPosition_4 rfl (lv_at hl 0 rfl) ?_
      refine lv_aload_n X.1 X.2.1 dX12_patternPosition_5 rfl (lv_at hl 2 rfl) ?_
      refine va_get (D := g.1) (ci := 11) (v := .int (nI s.length)) (C := RX12) (T := TX12) (N := 26) X.1 X.2.1 X.2.2.2.2 iwX12 X.2.2.2.1 hK hP 0 rfl rfl 3 (by decide) (X.2.2.2.2 _ q1023) (fun _ h9 => h9) rfl dX12_patternPosition_6 ?_
      refine z_icmp_ge (tgt := 39) X dX12_patternPosition_9 (by decide) (nI_toInt (by omega)) (nI_toInt (by omega)) (fun c9 => ?_) (fun c9 => ?_)
      · exfalso; omega
      · refine lv_iload_n X.1 X.2.1 dX12_patternPosition_12 rfl (lv_at hl 3 rfl) ?_
        refine z_if_lt (tgt := 39) X dX12_patternPosition_13 (by decide) rfl (fun c13 => ?_) (fun c13 => ?_)
        · refine lv_bipush (v := (-2)) X.1 X.2.1 dX12_patternPosition_39 (by decide) ?_
          exact PuI.ret X hr hlk dX12_patternPosition_41 (nI_nar _) (by first | (rw [nthL_neg (by omega)]; done) | (rw [← hq]; rfl))
        · refine lv_aload_n X.1 X.2.1 dX12_patternPosition_16 rfl (lv_at hl 2 rfl) ?_
          refine lv_iload_n X.1 X.2.1 dX12_patternPosition_17 rfl (lv_at hl 0 rfl) ?_
          refine (m_matches g m0 lt er el cm_ sv md fmm lc lz af pt_ oc ty_ sz_ em k n s h c tk k0 n0 s0 z p f fp i (by omega) (by assumption) (by assumption) (by omega) (by assumption) (by assumption) (by omega) (by omega)).callV (rest := []) X dX12_patternPosition_18 q1289 tX12_matches hK (hP.sub [0, 1, 2] rfl) 0 11 rfl rfl rfl hl ⟨⟨Nat.le_of_ble_eq_true rfl, Nat.le_of_ble_eq_true rfl⟩, Nat.le_of_ble_eq_true rfl, Nat.le_of_ble_eq_true rfl⟩ rfl rfl (Nat.le_of_ble_eq_true rfl) ?_
          refine b_if_eq (tgt := 33) X dX12_patternPosition_21 (by decide) (fun c21 => ?_) (fun c21 => ?_)
          · refine lv_iinc (v := (nI (i + 1))) (lv' := [(3, .int (nI (i + 1))), (2, .int (iI (x.toInt - ((v : Nat) : Int)))), (0, .ref m0), (1, .int x)]) X.1 X.2.1 dX12_patternPosition_33 hl (k := 0) rfl (nI_inc _) (by decide) rfl (fun ls hl => ?_)
            refine lv_goto (tgt := 4) X.1 X.2.1 dX12_patternPosition_36 (by decide) ?_
            exact ih4 v (i + 1) (by omega) (by omega) (by omega) (by first | (rw [nthL, c21, if_pos rfl, if_neg (by omega)] at hq; exact hq) | (rw [nthL, c21, if_neg (by decide)] at hq; exact hq)) ls (lv_sub hl [0, 1, 2, 3] rfl)
          · refine lv_iload_n X.1 X.2.1 dX12_patternPosition_24 rfl (lv_at hl 1 rfl) ?_
            refine z_if_ne (tgt := 30) X dX12_patternPosition_25 (by decide) (iI_toInt (by omega) (by omega)) (fun c25 => ?_) (fun c25 => ?_)
            · refine lv_iinc (v := (iI (x.toInt - ((v + 1 : Nat) : Int)))) (lv' := [(2, .int (iI (x.toInt - ((v + 1 : Nat) : Int)))), (3, .int (nI i)), (0, .ref m0), (1, .int x)]) X.1 X.2.1 dX12_patternPosition_30 hl (k := 1) rfl (iI_inc _ _ _ (by omega)) (by decide) rfl (fun ls hl => ?_)
              refine lv_iinc (v := (nI (i + 1))) (lv' := [(3, .int (nI (i + 1))), (2, .int (iI (x.toInt - ((v + 1 : Nat) : Int)))), (0, .ref m0), (1, .int x)]) X.1 X.2.1 dX12_patternPosition_33 hl (k := 1) rfl (nI_inc _) (by decide) rfl (fun ls hl => ?_)
              refine lv_goto (tgt := 4) X.1 X.2.1 dX12_patternPosition_36 (by decide) ?_
              exact ih4 (v + 1) (i + 1) (by omega) (by omega) (by omega) (by first | (rw [nthL, c21, if_pos rfl, if_neg (by omega)] at hq; exact hq) | (rw [nthL, c21, if_neg (by decide)] at hq; exact hq)) ls (lv_sub hl [0, 1, 2, 3] rfl)
            · refine lv_iload_n X.1 X.2.1 dX12_patternPosition_28 rfl (lv_at hl 0 rfl) ?_
              exact PuI.ret X hr hlk dX12_patternPosition_29 (nI_nar _) (by rw [nthL, c21, if_pos rfl, if_pos (by omega)] at hq; exact hq)
  exact L4 s.length 0 0 (by omega) (by omega) (by omega) (rfl) ls (lv_sub hl [0, 1, 2, 3] rfl)

set_option maxHeartbeats 4000000 in
set_option maxRecDepth 100000 in
theorem m_blockAt (g : G5) (m0 : Nat) (lt : Nat) (er : Nat) (el : Nat) (cm_ : Nat) (sv : Nat) (md : Nat) (fmm : Nat) (lc : Nat) (lz : Nat) (af : Nat) (pt_ : Nat) (oc : Nat) (ty_ : Nat) (sz_ : Nat) (em : Nat) (k : Nat) (n : Nat) (s : List Nat) (h : List (List Nat)) (c : List Nat) (tk : Bool) (k0 : Nat) (n0 : Nat) (s0 : List Nat) (z : List Nat) (p : List Int) (f : Nat → Int32) (B : Nat) (T : Nat) (x : Int32) (hc : shp k n B T) (hs : s.length ≤ 256) (hf : rep f s) : PuI yX12_blockAt cX12_blockAt 2 (some .int) 3 70 g [.ref m0, .int x] [(m0, .inr (11, [.int (nI k), .int (nI n), .ref lt, .int (nI s.length), .ref er, .ref el, .int (nI h.length), .ref cm_, .int (nI c.length), .int (bI tk), .int (nI k0), .int (nI n0), .ref sv, .int (nI s0.length), .ref md, .int (nI z.length), .ref fmm, .ref lc, .ref lz, .ref af, .ref pt_, .int (nI p.length), .ref oc, .ref ty_, .ref sz_, .ref em])), (lt, .inl (g.2.1, 256, .inl f))] (a_blockAt k n s x) := by
  refine PuI.of (by decide +kernel) (Nat.le_of_ble_eq_true rfl) ?_
  intro p_ l_ e_ S_ m_ args below meth co X hr hlk hP hK ls hl
  have X : CallFix p_ m_ co cX12_blockAt 2 S_ args lw_all RX12 := X
  have hl : lv_has ls 2 [(0, .ref m0), (1, .int x)] := hl
  obtain ⟨hk2, hk4, hn1, hn6, hB, hT, hBT, hT2⟩ := hc.f
  have hB0 : 0 < B := by rw [hBT]; exact Nat.mul_pos (by omega) (by omega)
  refine lv_aload_n X.1 X.2.1 dX12_blockAt_0 rfl (lv_at hl 0 rfl) ?_
  refine lv_iload_n X.1 X.2.1 dX12_blockAt_1 rfl (lv_at hl 1 rfl) ?_
  refine (m_isPosition g m0 lt er el cm_ sv md fmm lc lz af pt_ oc ty_ sz_ em k n s h c tk k0 n0 s0 z p x (by omega)).callV (rest := []) X dX12_blockAt_2 q1129 tX12_isPosition hK (hP.sub [0] rfl) 0 11 rfl rfl rfl hl ⟨⟨Nat.le_of_ble_eq_true rfl, Nat.le_of_ble_eq_true rfl⟩, Nat.le_of_ble_eq_true rfl, Nat.le_of_ble_eq_true rfl⟩ rfl rfl (Nat.le_of_ble_eq_true rfl) ?_
  refine b_if_eq (tgt := 16) X dX12_blockAt_5 (by decide) (fun c5 => ?_) (fun c5 => ?_)
  · refine lv_bipush (v := (-2)) X.1 X.2.1 dX12_blockAt_16 (by decide) ?_
    exact PuI.ret X hr hlk dX12_blockAt_18 (nI_nar _) (by unfold a_blockAt; rw [c5]; first | rfl | (rw [xN_N (by omega)]; rfl))
  · obtain ⟨j, hj, rfl⟩ := hasB_t c5
    refine lv_aload_n X.1 X.2.1 dX12_blockAt_8 rfl (lv_at hl 0 rfl) ?_
    refine lv_iload_n X.1 X.2.1 dX12_blockAt_9 rfl (lv_at hl 1 rfl) ?_
    refine (m_occurring g m0 lt er el cm_ sv md fmm lc lz af pt_ oc ty_ sz_ em k n s h c tk k0 n0 s0 z p f j (by omega) (by omega) (by assumption) (by omega) (by omega)).callV (rest := []) X dX12_blockAt_10 q1301 tX12_occurring hK (hP.sub [0, 1] rfl) 0 11 rfl rfl rfl hl ⟨⟨Nat.le_of_ble_eq_true rfl, Nat.le_of_ble_eq_true rfl⟩, Nat.le_of_ble_eq_true rfl, Nat.le_of_ble_eq_true rfl⟩ rfl rfl (Nat.le_of_ble_eq_true rfl) ?_
    refine lv_goto (tgt := 18) X.1 X.2.1 dX12_blockAt_13 (by decide) ?_
    exact PuI.ret X hr hlk dX12_blockAt_18 (nI_nar _) (by unfold a_blockAt; rw [c5]; first | rfl | (rw [xN_N (by omega)]; rfl))

set_option maxHeartbeats 4000000 in
set_option maxRecDepth 100000 in
theorem m_positionOf (g : G5) (m0 : Nat) (lt : Nat) (er : Nat) (el : Nat) (cm_ : Nat) (sv : Nat) (md : Nat) (fmm : Nat) (lc : Nat) (lz : Nat) (af : Nat) (pt_ : Nat) (oc : Nat) (ty_ : Nat) (sz_ : Nat) (em : Nat) (k : Nat) (n : Nat) (s : List Nat) (h : List (List Nat)) (c : List Nat) (tk : Bool) (k0 : Nat) (n0 : Nat) (s0 : List Nat) (z : List Nat) (p : List Int) (f : Nat → Int32) (B : Nat) (T : Nat) (x : Int32) (hc : shp k n B T) (hs : s.length ≤ 256) (hf : rep f s) (hlt : ltk k s) : PuI yX12_positionOf cX12_positionOf 2 (some .int) 4 92 g [.ref m0, .int x] [(m0, .inr (11, [.int (nI k), .int (nI n), .ref lt, .int (nI s.length), .ref er, .ref el, .int (nI h.length), .ref cm_, .int (nI c.length), .int (bI tk), .int (nI k0), .int (nI n0), .ref sv, .int (nI s0.length), .ref md, .int (nI z.length), .ref fmm, .ref lc, .ref lz, .ref af, .ref pt_, .int (nI p.length), .ref oc, .ref ty_, .ref sz_, .ref em])), (lt, .inl (g.2.1, 256, .inl f))] (a_positionOf k n B s x) := by
  refine PuI.of (by decide +kernel) (Nat.le_of_ble_eq_true rfl) ?_
  intro p_ l_ e_ S_ m_ args below meth co X hr hlk hP hK ls hl
  have X : CallFix p_ m_ co cX12_positionOf 2 S_ args lw_all RX12 := X
  have hl : lv_has ls 2 [(0, .ref m0), (1, .int x)] := hl
  obtain ⟨hk2, hk4, hn1, hn6, hB, hT, hBT, hT2⟩ := hc.f
  have hB0 : 0 < B := by rw [hBT]; exact Nat.mul_pos (by omega) (by omega)
  refine lv_aload_n X.1 X.2.1 dX12_positionOf_0 rfl (lv_at hl 0 rfl) ?_
  refine lv_iload_n X.1 X.2.1 dX12_positionOf_1 rfl (lv_at hl 1 rfl) ?_
  refine (m_isBlock g m0 lt er el cm_ sv md fmm lc lz af pt_ oc ty_ sz_ em k n s h c tk k0 n0 s0 z p B T x (by assumption)).callV (rest := []) X dX12_positionOf_2 q1309 tX12_isBlock hK (hP.sub [0] rfl) 0 11 rfl rfl rfl hl ⟨⟨Nat.le_of_ble_eq_true rfl, Nat.le_of_ble_eq_true rfl⟩, Nat.le_of_ble_eq_true rfl, Nat.le_of_ble_eq_true rfl⟩ rfl rfl (Nat.le_of_ble_eq_true rfl) ?_
  refine b_if_eq (tgt := 16) X dX12_positionOf_5 (by decide) (fun c5 => ?_) (fun c5 => ?_)
  · refine lv_iconst (v := (-1)) X.1 X.2.1 dX12_positionOf_16 (by decide) ?_
    exact PuI.ret X hr hlk dX12_positionOf_17 (nI_nar _) (by unfold a_positionOf; rw [c5]; first | rfl | (rw [xN_N (by omega)]; rfl))
  · obtain ⟨j, hj, rfl⟩ := hasB_t c5
    refine lv_aload_n X.1 X.2.1 dX12_positionOf_8 rfl (lv_at hl 0 rfl) ?_
    refine lv_iload_n X.1 X.2.1 dX12_positionOf_9 rfl (lv_at hl 1 rfl) ?_
    refine (m_first g m0 lt er el cm_ sv md fmm lc lz af pt_ oc ty_ sz_ em k n s h c tk k0 n0 s0 z p f B T j (by assumption) (by omega) (by assumption) (by assumption) (by omega)).callV (rest := []) X dX12_positionOf_10 q1313 tX12_first hK (hP.sub [0, 1] rfl) 0 11 rfl rfl rfl hl ⟨⟨Nat.le_of_ble_eq_true rfl, Nat.le_of_ble_eq_true rfl⟩, Nat.le_of_ble_eq_true rfl, Nat.le_of_ble_eq_true rfl⟩ rfl rfl (Nat.le_of_ble_eq_true rfl) ?_
    refine lv_goto (tgt := 17) X.1 X.2.1 dX12_positionOf_13 (by decide) ?_
    exact PuI.ret X hr hlk dX12_positionOf_17 (nI_nar _) (by unfold a_positionOf; rw [c5]; first | rfl | (rw [xN_N (by omega)]; rfl))

set_option maxHeartbeats 4000000 in
set_option maxRecDepth 100000 in
theorem m_occurrences (g : G5) (m0 : Nat) (lt : Nat) (er : Nat) (el : Nat) (cm_ : Nat) (sv : Nat) (md : Nat) (fmm : Nat) (lc : Nat) (lz : Nat) (af : Nat) (pt_ : Nat) (oc : Nat) (ty_ : Nat) (sz_ : Nat) (em : Nat) (k : Nat) (n : Nat) (s : List Nat) (h : List (List Nat)) (c : List Nat) (tk : Bool) (k0 : Nat) (n0 : Nat) (s0 : List Nat) (z : List Nat) (p : List Int) (f : Nat → Int32) (B : Nat) (T : Nat) (x : Int32) (hc : shp k n B T) (hs : s.length ≤ 256) (hf : rep f s) (hlt : ltk k s) : PuI yX12_occurrences cX12_occurrences 2 (some .int) 4 93 g [.ref m0, .int x] [(m0, .inr (11, [.int (nI k), .int (nI n), .ref lt, .int (nI s.length), .ref er, .ref el, .int (nI h.length), .ref cm_, .int (nI c.length), .int (bI tk), .int (nI k0), .int (nI n0), .ref sv, .int (nI s0.length), .ref md, .int (nI z.length), .ref fmm, .ref lc, .ref lz, .ref af, .ref pt_, .int (nI p.length), .ref oc, .ref ty_, .ref sz_, .ref em])), (lt, .inl (g.2.1, 256, .inl f))] (a_occurrences k n B s x) := by
  refine PuI.of (by decide +kernel) (Nat.le_of_ble_eq_true rfl) ?_
  intro p_ l_ e_ S_ m_ args below meth co X hr hlk hP hK ls hl
  have X : CallFix p_ m_ co cX12_occurrences 2 S_ args lw_all RX12 := X
  have hl : lv_has ls 2 [(0, .ref m0), (1, .int x)] := hl
  obtain ⟨hk2, hk4, hn1, hn6, hB, hT, hBT, hT2⟩ := hc.f
  have hB0 : 0 < B := by rw [hBT]; exact Nat.mul_pos (by omega) (by omega)
  refine lv_aload_n X.1 X.2.1 dX12_occurrences_0 rfl (lv_at hl 0 rfl) ?_
  refine lv_iload_n X.1 X.2.1 dX12_occurrences_1 rfl (lv_at hl 1 rfl) ?_
  refine (m_isBlock g m0 lt er el cm_ sv md fmm lc lz af pt_ oc ty_ sz_ em k n s h c tk k0 n0 s0 z p B T x (by assumption)).callV (rest := []) X dX12_occurrences_2 q1309 tX12_isBlock hK (hP.sub [0] rfl) 0 11 rfl rfl rfl hl ⟨⟨Nat.le_of_ble_eq_true rfl, Nat.le_of_ble_eq_true rfl⟩, Nat.le_of_ble_eq_true rfl, Nat.le_of_ble_eq_true rfl⟩ rfl rfl (Nat.le_of_ble_eq_true rfl) ?_
  refine b_if_eq (tgt := 16) X dX12_occurrences_5 (by decide) (fun c5 => ?_) (fun c5 => ?_)
  · refine lv_iconst (v := (-1)) X.1 X.2.1 dX12_occurrences_16 (by decide) ?_
    exact PuI.ret X hr hlk dX12_occurrences_17 (nI_nar _) (by unfold a_occurrences; rw [c5]; first | rfl | (rw [xN_N (by omega)]; rfl))
  · obtain ⟨j, hj, rfl⟩ := hasB_t c5
    refine lv_aload_n X.1 X.2.1 dX12_occurrences_8 rfl (lv_at hl 0 rfl) ?_
    refine lv_iload_n X.1 X.2.1 dX12_occurrences_9 rfl (lv_at hl 1 rfl) ?_
    refine (m_count g m0 lt er el cm_ sv md fmm lc lz af pt_ oc ty_ sz_ em k n s h c tk k0 n0 s0 z p f B T j (by assumption) (by omega) (by assumption) (by assumption) (by omega)).callV (rest := []) X dX12_occurrences_10 q1338 tX12_count hK (hP.sub [0, 1] rfl) 0 11 rfl rfl rfl hl ⟨⟨Nat.le_of_ble_eq_true rfl, Nat.le_of_ble_eq_true rfl⟩, Nat.le_of_ble_eq_true rfl, Nat.le_of_ble_eq_true rfl⟩ rfl rfl (Nat.le_of_ble_eq_true rfl) ?_
    refine lv_goto (tgt := 17) X.1 X.2.1 dX12_occurrences_13 (by decide) ?_
    exact PuI.ret X hr hlk dX12_occurrences_17 (nI_nar _) (by unfold a_occurrences; rw [c5]; first | rfl | (rw [xN_N (by omega)]; rfl))

set_option maxHeartbeats 4000000 in
set_option maxRecDepth 100000 in
theorem m_letterAfter (g : G5) (m0 : Nat) (lt : Nat) (er : Nat) (el : Nat) (cm_ : Nat) (sv : Nat) (md : Nat) (fmm : Nat) (lc : Nat) (lz : Nat) (af : Nat) (pt_ : Nat) (oc : Nat) (ty_ : Nat) (sz_ : Nat) (em : Nat) (k : Nat) (n : Nat) (s : List Nat) (h : List (List Nat)) (c : List Nat) (tk : Bool) (k0 : Nat) (n0 : Nat) (s0 : List Nat) (z : List Nat) (p : List Int) (f : Nat → Int32) (B : Nat) (T : Nat) (x : Int32) (hc : shp k n B T) (hs : s.length ≤ 256) (hf : rep f s) (hlt : ltk k s) : PuI yX12_letterAfter cX12_letterAfter 3 (some .int) 4 92 g [.ref m0, .int x] [(m0, .inr (11, [.int (nI k), .int (nI n), .ref lt, .int (nI s.length), .ref er, .ref el, .int (nI h.length), .ref cm_, .int (nI c.length), .int (bI tk), .int (nI k0), .int (nI n0), .ref sv, .int (nI s0.length), .ref md, .int (nI z.length), .ref fmm, .ref lc, .ref lz, .ref af, .ref pt_, .int (nI p.length), .ref oc, .ref ty_, .ref sz_, .ref em])), (lt, .inl (g.2.1, 256, .inl f))] (a_letterAfter k n B s x) := by
  refine PuI.of (by decide +kernel) (Nat.le_of_ble_eq_true rfl) ?_
  intro p_ l_ e_ S_ m_ args below meth co X hr hlk hP hK ls hl
  have X : CallFix p_ m_ co cX12_letterAfter 3 S_ args lw_all RX12 := X
  have hl : lv_has ls 3 [(0, .ref m0), (1, .int x)] := hl
  obtain ⟨hk2, hk4, hn1, hn6, hB, hT, hBT, hT2⟩ := hc.f
  have hB0 : 0 < B := by rw [hBT]; exact Nat.mul_pos (by omega) (by omega)
  refine lv_aload_n X.1 X.2.1 dX12_letterAfter_0 rfl (lv_at hl 0 rfl) ?_
  refine lv_iload_n X.1 X.2.1 dX12_letterAfter_1 rfl (lv_at hl 1 rfl) ?_
  refine (m_isBlock g m0 lt er el cm_ sv md fmm lc lz af pt_ oc ty_ sz_ em k n s h c tk k0 n0 s0 z p B T x (by assumption)).callV (rest := []) X dX12_letterAfter_2 q1309 tX12_isBlock hK (hP.sub [0] rfl) 0 11 rfl rfl rfl hl ⟨⟨Nat.le_of_ble_eq_true rfl, Nat.le_of_ble_eq_true rfl⟩, Nat.le_of_ble_eq_true rfl, Nat.le_of_ble_eq_true rfl⟩ rfl rfl (Nat.le_of_ble_eq_true rfl) ?_
  refine b_if_ne (tgt := 10) X dX12_letterAfter_5 (by decide) (fun c5 => ?_) (fun c5 => ?_)
  · obtain ⟨j, hj, rfl⟩ := hasB_t c5
    refine lv_aload_n X.1 X.2.1 dX12_letterAfter_10 rfl (lv_at hl 0 rfl) ?_
    refine lv_iload_n X.1 X.2.1 dX12_letterAfter_11 rfl (lv_at hl 1 rfl) ?_
    refine (m_first g m0 lt er el cm_ sv md fmm lc lz af pt_ oc ty_ sz_ em k n s h c tk k0 n0 s0 z p f B T j (by assumption) (by omega) (by assumption) (by assumption) (by omega)).callV (rest := []) X dX12_letterAfter_12 q1313 tX12_first hK (hP.sub [0, 1] rfl) 0 11 rfl rfl rfl hl ⟨⟨Nat.le_of_ble_eq_true rfl, Nat.le_of_ble_eq_true rfl⟩, Nat.le_of_ble_eq_true rfl, Nat.le_of_ble_eq_true rfl⟩ rfl rfl (Nat.le_of_ble_eq_true rfl) ?_
    rcases oI_cases (fpO k n s j) with ⟨hx1, ex1⟩ | ⟨i1, hx1, ex1⟩
    · refine tp_i (y := (-2)) (ex1) ?_
      refine lv_istore_n (lv' := [(2, .int (-2)), (0, .ref m0), (1, .int (nI j))]) X.1 X.2.1 dX12_letterAfter_15 rfl hl (by decide) rfl (fun ls hl => ?_)
      refine lv_iload_n X.1 X.2.1 dX12_letterAfter_16 rfl (lv_at hl 0 rfl) ?_
      refine z_if_ge (tgt := 25) X dX12_letterAfter_17 (by decide) (show Int32.toInt ((-2)) = (-2) from rfl) (fun c17 => ?_) (fun c17 => ?_)
      · exfalso; omega
      · refine lv_bipush (v := (-2)) X.1 X.2.1 dX12_letterAfter_20 (by decide) ?_
        refine lv_goto (tgt := 36) X.1 X.2.1 dX12_letterAfter_22 (by decide) ?_
        exact PuI.ret X hr hlk dX12_letterAfter_36 (nI_nar _) (by unfold a_letterAfter; rw [c5, xN_N (by omega), hx1]; rfl)
    · have hil1 := fpO_lt hx1
      refine tp_i (y := (nI i1)) (ex1) ?_
      refine lv_istore_n (lv' := [(2, .int (nI i1)), (0, .ref m0), (1, .int (nI j))]) X.1 X.2.1 dX12_letterAfter_15 rfl hl (by decide) rfl (fun ls hl => ?_)
      refine lv_iload_n X.1 X.2.1 dX12_letterAfter_16 rfl (lv_at hl 0 rfl) ?_
      refine z_if_ge (tgt := 25) X dX12_letterAfter_17 (by decide) (nI_toInt (by omega)) (fun c17 => ?_) (fun c17 => ?_)
      · refine lv_aload_n X.1 X.2.1 dX12_letterAfter_25 rfl (lv_at hl 1 rfl) ?_
        refine lv_iload_n X.1 X.2.1 dX12_letterAfter_26 rfl (lv_at hl 0 rfl) ?_
        refine lv_aload_n X.1 X.2.1 dX12_letterAfter_27 rfl (lv_at hl 1 rfl) ?_
        refine va_get (D := g.1) (ci := 11) (v := .int (nI n)) (C := RX12) (T := TX12) (N := 26) X.1 X.2.1 X.2.2.2.2 iwX12 X.2.2.2.1 hK hP 0 rfl rfl 1 (by decide) (X.2.2.2.2 _ q1021) (fun _ h9 => h9) rfl dX12_letterAfter_28 ?_
        refine n_add X dX12_letterAfter_31 ?_
        refine lv_i2l (v := lN (i1 + n)) X.1 X.2.1 dX12_letterAfter_32 (nI_l (by omega)) ?_
        refine (m_atN g m0 lt er el cm_ sv md fmm lc lz af pt_ oc ty_ sz_ em k n s h c tk k0 n0 s0 z p f (i1 + n) (by omega) (by assumption) (by omega) (by omega)).callV (rest := []) X dX12_letterAfter_33 q1238 tX12_at hK (hP.sub [0, 1] rfl) 0 11 rfl rfl rfl hl ⟨⟨Nat.le_of_ble_eq_true rfl, Nat.le_of_ble_eq_true rfl⟩, Nat.le_of_ble_eq_true rfl, Nat.le_of_ble_eq_true rfl⟩ rfl rfl (Nat.le_of_ble_eq_true rfl) ?_
        exact PuI.ret X hr hlk dX12_letterAfter_36 (nI_nar _) (by unfold a_letterAfter; rw [c5, xN_N (by omega), hx1]; rfl)
      · exfalso; omega
  · refine lv_iconst (v := (-1)) X.1 X.2.1 dX12_letterAfter_8 (by decide) ?_
    exact PuI.ret X hr hlk dX12_letterAfter_9 (nI_nar _) (by unfold a_letterAfter; rw [c5]; rfl)

set_option maxHeartbeats 4000000 in
set_option maxRecDepth 100000 in
theorem m_distance (g : G5) (m0 : Nat) (lt : Nat) (er : Nat) (el : Nat) (cm_ : Nat) (sv : Nat) (md : Nat) (fmm : Nat) (lc : Nat) (lz : Nat) (af : Nat) (pt_ : Nat) (oc : Nat) (ty_ : Nat) (sz_ : Nat) (em : Nat) (k : Nat) (n : Nat) (s : List Nat) (h : List (List Nat)) (c : List Nat) (tk : Bool) (k0 : Nat) (n0 : Nat) (s0 : List Nat) (z : List Nat) (p : List Int) (f : Nat → Int32) (B : Nat) (T : Nat) (x : Int32) (y : Int32) (hc : shp k n B T) (hs : s.length ≤ 256) (hf : rep f s) (hlt : ltk k s) : PuI yX12_distance cX12_distance 5 (some .int) 4 92 g [.ref m0, .int x, .int y] [(m0, .inr (11, [.int (nI k), .int (nI n), .ref lt, .int (nI s.length), .ref er, .ref el, .int (nI h.length), .ref cm_, .int (nI c.length), .int (bI tk), .int (nI k0), .int (nI n0), .ref sv, .int (nI s0.length), .ref md, .int (nI z.length), .ref fmm, .ref lc, .ref lz, .ref af, .ref pt_, .int (nI p.length), .ref oc, .ref ty_, .ref sz_, .ref em])), (lt, .inl (g.2.1, 256, .inl f))] (a_distance k n B s x y) := by
  refine PuI.of (by decide +kernel) (Nat.le_of_ble_eq_true rfl) ?_
  intro p_ l_ e_ S_ m_ args below meth co X hr hlk hP hK ls hl
  have X : CallFix p_ m_ co cX12_distance 5 S_ args lw_all RX12 := X
  have hl : lv_has ls 5 [(0, .ref m0), (1, .int x), (2, .int y)] := hl
  obtain ⟨hk2, hk4, hn1, hn6, hB, hT, hBT, hT2⟩ := hc.f
  have hB0 : 0 < B := by rw [hBT]; exact Nat.mul_pos (by omega) (by omega)
  refine lv_aload_n X.1 X.2.1 dX12_distance_0 rfl (lv_at hl 0 rfl) ?_
  refine lv_iload_n X.1 X.2.1 dX12_distance_1 rfl (lv_at hl 1 rfl) ?_
  refine (m_isBlock g m0 lt er el cm_ sv md fmm lc lz af pt_ oc ty_ sz_ em k n s h c tk k0 n0 s0 z p B T x (by assumption)).callV (rest := []) X dX12_distance_2 q1309 tX12_isBlock hK (hP.sub [0] rfl) 0 11 rfl rfl rfl hl ⟨⟨Nat.le_of_ble_eq_true rfl, Nat.le_of_ble_eq_true rfl⟩, Nat.le_of_ble_eq_true rfl, Nat.le_of_ble_eq_true rfl⟩ rfl rfl (Nat.le_of_ble_eq_true rfl) ?_
  refine b_if_eq (tgt := 16) X dX12_distance_5 (by decide) (fun c5 => ?_) (fun c5 => ?_)
  · refine lv_iconst (v := (-1)) X.1 X.2.1 dX12_distance_16 (by decide) ?_
    exact PuI.ret X hr hlk dX12_distance_17 (nI_nar _) (by unfold a_distance; rw [c5]; first | rfl | (rw [c13]; rfl))
  · obtain ⟨j, hj, rfl⟩ := hasB_t c5
    refine lv_aload_n X.1 X.2.1 dX12_distance_8 rfl (lv_at hl 0 rfl) ?_
    refine lv_iload_n X.1 X.2.1 dX12_distance_9 rfl (lv_at hl 2 rfl) ?_
    refine (m_isBlock g m0 lt er el cm_ sv md fmm lc lz af pt_ oc ty_ sz_ em k n s h c tk k0 n0 s0 z p B T y (by assumption)).callV (rest := []) X dX12_distance_10 q1309 tX12_isBlock hK (hP.sub [0] rfl) 0 11 rfl rfl rfl hl ⟨⟨Nat.le_of_ble_eq_true rfl, Nat.le_of_ble_eq_true rfl⟩, Nat.le_of_ble_eq_true rfl, Nat.le_of_ble_eq_true rfl⟩ rfl rfl (Nat.le_of_ble_eq_true rfl) ?_
    refine b_if_ne (tgt := 18) X dX12_distance_13 (by decide) (fun c13 => ?_) (fun c13 => ?_)
    · obtain ⟨t, ht, rfl⟩ := hasB_t c13
      refine lv_aload_n X.1 X.2.1 dX12_distance_18 rfl (lv_at hl 0 rfl) ?_
      refine lv_iload_n X.1 X.2.1 dX12_distance_19 rfl (lv_at hl 1 rfl) ?_
      refine (m_first g m0 lt er el cm_ sv md fmm lc lz af pt_ oc ty_ sz_ em k n s h c tk k0 n0 s0 z p f B T j (by assumption) (by omega) (by assumption) (by assumption) (by omega)).callV (rest := []) X dX12_distance_20 q1313 tX12_first hK (hP.sub [0, 1] rfl) 0 11 rfl rfl rfl hl ⟨⟨Nat.le_of_ble_eq_true rfl, Nat.le_of_ble_eq_true rfl⟩, Nat.le_of_ble_eq_true rfl, Nat.le_of_ble_eq_true rfl⟩ rfl rfl (Nat.le_of_ble_eq_true rfl) ?_
      rcases oI_cases (fpO k n s j) with ⟨hx1, ex1⟩ | ⟨i1, hx1, ex1⟩
      · refine tp_i (y := (-2)) (ex1) ?_
        refine lv_istore_n (lv' := [(3, .int (-2)), (0, .ref m0), (1, .int (nI j)), (2, .int (nI t))]) X.1 X.2.1 dX12_distance_23 rfl hl (by decide) rfl (fun ls hl => ?_)
        refine lv_aload_n X.1 X.2.1 dX12_distance_24 rfl (lv_at hl 1 rfl) ?_
        refine lv_iload_n X.1 X.2.1 dX12_distance_25 rfl (lv_at hl 3 rfl) ?_
        refine (m_first g m0 lt er el cm_ sv md fmm lc lz af pt_ oc ty_ sz_ em k n s h c tk k0 n0 s0 z p f B T t (by assumption) (by omega) (by assumption) (by assumption) (by omega)).callV (rest := []) X dX12_distance_26 q1313 tX12_first hK (hP.sub [0, 1] rfl) 0 11 rfl rfl rfl hl ⟨⟨Nat.le_of_ble_eq_true rfl, Nat.le_of_ble_eq_true rfl⟩, Nat.le_of_ble_eq_true rfl, Nat.le_of_ble_eq_true rfl⟩ rfl rfl (Nat.le_of_ble_eq_true rfl) ?_
        rcases oI_cases (fpO k n s t) with ⟨hx2, ex2⟩ | ⟨i2, hx2, ex2⟩
        · refine tp_i (y := (-2)) (ex2) ?_
          refine lv_istore (lv' := [(4, .int (-2)), (3, .int (-2)), (0, .ref m0), (1, .int (nI j)), (2, .int (nI t))]) X.1 X.2.1 dX12_distance_29 hl (by decide) rfl (fun ls hl => ?_)
          refine lv_iload_n X.1 X.2.1 dX12_distance_31 rfl (lv_at hl 1 rfl) ?_
          refine z_if_lt (tgt := 40) X dX12_distance_32 (by decide) (show Int32.toInt ((-2)) = (-2) from rfl) (fun c32 => ?_) (fun c32 => ?_)
          · refine lv_bipush (v := (-2)) X.1 X.2.1 dX12_distance_40 (by decide) ?_
            refine lv_goto (tgt := 67) X.1 X.2.1 dX12_distance_42 (by decide) ?_
            exact PuI.ret X hr hlk dX12_distance_67 (nI_nar _) (by unfold a_distance; rw [c5, c13, xN_N (by omega), xN_N (by omega), hx1, hx2]; first | rfl | (show _ = nI (if i1 ≤ i2 then i2 - i1 else i2 + s.length - i1); first | (rw [if_pos (by omega)]; done) | (rw [if_neg (by omega), nI_iI]; congr 1; omega)))
          · exfalso; omega
        · have hil2 := fpO_lt hx2
          refine tp_i (y := (nI i2)) (ex2) ?_
          refine lv_istore (lv' := [(4, .int (nI i2)), (3, .int (-2)), (0, .ref m0), (1, .int (nI j)), (2, .int (nI t))]) X.1 X.2.1 dX12_distance_29 hl (by decide) rfl (fun ls hl => ?_)
          refine lv_iload_n X.1 X.2.1 dX12_distance_31 rfl (lv_at hl 1 rfl) ?_
          refine z_if_lt (tgt := 40) X dX12_distance_32 (by decide) (show Int32.toInt ((-2)) = (-2) from rfl) (fun c32 => ?_) (fun c32 => ?_)
          · refine lv_bipush (v := (-2)) X.1 X.2.1 dX12_distance_40 (by decide) ?_
            refine lv_goto (tgt := 67) X.1 X.2.1 dX12_distance_42 (by decide) ?_
            exact PuI.ret X hr hlk dX12_distance_67 (nI_nar _) (by unfold a_distance; rw [c5, c13, xN_N (by omega), xN_N (by omega), hx1, hx2]; first | rfl | (show _ = nI (if i1 ≤ i2 then i2 - i1 else i2 + s.length - i1); first | (rw [if_pos (by omega)]; done) | (rw [if_neg (by omega), nI_iI]; congr 1; omega)))
          · exfalso; omega
      · have hil1 := fpO_lt hx1
        refine tp_i (y := (nI i1)) (ex1) ?_
        refine lv_istore_n (lv' := [(3, .int (nI i1)), (0, .ref m0), (1, .int (nI j)), (2, .int (nI t))]) X.1 X.2.1 dX12_distance_23 rfl hl (by decide) rfl (fun ls hl => ?_)
        refine lv_aload_n X.1 X.2.1 dX12_distance_24 rfl (lv_at hl 1 rfl) ?_
        refine lv_iload_n X.1 X.2.1 dX12_distance_25 rfl (lv_at hl 3 rfl) ?_
        refine (m_first g m0 lt er el cm_ sv md fmm lc lz af pt_ oc ty_ sz_ em k n s h c tk k0 n0 s0 z p f B T t (by assumption) (by omega) (by assumption) (by assumption) (by omega)).callV (rest := []) X dX12_distance_26 q1313 tX12_first hK (hP.sub [0, 1] rfl) 0 11 rfl rfl rfl hl ⟨⟨Nat.le_of_ble_eq_true rfl, Nat.le_of_ble_eq_true rfl⟩, Nat.le_of_ble_eq_true rfl, Nat.le_of_ble_eq_true rfl⟩ rfl rfl (Nat.le_of_ble_eq_true rfl) ?_
        rcases oI_cases (fpO k n s t) with ⟨hx2, ex2⟩ | ⟨i2, hx2, ex2⟩
        · refine tp_i (y := (-2)) (ex2) ?_
          refine lv_istore (lv' := [(4, .int (-2)), (3, .int (nI i1)), (0, .ref m0), (1, .int (nI j)), (2, .int (nI t))]) X.1 X.2.1 dX12_distance_29 hl (by decide) rfl (fun ls hl => ?_)
          refine lv_iload_n X.1 X.2.1 dX12_distance_31 rfl (lv_at hl 1 rfl) ?_
          refine z_if_lt (tgt := 40) X dX12_distance_32 (by decide) (nI_toInt (by omega)) (fun c32 => ?_) (fun c32 => ?_)
          · exfalso; omega
          · refine lv_iload X.1 X.2.1 dX12_distance_35 (lv_at hl 0 rfl) ?_
            refine z_if_ge (tgt := 45) X dX12_distance_37 (by decide) (show Int32.toInt ((-2)) = (-2) from rfl) (fun c37 => ?_) (fun c37 => ?_)
            · exfalso; omega
            · refine lv_bipush (v := (-2)) X.1 X.2.1 dX12_distance_40 (by decide) ?_
              refine lv_goto (tgt := 67) X.1 X.2.1 dX12_distance_42 (by decide) ?_
              exact PuI.ret X hr hlk dX12_distance_67 (nI_nar _) (by unfold a_distance; rw [c5, c13, xN_N (by omega), xN_N (by omega), hx1, hx2]; first | rfl | (show _ = nI (if i1 ≤ i2 then i2 - i1 else i2 + s.length - i1); first | (rw [if_pos (by omega)]; done) | (rw [if_neg (by omega), nI_iI]; congr 1; omega)))
        · have hil2 := fpO_lt hx2
          refine tp_i (y := (nI i2)) (ex2) ?_
          refine lv_istore (lv' := [(4, .int (nI i2)), (3, .int (nI i1)), (0, .ref m0), (1, .int (nI j)), (2, .int (nI t))]) X.1 X.2.1 dX12_distance_29 hl (by decide) rfl (fun ls hl => ?_)
          refine lv_iload_n X.1 X.2.1 dX12_distance_31 rfl (lv_at hl 1 rfl) ?_
          refine z_if_lt (tgt := 40) X dX12_distance_32 (by decide) (nI_toInt (by omega)) (fun c32 => ?_) (fun c32 => ?_)
          · exfalso; omega
          · refine lv_iload X.1 X.2.1 dX12_distance_35 (lv_at hl 0 rfl) ?_
            refine z_if_ge (tgt := 45) X dX12_distance_37 (by decide) (nI_toInt (by omega)) (fun c37 => ?_) (fun c37 => ?_)
            · refine lv_iload X.1 X.2.1 dX12_distance_45 (lv_at hl 0 rfl) ?_
              refine lv_iload_n X.1 X.2.1 dX12_distance_47 rfl (lv_at hl 1 rfl) ?_
              refine z_icmp_ge (tgt := 63) X dX12_distance_48 (by decide) (nI_toInt (by omega)) (nI_toInt (by omega)) (fun c48 => ?_) (fun c48 => ?_)
              · refine lv_iload X.1 X.2.1 dX12_distance_63 (lv_at hl 0 rfl) ?_
                refine lv_iload_n X.1 X.2.1 dX12_distance_65 rfl (lv_at hl 1 rfl) ?_
                refine n_sub X dX12_distance_66 (by omega) ?_
                exact PuI.ret X hr hlk dX12_distance_67 (nI_nar _) (by unfold a_distance; rw [c5, c13, xN_N (by omega), xN_N (by omega), hx1, hx2]; first | rfl | (show _ = nI (if i1 ≤ i2 then i2 - i1 else i2 + s.length - i1); first | (rw [if_pos (by omega)]; done) | (rw [if_neg (by omega), nI_iI]; congr 1; omega)))
              · refine lv_iload X.1 X.2.1 dX12_distance_51 (lv_at hl 0 rfl) ?_
                refine lv_iload_n X.1 X.2.1 dX12_distance_53 rfl (lv_at hl 1 rfl) ?_
                refine lv_isub X.1 X.2.1 dX12_distance_54 ?_
                refine tp_i (y := (iI (((i2 : Nat) : Int) - ((i1 : Nat) : Int)))) (by first | rw [iI_sub] | rw [nI_iI, nI_iI, iI_sub] | rw [nI_iI, iI_sub]) ?_
                refine lv_aload_n X.1 X.2.1 dX12_distance_55 rfl (lv_at hl 2 rfl) ?_
                refine va_get (D := g.1) (ci := 11) (v := .int (nI s.length)) (C := RX12) (T := TX12) (N := 26) X.1 X.2.1 X.2.2.2.2 iwX12 X.2.2.2.1 hK hP 0 rfl rfl 3 (by decide) (X.2.2.2.2 _ q1023) (fun _ h9 => h9) rfl dX12_distance_56 ?_
                refine lv_iadd X.1 X.2.1 dX12_distance_59 ?_
                refine tp_i (y := (iI ((((i2 : Nat) : Int) - ((i1 : Nat) : Int)) + ((s.length : Nat) : Int)))) (by first | rw [iI_add] | rw [nI_iI, nI_iI, iI_add] | rw [nI_iI, iI_add]) ?_
                refine lv_goto (tgt := 67) X.1 X.2.1 dX12_distance_60 (by decide) ?_
                exact PuI.ret X hr hlk dX12_distance_67 (nI_nar _) (by unfold a_distance; rw [c5, c13, xN_N (by omega), xN_N (by omega), hx1, hx2]; first | rfl | (show _ = nI (if i1 ≤ i2 then i2 - i1 else i2 + s.length - i1); first | (rw [if_pos (by omega)]; done) | (rw [if_neg (by omega), nI_iI]; congr 1; omega)))
            · exfalso; omega
    · refine lv_iconst (v := (-1)) X.1 X.2.1 dX12_distance_16 (by decide) ?_
      exact PuI.ret X hr hlk dX12_distance_17 (nI_nar _) (by unfold a_distance; rw [c5]; first | rfl | (rw [c13]; rfl))

set_option maxHeartbeats 4000000 in
set_option maxRecDepth 100000 in
theorem m_linearLength (g : G5) (m0 : Nat) (lt : Nat) (er : Nat) (el : Nat) (cm_ : Nat) (sv : Nat) (md : Nat) (fmm : Nat) (lc : Nat) (lz : Nat) (af : Nat) (pt_ : Nat) (oc : Nat) (ty_ : Nat) (sz_ : Nat) (em : Nat) (k : Nat) (n : Nat) (s : List Nat) (h : List (List Nat)) (c : List Nat) (tk : Bool) (k0 : Nat) (n0 : Nat) (s0 : List Nat) (z : List Nat) (p : List Int) (B : Nat) (T : Nat) (hc : shp k n B T) (hs : s.length ≤ 256) : PuI yX12_linearLength cX12_linearLength 1 (some .int) 0 0 g [.ref m0] [(m0, .inr (11, [.int (nI k), .int (nI n), .ref lt, .int (nI s.length), .ref er, .ref el, .int (nI h.length), .ref cm_, .int (nI c.length), .int (bI tk), .int (nI k0), .int (nI n0), .ref sv, .int (nI s0.length), .ref md, .int (nI z.length), .ref fmm, .ref lc, .ref lz, .ref af, .ref pt_, .int (nI p.length), .ref oc, .ref ty_, .ref sz_, .ref em]))] (nI (linN n s)) := by
  refine PuI.of (by decide +kernel) (Nat.le_of_ble_eq_true rfl) ?_
  intro p_ l_ e_ S_ m_ args below meth co X hr hlk hP hK ls hl
  have X : CallFix p_ m_ co cX12_linearLength 1 S_ args lw_all RX12 := X
  have hl : lv_has ls 1 [(0, .ref m0)] := hl
  obtain ⟨hk2, hk4, hn1, hn6, hB, hT, hBT, hT2⟩ := hc.f
  have hB0 : 0 < B := by rw [hBT]; exact Nat.mul_pos (by omega) (by omega)
  refine lv_aload_n X.1 X.2.1 dX12_linearLength_0 rfl (lv_at hl 0 rfl) ?_
  refine va_get (D := g.1) (ci := 11) (v := .int (nI s.length)) (C := RX12) (T := TX12) (N := 26) X.1 X.2.1 X.2.2.2.2 iwX12 X.2.2.2.1 hK hP 0 rfl rfl 3 (by decide) (X.2.2.2.2 _ q1023) (fun _ h9 => h9) rfl dX12_linearLength_1 ?_
  refine z_if_ne (tgt := 11) X dX12_linearLength_4 (by decide) (nI_toInt (by omega)) (fun c4 => ?_) (fun c4 => ?_)
  · refine lv_aload_n X.1 X.2.1 dX12_linearLength_11 rfl (lv_at hl 0 rfl) ?_
    refine va_get (D := g.1) (ci := 11) (v := .int (nI s.length)) (C := RX12) (T := TX12) (N := 26) X.1 X.2.1 X.2.2.2.2 iwX12 X.2.2.2.1 hK hP 0 rfl rfl 3 (by decide) (X.2.2.2.2 _ q1023) (fun _ h9 => h9) rfl dX12_linearLength_12 ?_
    refine lv_aload_n X.1 X.2.1 dX12_linearLength_15 rfl (lv_at hl 0 rfl) ?_
    refine va_get (D := g.1) (ci := 11) (v := .int (nI n)) (C := RX12) (T := TX12) (N := 26) X.1 X.2.1 X.2.2.2.2 iwX12 X.2.2.2.1 hK hP 0 rfl rfl 1 (by decide) (X.2.2.2.2 _ q1021) (fun _ h9 => h9) rfl dX12_linearLength_16 ?_
    refine n_add X dX12_linearLength_19 ?_
    refine lv_iconst (v := (nI 1)) X.1 X.2.1 dX12_linearLength_20 (by decide) ?_
    refine n_sub X dX12_linearLength_21 (by omega) ?_
    exact PuI.ret X hr hlk dX12_linearLength_22 (nI_nar _) (by unfold linN; first | (rw [if_pos (by omega)]; done) | (rw [if_neg (by omega)]; done))
  · refine lv_iconst (v := (nI 0)) X.1 X.2.1 dX12_linearLength_7 (by decide) ?_
    refine lv_goto (tgt := 22) X.1 X.2.1 dX12_linearLength_8 (by decide) ?_
    exact PuI.ret X hr hlk dX12_linearLength_22 (nI_nar _) (by unfold linN; first | (rw [if_pos (by omega)]; done) | (rw [if_neg (by omega)]; done))

set_option maxHeartbeats 4000000 in
set_option maxRecDepth 100000 in
theorem m_linearLetter (g : G5) (m0 : Nat) (lt : Nat) (er : Nat) (el : Nat) (cm_ : Nat) (sv : Nat) (md : Nat) (fmm : Nat) (lc : Nat) (lz : Nat) (af : Nat) (pt_ : Nat) (oc : Nat) (ty_ : Nat) (sz_ : Nat) (em : Nat) (k : Nat) (n : Nat) (s : List Nat) (h : List (List Nat)) (c : List Nat) (tk : Bool) (k0 : Nat) (n0 : Nat) (s0 : List Nat) (z : List Nat) (p : List Int) (f : Nat → Int32) (B : Nat) (T : Nat) (x : Int32) (hc : shp k n B T) (hs : s.length ≤ 256) (hf : rep f s) : PuI yX12_linearLetter cX12_linearLetter 2 (some .int) 2 47 g [.ref m0, .int x] [(m0, .inr (11, [.int (nI k), .int (nI n), .ref lt, .int (nI s.length), .ref er, .ref el, .int (nI h.length), .ref cm_, .int (nI c.length), .int (bI tk), .int (nI k0), .int (nI n0), .ref sv, .int (nI s0.length), .ref md, .int (nI z.length), .ref fmm, .ref lc, .ref lz, .ref af, .ref pt_, .int (nI p.length), .ref oc, .ref ty_, .ref sz_, .ref em])), (lt, .inl (g.2.1, 256, .inl f))] (a_linearLetter n s x) := by
  refine PuI.of (by decide +kernel) (Nat.le_of_ble_eq_true rfl) ?_
  intro p_ l_ e_ S_ m_ args below meth co X hr hlk hP hK ls hl
  have X : CallFix p_ m_ co cX12_linearLetter 2 S_ args lw_all RX12 := X
  have hl : lv_has ls 2 [(0, .ref m0), (1, .int x)] := hl
  obtain ⟨hk2, hk4, hn1, hn6, hB, hT, hBT, hT2⟩ := hc.f
  have hB0 : 0 < B := by rw [hBT]; exact Nat.mul_pos (by omega) (by omega)
  have hln : linN n s ≤ 300 := by unfold linN; split <;> omega
  refine lv_iload_n X.1 X.2.1 dX12_linearLetter_0 rfl (lv_at hl 1 rfl) ?_
  refine lv_iconst (v := (nI 0)) X.1 X.2.1 dX12_linearLetter_1 (by decide) ?_
  refine lv_aload_n X.1 X.2.1 dX12_linearLetter_2 rfl (lv_at hl 0 rfl) ?_
  refine (m_linearLength g m0 lt er el cm_ sv md fmm lc lz af pt_ oc ty_ sz_ em k n s h c tk k0 n0 s0 z p B T (by assumption) (by omega)).callV (rest := [.int (nI 0), .int x]) X dX12_linearLetter_3 q1333 tX12_linearLength hK (hP.sub [0] rfl) 0 11 rfl rfl rfl hl ⟨⟨Nat.le_of_ble_eq_true rfl, Nat.le_of_ble_eq_true rfl⟩, Nat.le_of_ble_eq_true rfl, Nat.le_of_ble_eq_true rfl⟩ rfl rfl (Nat.le_of_ble_eq_true rfl) ?_
  refine lv_iconst (v := (nI 1)) X.1 X.2.1 dX12_linearLetter_6 (by decide) ?_
  refine lv_isub X.1 X.2.1 dX12_linearLetter_7 ?_
  refine tp_i (y := (iI (((linN n s : Nat) : Int) - ((1 : Nat) : Int)))) (by first | rw [iI_sub] | rw [nI_iI, nI_iI, iI_sub] | rw [nI_iI, iI_sub]) ?_
  refine (c_inI g x 0 (((linN n s : Nat) : Int) - ((1 : Nat) : Int)) (by omega) (by omega)).callS (rest := []) X dX12_linearLetter_8 q1103 tX12_in hK (hP.sub [] rfl) hl ⟨⟨Nat.le_of_ble_eq_true rfl, Nat.le_of_ble_eq_true rfl⟩, Nat.le_of_ble_eq_true rfl, Nat.le_of_ble_eq_true rfl⟩ rfl rfl (Nat.le_of_ble_eq_true rfl) ?_
  refine b_if_eq (tgt := 23) X dX12_linearLetter_11 (by decide) (fun c11 => ?_) (fun c11 => ?_)
  · have h8 : hasB x (linN n s) = false := by unfold hasB; have := of_decide_eq_false c11; exact decide_eq_false (by omega)
    refine lv_bipush (v := (-2)) X.1 X.2.1 dX12_linearLetter_23 (by decide) ?_
    exact PuI.ret X hr hlk dX12_linearLetter_25 (nI_nar _) (by unfold a_linearLetter; rw [h8]; first | rfl | (rw [xN_N (by omega)]; rfl))
  · have h8 : hasB x (linN n s) = true := by unfold hasB; have := of_decide_eq_true c11; exact decide_eq_true (by omega)
    obtain ⟨j, hj, rfl⟩ := hasB_t h8
    have h0 : 0 < s.length := by unfold linN at hj; split at hj <;> omega
    refine lv_aload_n X.1 X.2.1 dX12_linearLetter_14 rfl (lv_at hl 0 rfl) ?_
    refine lv_iload_n X.1 X.2.1 dX12_linearLetter_15 rfl (lv_at hl 1 rfl) ?_
    refine lv_i2l (v := lN j) X.1 X.2.1 dX12_linearLetter_16 (nI_l (by omega)) ?_
    refine (m_atN g m0 lt er el cm_ sv md fmm lc lz af pt_ oc ty_ sz_ em k n s h c tk k0 n0 s0 z p f j (by omega) (by assumption) (by omega) (by omega)).callV (rest := []) X dX12_linearLetter_17 q1238 tX12_at hK (hP.sub [0, 1] rfl) 0 11 rfl rfl rfl hl ⟨⟨Nat.le_of_ble_eq_true rfl, Nat.le_of_ble_eq_true rfl⟩, Nat.le_of_ble_eq_true rfl, Nat.le_of_ble_eq_true rfl⟩ rfl rfl (Nat.le_of_ble_eq_true rfl) ?_
    refine lv_goto (tgt := 25) X.1 X.2.1 dX12_linearLetter_20 (by decide) ?_
    exact PuI.ret X hr hlk dX12_linearLetter_25 (nI_nar _) (by unfold a_linearLetter; rw [h8]; first | rfl | (rw [xN_N (by omega)]; rfl))

set_option maxHeartbeats 4000000 in
set_option maxRecDepth 100000 in
theorem m_successorLetter (g : G5) (m0 : Nat) (lt : Nat) (er : Nat) (el : Nat) (cm_ : Nat) (sv : Nat) (md : Nat) (fmm : Nat) (lc : Nat) (lz : Nat) (af : Nat) (pt_ : Nat) (oc : Nat) (ty_ : Nat) (sz_ : Nat) (em : Nat) (k : Nat) (n : Nat) (s : List Nat) (h : List (List Nat)) (c : List Nat) (tk : Bool) (k0 : Nat) (n0 : Nat) (s0 : List Nat) (z : List Nat) (p : List Int) (B : Nat) (T : Nat) (x : Int32) (hc : shp k n B T) : PuI yX12_successorLetter cX12_successorLetter 2 (some .int) 4 96 g [.ref m0, .int x] [(m0, .inr (11, [.int (nI k), .int (nI n), .ref lt, .int (nI s.length), .ref er, .ref el, .int (nI h.length), .ref cm_, .int (nI c.length), .int (bI tk), .int (nI k0), .int (nI n0), .ref sv, .int (nI s0.length), .ref md, .int (nI z.length), .ref fmm, .ref lc, .ref lz, .ref af, .ref pt_, .int (nI p.length), .ref oc, .ref ty_, .ref sz_, .ref em]))] (a_successorLetter k n B T x) := by
  refine PuI.of (by decide +kernel) (Nat.le_of_ble_eq_true rfl) ?_
  intro p_ l_ e_ S_ m_ args below meth co X hr hlk hP hK ls hl
  have X : CallFix p_ m_ co cX12_successorLetter 2 S_ args lw_all RX12 := X
  have hl : lv_has ls 2 [(0, .ref m0), (1, .int x)] := hl
  obtain ⟨hk2, hk4, hn1, hn6, hB, hT, hBT, hT2⟩ := hc.f
  have hB0 : 0 < B := by rw [hBT]; exact Nat.mul_pos (by omega) (by omega)
  refine lv_aload_n X.1 X.2.1 dX12_successorLetter_0 rfl (lv_at hl 0 rfl) ?_
  refine lv_iload_n X.1 X.2.1 dX12_successorLetter_1 rfl (lv_at hl 1 rfl) ?_
  refine (m_isBlock g m0 lt er el cm_ sv md fmm lc lz af pt_ oc ty_ sz_ em k n s h c tk k0 n0 s0 z p B T x (by assumption)).callV (rest := []) X dX12_successorLetter_2 q1309 tX12_isBlock hK (hP.sub [0] rfl) 0 11 rfl rfl rfl hl ⟨⟨Nat.le_of_ble_eq_true rfl, Nat.le_of_ble_eq_true rfl⟩, Nat.le_of_ble_eq_true rfl, Nat.le_of_ble_eq_true rfl⟩ rfl rfl (Nat.le_of_ble_eq_true rfl) ?_
  refine b_if_eq (tgt := 16) X dX12_successorLetter_5 (by decide) (fun c5 => ?_) (fun c5 => ?_)
  · refine lv_iconst (v := (-1)) X.1 X.2.1 dX12_successorLetter_16 (by decide) ?_
    exact PuI.ret X hr hlk dX12_successorLetter_17 (nI_nar _) (by unfold a_successorLetter; rw [c5]; first | rfl | (rw [xN_N (by omega)]; rfl))
  · obtain ⟨j, hj, rfl⟩ := hasB_t c5
    refine lv_aload_n X.1 X.2.1 dX12_successorLetter_8 rfl (lv_at hl 0 rfl) ?_
    refine lv_iload_n X.1 X.2.1 dX12_successorLetter_9 rfl (lv_at hl 1 rfl) ?_
    refine (m_successor g m0 lt er el cm_ sv md fmm lc lz af pt_ oc ty_ sz_ em k n s h c tk k0 n0 s0 z p B T j (by assumption) (by omega)).callV (rest := []) X dX12_successorLetter_10 q1178 tX12_successor hK (hP.sub [0] rfl) 0 11 rfl rfl rfl hl ⟨⟨Nat.le_of_ble_eq_true rfl, Nat.le_of_ble_eq_true rfl⟩, Nat.le_of_ble_eq_true rfl, Nat.le_of_ble_eq_true rfl⟩ rfl rfl (Nat.le_of_ble_eq_true rfl) ?_
    refine lv_goto (tgt := 17) X.1 X.2.1 dX12_successorLetter_13 (by decide) ?_
    exact PuI.ret X hr hlk dX12_successorLetter_17 (nI_nar _) (by unfold a_successorLetter; rw [c5]; first | rfl | (rw [xN_N (by omega)]; rfl))

set_option maxHeartbeats 4000000 in
set_option maxRecDepth 100000 in
theorem m_follow (g : G5) (m0 : Nat) (lt : Nat) (er : Nat) (el : Nat) (cm_ : Nat) (sv : Nat) (md : Nat) (fmm : Nat) (lc : Nat) (lz : Nat) (af : Nat) (pt_ : Nat) (oc : Nat) (ty_ : Nat) (sz_ : Nat) (em : Nat) (k : Nat) (n : Nat) (s : List Nat) (h : List (List Nat)) (c : List Nat) (tk : Bool) (k0 : Nat) (n0 : Nat) (s0 : List Nat) (z : List Nat) (p : List Int) (B : Nat) (T : Nat) (x : Int32) (y : Int32) (hc : shp k n B T) : PuI yX12_follow cX12_follow 5 (some .int) 5 117 g [.ref m0, .int x, .int y] [(m0, .inr (11, [.int (nI k), .int (nI n), .ref lt, .int (nI s.length), .ref er, .ref el, .int (nI h.length), .ref cm_, .int (nI c.length), .int (bI tk), .int (nI k0), .int (nI n0), .ref sv, .int (nI s0.length), .ref md, .int (nI z.length), .ref fmm, .ref lc, .ref lz, .ref af, .ref pt_, .int (nI p.length), .ref oc, .ref ty_, .ref sz_, .ref em]))] (a_follow k n B T x y) := by
  refine PuI.of (by decide +kernel) (Nat.le_of_ble_eq_true rfl) ?_
  intro p_ l_ e_ S_ m_ args below meth co X hr hlk hP hK ls hl
  have X : CallFix p_ m_ co cX12_follow 5 S_ args lw_all RX12 := X
  have hl : lv_has ls 5 [(0, .ref m0), (1, .int x), (2, .int y)] := hl
  obtain ⟨hk2, hk4, hn1, hn6, hB, hT, hBT, hT2⟩ := hc.f
  have hB0 : 0 < B := by rw [hBT]; exact Nat.mul_pos (by omega) (by omega)
  refine lv_aload_n X.1 X.2.1 dX12_follow_0 rfl (lv_at hl 0 rfl) ?_
  refine lv_iload_n X.1 X.2.1 dX12_follow_1 rfl (lv_at hl 1 rfl) ?_
  refine (m_isBlock g m0 lt er el cm_ sv md fmm lc lz af pt_ oc ty_ sz_ em k n s h c tk k0 n0 s0 z p B T x (by assumption)).callV (rest := []) X dX12_follow_2 q1309 tX12_isBlock hK (hP.sub [0] rfl) 0 11 rfl rfl rfl hl ⟨⟨Nat.le_of_ble_eq_true rfl, Nat.le_of_ble_eq_true rfl⟩, Nat.le_of_ble_eq_true rfl, Nat.le_of_ble_eq_true rfl⟩ rfl rfl (Nat.le_of_ble_eq_true rfl) ?_
  refine b_if_eq (tgt := 19) X dX12_follow_5 (by decide) (fun c5 => ?_) (fun c5 => ?_)
  · refine lv_iconst (v := (-1)) X.1 X.2.1 dX12_follow_19 (by decide) ?_
    exact PuI.ret X hr hlk dX12_follow_20 (nI_nar _) (by unfold a_follow; first | (rw [c5]; rfl) | (rw [show hasB y 301 = false from by unfold hasB; have := of_decide_eq_false c16; exact decide_eq_false (by omega), Bool.and_false]; rfl))
  · obtain ⟨j, hj, rfl⟩ := hasB_t c5
    refine lv_iload_n X.1 X.2.1 dX12_follow_8 rfl (lv_at hl 2 rfl) ?_
    refine lv_iconst (v := (nI 0)) X.1 X.2.1 dX12_follow_9 (by decide) ?_
    refine lv_sipush (v := (nI 300)) X.1 X.2.1 dX12_follow_10 (by decide) ?_
    refine (c_inN g y 0 300 (by omega) (by omega)).callS (rest := []) X dX12_follow_13 q1103 tX12_in hK (hP.sub [] rfl) hl ⟨⟨Nat.le_of_ble_eq_true rfl, Nat.le_of_ble_eq_true rfl⟩, Nat.le_of_ble_eq_true rfl, Nat.le_of_ble_eq_true rfl⟩ rfl rfl (Nat.le_of_ble_eq_true rfl) ?_
    refine b_if_ne (tgt := 21) X dX12_follow_16 (by decide) (fun c16 => ?_) (fun c16 => ?_)
    · have h9 : hasB y 301 = true := by unfold hasB; have := of_decide_eq_true c16; exact decide_eq_true (by omega)
      obtain ⟨m, hm, rfl⟩ := hasB_t h9
      refine lv_iload_n X.1 X.2.1 dX12_follow_21 rfl (lv_at hl 1 rfl) ?_
      refine lv_istore_n (lv' := [(3, .int (nI j)), (0, .ref m0), (1, .int (nI j)), (2, .int (nI m))]) X.1 X.2.1 dX12_follow_22 rfl hl (by decide) rfl (fun ls hl => ?_)
      refine lv_iconst (v := (nI 0)) X.1 X.2.1 dX12_follow_23 (by decide) ?_
      refine lv_istore (lv' := [(4, .int (nI 0)), (3, .int (nI j)), (0, .ref m0), (1, .int (nI j)), (2, .int (nI m))]) X.1 X.2.1 dX12_follow_24 hl (by decide) rfl (fun ls hl => ?_)
      have L26 : ∀ (r : Nat) (t : Nat) (i : Nat) (h1 : i + r = m) (ht : t < B) (hq : folL k T n r t = folL k T n m j) (ls : Array Slot) (hl : lv_has ls 5 [(4, .int (nI i)), (3, .int (nI t)), (0, .ref m0), (1, .int (nI j)), (2, .int (nI m))]), W p_ l_ e_ { frames := 5, cells := 0, slots := 0, locals := 117 } S_ m_ args below meth co S_.heap [] 0 0 (MQ below (vp_Si (fun r => r = (a_follow k n B T (nI j) (nI m)))) args S_ 0 0 (fun _ => False)) (F0 m_ 26 ls []) := by
        intro r
        induction r with
        | zero =>
          intro t i h1 ht hq ls hl
          refine lv_iload X.1 X.2.1 dX12_follow_26 (lv_at hl 0 rfl) ?_
          refine lv_iload_n X.1 X.2.1 dX12_follow_28 rfl (lv_at hl 4 rfl) ?_
          refine z_icmp_ge (tgt := 44) X dX12_follow_29 (by decide) (nI_toInt (by omega)) (nI_toInt (by omega)) (fun c29 => ?_) (fun c29 => ?_)
          · refine lv_iload_n X.1 X.2.1 dX12_follow_44 rfl (lv_at hl 1 rfl) ?_
            exact PuI.ret X hr hlk dX12_follow_45 (nI_nar _) (by unfold a_follow; rw [c5, h9, xN_N (by omega), xN_N (by omega)]; exact congrArg nI hq)
          · exfalso; omega
        | succ r ih26 =>
          intro t i h1 ht hq ls hl
          refine lv_iload X.1 X.2.1 dX12_follow_26 (lv_at hl 0 rfl) ?_
          refine lv_iload_n X.1 X.2.1 dX12_follow_28 rfl (lv_at hl 4 rfl) ?_
          refine z_icmp_ge (tgt := 44) X dX12_follow_29 (by decide) (nI_toInt (by omega)) (nI_toInt (by omega)) (fun c29 => ?_) (fun c29 => ?_)
          · exfalso; omega
          · refine lv_aload_n X.1 X.2.1 dX12_follow_32 rfl (lv_at hl 2 rfl) ?_
            refine lv_iload_n X.1 X.2.1 dX12_follow_33 rfl (lv_at hl 1 rfl) ?_
            refine (m_next g m0 lt er el cm_ sv md fmm lc lz af pt_ oc ty_ sz_ em k n s h c tk k0 n0 s0 z p B T t (by assumption) (by omega)).callV (rest := []) X dX12_follow_34 q1182 tX12_next hK (hP.sub [0] rfl) 0 11 rfl rfl rfl hl ⟨⟨Nat.le_of_ble_eq_true rfl, Nat.le_of_ble_eq_true rfl⟩, Nat.le_of_ble_eq_true rfl, Nat.le_of_ble_eq_true rfl⟩ rfl rfl (Nat.le_of_ble_eq_true rfl) ?_
            have hF := suc_lt hc ht
            have hF2 := suc_ended hc (md_lt hc t) hF
            refine lv_istore_n (lv' := [(3, .int (nI (t % T * k + sucN k T n t))), (4, .int (nI i)), (0, .ref m0), (1, .int (nI j)), (2, .int (nI m))]) X.1 X.2.1 dX12_follow_37 rfl hl (by decide) rfl (fun ls hl => ?_)
            refine lv_iinc (v := (nI (i + 1))) (lv' := [(4, .int (nI (i + 1))), (3, .int (nI (t % T * k + sucN k T n t))), (0, .ref m0), (1, .int (nI j)), (2, .int (nI m))]) X.1 X.2.1 dX12_follow_38 hl (k := 1) rfl (nI_inc _) (by decide) rfl (fun ls hl => ?_)
            refine lv_goto (tgt := 26) X.1 X.2.1 dX12_follow_41 (by decide) ?_
            exact ih26 (t % T * k + sucN k T n t) (i + 1) (by omega) (hF2) (by rw [folL] at hq; exact hq) ls (lv_sub hl [0, 1, 2, 3, 4] rfl)
      exact L26 m j 0 (by omega) (by omega) (rfl) ls (lv_sub hl [0, 1, 2, 3, 4] rfl)
    · refine lv_iconst (v := (-1)) X.1 X.2.1 dX12_follow_19 (by decide) ?_
      exact PuI.ret X hr hlk dX12_follow_20 (nI_nar _) (by unfold a_follow; first | (rw [c5]; rfl) | (rw [show hasB y 301 = false from by unfold hasB; have := of_decide_eq_false c16; exact decide_eq_false (by omega), Bool.and_false]; rfl))

set_option maxHeartbeats 4000000 in
set_option maxRecDepth 100000 in
theorem m_isNecklace (g : G5) (m0 : Nat) (lt : Nat) (er : Nat) (el : Nat) (cm_ : Nat) (sv : Nat) (md : Nat) (fmm : Nat) (lc : Nat) (lz : Nat) (af : Nat) (pt_ : Nat) (oc : Nat) (ty_ : Nat) (sz_ : Nat) (em : Nat) (k : Nat) (n : Nat) (s : List Nat) (h : List (List Nat)) (c : List Nat) (tk : Bool) (k0 : Nat) (n0 : Nat) (s0 : List Nat) (z : List Nat) (p : List Int) (B : Nat) (T : Nat) (x : Int32) (hc : shp k n B T) : PuI yX12_isNecklace cX12_isNecklace 2 (some .int) 3 71 g [.ref m0, .int x] [(m0, .inr (11, [.int (nI k), .int (nI n), .ref lt, .int (nI s.length), .ref er, .ref el, .int (nI h.length), .ref cm_, .int (nI c.length), .int (bI tk), .int (nI k0), .int (nI n0), .ref sv, .int (nI s0.length), .ref md, .int (nI z.length), .ref fmm, .ref lc, .ref lz, .ref af, .ref pt_, .int (nI p.length), .ref oc, .ref ty_, .ref sz_, .ref em]))] (a_isNecklace k n B T x) := by
  refine PuI.of (by decide +kernel) (Nat.le_of_ble_eq_true rfl) ?_
  intro p_ l_ e_ S_ m_ args below meth co X hr hlk hP hK ls hl
  have X : CallFix p_ m_ co cX12_isNecklace 2 S_ args lw_all RX12 := X
  have hl : lv_has ls 2 [(0, .ref m0), (1, .int x)] := hl
  obtain ⟨hk2, hk4, hn1, hn6, hB, hT, hBT, hT2⟩ := hc.f
  have hB0 : 0 < B := by rw [hBT]; exact Nat.mul_pos (by omega) (by omega)
  refine lv_aload_n X.1 X.2.1 dX12_isNecklace_0 rfl (lv_at hl 0 rfl) ?_
  refine lv_iload_n X.1 X.2.1 dX12_isNecklace_1 rfl (lv_at hl 1 rfl) ?_
  refine (m_isBlock g m0 lt er el cm_ sv md fmm lc lz af pt_ oc ty_ sz_ em k n s h c tk k0 n0 s0 z p B T x (by assumption)).callV (rest := []) X dX12_isNecklace_2 q1309 tX12_isBlock hK (hP.sub [0] rfl) 0 11 rfl rfl rfl hl ⟨⟨Nat.le_of_ble_eq_true rfl, Nat.le_of_ble_eq_true rfl⟩, Nat.le_of_ble_eq_true rfl, Nat.le_of_ble_eq_true rfl⟩ rfl rfl (Nat.le_of_ble_eq_true rfl) ?_
  refine b_if_ne (tgt := 12) X dX12_isNecklace_5 (by decide) (fun c5 => ?_) (fun c5 => ?_)
  · obtain ⟨j, hj, rfl⟩ := hasB_t c5
    refine lv_aload_n X.1 X.2.1 dX12_isNecklace_12 rfl (lv_at hl 0 rfl) ?_
    refine lv_iload_n X.1 X.2.1 dX12_isNecklace_13 rfl (lv_at hl 1 rfl) ?_
    refine lv_aload_n X.1 X.2.1 dX12_isNecklace_14 rfl (lv_at hl 0 rfl) ?_
    refine va_get (D := g.1) (ci := 11) (v := .int (nI n)) (C := RX12) (T := TX12) (N := 26) X.1 X.2.1 X.2.2.2.2 iwX12 X.2.2.2.1 hK hP 0 rfl rfl 1 (by decide) (X.2.2.2.2 _ q1021) (fun _ h9 => h9) rfl dX12_isNecklace_15 ?_
    have hls := (turn_at hc hj).2.2
    have hlr : lrN k T n j < B := lr_lt hj
    refine (m_leastRotation g m0 lt er el cm_ sv md fmm lc lz af pt_ oc ty_ sz_ em k n s h c tk k0 n0 s0 z p n B T j (hc) (by omega)).callV (rest := []) X dX12_isNecklace_18 q1153 tX12_leastRotation hK (hP.sub [0] rfl) 0 11 rfl rfl rfl hl ⟨⟨Nat.le_of_ble_eq_true rfl, Nat.le_of_ble_eq_true rfl⟩, Nat.le_of_ble_eq_true rfl, Nat.le_of_ble_eq_true rfl⟩ rfl rfl (Nat.le_of_ble_eq_true rfl) ?_
    refine lv_iload_n X.1 X.2.1 dX12_isNecklace_21 rfl (lv_at hl 1 rfl) ?_
    refine z_icmp_ne (tgt := 29) X dX12_isNecklace_22 (by decide) (nI_toInt (by omega)) (nI_toInt (by omega)) (fun c22 => ?_) (fun c22 => ?_)
    · refine lv_iconst (v := (nI 0)) X.1 X.2.1 dX12_isNecklace_29 (by decide) ?_
      exact PuI.ret X hr hlk dX12_isNecklace_30 (nI_nar _) (by unfold a_isNecklace; rw [c5]; first | rfl | (rw [xN_N (by omega), hls]; first | (rw [decide_eq_true (by omega)]; rfl) | (rw [decide_eq_false (by omega)]; rfl)))
    · refine lv_iconst (v := (nI 1)) X.1 X.2.1 dX12_isNecklace_25 (by decide) ?_
      refine lv_goto (tgt := 30) X.1 X.2.1 dX12_isNecklace_26 (by decide) ?_
      exact PuI.ret X hr hlk dX12_isNecklace_30 (nI_nar _) (by unfold a_isNecklace; rw [c5]; first | rfl | (rw [xN_N (by omega), hls]; first | (rw [decide_eq_true (by omega)]; rfl) | (rw [decide_eq_false (by omega)]; rfl)))
  · refine lv_iconst (v := (-1)) X.1 X.2.1 dX12_isNecklace_8 (by decide) ?_
    refine lv_goto (tgt := 30) X.1 X.2.1 dX12_isNecklace_9 (by decide) ?_
    exact PuI.ret X hr hlk dX12_isNecklace_30 (nI_nar _) (by unfold a_isNecklace; rw [c5]; first | rfl | (rw [xN_N (by omega), hls]; first | (rw [decide_eq_true (by omega)]; rfl) | (rw [decide_eq_false (by omega)]; rfl)))

set_option maxHeartbeats 4000000 in
set_option maxRecDepth 100000 in
theorem m_necklaceOf (g : G5) (m0 : Nat) (lt : Nat) (er : Nat) (el : Nat) (cm_ : Nat) (sv : Nat) (md : Nat) (fmm : Nat) (lc : Nat) (lz : Nat) (af : Nat) (pt_ : Nat) (oc : Nat) (ty_ : Nat) (sz_ : Nat) (em : Nat) (k : Nat) (n : Nat) (s : List Nat) (h : List (List Nat)) (c : List Nat) (tk : Bool) (k0 : Nat) (n0 : Nat) (s0 : List Nat) (z : List Nat) (p : List Int) (B : Nat) (T : Nat) (x : Int32) (hc : shp k n B T) : PuI yX12_necklaceOf cX12_necklaceOf 2 (some .int) 3 71 g [.ref m0, .int x] [(m0, .inr (11, [.int (nI k), .int (nI n), .ref lt, .int (nI s.length), .ref er, .ref el, .int (nI h.length), .ref cm_, .int (nI c.length), .int (bI tk), .int (nI k0), .int (nI n0), .ref sv, .int (nI s0.length), .ref md, .int (nI z.length), .ref fmm, .ref lc, .ref lz, .ref af, .ref pt_, .int (nI p.length), .ref oc, .ref ty_, .ref sz_, .ref em]))] (a_necklaceOf k n B T x) := by
  refine PuI.of (by decide +kernel) (Nat.le_of_ble_eq_true rfl) ?_
  intro p_ l_ e_ S_ m_ args below meth co X hr hlk hP hK ls hl
  have X : CallFix p_ m_ co cX12_necklaceOf 2 S_ args lw_all RX12 := X
  have hl : lv_has ls 2 [(0, .ref m0), (1, .int x)] := hl
  obtain ⟨hk2, hk4, hn1, hn6, hB, hT, hBT, hT2⟩ := hc.f
  have hB0 : 0 < B := by rw [hBT]; exact Nat.mul_pos (by omega) (by omega)
  refine lv_aload_n X.1 X.2.1 dX12_necklaceOf_0 rfl (lv_at hl 0 rfl) ?_
  refine lv_iload_n X.1 X.2.1 dX12_necklaceOf_1 rfl (lv_at hl 1 rfl) ?_
  refine (m_isBlock g m0 lt er el cm_ sv md fmm lc lz af pt_ oc ty_ sz_ em k n s h c tk k0 n0 s0 z p B T x (by assumption)).callV (rest := []) X dX12_necklaceOf_2 q1309 tX12_isBlock hK (hP.sub [0] rfl) 0 11 rfl rfl rfl hl ⟨⟨Nat.le_of_ble_eq_true rfl, Nat.le_of_ble_eq_true rfl⟩, Nat.le_of_ble_eq_true rfl, Nat.le_of_ble_eq_true rfl⟩ rfl rfl (Nat.le_of_ble_eq_true rfl) ?_
  refine b_if_eq (tgt := 20) X dX12_necklaceOf_5 (by decide) (fun c5 => ?_) (fun c5 => ?_)
  · refine lv_iconst (v := (-1)) X.1 X.2.1 dX12_necklaceOf_20 (by decide) ?_
    exact PuI.ret X hr hlk dX12_necklaceOf_21 (nI_nar _) (by unfold a_necklaceOf; rw [c5]; first | rfl | (rw [xN_N (by omega)]; rfl))
  · obtain ⟨j, hj, rfl⟩ := hasB_t c5
    refine lv_aload_n X.1 X.2.1 dX12_necklaceOf_8 rfl (lv_at hl 0 rfl) ?_
    refine lv_iload_n X.1 X.2.1 dX12_necklaceOf_9 rfl (lv_at hl 1 rfl) ?_
    refine lv_aload_n X.1 X.2.1 dX12_necklaceOf_10 rfl (lv_at hl 0 rfl) ?_
    refine va_get (D := g.1) (ci := 11) (v := .int (nI n)) (C := RX12) (T := TX12) (N := 26) X.1 X.2.1 X.2.2.2.2 iwX12 X.2.2.2.1 hK hP 0 rfl rfl 1 (by decide) (X.2.2.2.2 _ q1021) (fun _ h9 => h9) rfl dX12_necklaceOf_11 ?_
    refine (m_leastRotation g m0 lt er el cm_ sv md fmm lc lz af pt_ oc ty_ sz_ em k n s h c tk k0 n0 s0 z p n B T j (hc) (by omega)).callV (rest := []) X dX12_necklaceOf_14 q1153 tX12_leastRotation hK (hP.sub [0] rfl) 0 11 rfl rfl rfl hl ⟨⟨Nat.le_of_ble_eq_true rfl, Nat.le_of_ble_eq_true rfl⟩, Nat.le_of_ble_eq_true rfl, Nat.le_of_ble_eq_true rfl⟩ rfl rfl (Nat.le_of_ble_eq_true rfl) ?_
    refine lv_goto (tgt := 21) X.1 X.2.1 dX12_necklaceOf_17 (by decide) ?_
    exact PuI.ret X hr hlk dX12_necklaceOf_21 (nI_nar _) (by unfold a_necklaceOf; rw [c5]; first | rfl | (rw [xN_N (by omega)]; rfl))

set_option maxHeartbeats 4000000 in
set_option maxRecDepth 100000 in
theorem m_rotationCount (g : G5) (m0 : Nat) (lt : Nat) (er : Nat) (el : Nat) (cm_ : Nat) (sv : Nat) (md : Nat) (fmm : Nat) (lc : Nat) (lz : Nat) (af : Nat) (pt_ : Nat) (oc : Nat) (ty_ : Nat) (sz_ : Nat) (em : Nat) (k : Nat) (n : Nat) (s : List Nat) (h : List (List Nat)) (c : List Nat) (tk : Bool) (k0 : Nat) (n0 : Nat) (s0 : List Nat) (z : List Nat) (p : List Int) (B : Nat) (T : Nat) (x : Int32) (hc : shp k n B T) : PuI yX12_rotationCount cX12_rotationCount 2 (some .int) 3 70 g [.ref m0, .int x] [(m0, .inr (11, [.int (nI k), .int (nI n), .ref lt, .int (nI s.length), .ref er, .ref el, .int (nI h.length), .ref cm_, .int (nI c.length), .int (bI tk), .int (nI k0), .int (nI n0), .ref sv, .int (nI s0.length), .ref md, .int (nI z.length), .ref fmm, .ref lc, .ref lz, .ref af, .ref pt_, .int (nI p.length), .ref oc, .ref ty_, .ref sz_, .ref em]))] (a_rotationCount k n B T x) := by
  refine PuI.of (by decide +kernel) (Nat.le_of_ble_eq_true rfl) ?_
  intro p_ l_ e_ S_ m_ args below meth co X hr hlk hP hK ls hl
  have X : CallFix p_ m_ co cX12_rotationCount 2 S_ args lw_all RX12 := X
  have hl : lv_has ls 2 [(0, .ref m0), (1, .int x)] := hl
  obtain ⟨hk2, hk4, hn1, hn6, hB, hT, hBT, hT2⟩ := hc.f
  have hB0 : 0 < B := by rw [hBT]; exact Nat.mul_pos (by omega) (by omega)
  refine lv_aload_n X.1 X.2.1 dX12_rotationCount_0 rfl (lv_at hl 0 rfl) ?_
  refine lv_iload_n X.1 X.2.1 dX12_rotationCount_1 rfl (lv_at hl 1 rfl) ?_
  refine (m_isBlock g m0 lt er el cm_ sv md fmm lc lz af pt_ oc ty_ sz_ em k n s h c tk k0 n0 s0 z p B T x (by assumption)).callV (rest := []) X dX12_rotationCount_2 q1309 tX12_isBlock hK (hP.sub [0] rfl) 0 11 rfl rfl rfl hl ⟨⟨Nat.le_of_ble_eq_true rfl, Nat.le_of_ble_eq_true rfl⟩, Nat.le_of_ble_eq_true rfl, Nat.le_of_ble_eq_true rfl⟩ rfl rfl (Nat.le_of_ble_eq_true rfl) ?_
  refine b_if_eq (tgt := 20) X dX12_rotationCount_5 (by decide) (fun c5 => ?_) (fun c5 => ?_)
  · refine lv_iconst (v := (-1)) X.1 X.2.1 dX12_rotationCount_20 (by decide) ?_
    exact PuI.ret X hr hlk dX12_rotationCount_21 (nI_nar _) (by unfold a_rotationCount; rw [c5]; first | rfl | (rw [xN_N (by omega)]; rfl))
  · obtain ⟨j, hj, rfl⟩ := hasB_t c5
    refine lv_aload_n X.1 X.2.1 dX12_rotationCount_8 rfl (lv_at hl 0 rfl) ?_
    refine lv_iload_n X.1 X.2.1 dX12_rotationCount_9 rfl (lv_at hl 1 rfl) ?_
    refine lv_aload_n X.1 X.2.1 dX12_rotationCount_10 rfl (lv_at hl 0 rfl) ?_
    refine va_get (D := g.1) (ci := 11) (v := .int (nI n)) (C := RX12) (T := TX12) (N := 26) X.1 X.2.1 X.2.2.2.2 iwX12 X.2.2.2.1 hK hP 0 rfl rfl 1 (by decide) (X.2.2.2.2 _ q1021) (fun _ h9 => h9) rfl dX12_rotationCount_11 ?_
    refine (m_rotations g m0 lt er el cm_ sv md fmm lc lz af pt_ oc ty_ sz_ em k n s h c tk k0 n0 s0 z p n B T j (hc) (by omega)).callV (rest := []) X dX12_rotationCount_14 q1162 tX12_rotations hK (hP.sub [0] rfl) 0 11 rfl rfl rfl hl ⟨⟨Nat.le_of_ble_eq_true rfl, Nat.le_of_ble_eq_true rfl⟩, Nat.le_of_ble_eq_true rfl, Nat.le_of_ble_eq_true rfl⟩ rfl rfl (Nat.le_of_ble_eq_true rfl) ?_
    refine lv_goto (tgt := 21) X.1 X.2.1 dX12_rotationCount_17 (by decide) ?_
    exact PuI.ret X hr hlk dX12_rotationCount_21 (nI_nar _) (by unfold a_rotationCount; rw [c5]; first | rfl | (rw [xN_N (by omega)]; rfl))

set_option maxHeartbeats 4000000 in
set_option maxRecDepth 100000 in
theorem m_necklace (g : G5) (m0 : Nat) (lt : Nat) (er : Nat) (el : Nat) (cm_ : Nat) (sv : Nat) (md : Nat) (fmm : Nat) (lc : Nat) (lz : Nat) (af : Nat) (pt_ : Nat) (oc : Nat) (ty_ : Nat) (sz_ : Nat) (em : Nat) (k : Nat) (n : Nat) (s : List Nat) (h : List (List Nat)) (c : List Nat) (tk : Bool) (k0 : Nat) (n0 : Nat) (s0 : List Nat) (z : List Nat) (p : List Int) (B : Nat) (T : Nat) (x : Int32) (hc : shp k n B T) : PuI yX12_necklace cX12_necklace 4 (some .int) 3 71 g [.ref m0, .int x] [(m0, .inr (11, [.int (nI k), .int (nI n), .ref lt, .int (nI s.length), .ref er, .ref el, .int (nI h.length), .ref cm_, .int (nI c.length), .int (bI tk), .int (nI k0), .int (nI n0), .ref sv, .int (nI s0.length), .ref md, .int (nI z.length), .ref fmm, .ref lc, .ref lz, .ref af, .ref pt_, .int (nI p.length), .ref oc, .ref ty_, .ref sz_, .ref em]))] (nthL (leastB k T n) x.toInt B 0 0) := by
  refine PuI.of (by decide +kernel) (Nat.le_of_ble_eq_true rfl) ?_
  intro p_ l_ e_ S_ m_ args below meth co X hr hlk hP hK ls hl
  have X : CallFix p_ m_ co cX12_necklace 4 S_ args lw_all RX12 := X
  have hl : lv_has ls 4 [(0, .ref m0), (1, .int x)] := hl
  obtain ⟨hk2, hk4, hn1, hn6, hB, hT, hBT, hT2⟩ := hc.f
  have hB0 : 0 < B := by rw [hBT]; exact Nat.mul_pos (by omega) (by omega)
  have hxr := z_rng x
  refine lv_iload_n X.1 X.2.1 dX12_necklace_0 rfl (lv_at hl 1 rfl) ?_
  refine tp_i (y := (iI (x.toInt - ((0 : Nat) : Int)))) (z_sub0 _) ?_
  refine lv_istore_n (lv' := [(2, .int (iI (x.toInt - ((0 : Nat) : Int)))), (0, .ref m0), (1, .int x)]) X.1 X.2.1 dX12_necklace_1 rfl hl (by decide) rfl (fun ls hl => ?_)
  refine lv_iconst (v := (nI 0)) X.1 X.2.1 dX12_necklace_2 (by decide) ?_
  refine lv_istore_n (lv' := [(3, .int (nI 0)), (2, .int (iI (x.toInt - ((0 : Nat) : Int)))), (0, .ref m0), (1, .int x)]) X.1 X.2.1 dX12_necklace_3 rfl hl (by decide) rfl (fun ls hl => ?_)
  have L4 : ∀ (r : Nat) (v : Nat) (i : Nat) (h1 : i + r = B) (h2 : v ≤ i) (hv : ((v : Nat) : Int) ≤ x.toInt ∨ v = 0) (hq : nthL (leastB k T n) x.toInt r i v = nthL (leastB k T n) x.toInt B 0 0) (ls : Array Slot) (hl : lv_has ls 4 [(3, .int (nI i)), (2, .int (iI (x.toInt - ((v : Nat) : Int)))), (0, .ref m0), (1, .int x)]), W p_ l_ e_ { frames := 3, cells := 0, slots := 0, locals := 71 } S_ m_ args below meth co S_.heap [] 0 0 (MQ below (vp_Si (fun r => r = (nthL (leastB k T n) x.toInt B 0 0))) args S_ 0 0 (fun _ => False)) (F0 m_ 4 ls []) := by
    intro r
    induction r with
    | zero =>
      intro v i h1 h2 hv hq ls hl
      refine lv_iload_n X.1 X.2.1 dX12_necklace_4 rfl (lv_at hl 0 rfl) ?_
      refine lv_aload_n X.1 X.2.1 dX12_necklace_5 rfl (lv_at hl 2 rfl) ?_
      refine (m_blocks g m0 lt er el cm_ sv md fmm lc lz af pt_ oc ty_ sz_ em k n s h c tk k0 n0 s0 z p B T (by assumption)).callV (rest := [.int (nI i)]) X dX12_necklace_6 q1109 tX12_blocks hK (hP.sub [0] rfl) 0 11 rfl rfl rfl hl ⟨⟨Nat.le_of_ble_eq_true rfl, Nat.le_of_ble_eq_true rfl⟩, Nat.le_of_ble_eq_true rfl, Nat.le_of_ble_eq_true rfl⟩ rfl rfl (Nat.le_of_ble_eq_true rfl) ?_
      refine z_icmp_ge (tgt := 44) X dX12_necklace_9 (by decide) (nI_toInt (by omega)) (nI_toInt (by omega)) (fun c9 => ?_) (fun c9 => ?_)
      · refine lv_bipush (v := (-2)) X.1 X.2.1 dX12_necklace_44 (by decide) ?_
        exact PuI.ret X hr hlk dX12_necklace_46 (nI_nar _) (by first | (rw [nthL_neg (by omega)]; done) | (rw [← hq]; rfl))
      · exfalso; omega
    | succ r ih4 =>
      intro v i h1 h2 hv hq ls hl
      refine lv_iload_n X.1 X.2.1 dX12_necklace_4 rfl (lv_at hl 0 rfl) ?_
      refine lv_aload_n X.1 X.2.1 dX12_necklace_5 rfl (lv_at hl 2 rfl) ?_
      refine (m_blocks g m0 lt er el cm_ sv md fmm lc lz af pt_ oc ty_ sz_ em k n s h c tk k0 n0 s0 z p B T (by assumption)).callV (rest := [.int (nI i)]) X dX12_necklace_6 q1109 tX12_blocks hK (hP.sub [0] rfl) 0 11 rfl rfl rfl hl ⟨⟨Nat.le_of_ble_eq_true rfl, Nat.le_of_ble_eq_true rfl⟩, Nat.le_of_ble_eq_true rfl, Nat.le_of_ble_eq_true rfl⟩ rfl rfl (Nat.le_of_ble_eq_true rfl) ?_
      refine z_icmp_ge (tgt := 44) X dX12_necklace_9 (by decide) (nI_toInt (by omega)) (nI_toInt (by omega)) (fun c9 => ?_) (fun c9 => ?_)
      · exfalso; omega
      · refine lv_iload_n X.1 X.2.1 dX12_necklace_12 rfl (lv_at hl 3 rfl) ?_
        refine z_if_lt (tgt := 44) X dX12_necklace_13 (by decide) rfl (fun c13 => ?_) (fun c13 => ?_)
        · refine lv_bipush (v := (-2)) X.1 X.2.1 dX12_necklace_44 (by decide) ?_
          exact PuI.ret X hr hlk dX12_necklace_46 (nI_nar _) (by first | (rw [nthL_neg (by omega)]; done) | (rw [← hq]; rfl))
        · refine lv_aload_n X.1 X.2.1 dX12_necklace_16 rfl (lv_at hl 2 rfl) ?_
          refine lv_iload_n X.1 X.2.1 dX12_necklace_17 rfl (lv_at hl 0 rfl) ?_
          refine lv_aload_n X.1 X.2.1 dX12_necklace_18 rfl (lv_at hl 2 rfl) ?_
          refine va_get (D := g.1) (ci := 11) (v := .int (nI n)) (C := RX12) (T := TX12) (N := 26) X.1 X.2.1 X.2.2.2.2 iwX12 X.2.2.2.1 hK hP 0 rfl rfl 1 (by decide) (X.2.2.2.2 _ q1021) (fun _ h9 => h9) rfl dX12_necklace_19 ?_
          have hls := (turn_at hc (b := i) (by omega)).2.2
          have hlr : lrN k T n i < B := lr_lt (by omega)
          refine (m_leastRotation g m0 lt er el cm_ sv md fmm lc lz af pt_ oc ty_ sz_ em k n s h c tk k0 n0 s0 z p n B T i (hc) (by omega)).callV (rest := []) X dX12_necklace_22 q1153 tX12_leastRotation hK (hP.sub [0] rfl) 0 11 rfl rfl rfl hl ⟨⟨Nat.le_of_ble_eq_true rfl, Nat.le_of_ble_eq_true rfl⟩, Nat.le_of_ble_eq_true rfl, Nat.le_of_ble_eq_true rfl⟩ rfl rfl (Nat.le_of_ble_eq_true rfl) ?_
          refine lv_iload_n X.1 X.2.1 dX12_necklace_25 rfl (lv_at hl 0 rfl) ?_
          refine z_icmp_ne (tgt := 38) X dX12_necklace_26 (by decide) (nI_toInt (by omega)) (nI_toInt (by omega)) (fun c26 => ?_) (fun c26 => ?_)
          · refine lv_iinc (v := (nI (i + 1))) (lv' := [(3, .int (nI (i + 1))), (2, .int (iI (x.toInt - ((v : Nat) : Int)))), (0, .ref m0), (1, .int x)]) X.1 X.2.1 dX12_necklace_38 hl (k := 0) rfl (nI_inc _) (by decide) rfl (fun ls hl => ?_)
            refine lv_goto (tgt := 4) X.1 X.2.1 dX12_necklace_41 (by decide) ?_
            exact ih4 v (i + 1) (by omega) (by omega) (by omega) (by first | (rw [nthL, hls, decide_eq_true (by omega), if_pos rfl, if_neg (by omega)] at hq; exact hq) | (rw [nthL, hls, decide_eq_false (by omega), if_neg (by decide)] at hq; exact hq)) ls (lv_sub hl [0, 1, 2, 3] rfl)
          · refine lv_iload_n X.1 X.2.1 dX12_necklace_29 rfl (lv_at hl 1 rfl) ?_
            refine z_if_ne (tgt := 35) X dX12_necklace_30 (by decide) (iI_toInt (by omega) (by omega)) (fun c30 => ?_) (fun c30 => ?_)
            · refine lv_iinc (v := (iI (x.toInt - ((v + 1 : Nat) : Int)))) (lv' := [(2, .int (iI (x.toInt - ((v + 1 : Nat) : Int)))), (3, .int (nI i)), (0, .ref m0), (1, .int x)]) X.1 X.2.1 dX12_necklace_35 hl (k := 1) rfl (iI_inc _ _ _ (by omega)) (by decide) rfl (fun ls hl => ?_)
              refine lv_iinc (v := (nI (i + 1))) (lv' := [(3, .int (nI (i + 1))), (2, .int (iI (x.toInt - ((v + 1 : Nat) : Int)))), (0, .ref m0), (1, .int x)]) X.1 X.2.1 dX12_necklace_38 hl (k := 1) rfl (nI_inc _) (by decide) rfl (fun ls hl => ?_)
              refine lv_goto (tgt := 4) X.1 X.2.1 dX12_necklace_41 (by decide) ?_
              exact ih4 (v + 1) (i + 1) (by omega) (by omega) (by omega) (by first | (rw [nthL, hls, decide_eq_true (by omega), if_pos rfl, if_neg (by omega)] at hq; exact hq) | (rw [nthL, hls, decide_eq_false (by omega), if_neg (by decide)] at hq; exact hq)) ls (lv_sub hl [0, 1, 2, 3] rfl)
            · refine lv_iload_n X.1 X.2.1 dX12_necklace_33 rfl (lv_at hl 0 rfl) ?_
              exact PuI.ret X hr hlk dX12_necklace_34 (nI_nar _) (by rw [nthL, hls, decide_eq_true (by omega), if_pos rfl, if_pos (by omega)] at hq; exact hq)
  exact L4 B 0 0 (by omega) (by omega) (by omega) (rfl) ls (lv_sub hl [0, 1, 2, 3] rfl)

set_option maxHeartbeats 4000000 in
set_option maxRecDepth 100000 in
theorem m_lyndonCount (g : G5) (m0 : Nat) (lt : Nat) (er : Nat) (el : Nat) (cm_ : Nat) (sv : Nat) (md : Nat) (fmm : Nat) (lc : Nat) (lz : Nat) (af : Nat) (pt_ : Nat) (oc : Nat) (ty_ : Nat) (sz_ : Nat) (em : Nat) (k : Nat) (n : Nat) (s : List Nat) (h : List (List Nat)) (c : List Nat) (tk : Bool) (k0 : Nat) (n0 : Nat) (s0 : List Nat) (z : List Nat) (p : List Int) (B : Nat) (T : Nat) (x : Int32) (hc : shp k n B T) : PuI yX12_lyndonCount cX12_lyndonCount 4 (some .int) 4 93 g [.ref m0, .int x] [(m0, .inr (11, [.int (nI k), .int (nI n), .ref lt, .int (nI s.length), .ref er, .ref el, .int (nI h.length), .ref cm_, .int (nI c.length), .int (bI tk), .int (nI k0), .int (nI n0), .ref sv, .int (nI s0.length), .ref md, .int (nI z.length), .ref fmm, .ref lc, .ref lz, .ref af, .ref pt_, .int (nI p.length), .ref oc, .ref ty_, .ref sz_, .ref em]))] (a_lyndonCount k n x) := by
  refine PuI.of (by decide +kernel) (Nat.le_of_ble_eq_true rfl) ?_
  intro p_ l_ e_ S_ m_ args below meth co X hr hlk hP hK ls hl
  have X : CallFix p_ m_ co cX12_lyndonCount 4 S_ args lw_all RX12 := X
  have hl : lv_has ls 4 [(0, .ref m0), (1, .int x)] := hl
  obtain ⟨hk2, hk4, hn1, hn6, hB, hT, hBT, hT2⟩ := hc.f
  have hB0 : 0 < B := by rw [hBT]; exact Nat.mul_pos (by omega) (by omega)
  refine lv_iload_n X.1 X.2.1 dX12_lyndonCount_0 rfl (lv_at hl 1 rfl) ?_
  refine lv_iconst (v := (nI 1)) X.1 X.2.1 dX12_lyndonCount_1 (by decide) ?_
  refine lv_aload_n X.1 X.2.1 dX12_lyndonCount_2 rfl (lv_at hl 0 rfl) ?_
  refine va_get (D := g.1) (ci := 11) (v := .int (nI n)) (C := RX12) (T := TX12) (N := 26) X.1 X.2.1 X.2.2.2.2 iwX12 X.2.2.2.1 hK hP 0 rfl rfl 1 (by decide) (X.2.2.2.2 _ q1021) (fun _ h9 => h9) rfl dX12_lyndonCount_3 ?_
  refine (c_inN g x 1 n (by omega) (by omega)).callS (rest := []) X dX12_lyndonCount_6 q1103 tX12_in hK (hP.sub [] rfl) hl ⟨⟨Nat.le_of_ble_eq_true rfl, Nat.le_of_ble_eq_true rfl⟩, Nat.le_of_ble_eq_true rfl, Nat.le_of_ble_eq_true rfl⟩ rfl rfl (Nat.le_of_ble_eq_true rfl) ?_
  refine b_if_ne (tgt := 14) X dX12_lyndonCount_9 (by decide) (fun c9 => ?_) (fun c9 => ?_)
  · have h8 : lenB n x = true := by unfold lenB; have := of_decide_eq_true c9; exact decide_eq_true (by omega)
    obtain ⟨j, hj, hj1, hjn, rfl⟩ := lenB_t h8
    have hcj := shp_sub hc hj1 hjn
    have hpw := pow_le hc hjn
    refine lv_iconst (v := (nI 0)) X.1 X.2.1 dX12_lyndonCount_14 (by decide) ?_
    refine lv_istore_n (lv' := [(2, .int (nI 0)), (0, .ref m0), (1, .int (nI j))]) X.1 X.2.1 dX12_lyndonCount_15 rfl hl (by decide) rfl (fun ls hl => ?_)
    refine lv_iconst (v := (nI 0)) X.1 X.2.1 dX12_lyndonCount_16 (by decide) ?_
    refine lv_istore_n (lv' := [(3, .int (nI 0)), (2, .int (nI 0)), (0, .ref m0), (1, .int (nI j))]) X.1 X.2.1 dX12_lyndonCount_17 rfl hl (by decide) rfl (fun ls hl => ?_)
    have L18 : ∀ (r : Nat) (v : Nat) (i : Nat) (h1 : i + r = k ^ j) (hq : cntL (lynB k j) r i v = cntL (lynB k j) (k ^ j) 0 0) (ls : Array Slot) (hl : lv_has ls 4 [(3, .int (nI i)), (2, .int (nI v)), (0, .ref m0), (1, .int (nI j))]), W p_ l_ e_ { frames := 4, cells := 0, slots := 0, locals := 93 } S_ m_ args below meth co S_.heap [] 0 0 (MQ below (vp_Si (fun r => r = (a_lyndonCount k n (nI j)))) args S_ 0 0 (fun _ => False)) (F0 m_ 18 ls []) := by
      intro r
      induction r with
      | zero =>
        intro v i h1 hq ls hl
        refine lv_iload_n X.1 X.2.1 dX12_lyndonCount_18 rfl (lv_at hl 0 rfl) ?_
        refine lv_aload_n X.1 X.2.1 dX12_lyndonCount_19 rfl (lv_at hl 2 rfl) ?_
        refine va_get (D := g.1) (ci := 11) (v := .int (nI k)) (C := RX12) (T := TX12) (N := 26) X.1 X.2.1 X.2.2.2.2 iwX12 X.2.2.2.1 hK hP 0 rfl rfl 0 (by decide) (X.2.2.2.2 _ q1020) (fun _ h9 => h9) rfl dX12_lyndonCount_20 ?_
        refine lv_iload_n X.1 X.2.1 dX12_lyndonCount_23 rfl (lv_at hl 3 rfl) ?_
        refine (c_mpower g k j (by omega)).callS (rest := [.int (nI i)]) X dX12_lyndonCount_24 q1106 tX12_power hK (hP.sub [] rfl) hl ⟨⟨Nat.le_of_ble_eq_true rfl, Nat.le_of_ble_eq_true rfl⟩, Nat.le_of_ble_eq_true rfl, Nat.le_of_ble_eq_true rfl⟩ rfl rfl (Nat.le_of_ble_eq_true rfl) ?_
        refine z_icmp_ge (tgt := 53) X dX12_lyndonCount_27 (by decide) (nI_toInt (by omega)) (nI_toInt (by omega)) (fun c27 => ?_) (fun c27 => ?_)
        · refine lv_iload_n X.1 X.2.1 dX12_lyndonCount_53 rfl (lv_at hl 1 rfl) ?_
          exact PuI.ret X hr hlk dX12_lyndonCount_54 (nI_nar _) (by unfold a_lyndonCount; rw [h8, xN_N (by omega)]; exact congrArg nI hq)
        · exfalso; omega
      | succ r ih18 =>
        intro v i h1 hq ls hl
        refine lv_iload_n X.1 X.2.1 dX12_lyndonCount_18 rfl (lv_at hl 0 rfl) ?_
        refine lv_aload_n X.1 X.2.1 dX12_lyndonCount_19 rfl (lv_at hl 2 rfl) ?_
        refine va_get (D := g.1) (ci := 11) (v := .int (nI k)) (C := RX12) (T := TX12) (N := 26) X.1 X.2.1 X.2.2.2.2 iwX12 X.2.2.2.1 hK hP 0 rfl rfl 0 (by decide) (X.2.2.2.2 _ q1020) (fun _ h9 => h9) rfl dX12_lyndonCount_20 ?_
        refine lv_iload_n X.1 X.2.1 dX12_lyndonCount_23 rfl (lv_at hl 3 rfl) ?_
        refine (c_mpower g k j (by omega)).callS (rest := [.int (nI i)]) X dX12_lyndonCount_24 q1106 tX12_power hK (hP.sub [] rfl) hl ⟨⟨Nat.le_of_ble_eq_true rfl, Nat.le_of_ble_eq_true rfl⟩, Nat.le_of_ble_eq_true rfl, Nat.le_of_ble_eq_true rfl⟩ rfl rfl (Nat.le_of_ble_eq_true rfl) ?_
        refine z_icmp_ge (tgt := 53) X dX12_lyndonCount_27 (by decide) (nI_toInt (by omega)) (nI_toInt (by omega)) (fun c27 => ?_) (fun c27 => ?_)
        · exfalso; omega
        · refine lv_iload_n X.1 X.2.1 dX12_lyndonCount_30 rfl (lv_at hl 1 rfl) ?_
          refine lv_aload_n X.1 X.2.1 dX12_lyndonCount_31 rfl (lv_at hl 2 rfl) ?_
          refine lv_iload_n X.1 X.2.1 dX12_lyndonCount_32 rfl (lv_at hl 0 rfl) ?_
          refine lv_iload_n X.1 X.2.1 dX12_lyndonCount_33 rfl (lv_at hl 3 rfl) ?_
          refine (m_isLyndon g m0 lt er el cm_ sv md fmm lc lz af pt_ oc ty_ sz_ em k n s h c tk k0 n0 s0 z p j (k ^ j) (k ^ (j - 1)) i (hcj) (by omega)).callV (rest := [.int (nI v)]) X dX12_lyndonCount_34 q1149 tX12_isLyndon hK (hP.sub [0] rfl) 0 11 rfl rfl rfl hl ⟨⟨Nat.le_of_ble_eq_true rfl, Nat.le_of_ble_eq_true rfl⟩, Nat.le_of_ble_eq_true rfl, Nat.le_of_ble_eq_true rfl⟩ rfl rfl (Nat.le_of_ble_eq_true rfl) ?_
          refine b_if_eq (tgt := 44) X dX12_lyndonCount_37 (by decide) (fun c37 => ?_) (fun c37 => ?_)
          · refine lv_iconst (v := (nI 0)) X.1 X.2.1 dX12_lyndonCount_44 (by decide) ?_
            refine n_add X dX12_lyndonCount_45 ?_
            refine lv_istore_n (lv' := [(2, .int (nI (v + 0))), (3, .int (nI i)), (0, .ref m0), (1, .int (nI j))]) X.1 X.2.1 dX12_lyndonCount_46 rfl hl (by decide) rfl (fun ls hl => ?_)
            refine lv_iinc (v := (nI (i + 1))) (lv' := [(3, .int (nI (i + 1))), (2, .int (nI (v + 0))), (0, .ref m0), (1, .int (nI j))]) X.1 X.2.1 dX12_lyndonCount_47 hl (k := 1) rfl (nI_inc _) (by decide) rfl (fun ls hl => ?_)
            refine lv_goto (tgt := 18) X.1 X.2.1 dX12_lyndonCount_50 (by decide) ?_
            exact ih18 (v + 0) (i + 1) (by omega) (by rw [cntL, c37] at hq; exact hq) ls (lv_sub hl [0, 1, 2, 3] rfl)
          · refine lv_iconst (v := (nI 1)) X.1 X.2.1 dX12_lyndonCount_40 (by decide) ?_
            refine lv_goto (tgt := 45) X.1 X.2.1 dX12_lyndonCount_41 (by decide) ?_
            refine n_add X dX12_lyndonCount_45 ?_
            refine lv_istore_n (lv' := [(2, .int (nI (v + 1))), (3, .int (nI i)), (0, .ref m0), (1, .int (nI j))]) X.1 X.2.1 dX12_lyndonCount_46 rfl hl (by decide) rfl (fun ls hl => ?_)
            refine lv_iinc (v := (nI (i + 1))) (lv' := [(3, .int (nI (i + 1))), (2, .int (nI (v + 1))), (0, .ref m0), (1, .int (nI j))]) X.1 X.2.1 dX12_lyndonCount_47 hl (k := 1) rfl (nI_inc _) (by decide) rfl (fun ls hl => ?_)
            refine lv_goto (tgt := 18) X.1 X.2.1 dX12_lyndonCount_50 (by decide) ?_
            exact ih18 (v + 1) (i + 1) (by omega) (by rw [cntL, c37] at hq; exact hq) ls (lv_sub hl [0, 1, 2, 3] rfl)
    exact L18 (k ^ j) 0 0 (by omega) (rfl) ls (lv_sub hl [0, 1, 2, 3] rfl)
  · refine lv_iconst (v := (-1)) X.1 X.2.1 dX12_lyndonCount_12 (by decide) ?_
    exact PuI.ret X hr hlk dX12_lyndonCount_13 (nI_nar _) (by unfold a_lyndonCount; rw [show lenB n x = false from by unfold lenB; have := of_decide_eq_false c9; exact decide_eq_false (by omega)]; rfl)

set_option maxHeartbeats 4000000 in
set_option maxRecDepth 100000 in
theorem m_lyndonWord (g : G5) (m0 : Nat) (lt : Nat) (er : Nat) (el : Nat) (cm_ : Nat) (sv : Nat) (md : Nat) (fmm : Nat) (lc : Nat) (lz : Nat) (af : Nat) (pt_ : Nat) (oc : Nat) (ty_ : Nat) (sz_ : Nat) (em : Nat) (k : Nat) (n : Nat) (s : List Nat) (h : List (List Nat)) (c : List Nat) (tk : Bool) (k0 : Nat) (n0 : Nat) (s0 : List Nat) (z : List Nat) (p : List Int) (B : Nat) (T : Nat) (x : Int32) (y : Int32) (hc : shp k n B T) : PuI yX12_lyndonWord cX12_lyndonWord 5 (some .int) 4 93 g [.ref m0, .int x, .int y] [(m0, .inr (11, [.int (nI k), .int (nI n), .ref lt, .int (nI s.length), .ref er, .ref el, .int (nI h.length), .ref cm_, .int (nI c.length), .int (bI tk), .int (nI k0), .int (nI n0), .ref sv, .int (nI s0.length), .ref md, .int (nI z.length), .ref fmm, .ref lc, .ref lz, .ref af, .ref pt_, .int (nI p.length), .ref oc, .ref ty_, .ref sz_, .ref em]))] (a_lyndonWord k n x y) := by
  refine PuI.of (by decide +kernel) (Nat.le_of_ble_eq_true rfl) ?_
  intro p_ l_ e_ S_ m_ args below meth co X hr hlk hP hK ls hl
  have X : CallFix p_ m_ co cX12_lyndonWord 5 S_ args lw_all RX12 := X
  have hl : lv_has ls 5 [(0, .ref m0), (1, .int x), (2, .int y)] := hl
  obtain ⟨hk2, hk4, hn1, hn6, hB, hT, hBT, hT2⟩ := hc.f
  have hB0 : 0 < B := by rw [hBT]; exact Nat.mul_pos (by omega) (by omega)
  have hxr := z_rng y
  refine lv_iload_n X.1 X.2.1 dX12_lyndonWord_0 rfl (lv_at hl 1 rfl) ?_
  refine lv_iconst (v := (nI 1)) X.1 X.2.1 dX12_lyndonWord_1 (by decide) ?_
  refine lv_aload_n X.1 X.2.1 dX12_lyndonWord_2 rfl (lv_at hl 0 rfl) ?_
  refine va_get (D := g.1) (ci := 11) (v := .int (nI n)) (C := RX12) (T := TX12) (N := 26) X.1 X.2.1 X.2.2.2.2 iwX12 X.2.2.2.1 hK hP 0 rfl rfl 1 (by decide) (X.2.2.2.2 _ q1021) (fun _ h9 => h9) rfl dX12_lyndonWord_3 ?_
  refine (c_inN g x 1 n (by omega) (by omega)).callS (rest := []) X dX12_lyndonWord_6 q1103 tX12_in hK (hP.sub [] rfl) hl ⟨⟨Nat.le_of_ble_eq_true rfl, Nat.le_of_ble_eq_true rfl⟩, Nat.le_of_ble_eq_true rfl, Nat.le_of_ble_eq_true rfl⟩ rfl rfl (Nat.le_of_ble_eq_true rfl) ?_
  refine b_if_ne (tgt := 14) X dX12_lyndonWord_9 (by decide) (fun c9 => ?_) (fun c9 => ?_)
  · have h8 : lenB n x = true := by unfold lenB; have := of_decide_eq_true c9; exact decide_eq_true (by omega)
    obtain ⟨j, hj, hj1, hjn, rfl⟩ := lenB_t h8
    have hcj := shp_sub hc hj1 hjn
    have hpw := pow_le hc hjn
    refine lv_iload_n X.1 X.2.1 dX12_lyndonWord_14 rfl (lv_at hl 2 rfl) ?_
    refine tp_i (y := (iI (y.toInt - ((0 : Nat) : Int)))) (z_sub0 _) ?_
    refine lv_istore_n (lv' := [(3, .int (iI (y.toInt - ((0 : Nat) : Int)))), (0, .ref m0), (1, .int (nI j)), (2, .int y)]) X.1 X.2.1 dX12_lyndonWord_15 rfl hl (by decide) rfl (fun ls hl => ?_)
    refine lv_iconst (v := (nI 0)) X.1 X.2.1 dX12_lyndonWord_16 (by decide) ?_
    refine lv_istore (lv' := [(4, .int (nI 0)), (3, .int (iI (y.toInt - ((0 : Nat) : Int)))), (0, .ref m0), (1, .int (nI j)), (2, .int y)]) X.1 X.2.1 dX12_lyndonWord_17 hl (by decide) rfl (fun ls hl => ?_)
    have L19 : ∀ (r : Nat) (v : Nat) (i : Nat) (h1 : i + r = k ^ j) (h2 : v ≤ i) (hv : ((v : Nat) : Int) ≤ y.toInt ∨ v = 0) (hq : nthL (lynB k j) y.toInt r i v = nthL (lynB k j) y.toInt (k ^ j) 0 0) (ls : Array Slot) (hl : lv_has ls 5 [(4, .int (nI i)), (3, .int (iI (y.toInt - ((v : Nat) : Int)))), (0, .ref m0), (1, .int (nI j)), (2, .int y)]), W p_ l_ e_ { frames := 4, cells := 0, slots := 0, locals := 93 } S_ m_ args below meth co S_.heap [] 0 0 (MQ below (vp_Si (fun r => r = (a_lyndonWord k n (nI j) y))) args S_ 0 0 (fun _ => False)) (F0 m_ 19 ls []) := by
      intro r
      induction r with
      | zero =>
        intro v i h1 h2 hv hq ls hl
        refine lv_iload X.1 X.2.1 dX12_lyndonWord_19 (lv_at hl 0 rfl) ?_
        refine lv_aload_n X.1 X.2.1 dX12_lyndonWord_21 rfl (lv_at hl 2 rfl) ?_
        refine va_get (D := g.1) (ci := 11) (v := .int (nI k)) (C := RX12) (T := TX12) (N := 26) X.1 X.2.1 X.2.2.2.2 iwX12 X.2.2.2.1 hK hP 0 rfl rfl 0 (by decide) (X.2.2.2.2 _ q1020) (fun _ h9 => h9) rfl dX12_lyndonWord_22 ?_
        refine lv_iload_n X.1 X.2.1 dX12_lyndonWord_25 rfl (lv_at hl 3 rfl) ?_
        refine (c_mpower g k j (by omega)).callS (rest := [.int (nI i)]) X dX12_lyndonWord_26 q1106 tX12_power hK (hP.sub [] rfl) hl ⟨⟨Nat.le_of_ble_eq_true rfl, Nat.le_of_ble_eq_true rfl⟩, Nat.le_of_ble_eq_true rfl, Nat.le_of_ble_eq_true rfl⟩ rfl rfl (Nat.le_of_ble_eq_true rfl) ?_
        refine z_icmp_ge (tgt := 62) X dX12_lyndonWord_29 (by decide) (nI_toInt (by omega)) (nI_toInt (by omega)) (fun c29 => ?_) (fun c29 => ?_)
        · refine lv_bipush (v := (-2)) X.1 X.2.1 dX12_lyndonWord_62 (by decide) ?_
          exact PuI.ret X hr hlk dX12_lyndonWord_64 (nI_nar _) (by first | (unfold a_lyndonWord; rw [h8, xN_N (by omega), if_pos rfl]; rw [nthL_neg (by omega)]; done) | (unfold a_lyndonWord; rw [h8, xN_N (by omega), if_pos rfl]; rw [← hq]; rfl))
        · exfalso; omega
      | succ r ih19 =>
        intro v i h1 h2 hv hq ls hl
        refine lv_iload X.1 X.2.1 dX12_lyndonWord_19 (lv_at hl 0 rfl) ?_
        refine lv_aload_n X.1 X.2.1 dX12_lyndonWord_21 rfl (lv_at hl 2 rfl) ?_
        refine va_get (D := g.1) (ci := 11) (v := .int (nI k)) (C := RX12) (T := TX12) (N := 26) X.1 X.2.1 X.2.2.2.2 iwX12 X.2.2.2.1 hK hP 0 rfl rfl 0 (by decide) (X.2.2.2.2 _ q1020) (fun _ h9 => h9) rfl dX12_lyndonWord_22 ?_
        refine lv_iload_n X.1 X.2.1 dX12_lyndonWord_25 rfl (lv_at hl 3 rfl) ?_
        refine (c_mpower g k j (by omega)).callS (rest := [.int (nI i)]) X dX12_lyndonWord_26 q1106 tX12_power hK (hP.sub [] rfl) hl ⟨⟨Nat.le_of_ble_eq_true rfl, Nat.le_of_ble_eq_true rfl⟩, Nat.le_of_ble_eq_true rfl, Nat.le_of_ble_eq_true rfl⟩ rfl rfl (Nat.le_of_ble_eq_true rfl) ?_
        refine z_icmp_ge (tgt := 62) X dX12_lyndonWord_29 (by decide) (nI_toInt (by omega)) (nI_toInt (by omega)) (fun c29 => ?_) (fun c29 => ?_)
        · exfalso; omega
        · refine lv_iload_n X.1 X.2.1 dX12_lyndonWord_32 rfl (lv_at hl 4 rfl) ?_
          refine z_if_lt (tgt := 62) X dX12_lyndonWord_33 (by decide) rfl (fun c33 => ?_) (fun c33 => ?_)
          · refine lv_bipush (v := (-2)) X.1 X.2.1 dX12_lyndonWord_62 (by decide) ?_
            exact PuI.ret X hr hlk dX12_lyndonWord_64 (nI_nar _) (by first | (unfold a_lyndonWord; rw [h8, xN_N (by omega), if_pos rfl]; rw [nthL_neg (by omega)]; done) | (unfold a_lyndonWord; rw [h8, xN_N (by omega), if_pos rfl]; rw [← hq]; rfl))
          · refine lv_aload_n X.1 X.2.1 dX12_lyndonWord_36 rfl (lv_at hl 2 rfl) ?_
            refine lv_iload X.1 X.2.1 dX12_lyndonWord_37 (lv_at hl 0 rfl) ?_
            refine lv_iload_n X.1 X.2.1 dX12_lyndonWord_39 rfl (lv_at hl 3 rfl) ?_
            refine (m_isLyndon g m0 lt er el cm_ sv md fmm lc lz af pt_ oc ty_ sz_ em k n s h c tk k0 n0 s0 z p j (k ^ j) (k ^ (j - 1)) i (hcj) (by omega)).callV (rest := []) X dX12_lyndonWord_40 q1149 tX12_isLyndon hK (hP.sub [0] rfl) 0 11 rfl rfl rfl hl ⟨⟨Nat.le_of_ble_eq_true rfl, Nat.le_of_ble_eq_true rfl⟩, Nat.le_of_ble_eq_true rfl, Nat.le_of_ble_eq_true rfl⟩ rfl rfl (Nat.le_of_ble_eq_true rfl) ?_
            refine b_if_eq (tgt := 56) X dX12_lyndonWord_43 (by decide) (fun c43 => ?_) (fun c43 => ?_)
            · refine lv_iinc (v := (nI (i + 1))) (lv' := [(4, .int (nI (i + 1))), (3, .int (iI (y.toInt - ((v : Nat) : Int)))), (0, .ref m0), (1, .int (nI j)), (2, .int y)]) X.1 X.2.1 dX12_lyndonWord_56 hl (k := 0) rfl (nI_inc _) (by decide) rfl (fun ls hl => ?_)
              refine lv_goto (tgt := 19) X.1 X.2.1 dX12_lyndonWord_59 (by decide) ?_
              exact ih19 v (i + 1) (by omega) (by omega) (by omega) (by first | (rw [nthL, c43, if_pos rfl, if_neg (by omega)] at hq; exact hq) | (rw [nthL, c43, if_neg (by decide)] at hq; exact hq)) ls (lv_sub hl [0, 1, 2, 3, 4] rfl)
            · refine lv_iload_n X.1 X.2.1 dX12_lyndonWord_46 rfl (lv_at hl 1 rfl) ?_
              refine z_if_ne (tgt := 53) X dX12_lyndonWord_47 (by decide) (iI_toInt (by omega) (by omega)) (fun c47 => ?_) (fun c47 => ?_)
              · refine lv_iinc (v := (iI (y.toInt - ((v + 1 : Nat) : Int)))) (lv' := [(3, .int (iI (y.toInt - ((v + 1 : Nat) : Int)))), (4, .int (nI i)), (0, .ref m0), (1, .int (nI j)), (2, .int y)]) X.1 X.2.1 dX12_lyndonWord_53 hl (k := 1) rfl (iI_inc _ _ _ (by omega)) (by decide) rfl (fun ls hl => ?_)
                refine lv_iinc (v := (nI (i + 1))) (lv' := [(4, .int (nI (i + 1))), (3, .int (iI (y.toInt - ((v + 1 : Nat) : Int)))), (0, .ref m0), (1, .int (nI j)), (2, .int y)]) X.1 X.2.1 dX12_lyndonWord_56 hl (k := 1) rfl (nI_inc _) (by decide) rfl (fun ls hl => ?_)
                refine lv_goto (tgt := 19) X.1 X.2.1 dX12_lyndonWord_59 (by decide) ?_
                exact ih19 (v + 1) (i + 1) (by omega) (by omega) (by omega) (by first | (rw [nthL, c43, if_pos rfl, if_neg (by omega)] at hq; exact hq) | (rw [nthL, c43, if_neg (by decide)] at hq; exact hq)) ls (lv_sub hl [0, 1, 2, 3, 4] rfl)
              · refine lv_iload X.1 X.2.1 dX12_lyndonWord_50 (lv_at hl 0 rfl) ?_
                exact PuI.ret X hr hlk dX12_lyndonWord_52 (nI_nar _) (by rw [nthL, c43, if_pos rfl, if_pos (by omega)] at hq; unfold a_lyndonWord; rw [h8, xN_N (by omega)]; exact hq)
    exact L19 (k ^ j) 0 0 (by omega) (by omega) (by omega) (rfl) ls (lv_sub hl [0, 1, 2, 3, 4] rfl)
  · refine lv_iconst (v := (-1)) X.1 X.2.1 dX12_lyndonWord_12 (by decide) ?_
    exact PuI.ret X hr hlk dX12_lyndonWord_13 (nI_nar _) (by unfold a_lyndonWord; rw [show lenB n x = false from by unfold lenB; have := of_decide_eq_false c9; exact decide_eq_false (by omega)]; rfl)

set_option maxHeartbeats 4000000 in
set_option maxRecDepth 100000 in
theorem c_mpm (g : G5) (o : Nat) (e : Nat) (m : Nat) (ho : o ≤ 6) (he : e < 2 ^ 31) (hm : 2 ≤ m) (hm2 : m ≤ 1000000000) : PuL yX12_powerModulo cX12_powerModulo 8 (some .long) 0 0 g [.long (lN o), .int (nI e), .long (lN m)] [] (lN (pmL o m e 1)) := by
  refine PuL.of (by decide +kernel) (Nat.le_of_ble_eq_true rfl) ?_
  intro p_ l_ e_ S_ m_ args below meth co X hr hlk hP hK ls hl
  have X : CallFix p_ m_ co cX12_powerModulo 8 S_ args lw_all RX12 := X
  have hl : lv_has ls 8 [(0, .long (lN o)), (2, .int (nI e)), (3, .long (lN m))] := hl
  refine lv_lconst (v := lN 1) X.1 X.2.1 dX12_powerModulo_0 (by decide) ?_
  refine lv_lstore (lv' := [(5, .long (lN 1)), (0, .long (lN o)), (2, .int (nI e)), (3, .long (lN m))]) X.1 X.2.1 dX12_powerModulo_1 hl (by decide) rfl (fun ls hl => ?_)
  refine lv_iconst (v := (nI 0)) X.1 X.2.1 dX12_powerModulo_3 (by decide) ?_
  refine lv_istore (lv' := [(7, .int (nI 0)), (5, .long (lN 1)), (0, .long (lN o)), (2, .int (nI e)), (3, .long (lN m))]) X.1 X.2.1 dX12_powerModulo_4 hl (by decide) rfl (fun ls hl => ?_)
  have L6 : ∀ (r : Nat) (v : Nat) (i : Nat) (h1 : i + r = e) (hv : v < m) (hq : pmL o m r v = pmL o m e 1) (ls : Array Slot) (hl : lv_has ls 8 [(7, .int (nI i)), (5, .long (lN v)), (0, .long (lN o)), (2, .int (nI e)), (3, .long (lN m))]), W p_ l_ e_ { frames := 0, cells := 0, slots := 0, locals := 0 } S_ m_ args below meth co S_.heap [] 0 0 (MQ below (vp_Sl (fun r => r = (lN (pmL o m e 1)))) args S_ 0 0 (fun _ => False)) (F0 m_ 6 ls []) := by
    intro r
    induction r with
    | zero =>
      intro v i h1 hv hq ls hl
      refine lv_iload X.1 X.2.1 dX12_powerModulo_6 (lv_at hl 0 rfl) ?_
      refine lv_iload_n X.1 X.2.1 dX12_powerModulo_8 rfl (lv_at hl 3 rfl) ?_
      refine z_icmp_ge (tgt := 26) X dX12_powerModulo_9 (by decide) (nI_toInt (by omega)) (nI_toInt (by omega)) (fun c9 => ?_) (fun c9 => ?_)
      · refine lv_lload X.1 X.2.1 dX12_powerModulo_26 (lv_at hl 1 rfl) ?_
        exact PuL.ret X hr hlk dX12_powerModulo_28 (by rw [← hq]; rfl)
      · exfalso; omega
    | succ r ih6 =>
      intro v i h1 hv hq ls hl
      refine lv_iload X.1 X.2.1 dX12_powerModulo_6 (lv_at hl 0 rfl) ?_
      refine lv_iload_n X.1 X.2.1 dX12_powerModulo_8 rfl (lv_at hl 3 rfl) ?_
      refine z_icmp_ge (tgt := 26) X dX12_powerModulo_9 (by decide) (nI_toInt (by omega)) (nI_toInt (by omega)) (fun c9 => ?_) (fun c9 => ?_)
      · exfalso; omega
      · refine lv_lload X.1 X.2.1 dX12_powerModulo_12 (lv_at hl 1 rfl) ?_
        refine lv_lload_n X.1 X.2.1 dX12_powerModulo_14 rfl (lv_at hl 2 rfl) ?_
        refine lv_lmul X.1 X.2.1 dX12_powerModulo_15 ?_
        refine tp_l (y := (lN (v * o))) (lN_mul _ _) ?_
        refine lv_lload_n X.1 X.2.1 dX12_powerModulo_16 rfl (lv_at hl 4 rfl) ?_
        have hF8 := mul_bd (v := v) (o := o) hv hm2 (by omega)
        have hF9 := md_bd (v := v) (o := o) (m := m) (by omega)
        refine lv_lrem X.1 X.2.1 dX12_powerModulo_17 (lN_ne0 (by omega) (by omega)) ?_
        refine tp_l (y := (lN ((v * o) % m))) (pk_lRem (by omega) (by omega) (by omega)) ?_
        refine lv_lstore (lv' := [(5, .long (lN ((v * o) % m))), (7, .int (nI i)), (0, .long (lN o)), (2, .int (nI e)), (3, .long (lN m))]) X.1 X.2.1 dX12_powerModulo_18 hl (by decide) rfl (fun ls hl => ?_)
        refine lv_iinc (v := (nI (i + 1))) (lv' := [(7, .int (nI (i + 1))), (5, .long (lN ((v * o) % m))), (0, .long (lN o)), (2, .int (nI e)), (3, .long (lN m))]) X.1 X.2.1 dX12_powerModulo_20 hl (k := 1) rfl (nI_inc _) (by decide) rfl (fun ls hl => ?_)
        refine lv_goto (tgt := 6) X.1 X.2.1 dX12_powerModulo_23 (by decide) ?_
        exact ih6 ((v * o) % m) (i + 1) (by omega) (by omega) (by rw [pmL] at hq; exact hq) ls (lv_sub hl [0, 1, 2, 3, 4] rfl)
  exact L6 e 1 0 (by omega) (by omega) (rfl) ls (lv_sub hl [0, 1, 2, 3, 4] rfl)

set_option maxHeartbeats 4000000 in
set_option maxRecDepth 100000 in
theorem m_countModulo (g : G5) (m0 : Nat) (lt : Nat) (er : Nat) (el : Nat) (cm_ : Nat) (sv : Nat) (md : Nat) (fmm : Nat) (lc : Nat) (lz : Nat) (af : Nat) (pt_ : Nat) (oc : Nat) (ty_ : Nat) (sz_ : Nat) (em : Nat) (k : Nat) (n : Nat) (s : List Nat) (h : List (List Nat)) (c : List Nat) (tk : Bool) (k0 : Nat) (n0 : Nat) (s0 : List Nat) (z : List Nat) (p : List Int) (B : Nat) (T : Nat) (x : Int32) (hc : shp k n B T) : PuI yX12_countModulo cX12_countModulo 5 (some .int) 1 27 g [.ref m0, .int x] [(m0, .inr (11, [.int (nI k), .int (nI n), .ref lt, .int (nI s.length), .ref er, .ref el, .int (nI h.length), .ref cm_, .int (nI c.length), .int (bI tk), .int (nI k0), .int (nI n0), .ref sv, .int (nI s0.length), .ref md, .int (nI z.length), .ref fmm, .ref lc, .ref lz, .ref af, .ref pt_, .int (nI p.length), .ref oc, .ref ty_, .ref sz_, .ref em]))] (a_countModulo k n T x) := by
  refine PuI.of (by decide +kernel) (Nat.le_of_ble_eq_true rfl) ?_
  intro p_ l_ e_ S_ m_ args below meth co X hr hlk hP hK ls hl
  have X : CallFix p_ m_ co cX12_countModulo 5 S_ args lw_all RX12 := X
  have hl : lv_has ls 5 [(0, .ref m0), (1, .int x)] := hl
  obtain ⟨hk2, hk4, hn1, hn6, hB, hT, hBT, hT2⟩ := hc.f
  have hB0 : 0 < B := by rw [hBT]; exact Nat.mul_pos (by omega) (by omega)
  have hfa := fac_le (m := k - 1) (by omega)
  have hnT := n_le_T hc
  refine lv_iload_n X.1 X.2.1 dX12_countModulo_0 rfl (lv_at hl 1 rfl) ?_
  refine lv_iconst (v := (nI 2)) X.1 X.2.1 dX12_countModulo_1 (by decide) ?_
  refine lv_ldc (v := 1000000000) X.1 X.2.1 X.2.2.2.1 (X.2.2.2.2 _ q1399) dX12_countModulo_2 ?_
  refine tp_i (y := (nI 1000000000)) (by decide) ?_
  refine (c_inN g x 2 1000000000 (by omega) (by omega)).callS (rest := []) X dX12_countModulo_4 q1103 tX12_in hK (hP.sub [] rfl) hl ⟨⟨Nat.le_of_ble_eq_true rfl, Nat.le_of_ble_eq_true rfl⟩, Nat.le_of_ble_eq_true rfl, Nat.le_of_ble_eq_true rfl⟩ rfl rfl (Nat.le_of_ble_eq_true rfl) ?_
  refine b_if_ne (tgt := 12) X dX12_countModulo_7 (by decide) (fun c7 => ?_) (fun c7 => ?_)
  · have h8 := of_decide_eq_true c7
    obtain ⟨j, hj, rfl⟩ := z_nat (x := x) (by omega)
    rw [nI_toInt hj] at h8
    refine lv_aload_n X.1 X.2.1 dX12_countModulo_12 rfl (lv_at hl 0 rfl) ?_
    refine va_get (D := g.1) (ci := 11) (v := .int (nI k)) (C := RX12) (T := TX12) (N := 26) X.1 X.2.1 X.2.2.2.2 iwX12 X.2.2.2.1 hK hP 0 rfl rfl 0 (by decide) (X.2.2.2.2 _ q1020) (fun _ h9 => h9) rfl dX12_countModulo_13 ?_
    refine lv_aload_n X.1 X.2.1 dX12_countModulo_16 rfl (lv_at hl 0 rfl) ?_
    refine va_get (D := g.1) (ci := 11) (v := .int (nI n)) (C := RX12) (T := TX12) (N := 26) X.1 X.2.1 X.2.2.2.2 iwX12 X.2.2.2.1 hK hP 0 rfl rfl 1 (by decide) (X.2.2.2.2 _ q1021) (fun _ h9 => h9) rfl dX12_countModulo_17 ?_
    refine lv_iconst (v := (nI 1)) X.1 X.2.1 dX12_countModulo_20 (by decide) ?_
    refine n_sub X dX12_countModulo_21 (by omega) ?_
    refine (c_mpower g k (n - 1) (by omega)).callS (rest := []) X dX12_countModulo_22 q1106 tX12_power hK (hP.sub [] rfl) hl ⟨⟨Nat.le_of_ble_eq_true rfl, Nat.le_of_ble_eq_true rfl⟩, Nat.le_of_ble_eq_true rfl, Nat.le_of_ble_eq_true rfl⟩ rfl rfl (Nat.le_of_ble_eq_true rfl) ?_
    refine tp_i (y := (nI T)) (by rw [hc.2.2]) ?_
    refine lv_istore_n (lv' := [(2, .int (nI T)), (0, .ref m0), (1, .int (nI j))]) X.1 X.2.1 dX12_countModulo_25 rfl hl (by decide) rfl (fun ls hl => ?_)
    refine lv_aload_n X.1 X.2.1 dX12_countModulo_26 rfl (lv_at hl 1 rfl) ?_
    refine va_get (D := g.1) (ci := 11) (v := .int (nI k)) (C := RX12) (T := TX12) (N := 26) X.1 X.2.1 X.2.2.2.2 iwX12 X.2.2.2.1 hK hP 0 rfl rfl 0 (by decide) (X.2.2.2.2 _ q1020) (fun _ h9 => h9) rfl dX12_countModulo_27 ?_
    refine lv_iconst (v := (nI 2)) X.1 X.2.1 dX12_countModulo_30 (by decide) ?_
    refine z_icmp_ne (tgt := 38) X dX12_countModulo_31 (by decide) (nI_toInt (by omega)) (nI_toInt (by omega)) (fun c31 => ?_) (fun c31 => ?_)
    · refine lv_aload_n X.1 X.2.1 dX12_countModulo_38 rfl (lv_at hl 1 rfl) ?_
      refine va_get (D := g.1) (ci := 11) (v := .int (nI k)) (C := RX12) (T := TX12) (N := 26) X.1 X.2.1 X.2.2.2.2 iwX12 X.2.2.2.1 hK hP 0 rfl rfl 0 (by decide) (X.2.2.2.2 _ q1020) (fun _ h9 => h9) rfl dX12_countModulo_39 ?_
      refine lv_iconst (v := (nI 3)) X.1 X.2.1 dX12_countModulo_42 (by decide) ?_
      refine z_icmp_ne (tgt := 52) X dX12_countModulo_43 (by decide) (nI_toInt (by omega)) (nI_toInt (by omega)) (fun c43 => ?_) (fun c43 => ?_)
      · refine lv_ldc2 (v := (6)) X.1 X.2.1 X.2.2.2.1 (X.2.2.2.2 _ q1401) dX12_countModulo_52 ?_
        refine tp_l (y := (lN (facN (k - 1)))) (by first | (rw [show k = 2 by omega]; rfl) | (rw [show k = 3 by omega]; rfl) | (rw [show k = 4 by omega]; rfl)) ?_
        refine lv_lstore_n (lv' := [(3, .long (lN (facN (k - 1)))), (2, .int (nI T)), (0, .ref m0), (1, .int (nI j))]) X.1 X.2.1 dX12_countModulo_55 rfl hl (by decide) rfl (fun ls hl => ?_)
        refine lv_lload_n X.1 X.2.1 dX12_countModulo_56 rfl (lv_at hl 0 rfl) ?_
        refine lv_iload_n X.1 X.2.1 dX12_countModulo_57 rfl (lv_at hl 1 rfl) ?_
        refine lv_iload_n X.1 X.2.1 dX12_countModulo_58 rfl (lv_at hl 3 rfl) ?_
        refine lv_i2l (v := lN j) X.1 X.2.1 dX12_countModulo_59 (nI_l (by omega)) ?_
        refine (c_mpm g (facN (k - 1)) T j (by omega) (by omega) (by omega) (by omega)).callS (rest := []) X dX12_countModulo_60 q1402 tX12_powerModulo hK (hP.sub [] rfl) hl ⟨⟨Nat.le_of_ble_eq_true rfl, Nat.le_of_ble_eq_true rfl⟩, Nat.le_of_ble_eq_true rfl, Nat.le_of_ble_eq_true rfl⟩ rfl rfl (Nat.le_of_ble_eq_true rfl) ?_
        refine tp_l (y := (lN (pmL (facN (k - 1)) j T 1))) (rfl) ?_
        refine lv_aload_n X.1 X.2.1 dX12_countModulo_63 rfl (lv_at hl 2 rfl) ?_
        refine va_get (D := g.1) (ci := 11) (v := .int (nI k)) (C := RX12) (T := TX12) (N := 26) X.1 X.2.1 X.2.2.2.2 iwX12 X.2.2.2.1 hK hP 0 rfl rfl 0 (by decide) (X.2.2.2.2 _ q1020) (fun _ h9 => h9) rfl dX12_countModulo_64 ?_
        refine lv_i2l (v := lN k) X.1 X.2.1 dX12_countModulo_67 (nI_l (by omega)) ?_
        refine lv_iload_n X.1 X.2.1 dX12_countModulo_68 rfl (lv_at hl 1 rfl) ?_
        refine lv_aload_n X.1 X.2.1 dX12_countModulo_69 rfl (lv_at hl 2 rfl) ?_
        refine va_get (D := g.1) (ci := 11) (v := .int (nI n)) (C := RX12) (T := TX12) (N := 26) X.1 X.2.1 X.2.2.2.2 iwX12 X.2.2.2.1 hK hP 0 rfl rfl 1 (by decide) (X.2.2.2.2 _ q1021) (fun _ h9 => h9) rfl dX12_countModulo_70 ?_
        refine n_sub X dX12_countModulo_73 (by omega) ?_
        refine lv_iload_n X.1 X.2.1 dX12_countModulo_74 rfl (lv_at hl 3 rfl) ?_
        refine lv_i2l (v := lN j) X.1 X.2.1 dX12_countModulo_75 (nI_l (by omega)) ?_
        refine (c_mpm g k (T - n) j (by omega) (by omega) (by omega) (by omega)).callS (rest := [.long (lN (pmL (facN (k - 1)) j T 1))]) X dX12_countModulo_76 q1402 tX12_powerModulo hK (hP.sub [] rfl) hl ⟨⟨Nat.le_of_ble_eq_true rfl, Nat.le_of_ble_eq_true rfl⟩, Nat.le_of_ble_eq_true rfl, Nat.le_of_ble_eq_true rfl⟩ rfl rfl (Nat.le_of_ble_eq_true rfl) ?_
        refine tp_l (y := (lN (pmL k j (T - n) 1))) (rfl) ?_
        refine lv_lmul X.1 X.2.1 dX12_countModulo_79 ?_
        refine tp_l (y := (lN ((pmL (facN (k - 1)) j T 1) * (pmL k j (T - n) 1)))) (lN_mul _ _) ?_
        refine lv_iload_n X.1 X.2.1 dX12_countModulo_80 rfl (lv_at hl 3 rfl) ?_
        refine lv_i2l (v := lN j) X.1 X.2.1 dX12_countModulo_81 (nI_l (by omega)) ?_
        have hF1 := pmL_lt (b := facN (k - 1)) (m := j) (by omega) T 1 (by omega)
        have hF2 := pmL_lt (b := k) (m := j) (by omega) (T - n) 1 (by omega)
        have hF3 := cyc_bd hF1 hF2 (by omega)
        refine lv_lrem X.1 X.2.1 dX12_countModulo_82 (lN_ne0 (by omega) (by omega)) ?_
        refine tp_l (y := (lN (((pmL (facN (k - 1)) j T 1) * (pmL k j (T - n) 1)) % j))) (pk_lRem (by omega) (by omega) (by omega)) ?_
        refine lv_l2i (v := nI (((pmL (facN (k - 1)) j T 1) * (pmL k j (T - n) 1)) % j)) X.1 X.2.1 dX12_countModulo_83 (lN_i _) ?_
        exact PuI.ret X hr hlk dX12_countModulo_84 (nI_nar _) (by unfold a_countModulo; rw [if_pos (by simp only [decide_eq_true_eq]; rw [nI_toInt hj]; omega), xN_N hj, ← cyc_mul (by omega)])
      · refine lv_ldc2 (v := (2)) X.1 X.2.1 X.2.2.2.1 (X.2.2.2.2 _ q1400) dX12_countModulo_46 ?_
        refine lv_goto (tgt := 55) X.1 X.2.1 dX12_countModulo_49 (by decide) ?_
        refine tp_l (y := (lN (facN (k - 1)))) (by first | (rw [show k = 2 by omega]; rfl) | (rw [show k = 3 by omega]; rfl) | (rw [show k = 4 by omega]; rfl)) ?_
        refine lv_lstore_n (lv' := [(3, .long (lN (facN (k - 1)))), (2, .int (nI T)), (0, .ref m0), (1, .int (nI j))]) X.1 X.2.1 dX12_countModulo_55 rfl hl (by decide) rfl (fun ls hl => ?_)
        refine lv_lload_n X.1 X.2.1 dX12_countModulo_56 rfl (lv_at hl 0 rfl) ?_
        refine lv_iload_n X.1 X.2.1 dX12_countModulo_57 rfl (lv_at hl 1 rfl) ?_
        refine lv_iload_n X.1 X.2.1 dX12_countModulo_58 rfl (lv_at hl 3 rfl) ?_
        refine lv_i2l (v := lN j) X.1 X.2.1 dX12_countModulo_59 (nI_l (by omega)) ?_
        refine (c_mpm g (facN (k - 1)) T j (by omega) (by omega) (by omega) (by omega)).callS (rest := []) X dX12_countModulo_60 q1402 tX12_powerModulo hK (hP.sub [] rfl) hl ⟨⟨Nat.le_of_ble_eq_true rfl, Nat.le_of_ble_eq_true rfl⟩, Nat.le_of_ble_eq_true rfl, Nat.le_of_ble_eq_true rfl⟩ rfl rfl (Nat.le_of_ble_eq_true rfl) ?_
        refine tp_l (y := (lN (pmL (facN (k - 1)) j T 1))) (rfl) ?_
        refine lv_aload_n X.1 X.2.1 dX12_countModulo_63 rfl (lv_at hl 2 rfl) ?_
        refine va_get (D := g.1) (ci := 11) (v := .int (nI k)) (C := RX12) (T := TX12) (N := 26) X.1 X.2.1 X.2.2.2.2 iwX12 X.2.2.2.1 hK hP 0 rfl rfl 0 (by decide) (X.2.2.2.2 _ q1020) (fun _ h9 => h9) rfl dX12_countModulo_64 ?_
        refine lv_i2l (v := lN k) X.1 X.2.1 dX12_countModulo_67 (nI_l (by omega)) ?_
        refine lv_iload_n X.1 X.2.1 dX12_countModulo_68 rfl (lv_at hl 1 rfl) ?_
        refine lv_aload_n X.1 X.2.1 dX12_countModulo_69 rfl (lv_at hl 2 rfl) ?_
        refine va_get (D := g.1) (ci := 11) (v := .int (nI n)) (C := RX12) (T := TX12) (N := 26) X.1 X.2.1 X.2.2.2.2 iwX12 X.2.2.2.1 hK hP 0 rfl rfl 1 (by decide) (X.2.2.2.2 _ q1021) (fun _ h9 => h9) rfl dX12_countModulo_70 ?_
        refine n_sub X dX12_countModulo_73 (by omega) ?_
        refine lv_iload_n X.1 X.2.1 dX12_countModulo_74 rfl (lv_at hl 3 rfl) ?_
        refine lv_i2l (v := lN j) X.1 X.2.1 dX12_countModulo_75 (nI_l (by omega)) ?_
        refine (c_mpm g k (T - n) j (by omega) (by omega) (by omega) (by omega)).callS (rest := [.long (lN (pmL (facN (k - 1)) j T 1))]) X dX12_countModulo_76 q1402 tX12_powerModulo hK (hP.sub [] rfl) hl ⟨⟨Nat.le_of_ble_eq_true rfl, Nat.le_of_ble_eq_true rfl⟩, Nat.le_of_ble_eq_true rfl, Nat.le_of_ble_eq_true rfl⟩ rfl rfl (Nat.le_of_ble_eq_true rfl) ?_
        refine tp_l (y := (lN (pmL k j (T - n) 1))) (rfl) ?_
        refine lv_lmul X.1 X.2.1 dX12_countModulo_79 ?_
        refine tp_l (y := (lN ((pmL (facN (k - 1)) j T 1) * (pmL k j (T - n) 1)))) (lN_mul _ _) ?_
        refine lv_iload_n X.1 X.2.1 dX12_countModulo_80 rfl (lv_at hl 3 rfl) ?_
        refine lv_i2l (v := lN j) X.1 X.2.1 dX12_countModulo_81 (nI_l (by omega)) ?_
        have hF1 := pmL_lt (b := facN (k - 1)) (m := j) (by omega) T 1 (by omega)
        have hF2 := pmL_lt (b := k) (m := j) (by omega) (T - n) 1 (by omega)
        have hF3 := cyc_bd hF1 hF2 (by omega)
        refine lv_lrem X.1 X.2.1 dX12_countModulo_82 (lN_ne0 (by omega) (by omega)) ?_
        refine tp_l (y := (lN (((pmL (facN (k - 1)) j T 1) * (pmL k j (T - n) 1)) % j))) (pk_lRem (by omega) (by omega) (by omega)) ?_
        refine lv_l2i (v := nI (((pmL (facN (k - 1)) j T 1) * (pmL k j (T - n) 1)) % j)) X.1 X.2.1 dX12_countModulo_83 (lN_i _) ?_
        exact PuI.ret X hr hlk dX12_countModulo_84 (nI_nar _) (by unfold a_countModulo; rw [if_pos (by simp only [decide_eq_true_eq]; rw [nI_toInt hj]; omega), xN_N hj, ← cyc_mul (by omega)])
    · refine lv_lconst (v := lN 1) X.1 X.2.1 dX12_countModulo_34 (by decide) ?_
      refine lv_goto (tgt := 55) X.1 X.2.1 dX12_countModulo_35 (by decide) ?_
      refine tp_l (y := (lN (facN (k - 1)))) (by first | (rw [show k = 2 by omega]; rfl) | (rw [show k = 3 by omega]; rfl) | (rw [show k = 4 by omega]; rfl)) ?_
      refine lv_lstore_n (lv' := [(3, .long (lN (facN (k - 1)))), (2, .int (nI T)), (0, .ref m0), (1, .int (nI j))]) X.1 X.2.1 dX12_countModulo_55 rfl hl (by decide) rfl (fun ls hl => ?_)
      refine lv_lload_n X.1 X.2.1 dX12_countModulo_56 rfl (lv_at hl 0 rfl) ?_
      refine lv_iload_n X.1 X.2.1 dX12_countModulo_57 rfl (lv_at hl 1 rfl) ?_
      refine lv_iload_n X.1 X.2.1 dX12_countModulo_58 rfl (lv_at hl 3 rfl) ?_
      refine lv_i2l (v := lN j) X.1 X.2.1 dX12_countModulo_59 (nI_l (by omega)) ?_
      refine (c_mpm g (facN (k - 1)) T j (by omega) (by omega) (by omega) (by omega)).callS (rest := []) X dX12_countModulo_60 q1402 tX12_powerModulo hK (hP.sub [] rfl) hl ⟨⟨Nat.le_of_ble_eq_true rfl, Nat.le_of_ble_eq_true rfl⟩, Nat.le_of_ble_eq_true rfl, Nat.le_of_ble_eq_true rfl⟩ rfl rfl (Nat.le_of_ble_eq_true rfl) ?_
      refine tp_l (y := (lN (pmL (facN (k - 1)) j T 1))) (rfl) ?_
      refine lv_aload_n X.1 X.2.1 dX12_countModulo_63 rfl (lv_at hl 2 rfl) ?_
      refine va_get (D := g.1) (ci := 11) (v := .int (nI k)) (C := RX12) (T := TX12) (N := 26) X.1 X.2.1 X.2.2.2.2 iwX12 X.2.2.2.1 hK hP 0 rfl rfl 0 (by decide) (X.2.2.2.2 _ q1020) (fun _ h9 => h9) rfl dX12_countModulo_64 ?_
      refine lv_i2l (v := lN k) X.1 X.2.1 dX12_countModulo_67 (nI_l (by omega)) ?_
      refine lv_iload_n X.1 X.2.1 dX12_countModulo_68 rfl (lv_at hl 1 rfl) ?_
      refine lv_aload_n X.1 X.2.1 dX12_countModulo_69 rfl (lv_at hl 2 rfl) ?_
      refine va_get (D := g.1) (ci := 11) (v := .int (nI n)) (C := RX12) (T := TX12) (N := 26) X.1 X.2.1 X.2.2.2.2 iwX12 X.2.2.2.1 hK hP 0 rfl rfl 1 (by decide) (X.2.2.2.2 _ q1021) (fun _ h9 => h9) rfl dX12_countModulo_70 ?_
      refine n_sub X dX12_countModulo_73 (by omega) ?_
      refine lv_iload_n X.1 X.2.1 dX12_countModulo_74 rfl (lv_at hl 3 rfl) ?_
      refine lv_i2l (v := lN j) X.1 X.2.1 dX12_countModulo_75 (nI_l (by omega)) ?_
      refine (c_mpm g k (T - n) j (by omega) (by omega) (by omega) (by omega)).callS (rest := [.long (lN (pmL (facN (k - 1)) j T 1))]) X dX12_countModulo_76 q1402 tX12_powerModulo hK (hP.sub [] rfl) hl ⟨⟨Nat.le_of_ble_eq_true rfl, Nat.le_of_ble_eq_true rfl⟩, Nat.le_of_ble_eq_true rfl, Nat.le_of_ble_eq_true rfl⟩ rfl rfl (Nat.le_of_ble_eq_true rfl) ?_
      refine tp_l (y := (lN (pmL k j (T - n) 1))) (rfl) ?_
      refine lv_lmul X.1 X.2.1 dX12_countModulo_79 ?_
      refine tp_l (y := (lN ((pmL (facN (k - 1)) j T 1) * (pmL k j (T - n) 1)))) (lN_mul _ _) ?_
      refine lv_iload_n X.1 X.2.1 dX12_countModulo_80 rfl (lv_at hl 3 rfl) ?_
      refine lv_i2l (v := lN j) X.1 X.2.1 dX12_countModulo_81 (nI_l (by omega)) ?_
      have hF1 := pmL_lt (b := facN (k - 1)) (m := j) (by omega) T 1 (by omega)
      have hF2 := pmL_lt (b := k) (m := j) (by omega) (T - n) 1 (by omega)
      have hF3 := cyc_bd hF1 hF2 (by omega)
      refine lv_lrem X.1 X.2.1 dX12_countModulo_82 (lN_ne0 (by omega) (by omega)) ?_
      refine tp_l (y := (lN (((pmL (facN (k - 1)) j T 1) * (pmL k j (T - n) 1)) % j))) (pk_lRem (by omega) (by omega) (by omega)) ?_
      refine lv_l2i (v := nI (((pmL (facN (k - 1)) j T 1) * (pmL k j (T - n) 1)) % j)) X.1 X.2.1 dX12_countModulo_83 (lN_i _) ?_
      exact PuI.ret X hr hlk dX12_countModulo_84 (nI_nar _) (by unfold a_countModulo; rw [if_pos (by simp only [decide_eq_true_eq]; rw [nI_toInt hj]; omega), xN_N hj, ← cyc_mul (by omega)])
  · refine lv_iconst (v := (-1)) X.1 X.2.1 dX12_countModulo_10 (by decide) ?_
    exact PuI.ret X hr hlk dX12_countModulo_11 (nI_nar _) (by unfold a_countModulo; have := of_decide_eq_false c7; rw [if_neg (by simp only [decide_eq_true_eq]; omega)])

set_option maxHeartbeats 4000000 in
set_option maxRecDepth 100000 in
theorem m_isConstant (g : G5) (m0 : Nat) (lt : Nat) (er : Nat) (el : Nat) (cm_ : Nat) (sv : Nat) (md : Nat) (fmm : Nat) (lc : Nat) (lz : Nat) (af : Nat) (pt_ : Nat) (oc : Nat) (ty_ : Nat) (sz_ : Nat) (em : Nat) (k : Nat) (n : Nat) (s : List Nat) (h : List (List Nat)) (c : List Nat) (tk : Bool) (k0 : Nat) (n0 : Nat) (s0 : List Nat) (z : List Nat) (p : List Int) (f : Nat → Int32) (hs : s.length ≤ 256) (hf : rep f s) (hb : bd s) : PuI yX12_isConstant cX12_isConstant 3 (some .boolean) 0 0 g [.ref m0] [(m0, .inr (11, [.int (nI k), .int (nI n), .ref lt, .int (nI s.length), .ref er, .ref el, .int (nI h.length), .ref cm_, .int (nI c.length), .int (bI tk), .int (nI k0), .int (nI n0), .ref sv, .int (nI s0.length), .ref md, .int (nI z.length), .ref fmm, .ref lc, .ref lz, .ref af, .ref pt_, .int (nI p.length), .ref oc, .ref ty_, .ref sz_, .ref em])), (lt, .inl (g.2.1, 256, .inl f))] (bI (repB s 0 1 s.length)) := by
  refine PuI.of (by decide +kernel) (Nat.le_of_ble_eq_true rfl) ?_
  intro p_ l_ e_ S_ m_ args below meth co X hr hlk hP hK ls hl
  have X : CallFix p_ m_ co cX12_isConstant 3 S_ args lw_all RX12 := X
  have hl : lv_has ls 3 [(0, .ref m0)] := hl
  refine lv_iconst (v := (nI 1)) X.1 X.2.1 dX12_isConstant_0 (by decide) ?_
  refine tp_i (y := bI true) rfl ?_
  refine lv_istore_n (lv' := [(1, .int (bI true)), (0, .ref m0)]) X.1 X.2.1 dX12_isConstant_1 rfl hl (by decide) rfl (fun ls hl => ?_)
  refine lv_iconst (v := (nI 0)) X.1 X.2.1 dX12_isConstant_2 (by decide) ?_
  refine lv_istore_n (lv' := [(2, .int (nI 0)), (1, .int (bI true)), (0, .ref m0)]) X.1 X.2.1 dX12_isConstant_3 rfl hl (by decide) rfl (fun ls hl => ?_)
  have L4 : ∀ (r : Nat) (b : Bool) (i : Nat) (h1 : i + r = s.length) (hq : (b && cstL s r i) = repB s 0 1 s.length) (ls : Array Slot) (hl : lv_has ls 3 [(2, .int (nI i)), (1, .int (bI b)), (0, .ref m0)]), W p_ l_ e_ { frames := 0, cells := 0, slots := 0, locals := 0 } S_ m_ args below meth co S_.heap [] 0 0 (MQ below (vp_Si (fun r => r = (bI (repB s 0 1 s.length)))) args S_ 0 0 (fun _ => False)) (F0 m_ 4 ls []) := by
    intro r
    induction r with
    | zero =>
      intro b i h1 hq ls hl
      refine lv_iload_n X.1 X.2.1 dX12_isConstant_4 rfl (lv_at hl 0 rfl) ?_
      refine lv_aload_n X.1 X.2.1 dX12_isConstant_5 rfl (lv_at hl 2 rfl) ?_
      refine va_get (D := g.1) (ci := 11) (v := .int (nI s.length)) (C := RX12) (T := TX12) (N := 26) X.1 X.2.1 X.2.2.2.2 iwX12 X.2.2.2.1 hK hP 0 rfl rfl 3 (by decide) (X.2.2.2.2 _ q1023) (fun _ h9 => h9) rfl dX12_isConstant_6 ?_
      refine z_icmp_ge (tgt := 43) X dX12_isConstant_9 (by decide) (nI_toInt (by omega)) (nI_toInt (by omega)) (fun c9 => ?_) (fun c9 => ?_)
      · refine lv_iload_n X.1 X.2.1 dX12_isConstant_43 rfl (lv_at hl 1 rfl) ?_
        exact PuI.ret X hr hlk dX12_isConstant_44 (bI_nar _) (by rw [← hq]; cases b <;> rfl)
      · exfalso; omega
    | succ r ih4 =>
      intro b i h1 hq ls hl
      refine lv_iload_n X.1 X.2.1 dX12_isConstant_4 rfl (lv_at hl 0 rfl) ?_
      refine lv_aload_n X.1 X.2.1 dX12_isConstant_5 rfl (lv_at hl 2 rfl) ?_
      refine va_get (D := g.1) (ci := 11) (v := .int (nI s.length)) (C := RX12) (T := TX12) (N := 26) X.1 X.2.1 X.2.2.2.2 iwX12 X.2.2.2.1 hK hP 0 rfl rfl 3 (by decide) (X.2.2.2.2 _ q1023) (fun _ h9 => h9) rfl dX12_isConstant_6 ?_
      refine z_icmp_ge (tgt := 43) X dX12_isConstant_9 (by decide) (nI_toInt (by omega)) (nI_toInt (by omega)) (fun c9 => ?_) (fun c9 => ?_)
      · exfalso; omega
      · refine lv_iload_n X.1 X.2.1 dX12_isConstant_12 rfl (lv_at hl 1 rfl) ?_
        refine b_if_eq (tgt := 35) X dX12_isConstant_13 (by decide) (fun c13 => ?_) (fun c13 => ?_)
        · refine lv_iconst (v := (nI 0)) X.1 X.2.1 dX12_isConstant_35 (by decide) ?_
          refine tp_i (y := bI false) rfl ?_
          refine lv_istore_n (lv' := [(1, .int (bI false)), (2, .int (nI i)), (0, .ref m0)]) X.1 X.2.1 dX12_isConstant_36 rfl hl (by decide) rfl (fun ls hl => ?_)
          refine lv_iinc (v := (nI (i + 1))) (lv' := [(2, .int (nI (i + 1))), (1, .int (bI false)), (0, .ref m0)]) X.1 X.2.1 dX12_isConstant_37 hl (k := 1) rfl (nI_inc _) (by decide) rfl (fun ls hl => ?_)
          refine lv_goto (tgt := 4) X.1 X.2.1 dX12_isConstant_40 (by decide) ?_
          exact ih4 false (i + 1) (by omega) (by first | (rw [c13, cstL, if_pos (by omega)] at hq; exact hq) | (rw [c13, cstL, if_neg (by omega)] at hq; exact hq) | (rw [c13] at hq; exact hq)) ls (lv_sub hl [0, 1, 2] rfl)
        · refine lv_aload_n X.1 X.2.1 dX12_isConstant_16 rfl (lv_at hl 2 rfl) ?_
          refine va_get (D := g.1) (ci := 11) (v := .ref lt) (C := RX12) (T := TX12) (N := 26) X.1 X.2.1 X.2.2.2.2 iwX12 X.2.2.2.1 hK hP 0 rfl rfl 2 (by decide) (X.2.2.2.2 _ q1022) (fun _ h9 => h9) rfl dX12_isConstant_17 ?_
          refine lv_iload_n X.1 X.2.1 dX12_isConstant_20 rfl (lv_at hl 0 rfl) ?_
          refine n_iald X hK hP 1 0 rfl rfl (by omega) (by decide) dX12_isConstant_21 ?_
          refine tp_i (y := (nI (s.getD i 0))) (hf i (by omega)) ?_
          refine lv_aload_n X.1 X.2.1 dX12_isConstant_22 rfl (lv_at hl 2 rfl) ?_
          refine va_get (D := g.1) (ci := 11) (v := .ref lt) (C := RX12) (T := TX12) (N := 26) X.1 X.2.1 X.2.2.2.2 iwX12 X.2.2.2.1 hK hP 0 rfl rfl 2 (by decide) (X.2.2.2.2 _ q1022) (fun _ h9 => h9) rfl dX12_isConstant_23 ?_
          refine lv_iconst (v := (nI 0)) X.1 X.2.1 dX12_isConstant_26 (by decide) ?_
          refine n_iald X hK hP 1 0 rfl rfl (by omega) (by decide) dX12_isConstant_27 ?_
          have e1 := bd_at hb i
          have e2 := bd_at hb 0
          refine tp_i (y := (nI (s.getD 0 0))) (hf 0 (by omega)) ?_
          refine z_icmp_ne (tgt := 35) X dX12_isConstant_28 (by decide) (nI_toInt (by omega)) (nI_toInt (by omega)) (fun c28 => ?_) (fun c28 => ?_)
          · refine lv_iconst (v := (nI 0)) X.1 X.2.1 dX12_isConstant_35 (by decide) ?_
            refine tp_i (y := bI false) rfl ?_
            refine lv_istore_n (lv' := [(1, .int (bI false)), (2, .int (nI i)), (0, .ref m0)]) X.1 X.2.1 dX12_isConstant_36 rfl hl (by decide) rfl (fun ls hl => ?_)
            refine lv_iinc (v := (nI (i + 1))) (lv' := [(2, .int (nI (i + 1))), (1, .int (bI false)), (0, .ref m0)]) X.1 X.2.1 dX12_isConstant_37 hl (k := 1) rfl (nI_inc _) (by decide) rfl (fun ls hl => ?_)
            refine lv_goto (tgt := 4) X.1 X.2.1 dX12_isConstant_40 (by decide) ?_
            exact ih4 false (i + 1) (by omega) (by first | (rw [c13, cstL, if_pos (by omega)] at hq; exact hq) | (rw [c13, cstL, if_neg (by omega)] at hq; exact hq) | (rw [c13] at hq; exact hq)) ls (lv_sub hl [0, 1, 2] rfl)
          · refine lv_iconst (v := (nI 1)) X.1 X.2.1 dX12_isConstant_31 (by decide) ?_
            refine lv_goto (tgt := 36) X.1 X.2.1 dX12_isConstant_32 (by decide) ?_
            refine tp_i (y := bI true) rfl ?_
            refine lv_istore_n (lv' := [(1, .int (bI true)), (2, .int (nI i)), (0, .ref m0)]) X.1 X.2.1 dX12_isConstant_36 rfl hl (by decide) rfl (fun ls hl => ?_)
            refine lv_iinc (v := (nI (i + 1))) (lv' := [(2, .int (nI (i + 1))), (1, .int (bI true)), (0, .ref m0)]) X.1 X.2.1 dX12_isConstant_37 hl (k := 1) rfl (nI_inc _) (by decide) rfl (fun ls hl => ?_)
            refine lv_goto (tgt := 4) X.1 X.2.1 dX12_isConstant_40 (by decide) ?_
            exact ih4 true (i + 1) (by omega) (by first | (rw [c13, cstL, if_pos (by omega)] at hq; exact hq) | (rw [c13, cstL, if_neg (by omega)] at hq; exact hq) | (rw [c13] at hq; exact hq)) ls (lv_sub hl [0, 1, 2] rfl)
  exact L4 s.length true 0 (by omega) (cst_rep s) ls (lv_sub hl [0, 1, 2] rfl)

set_option maxHeartbeats 4000000 in
set_option maxRecDepth 100000 in
theorem m_runCount (g : G5) (m0 : Nat) (lt : Nat) (er : Nat) (el : Nat) (cm_ : Nat) (sv : Nat) (md : Nat) (fmm : Nat) (lc : Nat) (lz : Nat) (af : Nat) (pt_ : Nat) (oc : Nat) (ty_ : Nat) (sz_ : Nat) (em : Nat) (k : Nat) (n : Nat) (s : List Nat) (h : List (List Nat)) (c : List Nat) (tk : Bool) (k0 : Nat) (n0 : Nat) (s0 : List Nat) (z : List Nat) (p : List Int) (f : Nat → Int32) (B : Nat) (T : Nat) (x : Int32) (y : Int32) (hc : shp k n B T) (hs : s.length ≤ 256) (hf : rep f s) (hb : bd s) : PuI yX12_runCount cX12_runCount 6 (some .int) 2 47 g [.ref m0, .int x, .int y] [(m0, .inr (11, [.int (nI k), .int (nI n), .ref lt, .int (nI s.length), .ref er, .ref el, .int (nI h.length), .ref cm_, .int (nI c.length), .int (bI tk), .int (nI k0), .int (nI n0), .ref sv, .int (nI s0.length), .ref md, .int (nI z.length), .ref fmm, .ref lc, .ref lz, .ref af, .ref pt_, .int (nI p.length), .ref oc, .ref ty_, .ref sz_, .ref em])), (lt, .inl (g.2.1, 256, .inl f))] (a_runCount k s x y) := by
  refine PuI.of (by decide +kernel) (Nat.le_of_ble_eq_true rfl) ?_
  intro p_ l_ e_ S_ m_ args below meth co X hr hlk hP hK ls hl
  have X : CallFix p_ m_ co cX12_runCount 6 S_ args lw_all RX12 := X
  have hl : lv_has ls 6 [(0, .ref m0), (1, .int x), (2, .int y)] := hl
  obtain ⟨hk2, hk4, hn1, hn6, hB, hT, hBT, hT2⟩ := hc.f
  have hB0 : 0 < B := by rw [hBT]; exact Nat.mul_pos (by omega) (by omega)
  refine lv_aload_n X.1 X.2.1 dX12_runCount_0 rfl (lv_at hl 0 rfl) ?_
  refine lv_iload_n X.1 X.2.1 dX12_runCount_1 rfl (lv_at hl 1 rfl) ?_
  refine (m_isLetter g m0 lt er el cm_ sv md fmm lc lz af pt_ oc ty_ sz_ em k n s h c tk k0 n0 s0 z p B T x (by assumption)).callV (rest := []) X dX12_runCount_2 q1222 tX12_isLetter hK (hP.sub [0] rfl) 0 11 rfl rfl rfl hl ⟨⟨Nat.le_of_ble_eq_true rfl, Nat.le_of_ble_eq_true rfl⟩, Nat.le_of_ble_eq_true rfl, Nat.le_of_ble_eq_true rfl⟩ rfl rfl (Nat.le_of_ble_eq_true rfl) ?_
  refine b_if_eq (tgt := 19) X dX12_runCount_5 (by decide) (fun c5 => ?_) (fun c5 => ?_)
  · refine lv_iconst (v := (-1)) X.1 X.2.1 dX12_runCount_19 (by decide) ?_
    exact PuI.ret X hr hlk dX12_runCount_20 (nI_nar _) (by unfold a_runCount; first | (rw [c5]; rfl) | (rw [show lenB 256 y = false from by unfold lenB; have := of_decide_eq_false c16; exact decide_eq_false (by omega), Bool.and_false]; rfl))
  · obtain ⟨j, hj, rfl⟩ := hasB_t c5
    refine lv_iload_n X.1 X.2.1 dX12_runCount_8 rfl (lv_at hl 2 rfl) ?_
    refine lv_iconst (v := (nI 1)) X.1 X.2.1 dX12_runCount_9 (by decide) ?_
    refine lv_sipush (v := (nI 256)) X.1 X.2.1 dX12_runCount_10 (by decide) ?_
    refine (c_inN g y 1 256 (by omega) (by omega)).callS (rest := []) X dX12_runCount_13 q1103 tX12_in hK (hP.sub [] rfl) hl ⟨⟨Nat.le_of_ble_eq_true rfl, Nat.le_of_ble_eq_true rfl⟩, Nat.le_of_ble_eq_true rfl, Nat.le_of_ble_eq_true rfl⟩ rfl rfl (Nat.le_of_ble_eq_true rfl) ?_
    refine b_if_ne (tgt := 21) X dX12_runCount_16 (by decide) (fun c16 => ?_) (fun c16 => ?_)
    · have h9 : lenB 256 y = true := by unfold lenB; have := of_decide_eq_true c16; exact decide_eq_true (by omega)
      obtain ⟨m, hm, hm1, hm2, rfl⟩ := lenB_t h9
      refine lv_aload_n X.1 X.2.1 dX12_runCount_21 rfl (lv_at hl 0 rfl) ?_
      refine (m_isConstant g m0 lt er el cm_ sv md fmm lc lz af pt_ oc ty_ sz_ em k n s h c tk k0 n0 s0 z p f (by omega) (by assumption) (by assumption)).callV (rest := []) X dX12_runCount_22 q1409 tX12_isConstant hK (hP.sub [0, 1] rfl) 0 11 rfl rfl rfl hl ⟨⟨Nat.le_of_ble_eq_true rfl, Nat.le_of_ble_eq_true rfl⟩, Nat.le_of_ble_eq_true rfl, Nat.le_of_ble_eq_true rfl⟩ rfl rfl (Nat.le_of_ble_eq_true rfl) ?_
      refine b_if_eq (tgt := 52) X dX12_runCount_25 (by decide) (fun c25 => ?_) (fun c25 => ?_)
      · refine lv_iconst (v := (nI 0)) X.1 X.2.1 dX12_runCount_52 (by decide) ?_
        refine lv_istore_n (lv' := [(3, .int (nI 0)), (0, .ref m0), (1, .int (nI j)), (2, .int (nI m))]) X.1 X.2.1 dX12_runCount_53 rfl hl (by decide) rfl (fun ls hl => ?_)
        refine lv_iconst (v := (nI 0)) X.1 X.2.1 dX12_runCount_54 (by decide) ?_
        refine lv_istore (lv' := [(4, .int (nI 0)), (3, .int (nI 0)), (0, .ref m0), (1, .int (nI j)), (2, .int (nI m))]) X.1 X.2.1 dX12_runCount_55 hl (by decide) rfl (fun ls hl => ?_)
        have L57 : ∀ (r : Nat) (v : Nat) (i : Nat) (h1 : i + r = s.length) (hq : cntL (runQ s j m) r i v = cntL (runQ s j m) s.length 0 0) (ls : Array Slot) (hl : lv_has ls 6 [(4, .int (nI i)), (3, .int (nI v)), (0, .ref m0), (1, .int (nI j)), (2, .int (nI m))]), W p_ l_ e_ { frames := 2, cells := 0, slots := 0, locals := 47 } S_ m_ args below meth co S_.heap [] 0 0 (MQ below (vp_Si (fun r => r = (a_runCount k s (nI j) (nI m)))) args S_ 0 0 (fun _ => False)) (F0 m_ 57 ls []) := by
          intro r
          induction r with
          | zero =>
            intro v i h1 hq ls hl
            refine lv_iload X.1 X.2.1 dX12_runCount_57 (lv_at hl 0 rfl) ?_
            refine lv_aload_n X.1 X.2.1 dX12_runCount_59 rfl (lv_at hl 2 rfl) ?_
            refine va_get (D := g.1) (ci := 11) (v := .int (nI s.length)) (C := RX12) (T := TX12) (N := 26) X.1 X.2.1 X.2.2.2.2 iwX12 X.2.2.2.1 hK hP 0 rfl rfl 3 (by decide) (X.2.2.2.2 _ q1023) (fun _ h9 => h9) rfl dX12_runCount_60 ?_
            refine z_icmp_ge (tgt := 133) X dX12_runCount_63 (by decide) (nI_toInt (by omega)) (nI_toInt (by omega)) (fun c63 => ?_) (fun c63 => ?_)
            · refine lv_iload_n X.1 X.2.1 dX12_runCount_133 rfl (lv_at hl 1 rfl) ?_
              exact PuI.ret X hr hlk dX12_runCount_134 (nI_nar _) (by unfold a_runCount; rw [c5, h9, xN_N (by omega), xN_N (by omega)]; show _ = nI (runsN s j m); unfold runsN; rw [c25]; exact congrArg nI hq)
            · exfalso; omega
          | succ r ih57 =>
            intro v i h1 hq ls hl
            refine lv_iload X.1 X.2.1 dX12_runCount_57 (lv_at hl 0 rfl) ?_
            refine lv_aload_n X.1 X.2.1 dX12_runCount_59 rfl (lv_at hl 2 rfl) ?_
            refine va_get (D := g.1) (ci := 11) (v := .int (nI s.length)) (C := RX12) (T := TX12) (N := 26) X.1 X.2.1 X.2.2.2.2 iwX12 X.2.2.2.1 hK hP 0 rfl rfl 3 (by decide) (X.2.2.2.2 _ q1023) (fun _ h9 => h9) rfl dX12_runCount_60 ?_
            refine z_icmp_ge (tgt := 133) X dX12_runCount_63 (by decide) (nI_toInt (by omega)) (nI_toInt (by omega)) (fun c63 => ?_) (fun c63 => ?_)
            · exfalso; omega
            · refine lv_aload_n X.1 X.2.1 dX12_runCount_66 rfl (lv_at hl 2 rfl) ?_
              refine va_get (D := g.1) (ci := 11) (v := .ref lt) (C := RX12) (T := TX12) (N := 26) X.1 X.2.1 X.2.2.2.2 iwX12 X.2.2.2.1 hK hP 0 rfl rfl 2 (by decide) (X.2.2.2.2 _ q1022) (fun _ h9 => h9) rfl dX12_runCount_67 ?_
              refine lv_iload X.1 X.2.1 dX12_runCount_70 (lv_at hl 0 rfl) ?_
              refine n_iald X hK hP 1 0 rfl rfl (by omega) (by decide) dX12_runCount_72 ?_
              have e1 := bd_at hb i
              refine tp_i (y := (nI (s.getD i 0))) (hf i (by omega)) ?_
              refine lv_iload_n X.1 X.2.1 dX12_runCount_73 rfl (lv_at hl 3 rfl) ?_
              refine z_icmp_ne (tgt := 127) X dX12_runCount_74 (by decide) (nI_toInt (by omega)) (nI_toInt (by omega)) (fun c74 => ?_) (fun c74 => ?_)
              · refine lv_iinc (v := (nI (i + 1))) (lv' := [(4, .int (nI (i + 1))), (3, .int (nI v)), (0, .ref m0), (1, .int (nI j)), (2, .int (nI m))]) X.1 X.2.1 dX12_runCount_127 hl (k := 0) rfl (nI_inc _) (by decide) rfl (fun ls hl => ?_)
                refine lv_goto (tgt := 57) X.1 X.2.1 dX12_runCount_130 (by decide) ?_
                exact ih57 v (i + 1) (by omega) (by rw [cntL, runQ] at hq; first | (rw [decide_eq_false (by omega)] at hq; exact hq) | (rw [decide_eq_true (by omega)] at hq; exact hq)) ls (lv_sub hl [0, 1, 2, 3, 4] rfl)
              · refine lv_aload_n X.1 X.2.1 dX12_runCount_77 rfl (lv_at hl 2 rfl) ?_
                refine lv_iload X.1 X.2.1 dX12_runCount_78 (lv_at hl 0 rfl) ?_
                refine lv_iconst (v := (nI 1)) X.1 X.2.1 dX12_runCount_80 (by decide) ?_
                refine lv_isub X.1 X.2.1 dX12_runCount_81 ?_
                refine tp_i (y := (iI (((i : Nat) : Int) - ((1 : Nat) : Int)))) (by first | rw [iI_sub] | rw [nI_iI, nI_iI, iI_sub] | rw [nI_iI, iI_sub]) ?_
                refine lv_i2l X.1 X.2.1 dX12_runCount_82 rfl ?_
                refine (m_at g m0 lt er el cm_ sv md fmm lc lz af pt_ oc ty_ sz_ em k n s h c tk k0 n0 s0 z p f ((iI (((i : Nat) : Int) - ((1 : Nat) : Int))).toInt64) (by omega) (by assumption) (by omega)).callV (rest := []) X dX12_runCount_83 q1238 tX12_at hK (hP.sub [0, 1] rfl) 0 11 rfl rfl rfl hl ⟨⟨Nat.le_of_ble_eq_true rfl, Nat.le_of_ble_eq_true rfl⟩, Nat.le_of_ble_eq_true rfl, Nat.le_of_ble_eq_true rfl⟩ rfl rfl (Nat.le_of_ble_eq_true rfl) ?_
                have e2 := bd_at hb ((i + s.length - 1) % s.length)
                refine tp_i (y := (nI (s.getD ((i + s.length - 1) % s.length) 0))) (at_p (by omega) hs (by omega)) ?_
                refine lv_iload_n X.1 X.2.1 dX12_runCount_86 rfl (lv_at hl 3 rfl) ?_
                refine z_icmp_eq (tgt := 127) X dX12_runCount_87 (by decide) (nI_toInt (by omega)) (nI_toInt (by omega)) (fun c87 => ?_) (fun c87 => ?_)
                · refine lv_iinc (v := (nI (i + 1))) (lv' := [(4, .int (nI (i + 1))), (3, .int (nI v)), (0, .ref m0), (1, .int (nI j)), (2, .int (nI m))]) X.1 X.2.1 dX12_runCount_127 hl (k := 0) rfl (nI_inc _) (by decide) rfl (fun ls hl => ?_)
                  refine lv_goto (tgt := 57) X.1 X.2.1 dX12_runCount_130 (by decide) ?_
                  exact ih57 v (i + 1) (by omega) (by rw [cntL, runQ] at hq; first | (rw [decide_eq_false (by omega)] at hq; exact hq) | (rw [decide_eq_true (by omega)] at hq; exact hq)) ls (lv_sub hl [0, 1, 2, 3, 4] rfl)
                · have hl2 : 2 ≤ s.length := run_two (by omega) c74 c87
                  refine lv_iconst (v := (nI 1)) X.1 X.2.1 dX12_runCount_90 (by decide) ?_
                  refine lv_istore (lv' := [(5, .int (nI 1)), (4, .int (nI i)), (3, .int (nI v)), (0, .ref m0), (1, .int (nI j)), (2, .int (nI m))]) X.1 X.2.1 dX12_runCount_91 hl (by decide) rfl (fun ls hl => ?_)
                  have L93 : ∀ (r2 : Nat) (zz : Nat) (hz : zz + r2 + 1 = s.length) (hq2 : rsL s i (r2 + 1) zz = rsN s i) (ls : Array Slot) (hl : lv_has ls 6 [(5, .int (nI zz)), (4, .int (nI i)), (3, .int (nI v)), (0, .ref m0), (1, .int (nI j)), (2, .int (nI m))]), W p_ l_ e_ { frames := 2, cells := 0, slots := 0, locals := 47 } S_ m_ args below meth co S_.heap [] 0 0 (MQ below (vp_Si (fun r => r = (a_runCount k s (nI j) (nI m)))) args S_ 0 0 (fun _ => False)) (F0 m_ 93 ls []) := by
                    intro r2
                    induction r2 with
                    | zero =>
                      intro zz hz hq2 ls hl
                      have hz8 : s.getD ((i + zz) % s.length) 0 = s.getD ((i + s.length - 1) % s.length) 0 := by rw [show i + zz = i + s.length - 1 by omega]
                      refine lv_aload_n X.1 X.2.1 dX12_runCount_93 rfl (lv_at hl 3 rfl) ?_
                      refine lv_iload X.1 X.2.1 dX12_runCount_94 (lv_at hl 1 rfl) ?_
                      refine lv_iload X.1 X.2.1 dX12_runCount_96 (lv_at hl 0 rfl) ?_
                      refine n_add X dX12_runCount_98 ?_
                      refine lv_i2l (v := lN (i + zz)) X.1 X.2.1 dX12_runCount_99 (nI_l (by omega)) ?_
                      refine (m_atN g m0 lt er el cm_ sv md fmm lc lz af pt_ oc ty_ sz_ em k n s h c tk k0 n0 s0 z p f (i + zz) (by omega) (by assumption) (by omega) (by omega)).callV (rest := []) X dX12_runCount_100 q1238 tX12_at hK (hP.sub [0, 1] rfl) 0 11 rfl rfl rfl hl ⟨⟨Nat.le_of_ble_eq_true rfl, Nat.le_of_ble_eq_true rfl⟩, Nat.le_of_ble_eq_true rfl, Nat.le_of_ble_eq_true rfl⟩ rfl rfl (Nat.le_of_ble_eq_true rfl) ?_
                      have e3 := bd_at hb ((i + zz) % s.length)
                      refine lv_iload_n X.1 X.2.1 dX12_runCount_103 rfl (lv_at hl 4 rfl) ?_
                      refine z_icmp_ne (tgt := 113) X dX12_runCount_104 (by decide) (nI_toInt (by omega)) (nI_toInt (by omega)) (fun c104 => ?_) (fun c104 => ?_)
                      · have e8 : rsN s i = zz := by rw [rsL, if_neg (by omega)] at hq2; exact hq2.symm
                        refine lv_iload_n X.1 X.2.1 dX12_runCount_113 rfl (lv_at hl 2 rfl) ?_
                        refine lv_iload X.1 X.2.1 dX12_runCount_114 (lv_at hl 0 rfl) ?_
                        refine lv_iload_n X.1 X.2.1 dX12_runCount_116 rfl (lv_at hl 5 rfl) ?_
                        refine z_icmp_ne (tgt := 124) X dX12_runCount_117 (by decide) (nI_toInt (by omega)) (nI_toInt (by omega)) (fun c117 => ?_) (fun c117 => ?_)
                        · refine lv_iconst (v := (nI 0)) X.1 X.2.1 dX12_runCount_124 (by decide) ?_
                          refine n_add X dX12_runCount_125 ?_
                          refine lv_istore_n (lv' := [(3, .int (nI (v + 0))), (5, .int (nI zz)), (4, .int (nI i)), (0, .ref m0), (1, .int (nI j)), (2, .int (nI m))]) X.1 X.2.1 dX12_runCount_126 rfl hl (by decide) rfl (fun ls hl => ?_)
                          refine lv_iinc (v := (nI (i + 1))) (lv' := [(4, .int (nI (i + 1))), (3, .int (nI (v + 0))), (5, .int (nI zz)), (0, .ref m0), (1, .int (nI j)), (2, .int (nI m))]) X.1 X.2.1 dX12_runCount_127 hl (k := 2) rfl (nI_inc _) (by decide) rfl (fun ls hl => ?_)
                          refine lv_goto (tgt := 57) X.1 X.2.1 dX12_runCount_130 (by decide) ?_
                          exact ih57 (v + 0) (i + 1) (by omega) (by rw [cntL, runQ] at hq; first | (rw [decide_eq_false (by omega)] at hq; exact hq) | (rw [decide_eq_true (by omega)] at hq; exact hq)) ls (lv_sub hl [0, 1, 3, 4, 5] rfl)
                        · refine lv_iconst (v := (nI 1)) X.1 X.2.1 dX12_runCount_120 (by decide) ?_
                          refine lv_goto (tgt := 125) X.1 X.2.1 dX12_runCount_121 (by decide) ?_
                          refine n_add X dX12_runCount_125 ?_
                          refine lv_istore_n (lv' := [(3, .int (nI (v + 1))), (5, .int (nI zz)), (4, .int (nI i)), (0, .ref m0), (1, .int (nI j)), (2, .int (nI m))]) X.1 X.2.1 dX12_runCount_126 rfl hl (by decide) rfl (fun ls hl => ?_)
                          refine lv_iinc (v := (nI (i + 1))) (lv' := [(4, .int (nI (i + 1))), (3, .int (nI (v + 1))), (5, .int (nI zz)), (0, .ref m0), (1, .int (nI j)), (2, .int (nI m))]) X.1 X.2.1 dX12_runCount_127 hl (k := 2) rfl (nI_inc _) (by decide) rfl (fun ls hl => ?_)
                          refine lv_goto (tgt := 57) X.1 X.2.1 dX12_runCount_130 (by decide) ?_
                          exact ih57 (v + 1) (i + 1) (by omega) (by rw [cntL, runQ] at hq; first | (rw [decide_eq_false (by omega)] at hq; exact hq) | (rw [decide_eq_true (by omega)] at hq; exact hq)) ls (lv_sub hl [0, 1, 3, 4, 5] rfl)
                      · refine lv_iinc (v := (nI (zz + 1))) (lv' := [(5, .int (nI (zz + 1))), (4, .int (nI i)), (3, .int (nI v)), (0, .ref m0), (1, .int (nI j)), (2, .int (nI m))]) X.1 X.2.1 dX12_runCount_107 hl (k := 0) rfl (nI_inc _) (by decide) rfl (fun ls hl => ?_)
                        refine lv_goto (tgt := 93) X.1 X.2.1 dX12_runCount_110 (by decide) ?_
                        exfalso; omega
                    | succ r2 ih93 =>
                      intro zz hz hq2 ls hl
                      refine lv_aload_n X.1 X.2.1 dX12_runCount_93 rfl (lv_at hl 3 rfl) ?_
                      refine lv_iload X.1 X.2.1 dX12_runCount_94 (lv_at hl 1 rfl) ?_
                      refine lv_iload X.1 X.2.1 dX12_runCount_96 (lv_at hl 0 rfl) ?_
                      refine n_add X dX12_runCount_98 ?_
                      refine lv_i2l (v := lN (i + zz)) X.1 X.2.1 dX12_runCount_99 (nI_l (by omega)) ?_
                      refine (m_atN g m0 lt er el cm_ sv md fmm lc lz af pt_ oc ty_ sz_ em k n s h c tk k0 n0 s0 z p f (i + zz) (by omega) (by assumption) (by omega) (by omega)).callV (rest := []) X dX12_runCount_100 q1238 tX12_at hK (hP.sub [0, 1] rfl) 0 11 rfl rfl rfl hl ⟨⟨Nat.le_of_ble_eq_true rfl, Nat.le_of_ble_eq_true rfl⟩, Nat.le_of_ble_eq_true rfl, Nat.le_of_ble_eq_true rfl⟩ rfl rfl (Nat.le_of_ble_eq_true rfl) ?_
                      have e3 := bd_at hb ((i + zz) % s.length)
                      refine lv_iload_n X.1 X.2.1 dX12_runCount_103 rfl (lv_at hl 4 rfl) ?_
                      refine z_icmp_ne (tgt := 113) X dX12_runCount_104 (by decide) (nI_toInt (by omega)) (nI_toInt (by omega)) (fun c104 => ?_) (fun c104 => ?_)
                      · have e8 : rsN s i = zz := by rw [rsL, if_neg (by omega)] at hq2; exact hq2.symm
                        refine lv_iload_n X.1 X.2.1 dX12_runCount_113 rfl (lv_at hl 2 rfl) ?_
                        refine lv_iload X.1 X.2.1 dX12_runCount_114 (lv_at hl 0 rfl) ?_
                        refine lv_iload_n X.1 X.2.1 dX12_runCount_116 rfl (lv_at hl 5 rfl) ?_
                        refine z_icmp_ne (tgt := 124) X dX12_runCount_117 (by decide) (nI_toInt (by omega)) (nI_toInt (by omega)) (fun c117 => ?_) (fun c117 => ?_)
                        · refine lv_iconst (v := (nI 0)) X.1 X.2.1 dX12_runCount_124 (by decide) ?_
                          refine n_add X dX12_runCount_125 ?_
                          refine lv_istore_n (lv' := [(3, .int (nI (v + 0))), (5, .int (nI zz)), (4, .int (nI i)), (0, .ref m0), (1, .int (nI j)), (2, .int (nI m))]) X.1 X.2.1 dX12_runCount_126 rfl hl (by decide) rfl (fun ls hl => ?_)
                          refine lv_iinc (v := (nI (i + 1))) (lv' := [(4, .int (nI (i + 1))), (3, .int (nI (v + 0))), (5, .int (nI zz)), (0, .ref m0), (1, .int (nI j)), (2, .int (nI m))]) X.1 X.2.1 dX12_runCount_127 hl (k := 2) rfl (nI_inc _) (by decide) rfl (fun ls hl => ?_)
                          refine lv_goto (tgt := 57) X.1 X.2.1 dX12_runCount_130 (by decide) ?_
                          exact ih57 (v + 0) (i + 1) (by omega) (by rw [cntL, runQ] at hq; first | (rw [decide_eq_false (by omega)] at hq; exact hq) | (rw [decide_eq_true (by omega)] at hq; exact hq)) ls (lv_sub hl [0, 1, 3, 4, 5] rfl)
                        · refine lv_iconst (v := (nI 1)) X.1 X.2.1 dX12_runCount_120 (by decide) ?_
                          refine lv_goto (tgt := 125) X.1 X.2.1 dX12_runCount_121 (by decide) ?_
                          refine n_add X dX12_runCount_125 ?_
                          refine lv_istore_n (lv' := [(3, .int (nI (v + 1))), (5, .int (nI zz)), (4, .int (nI i)), (0, .ref m0), (1, .int (nI j)), (2, .int (nI m))]) X.1 X.2.1 dX12_runCount_126 rfl hl (by decide) rfl (fun ls hl => ?_)
                          refine lv_iinc (v := (nI (i + 1))) (lv' := [(4, .int (nI (i + 1))), (3, .int (nI (v + 1))), (5, .int (nI zz)), (0, .ref m0), (1, .int (nI j)), (2, .int (nI m))]) X.1 X.2.1 dX12_runCount_127 hl (k := 2) rfl (nI_inc _) (by decide) rfl (fun ls hl => ?_)
                          refine lv_goto (tgt := 57) X.1 X.2.1 dX12_runCount_130 (by decide) ?_
                          exact ih57 (v + 1) (i + 1) (by omega) (by rw [cntL, runQ] at hq; first | (rw [decide_eq_false (by omega)] at hq; exact hq) | (rw [decide_eq_true (by omega)] at hq; exact hq)) ls (lv_sub hl [0, 1, 3, 4, 5] rfl)
                      · refine lv_iinc (v := (nI (zz + 1))) (lv' := [(5, .int (nI (zz + 1))), (4, .int (nI i)), (3, .int (nI v)), (0, .ref m0), (1, .int (nI j)), (2, .int (nI m))]) X.1 X.2.1 dX12_runCount_107 hl (k := 0) rfl (nI_inc _) (by decide) rfl (fun ls hl => ?_)
                        refine lv_goto (tgt := 93) X.1 X.2.1 dX12_runCount_110 (by decide) ?_
                        exact ih93 (zz + 1) (by omega) (by rw [rsL, if_pos (by omega)] at hq2; exact hq2) ls (lv_sub hl [0, 1, 2, 3, 4, 5] rfl)
                  exact L93 (s.length - 2) 1 (by omega) (by unfold rsN; rw [show s.length - 2 + 1 = s.length - 1 by omega]) ls (lv_sub hl [0, 1, 2, 3, 4, 5] rfl)
        exact L57 s.length 0 0 (by omega) (rfl) ls (lv_sub hl [0, 1, 2, 3, 4] rfl)
      · refine lv_aload_n X.1 X.2.1 dX12_runCount_28 rfl (lv_at hl 0 rfl) ?_
        refine va_get (D := g.1) (ci := 11) (v := .int (nI s.length)) (C := RX12) (T := TX12) (N := 26) X.1 X.2.1 X.2.2.2.2 iwX12 X.2.2.2.1 hK hP 0 rfl rfl 3 (by decide) (X.2.2.2.2 _ q1023) (fun _ h9 => h9) rfl dX12_runCount_29 ?_
        refine lv_iload_n X.1 X.2.1 dX12_runCount_32 rfl (lv_at hl 2 rfl) ?_
        refine z_icmp_ne (tgt := 50) X dX12_runCount_33 (by decide) (nI_toInt (by omega)) (nI_toInt (by omega)) (fun c33 => ?_) (fun c33 => ?_)
        · refine lv_iconst (v := (nI 0)) X.1 X.2.1 dX12_runCount_50 (by decide) ?_
          exact PuI.ret X hr hlk dX12_runCount_51 (nI_nar _) (by unfold a_runCount; rw [c5, h9, xN_N (by omega), xN_N (by omega)]; show _ = nI (runsN s j m); unfold runsN; rw [c25, if_pos rfl]; first | (rw [if_neg (by omega)]; done) | (rw [e0, nI_toInt (by omega)]; first | (rw [if_pos (by omega)]; done) | (rw [if_neg (by omega)]; done)))
        · refine lv_aload_n X.1 X.2.1 dX12_runCount_36 rfl (lv_at hl 0 rfl) ?_
          refine va_get (D := g.1) (ci := 11) (v := .ref lt) (C := RX12) (T := TX12) (N := 26) X.1 X.2.1 X.2.2.2.2 iwX12 X.2.2.2.1 hK hP 0 rfl rfl 2 (by decide) (X.2.2.2.2 _ q1022) (fun _ h9 => h9) rfl dX12_runCount_37 ?_
          refine lv_iconst (v := (nI 0)) X.1 X.2.1 dX12_runCount_40 (by decide) ?_
          refine n_iald X hK hP 1 0 rfl rfl (by omega) (by decide) dX12_runCount_41 ?_
          have e1 := bd_at hb 0
          have e0 := atI_N (s := s) (j := 0) (by omega) (by omega)
          refine tp_i (y := (nI (s.getD 0 0))) (hf 0 (by omega)) ?_
          refine lv_iload_n X.1 X.2.1 dX12_runCount_42 rfl (lv_at hl 1 rfl) ?_
          refine z_icmp_ne (tgt := 50) X dX12_runCount_43 (by decide) (nI_toInt (by omega)) (nI_toInt (by omega)) (fun c43 => ?_) (fun c43 => ?_)
          · refine lv_iconst (v := (nI 0)) X.1 X.2.1 dX12_runCount_50 (by decide) ?_
            exact PuI.ret X hr hlk dX12_runCount_51 (nI_nar _) (by unfold a_runCount; rw [c5, h9, xN_N (by omega), xN_N (by omega)]; show _ = nI (runsN s j m); unfold runsN; rw [c25, if_pos rfl]; first | (rw [if_neg (by omega)]; done) | (rw [e0, nI_toInt (by omega)]; first | (rw [if_pos (by omega)]; done) | (rw [if_neg (by omega)]; done)))
          · refine lv_iconst (v := (nI 1)) X.1 X.2.1 dX12_runCount_46 (by decide) ?_
            refine lv_goto (tgt := 51) X.1 X.2.1 dX12_runCount_47 (by decide) ?_
            exact PuI.ret X hr hlk dX12_runCount_51 (nI_nar _) (by unfold a_runCount; rw [c5, h9, xN_N (by omega), xN_N (by omega)]; show _ = nI (runsN s j m); unfold runsN; rw [c25, if_pos rfl]; first | (rw [if_neg (by omega)]; done) | (rw [e0, nI_toInt (by omega)]; first | (rw [if_pos (by omega)]; done) | (rw [if_neg (by omega)]; done)))
    · refine lv_iconst (v := (-1)) X.1 X.2.1 dX12_runCount_19 (by decide) ?_
      exact PuI.ret X hr hlk dX12_runCount_20 (nI_nar _) (by unfold a_runCount; first | (rw [c5]; rfl) | (rw [show lenB 256 y = false from by unfold lenB; have := of_decide_eq_false c16; exact decide_eq_false (by omega), Bool.and_false]; rfl))

set_option maxHeartbeats 4000000 in
set_option maxRecDepth 100000 in
theorem m_discrepancy (g : G5) (m0 : Nat) (lt : Nat) (er : Nat) (el : Nat) (cm_ : Nat) (sv : Nat) (md : Nat) (fmm : Nat) (lc : Nat) (lz : Nat) (af : Nat) (pt_ : Nat) (oc : Nat) (ty_ : Nat) (sz_ : Nat) (em : Nat) (k : Nat) (n : Nat) (s : List Nat) (h : List (List Nat)) (c : List Nat) (tk : Bool) (k0 : Nat) (n0 : Nat) (s0 : List Nat) (z : List Nat) (p : List Int) (f : Nat → Int32) (B : Nat) (T : Nat) (x : Int32) (hc : shp k n B T) (hs : s.length ≤ 256) (hf : rep f s) (hb : bd s) : PuI yX12_discrepancy cX12_discrepancy 6 (some .int) 2 43 g [.ref m0, .int x] [(m0, .inr (11, [.int (nI k), .int (nI n), .ref lt, .int (nI s.length), .ref er, .ref el, .int (nI h.length), .ref cm_, .int (nI c.length), .int (bI tk), .int (nI k0), .int (nI n0), .ref sv, .int (nI s0.length), .ref md, .int (nI z.length), .ref fmm, .ref lc, .ref lz, .ref af, .ref pt_, .int (nI p.length), .ref oc, .ref ty_, .ref sz_, .ref em])), (lt, .inl (g.2.1, 256, .inl f))] (a_discrepancy k s x) := by
  refine PuI.of (by decide +kernel) (Nat.le_of_ble_eq_true rfl) ?_
  intro p_ l_ e_ S_ m_ args below meth co X hr hlk hP hK ls hl
  have X : CallFix p_ m_ co cX12_discrepancy 6 S_ args lw_all RX12 := X
  have hl : lv_has ls 6 [(0, .ref m0), (1, .int x)] := hl
  obtain ⟨hk2, hk4, hn1, hn6, hB, hT, hBT, hT2⟩ := hc.f
  have hB0 : 0 < B := by rw [hBT]; exact Nat.mul_pos (by omega) (by omega)
  refine lv_aload_n X.1 X.2.1 dX12_discrepancy_0 rfl (lv_at hl 0 rfl) ?_
  refine lv_iload_n X.1 X.2.1 dX12_discrepancy_1 rfl (lv_at hl 1 rfl) ?_
  refine (m_isLetter g m0 lt er el cm_ sv md fmm lc lz af pt_ oc ty_ sz_ em k n s h c tk k0 n0 s0 z p B T x (by assumption)).callV (rest := []) X dX12_discrepancy_2 q1222 tX12_isLetter hK (hP.sub [0] rfl) 0 11 rfl rfl rfl hl ⟨⟨Nat.le_of_ble_eq_true rfl, Nat.le_of_ble_eq_true rfl⟩, Nat.le_of_ble_eq_true rfl, Nat.le_of_ble_eq_true rfl⟩ rfl rfl (Nat.le_of_ble_eq_true rfl) ?_
  refine b_if_ne (tgt := 10) X dX12_discrepancy_5 (by decide) (fun c5 => ?_) (fun c5 => ?_)
  · obtain ⟨j, hj, rfl⟩ := hasB_t c5
    refine lv_iconst (v := (nI 0)) X.1 X.2.1 dX12_discrepancy_10 (by decide) ?_
    refine tp_i (y := (iI 0)) (rfl) ?_
    refine lv_istore_n (lv' := [(2, .int (iI 0)), (0, .ref m0), (1, .int (nI j))]) X.1 X.2.1 dX12_discrepancy_11 rfl hl (by decide) rfl (fun ls hl => ?_)
    refine lv_iconst (v := (nI 0)) X.1 X.2.1 dX12_discrepancy_12 (by decide) ?_
    refine tp_i (y := (iI 0)) (rfl) ?_
    refine lv_istore_n (lv' := [(3, .int (iI 0)), (2, .int (iI 0)), (0, .ref m0), (1, .int (nI j))]) X.1 X.2.1 dX12_discrepancy_13 rfl hl (by decide) rfl (fun ls hl => ?_)
    refine lv_iconst (v := (nI 0)) X.1 X.2.1 dX12_discrepancy_14 (by decide) ?_
    refine tp_i (y := (iI 0)) (rfl) ?_
    refine lv_istore (lv' := [(4, .int (iI 0)), (3, .int (iI 0)), (2, .int (iI 0)), (0, .ref m0), (1, .int (nI j))]) X.1 X.2.1 dX12_discrepancy_15 hl (by decide) rfl (fun ls hl => ?_)
    refine lv_iconst (v := (nI 0)) X.1 X.2.1 dX12_discrepancy_17 (by decide) ?_
    refine lv_istore (lv' := [(5, .int (nI 0)), (4, .int (iI 0)), (3, .int (iI 0)), (2, .int (iI 0)), (0, .ref m0), (1, .int (nI j))]) X.1 X.2.1 dX12_discrepancy_18 hl (by decide) rfl (fun ls hl => ?_)
    have L20 : ∀ (r : Nat) (d : Int) (lo : Int) (hi : Int) (i : Nat) (h1 : i + r = s.length) (h2 : -(i : Int) ≤ d ∧ d ≤ 3 * (i : Int)) (h3 : -(i : Int) ≤ lo ∧ lo ≤ 0) (h4 : 0 ≤ hi ∧ hi ≤ 3 * (i : Int)) (hq : spL s j k r i d lo hi = spL s j k s.length 0 0 0 0) (ls : Array Slot) (hl : lv_has ls 6 [(5, .int (nI i)), (4, .int (iI hi)), (3, .int (iI lo)), (2, .int (iI d)), (0, .ref m0), (1, .int (nI j))]), W p_ l_ e_ { frames := 2, cells := 0, slots := 0, locals := 43 } S_ m_ args below meth co S_.heap [] 0 0 (MQ below (vp_Si (fun r => r = (a_discrepancy k s (nI j)))) args S_ 0 0 (fun _ => False)) (F0 m_ 20 ls []) := by
      intro r
      induction r with
      | zero =>
        intro d lo hi i h1 h2 h3 h4 hq ls hl
        refine lv_iload X.1 X.2.1 dX12_discrepancy_20 (lv_at hl 0 rfl) ?_
        refine lv_aload_n X.1 X.2.1 dX12_discrepancy_22 rfl (lv_at hl 4 rfl) ?_
        refine va_get (D := g.1) (ci := 11) (v := .int (nI s.length)) (C := RX12) (T := TX12) (N := 26) X.1 X.2.1 X.2.2.2.2 iwX12 X.2.2.2.1 hK hP 0 rfl rfl 3 (by decide) (X.2.2.2.2 _ q1023) (fun _ h9 => h9) rfl dX12_discrepancy_23 ?_
        refine z_icmp_ge (tgt := 73) X dX12_discrepancy_26 (by decide) (nI_toInt (by omega)) (nI_toInt (by omega)) (fun c26 => ?_) (fun c26 => ?_)
        · refine lv_iload X.1 X.2.1 dX12_discrepancy_73 (lv_at hl 1 rfl) ?_
          refine lv_iload_n X.1 X.2.1 dX12_discrepancy_75 rfl (lv_at hl 2 rfl) ?_
          refine lv_isub X.1 X.2.1 dX12_discrepancy_76 ?_
          refine tp_i (y := (iI (hi - lo))) (by first | rw [iI_sub] | rw [nI_iI, nI_iI, iI_sub] | rw [nI_iI, iI_sub]) ?_
          exact PuI.ret X hr hlk dX12_discrepancy_77 (nI_nar _) (by unfold a_discrepancy; rw [c5, xN_N (by omega), ← hq]; rfl)
        · exfalso; omega
      | succ r ih20 =>
        intro d lo hi i h1 h2 h3 h4 hq ls hl
        refine lv_iload X.1 X.2.1 dX12_discrepancy_20 (lv_at hl 0 rfl) ?_
        refine lv_aload_n X.1 X.2.1 dX12_discrepancy_22 rfl (lv_at hl 4 rfl) ?_
        refine va_get (D := g.1) (ci := 11) (v := .int (nI s.length)) (C := RX12) (T := TX12) (N := 26) X.1 X.2.1 X.2.2.2.2 iwX12 X.2.2.2.1 hK hP 0 rfl rfl 3 (by decide) (X.2.2.2.2 _ q1023) (fun _ h9 => h9) rfl dX12_discrepancy_23 ?_
        refine z_icmp_ge (tgt := 73) X dX12_discrepancy_26 (by decide) (nI_toInt (by omega)) (nI_toInt (by omega)) (fun c26 => ?_) (fun c26 => ?_)
        · exfalso; omega
        · refine lv_iload_n X.1 X.2.1 dX12_discrepancy_29 rfl (lv_at hl 3 rfl) ?_
          refine lv_aload_n X.1 X.2.1 dX12_discrepancy_30 rfl (lv_at hl 4 rfl) ?_
          refine va_get (D := g.1) (ci := 11) (v := .ref lt) (C := RX12) (T := TX12) (N := 26) X.1 X.2.1 X.2.2.2.2 iwX12 X.2.2.2.1 hK hP 0 rfl rfl 2 (by decide) (X.2.2.2.2 _ q1022) (fun _ h9 => h9) rfl dX12_discrepancy_31 ?_
          refine lv_iload X.1 X.2.1 dX12_discrepancy_34 (lv_at hl 0 rfl) ?_
          refine n_iald X hK hP 1 0 rfl rfl (by omega) (by decide) dX12_discrepancy_36 ?_
          have e1 := bd_at hb i
          refine tp_i (y := (nI (s.getD i 0))) (hf i (by omega)) ?_
          refine lv_iload_n X.1 X.2.1 dX12_discrepancy_37 rfl (lv_at hl 5 rfl) ?_
          refine z_icmp_ne (tgt := 50) X dX12_discrepancy_38 (by decide) (nI_toInt (by omega)) (nI_toInt (by omega)) (fun c38 => ?_) (fun c38 => ?_)
          · refine lv_iconst (v := (-1)) X.1 X.2.1 dX12_discrepancy_50 (by decide) ?_
            refine lv_iadd X.1 X.2.1 dX12_discrepancy_51 ?_
            have e5 : -1 ≤ (if s.getD i 0 = j then (k : Int) - 1 else -1) ∧ (if s.getD i 0 = j then (k : Int) - 1 else -1) ≤ 3 := by split <;> omega
            refine tp_i (y := (iI (d + (if s.getD i 0 = j then (k : Int) - 1 else -1)))) (by first | (rw [if_pos (by omega)]; congr 1; omega) | (rw [if_neg (by omega), ← iI_add]; rfl)) ?_
            refine lv_istore_n (lv' := [(2, .int (iI (d + (if s.getD i 0 = j then (k : Int) - 1 else -1)))), (5, .int (nI i)), (4, .int (iI hi)), (3, .int (iI lo)), (0, .ref m0), (1, .int (nI j))]) X.1 X.2.1 dX12_discrepancy_52 rfl hl (by decide) rfl (fun ls hl => ?_)
            refine lv_iload_n X.1 X.2.1 dX12_discrepancy_53 rfl (lv_at hl 3 rfl) ?_
            refine lv_iload_n X.1 X.2.1 dX12_discrepancy_54 rfl (lv_at hl 0 rfl) ?_
            refine (c_minI g lo (d + (if s.getD i 0 = j then (k : Int) - 1 else -1)) (by omega) (by omega)).callS (rest := []) X dX12_discrepancy_55 q1161 tJ9_min_7cf53 hK (hP.sub [] rfl) hl ⟨⟨Nat.le_of_ble_eq_true rfl, Nat.le_of_ble_eq_true rfl⟩, Nat.le_of_ble_eq_true rfl, Nat.le_of_ble_eq_true rfl⟩ rfl rfl (Nat.le_of_ble_eq_true rfl) ?_
            refine lv_istore_n (lv' := [(3, .int (iI (min lo (d + (if s.getD i 0 = j then (k : Int) - 1 else -1))))), (2, .int (iI (d + (if s.getD i 0 = j then (k : Int) - 1 else -1)))), (5, .int (nI i)), (4, .int (iI hi)), (0, .ref m0), (1, .int (nI j))]) X.1 X.2.1 dX12_discrepancy_58 rfl hl (by decide) rfl (fun ls hl => ?_)
            refine lv_iload X.1 X.2.1 dX12_discrepancy_59 (lv_at hl 3 rfl) ?_
            refine lv_iload_n X.1 X.2.1 dX12_discrepancy_61 rfl (lv_at hl 1 rfl) ?_
            refine (c_maxI g hi (d + (if s.getD i 0 = j then (k : Int) - 1 else -1)) (by omega) (by omega)).callS (rest := []) X dX12_discrepancy_62 q1417 tJ9_max_7cf53 hK (hP.sub [] rfl) hl ⟨⟨Nat.le_of_ble_eq_true rfl, Nat.le_of_ble_eq_true rfl⟩, Nat.le_of_ble_eq_true rfl, Nat.le_of_ble_eq_true rfl⟩ rfl rfl (Nat.le_of_ble_eq_true rfl) ?_
            refine lv_istore (lv' := [(4, .int (iI (max hi (d + (if s.getD i 0 = j then (k : Int) - 1 else -1))))), (3, .int (iI (min lo (d + (if s.getD i 0 = j then (k : Int) - 1 else -1))))), (2, .int (iI (d + (if s.getD i 0 = j then (k : Int) - 1 else -1)))), (5, .int (nI i)), (0, .ref m0), (1, .int (nI j))]) X.1 X.2.1 dX12_discrepancy_65 hl (by decide) rfl (fun ls hl => ?_)
            refine lv_iinc (v := (nI (i + 1))) (lv' := [(5, .int (nI (i + 1))), (4, .int (iI (max hi (d + (if s.getD i 0 = j then (k : Int) - 1 else -1))))), (3, .int (iI (min lo (d + (if s.getD i 0 = j then (k : Int) - 1 else -1))))), (2, .int (iI (d + (if s.getD i 0 = j then (k : Int) - 1 else -1)))), (0, .ref m0), (1, .int (nI j))]) X.1 X.2.1 dX12_discrepancy_67 hl (k := 3) rfl (nI_inc _) (by decide) rfl (fun ls hl => ?_)
            refine lv_goto (tgt := 20) X.1 X.2.1 dX12_discrepancy_70 (by decide) ?_
            exact ih20 (d + (if s.getD i 0 = j then (k : Int) - 1 else -1)) (min lo (d + (if s.getD i 0 = j then (k : Int) - 1 else -1))) (max hi (d + (if s.getD i 0 = j then (k : Int) - 1 else -1))) (i + 1) (by omega) (by split <;> omega) (by split <;> omega) (by split <;> omega) (by rw [spL] at hq; exact hq) ls (lv_sub hl [0, 1, 2, 3, 4, 5] rfl)
          · refine lv_aload_n X.1 X.2.1 dX12_discrepancy_41 rfl (lv_at hl 4 rfl) ?_
            refine va_get (D := g.1) (ci := 11) (v := .int (nI k)) (C := RX12) (T := TX12) (N := 26) X.1 X.2.1 X.2.2.2.2 iwX12 X.2.2.2.1 hK hP 0 rfl rfl 0 (by decide) (X.2.2.2.2 _ q1020) (fun _ h9 => h9) rfl dX12_discrepancy_42 ?_
            refine lv_iconst (v := (nI 1)) X.1 X.2.1 dX12_discrepancy_45 (by decide) ?_
            refine n_sub X dX12_discrepancy_46 (by omega) ?_
            refine lv_goto (tgt := 51) X.1 X.2.1 dX12_discrepancy_47 (by decide) ?_
            refine lv_iadd X.1 X.2.1 dX12_discrepancy_51 ?_
            refine tp_i (y := (iI (d + ((k - 1 : Nat) : Int)))) (by first | rw [iI_add] | rw [nI_iI, nI_iI, iI_add] | rw [nI_iI, iI_add]) ?_
            have e5 : -1 ≤ (if s.getD i 0 = j then (k : Int) - 1 else -1) ∧ (if s.getD i 0 = j then (k : Int) - 1 else -1) ≤ 3 := by split <;> omega
            refine tp_i (y := (iI (d + (if s.getD i 0 = j then (k : Int) - 1 else -1)))) (by first | (rw [if_pos (by omega)]; congr 1; omega) | (rw [if_neg (by omega), ← iI_add]; rfl)) ?_
            refine lv_istore_n (lv' := [(2, .int (iI (d + (if s.getD i 0 = j then (k : Int) - 1 else -1)))), (5, .int (nI i)), (4, .int (iI hi)), (3, .int (iI lo)), (0, .ref m0), (1, .int (nI j))]) X.1 X.2.1 dX12_discrepancy_52 rfl hl (by decide) rfl (fun ls hl => ?_)
            refine lv_iload_n X.1 X.2.1 dX12_discrepancy_53 rfl (lv_at hl 3 rfl) ?_
            refine lv_iload_n X.1 X.2.1 dX12_discrepancy_54 rfl (lv_at hl 0 rfl) ?_
            refine (c_minI g lo (d + (if s.getD i 0 = j then (k : Int) - 1 else -1)) (by omega) (by omega)).callS (rest := []) X dX12_discrepancy_55 q1161 tJ9_min_7cf53 hK (hP.sub [] rfl) hl ⟨⟨Nat.le_of_ble_eq_true rfl, Nat.le_of_ble_eq_true rfl⟩, Nat.le_of_ble_eq_true rfl, Nat.le_of_ble_eq_true rfl⟩ rfl rfl (Nat.le_of_ble_eq_true rfl) ?_
            refine lv_istore_n (lv' := [(3, .int (iI (min lo (d + (if s.getD i 0 = j then (k : Int) - 1 else -1))))), (2, .int (iI (d + (if s.getD i 0 = j then (k : Int) - 1 else -1)))), (5, .int (nI i)), (4, .int (iI hi)), (0, .ref m0), (1, .int (nI j))]) X.1 X.2.1 dX12_discrepancy_58 rfl hl (by decide) rfl (fun ls hl => ?_)
            refine lv_iload X.1 X.2.1 dX12_discrepancy_59 (lv_at hl 3 rfl) ?_
            refine lv_iload_n X.1 X.2.1 dX12_discrepancy_61 rfl (lv_at hl 1 rfl) ?_
            refine (c_maxI g hi (d + (if s.getD i 0 = j then (k : Int) - 1 else -1)) (by omega) (by omega)).callS (rest := []) X dX12_discrepancy_62 q1417 tJ9_max_7cf53 hK (hP.sub [] rfl) hl ⟨⟨Nat.le_of_ble_eq_true rfl, Nat.le_of_ble_eq_true rfl⟩, Nat.le_of_ble_eq_true rfl, Nat.le_of_ble_eq_true rfl⟩ rfl rfl (Nat.le_of_ble_eq_true rfl) ?_
            refine lv_istore (lv' := [(4, .int (iI (max hi (d + (if s.getD i 0 = j then (k : Int) - 1 else -1))))), (3, .int (iI (min lo (d + (if s.getD i 0 = j then (k : Int) - 1 else -1))))), (2, .int (iI (d + (if s.getD i 0 = j then (k : Int) - 1 else -1)))), (5, .int (nI i)), (0, .ref m0), (1, .int (nI j))]) X.1 X.2.1 dX12_discrepancy_65 hl (by decide) rfl (fun ls hl => ?_)
            refine lv_iinc (v := (nI (i + 1))) (lv' := [(5, .int (nI (i + 1))), (4, .int (iI (max hi (d + (if s.getD i 0 = j then (k : Int) - 1 else -1))))), (3, .int (iI (min lo (d + (if s.getD i 0 = j then (k : Int) - 1 else -1))))), (2, .int (iI (d + (if s.getD i 0 = j then (k : Int) - 1 else -1)))), (0, .ref m0), (1, .int (nI j))]) X.1 X.2.1 dX12_discrepancy_67 hl (k := 3) rfl (nI_inc _) (by decide) rfl (fun ls hl => ?_)
            refine lv_goto (tgt := 20) X.1 X.2.1 dX12_discrepancy_70 (by decide) ?_
            exact ih20 (d + (if s.getD i 0 = j then (k : Int) - 1 else -1)) (min lo (d + (if s.getD i 0 = j then (k : Int) - 1 else -1))) (max hi (d + (if s.getD i 0 = j then (k : Int) - 1 else -1))) (i + 1) (by omega) (by split <;> omega) (by split <;> omega) (by split <;> omega) (by rw [spL] at hq; exact hq) ls (lv_sub hl [0, 1, 2, 3, 4, 5] rfl)
    exact L20 s.length 0 0 0 0 (by omega) (by omega) (by omega) (by omega) (rfl) ls (lv_sub hl [0, 1, 2, 3, 4, 5] rfl)
  · refine lv_iconst (v := (-1)) X.1 X.2.1 dX12_discrepancy_8 (by decide) ?_
    exact PuI.ret X hr hlk dX12_discrepancy_9 (nI_nar _) (by unfold a_discrepancy; rw [c5]; rfl)

set_option maxHeartbeats 4000000 in
set_option maxRecDepth 100000 in
theorem m_undoCount (g : G5) (m0 : Nat) (lt : Nat) (er : Nat) (el : Nat) (cm_ : Nat) (sv : Nat) (md : Nat) (fmm : Nat) (lc : Nat) (lz : Nat) (af : Nat) (pt_ : Nat) (oc : Nat) (ty_ : Nat) (sz_ : Nat) (em : Nat) (k : Nat) (n : Nat) (s : List Nat) (h : List (List Nat)) (c : List Nat) (tk : Bool) (k0 : Nat) (n0 : Nat) (s0 : List Nat) (z : List Nat) (p : List Int) : PuI yX12_undoCount cX12_undoCount 1 (some .int) 0 0 g [.ref m0] [(m0, .inr (11, [.int (nI k), .int (nI n), .ref lt, .int (nI s.length), .ref er, .ref el, .int (nI h.length), .ref cm_, .int (nI c.length), .int (bI tk), .int (nI k0), .int (nI n0), .ref sv, .int (nI s0.length), .ref md, .int (nI z.length), .ref fmm, .ref lc, .ref lz, .ref af, .ref pt_, .int (nI p.length), .ref oc, .ref ty_, .ref sz_, .ref em]))] (nI h.length) := by
  refine PuI.of (by decide +kernel) (Nat.le_of_ble_eq_true rfl) ?_
  intro p_ l_ e_ S_ m_ args below meth co X hr hlk hP hK ls hl
  have X : CallFix p_ m_ co cX12_undoCount 1 S_ args lw_all RX12 := X
  have hl : lv_has ls 1 [(0, .ref m0)] := hl
  refine lv_aload_n X.1 X.2.1 dX12_undoCount_0 rfl (lv_at hl 0 rfl) ?_
  refine va_get (D := g.1) (ci := 11) (v := .int (nI h.length)) (C := RX12) (T := TX12) (N := 26) X.1 X.2.1 X.2.2.2.2 iwX12 X.2.2.2.1 hK hP 0 rfl rfl 6 (by decide) (X.2.2.2.2 _ q1026) (fun _ h9 => h9) rfl dX12_undoCount_1 ?_
  exact PuI.ret X hr hlk dX12_undoCount_4 (nI_nar _) (rfl)
