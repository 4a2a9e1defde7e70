set_option maxHeartbeats 4000000 in
set_option maxRecDepth 100000 in
theorem c_inI (g : G5) (x : Int32) (lo : Nat) (hi : Int) (h1 : lo < 2 ^ 31) (h2 : -2147483648 ≤ hi ∧ hi < 2147483648) : PuI yX12_in cX12_in 3 (some .boolean) 0 0 g [.int x, .int (nI lo), .int (iI hi)] [] (bI (decide ((lo : Int) ≤ x.toInt ∧ x.toInt ≤ hi))) := by
  refine PuI.of (by decide +kernel) (Nat.le_of_ble_eq_true rfl) ?_
  intro p_ l_ e_ S_ m_ args below meth co X hr hlk hP hK ls hl
  have X : CallFix p_ m_ co cX12_in 3 S_ args lw_all RX12 := X
  have hl : lv_has ls 3 [(0, .int x), (1, .int (nI lo)), (2, .int (iI hi))] := hl
  refine lv_iload_n X.1 X.2.1 dX12_in_0 rfl (lv_at hl 0 rfl) ?_
  refine lv_iload_n X.1 X.2.1 dX12_in_1 rfl (lv_at hl 1 rfl) ?_
  refine z_icmp_lt (tgt := 14) X dX12_in_2 (by decide) rfl (nI_toInt (by omega)) (fun c2 => ?_) (fun c2 => ?_)
  · refine lv_iconst (v := (nI 0)) X.1 X.2.1 dX12_in_14 (by decide) ?_
    exact PuI.ret X hr hlk dX12_in_15 (bI_nar _) (by first | exact bt (by exact decide_eq_true (by omega)) | exact bf (by exact decide_eq_false (by omega)))
  · refine lv_iload_n X.1 X.2.1 dX12_in_5 rfl (lv_at hl 0 rfl) ?_
    refine lv_iload_n X.1 X.2.1 dX12_in_6 rfl (lv_at hl 2 rfl) ?_
    refine z_icmp_gt (tgt := 14) X dX12_in_7 (by decide) rfl (iI_toInt (by omega) (by omega)) (fun c7 => ?_) (fun c7 => ?_)
    · refine lv_iconst (v := (nI 0)) X.1 X.2.1 dX12_in_14 (by decide) ?_
      exact PuI.ret X hr hlk dX12_in_15 (bI_nar _) (by first | exact bt (by exact decide_eq_true (by omega)) | exact bf (by exact decide_eq_false (by omega)))
    · refine lv_iconst (v := (nI 1)) X.1 X.2.1 dX12_in_10 (by decide) ?_
      refine lv_goto (tgt := 15) X.1 X.2.1 dX12_in_11 (by decide) ?_
      exact PuI.ret X hr hlk dX12_in_15 (bI_nar _) (by first | exact bt (by exact decide_eq_true (by omega)) | exact bf (by exact decide_eq_false (by omega)))

set_option maxHeartbeats 4000000 in
set_option maxRecDepth 100000 in
theorem c_inN (g : G5) (x : Int32) (lo : Nat) (hi : Nat) (h1 : lo < 2 ^ 31) (h2 : hi < 2 ^ 31) : PuI yX12_in cX12_in 3 (some .boolean) 0 0 g [.int x, .int (nI lo), .int (nI hi)] [] (bI (decide ((lo : Int) ≤ x.toInt ∧ x.toInt ≤ (hi : Int)))) := by
  refine PuI.of (by decide +kernel) (Nat.le_of_ble_eq_true rfl) ?_
  intro p_ l_ e_ S_ m_ args below meth co X hr hlk hP hK ls hl
  have X : CallFix p_ m_ co cX12_in 3 S_ args lw_all RX12 := X
  have hl : lv_has ls 3 [(0, .int x), (1, .int (nI lo)), (2, .int (nI hi))] := hl
  refine lv_iload_n X.1 X.2.1 dX12_in_0 rfl (lv_at hl 0 rfl) ?_
  refine lv_iload_n X.1 X.2.1 dX12_in_1 rfl (lv_at hl 1 rfl) ?_
  refine z_icmp_lt (tgt := 14) X dX12_in_2 (by decide) rfl (nI_toInt (by omega)) (fun c2 => ?_) (fun c2 => ?_)
  · refine lv_iconst (v := (nI 0)) X.1 X.2.1 dX12_in_14 (by decide) ?_
    exact PuI.ret X hr hlk dX12_in_15 (bI_nar _) (by first | exact bt (by exact decide_eq_true (by omega)) | exact bf (by exact decide_eq_false (by omega)))
  · refine lv_iload_n X.1 X.2.1 dX12_in_5 rfl (lv_at hl 0 rfl) ?_
    refine lv_iload_n X.1 X.2.1 dX12_in_6 rfl (lv_at hl 2 rfl) ?_
    refine z_icmp_gt (tgt := 14) X dX12_in_7 (by decide) rfl (nI_toInt (by omega)) (fun c7 => ?_) (fun c7 => ?_)
    · refine lv_iconst (v := (nI 0)) X.1 X.2.1 dX12_in_14 (by decide) ?_
      exact PuI.ret X hr hlk dX12_in_15 (bI_nar _) (by first | exact bt (by exact decide_eq_true (by omega)) | exact bf (by exact decide_eq_false (by omega)))
    · refine lv_iconst (v := (nI 1)) X.1 X.2.1 dX12_in_10 (by decide) ?_
      refine lv_goto (tgt := 15) X.1 X.2.1 dX12_in_11 (by decide) ?_
      exact PuI.ret X hr hlk dX12_in_15 (bI_nar _) (by first | exact bt (by exact decide_eq_true (by omega)) | exact bf (by exact decide_eq_false (by omega)))

set_option maxHeartbeats 4000000 in
set_option maxRecDepth 100000 in
theorem c_mpower (g : G5) (b : Nat) (e : Nat) (he : e < 2 ^ 31) : PuI yX12_power cX12_power 4 (some .int) 0 0 g [.int (nI b), .int (nI e)] [] (nI (b ^ e)) := by
  refine PuI.of (by decide +kernel) (Nat.le_of_ble_eq_true rfl) ?_
  intro p_ l_ e_ S_ m_ args below meth co X hr hlk hP hK ls hl
  have X : CallFix p_ m_ co cX12_power 4 S_ args lw_all RX12 := X
  have hl : lv_has ls 4 [(0, .int (nI b)), (1, .int (nI e))] := hl
  refine lv_iconst (v := (nI 1)) X.1 X.2.1 dX12_power_0 (by decide) ?_
  refine lv_istore_n (lv' := [(2, .int (nI 1)), (0, .int (nI b)), (1, .int (nI e))]) X.1 X.2.1 dX12_power_1 rfl hl (by decide) rfl (fun ls hl => ?_)
  refine lv_iconst (v := (nI 0)) X.1 X.2.1 dX12_power_2 (by decide) ?_
  refine lv_istore_n (lv' := [(3, .int (nI 0)), (2, .int (nI 1)), (0, .int (nI b)), (1, .int (nI e))]) X.1 X.2.1 dX12_power_3 rfl hl (by decide) rfl (fun ls hl => ?_)
  have L4 : ∀ (r : Nat) (v : Nat) (i : Nat) (h1 : i + r = e) (hq : v * b ^ r = b ^ e) (ls : Array Slot) (hl : lv_has ls 4 [(3, .int (nI i)), (2, .int (nI v)), (0, .int (nI b)), (1, .int (nI e))]), W p_ l_ e_ { frames := 0, cells := 0, slots := 0, locals := 0 } S_ m_ args below meth co S_.heap [] 0 0 (MQ below (vp_Si (fun r => r = (nI (b ^ e)))) args S_ 0 0 (fun _ => False)) (F0 m_ 4 ls []) := by
    intro r
    induction r with
    | zero =>
      intro v i h1 hq ls hl
      refine lv_iload_n X.1 X.2.1 dX12_power_4 rfl (lv_at hl 0 rfl) ?_
      refine lv_iload_n X.1 X.2.1 dX12_power_5 rfl (lv_at hl 3 rfl) ?_
      refine z_icmp_ge (tgt := 19) X dX12_power_6 (by decide) (nI_toInt (by omega)) (nI_toInt (by omega)) (fun c6 => ?_) (fun c6 => ?_)
      · refine lv_iload_n X.1 X.2.1 dX12_power_19 rfl (lv_at hl 1 rfl) ?_
        exact PuI.ret X hr hlk dX12_power_20 (nI_nar _) (by rw [← hq]; simp)
      · exfalso; omega
    | succ r ih4 =>
      intro v i h1 hq ls hl
      refine lv_iload_n X.1 X.2.1 dX12_power_4 rfl (lv_at hl 0 rfl) ?_
      refine lv_iload_n X.1 X.2.1 dX12_power_5 rfl (lv_at hl 3 rfl) ?_
      refine z_icmp_ge (tgt := 19) X dX12_power_6 (by decide) (nI_toInt (by omega)) (nI_toInt (by omega)) (fun c6 => ?_) (fun c6 => ?_)
      · exfalso; omega
      · refine lv_iload_n X.1 X.2.1 dX12_power_9 rfl (lv_at hl 1 rfl) ?_
        refine lv_iload_n X.1 X.2.1 dX12_power_10 rfl (lv_at hl 2 rfl) ?_
        refine n_mul X dX12_power_11 ?_
        refine lv_istore_n (lv' := [(2, .int (nI (v * b))), (3, .int (nI i)), (0, .int (nI b)), (1, .int (nI e))]) X.1 X.2.1 dX12_power_12 rfl hl (by decide) rfl (fun ls hl => ?_)
        refine lv_iinc (v := (nI (i + 1))) (lv' := [(3, .int (nI (i + 1))), (2, .int (nI (v * b))), (0, .int (nI b)), (1, .int (nI e))]) X.1 X.2.1 dX12_power_13 hl (k := 1) rfl (nI_inc _) (by decide) rfl (fun ls hl => ?_)
        refine lv_goto (tgt := 4) X.1 X.2.1 dX12_power_16 (by decide) ?_
        exact ih4 (v * b) (i + 1) (by omega) (by rw [← hq, Nat.pow_succ, Nat.mul_assoc, Nat.mul_comm b]) ls (lv_sub hl [0, 1, 2, 3] rfl)
  exact L4 e 1 0 (by omega) (by simp) ls (lv_sub hl [0, 1, 2, 3] rfl)

set_option maxHeartbeats 4000000 in
set_option maxRecDepth 100000 in
theorem c_fmodL (g : G5) (x : Int64) (y : Nat) (hy : 0 < y) (hy2 : y < 2 ^ 31) : PuL yJ9_floorMod_f86c9 cJ9_floorMod_f86c9 6 (some .long) 0 0 g [.long x, .long (lN y)] [] (lN (x.toInt % (y : Int)).toNat) := by
  refine PuL.ofF (by decide +kernel) (Nat.le_of_ble_eq_true rfl) ?_
  intro p_ l_ e_ S_ m_ args below meth co X hr hlk hP hK ls hl
  have X : CallFix p_ m_ co cJ9_floorMod_f86c9 6 S_ args lw_all RJ9 := X
  have hl : lv_has ls 6 [(0, .long x), (2, .long (lN y))] := hl
  refine lv_lload_n X.1 X.2.1 dJ9_floorMod_f86c9_0 rfl (lv_at hl 0 rfl) ?_
  refine lv_lload_n X.1 X.2.1 dJ9_floorMod_f86c9_1 rfl (lv_at hl 1 rfl) ?_
  refine lv_lrem X.1 X.2.1 dJ9_floorMod_f86c9_2 (by exact lN_ne0 hy hy2) ?_
  refine lv_lstore (lv' := [(4, .long (x - x / (lN y) * (lN y))), (0, .long x), (2, .long (lN y))]) X.1 X.2.1 dJ9_floorMod_f86c9_3 hl (by decide) rfl (fun ls hl => ?_)
  refine lv_lload_n X.1 X.2.1 dJ9_floorMod_f86c9_5 rfl (lv_at hl 1 rfl) ?_
  refine lv_lload_n X.1 X.2.1 dJ9_floorMod_f86c9_6 rfl (lv_at hl 2 rfl) ?_
  refine lv_lxor X.1 X.2.1 dJ9_floorMod_f86c9_7 ?_
  refine lv_lconst (v := lN 0) X.1 X.2.1 dJ9_floorMod_f86c9_8 (by decide) ?_
  refine W.lcmp X.1 X.2.1 dJ9_floorMod_f86c9_9 ?_
  have hq := l_xor x hy2
  have hq2 := lgc_lt (x ^^^ lN y) (lN 0)
  rw [show (lN 0).toInt = 0 from rfl] at hq2
  refine z_if_ge (tgt := 25) X dJ9_floorMod_f86c9_10 (by decide) rfl (fun c10 => ?_) (fun c10 => ?_)
  · refine lv_lload X.1 X.2.1 dJ9_floorMod_f86c9_25 (lv_at hl 0 rfl) ?_
    exact PuL.ret X hr hlk dJ9_floorMod_f86c9_27 (by first | exact lf_a hy hy2 (Or.inr (hq3.mp c17)) | exact lf_a hy hy2 (Or.inl (by have := fun q => hq2.mpr (hq.mpr q); omega)))
  · refine lv_lload X.1 X.2.1 dJ9_floorMod_f86c9_13 (lv_at hl 0 rfl) ?_
    refine lv_lconst (v := lN 0) X.1 X.2.1 dJ9_floorMod_f86c9_15 (by decide) ?_
    refine W.lcmp X.1 X.2.1 dJ9_floorMod_f86c9_16 ?_
    have hq3 := lgc_eq (x - x / lN y * lN y) (lN 0)
    rw [show (lN 0).toInt = 0 from rfl] at hq3
    refine z_if_eq (tgt := 25) X dJ9_floorMod_f86c9_17 (by decide) rfl (fun c17 => ?_) (fun c17 => ?_)
    · refine lv_lload X.1 X.2.1 dJ9_floorMod_f86c9_25 (lv_at hl 0 rfl) ?_
      exact PuL.ret X hr hlk dJ9_floorMod_f86c9_27 (by first | exact lf_a hy hy2 (Or.inr (hq3.mp c17)) | exact lf_a hy hy2 (Or.inl (by have := fun q => hq2.mpr (hq.mpr q); omega)))
    · refine lv_lload X.1 X.2.1 dJ9_floorMod_f86c9_20 (lv_at hl 0 rfl) ?_
      refine lv_lload_n X.1 X.2.1 dJ9_floorMod_f86c9_22 rfl (lv_at hl 2 rfl) ?_
      refine lv_ladd X.1 X.2.1 dJ9_floorMod_f86c9_23 ?_
      exact PuL.ret X hr hlk dJ9_floorMod_f86c9_24 (lf_c hy hy2 (hq.mp (hq2.mp c10)) (fun q => c17 (hq3.mpr q)))

set_option maxHeartbeats 4000000 in
set_option maxRecDepth 100000 in
theorem m_blocks (g : G5) (m0 : Nat) (lt : Nat) (er : Nat) (el : Nat) (cm_ : Nat) (sv : Nat) (md : Nat) (fmm : Nat) (lc : Nat) (lz : Nat) (af : Nat) (pt_ : Nat) (oc : Nat) (ty_ : Nat) (sz_ : Nat) (em : Nat) (k : Nat) (n : Nat) (s : List Nat) (h : List (List Nat)) (c : List Nat) (tk : Bool) (k0 : Nat) (n0 : Nat) (s0 : List Nat) (z : List Nat) (p : List Int) (B : Nat) (T : Nat) (hc : shp k n B T) : PuI yX12_blocks cX12_blocks 1 (some .int) 1 23 g [.ref m0] [(m0, .inr (11, [.int (nI k), .int (nI n), .ref lt, .int (nI s.length), .ref er, .ref el, .int (nI h.length), .ref cm_, .int (nI c.length), .int (bI tk), .int (nI k0), .int (nI n0), .ref sv, .int (nI s0.length), .ref md, .int (nI z.length), .ref fmm, .ref lc, .ref lz, .ref af, .ref pt_, .int (nI p.length), .ref oc, .ref ty_, .ref sz_, .ref em]))] (nI B) := by
  refine PuI.of (by decide +kernel) (Nat.le_of_ble_eq_true rfl) ?_
  intro p_ l_ e_ S_ m_ args below meth co X hr hlk hP hK ls hl
  have X : CallFix p_ m_ co cX12_blocks 1 S_ args lw_all RX12 := X
  have hl : lv_has ls 1 [(0, .ref m0)] := hl
  obtain ⟨hk2, hk4, hn1, hn6, hB, hT, hBT, hT2⟩ := hc.f
  have hB0 : 0 < B := by rw [hBT]; exact Nat.mul_pos (by omega) (by omega)
  refine lv_aload_n X.1 X.2.1 dX12_blocks_0 rfl (lv_at hl 0 rfl) ?_
  refine va_get (D := g.1) (ci := 11) (v := .int (nI k)) (C := RX12) (T := TX12) (N := 26) X.1 X.2.1 X.2.2.2.2 iwX12 X.2.2.2.1 hK hP 0 rfl rfl 0 (by decide) (X.2.2.2.2 _ q1020) (fun _ h9 => h9) rfl dX12_blocks_1 ?_
  refine lv_aload_n X.1 X.2.1 dX12_blocks_4 rfl (lv_at hl 0 rfl) ?_
  refine va_get (D := g.1) (ci := 11) (v := .int (nI n)) (C := RX12) (T := TX12) (N := 26) X.1 X.2.1 X.2.2.2.2 iwX12 X.2.2.2.1 hK hP 0 rfl rfl 1 (by decide) (X.2.2.2.2 _ q1021) (fun _ h9 => h9) rfl dX12_blocks_5 ?_
  refine (c_mpower g k n (by omega)).callS (rest := []) X dX12_blocks_8 q1106 tX12_power hK (hP.sub [] rfl) hl ⟨⟨Nat.le_of_ble_eq_true rfl, Nat.le_of_ble_eq_true rfl⟩, Nat.le_of_ble_eq_true rfl, Nat.le_of_ble_eq_true rfl⟩ rfl rfl (Nat.le_of_ble_eq_true rfl) ?_
  exact PuI.ret X hr hlk dX12_blocks_11 (nI_nar _) (by rw [hc.2.1])

set_option maxHeartbeats 4000000 in
set_option maxRecDepth 100000 in
theorem m_isBlock (g : G5) (m0 : Nat) (lt : Nat) (er : Nat) (el : Nat) (cm_ : Nat) (sv : Nat) (md : Nat) (fmm : Nat) (lc : Nat) (lz : Nat) (af : Nat) (pt_ : Nat) (oc : Nat) (ty_ : Nat) (sz_ : Nat) (em : Nat) (k : Nat) (n : Nat) (s : List Nat) (h : List (List Nat)) (c : List Nat) (tk : Bool) (k0 : Nat) (n0 : Nat) (s0 : List Nat) (z : List Nat) (p : List Int) (B : Nat) (T : Nat) (x : Int32) (hc : shp k n B T) : PuI yX12_isBlock cX12_isBlock 2 (some .boolean) 2 43 g [.ref m0, .int x] [(m0, .inr (11, [.int (nI k), .int (nI n), .ref lt, .int (nI s.length), .ref er, .ref el, .int (nI h.length), .ref cm_, .int (nI c.length), .int (bI tk), .int (nI k0), .int (nI n0), .ref sv, .int (nI s0.length), .ref md, .int (nI z.length), .ref fmm, .ref lc, .ref lz, .ref af, .ref pt_, .int (nI p.length), .ref oc, .ref ty_, .ref sz_, .ref em]))] (bI (hasB x B)) := by
  refine PuI.of (by decide +kernel) (Nat.le_of_ble_eq_true rfl) ?_
  intro p_ l_ e_ S_ m_ args below meth co X hr hlk hP hK ls hl
  have X : CallFix p_ m_ co cX12_isBlock 2 S_ args lw_all RX12 := X
  have hl : lv_has ls 2 [(0, .ref m0), (1, .int x)] := hl
  obtain ⟨hk2, hk4, hn1, hn6, hB, hT, hBT, hT2⟩ := hc.f
  have hB0 : 0 < B := by rw [hBT]; exact Nat.mul_pos (by omega) (by omega)
  refine lv_iload_n X.1 X.2.1 dX12_isBlock_0 rfl (lv_at hl 1 rfl) ?_
  refine lv_iconst (v := (nI 0)) X.1 X.2.1 dX12_isBlock_1 (by decide) ?_
  refine lv_aload_n X.1 X.2.1 dX12_isBlock_2 rfl (lv_at hl 0 rfl) ?_
  refine (m_blocks g m0 lt er el cm_ sv md fmm lc lz af pt_ oc ty_ sz_ em k n s h c tk k0 n0 s0 z p B T (by assumption)).callV (rest := [.int (nI 0), .int x]) X dX12_isBlock_3 q1109 tX12_blocks hK (hP.sub [0] rfl) 0 11 rfl rfl rfl hl ⟨⟨Nat.le_of_ble_eq_true rfl, Nat.le_of_ble_eq_true rfl⟩, Nat.le_of_ble_eq_true rfl, Nat.le_of_ble_eq_true rfl⟩ rfl rfl (Nat.le_of_ble_eq_true rfl) ?_
  refine lv_iconst (v := (nI 1)) X.1 X.2.1 dX12_isBlock_6 (by decide) ?_
  refine lv_isub X.1 X.2.1 dX12_isBlock_7 ?_
  refine tp_i (y := (iI (((B : Nat) : Int) - ((1 : Nat) : Int)))) (by first | rw [iI_sub] | rw [nI_iI, nI_iI, iI_sub] | rw [nI_iI, iI_sub]) ?_
  refine (c_inI g x 0 (((B : Nat) : Int) - ((1 : Nat) : Int)) (by omega) (by omega)).callS (rest := []) X dX12_isBlock_8 q1103 tX12_in hK (hP.sub [] rfl) hl ⟨⟨Nat.le_of_ble_eq_true rfl, Nat.le_of_ble_eq_true rfl⟩, Nat.le_of_ble_eq_true rfl, Nat.le_of_ble_eq_true rfl⟩ rfl rfl (Nat.le_of_ble_eq_true rfl) ?_
  exact PuI.ret X hr hlk dX12_isBlock_11 (bI_nar _) (by unfold hasB; congr 1; exact decide_eq_decide.mpr (by omega))

set_option maxHeartbeats 4000000 in
set_option maxRecDepth 100000 in
theorem m_isLetter (g : G5) (m0 : Nat) (lt : Nat) (er : Nat) (el : Nat) (cm_ : Nat) (sv : Nat) (md : Nat) (fmm : Nat) (lc : Nat) (lz : Nat) (af : Nat) (pt_ : Nat) (oc : Nat) (ty_ : Nat) (sz_ : Nat) (em : Nat) (k : Nat) (n : Nat) (s : List Nat) (h : List (List Nat)) (c : List Nat) (tk : Bool) (k0 : Nat) (n0 : Nat) (s0 : List Nat) (z : List Nat) (p : List Int) (B : Nat) (T : Nat) (x : Int32) (hc : shp k n B T) : PuI yX12_isLetter cX12_isLetter 2 (some .boolean) 1 22 g [.ref m0, .int x] [(m0, .inr (11, [.int (nI k), .int (nI n), .ref lt, .int (nI s.length), .ref er, .ref el, .int (nI h.length), .ref cm_, .int (nI c.length), .int (bI tk), .int (nI k0), .int (nI n0), .ref sv, .int (nI s0.length), .ref md, .int (nI z.length), .ref fmm, .ref lc, .ref lz, .ref af, .ref pt_, .int (nI p.length), .ref oc, .ref ty_, .ref sz_, .ref em]))] (bI (hasB x k)) := by
  refine PuI.of (by decide +kernel) (Nat.le_of_ble_eq_true rfl) ?_
  intro p_ l_ e_ S_ m_ args below meth co X hr hlk hP hK ls hl
  have X : CallFix p_ m_ co cX12_isLetter 2 S_ args lw_all RX12 := X
  have hl : lv_has ls 2 [(0, .ref m0), (1, .int x)] := hl
  obtain ⟨hk2, hk4, hn1, hn6, hB, hT, hBT, hT2⟩ := hc.f
  have hB0 : 0 < B := by rw [hBT]; exact Nat.mul_pos (by omega) (by omega)
  refine lv_iload_n X.1 X.2.1 dX12_isLetter_0 rfl (lv_at hl 1 rfl) ?_
  refine lv_iconst (v := (nI 0)) X.1 X.2.1 dX12_isLetter_1 (by decide) ?_
  refine lv_aload_n X.1 X.2.1 dX12_isLetter_2 rfl (lv_at hl 0 rfl) ?_
  refine va_get (D := g.1) (ci := 11) (v := .int (nI k)) (C := RX12) (T := TX12) (N := 26) X.1 X.2.1 X.2.2.2.2 iwX12 X.2.2.2.1 hK hP 0 rfl rfl 0 (by decide) (X.2.2.2.2 _ q1020) (fun _ h9 => h9) rfl dX12_isLetter_3 ?_
  refine lv_iconst (v := (nI 1)) X.1 X.2.1 dX12_isLetter_6 (by decide) ?_
  refine lv_isub X.1 X.2.1 dX12_isLetter_7 ?_
  refine tp_i (y := (iI (((k : Nat) : Int) - ((1 : Nat) : Int)))) (by first | rw [iI_sub] | rw [nI_iI, nI_iI, iI_sub] | rw [nI_iI, iI_sub]) ?_
  refine (c_inI g x 0 (((k : Nat) : Int) - ((1 : Nat) : Int)) (by omega) (by omega)).callS (rest := []) X dX12_isLetter_8 q1103 tX12_in hK (hP.sub [] rfl) hl ⟨⟨Nat.le_of_ble_eq_true rfl, Nat.le_of_ble_eq_true rfl⟩, Nat.le_of_ble_eq_true rfl, Nat.le_of_ble_eq_true rfl⟩ rfl rfl (Nat.le_of_ble_eq_true rfl) ?_
  exact PuI.ret X hr hlk dX12_isLetter_11 (bI_nar _) (by unfold hasB; congr 1; exact decide_eq_decide.mpr (by omega))

set_option maxHeartbeats 4000000 in
set_option maxRecDepth 100000 in
theorem m_isPosition (g : G5) (m0 : Nat) (lt : Nat) (er : Nat) (el : Nat) (cm_ : Nat) (sv : Nat) (md : Nat) (fmm : Nat) (lc : Nat) (lz : Nat) (af : Nat) (pt_ : Nat) (oc : Nat) (ty_ : Nat) (sz_ : Nat) (em : Nat) (k : Nat) (n : Nat) (s : List Nat) (h : List (List Nat)) (c : List Nat) (tk : Bool) (k0 : Nat) (n0 : Nat) (s0 : List Nat) (z : List Nat) (p : List Int) (x : Int32) (hs : s.length ≤ 256) : PuI yX12_isPosition cX12_isPosition 2 (some .boolean) 1 22 g [.ref m0, .int x] [(m0, .inr (11, [.int (nI k), .int (nI n), .ref lt, .int (nI s.length), .ref er, .ref el, .int (nI h.length), .ref cm_, .int (nI c.length), .int (bI tk), .int (nI k0), .int (nI n0), .ref sv, .int (nI s0.length), .ref md, .int (nI z.length), .ref fmm, .ref lc, .ref lz, .ref af, .ref pt_, .int (nI p.length), .ref oc, .ref ty_, .ref sz_, .ref em]))] (bI (hasB x s.length)) := by
  refine PuI.of (by decide +kernel) (Nat.le_of_ble_eq_true rfl) ?_
  intro p_ l_ e_ S_ m_ args below meth co X hr hlk hP hK ls hl
  have X : CallFix p_ m_ co cX12_isPosition 2 S_ args lw_all RX12 := X
  have hl : lv_has ls 2 [(0, .ref m0), (1, .int x)] := hl
  refine lv_iload_n X.1 X.2.1 dX12_isPosition_0 rfl (lv_at hl 1 rfl) ?_
  refine lv_iconst (v := (nI 0)) X.1 X.2.1 dX12_isPosition_1 (by decide) ?_
  refine lv_aload_n X.1 X.2.1 dX12_isPosition_2 rfl (lv_at hl 0 rfl) ?_
  refine va_get (D := g.1) (ci := 11) (v := .int (nI s.length)) (C := RX12) (T := TX12) (N := 26) X.1 X.2.1 X.2.2.2.2 iwX12 X.2.2.2.1 hK hP 0 rfl rfl 3 (by decide) (X.2.2.2.2 _ q1023) (fun _ h9 => h9) rfl dX12_isPosition_3 ?_
  refine lv_iconst (v := (nI 1)) X.1 X.2.1 dX12_isPosition_6 (by decide) ?_
  refine lv_isub X.1 X.2.1 dX12_isPosition_7 ?_
  refine tp_i (y := (iI (((s.length : Nat) : Int) - ((1 : Nat) : Int)))) (by first | rw [iI_sub] | rw [nI_iI, nI_iI, iI_sub] | rw [nI_iI, iI_sub]) ?_
  refine (c_inI g x 0 (((s.length : Nat) : Int) - ((1 : Nat) : Int)) (by omega) (by omega)).callS (rest := []) X dX12_isPosition_8 q1103 tX12_in hK (hP.sub [] rfl) hl ⟨⟨Nat.le_of_ble_eq_true rfl, Nat.le_of_ble_eq_true rfl⟩, Nat.le_of_ble_eq_true rfl, Nat.le_of_ble_eq_true rfl⟩ rfl rfl (Nat.le_of_ble_eq_true rfl) ?_
  exact PuI.ret X hr hlk dX12_isPosition_11 (bI_nar _) (by unfold hasB; congr 1; exact decide_eq_decide.mpr (by omega))

set_option maxHeartbeats 4000000 in
set_option maxRecDepth 100000 in
theorem m_letterCount (g : G5) (m0 : Nat) (lt : Nat) (er : Nat) (el : Nat) (cm_ : Nat) (sv : Nat) (md : Nat) (fmm : Nat) (lc : Nat) (lz : Nat) (af : Nat) (pt_ : Nat) (oc : Nat) (ty_ : Nat) (sz_ : Nat) (em : Nat) (k : Nat) (n : Nat) (s : List Nat) (h : List (List Nat)) (c : List Nat) (tk : Bool) (k0 : Nat) (n0 : Nat) (s0 : List Nat) (z : List Nat) (p : List Int) : PuI yX12_letterCount cX12_letterCount 1 (some .int) 0 0 g [.ref m0] [(m0, .inr (11, [.int (nI k), .int (nI n), .ref lt, .int (nI s.length), .ref er, .ref el, .int (nI h.length), .ref cm_, .int (nI c.length), .int (bI tk), .int (nI k0), .int (nI n0), .ref sv, .int (nI s0.length), .ref md, .int (nI z.length), .ref fmm, .ref lc, .ref lz, .ref af, .ref pt_, .int (nI p.length), .ref oc, .ref ty_, .ref sz_, .ref em]))] (nI k) := by
  refine PuI.of (by decide +kernel) (Nat.le_of_ble_eq_true rfl) ?_
  intro p_ l_ e_ S_ m_ args below meth co X hr hlk hP hK ls hl
  have X : CallFix p_ m_ co cX12_letterCount 1 S_ args lw_all RX12 := X
  have hl : lv_has ls 1 [(0, .ref m0)] := hl
  refine lv_aload_n X.1 X.2.1 dX12_letterCount_0 rfl (lv_at hl 0 rfl) ?_
  refine va_get (D := g.1) (ci := 11) (v := .int (nI k)) (C := RX12) (T := TX12) (N := 26) X.1 X.2.1 X.2.2.2.2 iwX12 X.2.2.2.1 hK hP 0 rfl rfl 0 (by decide) (X.2.2.2.2 _ q1020) (fun _ h9 => h9) rfl dX12_letterCount_1 ?_
  exact PuI.ret X hr hlk dX12_letterCount_4 (nI_nar _) (rfl)

set_option maxHeartbeats 4000000 in
set_option maxRecDepth 100000 in
theorem m_order (g : G5) (m0 : Nat) (lt : Nat) (er : Nat) (el : Nat) (cm_ : Nat) (sv : Nat) (md : Nat) (fmm : Nat) (lc : Nat) (lz : Nat) (af : Nat) (pt_ : Nat) (oc : Nat) (ty_ : Nat) (sz_ : Nat) (em : Nat) (k : Nat) (n : Nat) (s : List Nat) (h : List (List Nat)) (c : List Nat) (tk : Bool) (k0 : Nat) (n0 : Nat) (s0 : List Nat) (z : List Nat) (p : List Int) : PuI yX12_order cX12_order 1 (some .int) 0 0 g [.ref m0] [(m0, .inr (11, [.int (nI k), .int (nI n), .ref lt, .int (nI s.length), .ref er, .ref el, .int (nI h.length), .ref cm_, .int (nI c.length), .int (bI tk), .int (nI k0), .int (nI n0), .ref sv, .int (nI s0.length), .ref md, .int (nI z.length), .ref fmm, .ref lc, .ref lz, .ref af, .ref pt_, .int (nI p.length), .ref oc, .ref ty_, .ref sz_, .ref em]))] (nI n) := by
  refine PuI.of (by decide +kernel) (Nat.le_of_ble_eq_true rfl) ?_
  intro p_ l_ e_ S_ m_ args below meth co X hr hlk hP hK ls hl
  have X : CallFix p_ m_ co cX12_order 1 S_ args lw_all RX12 := X
  have hl : lv_has ls 1 [(0, .ref m0)] := hl
  refine lv_aload_n X.1 X.2.1 dX12_order_0 rfl (lv_at hl 0 rfl) ?_
  refine va_get (D := g.1) (ci := 11) (v := .int (nI n)) (C := RX12) (T := TX12) (N := 26) X.1 X.2.1 X.2.2.2.2 iwX12 X.2.2.2.1 hK hP 0 rfl rfl 1 (by decide) (X.2.2.2.2 _ q1021) (fun _ h9 => h9) rfl dX12_order_1 ?_
  exact PuI.ret X hr hlk dX12_order_4 (nI_nar _) (rfl)

set_option maxHeartbeats 4000000 in
set_option maxRecDepth 100000 in
theorem m_length (g : G5) (m0 : Nat) (lt : Nat) (er : Nat) (el : Nat) (cm_ : Nat) (sv : Nat) (md : Nat) (fmm : Nat) (lc : Nat) (lz : Nat) (af : Nat) (pt_ : Nat) (oc : Nat) (ty_ : Nat) (sz_ : Nat) (em : Nat) (k : Nat) (n : Nat) (s : List Nat) (h : List (List Nat)) (c : List Nat) (tk : Bool) (k0 : Nat) (n0 : Nat) (s0 : List Nat) (z : List Nat) (p : List Int) : PuI yX12_length cX12_length 1 (some .int) 0 0 g [.ref m0] [(m0, .inr (11, [.int (nI k), .int (nI n), .ref lt, .int (nI s.length), .ref er, .ref el, .int (nI h.length), .ref cm_, .int (nI c.length), .int (bI tk), .int (nI k0), .int (nI n0), .ref sv, .int (nI s0.length), .ref md, .int (nI z.length), .ref fmm, .ref lc, .ref lz, .ref af, .ref pt_, .int (nI p.length), .ref oc, .ref ty_, .ref sz_, .ref em]))] (nI s.length) := by
  refine PuI.of (by decide +kernel) (Nat.le_of_ble_eq_true rfl) ?_
  intro p_ l_ e_ S_ m_ args below meth co X hr hlk hP hK ls hl
  have X : CallFix p_ m_ co cX12_length 1 S_ args lw_all RX12 := X
  have hl : lv_has ls 1 [(0, .ref m0)] := hl
  refine lv_aload_n X.1 X.2.1 dX12_length_0 rfl (lv_at hl 0 rfl) ?_
  refine va_get (D := g.1) (ci := 11) (v := .int (nI s.length)) (C := RX12) (T := TX12) (N := 26) X.1 X.2.1 X.2.2.2.2 iwX12 X.2.2.2.1 hK hP 0 rfl rfl 3 (by decide) (X.2.2.2.2 _ q1023) (fun _ h9 => h9) rfl dX12_length_1 ?_
  exact PuI.ret X hr hlk dX12_length_4 (nI_nar _) (rfl)

set_option maxHeartbeats 4000000 in
set_option maxRecDepth 100000 in
theorem m_letter (g : G5) (m0 : Nat) (lt : Nat) (er : Nat) (el : Nat) (cm_ : Nat) (sv : Nat) (md : Nat) (fmm : Nat) (lc : Nat) (lz : Nat) (af : Nat) (pt_ : Nat) (oc : Nat) (ty_ : Nat) (sz_ : Nat) (em : Nat) (k : Nat) (n : Nat) (s : List Nat) (h : List (List Nat)) (c : List Nat) (tk : Bool) (k0 : Nat) (n0 : Nat) (s0 : List Nat) (z : List Nat) (p : List Int) (f : Nat → Int32) (x : Int32) (hs : s.length ≤ 256) (hf : rep f s) : PuI yX12_letter cX12_letter 2 (some .int) 2 43 g [.ref m0, .int x] [(m0, .inr (11, [.int (nI k), .int (nI n), .ref lt, .int (nI s.length), .ref er, .ref el, .int (nI h.length), .ref cm_, .int (nI c.length), .int (bI tk), .int (nI k0), .int (nI n0), .ref sv, .int (nI s0.length), .ref md, .int (nI z.length), .ref fmm, .ref lc, .ref lz, .ref af, .ref pt_, .int (nI p.length), .ref oc, .ref ty_, .ref sz_, .ref em])), (lt, .inl (g.2.1, 256, .inl f))] (atI s x) := by
  refine PuI.of (by decide +kernel) (Nat.le_of_ble_eq_true rfl) ?_
  intro p_ l_ e_ S_ m_ args below meth co X hr hlk hP hK ls hl
  have X : CallFix p_ m_ co cX12_letter 2 S_ args lw_all RX12 := X
  have hl : lv_has ls 2 [(0, .ref m0), (1, .int x)] := hl
  refine lv_aload_n X.1 X.2.1 dX12_letter_0 rfl (lv_at hl 0 rfl) ?_
  refine lv_iload_n X.1 X.2.1 dX12_letter_1 rfl (lv_at hl 1 rfl) ?_
  refine (m_isPosition g m0 lt er el cm_ sv md fmm lc lz af pt_ oc ty_ sz_ em k n s h c tk k0 n0 s0 z p x (by omega)).callV (rest := []) X dX12_letter_2 q1129 tX12_isPosition hK (hP.sub [0] rfl) 0 11 rfl rfl rfl hl ⟨⟨Nat.le_of_ble_eq_true rfl, Nat.le_of_ble_eq_true rfl⟩, Nat.le_of_ble_eq_true rfl, Nat.le_of_ble_eq_true rfl⟩ rfl rfl (Nat.le_of_ble_eq_true rfl) ?_
  refine b_if_eq (tgt := 17) X dX12_letter_5 (by decide) (fun c5 => ?_) (fun c5 => ?_)
  · refine lv_bipush (v := (-2)) X.1 X.2.1 dX12_letter_17 (by decide) ?_
    exact PuI.ret X hr hlk dX12_letter_19 (nI_nar _) (by first | (rw [atI_N hj (by omega)]; exact hf j hj) | (unfold atI; rw [c5]; rfl))
  · obtain ⟨j, hj, rfl⟩ := hasB_t c5
    refine lv_aload_n X.1 X.2.1 dX12_letter_8 rfl (lv_at hl 0 rfl) ?_
    refine va_get (D := g.1) (ci := 11) (v := .ref lt) (C := RX12) (T := TX12) (N := 26) X.1 X.2.1 X.2.2.2.2 iwX12 X.2.2.2.1 hK hP 0 rfl rfl 2 (by decide) (X.2.2.2.2 _ q1022) (fun _ h9 => h9) rfl dX12_letter_9 ?_
    refine lv_iload_n X.1 X.2.1 dX12_letter_12 rfl (lv_at hl 1 rfl) ?_
    refine n_iald X hK hP 1 0 rfl rfl (by omega) (by decide) dX12_letter_13 ?_
    refine lv_goto (tgt := 19) X.1 X.2.1 dX12_letter_14 (by decide) ?_
    exact PuI.ret X hr hlk dX12_letter_19 (nI_nar _) (by first | (rw [atI_N hj (by omega)]; exact hf j hj) | (unfold atI; rw [c5]; rfl))

set_option maxHeartbeats 4000000 in
set_option maxRecDepth 100000 in
theorem m_turned (g : G5) (m0 : Nat) (lt : Nat) (er : Nat) (el : Nat) (cm_ : Nat) (sv : Nat) (md : Nat) (fmm : Nat) (lc : Nat) (lz : Nat) (af : Nat) (pt_ : Nat) (oc : Nat) (ty_ : Nat) (sz_ : Nat) (em : Nat) (k : Nat) (n : Nat) (s : List Nat) (h : List (List Nat)) (c : List Nat) (tk : Bool) (k0 : Nat) (n0 : Nat) (s0 : List Nat) (z : List Nat) (p : List Int) (m : Nat) (B1 : Nat) (T1 : Nat) (b : Nat) (hsm : shp k m B1 T1) (hb : b < 2 ^ 31) : PuI yX12_turned cX12_turned 4 (some .int) 1 23 g [.ref m0, .int (nI b), .int (nI m)] [(m0, .inr (11, [.int (nI k), .int (nI n), .ref lt, .int (nI s.length), .ref er, .ref el, .int (nI h.length), .ref cm_, .int (nI c.length), .int (bI tk), .int (nI k0), .int (nI n0), .ref sv, .int (nI s0.length), .ref md, .int (nI z.length), .ref fmm, .ref lc, .ref lz, .ref af, .ref pt_, .int (nI p.length), .ref oc, .ref ty_, .ref sz_, .ref em]))] (nI (turnN k T1 b)) := by
  refine PuI.of (by decide +kernel) (Nat.le_of_ble_eq_true rfl) ?_
  intro p_ l_ e_ S_ m_ args below meth co X hr hlk hP hK ls hl
  have X : CallFix p_ m_ co cX12_turned 4 S_ args lw_all RX12 := X
  have hl : lv_has ls 4 [(0, .ref m0), (1, .int (nI b)), (2, .int (nI m))] := hl
  obtain ⟨hk2, hk4, hm1, hm6, hB1, hT1, hBT1, hT12⟩ := hsm.f
  refine lv_aload_n X.1 X.2.1 dX12_turned_0 rfl (lv_at hl 0 rfl) ?_
  refine va_get (D := g.1) (ci := 11) (v := .int (nI k)) (C := RX12) (T := TX12) (N := 26) X.1 X.2.1 X.2.2.2.2 iwX12 X.2.2.2.1 hK hP 0 rfl rfl 0 (by decide) (X.2.2.2.2 _ q1020) (fun _ h9 => h9) rfl dX12_turned_1 ?_
  refine lv_iload_n X.1 X.2.1 dX12_turned_4 rfl (lv_at hl 2 rfl) ?_
  refine lv_iconst (v := (nI 1)) X.1 X.2.1 dX12_turned_5 (by decide) ?_
  refine n_sub X dX12_turned_6 (by omega) ?_
  refine (c_mpower g k (m - 1) (by omega)).callS (rest := []) X dX12_turned_7 q1106 tX12_power hK (hP.sub [] rfl) hl ⟨⟨Nat.le_of_ble_eq_true rfl, Nat.le_of_ble_eq_true rfl⟩, Nat.le_of_ble_eq_true rfl, Nat.le_of_ble_eq_true rfl⟩ rfl rfl (Nat.le_of_ble_eq_true rfl) ?_
  refine tp_i (y := (nI T1)) (by rw [hsm.2.2]) ?_
  refine lv_istore_n (lv' := [(3, .int (nI T1)), (0, .ref m0), (1, .int (nI b)), (2, .int (nI m))]) X.1 X.2.1 dX12_turned_10 rfl hl (by decide) rfl (fun ls hl => ?_)
  refine lv_iload_n X.1 X.2.1 dX12_turned_11 rfl (lv_at hl 2 rfl) ?_
  refine lv_iload_n X.1 X.2.1 dX12_turned_12 rfl (lv_at hl 0 rfl) ?_
  refine n_rem X dX12_turned_13 (by omega) (by omega) (by omega) ?_
  refine lv_aload_n X.1 X.2.1 dX12_turned_14 rfl (lv_at hl 1 rfl) ?_
  refine va_get (D := g.1) (ci := 11) (v := .int (nI k)) (C := RX12) (T := TX12) (N := 26) X.1 X.2.1 X.2.2.2.2 iwX12 X.2.2.2.1 hK hP 0 rfl rfl 0 (by decide) (X.2.2.2.2 _ q1020) (fun _ h9 => h9) rfl dX12_turned_15 ?_
  refine n_mul X dX12_turned_18 ?_
  refine lv_iload_n X.1 X.2.1 dX12_turned_19 rfl (lv_at hl 2 rfl) ?_
  refine lv_iload_n X.1 X.2.1 dX12_turned_20 rfl (lv_at hl 0 rfl) ?_
  refine n_div X dX12_turned_21 (by omega) (by omega) (by omega) ?_
  refine n_add X dX12_turned_22 ?_
  exact PuI.ret X hr hlk dX12_turned_23 (nI_nar _) (rfl)

set_option maxHeartbeats 4000000 in
set_option maxRecDepth 100000 in
theorem m_leastRotation (g : G5) (m0 : Nat) (lt : Nat) (er : Nat) (el : Nat) (cm_ : Nat) (sv : Nat) (md : Nat) (fmm : Nat) (lc : Nat) (lz : Nat) (af : Nat) (pt_ : Nat) (oc : Nat) (ty_ : Nat) (sz_ : Nat) (em : Nat) (k : Nat) (n : Nat) (s : List Nat) (h : List (List Nat)) (c : List Nat) (tk : Bool) (k0 : Nat) (n0 : Nat) (s0 : List Nat) (z : List Nat) (p : List Int) (m : Nat) (B1 : Nat) (T1 : Nat) (b : Nat) (hsm : shp k m B1 T1) (hb : b < B1) : PuI yX12_leastRotation cX12_leastRotation 6 (some .int) 2 46 g [.ref m0, .int (nI b), .int (nI m)] [(m0, .inr (11, [.int (nI k), .int (nI n), .ref lt, .int (nI s.length), .ref er, .ref el, .int (nI h.length), .ref cm_, .int (nI c.length), .int (bI tk), .int (nI k0), .int (nI n0), .ref sv, .int (nI s0.length), .ref md, .int (nI z.length), .ref fmm, .ref lc, .ref lz, .ref af, .ref pt_, .int (nI p.length), .ref oc, .ref ty_, .ref sz_, .ref em]))] (nI (lrN k T1 m b)) := by
  refine PuI.of (by decide +kernel) (Nat.le_of_ble_eq_true rfl) ?_
  intro p_ l_ e_ S_ m_ args below meth co X hr hlk hP hK ls hl
  have X : CallFix p_ m_ co cX12_leastRotation 6 S_ args lw_all RX12 := X
  have hl : lv_has ls 6 [(0, .ref m0), (1, .int (nI b)), (2, .int (nI m))] := hl
  obtain ⟨hk2, hk4, hm1, hm6, hB1, hT1, hBT1, hT12⟩ := hsm.f
  refine lv_iload_n X.1 X.2.1 dX12_leastRotation_0 rfl (lv_at hl 1 rfl) ?_
  refine lv_istore_n (lv' := [(3, .int (nI b)), (0, .ref m0), (1, .int (nI b)), (2, .int (nI m))]) X.1 X.2.1 dX12_leastRotation_1 rfl hl (by decide) rfl (fun ls hl => ?_)
  refine lv_iload_n X.1 X.2.1 dX12_leastRotation_2 rfl (lv_at hl 2 rfl) ?_
  refine lv_istore (lv' := [(4, .int (nI b)), (3, .int (nI b)), (0, .ref m0), (1, .int (nI b)), (2, .int (nI m))]) X.1 X.2.1 dX12_leastRotation_3 hl (by decide) rfl (fun ls hl => ?_)
  refine lv_iconst (v := (nI 1)) X.1 X.2.1 dX12_leastRotation_5 (by decide) ?_
  refine lv_istore (lv' := [(5, .int (nI 1)), (4, .int (nI b)), (3, .int (nI b)), (0, .ref m0), (1, .int (nI b)), (2, .int (nI m))]) X.1 X.2.1 dX12_leastRotation_6 hl (by decide) rfl (fun ls hl => ?_)
  have L8 : ∀ (r : Nat) (w : Nat) (t : Nat) (i : Nat) (h1 : i + r = m) (h2 : t < B1) (h3 : w < B1) (hq : lrL k T1 r w t = lrN k T1 m b) (ls : Array Slot) (hl : lv_has ls 6 [(5, .int (nI i)), (4, .int (nI t)), (3, .int (nI w)), (0, .ref m0), (1, .int (nI b)), (2, .int (nI m))]), W p_ l_ e_ { frames := 2, cells := 0, slots := 0, locals := 46 } S_ m_ args below meth co S_.heap [] 0 0 (MQ below (vp_Si (fun r => r = (nI (lrN k T1 m b)))) args S_ 0 0 (fun _ => False)) (F0 m_ 8 ls []) := by
    intro r
    induction r with
    | zero =>
      intro w t i h1 h2 h3 hq ls hl
      refine lv_iload X.1 X.2.1 dX12_leastRotation_8 (lv_at hl 0 rfl) ?_
      refine lv_iload_n X.1 X.2.1 dX12_leastRotation_10 rfl (lv_at hl 5 rfl) ?_
      refine z_icmp_ge (tgt := 36) X dX12_leastRotation_11 (by decide) (nI_toInt (by omega)) (nI_toInt (by omega)) (fun c11 => ?_) (fun c11 => ?_)
      · refine lv_iload_n X.1 X.2.1 dX12_leastRotation_36 rfl (lv_at hl 2 rfl) ?_
        exact PuI.ret X hr hlk dX12_leastRotation_37 (nI_nar _) (by rw [← hq]; rfl)
      · exfalso; omega
    | succ r ih8 =>
      intro w t i h1 h2 h3 hq ls hl
      refine lv_iload X.1 X.2.1 dX12_leastRotation_8 (lv_at hl 0 rfl) ?_
      refine lv_iload_n X.1 X.2.1 dX12_leastRotation_10 rfl (lv_at hl 5 rfl) ?_
      refine z_icmp_ge (tgt := 36) X dX12_leastRotation_11 (by decide) (nI_toInt (by omega)) (nI_toInt (by omega)) (fun c11 => ?_) (fun c11 => ?_)
      · exfalso; omega
      · refine lv_aload_n X.1 X.2.1 dX12_leastRotation_14 rfl (lv_at hl 3 rfl) ?_
        refine lv_iload X.1 X.2.1 dX12_leastRotation_15 (lv_at hl 1 rfl) ?_
        refine lv_iload_n X.1 X.2.1 dX12_leastRotation_17 rfl (lv_at hl 5 rfl) ?_
        refine (m_turned g m0 lt er el cm_ sv md fmm lc lz af pt_ oc ty_ sz_ em k n s h c tk k0 n0 s0 z p m B1 T1 t (by assumption) (by omega)).callV (rest := []) X dX12_leastRotation_18 q1157 tX12_turned hK (hP.sub [0] rfl) 0 11 rfl rfl rfl hl ⟨⟨Nat.le_of_ble_eq_true rfl, Nat.le_of_ble_eq_true rfl⟩, Nat.le_of_ble_eq_true rfl, Nat.le_of_ble_eq_true rfl⟩ rfl rfl (Nat.le_of_ble_eq_true rfl) ?_
        have hF := turn_lt hsm (w := t) (by omega)
        refine lv_istore (lv' := [(4, .int (nI (turnN k T1 t))), (5, .int (nI i)), (3, .int (nI w)), (0, .ref m0), (1, .int (nI b)), (2, .int (nI m))]) X.1 X.2.1 dX12_leastRotation_21 hl (by decide) rfl (fun ls hl => ?_)
        refine lv_iload_n X.1 X.2.1 dX12_leastRotation_23 rfl (lv_at hl 2 rfl) ?_
        refine lv_iload X.1 X.2.1 dX12_leastRotation_24 (lv_at hl 0 rfl) ?_
        refine (c_minN g w (turnN k T1 t) (by omega) (by omega)).callS (rest := []) X dX12_leastRotation_26 q1161 tJ9_min_7cf53 hK (hP.sub [] rfl) hl ⟨⟨Nat.le_of_ble_eq_true rfl, Nat.le_of_ble_eq_true rfl⟩, Nat.le_of_ble_eq_true rfl, Nat.le_of_ble_eq_true rfl⟩ rfl rfl (Nat.le_of_ble_eq_true rfl) ?_
        refine lv_istore_n (lv' := [(3, .int (nI (min w (turnN k T1 t)))), (4, .int (nI (turnN k T1 t))), (5, .int (nI i)), (0, .ref m0), (1, .int (nI b)), (2, .int (nI m))]) X.1 X.2.1 dX12_leastRotation_29 rfl hl (by decide) rfl (fun ls hl => ?_)
        refine lv_iinc (v := (nI (i + 1))) (lv' := [(5, .int (nI (i + 1))), (3, .int (nI (min w (turnN k T1 t)))), (4, .int (nI (turnN k T1 t))), (0, .ref m0), (1, .int (nI b)), (2, .int (nI m))]) X.1 X.2.1 dX12_leastRotation_30 hl (k := 2) rfl (nI_inc _) (by decide) rfl (fun ls hl => ?_)
        refine lv_goto (tgt := 8) X.1 X.2.1 dX12_leastRotation_33 (by decide) ?_
        exact ih8 (min w (turnN k T1 t)) (turnN k T1 t) (i + 1) (by omega) (by omega) (by omega) (by rw [lrL] at hq; exact hq) ls (lv_sub hl [0, 2, 1, 3, 4, 5] rfl)
  exact L8 (m - 1) b b 1 (by omega) (by omega) (by omega) (rfl) ls (lv_sub hl [0, 1, 2, 3, 4, 5] rfl)

set_option maxHeartbeats 4000000 in
set_option maxRecDepth 100000 in
theorem m_rotations (g : G5) (m0 : Nat) (lt : Nat) (er : Nat) (el : Nat) (cm_ : Nat) (sv : Nat) (md : Nat) (fmm : Nat) (lc : Nat) (lz : Nat) (af : Nat) (pt_ : Nat) (oc : Nat) (ty_ : Nat) (sz_ : Nat) (em : Nat) (k : Nat) (n : Nat) (s : List Nat) (h : List (List Nat)) (c : List Nat) (tk : Bool) (k0 : Nat) (n0 : Nat) (s0 : List Nat) (z : List Nat) (p : List Int) (m : Nat) (B1 : Nat) (T1 : Nat) (b : Nat) (hsm : shp k m B1 T1) (hb : b < B1) : PuI yX12_rotations cX12_rotations 5 (some .int) 2 46 g [.ref m0, .int (nI b), .int (nI m)] [(m0, .inr (11, [.int (nI k), .int (nI n), .ref lt, .int (nI s.length), .ref er, .ref el, .int (nI h.length), .ref cm_, .int (nI c.length), .int (bI tk), .int (nI k0), .int (nI n0), .ref sv, .int (nI s0.length), .ref md, .int (nI z.length), .ref fmm, .ref lc, .ref lz, .ref af, .ref pt_, .int (nI p.length), .ref oc, .ref ty_, .ref sz_, .ref em]))] (nI (rtN k T1 m b)) := by
  refine PuI.of (by decide +kernel) (Nat.le_of_ble_eq_true rfl) ?_
  intro p_ l_ e_ S_ m_ args below meth co X hr hlk hP hK ls hl
  have X : CallFix p_ m_ co cX12_rotations 5 S_ args lw_all RX12 := X
  have hl : lv_has ls 5 [(0, .ref m0), (1, .int (nI b)), (2, .int (nI m))] := hl
  obtain ⟨hk2, hk4, hm1, hm6, hB1, hT1, hBT1, hT12⟩ := hsm.f
  have hTI := turnI_lt hsm hb
  have hTm := (turn_at hsm hb).1
  refine lv_iconst (v := (nI 1)) X.1 X.2.1 dX12_rotations_0 (by decide) ?_
  refine lv_istore_n (lv' := [(3, .int (nI 1)), (0, .ref m0), (1, .int (nI b)), (2, .int (nI m))]) X.1 X.2.1 dX12_rotations_1 rfl hl (by decide) rfl (fun ls hl => ?_)
  refine lv_aload_n X.1 X.2.1 dX12_rotations_2 rfl (lv_at hl 1 rfl) ?_
  refine lv_iload_n X.1 X.2.1 dX12_rotations_3 rfl (lv_at hl 2 rfl) ?_
  refine lv_iload_n X.1 X.2.1 dX12_rotations_4 rfl (lv_at hl 3 rfl) ?_
  refine (m_turned g m0 lt er el cm_ sv md fmm lc lz af pt_ oc ty_ sz_ em k n s h c tk k0 n0 s0 z p m B1 T1 b (by assumption) (by omega)).callV (rest := []) X dX12_rotations_5 q1157 tX12_turned hK (hP.sub [0] rfl) 0 11 rfl rfl rfl hl ⟨⟨Nat.le_of_ble_eq_true rfl, Nat.le_of_ble_eq_true rfl⟩, Nat.le_of_ble_eq_true rfl, Nat.le_of_ble_eq_true rfl⟩ rfl rfl (Nat.le_of_ble_eq_true rfl) ?_
  refine lv_istore (lv' := [(4, .int (nI (turnN k T1 b))), (3, .int (nI 1)), (0, .ref m0), (1, .int (nI b)), (2, .int (nI m))]) X.1 X.2.1 dX12_rotations_8 hl (by decide) rfl (fun ls hl => ?_)
  have L10 : ∀ (r : Nat) (i : Nat) (h1 : i + r = m) (h2 : 1 ≤ i) (hq : rtL k T1 m b r (turnI k T1 (i - 1) b) i = rtN k T1 m b) (ls : Array Slot) (hl : lv_has ls 5 [(4, .int (nI (turnI k T1 i b))), (3, .int (nI i)), (0, .ref m0), (1, .int (nI b)), (2, .int (nI m))]), W p_ l_ e_ { frames := 2, cells := 0, slots := 0, locals := 46 } S_ m_ args below meth co S_.heap [] 0 0 (MQ below (vp_Si (fun r => r = (nI (rtN k T1 m b)))) args S_ 0 0 (fun _ => False)) (F0 m_ 10 ls []) := by
    intro r
    induction r with
    | zero =>
      intro i h1 h2 hq ls hl
      have hTi := hTI i
      have him : turnI k T1 i b = b := by rw [show i = m by omega]; exact hTm
      refine lv_iload X.1 X.2.1 dX12_rotations_10 (lv_at hl 0 rfl) ?_
      refine lv_iload_n X.1 X.2.1 dX12_rotations_12 rfl (lv_at hl 3 rfl) ?_
      refine z_icmp_eq (tgt := 31) X dX12_rotations_13 (by decide) (nI_toInt (by omega)) (nI_toInt (by omega)) (fun c13 => ?_) (fun c13 => ?_)
      · refine lv_iload_n X.1 X.2.1 dX12_rotations_31 rfl (lv_at hl 1 rfl) ?_
        exact PuI.ret X hr hlk dX12_rotations_32 (nI_nar _) (by first | (rw [rtL, hti, if_pos (by omega)] at hq; rw [← hq]; done) | (rw [← hq, show i = m by omega]; rfl))
      · refine lv_iinc (v := (nI (i + 1))) (lv' := [(3, .int (nI (i + 1))), (4, .int (nI (turnI k T1 i b))), (0, .ref m0), (1, .int (nI b)), (2, .int (nI m))]) X.1 X.2.1 dX12_rotations_16 hl (k := 1) rfl (nI_inc _) (by decide) rfl (fun ls hl => ?_)
        refine lv_aload_n X.1 X.2.1 dX12_rotations_19 rfl (lv_at hl 2 rfl) ?_
        refine lv_iload X.1 X.2.1 dX12_rotations_20 (lv_at hl 1 rfl) ?_
        refine lv_iload_n X.1 X.2.1 dX12_rotations_22 rfl (lv_at hl 4 rfl) ?_
        refine (m_turned g m0 lt er el cm_ sv md fmm lc lz af pt_ oc ty_ sz_ em k n s h c tk k0 n0 s0 z p m B1 T1 (turnI k T1 i b) (by assumption) (by omega)).callV (rest := []) X dX12_rotations_23 q1157 tX12_turned hK (hP.sub [0] rfl) 0 11 rfl rfl rfl hl ⟨⟨Nat.le_of_ble_eq_true rfl, Nat.le_of_ble_eq_true rfl⟩, Nat.le_of_ble_eq_true rfl, Nat.le_of_ble_eq_true rfl⟩ rfl rfl (Nat.le_of_ble_eq_true rfl) ?_
        refine lv_istore (lv' := [(4, .int (nI (turnN k T1 (turnI k T1 i b)))), (3, .int (nI (i + 1))), (0, .ref m0), (1, .int (nI b)), (2, .int (nI m))]) X.1 X.2.1 dX12_rotations_26 hl (by decide) rfl (fun ls hl => ?_)
        refine lv_goto (tgt := 10) X.1 X.2.1 dX12_rotations_28 (by decide) ?_
        exfalso; omega
    | succ r ih10 =>
      intro i h1 h2 hq ls hl
      have hTi := hTI i
      have hti : turnN k T1 (turnI k T1 (i - 1) b) = turnI k T1 i b := turnI_p h2
      refine lv_iload X.1 X.2.1 dX12_rotations_10 (lv_at hl 0 rfl) ?_
      refine lv_iload_n X.1 X.2.1 dX12_rotations_12 rfl (lv_at hl 3 rfl) ?_
      refine z_icmp_eq (tgt := 31) X dX12_rotations_13 (by decide) (nI_toInt (by omega)) (nI_toInt (by omega)) (fun c13 => ?_) (fun c13 => ?_)
      · refine lv_iload_n X.1 X.2.1 dX12_rotations_31 rfl (lv_at hl 1 rfl) ?_
        exact PuI.ret X hr hlk dX12_rotations_32 (nI_nar _) (by first | (rw [rtL, hti, if_pos (by omega)] at hq; rw [← hq]; done) | (rw [← hq, show i = m by omega]; rfl))
      · refine lv_iinc (v := (nI (i + 1))) (lv' := [(3, .int (nI (i + 1))), (4, .int (nI (turnI k T1 i b))), (0, .ref m0), (1, .int (nI b)), (2, .int (nI m))]) X.1 X.2.1 dX12_rotations_16 hl (k := 1) rfl (nI_inc _) (by decide) rfl (fun ls hl => ?_)
        refine lv_aload_n X.1 X.2.1 dX12_rotations_19 rfl (lv_at hl 2 rfl) ?_
        refine lv_iload X.1 X.2.1 dX12_rotations_20 (lv_at hl 1 rfl) ?_
        refine lv_iload_n X.1 X.2.1 dX12_rotations_22 rfl (lv_at hl 4 rfl) ?_
        refine (m_turned g m0 lt er el cm_ sv md fmm lc lz af pt_ oc ty_ sz_ em k n s h c tk k0 n0 s0 z p m B1 T1 (turnI k T1 i b) (by assumption) (by omega)).callV (rest := []) X dX12_rotations_23 q1157 tX12_turned hK (hP.sub [0] rfl) 0 11 rfl rfl rfl hl ⟨⟨Nat.le_of_ble_eq_true rfl, Nat.le_of_ble_eq_true rfl⟩, Nat.le_of_ble_eq_true rfl, Nat.le_of_ble_eq_true rfl⟩ rfl rfl (Nat.le_of_ble_eq_true rfl) ?_
        refine lv_istore (lv' := [(4, .int (nI (turnN k T1 (turnI k T1 i b)))), (3, .int (nI (i + 1))), (0, .ref m0), (1, .int (nI b)), (2, .int (nI m))]) X.1 X.2.1 dX12_rotations_26 hl (by decide) rfl (fun ls hl => ?_)
        refine lv_goto (tgt := 10) X.1 X.2.1 dX12_rotations_28 (by decide) ?_
        exact ih10 (i + 1) (by omega) (by omega) (by rw [rtL, hti, if_neg (by omega)] at hq; exact hq) ls (lv_sub hl [0, 1, 2, 3, 4] rfl)
  exact L10 (m - 1) 1 (by omega) (by omega) (rfl) ls (lv_sub hl [0, 1, 2, 3, 4] rfl)

set_option maxHeartbeats 4000000 in
set_option maxRecDepth 100000 in
theorem m_isLyndon (g : G5) (m0 : Nat) (lt : Nat) (er : Nat) (el : Nat) (cm_ : Nat) (sv : Nat) (md : Nat) (fmm : Nat) (lc : Nat) (lz : Nat) (af : Nat) (pt_ : Nat) (oc : Nat) (ty_ : Nat) (sz_ : Nat) (em : Nat) (k : Nat) (n : Nat) (s : List Nat) (h : List (List Nat)) (c : List Nat) (tk : Bool) (k0 : Nat) (n0 : Nat) (s0 : List Nat) (z : List Nat) (p : List Int) (m : Nat) (B1 : Nat) (T1 : Nat) (b : Nat) (hsm : shp k m B1 T1) (hb : b < B1) : PuI yX12_isLyndon cX12_isLyndon 3 (some .boolean) 3 71 g [.ref m0, .int (nI b), .int (nI m)] [(m0, .inr (11, [.int (nI k), .int (nI n), .ref lt, .int (nI s.length), .ref er, .ref el, .int (nI h.length), .ref cm_, .int (nI c.length), .int (bI tk), .int (nI k0), .int (nI n0), .ref sv, .int (nI s0.length), .ref md, .int (nI z.length), .ref fmm, .ref lc, .ref lz, .ref af, .ref pt_, .int (nI p.length), .ref oc, .ref ty_, .ref sz_, .ref em]))] (bI (lynB k m b)) := by
  refine PuI.of (by decide +kernel) (Nat.le_of_ble_eq_true rfl) ?_
  intro p_ l_ e_ S_ m_ args below meth co X hr hlk hP hK ls hl
  have X : CallFix p_ m_ co cX12_isLyndon 3 S_ args lw_all RX12 := X
  have hl : lv_has ls 3 [(0, .ref m0), (1, .int (nI b)), (2, .int (nI m))] := hl
  obtain ⟨hk2, hk4, hm1, hm6, hB1, hT1, hBT1, hT12⟩ := hsm.f
  have hly := (turn_at hsm hb).2.1
  have hlr : lrN k T1 m b < B1 := lr_lt hb
  have hrt := rt_le (k := k) (T := T1) (n := m) (b := b) (r := m - 1) (t := b) (i := 1) (by omega)
  have hrt2 : rtN k T1 m b ≤ m := hrt
  refine lv_aload_n X.1 X.2.1 dX12_isLyndon_0 rfl (lv_at hl 0 rfl) ?_
  refine lv_iload_n X.1 X.2.1 dX12_isLyndon_1 rfl (lv_at hl 1 rfl) ?_
  refine lv_iload_n X.1 X.2.1 dX12_isLyndon_2 rfl (lv_at hl 2 rfl) ?_
  refine (m_leastRotation g m0 lt er el cm_ sv md fmm lc lz af pt_ oc ty_ sz_ em k n s h c tk k0 n0 s0 z p m B1 T1 b (by assumption) (by omega)).callV (rest := []) X dX12_isLyndon_3 q1153 tX12_leastRotation hK (hP.sub [0] rfl) 0 11 rfl rfl rfl hl ⟨⟨Nat.le_of_ble_eq_true rfl, Nat.le_of_ble_eq_true rfl⟩, Nat.le_of_ble_eq_true rfl, Nat.le_of_ble_eq_true rfl⟩ rfl rfl (Nat.le_of_ble_eq_true rfl) ?_
  refine lv_iload_n X.1 X.2.1 dX12_isLyndon_6 rfl (lv_at hl 1 rfl) ?_
  refine z_icmp_ne (tgt := 24) X dX12_isLyndon_7 (by decide) (nI_toInt (by omega)) (nI_toInt (by omega)) (fun c7 => ?_) (fun c7 => ?_)
  · refine lv_iconst (v := (nI 0)) X.1 X.2.1 dX12_isLyndon_24 (by decide) ?_
    exact PuI.ret X hr hlk dX12_isLyndon_25 (bI_nar _) (by rw [hly]; first | exact bt (decide_eq_true (by omega)) | exact bf (decide_eq_false (by omega)))
  · refine lv_aload_n X.1 X.2.1 dX12_isLyndon_10 rfl (lv_at hl 0 rfl) ?_
    refine lv_iload_n X.1 X.2.1 dX12_isLyndon_11 rfl (lv_at hl 1 rfl) ?_
    refine lv_iload_n X.1 X.2.1 dX12_isLyndon_12 rfl (lv_at hl 2 rfl) ?_
    refine (m_rotations g m0 lt er el cm_ sv md fmm lc lz af pt_ oc ty_ sz_ em k n s h c tk k0 n0 s0 z p m B1 T1 b (by assumption) (by omega)).callV (rest := []) X dX12_isLyndon_13 q1162 tX12_rotations hK (hP.sub [0] rfl) 0 11 rfl rfl rfl hl ⟨⟨Nat.le_of_ble_eq_true rfl, Nat.le_of_ble_eq_true rfl⟩, Nat.le_of_ble_eq_true rfl, Nat.le_of_ble_eq_true rfl⟩ rfl rfl (Nat.le_of_ble_eq_true rfl) ?_
    refine lv_iload_n X.1 X.2.1 dX12_isLyndon_16 rfl (lv_at hl 2 rfl) ?_
    refine z_icmp_ne (tgt := 24) X dX12_isLyndon_17 (by decide) (nI_toInt (by omega)) (nI_toInt (by omega)) (fun c17 => ?_) (fun c17 => ?_)
    · refine lv_iconst (v := (nI 0)) X.1 X.2.1 dX12_isLyndon_24 (by decide) ?_
      exact PuI.ret X hr hlk dX12_isLyndon_25 (bI_nar _) (by rw [hly]; first | exact bt (decide_eq_true (by omega)) | exact bf (decide_eq_false (by omega)))
    · refine lv_iconst (v := (nI 1)) X.1 X.2.1 dX12_isLyndon_20 (by decide) ?_
      refine lv_goto (tgt := 25) X.1 X.2.1 dX12_isLyndon_21 (by decide) ?_
      exact PuI.ret X hr hlk dX12_isLyndon_25 (bI_nar _) (by rw [hly]; first | exact bt (decide_eq_true (by omega)) | exact bf (decide_eq_false (by omega)))

set_option maxHeartbeats 4000000 in
set_option maxRecDepth 100000 in
theorem m_successor (g : G5) (m0 : Nat) (lt : Nat) (er : Nat) (el : Nat) (cm_ : Nat) (sv : Nat) (md : Nat) (fmm : Nat) (lc : Nat) (lz : Nat) (af : Nat) (pt_ : Nat) (oc : Nat) (ty_ : Nat) (sz_ : Nat) (em : Nat) (k : Nat) (n : Nat) (s : List Nat) (h : List (List Nat)) (c : List Nat) (tk : Bool) (k0 : Nat) (n0 : Nat) (s0 : List Nat) (z : List Nat) (p : List Int) (B : Nat) (T : Nat) (b : Nat) (hc : shp k n B T) (hb : b < B) : PuI yX12_successor cX12_successor 6 (some .int) 3 71 g [.ref m0, .int (nI b)] [(m0, .inr (11, [.int (nI k), .int (nI n), .ref lt, .int (nI s.length), .ref er, .ref el, .int (nI h.length), .ref cm_, .int (nI c.length), .int (bI tk), .int (nI k0), .int (nI n0), .ref sv, .int (nI s0.length), .ref md, .int (nI z.length), .ref fmm, .ref lc, .ref lz, .ref af, .ref pt_, .int (nI p.length), .ref oc, .ref ty_, .ref sz_, .ref em]))] (nI (sucN k T n b)) := by
  refine PuI.of (by decide +kernel) (Nat.le_of_ble_eq_true rfl) ?_
  intro p_ l_ e_ S_ m_ args below meth co X hr hlk hP hK ls hl
  have X : CallFix p_ m_ co cX12_successor 6 S_ args lw_all RX12 := X
  have hl : lv_has ls 6 [(0, .ref m0), (1, .int (nI b))] := hl
  obtain ⟨hk2, hk4, hn1, hn6, hB, hT, hBT, hT2⟩ := hc.f
  have hB0 : 0 < B := by rw [hBT]; exact Nat.mul_pos (by omega) (by omega)
  have hF1 := dv_lt hc hb
  have hF2 := md_lt hc b
  refine lv_aload_n X.1 X.2.1 dX12_successor_0 rfl (lv_at hl 0 rfl) ?_
  refine va_get (D := g.1) (ci := 11) (v := .int (nI k)) (C := RX12) (T := TX12) (N := 26) X.1 X.2.1 X.2.2.2.2 iwX12 X.2.2.2.1 hK hP 0 rfl rfl 0 (by decide) (X.2.2.2.2 _ q1020) (fun _ h9 => h9) rfl dX12_successor_1 ?_
  refine lv_aload_n X.1 X.2.1 dX12_successor_4 rfl (lv_at hl 0 rfl) ?_
  refine va_get (D := g.1) (ci := 11) (v := .int (nI n)) (C := RX12) (T := TX12) (N := 26) X.1 X.2.1 X.2.2.2.2 iwX12 X.2.2.2.1 hK hP 0 rfl rfl 1 (by decide) (X.2.2.2.2 _ q1021) (fun _ h9 => h9) rfl dX12_successor_5 ?_
  refine lv_iconst (v := (nI 1)) X.1 X.2.1 dX12_successor_8 (by decide) ?_
  refine n_sub X dX12_successor_9 (by omega) ?_
  refine (c_mpower g k (n - 1) (by omega)).callS (rest := []) X dX12_successor_10 q1106 tX12_power hK (hP.sub [] rfl) hl ⟨⟨Nat.le_of_ble_eq_true rfl, Nat.le_of_ble_eq_true rfl⟩, Nat.le_of_ble_eq_true rfl, Nat.le_of_ble_eq_true rfl⟩ rfl rfl (Nat.le_of_ble_eq_true rfl) ?_
  refine tp_i (y := (nI T)) (by rw [hc.2.2]) ?_
  refine lv_istore_n (lv' := [(2, .int (nI T)), (0, .ref m0), (1, .int (nI b))]) X.1 X.2.1 dX12_successor_13 rfl hl (by decide) rfl (fun ls hl => ?_)
  refine lv_iload_n X.1 X.2.1 dX12_successor_14 rfl (lv_at hl 2 rfl) ?_
  refine lv_iload_n X.1 X.2.1 dX12_successor_15 rfl (lv_at hl 0 rfl) ?_
  refine n_div X dX12_successor_16 (by omega) (by omega) (by omega) ?_
  refine lv_istore_n (lv' := [(3, .int (nI (b / T))), (2, .int (nI T)), (0, .ref m0), (1, .int (nI b))]) X.1 X.2.1 dX12_successor_17 rfl hl (by decide) rfl (fun ls hl => ?_)
  refine lv_iload_n X.1 X.2.1 dX12_successor_18 rfl (lv_at hl 3 rfl) ?_
  refine lv_iload_n X.1 X.2.1 dX12_successor_19 rfl (lv_at hl 1 rfl) ?_
  refine n_rem X dX12_successor_20 (by omega) (by omega) (by omega) ?_
  refine lv_istore (lv' := [(4, .int (nI (b % T))), (3, .int (nI (b / T))), (2, .int (nI T)), (0, .ref m0), (1, .int (nI b))]) X.1 X.2.1 dX12_successor_21 hl (by decide) rfl (fun ls hl => ?_)
  refine lv_iconst (v := (nI 1)) X.1 X.2.1 dX12_successor_23 (by decide) ?_
  refine lv_istore (lv' := [(5, .int (nI 1)), (4, .int (nI (b % T))), (3, .int (nI (b / T))), (2, .int (nI T)), (0, .ref m0), (1, .int (nI b))]) X.1 X.2.1 dX12_successor_24 hl (by decide) rfl (fun ls hl => ?_)
  have L26 : ∀ (r : Nat) (t : Nat) (h1 : t + r = k) (ht : 1 ≤ t) (hq : sucL k T n (b % T) r t = sucT k T n (b % T)) (ls : Array Slot) (hl : lv_has ls 6 [(5, .int (nI t)), (4, .int (nI (b % T))), (3, .int (nI (b / T))), (2, .int (nI T)), (0, .ref m0), (1, .int (nI b))]), W p_ l_ e_ { frames := 3, cells := 0, slots := 0, locals := 71 } S_ m_ args below meth co S_.heap [] 0 0 (MQ below (vp_Si (fun r => r = (nI (sucN k T n b)))) args S_ 0 0 (fun _ => False)) (F0 m_ 26 ls []) := by
    intro r
    induction r with
    | zero =>
      intro t h1 ht hq ls hl
      have e9 : sucT k T n (b % T) = t := by rw [← hq]; rfl
      refine lv_iload X.1 X.2.1 dX12_successor_26 (lv_at hl 0 rfl) ?_
      refine lv_aload_n X.1 X.2.1 dX12_successor_28 rfl (lv_at hl 4 rfl) ?_
      refine va_get (D := g.1) (ci := 11) (v := .int (nI k)) (C := RX12) (T := TX12) (N := 26) X.1 X.2.1 X.2.2.2.2 iwX12 X.2.2.2.1 hK hP 0 rfl rfl 0 (by decide) (X.2.2.2.2 _ q1020) (fun _ h9 => h9) rfl dX12_successor_29 ?_
      refine z_icmp_ge (tgt := 72) X dX12_successor_32 (by decide) (nI_toInt (by omega)) (nI_toInt (by omega)) (fun c32 => ?_) (fun c32 => ?_)
      · refine lv_iload X.1 X.2.1 dX12_successor_72 (lv_at hl 0 rfl) ?_
        refine lv_aload_n X.1 X.2.1 dX12_successor_74 rfl (lv_at hl 4 rfl) ?_
        refine va_get (D := g.1) (ci := 11) (v := .int (nI k)) (C := RX12) (T := TX12) (N := 26) X.1 X.2.1 X.2.2.2.2 iwX12 X.2.2.2.1 hK hP 0 rfl rfl 0 (by decide) (X.2.2.2.2 _ q1020) (fun _ h9 => h9) rfl dX12_successor_75 ?_
        refine z_icmp_eq (tgt := 89) X dX12_successor_78 (by decide) (nI_toInt (by omega)) (nI_toInt (by omega)) (fun c78 => ?_) (fun c78 => ?_)
        · refine lv_iload_n X.1 X.2.1 dX12_successor_89 rfl (lv_at hl 2 rfl) ?_
          exact PuI.ret X hr hlk dX12_successor_90 (nI_nar _) (by first | (exfalso; omega) | skip; unfold sucN; rw [e9]; first | rw [if_pos (by omega)] | (rw [if_neg (by omega)]; first | rw [if_pos (by omega)] | rw [if_neg (by omega)]))
        · refine lv_iload_n X.1 X.2.1 dX12_successor_81 rfl (lv_at hl 2 rfl) ?_
          refine lv_iload X.1 X.2.1 dX12_successor_82 (lv_at hl 0 rfl) ?_
          refine lv_iconst (v := (nI 1)) X.1 X.2.1 dX12_successor_84 (by decide) ?_
          refine n_sub X dX12_successor_85 (by omega) ?_
          refine z_icmp_ge (tgt := 91) X dX12_successor_86 (by decide) (nI_toInt (by omega)) (nI_toInt (by omega)) (fun c86 => ?_) (fun c86 => ?_)
          · refine lv_iload_n X.1 X.2.1 dX12_successor_91 rfl (lv_at hl 2 rfl) ?_
            refine lv_aload_n X.1 X.2.1 dX12_successor_92 rfl (lv_at hl 4 rfl) ?_
            refine va_get (D := g.1) (ci := 11) (v := .int (nI k)) (C := RX12) (T := TX12) (N := 26) X.1 X.2.1 X.2.2.2.2 iwX12 X.2.2.2.1 hK hP 0 rfl rfl 0 (by decide) (X.2.2.2.2 _ q1020) (fun _ h9 => h9) rfl dX12_successor_93 ?_
            refine lv_iconst (v := (nI 1)) X.1 X.2.1 dX12_successor_96 (by decide) ?_
            refine n_sub X dX12_successor_97 (by omega) ?_
            refine z_icmp_ne (tgt := 108) X dX12_successor_98 (by decide) (nI_toInt (by omega)) (nI_toInt (by omega)) (fun c98 => ?_) (fun c98 => ?_)
            · refine lv_iload_n X.1 X.2.1 dX12_successor_108 rfl (lv_at hl 2 rfl) ?_
              refine lv_iconst (v := (nI 1)) X.1 X.2.1 dX12_successor_109 (by decide) ?_
              refine n_add X dX12_successor_110 ?_
              exact PuI.ret X hr hlk dX12_successor_111 (nI_nar _) (by first | (exfalso; omega) | skip; unfold sucN; rw [e9]; first | rw [if_pos (by omega)] | (rw [if_neg (by omega)]; first | rw [if_pos (by omega)] | rw [if_neg (by omega)]))
            · refine lv_iload X.1 X.2.1 dX12_successor_101 (lv_at hl 0 rfl) ?_
              refine lv_iconst (v := (nI 1)) X.1 X.2.1 dX12_successor_103 (by decide) ?_
              refine n_sub X dX12_successor_104 (by omega) ?_
              refine lv_goto (tgt := 111) X.1 X.2.1 dX12_successor_105 (by decide) ?_
              exact PuI.ret X hr hlk dX12_successor_111 (nI_nar _) (by first | (exfalso; omega) | skip; unfold sucN; rw [e9]; first | rw [if_pos (by omega)] | (rw [if_neg (by omega)]; first | rw [if_pos (by omega)] | rw [if_neg (by omega)]))
          · refine lv_iload_n X.1 X.2.1 dX12_successor_89 rfl (lv_at hl 2 rfl) ?_
            exact PuI.ret X hr hlk dX12_successor_90 (nI_nar _) (by first | (exfalso; omega) | skip; unfold sucN; rw [e9]; first | rw [if_pos (by omega)] | (rw [if_neg (by omega)]; first | rw [if_pos (by omega)] | rw [if_neg (by omega)]))
      · exfalso; omega
    | succ r ih26 =>
      intro t h1 ht hq ls hl
      refine lv_iload X.1 X.2.1 dX12_successor_26 (lv_at hl 0 rfl) ?_
      refine lv_aload_n X.1 X.2.1 dX12_successor_28 rfl (lv_at hl 4 rfl) ?_
      refine va_get (D := g.1) (ci := 11) (v := .int (nI k)) (C := RX12) (T := TX12) (N := 26) X.1 X.2.1 X.2.2.2.2 iwX12 X.2.2.2.1 hK hP 0 rfl rfl 0 (by decide) (X.2.2.2.2 _ q1020) (fun _ h9 => h9) rfl dX12_successor_29 ?_
      refine z_icmp_ge (tgt := 72) X dX12_successor_32 (by decide) (nI_toInt (by omega)) (nI_toInt (by omega)) (fun c32 => ?_) (fun c32 => ?_)
      · exfalso; omega
      · refine lv_aload_n X.1 X.2.1 dX12_successor_35 rfl (lv_at hl 4 rfl) ?_
        refine lv_iload X.1 X.2.1 dX12_successor_36 (lv_at hl 1 rfl) ?_
        refine lv_aload_n X.1 X.2.1 dX12_successor_38 rfl (lv_at hl 4 rfl) ?_
        refine va_get (D := g.1) (ci := 11) (v := .int (nI k)) (C := RX12) (T := TX12) (N := 26) X.1 X.2.1 X.2.2.2.2 iwX12 X.2.2.2.1 hK hP 0 rfl rfl 0 (by decide) (X.2.2.2.2 _ q1020) (fun _ h9 => h9) rfl dX12_successor_39 ?_
        refine n_mul X dX12_successor_42 ?_
        refine lv_iload X.1 X.2.1 dX12_successor_43 (lv_at hl 0 rfl) ?_
        refine n_add X dX12_successor_45 ?_
        refine lv_aload_n X.1 X.2.1 dX12_successor_46 rfl (lv_at hl 4 rfl) ?_
        refine va_get (D := g.1) (ci := 11) (v := .int (nI n)) (C := RX12) (T := TX12) (N := 26) X.1 X.2.1 X.2.2.2.2 iwX12 X.2.2.2.1 hK hP 0 rfl rfl 1 (by decide) (X.2.2.2.2 _ q1021) (fun _ h9 => h9) rfl dX12_successor_47 ?_
        have hF3 := suc_ended hc hF2 (t := t) (by omega)
        have hls := (turn_at hc hF3).2.2
        have hlr : lrN k T n (b % T * k + t) < B := lr_lt hF3
        refine (m_leastRotation g m0 lt er el cm_ sv md fmm lc lz af pt_ oc ty_ sz_ em k n s h c tk k0 n0 s0 z p n B T ((b % T) * k + t) (hc) (by omega)).callV (rest := []) X dX12_successor_50 q1153 tX12_leastRotation hK (hP.sub [0] rfl) 0 11 rfl rfl rfl hl ⟨⟨Nat.le_of_ble_eq_true rfl, Nat.le_of_ble_eq_true rfl⟩, Nat.le_of_ble_eq_true rfl, Nat.le_of_ble_eq_true rfl⟩ rfl rfl (Nat.le_of_ble_eq_true rfl) ?_
        refine lv_iload X.1 X.2.1 dX12_successor_53 (lv_at hl 1 rfl) ?_
        refine lv_aload_n X.1 X.2.1 dX12_successor_55 rfl (lv_at hl 4 rfl) ?_
        refine va_get (D := g.1) (ci := 11) (v := .int (nI k)) (C := RX12) (T := TX12) (N := 26) X.1 X.2.1 X.2.2.2.2 iwX12 X.2.2.2.1 hK hP 0 rfl rfl 0 (by decide) (X.2.2.2.2 _ q1020) (fun _ h9 => h9) rfl dX12_successor_56 ?_
        refine n_mul X dX12_successor_59 ?_
        refine lv_iload X.1 X.2.1 dX12_successor_60 (lv_at hl 0 rfl) ?_
        refine n_add X dX12_successor_62 ?_
        refine z_icmp_eq (tgt := 72) X dX12_successor_63 (by decide) (nI_toInt (by omega)) (nI_toInt (by omega)) (fun c63 => ?_) (fun c63 => ?_)
        · have e9 : sucT k T n (b % T) = t := by rw [← hq, sucL, hls, decide_eq_true (by omega)]; rfl
          refine lv_iload X.1 X.2.1 dX12_successor_72 (lv_at hl 0 rfl) ?_
          refine lv_aload_n X.1 X.2.1 dX12_successor_74 rfl (lv_at hl 4 rfl) ?_
          refine va_get (D := g.1) (ci := 11) (v := .int (nI k)) (C := RX12) (T := TX12) (N := 26) X.1 X.2.1 X.2.2.2.2 iwX12 X.2.2.2.1 hK hP 0 rfl rfl 0 (by decide) (X.2.2.2.2 _ q1020) (fun _ h9 => h9) rfl dX12_successor_75 ?_
          refine z_icmp_eq (tgt := 89) X dX12_successor_78 (by decide) (nI_toInt (by omega)) (nI_toInt (by omega)) (fun c78 => ?_) (fun c78 => ?_)
          · refine lv_iload_n X.1 X.2.1 dX12_successor_89 rfl (lv_at hl 2 rfl) ?_
            exact PuI.ret X hr hlk dX12_successor_90 (nI_nar _) (by first | (exfalso; omega) | skip; unfold sucN; rw [e9]; first | rw [if_pos (by omega)] | (rw [if_neg (by omega)]; first | rw [if_pos (by omega)] | rw [if_neg (by omega)]))
          · refine lv_iload_n X.1 X.2.1 dX12_successor_81 rfl (lv_at hl 2 rfl) ?_
            refine lv_iload X.1 X.2.1 dX12_successor_82 (lv_at hl 0 rfl) ?_
            refine lv_iconst (v := (nI 1)) X.1 X.2.1 dX12_successor_84 (by decide) ?_
            refine n_sub X dX12_successor_85 (by omega) ?_
            refine z_icmp_ge (tgt := 91) X dX12_successor_86 (by decide) (nI_toInt (by omega)) (nI_toInt (by omega)) (fun c86 => ?_) (fun c86 => ?_)
            · refine lv_iload_n X.1 X.2.1 dX12_successor_91 rfl (lv_at hl 2 rfl) ?_
              refine lv_aload_n X.1 X.2.1 dX12_successor_92 rfl (lv_at hl 4 rfl) ?_
              refine va_get (D := g.1) (ci := 11) (v := .int (nI k)) (C := RX12) (T := TX12) (N := 26) X.1 X.2.1 X.2.2.2.2 iwX12 X.2.2.2.1 hK hP 0 rfl rfl 0 (by decide) (X.2.2.2.2 _ q1020) (fun _ h9 => h9) rfl dX12_successor_93 ?_
              refine lv_iconst (v := (nI 1)) X.1 X.2.1 dX12_successor_96 (by decide) ?_
              refine n_sub X dX12_successor_97 (by omega) ?_
              refine z_icmp_ne (tgt := 108) X dX12_successor_98 (by decide) (nI_toInt (by omega)) (nI_toInt (by omega)) (fun c98 => ?_) (fun c98 => ?_)
              · refine lv_iload_n X.1 X.2.1 dX12_successor_108 rfl (lv_at hl 2 rfl) ?_
                refine lv_iconst (v := (nI 1)) X.1 X.2.1 dX12_successor_109 (by decide) ?_
                refine n_add X dX12_successor_110 ?_
                exact PuI.ret X hr hlk dX12_successor_111 (nI_nar _) (by first | (exfalso; omega) | skip; unfold sucN; rw [e9]; first | rw [if_pos (by omega)] | (rw [if_neg (by omega)]; first | rw [if_pos (by omega)] | rw [if_neg (by omega)]))
              · refine lv_iload X.1 X.2.1 dX12_successor_101 (lv_at hl 0 rfl) ?_
                refine lv_iconst (v := (nI 1)) X.1 X.2.1 dX12_successor_103 (by decide) ?_
                refine n_sub X dX12_successor_104 (by omega) ?_
                refine lv_goto (tgt := 111) X.1 X.2.1 dX12_successor_105 (by decide) ?_
                exact PuI.ret X hr hlk dX12_successor_111 (nI_nar _) (by first | (exfalso; omega) | skip; unfold sucN; rw [e9]; first | rw [if_pos (by omega)] | (rw [if_neg (by omega)]; first | rw [if_pos (by omega)] | rw [if_neg (by omega)]))
            · refine lv_iload_n X.1 X.2.1 dX12_successor_89 rfl (lv_at hl 2 rfl) ?_
              exact PuI.ret X hr hlk dX12_successor_90 (nI_nar _) (by first | (exfalso; omega) | skip; unfold sucN; rw [e9]; first | rw [if_pos (by omega)] | (rw [if_neg (by omega)]; first | rw [if_pos (by omega)] | rw [if_neg (by omega)]))
        · have e7 : leastB k T n (b % T * k + t) = false := by rw [hls]; exact decide_eq_false (by omega)
          refine lv_iinc (v := (nI (t + 1))) (lv' := [(5, .int (nI (t + 1))), (4, .int (nI (b % T))), (3, .int (nI (b / T))), (2, .int (nI T)), (0, .ref m0), (1, .int (nI b))]) X.1 X.2.1 dX12_successor_66 hl (k := 0) rfl (nI_inc _) (by decide) rfl (fun ls hl => ?_)
          refine lv_goto (tgt := 26) X.1 X.2.1 dX12_successor_69 (by decide) ?_
          exact ih26 (t + 1) (by omega) (by omega) (by rw [sucL, e7] at hq; exact hq) ls (lv_sub hl [0, 1, 2, 3, 4, 5] rfl)
  exact L26 (k - 1) 1 (by omega) (by omega) (rfl) ls (lv_sub hl [0, 1, 2, 3, 4, 5] rfl)

set_option maxHeartbeats 4000000 in
set_option maxRecDepth 100000 in
theorem m_next (g : G5) (m0 : Nat) (lt : Nat) (er : Nat) (el : Nat) (cm_ : Nat) (sv : Nat) (md : Nat) (fmm : Nat) (lc : Nat) (lz : Nat) (af : Nat) (pt_ : Nat) (oc : Nat) (ty_ : Nat) (sz_ : Nat) (em : Nat) (k : Nat) (n : Nat) (s : List Nat) (h : List (List Nat)) (c : List Nat) (tk : Bool) (k0 : Nat) (n0 : Nat) (s0 : List Nat) (z : List Nat) (p : List Int) (B : Nat) (T : Nat) (b : Nat) (hc : shp k n B T) (hb : b < B) : PuI yX12_next cX12_next 2 (some .int) 4 96 g [.ref m0, .int (nI b)] [(m0, .inr (11, [.int (nI k), .int (nI n), .ref lt, .int (nI s.length), .ref er, .ref el, .int (nI h.length), .ref cm_, .int (nI c.length), .int (bI tk), .int (nI k0), .int (nI n0), .ref sv, .int (nI s0.length), .ref md, .int (nI z.length), .ref fmm, .ref lc, .ref lz, .ref af, .ref pt_, .int (nI p.length), .ref oc, .ref ty_, .ref sz_, .ref em]))] (nI (b % T * k + sucN k T n b)) := by
  refine PuI.of (by decide +kernel) (Nat.le_of_ble_eq_true rfl) ?_
  intro p_ l_ e_ S_ m_ args below meth co X hr hlk hP hK ls hl
  have X : CallFix p_ m_ co cX12_next 2 S_ args lw_all RX12 := X
  have hl : lv_has ls 2 [(0, .ref m0), (1, .int (nI b))] := hl
  obtain ⟨hk2, hk4, hn1, hn6, hB, hT, hBT, hT2⟩ := hc.f
  have hB0 : 0 < B := by rw [hBT]; exact Nat.mul_pos (by omega) (by omega)
  refine lv_iload_n X.1 X.2.1 dX12_next_0 rfl (lv_at hl 1 rfl) ?_
  refine lv_aload_n X.1 X.2.1 dX12_next_1 rfl (lv_at hl 0 rfl) ?_
  refine va_get (D := g.1) (ci := 11) (v := .int (nI k)) (C := RX12) (T := TX12) (N := 26) X.1 X.2.1 X.2.2.2.2 iwX12 X.2.2.2.1 hK hP 0 rfl rfl 0 (by decide) (X.2.2.2.2 _ q1020) (fun _ h9 => h9) rfl dX12_next_2 ?_
  refine lv_aload_n X.1 X.2.1 dX12_next_5 rfl (lv_at hl 0 rfl) ?_
  refine va_get (D := g.1) (ci := 11) (v := .int (nI n)) (C := RX12) (T := TX12) (N := 26) X.1 X.2.1 X.2.2.2.2 iwX12 X.2.2.2.1 hK hP 0 rfl rfl 1 (by decide) (X.2.2.2.2 _ q1021) (fun _ h9 => h9) rfl dX12_next_6 ?_
  refine lv_iconst (v := (nI 1)) X.1 X.2.1 dX12_next_9 (by decide) ?_
  refine n_sub X dX12_next_10 (by omega) ?_
  refine (c_mpower g k (n - 1) (by omega)).callS (rest := [.int (nI b)]) X dX12_next_11 q1106 tX12_power hK (hP.sub [] rfl) hl ⟨⟨Nat.le_of_ble_eq_true rfl, Nat.le_of_ble_eq_true rfl⟩, Nat.le_of_ble_eq_true rfl, Nat.le_of_ble_eq_true rfl⟩ rfl rfl (Nat.le_of_ble_eq_true rfl) ?_
  refine tp_i (y := (nI T)) (by rw [hc.2.2]) ?_
  refine n_rem X dX12_next_14 (by omega) (by omega) (by omega) ?_
  refine lv_aload_n X.1 X.2.1 dX12_next_15 rfl (lv_at hl 0 rfl) ?_
  refine va_get (D := g.1) (ci := 11) (v := .int (nI k)) (C := RX12) (T := TX12) (N := 26) X.1 X.2.1 X.2.2.2.2 iwX12 X.2.2.2.1 hK hP 0 rfl rfl 0 (by decide) (X.2.2.2.2 _ q1020) (fun _ h9 => h9) rfl dX12_next_16 ?_
  refine n_mul X dX12_next_19 ?_
  refine lv_aload_n X.1 X.2.1 dX12_next_20 rfl (lv_at hl 0 rfl) ?_
  refine lv_iload_n X.1 X.2.1 dX12_next_21 rfl (lv_at hl 1 rfl) ?_
  refine (m_successor g m0 lt er el cm_ sv md fmm lc lz af pt_ oc ty_ sz_ em k n s h c tk k0 n0 s0 z p B T b (by assumption) (by omega)).callV (rest := [.int (nI ((b % T) * k))]) X dX12_next_22 q1178 tX12_successor hK (hP.sub [0] rfl) 0 11 rfl rfl rfl hl ⟨⟨Nat.le_of_ble_eq_true rfl, Nat.le_of_ble_eq_true rfl⟩, Nat.le_of_ble_eq_true rfl, Nat.le_of_ble_eq_true rfl⟩ rfl rfl (Nat.le_of_ble_eq_true rfl) ?_
  refine n_add X dX12_next_25 ?_
  exact PuI.ret X hr hlk dX12_next_26 (nI_nar _) (rfl)
