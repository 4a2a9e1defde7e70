set_option maxHeartbeats 4000000 in
set_option maxRecDepth 100000 in
theorem b_letterCount (g : G5) (b0 : Nat) (sa : Nat) (qa : Nat) (da : Nat) (ka : Nat) (o : Nat) (ca : Nat) (pa : Nat) (ha : Nat) (na : Nat) (ta : Nat) (ua : Nat) (k : Nat) (n : Nat) (B : Nat) (T : Nat) : PuI yX11_letterCount cX11_letterCount 1 (some .int) 1 20 g [.ref b0] [(b0, .inr (10, [.ref sa, .ref qa, .ref da, .ref ka, .ref o, .ref ca, .ref pa, .ref ha, .ref na, .ref ta, .ref ua])), (sa, .inr (6, [.int (nI k), .int (nI n), .int (nI B), .int (nI T)]))] (nI k) := by
  refine PuI.of (by decide +kernel) (Nat.le_of_ble_eq_true rfl) ?_
  intro p_ l_ e_ S_ m_ args below meth co X hr hlk hP hK ls hl
  have X : CallFix p_ m_ co cX11_letterCount 1 S_ args lw_all RX11 := X
  have hl : lv_has ls 1 [(0, .ref b0)] := hl
  refine lv_aload_n X.1 X.2.1 dX11_letterCount_0 rfl (lv_at hl 0 rfl) ?_
  refine va_get (D := g.1) (ci := 10) (v := .ref sa) (C := RX11) (T := TX11) (N := 11) X.1 X.2.1 X.2.2.2.2 iwX11 X.2.2.2.1 hK hP 0 rfl rfl 0 (by decide) (X.2.2.2.2 _ q236) (fun _ h9 => h9) rfl dX11_letterCount_1 ?_
  refine (c_sh_k g sa k n B T).callV (rest := []) X dX11_letterCount_4 q308 tX6_letterTotal hK (hP.sub [1] rfl) 0 6 rfl rfl rfl hl ⟨⟨Nat.le_of_ble_eq_true rfl, Nat.le_of_ble_eq_true rfl⟩, Nat.le_of_ble_eq_true rfl, Nat.le_of_ble_eq_true rfl⟩ rfl rfl (Nat.le_of_ble_eq_true rfl) ?_
  exact PuI.ret X hr hlk dX11_letterCount_7 (nI_nar _) (rfl)

set_option maxHeartbeats 4000000 in
set_option maxRecDepth 100000 in
theorem b_order (g : G5) (b0 : Nat) (sa : Nat) (qa : Nat) (da : Nat) (ka : Nat) (o : Nat) (ca : Nat) (pa : Nat) (ha : Nat) (na : Nat) (ta : Nat) (ua : Nat) (k : Nat) (n : Nat) (B : Nat) (T : Nat) : PuI yX11_order cX11_order 1 (some .int) 1 20 g [.ref b0] [(b0, .inr (10, [.ref sa, .ref qa, .ref da, .ref ka, .ref o, .ref ca, .ref pa, .ref ha, .ref na, .ref ta, .ref ua])), (sa, .inr (6, [.int (nI k), .int (nI n), .int (nI B), .int (nI T)]))] (nI n) := by
  refine PuI.of (by decide +kernel) (Nat.le_of_ble_eq_true rfl) ?_
  intro p_ l_ e_ S_ m_ args below meth co X hr hlk hP hK ls hl
  have X : CallFix p_ m_ co cX11_order 1 S_ args lw_all RX11 := X
  have hl : lv_has ls 1 [(0, .ref b0)] := hl
  refine lv_aload_n X.1 X.2.1 dX11_order_0 rfl (lv_at hl 0 rfl) ?_
  refine va_get (D := g.1) (ci := 10) (v := .ref sa) (C := RX11) (T := TX11) (N := 11) X.1 X.2.1 X.2.2.2.2 iwX11 X.2.2.2.1 hK hP 0 rfl rfl 0 (by decide) (X.2.2.2.2 _ q236) (fun _ h9 => h9) rfl dX11_order_1 ?_
  refine (c_sh_n g sa k n B T).callV (rest := []) X dX11_order_4 q316 tX6_blockSize hK (hP.sub [1] rfl) 0 6 rfl rfl rfl hl ⟨⟨Nat.le_of_ble_eq_true rfl, Nat.le_of_ble_eq_true rfl⟩, Nat.le_of_ble_eq_true rfl, Nat.le_of_ble_eq_true rfl⟩ rfl rfl (Nat.le_of_ble_eq_true rfl) ?_
  exact PuI.ret X hr hlk dX11_order_7 (nI_nar _) (rfl)

set_option maxHeartbeats 4000000 in
set_option maxRecDepth 100000 in
theorem b_length (g : G5) (b0 : Nat) (sa : Nat) (qa : Nat) (da : Nat) (ka : Nat) (o : Nat) (ca : Nat) (pa : Nat) (ha : Nat) (na : Nat) (ta : Nat) (ua : Nat) (qb : Nat) (s : List Nat) (f : Nat → Int32) : PuI yX11_length cX11_length 1 (some .int) 1 20 g [.ref b0] [(b0, .inr (10, [.ref sa, .ref qa, .ref da, .ref ka, .ref o, .ref ca, .ref pa, .ref ha, .ref na, .ref ta, .ref ua])), (qa, .inr (9, [.ref qb, .int (nI s.length)])), (qb, .inl (g.2.1, 256, .inl f))] (nI s.length) := by
  refine PuI.of (by decide +kernel) (Nat.le_of_ble_eq_true rfl) ?_
  intro p_ l_ e_ S_ m_ args below meth co X hr hlk hP hK ls hl
  have X : CallFix p_ m_ co cX11_length 1 S_ args lw_all RX11 := X
  have hl : lv_has ls 1 [(0, .ref b0)] := hl
  refine lv_aload_n X.1 X.2.1 dX11_length_0 rfl (lv_at hl 0 rfl) ?_
  refine va_get (D := g.1) (ci := 10) (v := .ref qa) (C := RX11) (T := TX11) (N := 11) X.1 X.2.1 X.2.2.2.2 iwX11 X.2.2.2.1 hK hP 0 rfl rfl 1 (by decide) (X.2.2.2.2 _ q237) (fun _ h9 => h9) rfl dX11_length_1 ?_
  refine (c_Word_size g qa qb s f).callV (rest := []) X dX11_length_4 q324 tX10_size hK (hP.sub [1, 2] rfl) 0 9 rfl rfl rfl hl ⟨⟨Nat.le_of_ble_eq_true rfl, Nat.le_of_ble_eq_true rfl⟩, Nat.le_of_ble_eq_true rfl, Nat.le_of_ble_eq_true rfl⟩ rfl rfl (Nat.le_of_ble_eq_true rfl) ?_
  exact PuI.ret X hr hlk dX11_length_7 (nI_nar _) (rfl)

set_option maxHeartbeats 4000000 in
set_option maxRecDepth 100000 in
theorem b_letter (g : G5) (b0 : Nat) (sa : Nat) (qa : Nat) (da : Nat) (ka : Nat) (o : Nat) (ca : Nat) (pa : Nat) (ha : Nat) (na : Nat) (ta : Nat) (ua : Nat) (qb : Nat) (s : List Nat) (f : Nat → Int32) (x : Int32) (hs : s.length ≤ 256) (hf : rep f s) : PuI yX11_letter cX11_letter 2 (some .int) 2 42 g [.ref b0, .int x] [(b0, .inr (10, [.ref sa, .ref qa, .ref da, .ref ka, .ref o, .ref ca, .ref pa, .ref ha, .ref na, .ref ta, .ref ua])), (qa, .inr (9, [.ref qb, .int (nI s.length)])), (qb, .inl (g.2.1, 256, .inl f))] (atI s x) := by
  refine PuI.of (by decide +kernel) (Nat.le_of_ble_eq_true rfl) ?_
  intro p_ l_ e_ S_ m_ args below meth co X hr hlk hP hK ls hl
  have X : CallFix p_ m_ co cX11_letter 2 S_ args lw_all RX11 := X
  have hl : lv_has ls 2 [(0, .ref b0), (1, .int x)] := hl
  refine lv_aload_n X.1 X.2.1 dX11_letter_0 rfl (lv_at hl 0 rfl) ?_
  refine va_get (D := g.1) (ci := 10) (v := .ref qa) (C := RX11) (T := TX11) (N := 11) X.1 X.2.1 X.2.2.2.2 iwX11 X.2.2.2.1 hK hP 0 rfl rfl 1 (by decide) (X.2.2.2.2 _ q237) (fun _ h9 => h9) rfl dX11_letter_1 ?_
  refine lv_iload_n X.1 X.2.1 dX11_letter_4 rfl (lv_at hl 1 rfl) ?_
  refine (c_Word_at g qa qb s f x (by omega) (by assumption)).callV (rest := []) X dX11_letter_5 q332 tX10_at hK (hP.sub [1, 2] rfl) 0 9 rfl rfl rfl hl ⟨⟨Nat.le_of_ble_eq_true rfl, Nat.le_of_ble_eq_true rfl⟩, Nat.le_of_ble_eq_true rfl, Nat.le_of_ble_eq_true rfl⟩ rfl rfl (Nat.le_of_ble_eq_true rfl) ?_
  exact PuI.ret X hr hlk dX11_letter_8 (nI_nar _) (rfl)

set_option maxHeartbeats 4000000 in
set_option maxRecDepth 100000 in
theorem b_blockAt (g : G5) (b0 : Nat) (sa : Nat) (qa : Nat) (da : Nat) (ka : Nat) (o : Nat) (ca : Nat) (pa : Nat) (ha : Nat) (na : Nat) (ta : Nat) (ua : Nat) (k : Nat) (n : Nat) (B : Nat) (T : Nat) (qb : Nat) (s : List Nat) (f : Nat → Int32) (x : Int32) (hc : shp k n B T) (hs : s.length ≤ 256) (hf : rep f s) : PuI yX11_blockAt cX11_blockAt 2 (some .int) 3 67 g [.ref b0, .int x] [(b0, .inr (10, [.ref sa, .ref qa, .ref da, .ref ka, .ref o, .ref ca, .ref pa, .ref ha, .ref na, .ref ta, .ref ua])), (sa, .inr (6, [.int (nI k), .int (nI n), .int (nI B), .int (nI T)])), (qa, .inr (9, [.ref qb, .int (nI s.length)])), (qb, .inl (g.2.1, 256, .inl f))] (a_blockAt k n s x) := by
  refine PuI.of (by decide +kernel) (Nat.le_of_ble_eq_true rfl) ?_
  intro p_ l_ e_ S_ m_ args below meth co X hr hlk hP hK ls hl
  have X : CallFix p_ m_ co cX11_blockAt 2 S_ args lw_all RX11 := X
  have hl : lv_has ls 2 [(0, .ref b0), (1, .int x)] := hl
  refine lv_aload_n X.1 X.2.1 dX11_blockAt_0 rfl (lv_at hl 0 rfl) ?_
  refine va_get (D := g.1) (ci := 10) (v := .ref qa) (C := RX11) (T := TX11) (N := 11) X.1 X.2.1 X.2.2.2.2 iwX11 X.2.2.2.1 hK hP 0 rfl rfl 1 (by decide) (X.2.2.2.2 _ q237) (fun _ h9 => h9) rfl dX11_blockAt_1 ?_
  refine lv_iload_n X.1 X.2.1 dX11_blockAt_4 rfl (lv_at hl 1 rfl) ?_
  refine (c_Word_has g qa qb s f x (by omega)).callV (rest := []) X dX11_blockAt_5 q598 tX10_has hK (hP.sub [2, 3] rfl) 0 9 rfl rfl rfl hl ⟨⟨Nat.le_of_ble_eq_true rfl, Nat.le_of_ble_eq_true rfl⟩, Nat.le_of_ble_eq_true rfl, Nat.le_of_ble_eq_true rfl⟩ rfl rfl (Nat.le_of_ble_eq_true rfl) ?_
  refine b_if_eq (tgt := 26) X dX11_blockAt_8 (by decide) (fun c8 => ?_) (fun c8 => ?_)
  · refine lv_bipush (v := (-2)) X.1 X.2.1 dX11_blockAt_26 (by decide) ?_
    exact PuI.ret X hr hlk dX11_blockAt_28 (nI_nar _) (by unfold a_blockAt; rw [c8]; first | rfl | (rw [xN_N (by omega)]; rfl))
  · obtain ⟨j, hj, rfl⟩ := hasB_t c8
    refine lv_aload_n X.1 X.2.1 dX11_blockAt_11 rfl (lv_at hl 0 rfl) ?_
    refine va_get (D := g.1) (ci := 10) (v := .ref sa) (C := RX11) (T := TX11) (N := 11) X.1 X.2.1 X.2.2.2.2 iwX11 X.2.2.2.1 hK hP 0 rfl rfl 0 (by decide) (X.2.2.2.2 _ q236) (fun _ h9 => h9) rfl dX11_blockAt_12 ?_
    refine lv_aload_n X.1 X.2.1 dX11_blockAt_15 rfl (lv_at hl 0 rfl) ?_
    refine va_get (D := g.1) (ci := 10) (v := .ref qa) (C := RX11) (T := TX11) (N := 11) X.1 X.2.1 X.2.2.2.2 iwX11 X.2.2.2.1 hK hP 0 rfl rfl 1 (by decide) (X.2.2.2.2 _ q237) (fun _ h9 => h9) rfl dX11_blockAt_16 ?_
    refine lv_iload_n X.1 X.2.1 dX11_blockAt_19 rfl (lv_at hl 1 rfl) ?_
    refine (c_codeAt g sa k n B T qa qb s f j (by assumption) (by omega) (by assumption) (by omega) (by omega)).callV (rest := []) X dX11_blockAt_20 q666 tX6_codeAt hK (hP.sub [1, 2, 3] rfl) 0 6 rfl rfl rfl hl ⟨⟨Nat.le_of_ble_eq_true rfl, Nat.le_of_ble_eq_true rfl⟩, Nat.le_of_ble_eq_true rfl, Nat.le_of_ble_eq_true rfl⟩ rfl rfl (Nat.le_of_ble_eq_true rfl) ?_
    refine lv_goto (tgt := 28) X.1 X.2.1 dX11_blockAt_23 (by decide) ?_
    exact PuI.ret X hr hlk dX11_blockAt_28 (nI_nar _) (by unfold a_blockAt; rw [c8]; first | rfl | (rw [xN_N (by omega)]; rfl))

set_option maxHeartbeats 4000000 in
set_option maxRecDepth 100000 in
theorem b_positionOf (g : G5) (b0 : Nat) (sa : Nat) (qa : Nat) (da : Nat) (ka : Nat) (o : Nat) (ca : Nat) (pa : Nat) (ha : Nat) (na : Nat) (ta : Nat) (ua : Nat) (km : Nat) (k : Nat) (n : Nat) (B : Nat) (T : Nat) (qb : Nat) (s : List Nat) (f : Nat → Int32) (x : Int32) (hc : shp k n B T) (hs : s.length ≤ 256) (hf : rep f s) (hlt : ltk k s) : PuI yX11_positionOf cX11_positionOf 2 (some .int) 4 91 g [.ref b0, .int x] [(b0, .inr (10, [.ref sa, .ref qa, .ref da, .ref ka, .ref o, .ref ca, .ref pa, .ref ha, .ref na, .ref ta, .ref ua])), (ka, .inr (0, [.ref km])), (sa, .inr (6, [.int (nI k), .int (nI n), .int (nI B), .int (nI T)])), (qa, .inr (9, [.ref qb, .int (nI s.length)])), (qb, .inl (g.2.1, 256, .inl f))] (a_positionOf k n B s x) := by
  refine PuI.of (by decide +kernel) (Nat.le_of_ble_eq_true rfl) ?_
  intro p_ l_ e_ S_ m_ args below meth co X hr hlk hP hK ls hl
  have X : CallFix p_ m_ co cX11_positionOf 2 S_ args lw_all RX11 := X
  have hl : lv_has ls 2 [(0, .ref b0), (1, .int x)] := hl
  obtain ⟨hk2, hk4, hn1, hn6, hB, hT, hBT, hT2⟩ := hc.f
  have hB0 : 0 < B := by rw [hBT]; exact Nat.mul_pos (by omega) (by omega)
  refine lv_aload_n X.1 X.2.1 dX11_positionOf_0 rfl (lv_at hl 0 rfl) ?_
  refine va_get (D := g.1) (ci := 10) (v := .ref sa) (C := RX11) (T := TX11) (N := 11) X.1 X.2.1 X.2.2.2.2 iwX11 X.2.2.2.1 hK hP 0 rfl rfl 0 (by decide) (X.2.2.2.2 _ q236) (fun _ h9 => h9) rfl dX11_positionOf_1 ?_
  refine lv_iload_n X.1 X.2.1 dX11_positionOf_4 rfl (lv_at hl 1 rfl) ?_
  refine (c_isBlock g sa k n B T x (by assumption)).callV (rest := []) X dX11_positionOf_5 q675 tX6_isBlock hK (hP.sub [2] rfl) 0 6 rfl rfl rfl hl ⟨⟨Nat.le_of_ble_eq_true rfl, Nat.le_of_ble_eq_true rfl⟩, Nat.le_of_ble_eq_true rfl, Nat.le_of_ble_eq_true rfl⟩ rfl rfl (Nat.le_of_ble_eq_true rfl) ?_
  refine b_if_eq (tgt := 30) X dX11_positionOf_8 (by decide) (fun c8 => ?_) (fun c8 => ?_)
  · refine lv_iconst (v := (-1)) X.1 X.2.1 dX11_positionOf_30 (by decide) ?_
    exact PuI.ret X hr hlk dX11_positionOf_31 (nI_nar _) (by unfold a_positionOf; rw [c8]; first | rfl | (rw [xN_N (by omega)]; rfl))
  · obtain ⟨j, hj, rfl⟩ := hasB_t c8
    refine lv_aload_n X.1 X.2.1 dX11_positionOf_11 rfl (lv_at hl 0 rfl) ?_
    refine va_get (D := g.1) (ci := 10) (v := .ref ka) (C := RX11) (T := TX11) (N := 11) X.1 X.2.1 X.2.2.2.2 iwX11 X.2.2.2.1 hK hP 0 rfl rfl 3 (by decide) (X.2.2.2.2 _ q239) (fun _ h9 => h9) rfl dX11_positionOf_12 ?_
    refine lv_aload_n X.1 X.2.1 dX11_positionOf_15 rfl (lv_at hl 0 rfl) ?_
    refine va_get (D := g.1) (ci := 10) (v := .ref sa) (C := RX11) (T := TX11) (N := 11) X.1 X.2.1 X.2.2.2.2 iwX11 X.2.2.2.1 hK hP 0 rfl rfl 0 (by decide) (X.2.2.2.2 _ q236) (fun _ h9 => h9) rfl dX11_positionOf_16 ?_
    refine lv_aload_n X.1 X.2.1 dX11_positionOf_19 rfl (lv_at hl 0 rfl) ?_
    refine va_get (D := g.1) (ci := 10) (v := .ref qa) (C := RX11) (T := TX11) (N := 11) X.1 X.2.1 X.2.2.2.2 iwX11 X.2.2.2.1 hK hP 0 rfl rfl 1 (by decide) (X.2.2.2.2 _ q237) (fun _ h9 => h9) rfl dX11_positionOf_20 ?_
    refine lv_iload_n X.1 X.2.1 dX11_positionOf_23 rfl (lv_at hl 1 rfl) ?_
    refine (c_bl_first g ka km sa k n B T qa qb s f j (by assumption) (by omega) (by assumption) (by assumption) (by omega)).callV (rest := []) X dX11_positionOf_24 q679 tX0_firstPlace hK (hP.sub [1, 2, 3, 4] rfl) 0 0 rfl rfl rfl hl ⟨⟨Nat.le_of_ble_eq_true rfl, Nat.le_of_ble_eq_true rfl⟩, Nat.le_of_ble_eq_true rfl, Nat.le_of_ble_eq_true rfl⟩ rfl rfl (Nat.le_of_ble_eq_true rfl) ?_
    refine lv_goto (tgt := 31) X.1 X.2.1 dX11_positionOf_27 (by decide) ?_
    exact PuI.ret X hr hlk dX11_positionOf_31 (nI_nar _) (by unfold a_positionOf; rw [c8]; first | rfl | (rw [xN_N (by omega)]; rfl))

set_option maxHeartbeats 4000000 in
set_option maxRecDepth 100000 in
theorem b_occurrences (g : G5) (b0 : Nat) (sa : Nat) (qa : Nat) (da : Nat) (ka : Nat) (o : Nat) (ca : Nat) (pa : Nat) (ha : Nat) (na : Nat) (ta : Nat) (ua : Nat) (km : Nat) (k : Nat) (n : Nat) (B : Nat) (T : Nat) (qb : Nat) (s : List Nat) (f : Nat → Int32) (x : Int32) (hc : shp k n B T) (hs : s.length ≤ 256) (hf : rep f s) (hlt : ltk k s) : PuI yX11_occurrences cX11_occurrences 2 (some .int) 4 92 g [.ref b0, .int x] [(b0, .inr (10, [.ref sa, .ref qa, .ref da, .ref ka, .ref o, .ref ca, .ref pa, .ref ha, .ref na, .ref ta, .ref ua])), (ka, .inr (0, [.ref km])), (sa, .inr (6, [.int (nI k), .int (nI n), .int (nI B), .int (nI T)])), (qa, .inr (9, [.ref qb, .int (nI s.length)])), (qb, .inl (g.2.1, 256, .inl f))] (a_occurrences k n B s x) := by
  refine PuI.of (by decide +kernel) (Nat.le_of_ble_eq_true rfl) ?_
  intro p_ l_ e_ S_ m_ args below meth co X hr hlk hP hK ls hl
  have X : CallFix p_ m_ co cX11_occurrences 2 S_ args lw_all RX11 := X
  have hl : lv_has ls 2 [(0, .ref b0), (1, .int x)] := hl
  obtain ⟨hk2, hk4, hn1, hn6, hB, hT, hBT, hT2⟩ := hc.f
  have hB0 : 0 < B := by rw [hBT]; exact Nat.mul_pos (by omega) (by omega)
  refine lv_aload_n X.1 X.2.1 dX11_occurrences_0 rfl (lv_at hl 0 rfl) ?_
  refine va_get (D := g.1) (ci := 10) (v := .ref sa) (C := RX11) (T := TX11) (N := 11) X.1 X.2.1 X.2.2.2.2 iwX11 X.2.2.2.1 hK hP 0 rfl rfl 0 (by decide) (X.2.2.2.2 _ q236) (fun _ h9 => h9) rfl dX11_occurrences_1 ?_
  refine lv_iload_n X.1 X.2.1 dX11_occurrences_4 rfl (lv_at hl 1 rfl) ?_
  refine (c_isBlock g sa k n B T x (by assumption)).callV (rest := []) X dX11_occurrences_5 q675 tX6_isBlock hK (hP.sub [2] rfl) 0 6 rfl rfl rfl hl ⟨⟨Nat.le_of_ble_eq_true rfl, Nat.le_of_ble_eq_true rfl⟩, Nat.le_of_ble_eq_true rfl, Nat.le_of_ble_eq_true rfl⟩ rfl rfl (Nat.le_of_ble_eq_true rfl) ?_
  refine b_if_eq (tgt := 30) X dX11_occurrences_8 (by decide) (fun c8 => ?_) (fun c8 => ?_)
  · refine lv_iconst (v := (-1)) X.1 X.2.1 dX11_occurrences_30 (by decide) ?_
    exact PuI.ret X hr hlk dX11_occurrences_31 (nI_nar _) (by unfold a_occurrences; rw [c8]; first | rfl | (rw [xN_N (by omega)]; rfl))
  · obtain ⟨j, hj, rfl⟩ := hasB_t c8
    refine lv_aload_n X.1 X.2.1 dX11_occurrences_11 rfl (lv_at hl 0 rfl) ?_
    refine va_get (D := g.1) (ci := 10) (v := .ref ka) (C := RX11) (T := TX11) (N := 11) X.1 X.2.1 X.2.2.2.2 iwX11 X.2.2.2.1 hK hP 0 rfl rfl 3 (by decide) (X.2.2.2.2 _ q239) (fun _ h9 => h9) rfl dX11_occurrences_12 ?_
    refine lv_aload_n X.1 X.2.1 dX11_occurrences_15 rfl (lv_at hl 0 rfl) ?_
    refine va_get (D := g.1) (ci := 10) (v := .ref sa) (C := RX11) (T := TX11) (N := 11) X.1 X.2.1 X.2.2.2.2 iwX11 X.2.2.2.1 hK hP 0 rfl rfl 0 (by decide) (X.2.2.2.2 _ q236) (fun _ h9 => h9) rfl dX11_occurrences_16 ?_
    refine lv_aload_n X.1 X.2.1 dX11_occurrences_19 rfl (lv_at hl 0 rfl) ?_
    refine va_get (D := g.1) (ci := 10) (v := .ref qa) (C := RX11) (T := TX11) (N := 11) X.1 X.2.1 X.2.2.2.2 iwX11 X.2.2.2.1 hK hP 0 rfl rfl 1 (by decide) (X.2.2.2.2 _ q237) (fun _ h9 => h9) rfl dX11_occurrences_20 ?_
    refine lv_iload_n X.1 X.2.1 dX11_occurrences_23 rfl (lv_at hl 1 rfl) ?_
    refine (c_bl_total g ka km sa k n B T qa qb s f j (by assumption) (by omega) (by assumption) (by assumption) (by omega)).callV (rest := []) X dX11_occurrences_24 q694 tX0_placeTotal hK (hP.sub [1, 2, 3, 4] rfl) 0 0 rfl rfl rfl hl ⟨⟨Nat.le_of_ble_eq_true rfl, Nat.le_of_ble_eq_true rfl⟩, Nat.le_of_ble_eq_true rfl, Nat.le_of_ble_eq_true rfl⟩ rfl rfl (Nat.le_of_ble_eq_true rfl) ?_
    refine lv_goto (tgt := 31) X.1 X.2.1 dX11_occurrences_27 (by decide) ?_
    exact PuI.ret X hr hlk dX11_occurrences_31 (nI_nar _) (by unfold a_occurrences; rw [c8]; first | rfl | (rw [xN_N (by omega)]; rfl))

set_option maxHeartbeats 4000000 in
set_option maxRecDepth 100000 in
theorem b_letterAfter (g : G5) (b0 : Nat) (sa : Nat) (qa : Nat) (da : Nat) (ka : Nat) (o : Nat) (ca : Nat) (pa : Nat) (ha : Nat) (na : Nat) (ta : Nat) (ua : Nat) (km : Nat) (k : Nat) (n : Nat) (B : Nat) (T : Nat) (qb : Nat) (s : List Nat) (f : Nat → Int32) (x : Int32) (hc : shp k n B T) (hs : s.length ≤ 256) (hf : rep f s) (hlt : ltk k s) : PuI yX11_letterAfter cX11_letterAfter 3 (some .int) 4 91 g [.ref b0, .int x] [(b0, .inr (10, [.ref sa, .ref qa, .ref da, .ref ka, .ref o, .ref ca, .ref pa, .ref ha, .ref na, .ref ta, .ref ua])), (ka, .inr (0, [.ref km])), (sa, .inr (6, [.int (nI k), .int (nI n), .int (nI B), .int (nI T)])), (qa, .inr (9, [.ref qb, .int (nI s.length)])), (qb, .inl (g.2.1, 256, .inl f))] (a_letterAfter k n B s x) := by
  refine PuI.of (by decide +kernel) (Nat.le_of_ble_eq_true rfl) ?_
  intro p_ l_ e_ S_ m_ args below meth co X hr hlk hP hK ls hl
  have X : CallFix p_ m_ co cX11_letterAfter 3 S_ args lw_all RX11 := X
  have hl : lv_has ls 3 [(0, .ref b0), (1, .int x)] := hl
  obtain ⟨hk2, hk4, hn1, hn6, hB, hT, hBT, hT2⟩ := hc.f
  have hB0 : 0 < B := by rw [hBT]; exact Nat.mul_pos (by omega) (by omega)
  refine lv_aload_n X.1 X.2.1 dX11_letterAfter_0 rfl (lv_at hl 0 rfl) ?_
  refine va_get (D := g.1) (ci := 10) (v := .ref sa) (C := RX11) (T := TX11) (N := 11) X.1 X.2.1 X.2.2.2.2 iwX11 X.2.2.2.1 hK hP 0 rfl rfl 0 (by decide) (X.2.2.2.2 _ q236) (fun _ h9 => h9) rfl dX11_letterAfter_1 ?_
  refine lv_iload_n X.1 X.2.1 dX11_letterAfter_4 rfl (lv_at hl 1 rfl) ?_
  refine (c_isBlock g sa k n B T x (by assumption)).callV (rest := []) X dX11_letterAfter_5 q675 tX6_isBlock hK (hP.sub [2] rfl) 0 6 rfl rfl rfl hl ⟨⟨Nat.le_of_ble_eq_true rfl, Nat.le_of_ble_eq_true rfl⟩, Nat.le_of_ble_eq_true rfl, Nat.le_of_ble_eq_true rfl⟩ rfl rfl (Nat.le_of_ble_eq_true rfl) ?_
  refine b_if_ne (tgt := 13) X dX11_letterAfter_8 (by decide) (fun c8 => ?_) (fun c8 => ?_)
  · obtain ⟨j, hj, rfl⟩ := hasB_t c8
    refine lv_aload_n X.1 X.2.1 dX11_letterAfter_13 rfl (lv_at hl 0 rfl) ?_
    refine va_get (D := g.1) (ci := 10) (v := .ref ka) (C := RX11) (T := TX11) (N := 11) X.1 X.2.1 X.2.2.2.2 iwX11 X.2.2.2.1 hK hP 0 rfl rfl 3 (by decide) (X.2.2.2.2 _ q239) (fun _ h9 => h9) rfl dX11_letterAfter_14 ?_
    refine lv_aload_n X.1 X.2.1 dX11_letterAfter_17 rfl (lv_at hl 0 rfl) ?_
    refine va_get (D := g.1) (ci := 10) (v := .ref sa) (C := RX11) (T := TX11) (N := 11) X.1 X.2.1 X.2.2.2.2 iwX11 X.2.2.2.1 hK hP 0 rfl rfl 0 (by decide) (X.2.2.2.2 _ q236) (fun _ h9 => h9) rfl dX11_letterAfter_18 ?_
    refine lv_aload_n X.1 X.2.1 dX11_letterAfter_21 rfl (lv_at hl 0 rfl) ?_
    refine va_get (D := g.1) (ci := 10) (v := .ref qa) (C := RX11) (T := TX11) (N := 11) X.1 X.2.1 X.2.2.2.2 iwX11 X.2.2.2.1 hK hP 0 rfl rfl 1 (by decide) (X.2.2.2.2 _ q237) (fun _ h9 => h9) rfl dX11_letterAfter_22 ?_
    refine lv_iload_n X.1 X.2.1 dX11_letterAfter_25 rfl (lv_at hl 1 rfl) ?_
    refine (c_bl_first g ka km sa k n B T qa qb s f j (by assumption) (by omega) (by assumption) (by assumption) (by omega)).callV (rest := []) X dX11_letterAfter_26 q679 tX0_firstPlace hK (hP.sub [1, 2, 3, 4] rfl) 0 0 rfl rfl rfl hl ⟨⟨Nat.le_of_ble_eq_true rfl, Nat.le_of_ble_eq_true rfl⟩, Nat.le_of_ble_eq_true rfl, Nat.le_of_ble_eq_true rfl⟩ rfl rfl (Nat.le_of_ble_eq_true rfl) ?_
    rcases oI_cases (fpO k n s j) with ⟨hx, ex⟩ | ⟨i, hx, ex⟩
    · refine tp_i (y := (-2)) (ex) ?_
      refine lv_istore_n (lv' := [(2, .int (-2)), (0, .ref b0), (1, .int (nI j))]) X.1 X.2.1 dX11_letterAfter_29 rfl hl (by decide) rfl (fun ls hl => ?_)
      refine lv_iload_n X.1 X.2.1 dX11_letterAfter_30 rfl (lv_at hl 0 rfl) ?_
      refine lv_bipush (v := (-2)) X.1 X.2.1 dX11_letterAfter_31 (by decide) ?_
      refine z_icmp_ne (tgt := 41) X dX11_letterAfter_33 (by decide) (show Int32.toInt ((-2)) = (-2) from rfl) (show Int32.toInt ((-2)) = (-2) from rfl) (fun c33 => ?_) (fun c33 => ?_)
      · exfalso; omega
      · refine lv_bipush (v := (-2)) X.1 X.2.1 dX11_letterAfter_36 (by decide) ?_
        refine lv_goto (tgt := 57) X.1 X.2.1 dX11_letterAfter_38 (by decide) ?_
        exact PuI.ret X hr hlk dX11_letterAfter_57 (nI_nar _) (by unfold a_letterAfter; rw [c8, xN_N (by omega), hx]; rfl)
    · have hil := fpO_lt hx
      refine tp_i (y := (nI i)) (ex) ?_
      refine lv_istore_n (lv' := [(2, .int (nI i)), (0, .ref b0), (1, .int (nI j))]) X.1 X.2.1 dX11_letterAfter_29 rfl hl (by decide) rfl (fun ls hl => ?_)
      refine lv_iload_n X.1 X.2.1 dX11_letterAfter_30 rfl (lv_at hl 0 rfl) ?_
      refine lv_bipush (v := (-2)) X.1 X.2.1 dX11_letterAfter_31 (by decide) ?_
      refine z_icmp_ne (tgt := 41) X dX11_letterAfter_33 (by decide) (nI_toInt (by omega)) (show Int32.toInt ((-2)) = (-2) from rfl) (fun c33 => ?_) (fun c33 => ?_)
      · refine lv_aload_n X.1 X.2.1 dX11_letterAfter_41 rfl (lv_at hl 1 rfl) ?_
        refine va_get (D := g.1) (ci := 10) (v := .ref qa) (C := RX11) (T := TX11) (N := 11) X.1 X.2.1 X.2.2.2.2 iwX11 X.2.2.2.1 hK hP 0 rfl rfl 1 (by decide) (X.2.2.2.2 _ q237) (fun _ h9 => h9) rfl dX11_letterAfter_42 ?_
        refine lv_iload_n X.1 X.2.1 dX11_letterAfter_45 rfl (lv_at hl 0 rfl) ?_
        refine lv_aload_n X.1 X.2.1 dX11_letterAfter_46 rfl (lv_at hl 1 rfl) ?_
        refine va_get (D := g.1) (ci := 10) (v := .ref sa) (C := RX11) (T := TX11) (N := 11) X.1 X.2.1 X.2.2.2.2 iwX11 X.2.2.2.1 hK hP 0 rfl rfl 0 (by decide) (X.2.2.2.2 _ q236) (fun _ h9 => h9) rfl dX11_letterAfter_47 ?_
        refine (c_sh_n g sa k n B T).callV (rest := [.int (nI i), .ref qa]) X dX11_letterAfter_50 q316 tX6_blockSize hK (hP.sub [2] rfl) 0 6 rfl rfl rfl hl ⟨⟨Nat.le_of_ble_eq_true rfl, Nat.le_of_ble_eq_true rfl⟩, Nat.le_of_ble_eq_true rfl, Nat.le_of_ble_eq_true rfl⟩ rfl rfl (Nat.le_of_ble_eq_true rfl) ?_
        refine n_add X dX11_letterAfter_53 ?_
        refine (c_Word_arN g qa qb s f (i + n) (by omega) (by assumption) (by omega) (by omega)).callV (rest := []) X dX11_letterAfter_54 q689 tX10_around hK (hP.sub [3, 4] rfl) 0 9 rfl rfl rfl hl ⟨⟨Nat.le_of_ble_eq_true rfl, Nat.le_of_ble_eq_true rfl⟩, Nat.le_of_ble_eq_true rfl, Nat.le_of_ble_eq_true rfl⟩ rfl rfl (Nat.le_of_ble_eq_true rfl) ?_
        exact PuI.ret X hr hlk dX11_letterAfter_57 (nI_nar _) (by unfold a_letterAfter; rw [c8, xN_N (by omega), hx]; rfl)
      · exfalso; omega
  · refine lv_iconst (v := (-1)) X.1 X.2.1 dX11_letterAfter_11 (by decide) ?_
    exact PuI.ret X hr hlk dX11_letterAfter_12 (nI_nar _) (by unfold a_letterAfter; rw [c8]; rfl)

set_option maxHeartbeats 4000000 in
set_option maxRecDepth 100000 in
theorem b_distance (g : G5) (b0 : Nat) (sa : Nat) (qa : Nat) (da : Nat) (ka : Nat) (o : Nat) (ca : Nat) (pa : Nat) (ha : Nat) (na : Nat) (ta : Nat) (ua : Nat) (km : Nat) (k : Nat) (n : Nat) (B : Nat) (T : Nat) (qb : Nat) (s : List Nat) (f : Nat → Int32) (x : Int32) (y : Int32) (hc : shp k n B T) (hs : s.length ≤ 256) (hf : rep f s) (hlt : ltk k s) : PuI yX11_distance cX11_distance 5 (some .int) 4 91 g [.ref b0, .int x, .int y] [(b0, .inr (10, [.ref sa, .ref qa, .ref da, .ref ka, .ref o, .ref ca, .ref pa, .ref ha, .ref na, .ref ta, .ref ua])), (ka, .inr (0, [.ref km])), (sa, .inr (6, [.int (nI k), .int (nI n), .int (nI B), .int (nI T)])), (qa, .inr (9, [.ref qb, .int (nI s.length)])), (qb, .inl (g.2.1, 256, .inl f))] (a_distance k n B s x y) := by
  refine PuI.of (by decide +kernel) (Nat.le_of_ble_eq_true rfl) ?_
  intro p_ l_ e_ S_ m_ args below meth co X hr hlk hP hK ls hl
  have X : CallFix p_ m_ co cX11_distance 5 S_ args lw_all RX11 := X
  have hl : lv_has ls 5 [(0, .ref b0), (1, .int x), (2, .int y)] := hl
  obtain ⟨hk2, hk4, hn1, hn6, hB, hT, hBT, hT2⟩ := hc.f
  have hB0 : 0 < B := by rw [hBT]; exact Nat.mul_pos (by omega) (by omega)
  refine lv_aload_n X.1 X.2.1 dX11_distance_0 rfl (lv_at hl 0 rfl) ?_
  refine va_get (D := g.1) (ci := 10) (v := .ref sa) (C := RX11) (T := TX11) (N := 11) X.1 X.2.1 X.2.2.2.2 iwX11 X.2.2.2.1 hK hP 0 rfl rfl 0 (by decide) (X.2.2.2.2 _ q236) (fun _ h9 => h9) rfl dX11_distance_1 ?_
  refine lv_iload_n X.1 X.2.1 dX11_distance_4 rfl (lv_at hl 1 rfl) ?_
  refine (c_isBlock g sa k n B T x (by assumption)).callV (rest := []) X dX11_distance_5 q675 tX6_isBlock hK (hP.sub [2] rfl) 0 6 rfl rfl rfl hl ⟨⟨Nat.le_of_ble_eq_true rfl, Nat.le_of_ble_eq_true rfl⟩, Nat.le_of_ble_eq_true rfl, Nat.le_of_ble_eq_true rfl⟩ rfl rfl (Nat.le_of_ble_eq_true rfl) ?_
  refine b_if_eq (tgt := 22) X dX11_distance_8 (by decide) (fun c8 => ?_) (fun c8 => ?_)
  · refine lv_iconst (v := (-1)) X.1 X.2.1 dX11_distance_22 (by decide) ?_
    exact PuI.ret X hr hlk dX11_distance_23 (nI_nar _) (by unfold a_distance; rw [c8]; first | rfl | (rw [c19]; rfl))
  · obtain ⟨j, hj, rfl⟩ := hasB_t c8
    refine lv_aload_n X.1 X.2.1 dX11_distance_11 rfl (lv_at hl 0 rfl) ?_
    refine va_get (D := g.1) (ci := 10) (v := .ref sa) (C := RX11) (T := TX11) (N := 11) X.1 X.2.1 X.2.2.2.2 iwX11 X.2.2.2.1 hK hP 0 rfl rfl 0 (by decide) (X.2.2.2.2 _ q236) (fun _ h9 => h9) rfl dX11_distance_12 ?_
    refine lv_iload_n X.1 X.2.1 dX11_distance_15 rfl (lv_at hl 2 rfl) ?_
    refine (c_isBlock g sa k n B T y (by assumption)).callV (rest := []) X dX11_distance_16 q675 tX6_isBlock hK (hP.sub [2] rfl) 0 6 rfl rfl rfl hl ⟨⟨Nat.le_of_ble_eq_true rfl, Nat.le_of_ble_eq_true rfl⟩, Nat.le_of_ble_eq_true rfl, Nat.le_of_ble_eq_true rfl⟩ rfl rfl (Nat.le_of_ble_eq_true rfl) ?_
    refine b_if_ne (tgt := 24) X dX11_distance_19 (by decide) (fun c19 => ?_) (fun c19 => ?_)
    · obtain ⟨t, ht, rfl⟩ := hasB_t c19
      refine lv_aload_n X.1 X.2.1 dX11_distance_24 rfl (lv_at hl 0 rfl) ?_
      refine va_get (D := g.1) (ci := 10) (v := .ref ka) (C := RX11) (T := TX11) (N := 11) X.1 X.2.1 X.2.2.2.2 iwX11 X.2.2.2.1 hK hP 0 rfl rfl 3 (by decide) (X.2.2.2.2 _ q239) (fun _ h9 => h9) rfl dX11_distance_25 ?_
      refine lv_aload_n X.1 X.2.1 dX11_distance_28 rfl (lv_at hl 0 rfl) ?_
      refine va_get (D := g.1) (ci := 10) (v := .ref sa) (C := RX11) (T := TX11) (N := 11) X.1 X.2.1 X.2.2.2.2 iwX11 X.2.2.2.1 hK hP 0 rfl rfl 0 (by decide) (X.2.2.2.2 _ q236) (fun _ h9 => h9) rfl dX11_distance_29 ?_
      refine lv_aload_n X.1 X.2.1 dX11_distance_32 rfl (lv_at hl 0 rfl) ?_
      refine va_get (D := g.1) (ci := 10) (v := .ref qa) (C := RX11) (T := TX11) (N := 11) X.1 X.2.1 X.2.2.2.2 iwX11 X.2.2.2.1 hK hP 0 rfl rfl 1 (by decide) (X.2.2.2.2 _ q237) (fun _ h9 => h9) rfl dX11_distance_33 ?_
      refine lv_iload_n X.1 X.2.1 dX11_distance_36 rfl (lv_at hl 1 rfl) ?_
      refine (c_bl_first g ka km sa k n B T qa qb s f j (by assumption) (by omega) (by assumption) (by assumption) (by omega)).callV (rest := []) X dX11_distance_37 q679 tX0_firstPlace hK (hP.sub [1, 2, 3, 4] rfl) 0 0 rfl rfl rfl hl ⟨⟨Nat.le_of_ble_eq_true rfl, Nat.le_of_ble_eq_true rfl⟩, Nat.le_of_ble_eq_true rfl, Nat.le_of_ble_eq_true rfl⟩ rfl rfl (Nat.le_of_ble_eq_true rfl) ?_
      rcases oI_cases (fpO k n s j) with ⟨hx, ex⟩ | ⟨i, hx, ex⟩
      · refine tp_i (y := (-2)) (ex) ?_
        refine lv_istore_n (lv' := [(3, .int (-2)), (0, .ref b0), (1, .int (nI j)), (2, .int (nI t))]) X.1 X.2.1 dX11_distance_40 rfl hl (by decide) rfl (fun ls hl => ?_)
        refine lv_aload_n X.1 X.2.1 dX11_distance_41 rfl (lv_at hl 1 rfl) ?_
        refine va_get (D := g.1) (ci := 10) (v := .ref ka) (C := RX11) (T := TX11) (N := 11) X.1 X.2.1 X.2.2.2.2 iwX11 X.2.2.2.1 hK hP 0 rfl rfl 3 (by decide) (X.2.2.2.2 _ q239) (fun _ h9 => h9) rfl dX11_distance_42 ?_
        refine lv_aload_n X.1 X.2.1 dX11_distance_45 rfl (lv_at hl 1 rfl) ?_
        refine va_get (D := g.1) (ci := 10) (v := .ref sa) (C := RX11) (T := TX11) (N := 11) X.1 X.2.1 X.2.2.2.2 iwX11 X.2.2.2.1 hK hP 0 rfl rfl 0 (by decide) (X.2.2.2.2 _ q236) (fun _ h9 => h9) rfl dX11_distance_46 ?_
        refine lv_aload_n X.1 X.2.1 dX11_distance_49 rfl (lv_at hl 1 rfl) ?_
        refine va_get (D := g.1) (ci := 10) (v := .ref qa) (C := RX11) (T := TX11) (N := 11) X.1 X.2.1 X.2.2.2.2 iwX11 X.2.2.2.1 hK hP 0 rfl rfl 1 (by decide) (X.2.2.2.2 _ q237) (fun _ h9 => h9) rfl dX11_distance_50 ?_
        refine lv_iload_n X.1 X.2.1 dX11_distance_53 rfl (lv_at hl 3 rfl) ?_
        refine (c_bl_first g ka km sa k n B T qa qb s f t (by assumption) (by omega) (by assumption) (by assumption) (by omega)).callV (rest := []) X dX11_distance_54 q679 tX0_firstPlace hK (hP.sub [1, 2, 3, 4] rfl) 0 0 rfl rfl rfl hl ⟨⟨Nat.le_of_ble_eq_true rfl, Nat.le_of_ble_eq_true rfl⟩, Nat.le_of_ble_eq_true rfl, Nat.le_of_ble_eq_true rfl⟩ rfl rfl (Nat.le_of_ble_eq_true rfl) ?_
        rcases oI_cases (fpO k n s t) with ⟨hx2, ex2⟩ | ⟨i2, hx2, ex2⟩
        · refine tp_i (y := (-2)) (ex2) ?_
          refine lv_istore (lv' := [(4, .int (-2)), (3, .int (-2)), (0, .ref b0), (1, .int (nI j)), (2, .int (nI t))]) X.1 X.2.1 dX11_distance_57 hl (by decide) rfl (fun ls hl => ?_)
          refine lv_iload_n X.1 X.2.1 dX11_distance_59 rfl (lv_at hl 1 rfl) ?_
          refine lv_bipush (v := (-2)) X.1 X.2.1 dX11_distance_60 (by decide) ?_
          refine z_icmp_eq (tgt := 72) X dX11_distance_62 (by decide) (show Int32.toInt ((-2)) = (-2) from rfl) (show Int32.toInt ((-2)) = (-2) from rfl) (fun c62 => ?_) (fun c62 => ?_)
          · refine lv_bipush (v := (-2)) X.1 X.2.1 dX11_distance_72 (by decide) ?_
            exact PuI.ret X hr hlk dX11_distance_74 (nI_nar _) (by unfold a_distance; rw [c8, c19, xN_N (by omega), xN_N (by omega), hx, hx2]; rfl)
          · exfalso; omega
        · have hil2 := fpO_lt hx2
          refine tp_i (y := (nI i2)) (ex2) ?_
          refine lv_istore (lv' := [(4, .int (nI i2)), (3, .int (-2)), (0, .ref b0), (1, .int (nI j)), (2, .int (nI t))]) X.1 X.2.1 dX11_distance_57 hl (by decide) rfl (fun ls hl => ?_)
          refine lv_iload_n X.1 X.2.1 dX11_distance_59 rfl (lv_at hl 1 rfl) ?_
          refine lv_bipush (v := (-2)) X.1 X.2.1 dX11_distance_60 (by decide) ?_
          refine z_icmp_eq (tgt := 72) X dX11_distance_62 (by decide) (show Int32.toInt ((-2)) = (-2) from rfl) (show Int32.toInt ((-2)) = (-2) from rfl) (fun c62 => ?_) (fun c62 => ?_)
          · refine lv_bipush (v := (-2)) X.1 X.2.1 dX11_distance_72 (by decide) ?_
            exact PuI.ret X hr hlk dX11_distance_74 (nI_nar _) (by unfold a_distance; rw [c8, c19, xN_N (by omega), xN_N (by omega), hx, hx2]; rfl)
          · exfalso; omega
      · have hil := fpO_lt hx
        refine tp_i (y := (nI i)) (ex) ?_
        refine lv_istore_n (lv' := [(3, .int (nI i)), (0, .ref b0), (1, .int (nI j)), (2, .int (nI t))]) X.1 X.2.1 dX11_distance_40 rfl hl (by decide) rfl (fun ls hl => ?_)
        refine lv_aload_n X.1 X.2.1 dX11_distance_41 rfl (lv_at hl 1 rfl) ?_
        refine va_get (D := g.1) (ci := 10) (v := .ref ka) (C := RX11) (T := TX11) (N := 11) X.1 X.2.1 X.2.2.2.2 iwX11 X.2.2.2.1 hK hP 0 rfl rfl 3 (by decide) (X.2.2.2.2 _ q239) (fun _ h9 => h9) rfl dX11_distance_42 ?_
        refine lv_aload_n X.1 X.2.1 dX11_distance_45 rfl (lv_at hl 1 rfl) ?_
        refine va_get (D := g.1) (ci := 10) (v := .ref sa) (C := RX11) (T := TX11) (N := 11) X.1 X.2.1 X.2.2.2.2 iwX11 X.2.2.2.1 hK hP 0 rfl rfl 0 (by decide) (X.2.2.2.2 _ q236) (fun _ h9 => h9) rfl dX11_distance_46 ?_
        refine lv_aload_n X.1 X.2.1 dX11_distance_49 rfl (lv_at hl 1 rfl) ?_
        refine va_get (D := g.1) (ci := 10) (v := .ref qa) (C := RX11) (T := TX11) (N := 11) X.1 X.2.1 X.2.2.2.2 iwX11 X.2.2.2.1 hK hP 0 rfl rfl 1 (by decide) (X.2.2.2.2 _ q237) (fun _ h9 => h9) rfl dX11_distance_50 ?_
        refine lv_iload_n X.1 X.2.1 dX11_distance_53 rfl (lv_at hl 3 rfl) ?_
        refine (c_bl_first g ka km sa k n B T qa qb s f t (by assumption) (by omega) (by assumption) (by assumption) (by omega)).callV (rest := []) X dX11_distance_54 q679 tX0_firstPlace hK (hP.sub [1, 2, 3, 4] rfl) 0 0 rfl rfl rfl hl ⟨⟨Nat.le_of_ble_eq_true rfl, Nat.le_of_ble_eq_true rfl⟩, Nat.le_of_ble_eq_true rfl, Nat.le_of_ble_eq_true rfl⟩ rfl rfl (Nat.le_of_ble_eq_true rfl) ?_
        rcases oI_cases (fpO k n s t) with ⟨hx2, ex2⟩ | ⟨i2, hx2, ex2⟩
        · refine tp_i (y := (-2)) (ex2) ?_
          refine lv_istore (lv' := [(4, .int (-2)), (3, .int (nI i)), (0, .ref b0), (1, .int (nI j)), (2, .int (nI t))]) X.1 X.2.1 dX11_distance_57 hl (by decide) rfl (fun ls hl => ?_)
          refine lv_iload_n X.1 X.2.1 dX11_distance_59 rfl (lv_at hl 1 rfl) ?_
          refine lv_bipush (v := (-2)) X.1 X.2.1 dX11_distance_60 (by decide) ?_
          refine z_icmp_eq (tgt := 72) X dX11_distance_62 (by decide) (nI_toInt (by omega)) (show Int32.toInt ((-2)) = (-2) from rfl) (fun c62 => ?_) (fun c62 => ?_)
          · exfalso; omega
          · refine lv_iload X.1 X.2.1 dX11_distance_65 (lv_at hl 0 rfl) ?_
            refine lv_bipush (v := (-2)) X.1 X.2.1 dX11_distance_67 (by decide) ?_
            refine z_icmp_ne (tgt := 75) X dX11_distance_69 (by decide) (show Int32.toInt ((-2)) = (-2) from rfl) (show Int32.toInt ((-2)) = (-2) from rfl) (fun c69 => ?_) (fun c69 => ?_)
            · exfalso; omega
            · refine lv_bipush (v := (-2)) X.1 X.2.1 dX11_distance_72 (by decide) ?_
              exact PuI.ret X hr hlk dX11_distance_74 (nI_nar _) (by unfold a_distance; rw [c8, c19, xN_N (by omega), xN_N (by omega), hx, hx2]; rfl)
        · have hil2 := fpO_lt hx2
          refine tp_i (y := (nI i2)) (ex2) ?_
          refine lv_istore (lv' := [(4, .int (nI i2)), (3, .int (nI i)), (0, .ref b0), (1, .int (nI j)), (2, .int (nI t))]) X.1 X.2.1 dX11_distance_57 hl (by decide) rfl (fun ls hl => ?_)
          refine lv_iload_n X.1 X.2.1 dX11_distance_59 rfl (lv_at hl 1 rfl) ?_
          refine lv_bipush (v := (-2)) X.1 X.2.1 dX11_distance_60 (by decide) ?_
          refine z_icmp_eq (tgt := 72) X dX11_distance_62 (by decide) (nI_toInt (by omega)) (show Int32.toInt ((-2)) = (-2) from rfl) (fun c62 => ?_) (fun c62 => ?_)
          · exfalso; omega
          · refine lv_iload X.1 X.2.1 dX11_distance_65 (lv_at hl 0 rfl) ?_
            refine lv_bipush (v := (-2)) X.1 X.2.1 dX11_distance_67 (by decide) ?_
            refine z_icmp_ne (tgt := 75) X dX11_distance_69 (by decide) (nI_toInt (by omega)) (show Int32.toInt ((-2)) = (-2) from rfl) (fun c69 => ?_) (fun c69 => ?_)
            · refine lv_iload X.1 X.2.1 dX11_distance_75 (lv_at hl 0 rfl) ?_
              refine lv_iload_n X.1 X.2.1 dX11_distance_77 rfl (lv_at hl 1 rfl) ?_
              refine z_icmp_lt (tgt := 88) X dX11_distance_78 (by decide) (nI_toInt (by omega)) (nI_toInt (by omega)) (fun c78 => ?_) (fun c78 => ?_)
              · refine lv_iload X.1 X.2.1 dX11_distance_88 (lv_at hl 0 rfl) ?_
                refine lv_iload_n X.1 X.2.1 dX11_distance_90 rfl (lv_at hl 1 rfl) ?_
                refine lv_isub X.1 X.2.1 dX11_distance_91 ?_
                refine tp_i (y := (iI (((i2 : Nat) : Int) - ((i : Nat) : Int)))) (by first | rw [iI_sub] | rw [nI_iI, nI_iI, iI_sub] | rw [nI_iI, iI_sub]) ?_
                refine lv_aload_n X.1 X.2.1 dX11_distance_92 rfl (lv_at hl 2 rfl) ?_
                refine va_get (D := g.1) (ci := 10) (v := .ref qa) (C := RX11) (T := TX11) (N := 11) X.1 X.2.1 X.2.2.2.2 iwX11 X.2.2.2.1 hK hP 0 rfl rfl 1 (by decide) (X.2.2.2.2 _ q237) (fun _ h9 => h9) rfl dX11_distance_93 ?_
                refine (c_Word_size g qa qb s f).callV (rest := [.int (iI (((i2 : Nat) : Int) - ((i : Nat) : Int)))]) X dX11_distance_96 q324 tX10_size hK (hP.sub [3, 4] rfl) 0 9 rfl rfl rfl hl ⟨⟨Nat.le_of_ble_eq_true rfl, Nat.le_of_ble_eq_true rfl⟩, Nat.le_of_ble_eq_true rfl, Nat.le_of_ble_eq_true rfl⟩ rfl rfl (Nat.le_of_ble_eq_true rfl) ?_
                refine lv_iadd X.1 X.2.1 dX11_distance_99 ?_
                refine tp_i (y := (iI ((((i2 : Nat) : Int) - ((i : Nat) : Int)) + ((s.length : Nat) : Int)))) (by first | rw [iI_add] | rw [nI_iI, nI_iI, iI_add] | rw [nI_iI, iI_add]) ?_
                exact PuI.ret X hr hlk dX11_distance_100 (nI_nar _) (by unfold a_distance; rw [c8, c19, xN_N (by omega), xN_N (by omega), hx, hx2]; show _ = nI (if i ≤ i2 then i2 - i else i2 + s.length - i); first | (rw [if_pos (by omega)]; done) | (rw [if_neg (by omega), nI_iI]; congr 1; omega))
              · refine lv_iload X.1 X.2.1 dX11_distance_81 (lv_at hl 0 rfl) ?_
                refine lv_iload_n X.1 X.2.1 dX11_distance_83 rfl (lv_at hl 1 rfl) ?_
                refine n_sub X dX11_distance_84 (by omega) ?_
                refine lv_goto (tgt := 100) X.1 X.2.1 dX11_distance_85 (by decide) ?_
                exact PuI.ret X hr hlk dX11_distance_100 (nI_nar _) (by unfold a_distance; rw [c8, c19, xN_N (by omega), xN_N (by omega), hx, hx2]; show _ = nI (if i ≤ i2 then i2 - i else i2 + s.length - i); first | (rw [if_pos (by omega)]; done) | (rw [if_neg (by omega), nI_iI]; congr 1; omega))
            · exfalso; omega
    · refine lv_iconst (v := (-1)) X.1 X.2.1 dX11_distance_22 (by decide) ?_
      exact PuI.ret X hr hlk dX11_distance_23 (nI_nar _) (by unfold a_distance; rw [c8]; first | rfl | (rw [c19]; rfl))

set_option maxHeartbeats 4000000 in
set_option maxRecDepth 100000 in
theorem b_linearLength (g : G5) (b0 : Nat) (sa : Nat) (qa : Nat) (da : Nat) (ka : Nat) (o : Nat) (ca : Nat) (pa : Nat) (ha : Nat) (na : Nat) (ta : Nat) (ua : Nat) (k : Nat) (n : Nat) (B : Nat) (T : Nat) (qb : Nat) (s : List Nat) (f : Nat → Int32) (hc : shp k n B T) (hs : s.length ≤ 256) : PuI yX11_linearLength cX11_linearLength 1 (some .int) 1 20 g [.ref b0] [(b0, .inr (10, [.ref sa, .ref qa, .ref da, .ref ka, .ref o, .ref ca, .ref pa, .ref ha, .ref na, .ref ta, .ref ua])), (sa, .inr (6, [.int (nI k), .int (nI n), .int (nI B), .int (nI T)])), (qa, .inr (9, [.ref qb, .int (nI s.length)])), (qb, .inl (g.2.1, 256, .inl f))] (nI (linN n s)) := by
  refine PuI.of (by decide +kernel) (Nat.le_of_ble_eq_true rfl) ?_
  intro p_ l_ e_ S_ m_ args below meth co X hr hlk hP hK ls hl
  have X : CallFix p_ m_ co cX11_linearLength 1 S_ args lw_all RX11 := X
  have hl : lv_has ls 1 [(0, .ref b0)] := hl
  obtain ⟨hk2, hk4, hn1, hn6, hB, hT, hBT, hT2⟩ := hc.f
  have hB0 : 0 < B := by rw [hBT]; exact Nat.mul_pos (by omega) (by omega)
  refine lv_aload_n X.1 X.2.1 dX11_linearLength_0 rfl (lv_at hl 0 rfl) ?_
  refine va_get (D := g.1) (ci := 10) (v := .ref qa) (C := RX11) (T := TX11) (N := 11) X.1 X.2.1 X.2.2.2.2 iwX11 X.2.2.2.1 hK hP 0 rfl rfl 1 (by decide) (X.2.2.2.2 _ q237) (fun _ h9 => h9) rfl dX11_linearLength_1 ?_
  refine (c_Word_size g qa qb s f).callV (rest := []) X dX11_linearLength_4 q324 tX10_size hK (hP.sub [2, 3] rfl) 0 9 rfl rfl rfl hl ⟨⟨Nat.le_of_ble_eq_true rfl, Nat.le_of_ble_eq_true rfl⟩, Nat.le_of_ble_eq_true rfl, Nat.le_of_ble_eq_true rfl⟩ rfl rfl (Nat.le_of_ble_eq_true rfl) ?_
  refine lv_iconst (v := (nI 1)) X.1 X.2.1 dX11_linearLength_7 (by decide) ?_
  refine z_icmp_ge (tgt := 15) X dX11_linearLength_8 (by decide) (nI_toInt (by omega)) (nI_toInt (by omega)) (fun c8 => ?_) (fun c8 => ?_)
  · refine lv_aload_n X.1 X.2.1 dX11_linearLength_15 rfl (lv_at hl 0 rfl) ?_
    refine va_get (D := g.1) (ci := 10) (v := .ref qa) (C := RX11) (T := TX11) (N := 11) X.1 X.2.1 X.2.2.2.2 iwX11 X.2.2.2.1 hK hP 0 rfl rfl 1 (by decide) (X.2.2.2.2 _ q237) (fun _ h9 => h9) rfl dX11_linearLength_16 ?_
    refine (c_Word_size g qa qb s f).callV (rest := []) X dX11_linearLength_19 q324 tX10_size hK (hP.sub [2, 3] rfl) 0 9 rfl rfl rfl hl ⟨⟨Nat.le_of_ble_eq_true rfl, Nat.le_of_ble_eq_true rfl⟩, Nat.le_of_ble_eq_true rfl, Nat.le_of_ble_eq_true rfl⟩ rfl rfl (Nat.le_of_ble_eq_true rfl) ?_
    refine lv_aload_n X.1 X.2.1 dX11_linearLength_22 rfl (lv_at hl 0 rfl) ?_
    refine va_get (D := g.1) (ci := 10) (v := .ref sa) (C := RX11) (T := TX11) (N := 11) X.1 X.2.1 X.2.2.2.2 iwX11 X.2.2.2.1 hK hP 0 rfl rfl 0 (by decide) (X.2.2.2.2 _ q236) (fun _ h9 => h9) rfl dX11_linearLength_23 ?_
    refine (c_sh_n g sa k n B T).callV (rest := [.int (nI s.length)]) X dX11_linearLength_26 q316 tX6_blockSize hK (hP.sub [1] rfl) 0 6 rfl rfl rfl hl ⟨⟨Nat.le_of_ble_eq_true rfl, Nat.le_of_ble_eq_true rfl⟩, Nat.le_of_ble_eq_true rfl, Nat.le_of_ble_eq_true rfl⟩ rfl rfl (Nat.le_of_ble_eq_true rfl) ?_
    refine n_add X dX11_linearLength_29 ?_
    refine lv_iconst (v := (nI 1)) X.1 X.2.1 dX11_linearLength_30 (by decide) ?_
    refine n_sub X dX11_linearLength_31 (by omega) ?_
    exact PuI.ret X hr hlk dX11_linearLength_32 (nI_nar _) (by unfold linN; first | (rw [if_pos (by omega)]; done) | (rw [if_neg (by omega)]; done))
  · refine lv_iconst (v := (nI 0)) X.1 X.2.1 dX11_linearLength_11 (by decide) ?_
    refine lv_goto (tgt := 32) X.1 X.2.1 dX11_linearLength_12 (by decide) ?_
    exact PuI.ret X hr hlk dX11_linearLength_32 (nI_nar _) (by unfold linN; first | (rw [if_pos (by omega)]; done) | (rw [if_neg (by omega)]; done))

set_option maxHeartbeats 4000000 in
set_option maxRecDepth 100000 in
theorem b_linearLetter (g : G5) (b0 : Nat) (sa : Nat) (qa : Nat) (da : Nat) (ka : Nat) (o : Nat) (ca : Nat) (pa : Nat) (ha : Nat) (na : Nat) (ta : Nat) (ua : Nat) (k : Nat) (n : Nat) (B : Nat) (T : Nat) (qb : Nat) (s : List Nat) (f : Nat → Int32) (x : Int32) (hc : shp k n B T) (hs : s.length ≤ 256) (hf : rep f s) : PuI yX11_linearLetter cX11_linearLetter 3 (some .int) 2 43 g [.ref b0, .int x] [(b0, .inr (10, [.ref sa, .ref qa, .ref da, .ref ka, .ref o, .ref ca, .ref pa, .ref ha, .ref na, .ref ta, .ref ua])), (sa, .inr (6, [.int (nI k), .int (nI n), .int (nI B), .int (nI T)])), (qa, .inr (9, [.ref qb, .int (nI s.length)])), (qb, .inl (g.2.1, 256, .inl f))] (a_linearLetter n s x) := by
  refine PuI.of (by decide +kernel) (Nat.le_of_ble_eq_true rfl) ?_
  intro p_ l_ e_ S_ m_ args below meth co X hr hlk hP hK ls hl
  have X : CallFix p_ m_ co cX11_linearLetter 3 S_ args lw_all RX11 := X
  have hl : lv_has ls 3 [(0, .ref b0), (1, .int x)] := hl
  obtain ⟨hk2, hk4, hn1, hn6, hB, hT, hBT, hT2⟩ := hc.f
  have hB0 : 0 < B := by rw [hBT]; exact Nat.mul_pos (by omega) (by omega)
  have hln : linN n s ≤ 300 := by unfold linN; split <;> omega
  refine lv_iload_n X.1 X.2.1 dX11_linearLetter_0 rfl (lv_at hl 1 rfl) ?_
  refine z_if_lt (tgt := 16) X dX11_linearLetter_1 (by decide) rfl (fun c1 => ?_) (fun c1 => ?_)
  · refine lv_iconst (v := (nI 0)) X.1 X.2.1 dX11_linearLetter_16 (by decide) ?_
    refine lv_istore_n (lv' := [(2, .int (nI 0)), (0, .ref b0), (1, .int x)]) X.1 X.2.1 dX11_linearLetter_17 rfl hl (by decide) rfl (fun ls hl => ?_)
    refine lv_iload_n X.1 X.2.1 dX11_linearLetter_18 rfl (lv_at hl 0 rfl) ?_
    refine z_if_eq (tgt := 33) X dX11_linearLetter_19 (by decide) (nI_toInt (by omega)) (fun c19 => ?_) (fun c19 => ?_)
    · have h8 : hasB x (linN n s) = false := by unfold hasB; exact decide_eq_false (by omega)
      refine lv_bipush (v := (-2)) X.1 X.2.1 dX11_linearLetter_33 (by decide) ?_
      exact PuI.ret X hr hlk dX11_linearLetter_35 (nI_nar _) (by unfold a_linearLetter; rw [h8]; first | rfl | (rw [xN_N (by omega)]; rfl))
    · exfalso; omega
  · refine lv_iload_n X.1 X.2.1 dX11_linearLetter_4 rfl (lv_at hl 1 rfl) ?_
    refine lv_aload_n X.1 X.2.1 dX11_linearLetter_5 rfl (lv_at hl 0 rfl) ?_
    refine (b_linearLength g b0 sa qa da ka o ca pa ha na ta ua k n B T qb s f (by assumption) (by omega)).callV (rest := [.int x]) X dX11_linearLetter_6 q710 tX11_linearLength hK (hP.sub [0, 1, 2, 3] rfl) 0 10 rfl rfl rfl hl ⟨⟨Nat.le_of_ble_eq_true rfl, Nat.le_of_ble_eq_true rfl⟩, Nat.le_of_ble_eq_true rfl, Nat.le_of_ble_eq_true rfl⟩ rfl rfl (Nat.le_of_ble_eq_true rfl) ?_
    refine z_icmp_ge (tgt := 16) X dX11_linearLetter_9 (by decide) rfl (nI_toInt (by omega)) (fun c9 => ?_) (fun c9 => ?_)
    · refine lv_iconst (v := (nI 0)) X.1 X.2.1 dX11_linearLetter_16 (by decide) ?_
      refine lv_istore_n (lv' := [(2, .int (nI 0)), (0, .ref b0), (1, .int x)]) X.1 X.2.1 dX11_linearLetter_17 rfl hl (by decide) rfl (fun ls hl => ?_)
      refine lv_iload_n X.1 X.2.1 dX11_linearLetter_18 rfl (lv_at hl 0 rfl) ?_
      refine z_if_eq (tgt := 33) X dX11_linearLetter_19 (by decide) (nI_toInt (by omega)) (fun c19 => ?_) (fun c19 => ?_)
      · have h8 : hasB x (linN n s) = false := by unfold hasB; exact decide_eq_false (by omega)
        refine lv_bipush (v := (-2)) X.1 X.2.1 dX11_linearLetter_33 (by decide) ?_
        exact PuI.ret X hr hlk dX11_linearLetter_35 (nI_nar _) (by unfold a_linearLetter; rw [h8]; first | rfl | (rw [xN_N (by omega)]; rfl))
      · exfalso; omega
    · refine lv_iconst (v := (nI 1)) X.1 X.2.1 dX11_linearLetter_12 (by decide) ?_
      refine lv_goto (tgt := 17) X.1 X.2.1 dX11_linearLetter_13 (by decide) ?_
      refine lv_istore_n (lv' := [(2, .int (nI 1)), (0, .ref b0), (1, .int x)]) X.1 X.2.1 dX11_linearLetter_17 rfl hl (by decide) rfl (fun ls hl => ?_)
      refine lv_iload_n X.1 X.2.1 dX11_linearLetter_18 rfl (lv_at hl 0 rfl) ?_
      refine z_if_eq (tgt := 33) X dX11_linearLetter_19 (by decide) (nI_toInt (by omega)) (fun c19 => ?_) (fun c19 => ?_)
      · exfalso; omega
      · have h8 : hasB x (linN n s) = true := by unfold hasB; exact decide_eq_true (by omega)
        obtain ⟨j, hj, rfl⟩ := hasB_t h8
        have h0 : 0 < s.length := by unfold linN at hj; split at hj <;> omega
        refine lv_aload_n X.1 X.2.1 dX11_linearLetter_22 rfl (lv_at hl 1 rfl) ?_
        refine va_get (D := g.1) (ci := 10) (v := .ref qa) (C := RX11) (T := TX11) (N := 11) X.1 X.2.1 X.2.2.2.2 iwX11 X.2.2.2.1 hK hP 0 rfl rfl 1 (by decide) (X.2.2.2.2 _ q237) (fun _ h9 => h9) rfl dX11_linearLetter_23 ?_
        refine lv_iload_n X.1 X.2.1 dX11_linearLetter_26 rfl (lv_at hl 2 rfl) ?_
        refine (c_Word_arN g qa qb s f j (by omega) (by assumption) (by omega) (by omega)).callV (rest := []) X dX11_linearLetter_27 q689 tX10_around hK (hP.sub [2, 3] rfl) 0 9 rfl rfl rfl hl ⟨⟨Nat.le_of_ble_eq_true rfl, Nat.le_of_ble_eq_true rfl⟩, Nat.le_of_ble_eq_true rfl, Nat.le_of_ble_eq_true rfl⟩ rfl rfl (Nat.le_of_ble_eq_true rfl) ?_
        refine lv_goto (tgt := 35) X.1 X.2.1 dX11_linearLetter_30 (by decide) ?_
        exact PuI.ret X hr hlk dX11_linearLetter_35 (nI_nar _) (by unfold a_linearLetter; rw [h8]; first | rfl | (rw [xN_N (by omega)]; rfl))

set_option maxHeartbeats 4000000 in
set_option maxRecDepth 100000 in
theorem b_successorLetter (g : G5) (b0 : Nat) (sa : Nat) (qa : Nat) (da : Nat) (ka : Nat) (o : Nat) (ca : Nat) (pa : Nat) (ha : Nat) (na : Nat) (ta : Nat) (ua : Nat) (k : Nat) (n : Nat) (B : Nat) (T : Nat) (x : Int32) (hc : shp k n B T) : PuI yX11_successorLetter cX11_successorLetter 2 (some .int) 3 69 g [.ref b0, .int x] [(b0, .inr (10, [.ref sa, .ref qa, .ref da, .ref ka, .ref o, .ref ca, .ref pa, .ref ha, .ref na, .ref ta, .ref ua])), (sa, .inr (6, [.int (nI k), .int (nI n), .int (nI B), .int (nI T)]))] (a_successorLetter k n B T x) := by
  refine PuI.of (by decide +kernel) (Nat.le_of_ble_eq_true rfl) ?_
  intro p_ l_ e_ S_ m_ args below meth co X hr hlk hP hK ls hl
  have X : CallFix p_ m_ co cX11_successorLetter 2 S_ args lw_all RX11 := X
  have hl : lv_has ls 2 [(0, .ref b0), (1, .int x)] := hl
  obtain ⟨hk2, hk4, hn1, hn6, hB, hT, hBT, hT2⟩ := hc.f
  have hB0 : 0 < B := by rw [hBT]; exact Nat.mul_pos (by omega) (by omega)
  refine lv_aload_n X.1 X.2.1 dX11_successorLetter_0 rfl (lv_at hl 0 rfl) ?_
  refine va_get (D := g.1) (ci := 10) (v := .ref sa) (C := RX11) (T := TX11) (N := 11) X.1 X.2.1 X.2.2.2.2 iwX11 X.2.2.2.1 hK hP 0 rfl rfl 0 (by decide) (X.2.2.2.2 _ q236) (fun _ h9 => h9) rfl dX11_successorLetter_1 ?_
  refine lv_iload_n X.1 X.2.1 dX11_successorLetter_4 rfl (lv_at hl 1 rfl) ?_
  refine (c_isBlock g sa k n B T x (by assumption)).callV (rest := []) X dX11_successorLetter_5 q675 tX6_isBlock hK (hP.sub [1] rfl) 0 6 rfl rfl rfl hl ⟨⟨Nat.le_of_ble_eq_true rfl, Nat.le_of_ble_eq_true rfl⟩, Nat.le_of_ble_eq_true rfl, Nat.le_of_ble_eq_true rfl⟩ rfl rfl (Nat.le_of_ble_eq_true rfl) ?_
  refine b_if_eq (tgt := 22) X dX11_successorLetter_8 (by decide) (fun c8 => ?_) (fun c8 => ?_)
  · refine lv_iconst (v := (-1)) X.1 X.2.1 dX11_successorLetter_22 (by decide) ?_
    exact PuI.ret X hr hlk dX11_successorLetter_23 (nI_nar _) (by unfold a_successorLetter; rw [c8]; first | rfl | (rw [xN_N (by omega)]; rfl))
  · obtain ⟨j, hj, rfl⟩ := hasB_t c8
    refine lv_aload_n X.1 X.2.1 dX11_successorLetter_11 rfl (lv_at hl 0 rfl) ?_
    refine va_get (D := g.1) (ci := 10) (v := .ref sa) (C := RX11) (T := TX11) (N := 11) X.1 X.2.1 X.2.2.2.2 iwX11 X.2.2.2.1 hK hP 0 rfl rfl 0 (by decide) (X.2.2.2.2 _ q236) (fun _ h9 => h9) rfl dX11_successorLetter_12 ?_
    refine lv_iload_n X.1 X.2.1 dX11_successorLetter_15 rfl (lv_at hl 1 rfl) ?_
    refine (c_succ g sa k n B T j (by assumption) (by omega)).callV (rest := []) X dX11_successorLetter_16 q751 tX6_successor hK (hP.sub [1] rfl) 0 6 rfl rfl rfl hl ⟨⟨Nat.le_of_ble_eq_true rfl, Nat.le_of_ble_eq_true rfl⟩, Nat.le_of_ble_eq_true rfl, Nat.le_of_ble_eq_true rfl⟩ rfl rfl (Nat.le_of_ble_eq_true rfl) ?_
    refine lv_goto (tgt := 23) X.1 X.2.1 dX11_successorLetter_19 (by decide) ?_
    exact PuI.ret X hr hlk dX11_successorLetter_23 (nI_nar _) (by unfold a_successorLetter; rw [c8]; first | rfl | (rw [xN_N (by omega)]; rfl))

set_option maxHeartbeats 4000000 in
set_option maxRecDepth 100000 in
theorem b_isNecklace (g : G5) (b0 : Nat) (sa : Nat) (qa : Nat) (da : Nat) (ka : Nat) (o : Nat) (ca : Nat) (pa : Nat) (ha : Nat) (na : Nat) (ta : Nat) (ua : Nat) (k : Nat) (n : Nat) (B : Nat) (T : Nat) (x : Int32) (hc : shp k n B T) : PuI yX11_isNecklace cX11_isNecklace 2 (some .int) 2 45 g [.ref b0, .int x] [(b0, .inr (10, [.ref sa, .ref qa, .ref da, .ref ka, .ref o, .ref ca, .ref pa, .ref ha, .ref na, .ref ta, .ref ua])), (sa, .inr (6, [.int (nI k), .int (nI n), .int (nI B), .int (nI T)]))] (a_isNecklace k n B T x) := by
  refine PuI.of (by decide +kernel) (Nat.le_of_ble_eq_true rfl) ?_
  intro p_ l_ e_ S_ m_ args below meth co X hr hlk hP hK ls hl
  have X : CallFix p_ m_ co cX11_isNecklace 2 S_ args lw_all RX11 := X
  have hl : lv_has ls 2 [(0, .ref b0), (1, .int x)] := hl
  obtain ⟨hk2, hk4, hn1, hn6, hB, hT, hBT, hT2⟩ := hc.f
  have hB0 : 0 < B := by rw [hBT]; exact Nat.mul_pos (by omega) (by omega)
  refine lv_aload_n X.1 X.2.1 dX11_isNecklace_0 rfl (lv_at hl 0 rfl) ?_
  refine va_get (D := g.1) (ci := 10) (v := .ref sa) (C := RX11) (T := TX11) (N := 11) X.1 X.2.1 X.2.2.2.2 iwX11 X.2.2.2.1 hK hP 0 rfl rfl 0 (by decide) (X.2.2.2.2 _ q236) (fun _ h9 => h9) rfl dX11_isNecklace_1 ?_
  refine lv_iload_n X.1 X.2.1 dX11_isNecklace_4 rfl (lv_at hl 1 rfl) ?_
  refine (c_isBlock g sa k n B T x (by assumption)).callV (rest := []) X dX11_isNecklace_5 q675 tX6_isBlock hK (hP.sub [1] rfl) 0 6 rfl rfl rfl hl ⟨⟨Nat.le_of_ble_eq_true rfl, Nat.le_of_ble_eq_true rfl⟩, Nat.le_of_ble_eq_true rfl, Nat.le_of_ble_eq_true rfl⟩ rfl rfl (Nat.le_of_ble_eq_true rfl) ?_
  refine b_if_ne (tgt := 13) X dX11_isNecklace_8 (by decide) (fun c8 => ?_) (fun c8 => ?_)
  · obtain ⟨j, hj, rfl⟩ := hasB_t c8
    refine lv_aload_n X.1 X.2.1 dX11_isNecklace_13 rfl (lv_at hl 0 rfl) ?_
    refine va_get (D := g.1) (ci := 10) (v := .ref sa) (C := RX11) (T := TX11) (N := 11) X.1 X.2.1 X.2.2.2.2 iwX11 X.2.2.2.1 hK hP 0 rfl rfl 0 (by decide) (X.2.2.2.2 _ q236) (fun _ h9 => h9) rfl dX11_isNecklace_14 ?_
    refine lv_iload_n X.1 X.2.1 dX11_isNecklace_17 rfl (lv_at hl 1 rfl) ?_
    refine (c_isLeast g sa k n B T j (by assumption) (by omega)).callV (rest := []) X dX11_isNecklace_18 q761 tX6_isLeastRotation hK (hP.sub [1] rfl) 0 6 rfl rfl rfl hl ⟨⟨Nat.le_of_ble_eq_true rfl, Nat.le_of_ble_eq_true rfl⟩, Nat.le_of_ble_eq_true rfl, Nat.le_of_ble_eq_true rfl⟩ rfl rfl (Nat.le_of_ble_eq_true rfl) ?_
    refine b_if_eq (tgt := 28) X dX11_isNecklace_21 (by decide) (fun c21 => ?_) (fun c21 => ?_)
    · refine lv_iconst (v := (nI 0)) X.1 X.2.1 dX11_isNecklace_28 (by decide) ?_
      exact PuI.ret X hr hlk dX11_isNecklace_29 (nI_nar _) (by unfold a_isNecklace; rw [c8]; first | rfl | (rw [xN_N (by omega), c21]; rfl))
    · refine lv_iconst (v := (nI 1)) X.1 X.2.1 dX11_isNecklace_24 (by decide) ?_
      refine lv_goto (tgt := 29) X.1 X.2.1 dX11_isNecklace_25 (by decide) ?_
      exact PuI.ret X hr hlk dX11_isNecklace_29 (nI_nar _) (by unfold a_isNecklace; rw [c8]; first | rfl | (rw [xN_N (by omega), c21]; rfl))
  · refine lv_iconst (v := (-1)) X.1 X.2.1 dX11_isNecklace_11 (by decide) ?_
    exact PuI.ret X hr hlk dX11_isNecklace_12 (nI_nar _) (by unfold a_isNecklace; rw [c8]; first | rfl | (rw [xN_N (by omega), c21]; rfl))

set_option maxHeartbeats 4000000 in
set_option maxRecDepth 100000 in
theorem b_necklaceOf (g : G5) (b0 : Nat) (sa : Nat) (qa : Nat) (da : Nat) (ka : Nat) (o : Nat) (ca : Nat) (pa : Nat) (ha : Nat) (na : Nat) (ta : Nat) (ua : Nat) (k : Nat) (n : Nat) (B : Nat) (T : Nat) (x : Int32) (hc : shp k n B T) : PuI yX11_necklaceOf cX11_necklaceOf 2 (some .int) 2 46 g [.ref b0, .int x] [(b0, .inr (10, [.ref sa, .ref qa, .ref da, .ref ka, .ref o, .ref ca, .ref pa, .ref ha, .ref na, .ref ta, .ref ua])), (sa, .inr (6, [.int (nI k), .int (nI n), .int (nI B), .int (nI T)]))] (a_necklaceOf k n B T x) := by
  refine PuI.of (by decide +kernel) (Nat.le_of_ble_eq_true rfl) ?_
  intro p_ l_ e_ S_ m_ args below meth co X hr hlk hP hK ls hl
  have X : CallFix p_ m_ co cX11_necklaceOf 2 S_ args lw_all RX11 := X
  have hl : lv_has ls 2 [(0, .ref b0), (1, .int x)] := hl
  obtain ⟨hk2, hk4, hn1, hn6, hB, hT, hBT, hT2⟩ := hc.f
  have hB0 : 0 < B := by rw [hBT]; exact Nat.mul_pos (by omega) (by omega)
  refine lv_aload_n X.1 X.2.1 dX11_necklaceOf_0 rfl (lv_at hl 0 rfl) ?_
  refine va_get (D := g.1) (ci := 10) (v := .ref sa) (C := RX11) (T := TX11) (N := 11) X.1 X.2.1 X.2.2.2.2 iwX11 X.2.2.2.1 hK hP 0 rfl rfl 0 (by decide) (X.2.2.2.2 _ q236) (fun _ h9 => h9) rfl dX11_necklaceOf_1 ?_
  refine lv_iload_n X.1 X.2.1 dX11_necklaceOf_4 rfl (lv_at hl 1 rfl) ?_
  refine (c_isBlock g sa k n B T x (by assumption)).callV (rest := []) X dX11_necklaceOf_5 q675 tX6_isBlock hK (hP.sub [1] rfl) 0 6 rfl rfl rfl hl ⟨⟨Nat.le_of_ble_eq_true rfl, Nat.le_of_ble_eq_true rfl⟩, Nat.le_of_ble_eq_true rfl, Nat.le_of_ble_eq_true rfl⟩ rfl rfl (Nat.le_of_ble_eq_true rfl) ?_
  refine b_if_eq (tgt := 22) X dX11_necklaceOf_8 (by decide) (fun c8 => ?_) (fun c8 => ?_)
  · refine lv_iconst (v := (-1)) X.1 X.2.1 dX11_necklaceOf_22 (by decide) ?_
    exact PuI.ret X hr hlk dX11_necklaceOf_23 (nI_nar _) (by unfold a_necklaceOf; rw [c8]; first | rfl | (rw [xN_N (by omega)]; rfl))
  · obtain ⟨j, hj, rfl⟩ := hasB_t c8
    refine lv_aload_n X.1 X.2.1 dX11_necklaceOf_11 rfl (lv_at hl 0 rfl) ?_
    refine va_get (D := g.1) (ci := 10) (v := .ref sa) (C := RX11) (T := TX11) (N := 11) X.1 X.2.1 X.2.2.2.2 iwX11 X.2.2.2.1 hK hP 0 rfl rfl 0 (by decide) (X.2.2.2.2 _ q236) (fun _ h9 => h9) rfl dX11_necklaceOf_12 ?_
    refine lv_iload_n X.1 X.2.1 dX11_necklaceOf_15 rfl (lv_at hl 1 rfl) ?_
    refine (c_least g sa k n B T j (by assumption) (by omega)).callV (rest := []) X dX11_necklaceOf_16 q766 tX6_leastRotation hK (hP.sub [1] rfl) 0 6 rfl rfl rfl hl ⟨⟨Nat.le_of_ble_eq_true rfl, Nat.le_of_ble_eq_true rfl⟩, Nat.le_of_ble_eq_true rfl, Nat.le_of_ble_eq_true rfl⟩ rfl rfl (Nat.le_of_ble_eq_true rfl) ?_
    refine lv_goto (tgt := 23) X.1 X.2.1 dX11_necklaceOf_19 (by decide) ?_
    exact PuI.ret X hr hlk dX11_necklaceOf_23 (nI_nar _) (by unfold a_necklaceOf; rw [c8]; first | rfl | (rw [xN_N (by omega)]; rfl))

set_option maxHeartbeats 4000000 in
set_option maxRecDepth 100000 in
theorem b_rotationCount (g : G5) (b0 : Nat) (sa : Nat) (qa : Nat) (da : Nat) (ka : Nat) (o : Nat) (ca : Nat) (pa : Nat) (ha : Nat) (na : Nat) (ta : Nat) (ua : Nat) (k : Nat) (n : Nat) (B : Nat) (T : Nat) (x : Int32) (hc : shp k n B T) : PuI yX11_rotationCount cX11_rotationCount 2 (some .int) 2 45 g [.ref b0, .int x] [(b0, .inr (10, [.ref sa, .ref qa, .ref da, .ref ka, .ref o, .ref ca, .ref pa, .ref ha, .ref na, .ref ta, .ref ua])), (sa, .inr (6, [.int (nI k), .int (nI n), .int (nI B), .int (nI T)]))] (a_rotationCount k n B T x) := by
  refine PuI.of (by decide +kernel) (Nat.le_of_ble_eq_true rfl) ?_
  intro p_ l_ e_ S_ m_ args below meth co X hr hlk hP hK ls hl
  have X : CallFix p_ m_ co cX11_rotationCount 2 S_ args lw_all RX11 := X
  have hl : lv_has ls 2 [(0, .ref b0), (1, .int x)] := hl
  obtain ⟨hk2, hk4, hn1, hn6, hB, hT, hBT, hT2⟩ := hc.f
  have hB0 : 0 < B := by rw [hBT]; exact Nat.mul_pos (by omega) (by omega)
  refine lv_aload_n X.1 X.2.1 dX11_rotationCount_0 rfl (lv_at hl 0 rfl) ?_
  refine va_get (D := g.1) (ci := 10) (v := .ref sa) (C := RX11) (T := TX11) (N := 11) X.1 X.2.1 X.2.2.2.2 iwX11 X.2.2.2.1 hK hP 0 rfl rfl 0 (by decide) (X.2.2.2.2 _ q236) (fun _ h9 => h9) rfl dX11_rotationCount_1 ?_
  refine lv_iload_n X.1 X.2.1 dX11_rotationCount_4 rfl (lv_at hl 1 rfl) ?_
  refine (c_isBlock g sa k n B T x (by assumption)).callV (rest := []) X dX11_rotationCount_5 q675 tX6_isBlock hK (hP.sub [1] rfl) 0 6 rfl rfl rfl hl ⟨⟨Nat.le_of_ble_eq_true rfl, Nat.le_of_ble_eq_true rfl⟩, Nat.le_of_ble_eq_true rfl, Nat.le_of_ble_eq_true rfl⟩ rfl rfl (Nat.le_of_ble_eq_true rfl) ?_
  refine b_if_eq (tgt := 22) X dX11_rotationCount_8 (by decide) (fun c8 => ?_) (fun c8 => ?_)
  · refine lv_iconst (v := (-1)) X.1 X.2.1 dX11_rotationCount_22 (by decide) ?_
    exact PuI.ret X hr hlk dX11_rotationCount_23 (nI_nar _) (by unfold a_rotationCount; rw [c8]; first | rfl | (rw [xN_N (by omega)]; rfl))
  · obtain ⟨j, hj, rfl⟩ := hasB_t c8
    refine lv_aload_n X.1 X.2.1 dX11_rotationCount_11 rfl (lv_at hl 0 rfl) ?_
    refine va_get (D := g.1) (ci := 10) (v := .ref sa) (C := RX11) (T := TX11) (N := 11) X.1 X.2.1 X.2.2.2.2 iwX11 X.2.2.2.1 hK hP 0 rfl rfl 0 (by decide) (X.2.2.2.2 _ q236) (fun _ h9 => h9) rfl dX11_rotationCount_12 ?_
    refine lv_iload_n X.1 X.2.1 dX11_rotationCount_15 rfl (lv_at hl 1 rfl) ?_
    refine (c_rotTot g sa k n B T j (by assumption) (by omega)).callV (rest := []) X dX11_rotationCount_16 q771 tX6_rotationTotal hK (hP.sub [1] rfl) 0 6 rfl rfl rfl hl ⟨⟨Nat.le_of_ble_eq_true rfl, Nat.le_of_ble_eq_true rfl⟩, Nat.le_of_ble_eq_true rfl, Nat.le_of_ble_eq_true rfl⟩ rfl rfl (Nat.le_of_ble_eq_true rfl) ?_
    refine lv_goto (tgt := 23) X.1 X.2.1 dX11_rotationCount_19 (by decide) ?_
    exact PuI.ret X hr hlk dX11_rotationCount_23 (nI_nar _) (by unfold a_rotationCount; rw [c8]; first | rfl | (rw [xN_N (by omega)]; rfl))

set_option maxHeartbeats 4000000 in
set_option maxRecDepth 100000 in
theorem b_necklace (g : G5) (b0 : Nat) (sa : Nat) (qa : Nat) (da : Nat) (ka : Nat) (o : Nat) (ca : Nat) (pa : Nat) (ha : Nat) (na : Nat) (ta : Nat) (ua : Nat) (k : Nat) (n : Nat) (B : Nat) (T : Nat) (x : Int32) (hc : shp k n B T) : PuI yX11_necklace cX11_necklace 2 (some .int) 3 68 g [.ref b0, .int x] [(b0, .inr (10, [.ref sa, .ref qa, .ref da, .ref ka, .ref o, .ref ca, .ref pa, .ref ha, .ref na, .ref ta, .ref ua])), (sa, .inr (6, [.int (nI k), .int (nI n), .int (nI B), .int (nI T)]))] (nthL (leastB k T n) x.toInt B 0 0) := by
  refine PuI.of (by decide +kernel) (Nat.le_of_ble_eq_true rfl) ?_
  intro p_ l_ e_ S_ m_ args below meth co X hr hlk hP hK ls hl
  have X : CallFix p_ m_ co cX11_necklace 2 S_ args lw_all RX11 := X
  have hl : lv_has ls 2 [(0, .ref b0), (1, .int x)] := hl
  refine lv_aload_n X.1 X.2.1 dX11_necklace_0 rfl (lv_at hl 0 rfl) ?_
  refine va_get (D := g.1) (ci := 10) (v := .ref sa) (C := RX11) (T := TX11) (N := 11) X.1 X.2.1 X.2.2.2.2 iwX11 X.2.2.2.1 hK hP 0 rfl rfl 0 (by decide) (X.2.2.2.2 _ q236) (fun _ h9 => h9) rfl dX11_necklace_1 ?_
  refine lv_iload_n X.1 X.2.1 dX11_necklace_4 rfl (lv_at hl 1 rfl) ?_
  refine (c_neckAt g sa k n B T x (by assumption)).callV (rest := []) X dX11_necklace_5 q776 tX6_necklaceAt hK (hP.sub [1] rfl) 0 6 rfl rfl rfl hl ⟨⟨Nat.le_of_ble_eq_true rfl, Nat.le_of_ble_eq_true rfl⟩, Nat.le_of_ble_eq_true rfl, Nat.le_of_ble_eq_true rfl⟩ rfl rfl (Nat.le_of_ble_eq_true rfl) ?_
  exact PuI.ret X hr hlk dX11_necklace_8 (nI_nar _) (rfl)

set_option maxHeartbeats 4000000 in
set_option maxRecDepth 100000 in
theorem b_lyndonCount (g : G5) (b0 : Nat) (sa : Nat) (qa : Nat) (da : Nat) (ka : Nat) (o : Nat) (ca : Nat) (pa : Nat) (ha : Nat) (na : Nat) (ta : Nat) (ua : Nat) (k : Nat) (n : Nat) (B : Nat) (T : Nat) (x : Int32) (hc : shp k n B T) : PuI yX11_lyndonCount cX11_lyndonCount 2 (some .int) 3 72 g [.ref b0, .int x] [(b0, .inr (10, [.ref sa, .ref qa, .ref da, .ref ka, .ref o, .ref ca, .ref pa, .ref ha, .ref na, .ref ta, .ref ua])), (sa, .inr (6, [.int (nI k), .int (nI n), .int (nI B), .int (nI T)]))] (a_lyndonCount k n x) := by
  refine PuI.of (by decide +kernel) (Nat.le_of_ble_eq_true rfl) ?_
  intro p_ l_ e_ S_ m_ args below meth co X hr hlk hP hK ls hl
  have X : CallFix p_ m_ co cX11_lyndonCount 2 S_ args lw_all RX11 := X
  have hl : lv_has ls 2 [(0, .ref b0), (1, .int x)] := hl
  obtain ⟨hk2, hk4, hn1, hn6, hB, hT, hBT, hT2⟩ := hc.f
  have hB0 : 0 < B := by rw [hBT]; exact Nat.mul_pos (by omega) (by omega)
  refine lv_aload_n X.1 X.2.1 dX11_lyndonCount_0 rfl (lv_at hl 0 rfl) ?_
  refine va_get (D := g.1) (ci := 10) (v := .ref sa) (C := RX11) (T := TX11) (N := 11) X.1 X.2.1 X.2.2.2.2 iwX11 X.2.2.2.1 hK hP 0 rfl rfl 0 (by decide) (X.2.2.2.2 _ q236) (fun _ h9 => h9) rfl dX11_lyndonCount_1 ?_
  refine lv_iload_n X.1 X.2.1 dX11_lyndonCount_4 rfl (lv_at hl 1 rfl) ?_
  refine (c_isLynLen g sa k n B T x (by assumption)).callV (rest := []) X dX11_lyndonCount_5 q784 tX6_isLyndonLength hK (hP.sub [1] rfl) 0 6 rfl rfl rfl hl ⟨⟨Nat.le_of_ble_eq_true rfl, Nat.le_of_ble_eq_true rfl⟩, Nat.le_of_ble_eq_true rfl, Nat.le_of_ble_eq_true rfl⟩ rfl rfl (Nat.le_of_ble_eq_true rfl) ?_
  refine b_if_eq (tgt := 22) X dX11_lyndonCount_8 (by decide) (fun c8 => ?_) (fun c8 => ?_)
  · refine lv_iconst (v := (-1)) X.1 X.2.1 dX11_lyndonCount_22 (by decide) ?_
    exact PuI.ret X hr hlk dX11_lyndonCount_23 (nI_nar _) (by unfold a_lyndonCount; rw [show lenB n _ = _ from c8]; first | rfl | (rw [xN_N (by omega)]; rfl))
  · obtain ⟨j, hj, hj1, hjn, rfl⟩ := lenB_t c8
    refine lv_aload_n X.1 X.2.1 dX11_lyndonCount_11 rfl (lv_at hl 0 rfl) ?_
    refine va_get (D := g.1) (ci := 10) (v := .ref sa) (C := RX11) (T := TX11) (N := 11) X.1 X.2.1 X.2.2.2.2 iwX11 X.2.2.2.1 hK hP 0 rfl rfl 0 (by decide) (X.2.2.2.2 _ q236) (fun _ h9 => h9) rfl dX11_lyndonCount_12 ?_
    refine lv_iload_n X.1 X.2.1 dX11_lyndonCount_15 rfl (lv_at hl 1 rfl) ?_
    refine (c_lynTot g sa k n B T j (by assumption) (by omega) (by omega)).callV (rest := []) X dX11_lyndonCount_16 q788 tX6_lyndonTotal hK (hP.sub [1] rfl) 0 6 rfl rfl rfl hl ⟨⟨Nat.le_of_ble_eq_true rfl, Nat.le_of_ble_eq_true rfl⟩, Nat.le_of_ble_eq_true rfl, Nat.le_of_ble_eq_true rfl⟩ rfl rfl (Nat.le_of_ble_eq_true rfl) ?_
    refine lv_goto (tgt := 23) X.1 X.2.1 dX11_lyndonCount_19 (by decide) ?_
    exact PuI.ret X hr hlk dX11_lyndonCount_23 (nI_nar _) (by unfold a_lyndonCount; rw [show lenB n _ = _ from c8]; first | rfl | (rw [xN_N (by omega)]; rfl))

set_option maxHeartbeats 4000000 in
set_option maxRecDepth 100000 in
theorem b_lyndonWord (g : G5) (b0 : Nat) (sa : Nat) (qa : Nat) (da : Nat) (ka : Nat) (o : Nat) (ca : Nat) (pa : Nat) (ha : Nat) (na : Nat) (ta : Nat) (ua : Nat) (k : Nat) (n : Nat) (B : Nat) (T : Nat) (x : Int32) (y : Int32) (hc : shp k n B T) : PuI yX11_lyndonWord cX11_lyndonWord 3 (some .int) 3 73 g [.ref b0, .int x, .int y] [(b0, .inr (10, [.ref sa, .ref qa, .ref da, .ref ka, .ref o, .ref ca, .ref pa, .ref ha, .ref na, .ref ta, .ref ua])), (sa, .inr (6, [.int (nI k), .int (nI n), .int (nI B), .int (nI T)]))] (a_lyndonWord k n x y) := by
  refine PuI.of (by decide +kernel) (Nat.le_of_ble_eq_true rfl) ?_
  intro p_ l_ e_ S_ m_ args below meth co X hr hlk hP hK ls hl
  have X : CallFix p_ m_ co cX11_lyndonWord 3 S_ args lw_all RX11 := X
  have hl : lv_has ls 3 [(0, .ref b0), (1, .int x), (2, .int y)] := hl
  obtain ⟨hk2, hk4, hn1, hn6, hB, hT, hBT, hT2⟩ := hc.f
  have hB0 : 0 < B := by rw [hBT]; exact Nat.mul_pos (by omega) (by omega)
  refine lv_aload_n X.1 X.2.1 dX11_lyndonWord_0 rfl (lv_at hl 0 rfl) ?_
  refine va_get (D := g.1) (ci := 10) (v := .ref sa) (C := RX11) (T := TX11) (N := 11) X.1 X.2.1 X.2.2.2.2 iwX11 X.2.2.2.1 hK hP 0 rfl rfl 0 (by decide) (X.2.2.2.2 _ q236) (fun _ h9 => h9) rfl dX11_lyndonWord_1 ?_
  refine lv_iload_n X.1 X.2.1 dX11_lyndonWord_4 rfl (lv_at hl 1 rfl) ?_
  refine (c_isLynLen g sa k n B T x (by assumption)).callV (rest := []) X dX11_lyndonWord_5 q784 tX6_isLyndonLength hK (hP.sub [1] rfl) 0 6 rfl rfl rfl hl ⟨⟨Nat.le_of_ble_eq_true rfl, Nat.le_of_ble_eq_true rfl⟩, Nat.le_of_ble_eq_true rfl, Nat.le_of_ble_eq_true rfl⟩ rfl rfl (Nat.le_of_ble_eq_true rfl) ?_
  refine b_if_eq (tgt := 23) X dX11_lyndonWord_8 (by decide) (fun c8 => ?_) (fun c8 => ?_)
  · refine lv_iconst (v := (-1)) X.1 X.2.1 dX11_lyndonWord_23 (by decide) ?_
    exact PuI.ret X hr hlk dX11_lyndonWord_24 (nI_nar _) (by unfold a_lyndonWord; rw [show lenB n _ = _ from c8]; first | rfl | (rw [xN_N (by omega)]; rfl))
  · obtain ⟨j, hj, hj1, hjn, rfl⟩ := lenB_t c8
    refine lv_aload_n X.1 X.2.1 dX11_lyndonWord_11 rfl (lv_at hl 0 rfl) ?_
    refine va_get (D := g.1) (ci := 10) (v := .ref sa) (C := RX11) (T := TX11) (N := 11) X.1 X.2.1 X.2.2.2.2 iwX11 X.2.2.2.1 hK hP 0 rfl rfl 0 (by decide) (X.2.2.2.2 _ q236) (fun _ h9 => h9) rfl dX11_lyndonWord_12 ?_
    refine lv_iload_n X.1 X.2.1 dX11_lyndonWord_15 rfl (lv_at hl 1 rfl) ?_
    refine lv_iload_n X.1 X.2.1 dX11_lyndonWord_16 rfl (lv_at hl 2 rfl) ?_
    refine (c_lynAt g sa k n B T j y (by assumption) (by omega) (by omega)).callV (rest := []) X dX11_lyndonWord_17 q800 tX6_lyndonAt hK (hP.sub [1] rfl) 0 6 rfl rfl rfl hl ⟨⟨Nat.le_of_ble_eq_true rfl, Nat.le_of_ble_eq_true rfl⟩, Nat.le_of_ble_eq_true rfl, Nat.le_of_ble_eq_true rfl⟩ rfl rfl (Nat.le_of_ble_eq_true rfl) ?_
    refine lv_goto (tgt := 24) X.1 X.2.1 dX11_lyndonWord_20 (by decide) ?_
    exact PuI.ret X hr hlk dX11_lyndonWord_24 (nI_nar _) (by unfold a_lyndonWord; rw [show lenB n _ = _ from c8]; first | rfl | (rw [xN_N (by omega)]; rfl))

set_option maxHeartbeats 4000000 in
set_option maxRecDepth 100000 in
theorem b_patternCount (g : G5) (b0 : Nat) (sa : Nat) (qa : Nat) (da : Nat) (ka : Nat) (o : Nat) (ca : Nat) (pa : Nat) (ha : Nat) (na : Nat) (ta : Nat) (ua : Nat) (pb : Nat) (p : List Int) (fp : Nat → Int32) (qb : Nat) (s : List Nat) (f : Nat → Int32) (hp : p.length ≤ 8) (hfp : repZ fp p) (ho : okp p) (hs : s.length ≤ 256) (hf : rep f s) (hb : bd s) : PuI yX11_patternCount cX11_patternCount 1 (some .int) 4 89 g [.ref b0] [(b0, .inr (10, [.ref sa, .ref qa, .ref da, .ref ka, .ref o, .ref ca, .ref pa, .ref ha, .ref na, .ref ta, .ref ua])), (pa, .inr (5, [.ref pb, .int (nI p.length)])), (pb, .inl (g.2.1, 8, .inl fp)), (qa, .inr (9, [.ref qb, .int (nI s.length)])), (qb, .inl (g.2.1, 256, .inl f))] (nI (cntL (patB s p) s.length 0 0)) := by
  refine PuI.of (by decide +kernel) (Nat.le_of_ble_eq_true rfl) ?_
  intro p_ l_ e_ S_ m_ args below meth co X hr hlk hP hK ls hl
  have X : CallFix p_ m_ co cX11_patternCount 1 S_ args lw_all RX11 := X
  have hl : lv_has ls 1 [(0, .ref b0)] := hl
  refine lv_aload_n X.1 X.2.1 dX11_patternCount_0 rfl (lv_at hl 0 rfl) ?_
  refine va_get (D := g.1) (ci := 10) (v := .ref pa) (C := RX11) (T := TX11) (N := 11) X.1 X.2.1 X.2.2.2.2 iwX11 X.2.2.2.1 hK hP 0 rfl rfl 6 (by decide) (X.2.2.2.2 _ q242) (fun _ h9 => h9) rfl dX11_patternCount_1 ?_
  refine lv_aload_n X.1 X.2.1 dX11_patternCount_4 rfl (lv_at hl 0 rfl) ?_
  refine va_get (D := g.1) (ci := 10) (v := .ref qa) (C := RX11) (T := TX11) (N := 11) X.1 X.2.1 X.2.2.2.2 iwX11 X.2.2.2.1 hK hP 0 rfl rfl 1 (by decide) (X.2.2.2.2 _ q237) (fun _ h9 => h9) rfl dX11_patternCount_5 ?_
  refine (c_pt_total g pa pb p fp qa qb s f (by omega) (by assumption) (by assumption) (by omega) (by assumption) (by assumption)).callV (rest := []) X dX11_patternCount_8 q829 tX5_matchTotal hK (hP.sub [1, 2, 3, 4] rfl) 0 5 rfl rfl rfl hl ⟨⟨Nat.le_of_ble_eq_true rfl, Nat.le_of_ble_eq_true rfl⟩, Nat.le_of_ble_eq_true rfl, Nat.le_of_ble_eq_true rfl⟩ rfl rfl (Nat.le_of_ble_eq_true rfl) ?_
  exact PuI.ret X hr hlk dX11_patternCount_11 (nI_nar _) (rfl)

set_option maxHeartbeats 4000000 in
set_option maxRecDepth 100000 in
theorem b_patternPosition (g : G5) (b0 : Nat) (sa : Nat) (qa : Nat) (da : Nat) (ka : Nat) (o : Nat) (ca : Nat) (pa : Nat) (ha : Nat) (na : Nat) (ta : Nat) (ua : Nat) (pb : Nat) (p : List Int) (fp : Nat → Int32) (qb : Nat) (s : List Nat) (f : Nat → Int32) (x : Int32) (hp : p.length ≤ 8) (hfp : repZ fp p) (ho : okp p) (hs : s.length ≤ 256) (hf : rep f s) (hb : bd s) : PuI yX11_patternPosition cX11_patternPosition 2 (some .int) 4 90 g [.ref b0, .int x] [(b0, .inr (10, [.ref sa, .ref qa, .ref da, .ref ka, .ref o, .ref ca, .ref pa, .ref ha, .ref na, .ref ta, .ref ua])), (pa, .inr (5, [.ref pb, .int (nI p.length)])), (pb, .inl (g.2.1, 8, .inl fp)), (qa, .inr (9, [.ref qb, .int (nI s.length)])), (qb, .inl (g.2.1, 256, .inl f))] (nthL (patB s p) x.toInt s.length 0 0) := by
  refine PuI.of (by decide +kernel) (Nat.le_of_ble_eq_true rfl) ?_
  intro p_ l_ e_ S_ m_ args below meth co X hr hlk hP hK ls hl
  have X : CallFix p_ m_ co cX11_patternPosition 2 S_ args lw_all RX11 := X
  have hl : lv_has ls 2 [(0, .ref b0), (1, .int x)] := hl
  refine lv_aload_n X.1 X.2.1 dX11_patternPosition_0 rfl (lv_at hl 0 rfl) ?_
  refine va_get (D := g.1) (ci := 10) (v := .ref pa) (C := RX11) (T := TX11) (N := 11) X.1 X.2.1 X.2.2.2.2 iwX11 X.2.2.2.1 hK hP 0 rfl rfl 6 (by decide) (X.2.2.2.2 _ q242) (fun _ h9 => h9) rfl dX11_patternPosition_1 ?_
  refine lv_aload_n X.1 X.2.1 dX11_patternPosition_4 rfl (lv_at hl 0 rfl) ?_
  refine va_get (D := g.1) (ci := 10) (v := .ref qa) (C := RX11) (T := TX11) (N := 11) X.1 X.2.1 X.2.2.2.2 iwX11 X.2.2.2.1 hK hP 0 rfl rfl 1 (by decide) (X.2.2.2.2 _ q237) (fun _ h9 => h9) rfl dX11_patternPosition_5 ?_
  refine lv_iload_n X.1 X.2.1 dX11_patternPosition_8 rfl (lv_at hl 1 rfl) ?_
  refine (c_pt_place g pa pb p fp qa qb s f x (by omega) (by assumption) (by assumption) (by omega) (by assumption) (by assumption)).callV (rest := []) X dX11_patternPosition_9 q843 tX5_matchPlace hK (hP.sub [1, 2, 3, 4] rfl) 0 5 rfl rfl rfl hl ⟨⟨Nat.le_of_ble_eq_true rfl, Nat.le_of_ble_eq_true rfl⟩, Nat.le_of_ble_eq_true rfl, Nat.le_of_ble_eq_true rfl⟩ rfl rfl (Nat.le_of_ble_eq_true rfl) ?_
  exact PuI.ret X hr hlk dX11_patternPosition_12 (nI_nar _) (rfl)

set_option maxHeartbeats 4000000 in
set_option maxRecDepth 100000 in
theorem b_countModulo (g : G5) (b0 : Nat) (sa : Nat) (qa : Nat) (da : Nat) (ka : Nat) (o : Nat) (ca : Nat) (pa : Nat) (ha : Nat) (na : Nat) (ta : Nat) (ua : Nat) (k : Nat) (n : Nat) (B : Nat) (T : Nat) (x : Int32) (hc : shp k n B T) : PuI yX11_countModulo cX11_countModulo 2 (some .int) 2 47 g [.ref b0, .int x] [(b0, .inr (10, [.ref sa, .ref qa, .ref da, .ref ka, .ref o, .ref ca, .ref pa, .ref ha, .ref na, .ref ta, .ref ua])), (sa, .inr (6, [.int (nI k), .int (nI n), .int (nI B), .int (nI T)]))] (a_countModulo k n T x) := by
  refine PuI.of (by decide +kernel) (Nat.le_of_ble_eq_true rfl) ?_
  intro p_ l_ e_ S_ m_ args below meth co X hr hlk hP hK ls hl
  have X : CallFix p_ m_ co cX11_countModulo 2 S_ args lw_all RX11 := X
  have hl : lv_has ls 2 [(0, .ref b0), (1, .int x)] := hl
  refine lv_iload_n X.1 X.2.1 dX11_countModulo_0 rfl (lv_at hl 1 rfl) ?_
  refine lv_iconst (v := (nI 2)) X.1 X.2.1 dX11_countModulo_1 (by decide) ?_
  refine z_icmp_lt (tgt := 11) X dX11_countModulo_2 (by decide) rfl (nI_toInt (by omega)) (fun c2 => ?_) (fun c2 => ?_)
  · refine lv_iconst (v := (-1)) X.1 X.2.1 dX11_countModulo_11 (by decide) ?_
    refine lv_goto (tgt := 23) X.1 X.2.1 dX11_countModulo_12 (by decide) ?_
    exact PuI.ret X hr hlk dX11_countModulo_23 (nI_nar _) (by unfold a_countModulo; first | (rw [if_neg (by simp only [decide_eq_true_eq]; omega)]; done) | (rw [if_pos (by simp only [decide_eq_true_eq]; rw [nI_toInt hj]; omega), xN_N hj]))
  · refine lv_iload_n X.1 X.2.1 dX11_countModulo_5 rfl (lv_at hl 1 rfl) ?_
    refine lv_ldc (v := 1000000000) X.1 X.2.1 X.2.2.2.1 (X.2.2.2.2 _ q851) dX11_countModulo_6 ?_
    refine tp_i (y := (nI 1000000000)) (by decide) ?_
    refine z_icmp_le (tgt := 15) X dX11_countModulo_8 (by decide) rfl (nI_toInt (by omega)) (fun c8 => ?_) (fun c8 => ?_)
    · have h8 : 2 ≤ x.toInt ∧ x.toInt ≤ 1000000000 := by omega
      obtain ⟨j, hj, rfl⟩ := z_nat (x := x) (by omega)
      rw [nI_toInt hj] at h8
      refine lv_aload_n X.1 X.2.1 dX11_countModulo_15 rfl (lv_at hl 0 rfl) ?_
      refine va_get (D := g.1) (ci := 10) (v := .ref sa) (C := RX11) (T := TX11) (N := 11) X.1 X.2.1 X.2.2.2.2 iwX11 X.2.2.2.1 hK hP 0 rfl rfl 0 (by decide) (X.2.2.2.2 _ q236) (fun _ h9 => h9) rfl dX11_countModulo_16 ?_
      refine lv_iload_n X.1 X.2.1 dX11_countModulo_19 rfl (lv_at hl 1 rfl) ?_
      refine (c_cyc g sa k n B T j (by assumption) (by omega) (by omega)).callV (rest := []) X dX11_countModulo_20 q852 tX6_cycleTotalModulo hK (hP.sub [1] rfl) 0 6 rfl rfl rfl hl ⟨⟨Nat.le_of_ble_eq_true rfl, Nat.le_of_ble_eq_true rfl⟩, Nat.le_of_ble_eq_true rfl, Nat.le_of_ble_eq_true rfl⟩ rfl rfl (Nat.le_of_ble_eq_true rfl) ?_
      exact PuI.ret X hr hlk dX11_countModulo_23 (nI_nar _) (by unfold a_countModulo; first | (rw [if_neg (by simp only [decide_eq_true_eq]; omega)]; done) | (rw [if_pos (by simp only [decide_eq_true_eq]; rw [nI_toInt hj]; omega), xN_N hj]))
    · refine lv_iconst (v := (-1)) X.1 X.2.1 dX11_countModulo_11 (by decide) ?_
      refine lv_goto (tgt := 23) X.1 X.2.1 dX11_countModulo_12 (by decide) ?_
      exact PuI.ret X hr hlk dX11_countModulo_23 (nI_nar _) (by unfold a_countModulo; first | (rw [if_neg (by simp only [decide_eq_true_eq]; omega)]; done) | (rw [if_pos (by simp only [decide_eq_true_eq]; rw [nI_toInt hj]; omega), xN_N hj]))

set_option maxHeartbeats 4000000 in
set_option maxRecDepth 100000 in
theorem b_runCount (g : G5) (b0 : Nat) (sa : Nat) (qa : Nat) (da : Nat) (ka : Nat) (o : Nat) (ca : Nat) (pa : Nat) (ha : Nat) (na : Nat) (ta : Nat) (ua : Nat) (k : Nat) (n : Nat) (B : Nat) (T : Nat) (qb : Nat) (s : List Nat) (f : Nat → Int32) (x : Int32) (y : Int32) (hc : shp k n B T) (hs : s.length ≤ 256) (hf : rep f s) (hb : bd s) : PuI yX11_runCount cX11_runCount 3 (some .int) 5 112 g [.ref b0, .int x, .int y] [(b0, .inr (10, [.ref sa, .ref qa, .ref da, .ref ka, .ref o, .ref ca, .ref pa, .ref ha, .ref na, .ref ta, .ref ua])), (sa, .inr (6, [.int (nI k), .int (nI n), .int (nI B), .int (nI T)])), (qa, .inr (9, [.ref qb, .int (nI s.length)])), (qb, .inl (g.2.1, 256, .inl f))] (a_runCount k s x y) := by
  refine PuI.of (by decide +kernel) (Nat.le_of_ble_eq_true rfl) ?_
  intro p_ l_ e_ S_ m_ args below meth co X hr hlk hP hK ls hl
  have X : CallFix p_ m_ co cX11_runCount 3 S_ args lw_all RX11 := X
  have hl : lv_has ls 3 [(0, .ref b0), (1, .int x), (2, .int y)] := hl
  obtain ⟨hk2, hk4, hn1, hn6, hB, hT, hBT, hT2⟩ := hc.f
  have hB0 : 0 < B := by rw [hBT]; exact Nat.mul_pos (by omega) (by omega)
  refine lv_aload_n X.1 X.2.1 dX11_runCount_0 rfl (lv_at hl 0 rfl) ?_
  refine va_get (D := g.1) (ci := 10) (v := .ref sa) (C := RX11) (T := TX11) (N := 11) X.1 X.2.1 X.2.2.2.2 iwX11 X.2.2.2.1 hK hP 0 rfl rfl 0 (by decide) (X.2.2.2.2 _ q236) (fun _ h9 => h9) rfl dX11_runCount_1 ?_
  refine lv_iload_n X.1 X.2.1 dX11_runCount_4 rfl (lv_at hl 1 rfl) ?_
  refine (c_isLetter g sa k n B T x (by assumption)).callV (rest := []) X dX11_runCount_5 q599 tX6_isLetter hK (hP.sub [1] rfl) 0 6 rfl rfl rfl hl ⟨⟨Nat.le_of_ble_eq_true rfl, Nat.le_of_ble_eq_true rfl⟩, Nat.le_of_ble_eq_true rfl, Nat.le_of_ble_eq_true rfl⟩ rfl rfl (Nat.le_of_ble_eq_true rfl) ?_
  refine b_if_eq (tgt := 23) X dX11_runCount_8 (by decide) (fun c8 => ?_) (fun c8 => ?_)
  · refine lv_iconst (v := (-1)) X.1 X.2.1 dX11_runCount_23 (by decide) ?_
    exact PuI.ret X hr hlk dX11_runCount_24 (nI_nar _) (by unfold a_runCount; first | (rw [c8]; rfl) | (rw [show lenB 256 y = false from decide_eq_false (by omega), Bool.and_false]; rfl))
  · refine lv_iload_n X.1 X.2.1 dX11_runCount_11 rfl (lv_at hl 2 rfl) ?_
    refine lv_iconst (v := (nI 1)) X.1 X.2.1 dX11_runCount_12 (by decide) ?_
    refine z_icmp_lt (tgt := 23) X dX11_runCount_13 (by decide) rfl (nI_toInt (by omega)) (fun c13 => ?_) (fun c13 => ?_)
    · refine lv_iconst (v := (-1)) X.1 X.2.1 dX11_runCount_23 (by decide) ?_
      exact PuI.ret X hr hlk dX11_runCount_24 (nI_nar _) (by unfold a_runCount; first | (rw [c8]; rfl) | (rw [show lenB 256 y = false from decide_eq_false (by omega), Bool.and_false]; rfl))
    · refine lv_iload_n X.1 X.2.1 dX11_runCount_16 rfl (lv_at hl 2 rfl) ?_
      refine lv_sipush (v := (nI 256)) X.1 X.2.1 dX11_runCount_17 (by decide) ?_
      refine z_icmp_le (tgt := 25) X dX11_runCount_20 (by decide) rfl (nI_toInt (by omega)) (fun c20 => ?_) (fun c20 => ?_)
      · have h9 : lenB 256 y = true := decide_eq_true (by omega)
        obtain ⟨j, hj, rfl⟩ := hasB_t c8
        obtain ⟨t, ht, ht1, ht2, rfl⟩ := lenB_t h9
        refine lv_aload_n X.1 X.2.1 dX11_runCount_25 rfl (lv_at hl 0 rfl) ?_
        refine va_get (D := g.1) (ci := 10) (v := .ref qa) (C := RX11) (T := TX11) (N := 11) X.1 X.2.1 X.2.2.2.2 iwX11 X.2.2.2.1 hK hP 0 rfl rfl 1 (by decide) (X.2.2.2.2 _ q237) (fun _ h9 => h9) rfl dX11_runCount_26 ?_
        refine lv_iload_n X.1 X.2.1 dX11_runCount_29 rfl (lv_at hl 1 rfl) ?_
        refine lv_iload_n X.1 X.2.1 dX11_runCount_30 rfl (lv_at hl 2 rfl) ?_
        refine (c_st_runs g qa qb s f j t (by omega) (by assumption) (by assumption) (by omega) (by omega)).callS (rest := []) X dX11_runCount_31 q863 tX8_runs hK (hP.sub [2, 3] rfl) hl ⟨⟨Nat.le_of_ble_eq_true rfl, Nat.le_of_ble_eq_true rfl⟩, Nat.le_of_ble_eq_true rfl, Nat.le_of_ble_eq_true rfl⟩ rfl rfl (Nat.le_of_ble_eq_true rfl) ?_
        exact PuI.ret X hr hlk dX11_runCount_34 (nI_nar _) (by unfold a_runCount; rw [c8, h9, xN_N (by omega), xN_N (by omega)]; rfl)
      · refine lv_iconst (v := (-1)) X.1 X.2.1 dX11_runCount_23 (by decide) ?_
        exact PuI.ret X hr hlk dX11_runCount_24 (nI_nar _) (by unfold a_runCount; first | (rw [c8]; rfl) | (rw [show lenB 256 y = false from decide_eq_false (by omega), Bool.and_false]; rfl))

set_option maxHeartbeats 4000000 in
set_option maxRecDepth 100000 in
theorem b_discrepancy (g : G5) (b0 : Nat) (sa : Nat) (qa : Nat) (da : Nat) (ka : Nat) (o : Nat) (ca : Nat) (pa : Nat) (ha : Nat) (na : Nat) (ta : Nat) (ua : Nat) (k : Nat) (n : Nat) (B : Nat) (T : Nat) (qb : Nat) (s : List Nat) (f : Nat → Int32) (x : Int32) (hc : shp k n B T) (hs : s.length ≤ 256) (hf : rep f s) (hb : bd s) : PuI yX11_discrepancy cX11_discrepancy 2 (some .int) 3 68 g [.ref b0, .int x] [(b0, .inr (10, [.ref sa, .ref qa, .ref da, .ref ka, .ref o, .ref ca, .ref pa, .ref ha, .ref na, .ref ta, .ref ua])), (sa, .inr (6, [.int (nI k), .int (nI n), .int (nI B), .int (nI T)])), (qa, .inr (9, [.ref qb, .int (nI s.length)])), (qb, .inl (g.2.1, 256, .inl f))] (a_discrepancy k s x) := by
  refine PuI.of (by decide +kernel) (Nat.le_of_ble_eq_true rfl) ?_
  intro p_ l_ e_ S_ m_ args below meth co X hr hlk hP hK ls hl
  have X : CallFix p_ m_ co cX11_discrepancy 2 S_ args lw_all RX11 := X
  have hl : lv_has ls 2 [(0, .ref b0), (1, .int x)] := hl
  obtain ⟨hk2, hk4, hn1, hn6, hB, hT, hBT, hT2⟩ := hc.f
  have hB0 : 0 < B := by rw [hBT]; exact Nat.mul_pos (by omega) (by omega)
  refine lv_aload_n X.1 X.2.1 dX11_discrepancy_0 rfl (lv_at hl 0 rfl) ?_
  refine va_get (D := g.1) (ci := 10) (v := .ref sa) (C := RX11) (T := TX11) (N := 11) X.1 X.2.1 X.2.2.2.2 iwX11 X.2.2.2.1 hK hP 0 rfl rfl 0 (by decide) (X.2.2.2.2 _ q236) (fun _ h9 => h9) rfl dX11_discrepancy_1 ?_
  refine lv_iload_n X.1 X.2.1 dX11_discrepancy_4 rfl (lv_at hl 1 rfl) ?_
  refine (c_isLetter g sa k n B T x (by assumption)).callV (rest := []) X dX11_discrepancy_5 q599 tX6_isLetter hK (hP.sub [1] rfl) 0 6 rfl rfl rfl hl ⟨⟨Nat.le_of_ble_eq_true rfl, Nat.le_of_ble_eq_true rfl⟩, Nat.le_of_ble_eq_true rfl, Nat.le_of_ble_eq_true rfl⟩ rfl rfl (Nat.le_of_ble_eq_true rfl) ?_
  refine b_if_ne (tgt := 13) X dX11_discrepancy_8 (by decide) (fun c8 => ?_) (fun c8 => ?_)
  · obtain ⟨j, hj, rfl⟩ := hasB_t c8
    refine lv_aload_n X.1 X.2.1 dX11_discrepancy_13 rfl (lv_at hl 0 rfl) ?_
    refine va_get (D := g.1) (ci := 10) (v := .ref qa) (C := RX11) (T := TX11) (N := 11) X.1 X.2.1 X.2.2.2.2 iwX11 X.2.2.2.1 hK hP 0 rfl rfl 1 (by decide) (X.2.2.2.2 _ q237) (fun _ h9 => h9) rfl dX11_discrepancy_14 ?_
    refine lv_iload_n X.1 X.2.1 dX11_discrepancy_17 rfl (lv_at hl 1 rfl) ?_
    refine lv_aload_n X.1 X.2.1 dX11_discrepancy_18 rfl (lv_at hl 0 rfl) ?_
    refine va_get (D := g.1) (ci := 10) (v := .ref sa) (C := RX11) (T := TX11) (N := 11) X.1 X.2.1 X.2.2.2.2 iwX11 X.2.2.2.1 hK hP 0 rfl rfl 0 (by decide) (X.2.2.2.2 _ q236) (fun _ h9 => h9) rfl dX11_discrepancy_19 ?_
    refine (c_sh_k g sa k n B T).callV (rest := [.int (nI j), .ref qa]) X dX11_discrepancy_22 q308 tX6_letterTotal hK (hP.sub [1] rfl) 0 6 rfl rfl rfl hl ⟨⟨Nat.le_of_ble_eq_true rfl, Nat.le_of_ble_eq_true rfl⟩, Nat.le_of_ble_eq_true rfl, Nat.le_of_ble_eq_true rfl⟩ rfl rfl (Nat.le_of_ble_eq_true rfl) ?_
    refine (c_st_spread g qa qb s f j k (by omega) (by assumption) (by assumption) (by omega) (by omega) (by omega)).callS (rest := []) X dX11_discrepancy_25 q881 tX8_spread hK (hP.sub [2, 3] rfl) hl ⟨⟨Nat.le_of_ble_eq_true rfl, Nat.le_of_ble_eq_true rfl⟩, Nat.le_of_ble_eq_true rfl, Nat.le_of_ble_eq_true rfl⟩ rfl rfl (Nat.le_of_ble_eq_true rfl) ?_
    exact PuI.ret X hr hlk dX11_discrepancy_28 (nI_nar _) (by unfold a_discrepancy; rw [c8]; first | rfl | (rw [xN_N (by omega)]; rfl))
  · refine lv_iconst (v := (-1)) X.1 X.2.1 dX11_discrepancy_11 (by decide) ?_
    exact PuI.ret X hr hlk dX11_discrepancy_12 (nI_nar _) (by unfold a_discrepancy; rw [c8]; first | rfl | (rw [xN_N (by omega)]; rfl))

set_option maxHeartbeats 4000000 in
set_option maxRecDepth 100000 in
theorem b_undoCount (g : G5) (b0 : Nat) (sa : Nat) (qa : Nat) (da : Nat) (ka : Nat) (o : Nat) (ca : Nat) (pa : Nat) (ha : Nat) (na : Nat) (ta : Nat) (ua : Nat) (hr_ : Nat) (hz_ : Nat) (nx : Nat) (h : List (List Nat)) (fr : Nat → Int32) (fz : Nat → Int32) : PuI yX11_undoCount cX11_undoCount 1 (some .int) 1 20 g [.ref b0] [(b0, .inr (10, [.ref sa, .ref qa, .ref da, .ref ka, .ref o, .ref ca, .ref pa, .ref ha, .ref na, .ref ta, .ref ua])), (ha, .inr (3, [.ref hr_, .ref hz_, .int (nI nx), .int (nI h.length)])), (hr_, .inl (g.2.1, 1536, .inl fr)), (hz_, .inl (g.2.1, 6, .inl fz))] (nI h.length) := by
  refine PuI.of (by decide +kernel) (Nat.le_of_ble_eq_true rfl) ?_
  intro p_ l_ e_ S_ m_ args below meth co X hr hlk hP hK ls hl
  have X : CallFix p_ m_ co cX11_undoCount 1 S_ args lw_all RX11 := X
  have hl : lv_has ls 1 [(0, .ref b0)] := hl
  refine lv_aload_n X.1 X.2.1 dX11_undoCount_0 rfl (lv_at hl 0 rfl) ?_
  refine va_get (D := g.1) (ci := 10) (v := .ref ha) (C := RX11) (T := TX11) (N := 11) X.1 X.2.1 X.2.2.2.2 iwX11 X.2.2.2.1 hK hP 0 rfl rfl 7 (by decide) (X.2.2.2.2 _ q243) (fun _ h9 => h9) rfl dX11_undoCount_1 ?_
  refine (c_hi_size g ha hr_ hz_ nx h fr fz).callV (rest := []) X dX11_undoCount_4 q912 tX3_size hK (hP.sub [1, 2, 3] rfl) 0 3 rfl rfl rfl hl ⟨⟨Nat.le_of_ble_eq_true rfl, Nat.le_of_ble_eq_true rfl⟩, Nat.le_of_ble_eq_true rfl, Nat.le_of_ble_eq_true rfl⟩ rfl rfl (Nat.le_of_ble_eq_true rfl) ?_
  exact PuI.ret X hr hlk dX11_undoCount_7 (nI_nar _) (rfl)

set_option maxHeartbeats 4000000 in
set_option maxRecDepth 100000 in
theorem b_isCutCount (g : G5) (b0 : Nat) (sa : Nat) (qa : Nat) (da : Nat) (ka : Nat) (o : Nat) (ca : Nat) (pa : Nat) (ha : Nat) (na : Nat) (ta : Nat) (ua : Nat) (qb : Nat) (s : List Nat) (f : Nat → Int32) (x : Int32) (hs : s.length ≤ 256) : PuI yX11_isCutCount cX11_isCutCount 2 (some .boolean) 1 20 g [.ref b0, .int x] [(b0, .inr (10, [.ref sa, .ref qa, .ref da, .ref ka, .ref o, .ref ca, .ref pa, .ref ha, .ref na, .ref ta, .ref ua])), (qa, .inr (9, [.ref qb, .int (nI s.length)])), (qb, .inl (g.2.1, 256, .inl f))] (bI (cutB s x)) := by
  refine PuI.of (by decide +kernel) (Nat.le_of_ble_eq_true rfl) ?_
  intro p_ l_ e_ S_ m_ args below meth co X hr hlk hP hK ls hl
  have X : CallFix p_ m_ co cX11_isCutCount 2 S_ args lw_all RX11 := X
  have hl : lv_has ls 2 [(0, .ref b0), (1, .int x)] := hl
  refine lv_iload_n X.1 X.2.1 dX11_isCutCount_0 rfl (lv_at hl 1 rfl) ?_
  refine lv_iconst (v := (nI 1)) X.1 X.2.1 dX11_isCutCount_1 (by decide) ?_
  refine z_icmp_lt (tgt := 20) X dX11_isCutCount_2 (by decide) rfl (nI_toInt (by omega)) (fun c2 => ?_) (fun c2 => ?_)
  · refine lv_iconst (v := (nI 0)) X.1 X.2.1 dX11_isCutCount_20 (by decide) ?_
    exact PuI.ret X hr hlk dX11_isCutCount_21 (bI_nar _) (by first | exact bt (by unfold cutB; exact decide_eq_true (by omega)) | exact bf (by unfold cutB; exact decide_eq_false (by omega)))
  · refine lv_iload_n X.1 X.2.1 dX11_isCutCount_5 rfl (lv_at hl 1 rfl) ?_
    refine lv_aload_n X.1 X.2.1 dX11_isCutCount_6 rfl (lv_at hl 0 rfl) ?_
    refine va_get (D := g.1) (ci := 10) (v := .ref qa) (C := RX11) (T := TX11) (N := 11) X.1 X.2.1 X.2.2.2.2 iwX11 X.2.2.2.1 hK hP 0 rfl rfl 1 (by decide) (X.2.2.2.2 _ q237) (fun _ h9 => h9) rfl dX11_isCutCount_7 ?_
    refine (c_Word_size g qa qb s f).callV (rest := [.int x]) X dX11_isCutCount_10 q324 tX10_size hK (hP.sub [1, 2] rfl) 0 9 rfl rfl rfl hl ⟨⟨Nat.le_of_ble_eq_true rfl, Nat.le_of_ble_eq_true rfl⟩, Nat.le_of_ble_eq_true rfl, Nat.le_of_ble_eq_true rfl⟩ rfl rfl (Nat.le_of_ble_eq_true rfl) ?_
    refine z_icmp_ge (tgt := 20) X dX11_isCutCount_13 (by decide) rfl (nI_toInt (by omega)) (fun c13 => ?_) (fun c13 => ?_)
    · refine lv_iconst (v := (nI 0)) X.1 X.2.1 dX11_isCutCount_20 (by decide) ?_
      exact PuI.ret X hr hlk dX11_isCutCount_21 (bI_nar _) (by first | exact bt (by unfold cutB; exact decide_eq_true (by omega)) | exact bf (by unfold cutB; exact decide_eq_false (by omega)))
    · refine lv_iconst (v := (nI 1)) X.1 X.2.1 dX11_isCutCount_16 (by decide) ?_
      refine lv_goto (tgt := 21) X.1 X.2.1 dX11_isCutCount_17 (by decide) ?_
      exact PuI.ret X hr hlk dX11_isCutCount_21 (bI_nar _) (by first | exact bt (by unfold cutB; exact decide_eq_true (by omega)) | exact bf (by unfold cutB; exact decide_eq_false (by omega)))

set_option maxHeartbeats 4000000 in
set_option maxRecDepth 100000 in
theorem b_canCut (g : G5) (b0 : Nat) (sa : Nat) (qa : Nat) (da : Nat) (ka : Nat) (o : Nat) (ca : Nat) (pa : Nat) (ha : Nat) (na : Nat) (ta : Nat) (ua : Nat) (k : Nat) (n : Nat) (B : Nat) (T : Nat) (qb : Nat) (s : List Nat) (f : Nat → Int32) (i : Nat) (j : Nat) (hc : shp k n B T) (hs : s.length ≤ 256) (hf : rep f s) (hb : bd s) (h0 : 0 < s.length) (hi : i < 500) (hj : j < 500) : PuI yX11_canCut cX11_canCut 3 (some .boolean) 3 67 g [.ref b0, .int (nI i), .int (nI j)] [(b0, .inr (10, [.ref sa, .ref qa, .ref da, .ref ka, .ref o, .ref ca, .ref pa, .ref ha, .ref na, .ref ta, .ref ua])), (sa, .inr (6, [.int (nI k), .int (nI n), .int (nI B), .int (nI T)])), (qa, .inr (9, [.ref qb, .int (nI s.length)])), (qb, .inl (g.2.1, 256, .inl f))] (bI (repB s i (i + j) (n - 1))) := by
  refine PuI.of (by decide +kernel) (Nat.le_of_ble_eq_true rfl) ?_
  intro p_ l_ e_ S_ m_ args below meth co X hr hlk hP hK ls hl
  have X : CallFix p_ m_ co cX11_canCut 3 S_ args lw_all RX11 := X
  have hl : lv_has ls 3 [(0, .ref b0), (1, .int (nI i)), (2, .int (nI j))] := hl
  obtain ⟨hk2, hk4, hn1, hn6, hB, hT, hBT, hT2⟩ := hc.f
  have hB0 : 0 < B := by rw [hBT]; exact Nat.mul_pos (by omega) (by omega)
  refine lv_aload_n X.1 X.2.1 dX11_canCut_0 rfl (lv_at hl 0 rfl) ?_
  refine va_get (D := g.1) (ci := 10) (v := .ref qa) (C := RX11) (T := TX11) (N := 11) X.1 X.2.1 X.2.2.2.2 iwX11 X.2.2.2.1 hK hP 0 rfl rfl 1 (by decide) (X.2.2.2.2 _ q237) (fun _ h9 => h9) rfl dX11_canCut_1 ?_
  refine lv_iload_n X.1 X.2.1 dX11_canCut_4 rfl (lv_at hl 1 rfl) ?_
  refine lv_iload_n X.1 X.2.1 dX11_canCut_5 rfl (lv_at hl 1 rfl) ?_
  refine lv_iload_n X.1 X.2.1 dX11_canCut_6 rfl (lv_at hl 2 rfl) ?_
  refine n_add X dX11_canCut_7 ?_
  refine lv_aload_n X.1 X.2.1 dX11_canCut_8 rfl (lv_at hl 0 rfl) ?_
  refine va_get (D := g.1) (ci := 10) (v := .ref sa) (C := RX11) (T := TX11) (N := 11) X.1 X.2.1 X.2.2.2.2 iwX11 X.2.2.2.1 hK hP 0 rfl rfl 0 (by decide) (X.2.2.2.2 _ q236) (fun _ h9 => h9) rfl dX11_canCut_9 ?_
  refine (c_sh_n g sa k n B T).callV (rest := [.int (nI (i + j)), .int (nI i), .ref qa]) X dX11_canCut_12 q316 tX6_blockSize hK (hP.sub [1] rfl) 0 6 rfl rfl rfl hl ⟨⟨Nat.le_of_ble_eq_true rfl, Nat.le_of_ble_eq_true rfl⟩, Nat.le_of_ble_eq_true rfl, Nat.le_of_ble_eq_true rfl⟩ rfl rfl (Nat.le_of_ble_eq_true rfl) ?_
  refine lv_iconst (v := (nI 1)) X.1 X.2.1 dX11_canCut_15 (by decide) ?_
  refine n_sub X dX11_canCut_16 (by omega) ?_
  refine (c_Word_repeats g qa qb s f i (i + j) (n - 1) (by omega) (by assumption) (by assumption) (by omega) (by omega) (by omega) (by omega)).callV (rest := []) X dX11_canCut_17 q650 tX10_repeats hK (hP.sub [2, 3] rfl) 0 9 rfl rfl rfl hl ⟨⟨Nat.le_of_ble_eq_true rfl, Nat.le_of_ble_eq_true rfl⟩, Nat.le_of_ble_eq_true rfl, Nat.le_of_ble_eq_true rfl⟩ rfl rfl (Nat.le_of_ble_eq_true rfl) ?_
  exact PuI.ret X hr hlk dX11_canCut_20 (bI_nar _) (rfl)

set_option maxHeartbeats 4000000 in
set_option maxRecDepth 100000 in
theorem b_firstCut_ok (g : G5) (b0 : Nat) (sa : Nat) (qa : Nat) (da : Nat) (ka : Nat) (o : Nat) (ca : Nat) (pa : Nat) (ha : Nat) (na : Nat) (ta : Nat) (ua : Nat) (k : Nat) (n : Nat) (B : Nat) (T : Nat) (qb : Nat) (s : List Nat) (f : Nat → Int32) (j : Nat) (hc : shp k n B T) (hs : s.length ≤ 256) (hf : rep f s) (hb : bd s) (h1j : 1 ≤ j) (hj : j < s.length) : PuI yX11_firstCut cX11_firstCut 4 (some .int) 4 89 g [.ref b0, .int (nI j)] [(b0, .inr (10, [.ref sa, .ref qa, .ref da, .ref ka, .ref o, .ref ca, .ref pa, .ref ha, .ref na, .ref ta, .ref ua])), (sa, .inr (6, [.int (nI k), .int (nI n), .int (nI B), .int (nI T)])), (qa, .inr (9, [.ref qb, .int (nI s.length)])), (qb, .inl (g.2.1, 256, .inl f))] (oI (firstL (cutQ n s j) s.length 0)) := by
  refine PuI.of (by decide +kernel) (Nat.le_of_ble_eq_true rfl) ?_
  intro p_ l_ e_ S_ m_ args below meth co X hr hlk hP hK ls hl
  have X : CallFix p_ m_ co cX11_firstCut 4 S_ args lw_all RX11 := X
  have hl : lv_has ls 4 [(0, .ref b0), (1, .int (nI j))] := hl
  obtain ⟨hk2, hk4, hn1, hn6, hB, hT, hBT, hT2⟩ := hc.f
  have hB0 : 0 < B := by rw [hBT]; exact Nat.mul_pos (by omega) (by omega)
  refine lv_aload_n X.1 X.2.1 dX11_firstCut_0 rfl (lv_at hl 0 rfl) ?_
  refine va_get (D := g.1) (ci := 10) (v := .ref qa) (C := RX11) (T := TX11) (N := 11) X.1 X.2.1 X.2.2.2.2 iwX11 X.2.2.2.1 hK hP 0 rfl rfl 1 (by decide) (X.2.2.2.2 _ q237) (fun _ h9 => h9) rfl dX11_firstCut_1 ?_
  refine (c_Word_size g qa qb s f).callV (rest := []) X dX11_firstCut_4 q324 tX10_size hK (hP.sub [2, 3] rfl) 0 9 rfl rfl rfl hl ⟨⟨Nat.le_of_ble_eq_true rfl, Nat.le_of_ble_eq_true rfl⟩, Nat.le_of_ble_eq_true rfl, Nat.le_of_ble_eq_true rfl⟩ rfl rfl (Nat.le_of_ble_eq_true rfl) ?_
  refine lv_istore_n (lv' := [(2, .int (nI s.length)), (0, .ref b0), (1, .int (nI j))]) X.1 X.2.1 dX11_firstCut_7 rfl hl (by decide) rfl (fun ls hl => ?_)
  refine lv_iload_n X.1 X.2.1 dX11_firstCut_8 rfl (lv_at hl 0 rfl) ?_
  refine lv_iconst (v := (nI 1)) X.1 X.2.1 dX11_firstCut_9 (by decide) ?_
  refine z_icmp_ge (tgt := 16) X dX11_firstCut_10 (by decide) (nI_toInt (by omega)) (nI_toInt (by omega)) (fun c10 => ?_) (fun c10 => ?_)
  · refine lv_aload_n X.1 X.2.1 dX11_firstCut_16 rfl (lv_at hl 1 rfl) ?_
    refine lv_iload_n X.1 X.2.1 dX11_firstCut_17 rfl (lv_at hl 2 rfl) ?_
    refine (b_isCutCount g b0 sa qa da ka o ca pa ha na ta ua qb s f (nI j) (by omega)).callV (rest := []) X dX11_firstCut_18 q642 tX11_isCutCount hK (hP.sub [0, 2, 3] rfl) 0 10 rfl rfl rfl hl ⟨⟨Nat.le_of_ble_eq_true rfl, Nat.le_of_ble_eq_true rfl⟩, Nat.le_of_ble_eq_true rfl, Nat.le_of_ble_eq_true rfl⟩ rfl rfl (Nat.le_of_ble_eq_true rfl) ?_
    have h9 : cutB s (nI j) = true := by unfold cutB; rw [nI_toInt (by omega)]; exact decide_eq_true (by omega)
    refine b_if_ne (tgt := 26) X dX11_firstCut_21 (by decide) (fun c21 => ?_) (fun c21 => ?_)
    · refine lv_iconst (v := (nI 0)) X.1 X.2.1 dX11_firstCut_26 (by decide) ?_
      refine lv_istore_n (lv' := [(3, .int (nI 0)), (2, .int (nI s.length)), (0, .ref b0), (1, .int (nI j))]) X.1 X.2.1 dX11_firstCut_27 rfl hl (by decide) rfl (fun ls hl => ?_)
      have L28 : ∀ (r : Nat) (i : Nat) (h1 : i + r = s.length) (hq : firstL (cutQ n s j) r i = firstL (cutQ n s j) s.length 0) (ls : Array Slot) (hl : lv_has ls 4 [(3, .int (nI i)), (2, .int (nI s.length)), (0, .ref b0), (1, .int (nI j))]), W p_ l_ e_ { frames := 4, cells := 0, slots := 0, locals := 89 } S_ m_ args below meth co S_.heap [] 0 0 (MQ below (vp_Si (fun r => r = (oI (firstL (cutQ n s j) s.length 0)))) args S_ 0 0 (fun _ => False)) (F0 m_ 28 ls []) := by
        intro r
        induction r with
        | zero =>
          intro i h1 hq ls hl
          refine lv_iload_n X.1 X.2.1 dX11_firstCut_28 rfl (lv_at hl 0 rfl) ?_
          refine lv_iload_n X.1 X.2.1 dX11_firstCut_29 rfl (lv_at hl 1 rfl) ?_
          refine z_icmp_ge (tgt := 50) X dX11_firstCut_30 (by decide) (nI_toInt (by omega)) (nI_toInt (by omega)) (fun c30 => ?_) (fun c30 => ?_)
          · refine lv_bipush (v := (-2)) X.1 X.2.1 dX11_firstCut_50 (by decide) ?_
            exact PuI.ret X hr hlk dX11_firstCut_52 (nI_nar _) (by rw [← hq]; rfl)
          · exfalso; omega
        | succ r ih28 =>
          intro i h1 hq ls hl
          refine lv_iload_n X.1 X.2.1 dX11_firstCut_28 rfl (lv_at hl 0 rfl) ?_
          refine lv_iload_n X.1 X.2.1 dX11_firstCut_29 rfl (lv_at hl 1 rfl) ?_
          refine z_icmp_ge (tgt := 50) X dX11_firstCut_30 (by decide) (nI_toInt (by omega)) (nI_toInt (by omega)) (fun c30 => ?_) (fun c30 => ?_)
          · exfalso; omega
          · refine lv_aload_n X.1 X.2.1 dX11_firstCut_33 rfl (lv_at hl 2 rfl) ?_
            refine lv_iload_n X.1 X.2.1 dX11_firstCut_34 rfl (lv_at hl 0 rfl) ?_
            refine lv_iload_n X.1 X.2.1 dX11_firstCut_35 rfl (lv_at hl 3 rfl) ?_
            refine (b_canCut g b0 sa qa da ka o ca pa ha na ta ua k n B T qb s f i j (by assumption) (by omega) (by assumption) (by assumption) (by omega) (by omega) (by omega)).callV (rest := []) X dX11_firstCut_36 q646 tX11_canCut hK (hP.sub [0, 1, 2, 3] rfl) 0 10 rfl rfl rfl hl ⟨⟨Nat.le_of_ble_eq_true rfl, Nat.le_of_ble_eq_true rfl⟩, Nat.le_of_ble_eq_true rfl, Nat.le_of_ble_eq_true rfl⟩ rfl rfl (Nat.le_of_ble_eq_true rfl) ?_
            refine b_if_eq (tgt := 44) X dX11_firstCut_39 (by decide) (fun c39 => ?_) (fun c39 => ?_)
            · refine lv_iinc (v := (nI (i + 1))) (lv' := [(3, .int (nI (i + 1))), (2, .int (nI s.length)), (0, .ref b0), (1, .int (nI j))]) X.1 X.2.1 dX11_firstCut_44 hl (k := 0) rfl (nI_inc _) (by decide) rfl (fun ls hl => ?_)
              refine lv_goto (tgt := 28) X.1 X.2.1 dX11_firstCut_47 (by decide) ?_
              exact ih28 (i + 1) (by omega) (by rw [firstL, cutQ, c39] at hq; exact hq) ls (lv_sub hl [0, 1, 2, 3] rfl)
            · refine lv_iload_n X.1 X.2.1 dX11_firstCut_42 rfl (lv_at hl 0 rfl) ?_
              exact PuI.ret X hr hlk dX11_firstCut_43 (nI_nar _) (by rw [firstL, cutQ, c39] at hq; rw [← hq]; rfl)
      exact L28 s.length 0 (by omega) (rfl) ls (lv_sub hl [0, 1, 2, 3] rfl)
    · exfalso; rw [h9] at c21; cases c21
  · exfalso; omega

set_option maxHeartbeats 4000000 in
set_option maxRecDepth 100000 in
theorem b_firstCut_no (g : G5) (b0 : Nat) (sa : Nat) (qa : Nat) (da : Nat) (ka : Nat) (o : Nat) (ca : Nat) (pa : Nat) (ha : Nat) (na : Nat) (ta : Nat) (ua : Nat) (k : Nat) (n : Nat) (B : Nat) (T : Nat) (qb : Nat) (s : List Nat) (f : Nat → Int32) (x : Int32) (hc : shp k n B T) (hs : s.length ≤ 256) (hf : rep f s) (hb : bd s) (hno : s.length < 1 ∨ cutB s x = false) : PuI yX11_firstCut cX11_firstCut 4 (some .int) 4 89 g [.ref b0, .int x] [(b0, .inr (10, [.ref sa, .ref qa, .ref da, .ref ka, .ref o, .ref ca, .ref pa, .ref ha, .ref na, .ref ta, .ref ua])), (sa, .inr (6, [.int (nI k), .int (nI n), .int (nI B), .int (nI T)])), (qa, .inr (9, [.ref qb, .int (nI s.length)])), (qb, .inl (g.2.1, 256, .inl f))] (if s.length < 1 then (-3) else (-1)) := by
  refine PuI.of (by decide +kernel) (Nat.le_of_ble_eq_true rfl) ?_
  intro p_ l_ e_ S_ m_ args below meth co X hr hlk hP hK ls hl
  have X : CallFix p_ m_ co cX11_firstCut 4 S_ args lw_all RX11 := X
  have hl : lv_has ls 4 [(0, .ref b0), (1, .int x)] := hl
  obtain ⟨hk2, hk4, hn1, hn6, hB, hT, hBT, hT2⟩ := hc.f
  have hB0 : 0 < B := by rw [hBT]; exact Nat.mul_pos (by omega) (by omega)
  refine lv_aload_n X.1 X.2.1 dX11_firstCut_0 rfl (lv_at hl 0 rfl) ?_
  refine va_get (D := g.1) (ci := 10) (v := .ref qa) (C := RX11) (T := TX11) (N := 11) X.1 X.2.1 X.2.2.2.2 iwX11 X.2.2.2.1 hK hP 0 rfl rfl 1 (by decide) (X.2.2.2.2 _ q237) (fun _ h9 => h9) rfl dX11_firstCut_1 ?_
  refine (c_Word_size g qa qb s f).callV (rest := []) X dX11_firstCut_4 q324 tX10_size hK (hP.sub [2, 3] rfl) 0 9 rfl rfl rfl hl ⟨⟨Nat.le_of_ble_eq_true rfl, Nat.le_of_ble_eq_true rfl⟩, Nat.le_of_ble_eq_true rfl, Nat.le_of_ble_eq_true rfl⟩ rfl rfl (Nat.le_of_ble_eq_true rfl) ?_
  refine lv_istore_n (lv' := [(2, .int (nI s.length)), (0, .ref b0), (1, .int x)]) X.1 X.2.1 dX11_firstCut_7 rfl hl (by decide) rfl (fun ls hl => ?_)
  refine lv_iload_n X.1 X.2.1 dX11_firstCut_8 rfl (lv_at hl 0 rfl) ?_
  refine lv_iconst (v := (nI 1)) X.1 X.2.1 dX11_firstCut_9 (by decide) ?_
  refine z_icmp_ge (tgt := 16) X dX11_firstCut_10 (by decide) (nI_toInt (by omega)) (nI_toInt (by omega)) (fun c10 => ?_) (fun c10 => ?_)
  · refine lv_aload_n X.1 X.2.1 dX11_firstCut_16 rfl (lv_at hl 1 rfl) ?_
    refine lv_iload_n X.1 X.2.1 dX11_firstCut_17 rfl (lv_at hl 2 rfl) ?_
    refine (b_isCutCount g b0 sa qa da ka o ca pa ha na ta ua qb s f x (by omega)).callV (rest := []) X dX11_firstCut_18 q642 tX11_isCutCount hK (hP.sub [0, 2, 3] rfl) 0 10 rfl rfl rfl hl ⟨⟨Nat.le_of_ble_eq_true rfl, Nat.le_of_ble_eq_true rfl⟩, Nat.le_of_ble_eq_true rfl, Nat.le_of_ble_eq_true rfl⟩ rfl rfl (Nat.le_of_ble_eq_true rfl) ?_
    refine b_if_ne (tgt := 26) X dX11_firstCut_21 (by decide) (fun c21 => ?_) (fun c21 => ?_)
    · exfalso; (rcases hno with h | h) <;> first | omega | (rw [h] at c21; cases c21)
    · refine lv_iconst (v := (-1)) X.1 X.2.1 dX11_firstCut_24 (by decide) ?_
      exact PuI.ret X hr hlk dX11_firstCut_25 (nI_nar _) (by first | (rw [if_pos (by omega)]; done) | (rw [if_neg (by omega)]; done))
  · refine lv_bipush (v := (-3)) X.1 X.2.1 dX11_firstCut_13 (by decide) ?_
    exact PuI.ret X hr hlk dX11_firstCut_15 (nI_nar _) (by first | (rw [if_pos (by omega)]; done) | (rw [if_neg (by omega)]; done))

theorem b_firstCut (g : G5) (b0 : Nat) (sa : Nat) (qa : Nat) (da : Nat) (ka : Nat) (o : Nat) (ca : Nat) (pa : Nat) (ha : Nat) (na : Nat) (ta : Nat) (ua : Nat) (k : Nat) (n : Nat) (B : Nat) (T : Nat) (qb : Nat) (s : List Nat) (f : Nat → Int32) (x : Int32) (hc : shp k n B T) (hs : s.length ≤ 256) (hf : rep f s) (hb : bd s) : PuI yX11_firstCut cX11_firstCut 4 (some .int) 4 89 g [.ref b0, .int x] [(b0, .inr (10, [.ref sa, .ref qa, .ref da, .ref ka, .ref o, .ref ca, .ref pa, .ref ha, .ref na, .ref ta, .ref ua])), (sa, .inr (6, [.int (nI k), .int (nI n), .int (nI B), .int (nI T)])), (qa, .inr (9, [.ref qb, .int (nI s.length)])), (qb, .inl (g.2.1, 256, .inl f))] (a_firstCut n s x) := by
  unfold a_firstCut
  by_cases h0 : s.length < 1
  · rw [if_pos h0]
    have h := b_firstCut_no g b0 sa qa da ka o ca pa ha na ta ua k n B T qb s f x hc hs hf hb (Or.inl h0)
    rw [if_pos h0] at h
    exact h
  · rw [if_neg h0]
    cases hcb : cutB s x with
    | false =>
      have h := b_firstCut_no g b0 sa qa da ka o ca pa ha na ta ua k n B T qb s f x hc hs hf hb (Or.inr hcb)
      rw [if_neg h0] at h
      exact h
    | true =>
      obtain ⟨j, hj, hj1, hj2, rfl⟩ := cutB_t hcb
      rw [xN_N hj]
      exact b_firstCut_ok g b0 sa qa da ka o ca pa ha na ta ua k n B T qb s f j hc hs hf hb hj1 hj2

set_option maxHeartbeats 4000000 in
set_option maxRecDepth 100000 in
theorem b_follow_ok (g : G5) (b0 : Nat) (sa : Nat) (qa : Nat) (da : Nat) (ka : Nat) (o : Nat) (ca : Nat) (pa : Nat) (ha : Nat) (na : Nat) (ta : Nat) (ua : Nat) (k : Nat) (n : Nat) (B : Nat) (T : Nat) (b : Nat) (m : Nat) (hc : shp k n B T) (hb : b < B) (hm : m ≤ 300) : PuI yX11_follow cX11_follow 5 (some .int) 3 69 g [.ref b0, .int (nI b), .int (nI m)] [(b0, .inr (10, [.ref sa, .ref qa, .ref da, .ref ka, .ref o, .ref ca, .ref pa, .ref ha, .ref na, .ref ta, .ref ua])), (sa, .inr (6, [.int (nI k), .int (nI n), .int (nI B), .int (nI T)]))] (nI (folL k T n m b)) := by
  refine PuI.of (by decide +kernel) (Nat.le_of_ble_eq_true rfl) ?_
  intro p_ l_ e_ S_ m_ args below meth co X hr hlk hP hK ls hl
  have X : CallFix p_ m_ co cX11_follow 5 S_ args lw_all RX11 := X
  have hl : lv_has ls 5 [(0, .ref b0), (1, .int (nI b)), (2, .int (nI m))] := hl
  obtain ⟨hk2, hk4, hn1, hn6, hB, hT, hBT, hT2⟩ := hc.f
  have hB0 : 0 < B := by rw [hBT]; exact Nat.mul_pos (by omega) (by omega)
  refine lv_aload_n X.1 X.2.1 dX11_follow_0 rfl (lv_at hl 0 rfl) ?_
  refine va_get (D := g.1) (ci := 10) (v := .ref sa) (C := RX11) (T := TX11) (N := 11) X.1 X.2.1 X.2.2.2.2 iwX11 X.2.2.2.1 hK hP 0 rfl rfl 0 (by decide) (X.2.2.2.2 _ q236) (fun _ h9 => h9) rfl dX11_follow_1 ?_
  refine lv_iload_n X.1 X.2.1 dX11_follow_4 rfl (lv_at hl 1 rfl) ?_
  refine (c_isBlock g sa k n B T (nI b) (by assumption)).callV (rest := []) X dX11_follow_5 q675 tX6_isBlock hK (hP.sub [1] rfl) 0 6 rfl rfl rfl hl ⟨⟨Nat.le_of_ble_eq_true rfl, Nat.le_of_ble_eq_true rfl⟩, Nat.le_of_ble_eq_true rfl, Nat.le_of_ble_eq_true rfl⟩ rfl rfl (Nat.le_of_ble_eq_true rfl) ?_
  have h9 : hasB (nI b) B = true := by rw [hasB_N (by omega)]; exact decide_eq_true hb
  refine b_if_eq (tgt := 22) X dX11_follow_8 (by decide) (fun c8 => ?_) (fun c8 => ?_)
  · exfalso; rw [h9] at c8; cases c8
  · refine lv_iload_n X.1 X.2.1 dX11_follow_11 rfl (lv_at hl 2 rfl) ?_
    refine z_if_lt (tgt := 22) X dX11_follow_12 (by decide) (nI_toInt (by omega)) (fun c12 => ?_) (fun c12 => ?_)
    · exfalso; omega
    · refine lv_iload_n X.1 X.2.1 dX11_follow_15 rfl (lv_at hl 2 rfl) ?_
      refine lv_sipush (v := (nI 300)) X.1 X.2.1 dX11_follow_16 (by decide) ?_
      refine z_icmp_le (tgt := 24) X dX11_follow_19 (by decide) (nI_toInt (by omega)) (nI_toInt (by omega)) (fun c19 => ?_) (fun c19 => ?_)
      · refine lv_iload_n X.1 X.2.1 dX11_follow_24 rfl (lv_at hl 1 rfl) ?_
        refine lv_istore_n (lv' := [(3, .int (nI b)), (0, .ref b0), (1, .int (nI b)), (2, .int (nI m))]) X.1 X.2.1 dX11_follow_25 rfl hl (by decide) rfl (fun ls hl => ?_)
        refine lv_iconst (v := (nI 0)) X.1 X.2.1 dX11_follow_26 (by decide) ?_
        refine lv_istore (lv' := [(4, .int (nI 0)), (3, .int (nI b)), (0, .ref b0), (1, .int (nI b)), (2, .int (nI m))]) X.1 X.2.1 dX11_follow_27 hl (by decide) rfl (fun ls hl => ?_)
        have L29 : ∀ (r : Nat) (t : Nat) (i : Nat) (h1 : i + r = m) (ht : t < B) (hq : folL k T n r t = folL k T n m b) (ls : Array Slot) (hl : lv_has ls 5 [(4, .int (nI i)), (3, .int (nI t)), (0, .ref b0), (1, .int (nI b)), (2, .int (nI m))]), W p_ l_ e_ { frames := 3, cells := 0, slots := 0, locals := 69 } S_ m_ args below meth co S_.heap [] 0 0 (MQ below (vp_Si (fun r => r = (nI (folL k T n m b)))) args S_ 0 0 (fun _ => False)) (F0 m_ 29 ls []) := by
          intro r
          induction r with
          | zero =>
            intro t i h1 ht hq ls hl
            refine lv_iload X.1 X.2.1 dX11_follow_29 (lv_at hl 0 rfl) ?_
            refine lv_iload_n X.1 X.2.1 dX11_follow_31 rfl (lv_at hl 4 rfl) ?_
            refine z_icmp_ge (tgt := 58) X dX11_follow_32 (by decide) (nI_toInt (by omega)) (nI_toInt (by omega)) (fun c32 => ?_) (fun c32 => ?_)
            · refine lv_iload_n X.1 X.2.1 dX11_follow_58 rfl (lv_at hl 1 rfl) ?_
              exact PuI.ret X hr hlk dX11_follow_59 (nI_nar _) (by rw [← hq]; rfl)
            · exfalso; omega
          | succ r ih29 =>
            intro t i h1 ht hq ls hl
            refine lv_iload X.1 X.2.1 dX11_follow_29 (lv_at hl 0 rfl) ?_
            refine lv_iload_n X.1 X.2.1 dX11_follow_31 rfl (lv_at hl 4 rfl) ?_
            refine z_icmp_ge (tgt := 58) X dX11_follow_32 (by decide) (nI_toInt (by omega)) (nI_toInt (by omega)) (fun c32 => ?_) (fun c32 => ?_)
            · exfalso; omega
            · refine lv_aload_n X.1 X.2.1 dX11_follow_35 rfl (lv_at hl 2 rfl) ?_
              refine va_get (D := g.1) (ci := 10) (v := .ref sa) (C := RX11) (T := TX11) (N := 11) X.1 X.2.1 X.2.2.2.2 iwX11 X.2.2.2.1 hK hP 0 rfl rfl 0 (by decide) (X.2.2.2.2 _ q236) (fun _ h9 => h9) rfl dX11_follow_36 ?_
              refine lv_iload_n X.1 X.2.1 dX11_follow_39 rfl (lv_at hl 1 rfl) ?_
              refine lv_aload_n X.1 X.2.1 dX11_follow_40 rfl (lv_at hl 2 rfl) ?_
              refine va_get (D := g.1) (ci := 10) (v := .ref sa) (C := RX11) (T := TX11) (N := 11) X.1 X.2.1 X.2.2.2.2 iwX11 X.2.2.2.1 hK hP 0 rfl rfl 0 (by decide) (X.2.2.2.2 _ q236) (fun _ h9 => h9) rfl dX11_follow_41 ?_
              refine lv_iload_n X.1 X.2.1 dX11_follow_44 rfl (lv_at hl 1 rfl) ?_
              refine (c_succ g sa k n B T t (by assumption) (by omega)).callV (rest := [.int (nI t), .ref sa]) X dX11_follow_45 q751 tX6_successor hK (hP.sub [1] rfl) 0 6 rfl rfl rfl hl ⟨⟨Nat.le_of_ble_eq_true rfl, Nat.le_of_ble_eq_true rfl⟩, Nat.le_of_ble_eq_true rfl, Nat.le_of_ble_eq_true rfl⟩ rfl rfl (Nat.le_of_ble_eq_true rfl) ?_
              have hF := suc_lt hc ht
              have hF2 := suc_ended hc (md_lt hc t) hF
              refine (c_moved g sa k n B T t (sucN k T n t) (by assumption) (by omega)).callV (rest := []) X dX11_follow_48 q756 tX6_moved hK (hP.sub [1] rfl) 0 6 rfl rfl rfl hl ⟨⟨Nat.le_of_ble_eq_true rfl, Nat.le_of_ble_eq_true rfl⟩, Nat.le_of_ble_eq_true rfl, Nat.le_of_ble_eq_true rfl⟩ rfl rfl (Nat.le_of_ble_eq_true rfl) ?_
              refine lv_istore_n (lv' := [(3, .int (nI (t % T * k + (sucN k T n t)))), (4, .int (nI i)), (0, .ref b0), (1, .int (nI b)), (2, .int (nI m))]) X.1 X.2.1 dX11_follow_51 rfl hl (by decide) rfl (fun ls hl => ?_)
              refine lv_iinc (v := (nI (i + 1))) (lv' := [(4, .int (nI (i + 1))), (3, .int (nI (t % T * k + (sucN k T n t)))), (0, .ref b0), (1, .int (nI b)), (2, .int (nI m))]) X.1 X.2.1 dX11_follow_52 hl (k := 1) rfl (nI_inc _) (by decide) rfl (fun ls hl => ?_)
              refine lv_goto (tgt := 29) X.1 X.2.1 dX11_follow_55 (by decide) ?_
              exact ih29 (t % T * k + (sucN k T n t)) (i + 1) (by omega) (hF2) (by rw [folL] at hq; exact hq) ls (lv_sub hl [0, 1, 2, 3, 4] rfl)
        exact L29 m b 0 (by omega) (by omega) (rfl) ls (lv_sub hl [0, 1, 2, 3, 4] rfl)
      · exfalso; omega

set_option maxHeartbeats 4000000 in
set_option maxRecDepth 100000 in
theorem b_follow_no (g : G5) (b0 : Nat) (sa : Nat) (qa : Nat) (da : Nat) (ka : Nat) (o : Nat) (ca : Nat) (pa : Nat) (ha : Nat) (na : Nat) (ta : Nat) (ua : Nat) (k : Nat) (n : Nat) (B : Nat) (T : Nat) (x : Int32) (y : Int32) (hc : shp k n B T) (hno : (hasB x B && hasB y 301) = false) : PuI yX11_follow cX11_follow 5 (some .int) 3 69 g [.ref b0, .int x, .int y] [(b0, .inr (10, [.ref sa, .ref qa, .ref da, .ref ka, .ref o, .ref ca, .ref pa, .ref ha, .ref na, .ref ta, .ref ua])), (sa, .inr (6, [.int (nI k), .int (nI n), .int (nI B), .int (nI T)]))] (-1) := by
  refine PuI.of (by decide +kernel) (Nat.le_of_ble_eq_true rfl) ?_
  intro p_ l_ e_ S_ m_ args below meth co X hr hlk hP hK ls hl
  have X : CallFix p_ m_ co cX11_follow 5 S_ args lw_all RX11 := X
  have hl : lv_has ls 5 [(0, .ref b0), (1, .int x), (2, .int y)] := hl
  obtain ⟨hk2, hk4, hn1, hn6, hB, hT, hBT, hT2⟩ := hc.f
  have hB0 : 0 < B := by rw [hBT]; exact Nat.mul_pos (by omega) (by omega)
  refine lv_aload_n X.1 X.2.1 dX11_follow_0 rfl (lv_at hl 0 rfl) ?_
  refine va_get (D := g.1) (ci := 10) (v := .ref sa) (C := RX11) (T := TX11) (N := 11) X.1 X.2.1 X.2.2.2.2 iwX11 X.2.2.2.1 hK hP 0 rfl rfl 0 (by decide) (X.2.2.2.2 _ q236) (fun _ h9 => h9) rfl dX11_follow_1 ?_
  refine lv_iload_n X.1 X.2.1 dX11_follow_4 rfl (lv_at hl 1 rfl) ?_
  refine (c_isBlock g sa k n B T x (by assumption)).callV (rest := []) X dX11_follow_5 q675 tX6_isBlock hK (hP.sub [1] rfl) 0 6 rfl rfl rfl hl ⟨⟨Nat.le_of_ble_eq_true rfl, Nat.le_of_ble_eq_true rfl⟩, Nat.le_of_ble_eq_true rfl, Nat.le_of_ble_eq_true rfl⟩ rfl rfl (Nat.le_of_ble_eq_true rfl) ?_
  refine b_if_eq (tgt := 22) X dX11_follow_8 (by decide) (fun c8 => ?_) (fun c8 => ?_)
  · refine lv_iconst (v := (-1)) X.1 X.2.1 dX11_follow_22 (by decide) ?_
    exact PuI.ret X hr hlk dX11_follow_23 (nI_nar _) (rfl)
  · rw [c8, Bool.true_and] at hno
    unfold hasB at hno
    have hno2 := of_decide_eq_false hno
    refine lv_iload_n X.1 X.2.1 dX11_follow_11 rfl (lv_at hl 2 rfl) ?_
    refine z_if_lt (tgt := 22) X dX11_follow_12 (by decide) rfl (fun c12 => ?_) (fun c12 => ?_)
    · refine lv_iconst (v := (-1)) X.1 X.2.1 dX11_follow_22 (by decide) ?_
      exact PuI.ret X hr hlk dX11_follow_23 (nI_nar _) (rfl)
    · refine lv_iload_n X.1 X.2.1 dX11_follow_15 rfl (lv_at hl 2 rfl) ?_
      refine lv_sipush (v := (nI 300)) X.1 X.2.1 dX11_follow_16 (by decide) ?_
      refine z_icmp_le (tgt := 24) X dX11_follow_19 (by decide) rfl (nI_toInt (by omega)) (fun c19 => ?_) (fun c19 => ?_)
      · exfalso; omega
      · refine lv_iconst (v := (-1)) X.1 X.2.1 dX11_follow_22 (by decide) ?_
        exact PuI.ret X hr hlk dX11_follow_23 (nI_nar _) (rfl)

theorem b_follow (g : G5) (b0 : Nat) (sa : Nat) (qa : Nat) (da : Nat) (ka : Nat) (o : Nat) (ca : Nat) (pa : Nat) (ha : Nat) (na : Nat) (ta : Nat) (ua : Nat) (k : Nat) (n : Nat) (B : Nat) (T : Nat) (x : Int32) (y : Int32) (hc : shp k n B T) : PuI yX11_follow cX11_follow 5 (some .int) 3 69 g [.ref b0, .int x, .int y] [(b0, .inr (10, [.ref sa, .ref qa, .ref da, .ref ka, .ref o, .ref ca, .ref pa, .ref ha, .ref na, .ref ta, .ref ua])), (sa, .inr (6, [.int (nI k), .int (nI n), .int (nI B), .int (nI T)]))] (a_follow k n B T x y) := by
  unfold a_follow
  cases hcb : (hasB x B && hasB y 301) with
  | false => exact b_follow_no g b0 sa qa da ka o ca pa ha na ta ua k n B T x y hc hcb
  | true =>
    obtain ⟨h1, h2⟩ := Bool.and_eq_true_iff.mp hcb
    have hB2 := hc.f
    obtain ⟨b, hb, rfl⟩ := hasB_t h1
    obtain ⟨m, hm, rfl⟩ := hasB_t h2
    rw [xN_N (by omega), xN_N (by omega)]
    exact b_follow_ok g b0 sa qa da ka o ca pa ha na ta ua k n B T b m hc hb (by omega)
