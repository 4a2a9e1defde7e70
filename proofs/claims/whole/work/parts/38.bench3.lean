set_option maxHeartbeats 4000000 in
set_option maxRecDepth 100000 in
theorem b_differentBlocks (g : G5) (b0 : Nat) (sa : Nat) (qa : Nat) (da : Nat) (ka : Nat) (o : Nat) (ca : Nat) (pa : Nat) (ha : Nat) (na : Nat) (ta : Nat) (ua : Nat) (km : Nat) (kb : Nat) (q : Nat → Bool) (k : Nat) (n : Nat) (B : Nat) (T : Nat) (qb : Nat) (s : List Nat) (f : Nat → Int32) (hc : shp k n B T) (hs : s.length ≤ 256) (hf : rep f s) (hlt : ltk k s) : MuI (S := Unit) yX11_differentBlocks cX11_differentBlocks 1 (some .int) 5 114 g [.ref b0] [(b0, .inr (10, [.ref sa, .ref qa, .ref da, .ref ka, .ref o, .ref ca, .ref pa, .ref ha, .ref na, .ref ta, .ref ua])), (ka, .inr (0, [.ref km])), (km, .inr (4, [.ref kb])), (kb, .inl (g.2.2.1, 256, .inl (mf q))), (sa, .inr (6, [.int (nI k), .int (nI n), .int (nI B), .int (nI T)])), (qa, .inr (9, [.ref qb, .int (nI s.length)])), (qb, .inl (g.2.1, 256, .inl f))] (fun r (_ : Unit) => r = (nI (cntL (occ k n s) B 0 0)) ∧ True) (fun _ => [(b0, .inr (10, [.ref sa, .ref qa, .ref da, .ref ka, .ref o, .ref ca, .ref pa, .ref ha, .ref na, .ref ta, .ref ua])), (ka, .inr (0, [.ref km])), (km, .inr (4, [.ref kb])), (kb, .inl (g.2.2.1, 256, .inl (mf (occ k n s)))), (sa, .inr (6, [.int (nI k), .int (nI n), .int (nI B), .int (nI T)])), (qa, .inr (9, [.ref qb, .int (nI s.length)])), (qb, .inl (g.2.1, 256, .inl f))]) := by
  refine MuI.of (by decide +kernel) (Nat.le_of_ble_eq_true rfl) ?_
  intro p_ l_ e_ S_ m_ args below meth co X hr hlk hP hK A hA hD hS ls hl
  have X : CallFix p_ m_ co cX11_differentBlocks 1 S_ args lw_all RX11 := X
  have hl : lv_has ls 1 [(0, .ref b0)] := hl
  refine lv_aload_n X.1 X.2.1 dX11_differentBlocks_0 rfl (lv_at hl 0 rfl) ?_
  refine va_get (D := g.1) (ci := 10) (v := .ref ka) (C := RX11) (T := TX11) (N := 11) X.1 X.2.1 X.2.2.2.2 iwX11 X.2.2.2.1 hK hP 0 rfl rfl 3 (by decide) (X.2.2.2.2 _ q239) (fun _ h9 => h9) rfl dX11_differentBlocks_1 ?_
  refine lv_aload_n X.1 X.2.1 dX11_differentBlocks_4 rfl (lv_at hl 0 rfl) ?_
  refine va_get (D := g.1) (ci := 10) (v := .ref sa) (C := RX11) (T := TX11) (N := 11) X.1 X.2.1 X.2.2.2.2 iwX11 X.2.2.2.1 hK hP 0 rfl rfl 0 (by decide) (X.2.2.2.2 _ q236) (fun _ h9 => h9) rfl dX11_differentBlocks_5 ?_
  refine lv_aload_n X.1 X.2.1 dX11_differentBlocks_8 rfl (lv_at hl 0 rfl) ?_
  refine va_get (D := g.1) (ci := 10) (v := .ref qa) (C := RX11) (T := TX11) (N := 11) X.1 X.2.1 X.2.2.2.2 iwX11 X.2.2.2.1 hK hP 0 rfl rfl 1 (by decide) (X.2.2.2.2 _ q237) (fun _ h9 => h9) rfl dX11_differentBlocks_9 ?_
  refine (c_bl_diff g ka km kb q sa k n B T qa qb s f (by assumption) (by omega) (by assumption) (by assumption)).callV (rest := []) (wr := [(b0, .inr (10, [.ref sa, .ref qa, .ref da, .ref ka, .ref o, .ref ca, .ref pa, .ref ha, .ref na, .ref ta, .ref ua]))]) X dX11_differentBlocks_12 q715 tX0_differentTotal hK hP hD hS hA [1, 2, 3, 4, 5, 6] [0] (by decide) rfl rfl (by decide) (by decide) 0 0 rfl rfl rfl hl ⟨⟨Nat.le_of_ble_eq_true rfl, Nat.le_of_ble_eq_true rfl⟩, Nat.le_of_ble_eq_true rfl, Nat.le_of_ble_eq_true rfl⟩ rfl rfl (Nat.le_of_ble_eq_true rfl) (fun r12 u12 H locs hw12 hP hD hS => ?_)
  have hP : PP g [(b0, .inr (10, [.ref sa, .ref qa, .ref da, .ref ka, .ref o, .ref ca, .ref pa, .ref ha, .ref na, .ref ta, .ref ua])), (ka, .inr (0, [.ref km])), (km, .inr (4, [.ref kb])), (kb, .inl (g.2.2.1, 256, .inl (mf (occ k n s)))), (sa, .inr (6, [.int (nI k), .int (nI n), .int (nI B), .int (nI T)])), (qa, .inr (9, [.ref qb, .int (nI s.length)])), (qb, .inl (g.2.1, 256, .inl f))] H := hP
  have hD : va_D A [(b0, .inr (10, [.ref sa, .ref qa, .ref da, .ref ka, .ref o, .ref ca, .ref pa, .ref ha, .ref na, .ref ta, .ref ua])), (ka, .inr (0, [.ref km])), (km, .inr (4, [.ref kb])), (kb, .inl (g.2.2.1, 256, .inl (mf (occ k n s)))), (sa, .inr (6, [.int (nI k), .int (nI n), .int (nI B), .int (nI T)])), (qa, .inr (9, [.ref qb, .int (nI s.length)])), (qb, .inl (g.2.1, 256, .inl f))] := hD
  try dsimp only at hw12
  refine tp_i (y := (nI (cntL (occ k n s) B 0 0))) (hw12) ?_
  exact MuI.ret X hr hlk hK hS dX11_differentBlocks_15 (nI_nar _) () (hP.sub [0, 1, 2, 3, 4, 5, 6] rfl) (hD.sub [0, 1, 2, 3, 4, 5, 6] (by decide) rfl) (⟨rfl, trivial⟩)

set_option maxHeartbeats 4000000 in
set_option maxRecDepth 100000 in
theorem b_missingBlock (g : G5) (b0 : Nat) (sa : Nat) (qa : Nat) (da : Nat) (ka : Nat) (o : Nat) (ca : Nat) (pa : Nat) (ha : Nat) (na : Nat) (ta : Nat) (ua : Nat) (km : Nat) (kb : Nat) (q : Nat → Bool) (k : Nat) (n : Nat) (B : Nat) (T : Nat) (qb : Nat) (s : List Nat) (f : Nat → Int32) (x : Int32) (hc : shp k n B T) (hs : s.length ≤ 256) (hf : rep f s) (hlt : ltk k s) : MuI (S := Unit) yX11_missingBlock cX11_missingBlock 2 (some .int) 5 115 g [.ref b0, .int x] [(b0, .inr (10, [.ref sa, .ref qa, .ref da, .ref ka, .ref o, .ref ca, .ref pa, .ref ha, .ref na, .ref ta, .ref ua])), (ka, .inr (0, [.ref km])), (km, .inr (4, [.ref kb])), (kb, .inl (g.2.2.1, 256, .inl (mf q))), (sa, .inr (6, [.int (nI k), .int (nI n), .int (nI B), .int (nI T)])), (qa, .inr (9, [.ref qb, .int (nI s.length)])), (qb, .inl (g.2.1, 256, .inl f))] (fun r (_ : Unit) => r = (nthL (fun b => !(occ k n s b)) x.toInt B 0 0) ∧ True) (fun _ => [(b0, .inr (10, [.ref sa, .ref qa, .ref da, .ref ka, .ref o, .ref ca, .ref pa, .ref ha, .ref na, .ref ta, .ref ua])), (ka, .inr (0, [.ref km])), (km, .inr (4, [.ref kb])), (kb, .inl (g.2.2.1, 256, .inl (mf (occ k n s)))), (sa, .inr (6, [.int (nI k), .int (nI n), .int (nI B), .int (nI T)])), (qa, .inr (9, [.ref qb, .int (nI s.length)])), (qb, .inl (g.2.1, 256, .inl f))]) := by
  refine MuI.of (by decide +kernel) (Nat.le_of_ble_eq_true rfl) ?_
  intro p_ l_ e_ S_ m_ args below meth co X hr hlk hP hK A hA hD hS ls hl
  have X : CallFix p_ m_ co cX11_missingBlock 2 S_ args lw_all RX11 := X
  have hl : lv_has ls 2 [(0, .ref b0), (1, .int x)] := hl
  refine lv_aload_n X.1 X.2.1 dX11_missingBlock_0 rfl (lv_at hl 0 rfl) ?_
  refine va_get (D := g.1) (ci := 10) (v := .ref ka) (C := RX11) (T := TX11) (N := 11) X.1 X.2.1 X.2.2.2.2 iwX11 X.2.2.2.1 hK hP 0 rfl rfl 3 (by decide) (X.2.2.2.2 _ q239) (fun _ h9 => h9) rfl dX11_missingBlock_1 ?_
  refine lv_aload_n X.1 X.2.1 dX11_missingBlock_4 rfl (lv_at hl 0 rfl) ?_
  refine va_get (D := g.1) (ci := 10) (v := .ref sa) (C := RX11) (T := TX11) (N := 11) X.1 X.2.1 X.2.2.2.2 iwX11 X.2.2.2.1 hK hP 0 rfl rfl 0 (by decide) (X.2.2.2.2 _ q236) (fun _ h9 => h9) rfl dX11_missingBlock_5 ?_
  refine lv_aload_n X.1 X.2.1 dX11_missingBlock_8 rfl (lv_at hl 0 rfl) ?_
  refine va_get (D := g.1) (ci := 10) (v := .ref qa) (C := RX11) (T := TX11) (N := 11) X.1 X.2.1 X.2.2.2.2 iwX11 X.2.2.2.1 hK hP 0 rfl rfl 1 (by decide) (X.2.2.2.2 _ q237) (fun _ h9 => h9) rfl dX11_missingBlock_9 ?_
  refine lv_iload_n X.1 X.2.1 dX11_missingBlock_12 rfl (lv_at hl 1 rfl) ?_
  refine (c_bl_miss g ka km kb q sa k n B T qa qb s f x (by assumption) (by omega) (by assumption) (by assumption)).callV (rest := []) (wr := [(b0, .inr (10, [.ref sa, .ref qa, .ref da, .ref ka, .ref o, .ref ca, .ref pa, .ref ha, .ref na, .ref ta, .ref ua]))]) X dX11_missingBlock_13 q731 tX0_missing hK hP hD hS hA [1, 2, 3, 4, 5, 6] [0] (by decide) rfl rfl (by decide) (by decide) 0 0 rfl rfl rfl hl ⟨⟨Nat.le_of_ble_eq_true rfl, Nat.le_of_ble_eq_true rfl⟩, Nat.le_of_ble_eq_true rfl, Nat.le_of_ble_eq_true rfl⟩ rfl rfl (Nat.le_of_ble_eq_true rfl) (fun r13 u13 H locs hw13 hP hD hS => ?_)
  have hP : PP g [(b0, .inr (10, [.ref sa, .ref qa, .ref da, .ref ka, .ref o, .ref ca, .ref pa, .ref ha, .ref na, .ref ta, .ref ua])), (ka, .inr (0, [.ref km])), (km, .inr (4, [.ref kb])), (kb, .inl (g.2.2.1, 256, .inl (mf (occ k n s)))), (sa, .inr (6, [.int (nI k), .int (nI n), .int (nI B), .int (nI T)])), (qa, .inr (9, [.ref qb, .int (nI s.length)])), (qb, .inl (g.2.1, 256, .inl f))] H := hP
  have hD : va_D A [(b0, .inr (10, [.ref sa, .ref qa, .ref da, .ref ka, .ref o, .ref ca, .ref pa, .ref ha, .ref na, .ref ta, .ref ua])), (ka, .inr (0, [.ref km])), (km, .inr (4, [.ref kb])), (kb, .inl (g.2.2.1, 256, .inl (mf (occ k n s)))), (sa, .inr (6, [.int (nI k), .int (nI n), .int (nI B), .int (nI T)])), (qa, .inr (9, [.ref qb, .int (nI s.length)])), (qb, .inl (g.2.1, 256, .inl f))] := hD
  try dsimp only at hw13
  refine tp_i (y := (nthL (fun b => !(occ k n s b)) x.toInt B 0 0)) (hw13) ?_
  exact MuI.ret X hr hlk hK hS dX11_missingBlock_16 (nI_nar _) () (hP.sub [0, 1, 2, 3, 4, 5, 6] rfl) (hD.sub [0, 1, 2, 3, 4, 5, 6] (by decide) rfl) (⟨rfl, trivial⟩)

set_option maxHeartbeats 4000000 in
set_option maxRecDepth 100000 in
theorem b_firstRepeat (g : G5) (b0 : Nat) (sa : Nat) (qa : Nat) (da : Nat) (ka : Nat) (o : Nat) (ca : Nat) (pa : Nat) (ha : Nat) (na : Nat) (ta : Nat) (ua : Nat) (km : Nat) (kb : Nat) (q : Nat → Bool) (k : Nat) (n : Nat) (B : Nat) (T : Nat) (qb : Nat) (s : List Nat) (f : Nat → Int32) (hc : shp k n B T) (hs : s.length ≤ 256) (hf : rep f s) (hlt : ltk k s) : MuI (S := (Nat → Bool)) yX11_firstRepeat cX11_firstRepeat 1 (some .int) 4 91 g [.ref b0] [(b0, .inr (10, [.ref sa, .ref qa, .ref da, .ref ka, .ref o, .ref ca, .ref pa, .ref ha, .ref na, .ref ta, .ref ua])), (ka, .inr (0, [.ref km])), (km, .inr (4, [.ref kb])), (kb, .inl (g.2.2.1, 256, .inl (mf q))), (sa, .inr (6, [.int (nI k), .int (nI n), .int (nI B), .int (nI T)])), (qa, .inr (9, [.ref qb, .int (nI s.length)])), (qb, .inl (g.2.1, 256, .inl f))] (fun r q1 => r = (oI (rpL (codeN k n s) s.length 0 qz)) ∧ True) (fun q1 => [(b0, .inr (10, [.ref sa, .ref qa, .ref da, .ref ka, .ref o, .ref ca, .ref pa, .ref ha, .ref na, .ref ta, .ref ua])), (ka, .inr (0, [.ref km])), (km, .inr (4, [.ref kb])), (kb, .inl (g.2.2.1, 256, .inl (mf q1))), (sa, .inr (6, [.int (nI k), .int (nI n), .int (nI B), .int (nI T)])), (qa, .inr (9, [.ref qb, .int (nI s.length)])), (qb, .inl (g.2.1, 256, .inl f))]) := by
  refine MuI.of (by decide +kernel) (Nat.le_of_ble_eq_true rfl) ?_
  intro p_ l_ e_ S_ m_ args below meth co X hr hlk hP hK A hA hD hS ls hl
  have X : CallFix p_ m_ co cX11_firstRepeat 1 S_ args lw_all RX11 := X
  have hl : lv_has ls 1 [(0, .ref b0)] := hl
  refine lv_aload_n X.1 X.2.1 dX11_firstRepeat_0 rfl (lv_at hl 0 rfl) ?_
  refine va_get (D := g.1) (ci := 10) (v := .ref ka) (C := RX11) (T := TX11) (N := 11) X.1 X.2.1 X.2.2.2.2 iwX11 X.2.2.2.1 hK hP 0 rfl rfl 3 (by decide) (X.2.2.2.2 _ q239) (fun _ h9 => h9) rfl dX11_firstRepeat_1 ?_
  refine lv_aload_n X.1 X.2.1 dX11_firstRepeat_4 rfl (lv_at hl 0 rfl) ?_
  refine va_get (D := g.1) (ci := 10) (v := .ref sa) (C := RX11) (T := TX11) (N := 11) X.1 X.2.1 X.2.2.2.2 iwX11 X.2.2.2.1 hK hP 0 rfl rfl 0 (by decide) (X.2.2.2.2 _ q236) (fun _ h9 => h9) rfl dX11_firstRepeat_5 ?_
  refine lv_aload_n X.1 X.2.1 dX11_firstRepeat_8 rfl (lv_at hl 0 rfl) ?_
  refine va_get (D := g.1) (ci := 10) (v := .ref qa) (C := RX11) (T := TX11) (N := 11) X.1 X.2.1 X.2.2.2.2 iwX11 X.2.2.2.1 hK hP 0 rfl rfl 1 (by decide) (X.2.2.2.2 _ q237) (fun _ h9 => h9) rfl dX11_firstRepeat_9 ?_
  refine (c_bl_rep g ka km kb q sa k n B T qa qb s f (by assumption) (by omega) (by assumption) (by assumption)).callV (rest := []) (wr := [(b0, .inr (10, [.ref sa, .ref qa, .ref da, .ref ka, .ref o, .ref ca, .ref pa, .ref ha, .ref na, .ref ta, .ref ua]))]) X dX11_firstRepeat_12 q739 tX0_repeatPlace hK hP hD hS hA [1, 2, 3, 4, 5, 6] [0] (by decide) rfl rfl (by decide) (by decide) 0 0 rfl rfl rfl hl ⟨⟨Nat.le_of_ble_eq_true rfl, Nat.le_of_ble_eq_true rfl⟩, Nat.le_of_ble_eq_true rfl, Nat.le_of_ble_eq_true rfl⟩ rfl rfl (Nat.le_of_ble_eq_true rfl) (fun r12 u12 H locs hw12 hP hD hS => ?_)
  obtain ⟨q1_12, rfl⟩ : ∃ z, z = u12 := ⟨_, rfl⟩
  have hP : PP g [(b0, .inr (10, [.ref sa, .ref qa, .ref da, .ref ka, .ref o, .ref ca, .ref pa, .ref ha, .ref na, .ref ta, .ref ua])), (ka, .inr (0, [.ref km])), (km, .inr (4, [.ref kb])), (kb, .inl (g.2.2.1, 256, .inl (mf q1_12))), (sa, .inr (6, [.int (nI k), .int (nI n), .int (nI B), .int (nI T)])), (qa, .inr (9, [.ref qb, .int (nI s.length)])), (qb, .inl (g.2.1, 256, .inl f))] H := hP
  have hD : va_D A [(b0, .inr (10, [.ref sa, .ref qa, .ref da, .ref ka, .ref o, .ref ca, .ref pa, .ref ha, .ref na, .ref ta, .ref ua])), (ka, .inr (0, [.ref km])), (km, .inr (4, [.ref kb])), (kb, .inl (g.2.2.1, 256, .inl (mf q1_12))), (sa, .inr (6, [.int (nI k), .int (nI n), .int (nI B), .int (nI T)])), (qa, .inr (9, [.ref qb, .int (nI s.length)])), (qb, .inl (g.2.1, 256, .inl f))] := hD
  try dsimp only at hw12
  refine tp_i (y := (oI (rpL (codeN k n s) s.length 0 qz))) (hw12) ?_
  exact MuI.ret X hr hlk hK hS dX11_firstRepeat_15 (nI_nar _) q1_12 (hP.sub [0, 1, 2, 3, 4, 5, 6] rfl) (hD.sub [0, 1, 2, 3, 4, 5, 6] (by decide) rfl) (⟨rfl, trivial⟩)

set_option maxHeartbeats 4000000 in
set_option maxRecDepth 100000 in
theorem b_isDeBruijn (g : G5) (b0 : Nat) (sa : Nat) (qa : Nat) (da : Nat) (ka : Nat) (o : Nat) (ca : Nat) (pa : Nat) (ha : Nat) (na : Nat) (ta : Nat) (ua : Nat) (km : Nat) (kb : Nat) (q : Nat → Bool) (k : Nat) (n : Nat) (B : Nat) (T : Nat) (qb : Nat) (s : List Nat) (f : Nat → Int32) (hc : shp k n B T) (hs : s.length ≤ 256) (hf : rep f s) (hlt : ltk k s) : MuI (S := (Nat → Bool)) yX11_isDeBruijn cX11_isDeBruijn 2 (some .int) 5 114 g [.ref b0] [(b0, .inr (10, [.ref sa, .ref qa, .ref da, .ref ka, .ref o, .ref ca, .ref pa, .ref ha, .ref na, .ref ta, .ref ua])), (ka, .inr (0, [.ref km])), (km, .inr (4, [.ref kb])), (kb, .inl (g.2.2.1, 256, .inl (mf q))), (sa, .inr (6, [.int (nI k), .int (nI n), .int (nI B), .int (nI T)])), (qa, .inr (9, [.ref qb, .int (nI s.length)])), (qb, .inl (g.2.1, 256, .inl f))] (fun r q1 => r = (nI (if s.length = B ∧ cntL (occ k n s) B 0 0 = B then 1 else 0)) ∧ True) (fun q1 => [(b0, .inr (10, [.ref sa, .ref qa, .ref da, .ref ka, .ref o, .ref ca, .ref pa, .ref ha, .ref na, .ref ta, .ref ua])), (ka, .inr (0, [.ref km])), (km, .inr (4, [.ref kb])), (kb, .inl (g.2.2.1, 256, .inl (mf q1))), (sa, .inr (6, [.int (nI k), .int (nI n), .int (nI B), .int (nI T)])), (qa, .inr (9, [.ref qb, .int (nI s.length)])), (qb, .inl (g.2.1, 256, .inl f))]) := by
  refine MuI.of (by decide +kernel) (Nat.le_of_ble_eq_true rfl) ?_
  intro p_ l_ e_ S_ m_ args below meth co X hr hlk hP hK A hA hD hS ls hl
  have X : CallFix p_ m_ co cX11_isDeBruijn 2 S_ args lw_all RX11 := X
  have hl : lv_has ls 2 [(0, .ref b0)] := hl
  obtain ⟨hk2, hk4, hn1, hn6, hB, hT, hBT, hT2⟩ := hc.f
  have hB0 : 0 < B := by rw [hBT]; exact Nat.mul_pos (by omega) (by omega)
  have hcn := cntL_le (occ k n s) B 0 0
  refine lv_aload_n X.1 X.2.1 dX11_isDeBruijn_0 rfl (lv_at hl 0 rfl) ?_
  refine va_get (D := g.1) (ci := 10) (v := .ref sa) (C := RX11) (T := TX11) (N := 11) X.1 X.2.1 X.2.2.2.2 iwX11 X.2.2.2.1 hK hP 0 rfl rfl 0 (by decide) (X.2.2.2.2 _ q236) (fun _ h9 => h9) rfl dX11_isDeBruijn_1 ?_
  refine (c_sh_B g sa k n B T).callV (rest := []) X dX11_isDeBruijn_4 q300 tX6_blockTotal hK (hP.sub [4] rfl) 0 6 rfl rfl rfl hl ⟨⟨Nat.le_of_ble_eq_true rfl, Nat.le_of_ble_eq_true rfl⟩, Nat.le_of_ble_eq_true rfl, Nat.le_of_ble_eq_true rfl⟩ rfl rfl (Nat.le_of_ble_eq_true rfl) ?_
  refine lv_istore_n (lv' := [(1, .int (nI B)), (0, .ref b0)]) X.1 X.2.1 dX11_isDeBruijn_7 rfl hl (by decide) rfl (fun ls hl => ?_)
  refine lv_aload_n X.1 X.2.1 dX11_isDeBruijn_8 rfl (lv_at hl 1 rfl) ?_
  refine va_get (D := g.1) (ci := 10) (v := .ref qa) (C := RX11) (T := TX11) (N := 11) X.1 X.2.1 X.2.2.2.2 iwX11 X.2.2.2.1 hK hP 0 rfl rfl 1 (by decide) (X.2.2.2.2 _ q237) (fun _ h9 => h9) rfl dX11_isDeBruijn_9 ?_
  refine (c_Word_size g qa qb s f).callV (rest := []) X dX11_isDeBruijn_12 q324 tX10_size hK (hP.sub [5, 6] rfl) 0 9 rfl rfl rfl hl ⟨⟨Nat.le_of_ble_eq_true rfl, Nat.le_of_ble_eq_true rfl⟩, Nat.le_of_ble_eq_true rfl, Nat.le_of_ble_eq_true rfl⟩ rfl rfl (Nat.le_of_ble_eq_true rfl) ?_
  refine lv_iload_n X.1 X.2.1 dX11_isDeBruijn_15 rfl (lv_at hl 0 rfl) ?_
  refine z_icmp_ne (tgt := 42) X dX11_isDeBruijn_16 (by decide) (nI_toInt (by omega)) (nI_toInt (by omega)) (fun c16 => ?_) (fun c16 => ?_)
  · refine lv_iconst (v := (nI 0)) X.1 X.2.1 dX11_isDeBruijn_42 (by decide) ?_
    exact MuI.ret X hr hlk hK hS dX11_isDeBruijn_43 (nI_nar _) q (hP.sub [0, 1, 2, 3, 4, 5, 6] rfl) (hD.sub [0, 1, 2, 3, 4, 5, 6] (by decide) rfl) (⟨by first | (rw [if_pos (by omega)]; done) | (rw [if_neg (by omega)]; done), trivial⟩)
  · refine lv_aload_n X.1 X.2.1 dX11_isDeBruijn_19 rfl (lv_at hl 1 rfl) ?_
    refine va_get (D := g.1) (ci := 10) (v := .ref ka) (C := RX11) (T := TX11) (N := 11) X.1 X.2.1 X.2.2.2.2 iwX11 X.2.2.2.1 hK hP 0 rfl rfl 3 (by decide) (X.2.2.2.2 _ q239) (fun _ h9 => h9) rfl dX11_isDeBruijn_20 ?_
    refine lv_aload_n X.1 X.2.1 dX11_isDeBruijn_23 rfl (lv_at hl 1 rfl) ?_
    refine va_get (D := g.1) (ci := 10) (v := .ref sa) (C := RX11) (T := TX11) (N := 11) X.1 X.2.1 X.2.2.2.2 iwX11 X.2.2.2.1 hK hP 0 rfl rfl 0 (by decide) (X.2.2.2.2 _ q236) (fun _ h9 => h9) rfl dX11_isDeBruijn_24 ?_
    refine lv_aload_n X.1 X.2.1 dX11_isDeBruijn_27 rfl (lv_at hl 1 rfl) ?_
    refine va_get (D := g.1) (ci := 10) (v := .ref qa) (C := RX11) (T := TX11) (N := 11) X.1 X.2.1 X.2.2.2.2 iwX11 X.2.2.2.1 hK hP 0 rfl rfl 1 (by decide) (X.2.2.2.2 _ q237) (fun _ h9 => h9) rfl dX11_isDeBruijn_28 ?_
    refine (c_bl_diff g ka km kb q sa k n B T qa qb s f (by assumption) (by omega) (by assumption) (by assumption)).callV (rest := []) (wr := [(b0, .inr (10, [.ref sa, .ref qa, .ref da, .ref ka, .ref o, .ref ca, .ref pa, .ref ha, .ref na, .ref ta, .ref ua]))]) X dX11_isDeBruijn_31 q715 tX0_differentTotal hK hP hD hS hA [1, 2, 3, 4, 5, 6] [0] (by decide) rfl rfl (by decide) (by decide) 0 0 rfl rfl rfl hl ⟨⟨Nat.le_of_ble_eq_true rfl, Nat.le_of_ble_eq_true rfl⟩, Nat.le_of_ble_eq_true rfl, Nat.le_of_ble_eq_true rfl⟩ rfl rfl (Nat.le_of_ble_eq_true rfl) (fun r31 u31 H locs hw31 hP hD hS => ?_)
    have hP : PP g [(b0, .inr (10, [.ref sa, .ref qa, .ref da, .ref ka, .ref o, .ref ca, .ref pa, .ref ha, .ref na, .ref ta, .ref ua])), (ka, .inr (0, [.ref km])), (km, .inr (4, [.ref kb])), (kb, .inl (g.2.2.1, 256, .inl (mf (occ k n s)))), (sa, .inr (6, [.int (nI k), .int (nI n), .int (nI B), .int (nI T)])), (qa, .inr (9, [.ref qb, .int (nI s.length)])), (qb, .inl (g.2.1, 256, .inl f))] H := hP
    have hD : va_D A [(b0, .inr (10, [.ref sa, .ref qa, .ref da, .ref ka, .ref o, .ref ca, .ref pa, .ref ha, .ref na, .ref ta, .ref ua])), (ka, .inr (0, [.ref km])), (km, .inr (4, [.ref kb])), (kb, .inl (g.2.2.1, 256, .inl (mf (occ k n s)))), (sa, .inr (6, [.int (nI k), .int (nI n), .int (nI B), .int (nI T)])), (qa, .inr (9, [.ref qb, .int (nI s.length)])), (qb, .inl (g.2.1, 256, .inl f))] := hD
    try dsimp only at hw31
    refine tp_i (y := (nI (cntL (occ k n s) B 0 0))) (hw31) ?_
    refine lv_iload_n X.1 X.2.1 dX11_isDeBruijn_34 rfl (lv_at hl 0 rfl) ?_
    refine z_icmp_ne (tgt := 42) X dX11_isDeBruijn_35 (by decide) (nI_toInt (by omega)) (nI_toInt (by omega)) (fun c35 => ?_) (fun c35 => ?_)
    · refine lv_iconst (v := (nI 0)) X.1 X.2.1 dX11_isDeBruijn_42 (by decide) ?_
      exact MuI.ret X hr hlk hK hS dX11_isDeBruijn_43 (nI_nar _) (occ k n s) (hP.sub [0, 1, 2, 3, 4, 5, 6] rfl) (hD.sub [0, 1, 2, 3, 4, 5, 6] (by decide) rfl) (⟨by first | (rw [if_pos (by omega)]; done) | (rw [if_neg (by omega)]; done), trivial⟩)
    · refine lv_iconst (v := (nI 1)) X.1 X.2.1 dX11_isDeBruijn_38 (by decide) ?_
      refine lv_goto (tgt := 43) X.1 X.2.1 dX11_isDeBruijn_39 (by decide) ?_
      exact MuI.ret X hr hlk hK hS dX11_isDeBruijn_43 (nI_nar _) (occ k n s) (hP.sub [0, 1, 2, 3, 4, 5, 6] rfl) (hD.sub [0, 1, 2, 3, 4, 5, 6] (by decide) rfl) (⟨by first | (rw [if_pos (by omega)]; done) | (rw [if_neg (by omega)]; done), trivial⟩)

set_option maxHeartbeats 4000000 in
set_option maxRecDepth 100000 in
theorem b_appendPattern_ok (g : G5) (b0 : Nat) (sa : Nat) (qa : Nat) (da : Nat) (ka : Nat) (o : Nat) (ca : Nat) (pa : Nat) (ha : Nat) (na : Nat) (ta : Nat) (ua : Nat) (k : Nat) (n : Nat) (B : Nat) (T : Nat) (pb : Nat) (p : List Int) (fp : Nat → Int32) (x : Int32) (hc : shp k n B T) (hp : p.length < 8) (hfp : repZ fp p) (hx : x.toInt = -1 ∨ hasB x k = true) : MuI (S := (Nat → Int32)) yX11_appendPattern cX11_appendPattern 2 (some .int) 2 41 g [.ref b0, .int x] [(b0, .inr (10, [.ref sa, .ref qa, .ref da, .ref ka, .ref o, .ref ca, .ref pa, .ref ha, .ref na, .ref ta, .ref ua])), (sa, .inr (6, [.int (nI k), .int (nI n), .int (nI B), .int (nI T)])), (pa, .inr (5, [.ref pb, .int (nI p.length)])), (pb, .inl (g.2.1, 8, .inl fp))] (fun r fp1 => r = (nI ((p ++ [x.toInt]).length)) ∧ repZ fp1 (p ++ [x.toInt])) (fun fp1 => [(b0, .inr (10, [.ref sa, .ref qa, .ref da, .ref ka, .ref o, .ref ca, .ref pa, .ref ha, .ref na, .ref ta, .ref ua])), (sa, .inr (6, [.int (nI k), .int (nI n), .int (nI B), .int (nI T)])), (pa, .inr (5, [.ref pb, .int (nI ((p ++ [x.toInt]).length))])), (pb, .inl (g.2.1, 8, .inl fp1))]) := by
  refine MuI.of (by decide +kernel) (Nat.le_of_ble_eq_true rfl) ?_
  intro p_ l_ e_ S_ m_ args below meth co X hr hlk hP hK A hA hD hS ls hl
  have X : CallFix p_ m_ co cX11_appendPattern 2 S_ args lw_all RX11 := X
  have hl : lv_has ls 2 [(0, .ref b0), (1, .int x)] := hl
  refine lv_iload_n X.1 X.2.1 dX11_appendPattern_0 rfl (lv_at hl 1 rfl) ?_
  refine lv_iconst (v := (-1)) X.1 X.2.1 dX11_appendPattern_1 (by decide) ?_
  refine z_icmp_eq (tgt := 18) X dX11_appendPattern_2 (by decide) rfl (show Int32.toInt ((-1)) = (-1) from rfl) (fun c2 => ?_) (fun c2 => ?_)
  · refine lv_aload_n X.1 X.2.1 dX11_appendPattern_18 rfl (lv_at hl 0 rfl) ?_
    refine va_get (D := g.1) (ci := 10) (v := .ref pa) (C := RX11) (T := TX11) (N := 11) X.1 X.2.1 X.2.2.2.2 iwX11 X.2.2.2.1 hK hP 0 rfl rfl 6 (by decide) (X.2.2.2.2 _ q242) (fun _ h9 => h9) rfl dX11_appendPattern_19 ?_
    refine (c_pt_full g pa pb p fp (by omega)).callV (rest := []) X dX11_appendPattern_22 q808 tX5_isFull hK (hP.sub [2, 3] rfl) 0 5 rfl rfl rfl hl ⟨⟨Nat.le_of_ble_eq_true rfl, Nat.le_of_ble_eq_true rfl⟩, Nat.le_of_ble_eq_true rfl, Nat.le_of_ble_eq_true rfl⟩ rfl rfl (Nat.le_of_ble_eq_true rfl) ?_
    refine b_if_eq (tgt := 31) X dX11_appendPattern_25 (by decide) (fun c25 => ?_) (fun c25 => ?_)
    · refine lv_aload_n X.1 X.2.1 dX11_appendPattern_31 rfl (lv_at hl 0 rfl) ?_
      refine va_get (D := g.1) (ci := 10) (v := .ref pa) (C := RX11) (T := TX11) (N := 11) X.1 X.2.1 X.2.2.2.2 iwX11 X.2.2.2.1 hK hP 0 rfl rfl 6 (by decide) (X.2.2.2.2 _ q242) (fun _ h9 => h9) rfl dX11_appendPattern_32 ?_
      refine lv_iload_n X.1 X.2.1 dX11_appendPattern_35 rfl (lv_at hl 1 rfl) ?_
      refine (c_pt_add g pa pb p fp x (by omega) (by assumption)).callV (rest := []) (wr := [(b0, .inr (10, [.ref sa, .ref qa, .ref da, .ref ka, .ref o, .ref ca, .ref pa, .ref ha, .ref na, .ref ta, .ref ua])), (sa, .inr (6, [.int (nI k), .int (nI n), .int (nI B), .int (nI T)]))]) X dX11_appendPattern_36 q812 tX5_add hK hP hD hS hA [2, 3] [0, 1] (by decide) rfl rfl (by decide) (by decide) 0 5 rfl rfl rfl hl ⟨⟨Nat.le_of_ble_eq_true rfl, Nat.le_of_ble_eq_true rfl⟩, Nat.le_of_ble_eq_true rfl, Nat.le_of_ble_eq_true rfl⟩ rfl rfl (Nat.le_of_ble_eq_true rfl) (fun u36 H locs hw36 hP hD hS => ?_)
      obtain ⟨f1_36, rfl⟩ : ∃ z, z = u36 := ⟨_, rfl⟩
      have hP : PP g [(b0, .inr (10, [.ref sa, .ref qa, .ref da, .ref ka, .ref o, .ref ca, .ref pa, .ref ha, .ref na, .ref ta, .ref ua])), (sa, .inr (6, [.int (nI k), .int (nI n), .int (nI B), .int (nI T)])), (pa, .inr (5, [.ref pb, .int (nI ((p ++ [x.toInt]).length))])), (pb, .inl (g.2.1, 8, .inl f1_36))] H := hP
      have hD : va_D A [(b0, .inr (10, [.ref sa, .ref qa, .ref da, .ref ka, .ref o, .ref ca, .ref pa, .ref ha, .ref na, .ref ta, .ref ua])), (sa, .inr (6, [.int (nI k), .int (nI n), .int (nI B), .int (nI T)])), (pa, .inr (5, [.ref pb, .int (nI ((p ++ [x.toInt]).length))])), (pb, .inl (g.2.1, 8, .inl f1_36))] := hD
      try dsimp only at hw36
      refine lv_aload_n X.1 X.2.1 dX11_appendPattern_39 rfl (lv_at hl 0 rfl) ?_
      refine va_get (D := g.1) (ci := 10) (v := .ref pa) (C := RX11) (T := TX11) (N := 11) X.1 X.2.1 X.2.2.2.2 iwX11 X.2.2.2.1 hK hP 0 rfl rfl 6 (by decide) (X.2.2.2.2 _ q242) (fun _ h9 => h9) rfl dX11_appendPattern_40 ?_
      refine (c_pt_size g pa pb (p ++ [x.toInt]) f1_36).callV (rest := []) X dX11_appendPattern_43 q817 tX5_size hK (hP.sub [2, 3] rfl) 0 5 rfl rfl rfl hl ⟨⟨Nat.le_of_ble_eq_true rfl, Nat.le_of_ble_eq_true rfl⟩, Nat.le_of_ble_eq_true rfl, Nat.le_of_ble_eq_true rfl⟩ rfl rfl (Nat.le_of_ble_eq_true rfl) ?_
      exact MuI.ret X hr hlk hK hS dX11_appendPattern_46 (nI_nar _) f1_36 (hP.sub [0, 1, 2, 3] rfl) (hD.sub [0, 1, 2, 3] (by decide) rfl) (⟨rfl, hw36⟩)
    · exfalso; simp at c25; omega
  · refine lv_aload_n X.1 X.2.1 dX11_appendPattern_5 rfl (lv_at hl 0 rfl) ?_
    refine va_get (D := g.1) (ci := 10) (v := .ref sa) (C := RX11) (T := TX11) (N := 11) X.1 X.2.1 X.2.2.2.2 iwX11 X.2.2.2.1 hK hP 0 rfl rfl 0 (by decide) (X.2.2.2.2 _ q236) (fun _ h9 => h9) rfl dX11_appendPattern_6 ?_
    refine lv_iload_n X.1 X.2.1 dX11_appendPattern_9 rfl (lv_at hl 1 rfl) ?_
    refine (c_isLetter g sa k n B T x (by assumption)).callV (rest := []) X dX11_appendPattern_10 q599 tX6_isLetter hK (hP.sub [1] rfl) 0 6 rfl rfl rfl hl ⟨⟨Nat.le_of_ble_eq_true rfl, Nat.le_of_ble_eq_true rfl⟩, Nat.le_of_ble_eq_true rfl, Nat.le_of_ble_eq_true rfl⟩ rfl rfl (Nat.le_of_ble_eq_true rfl) ?_
    refine b_if_ne (tgt := 18) X dX11_appendPattern_13 (by decide) (fun c13 => ?_) (fun c13 => ?_)
    · refine lv_aload_n X.1 X.2.1 dX11_appendPattern_18 rfl (lv_at hl 0 rfl) ?_
      refine va_get (D := g.1) (ci := 10) (v := .ref pa) (C := RX11) (T := TX11) (N := 11) X.1 X.2.1 X.2.2.2.2 iwX11 X.2.2.2.1 hK hP 0 rfl rfl 6 (by decide) (X.2.2.2.2 _ q242) (fun _ h9 => h9) rfl dX11_appendPattern_19 ?_
      refine (c_pt_full g pa pb p fp (by omega)).callV (rest := []) X dX11_appendPattern_22 q808 tX5_isFull hK (hP.sub [2, 3] rfl) 0 5 rfl rfl rfl hl ⟨⟨Nat.le_of_ble_eq_true rfl, Nat.le_of_ble_eq_true rfl⟩, Nat.le_of_ble_eq_true rfl, Nat.le_of_ble_eq_true rfl⟩ rfl rfl (Nat.le_of_ble_eq_true rfl) ?_
      refine b_if_eq (tgt := 31) X dX11_appendPattern_25 (by decide) (fun c25 => ?_) (fun c25 => ?_)
      · refine lv_aload_n X.1 X.2.1 dX11_appendPattern_31 rfl (lv_at hl 0 rfl) ?_
        refine va_get (D := g.1) (ci := 10) (v := .ref pa) (C := RX11) (T := TX11) (N := 11) X.1 X.2.1 X.2.2.2.2 iwX11 X.2.2.2.1 hK hP 0 rfl rfl 6 (by decide) (X.2.2.2.2 _ q242) (fun _ h9 => h9) rfl dX11_appendPattern_32 ?_
        refine lv_iload_n X.1 X.2.1 dX11_appendPattern_35 rfl (lv_at hl 1 rfl) ?_
        refine (c_pt_add g pa pb p fp x (by omega) (by assumption)).callV (rest := []) (wr := [(b0, .inr (10, [.ref sa, .ref qa, .ref da, .ref ka, .ref o, .ref ca, .ref pa, .ref ha, .ref na, .ref ta, .ref ua])), (sa, .inr (6, [.int (nI k), .int (nI n), .int (nI B), .int (nI T)]))]) X dX11_appendPattern_36 q812 tX5_add hK hP hD hS hA [2, 3] [0, 1] (by decide) rfl rfl (by decide) (by decide) 0 5 rfl rfl rfl hl ⟨⟨Nat.le_of_ble_eq_true rfl, Nat.le_of_ble_eq_true rfl⟩, Nat.le_of_ble_eq_true rfl, Nat.le_of_ble_eq_true rfl⟩ rfl rfl (Nat.le_of_ble_eq_true rfl) (fun u36 H locs hw36 hP hD hS => ?_)
        obtain ⟨f1_36, rfl⟩ : ∃ z, z = u36 := ⟨_, rfl⟩
        have hP : PP g [(b0, .inr (10, [.ref sa, .ref qa, .ref da, .ref ka, .ref o, .ref ca, .ref pa, .ref ha, .ref na, .ref ta, .ref ua])), (sa, .inr (6, [.int (nI k), .int (nI n), .int (nI B), .int (nI T)])), (pa, .inr (5, [.ref pb, .int (nI ((p ++ [x.toInt]).length))])), (pb, .inl (g.2.1, 8, .inl f1_36))] H := hP
        have hD : va_D A [(b0, .inr (10, [.ref sa, .ref qa, .ref da, .ref ka, .ref o, .ref ca, .ref pa, .ref ha, .ref na, .ref ta, .ref ua])), (sa, .inr (6, [.int (nI k), .int (nI n), .int (nI B), .int (nI T)])), (pa, .inr (5, [.ref pb, .int (nI ((p ++ [x.toInt]).length))])), (pb, .inl (g.2.1, 8, .inl f1_36))] := hD
        try dsimp only at hw36
        refine lv_aload_n X.1 X.2.1 dX11_appendPattern_39 rfl (lv_at hl 0 rfl) ?_
        refine va_get (D := g.1) (ci := 10) (v := .ref pa) (C := RX11) (T := TX11) (N := 11) X.1 X.2.1 X.2.2.2.2 iwX11 X.2.2.2.1 hK hP 0 rfl rfl 6 (by decide) (X.2.2.2.2 _ q242) (fun _ h9 => h9) rfl dX11_appendPattern_40 ?_
        refine (c_pt_size g pa pb (p ++ [x.toInt]) f1_36).callV (rest := []) X dX11_appendPattern_43 q817 tX5_size hK (hP.sub [2, 3] rfl) 0 5 rfl rfl rfl hl ⟨⟨Nat.le_of_ble_eq_true rfl, Nat.le_of_ble_eq_true rfl⟩, Nat.le_of_ble_eq_true rfl, Nat.le_of_ble_eq_true rfl⟩ rfl rfl (Nat.le_of_ble_eq_true rfl) ?_
        exact MuI.ret X hr hlk hK hS dX11_appendPattern_46 (nI_nar _) f1_36 (hP.sub [0, 1, 2, 3] rfl) (hD.sub [0, 1, 2, 3] (by decide) rfl) (⟨rfl, hw36⟩)
      · exfalso; simp at c25; omega
    · exfalso; (rcases hx with h | h) <;> first | omega | (rw [h] at c13; cases c13)

set_option maxHeartbeats 4000000 in
set_option maxRecDepth 100000 in
theorem b_appendPattern_no (g : G5) (b0 : Nat) (sa : Nat) (qa : Nat) (da : Nat) (ka : Nat) (o : Nat) (ca : Nat) (pa : Nat) (ha : Nat) (na : Nat) (ta : Nat) (ua : Nat) (k : Nat) (n : Nat) (B : Nat) (T : Nat) (pb : Nat) (p : List Int) (fp : Nat → Int32) (x : Int32) (hc : shp k n B T) (hp : p.length ≤ 8) (hno : ¬ (x.toInt = -1 ∨ hasB x k = true) ∨ p.length = 8) : PuI yX11_appendPattern cX11_appendPattern 2 (some .int) 2 41 g [.ref b0, .int x] [(b0, .inr (10, [.ref sa, .ref qa, .ref da, .ref ka, .ref o, .ref ca, .ref pa, .ref ha, .ref na, .ref ta, .ref ua])), (sa, .inr (6, [.int (nI k), .int (nI n), .int (nI B), .int (nI T)])), (pa, .inr (5, [.ref pb, .int (nI p.length)])), (pb, .inl (g.2.1, 8, .inl fp))] (if x.toInt = -1 ∨ hasB x k = true then (-4) else (-1)) := by
  refine PuI.of (by decide +kernel) (Nat.le_of_ble_eq_true rfl) ?_
  intro p_ l_ e_ S_ m_ args below meth co X hr hlk hP hK ls hl
  have X : CallFix p_ m_ co cX11_appendPattern 2 S_ args lw_all RX11 := X
  have hl : lv_has ls 2 [(0, .ref b0), (1, .int x)] := hl
  refine lv_iload_n X.1 X.2.1 dX11_appendPattern_0 rfl (lv_at hl 1 rfl) ?_
  refine lv_iconst (v := (-1)) X.1 X.2.1 dX11_appendPattern_1 (by decide) ?_
  refine z_icmp_eq (tgt := 18) X dX11_appendPattern_2 (by decide) rfl (show Int32.toInt ((-1)) = (-1) from rfl) (fun c2 => ?_) (fun c2 => ?_)
  · refine lv_aload_n X.1 X.2.1 dX11_appendPattern_18 rfl (lv_at hl 0 rfl) ?_
    refine va_get (D := g.1) (ci := 10) (v := .ref pa) (C := RX11) (T := TX11) (N := 11) X.1 X.2.1 X.2.2.2.2 iwX11 X.2.2.2.1 hK hP 0 rfl rfl 6 (by decide) (X.2.2.2.2 _ q242) (fun _ h9 => h9) rfl dX11_appendPattern_19 ?_
    refine (c_pt_full g pa pb p fp (by omega)).callV (rest := []) X dX11_appendPattern_22 q808 tX5_isFull hK (hP.sub [2, 3] rfl) 0 5 rfl rfl rfl hl ⟨⟨Nat.le_of_ble_eq_true rfl, Nat.le_of_ble_eq_true rfl⟩, Nat.le_of_ble_eq_true rfl, Nat.le_of_ble_eq_true rfl⟩ rfl rfl (Nat.le_of_ble_eq_true rfl) ?_
    refine b_if_eq (tgt := 31) X dX11_appendPattern_25 (by decide) (fun c25 => ?_) (fun c25 => ?_)
    · exfalso; (rcases hno with h | h) <;> first | (simp at c25; omega) | (exact h (by first | exact Or.inl c2 | exact Or.inr c13))
    · refine lv_bipush (v := (-4)) X.1 X.2.1 dX11_appendPattern_28 (by decide) ?_
      exact PuI.ret X hr hlk dX11_appendPattern_30 (nI_nar _) (by rw [if_pos (by first | exact Or.inl c2 | exact Or.inr c13)])
  · refine lv_aload_n X.1 X.2.1 dX11_appendPattern_5 rfl (lv_at hl 0 rfl) ?_
    refine va_get (D := g.1) (ci := 10) (v := .ref sa) (C := RX11) (T := TX11) (N := 11) X.1 X.2.1 X.2.2.2.2 iwX11 X.2.2.2.1 hK hP 0 rfl rfl 0 (by decide) (X.2.2.2.2 _ q236) (fun _ h9 => h9) rfl dX11_appendPattern_6 ?_
    refine lv_iload_n X.1 X.2.1 dX11_appendPattern_9 rfl (lv_at hl 1 rfl) ?_
    refine (c_isLetter g sa k n B T x (by assumption)).callV (rest := []) X dX11_appendPattern_10 q599 tX6_isLetter hK (hP.sub [1] rfl) 0 6 rfl rfl rfl hl ⟨⟨Nat.le_of_ble_eq_true rfl, Nat.le_of_ble_eq_true rfl⟩, Nat.le_of_ble_eq_true rfl, Nat.le_of_ble_eq_true rfl⟩ rfl rfl (Nat.le_of_ble_eq_true rfl) ?_
    refine b_if_ne (tgt := 18) X dX11_appendPattern_13 (by decide) (fun c13 => ?_) (fun c13 => ?_)
    · refine lv_aload_n X.1 X.2.1 dX11_appendPattern_18 rfl (lv_at hl 0 rfl) ?_
      refine va_get (D := g.1) (ci := 10) (v := .ref pa) (C := RX11) (T := TX11) (N := 11) X.1 X.2.1 X.2.2.2.2 iwX11 X.2.2.2.1 hK hP 0 rfl rfl 6 (by decide) (X.2.2.2.2 _ q242) (fun _ h9 => h9) rfl dX11_appendPattern_19 ?_
      refine (c_pt_full g pa pb p fp (by omega)).callV (rest := []) X dX11_appendPattern_22 q808 tX5_isFull hK (hP.sub [2, 3] rfl) 0 5 rfl rfl rfl hl ⟨⟨Nat.le_of_ble_eq_true rfl, Nat.le_of_ble_eq_true rfl⟩, Nat.le_of_ble_eq_true rfl, Nat.le_of_ble_eq_true rfl⟩ rfl rfl (Nat.le_of_ble_eq_true rfl) ?_
      refine b_if_eq (tgt := 31) X dX11_appendPattern_25 (by decide) (fun c25 => ?_) (fun c25 => ?_)
      · exfalso; (rcases hno with h | h) <;> first | (simp at c25; omega) | (exact h (by first | exact Or.inl c2 | exact Or.inr c13))
      · refine lv_bipush (v := (-4)) X.1 X.2.1 dX11_appendPattern_28 (by decide) ?_
        exact PuI.ret X hr hlk dX11_appendPattern_30 (nI_nar _) (by rw [if_pos (by first | exact Or.inl c2 | exact Or.inr c13)])
    · refine lv_iconst (v := (-1)) X.1 X.2.1 dX11_appendPattern_16 (by decide) ?_
      exact PuI.ret X hr hlk dX11_appendPattern_17 (nI_nar _) (by rw [if_neg (fun h => h.elim c2 (fun h => by rw [h] at c13; cases c13))])

set_option maxHeartbeats 4000000 in
set_option maxRecDepth 100000 in
theorem b_clearPattern (g : G5) (b0 : Nat) (sa : Nat) (qa : Nat) (da : Nat) (ka : Nat) (o : Nat) (ca : Nat) (pa : Nat) (ha : Nat) (na : Nat) (ta : Nat) (ua : Nat) (pb : Nat) (p : List Int) (fp : Nat → Int32) : MuI (S := (Nat → Int32)) yX11_clearPattern cX11_clearPattern 2 (some .int) 1 20 g [.ref b0] [(b0, .inr (10, [.ref sa, .ref qa, .ref da, .ref ka, .ref o, .ref ca, .ref pa, .ref ha, .ref na, .ref ta, .ref ua])), (pa, .inr (5, [.ref pb, .int (nI p.length)])), (pb, .inl (g.2.1, 8, .inl fp))] (fun r fp1 => r = (nI p.length) ∧ repZ fp1 []) (fun fp1 => [(b0, .inr (10, [.ref sa, .ref qa, .ref da, .ref ka, .ref o, .ref ca, .ref pa, .ref ha, .ref na, .ref ta, .ref ua])), (pa, .inr (5, [.ref pb, .int (nI (([] : List Int).length))])), (pb, .inl (g.2.1, 8, .inl fp1))]) := by
  refine MuI.of (by decide +kernel) (Nat.le_of_ble_eq_true rfl) ?_
  intro p_ l_ e_ S_ m_ args below meth co X hr hlk hP hK A hA hD hS ls hl
  have X : CallFix p_ m_ co cX11_clearPattern 2 S_ args lw_all RX11 := X
  have hl : lv_has ls 2 [(0, .ref b0)] := hl
  refine lv_aload_n X.1 X.2.1 dX11_clearPattern_0 rfl (lv_at hl 0 rfl) ?_
  refine va_get (D := g.1) (ci := 10) (v := .ref pa) (C := RX11) (T := TX11) (N := 11) X.1 X.2.1 X.2.2.2.2 iwX11 X.2.2.2.1 hK hP 0 rfl rfl 6 (by decide) (X.2.2.2.2 _ q242) (fun _ h9 => h9) rfl dX11_clearPattern_1 ?_
  refine (c_pt_size g pa pb p fp).callV (rest := []) X dX11_clearPattern_4 q817 tX5_size hK (hP.sub [1, 2] rfl) 0 5 rfl rfl rfl hl ⟨⟨Nat.le_of_ble_eq_true rfl, Nat.le_of_ble_eq_true rfl⟩, Nat.le_of_ble_eq_true rfl, Nat.le_of_ble_eq_true rfl⟩ rfl rfl (Nat.le_of_ble_eq_true rfl) ?_
  refine lv_istore_n (lv' := [(1, .int (nI p.length)), (0, .ref b0)]) X.1 X.2.1 dX11_clearPattern_7 rfl hl (by decide) rfl (fun ls hl => ?_)
  refine lv_aload_n X.1 X.2.1 dX11_clearPattern_8 rfl (lv_at hl 1 rfl) ?_
  refine va_get (D := g.1) (ci := 10) (v := .ref pa) (C := RX11) (T := TX11) (N := 11) X.1 X.2.1 X.2.2.2.2 iwX11 X.2.2.2.1 hK hP 0 rfl rfl 6 (by decide) (X.2.2.2.2 _ q242) (fun _ h9 => h9) rfl dX11_clearPattern_9 ?_
  refine (c_pt_clear g pa pb p fp).callV (rest := []) (wr := [(b0, .inr (10, [.ref sa, .ref qa, .ref da, .ref ka, .ref o, .ref ca, .ref pa, .ref ha, .ref na, .ref ta, .ref ua]))]) X dX11_clearPattern_12 q292 tX5_clear hK hP hD hS hA [1, 2] [0] (by decide) rfl rfl (by decide) (by decide) 0 5 rfl rfl rfl hl ⟨⟨Nat.le_of_ble_eq_true rfl, Nat.le_of_ble_eq_true rfl⟩, Nat.le_of_ble_eq_true rfl, Nat.le_of_ble_eq_true rfl⟩ rfl rfl (Nat.le_of_ble_eq_true rfl) (fun u12 H locs hw12 hP hD hS => ?_)
  obtain ⟨f1_12, rfl⟩ : ∃ z, z = u12 := ⟨_, rfl⟩
  have hP : PP g [(b0, .inr (10, [.ref sa, .ref qa, .ref da, .ref ka, .ref o, .ref ca, .ref pa, .ref ha, .ref na, .ref ta, .ref ua])), (pa, .inr (5, [.ref pb, .int (nI (([] : List Int).length))])), (pb, .inl (g.2.1, 8, .inl f1_12))] H := hP
  have hD : va_D A [(b0, .inr (10, [.ref sa, .ref qa, .ref da, .ref ka, .ref o, .ref ca, .ref pa, .ref ha, .ref na, .ref ta, .ref ua])), (pa, .inr (5, [.ref pb, .int (nI (([] : List Int).length))])), (pb, .inl (g.2.1, 8, .inl f1_12))] := hD
  try dsimp only at hw12
  refine lv_iload_n X.1 X.2.1 dX11_clearPattern_15 rfl (lv_at hl 0 rfl) ?_
  exact MuI.ret X hr hlk hK hS dX11_clearPattern_16 (nI_nar _) f1_12 (hP.sub [0, 1, 2] rfl) (hD.sub [0, 1, 2] (by decide) rfl) (⟨rfl, hw12⟩)

set_option maxHeartbeats 4000000 in
set_option maxRecDepth 100000 in
theorem b_undo_ok (g : G5) (b0 : Nat) (sa : Nat) (qa : Nat) (da : Nat) (ka : Nat) (o : Nat) (ca : Nat) (pa : Nat) (ha : Nat) (na : Nat) (ta : Nat) (ua : Nat) (qb : Nat) (s : List Nat) (f : Nat → Int32) (hr_ : Nat) (hz_ : Nat) (nx : Nat) (h : List (List Nat)) (fr : Nat → Int32) (fz : Nat → Int32) (z : List Nat) (h2 : List (List Nat)) (hs : s.length ≤ 256) (hf : rep f s) (hh : hrep nx fr fz h) (hz : h = z :: h2) : MuI (S := (Nat → Int32)) yX11_undo cX11_undo 1 (some .int) 3 84 g [.ref b0] [(b0, .inr (10, [.ref sa, .ref qa, .ref da, .ref ka, .ref o, .ref ca, .ref pa, .ref ha, .ref na, .ref ta, .ref ua])), (qa, .inr (9, [.ref qb, .int (nI s.length)])), (qb, .inl (g.2.1, 256, .inl f)), (ha, .inr (3, [.ref hr_, .ref hz_, .int (nI nx), .int (nI h.length)])), (hr_, .inl (g.2.1, 1536, .inl fr)), (hz_, .inl (g.2.1, 6, .inl fz))] (fun r f1 => r = (nI z.length) ∧ rep f1 z ∧ hrep ((nx + 5) % 6) fr fz h2) (fun f1 => [(b0, .inr (10, [.ref sa, .ref qa, .ref da, .ref ka, .ref o, .ref ca, .ref pa, .ref ha, .ref na, .ref ta, .ref ua])), (qa, .inr (9, [.ref qb, .int (nI z.length)])), (qb, .inl (g.2.1, 256, .inl f1)), (ha, .inr (3, [.ref hr_, .ref hz_, .int (nI ((nx + 5) % 6)), .int (nI h2.length)])), (hr_, .inl (g.2.1, 1536, .inl fr)), (hz_, .inl (g.2.1, 6, .inl fz))]) := by
  refine MuI.of (by decide +kernel) (Nat.le_of_ble_eq_true rfl) ?_
  intro p_ l_ e_ S_ m_ args below meth co X hr hlk hP hK A hA hD hS ls hl
  have X : CallFix p_ m_ co cX11_undo 1 S_ args lw_all RX11 := X
  have hl : lv_has ls 1 [(0, .ref b0)] := hl
  have hlen : h.length = h2.length + 1 := by rw [hz]; rfl
  have hhl := hh.2.1
  refine lv_aload_n X.1 X.2.1 dX11_undo_0 rfl (lv_at hl 0 rfl) ?_
  refine va_get (D := g.1) (ci := 10) (v := .ref ha) (C := RX11) (T := TX11) (N := 11) X.1 X.2.1 X.2.2.2.2 iwX11 X.2.2.2.1 hK hP 0 rfl rfl 7 (by decide) (X.2.2.2.2 _ q243) (fun _ h9 => h9) rfl dX11_undo_1 ?_
  refine (c_hi_size g ha hr_ hz_ nx h fr fz).callV (rest := []) X dX11_undo_4 q912 tX3_size hK (hP.sub [3, 4, 5] rfl) 0 3 rfl rfl rfl hl ⟨⟨Nat.le_of_ble_eq_true rfl, Nat.le_of_ble_eq_true rfl⟩, Nat.le_of_ble_eq_true rfl, Nat.le_of_ble_eq_true rfl⟩ rfl rfl (Nat.le_of_ble_eq_true rfl) ?_
  refine lv_iconst (v := (nI 1)) X.1 X.2.1 dX11_undo_7 (by decide) ?_
  refine z_icmp_ge (tgt := 14) X dX11_undo_8 (by decide) (nI_toInt (by omega)) (nI_toInt (by omega)) (fun c8 => ?_) (fun c8 => ?_)
  · refine lv_aload_n X.1 X.2.1 dX11_undo_14 rfl (lv_at hl 0 rfl) ?_
    refine va_get (D := g.1) (ci := 10) (v := .ref ha) (C := RX11) (T := TX11) (N := 11) X.1 X.2.1 X.2.2.2.2 iwX11 X.2.2.2.1 hK hP 0 rfl rfl 7 (by decide) (X.2.2.2.2 _ q243) (fun _ h9 => h9) rfl dX11_undo_15 ?_
    refine lv_aload_n X.1 X.2.1 dX11_undo_18 rfl (lv_at hl 0 rfl) ?_
    refine va_get (D := g.1) (ci := 10) (v := .ref qa) (C := RX11) (T := TX11) (N := 11) X.1 X.2.1 X.2.2.2.2 iwX11 X.2.2.2.1 hK hP 0 rfl rfl 1 (by decide) (X.2.2.2.2 _ q237) (fun _ h9 => h9) rfl dX11_undo_19 ?_
    refine (c_hi_back g ha hr_ hz_ nx h fr fz qa qb s f z h2 (by omega) (by assumption) (by assumption)).callV (rest := []) (wr := [(b0, .inr (10, [.ref sa, .ref qa, .ref da, .ref ka, .ref o, .ref ca, .ref pa, .ref ha, .ref na, .ref ta, .ref ua]))]) X dX11_undo_22 q916 tX3_bringBack hK hP hD hS hA [3, 4, 5, 1, 2] [0] (by decide) rfl rfl (by decide) (by decide) 0 3 rfl rfl rfl hl ⟨⟨Nat.le_of_ble_eq_true rfl, Nat.le_of_ble_eq_true rfl⟩, Nat.le_of_ble_eq_true rfl, Nat.le_of_ble_eq_true rfl⟩ rfl rfl (Nat.le_of_ble_eq_true rfl) (fun u22 H locs hw22 hP hD hS => ?_)
    obtain ⟨f1_22, rfl⟩ : ∃ z, z = u22 := ⟨_, rfl⟩
    have hP : PP g [(b0, .inr (10, [.ref sa, .ref qa, .ref da, .ref ka, .ref o, .ref ca, .ref pa, .ref ha, .ref na, .ref ta, .ref ua])), (ha, .inr (3, [.ref hr_, .ref hz_, .int (nI ((nx + 5) % 6)), .int (nI h2.length)])), (hr_, .inl (g.2.1, 1536, .inl fr)), (hz_, .inl (g.2.1, 6, .inl fz)), (qa, .inr (9, [.ref qb, .int (nI z.length)])), (qb, .inl (g.2.1, 256, .inl f1_22))] H := hP
    have hD : va_D A [(b0, .inr (10, [.ref sa, .ref qa, .ref da, .ref ka, .ref o, .ref ca, .ref pa, .ref ha, .ref na, .ref ta, .ref ua])), (ha, .inr (3, [.ref hr_, .ref hz_, .int (nI ((nx + 5) % 6)), .int (nI h2.length)])), (hr_, .inl (g.2.1, 1536, .inl fr)), (hz_, .inl (g.2.1, 6, .inl fz)), (qa, .inr (9, [.ref qb, .int (nI z.length)])), (qb, .inl (g.2.1, 256, .inl f1_22))] := hD
    try dsimp only at hw22
    refine lv_aload_n X.1 X.2.1 dX11_undo_25 rfl (lv_at hl 0 rfl) ?_
    refine va_get (D := g.1) (ci := 10) (v := .ref qa) (C := RX11) (T := TX11) (N := 11) X.1 X.2.1 X.2.2.2.2 iwX11 X.2.2.2.1 hK hP 0 rfl rfl 1 (by decide) (X.2.2.2.2 _ q237) (fun _ h9 => h9) rfl dX11_undo_26 ?_
    refine (c_Word_size g qa qb z f1_22).callV (rest := []) X dX11_undo_29 q324 tX10_size hK (hP.sub [4, 5] rfl) 0 9 rfl rfl rfl hl ⟨⟨Nat.le_of_ble_eq_true rfl, Nat.le_of_ble_eq_true rfl⟩, Nat.le_of_ble_eq_true rfl, Nat.le_of_ble_eq_true rfl⟩ rfl rfl (Nat.le_of_ble_eq_true rfl) ?_
    exact MuI.ret X hr hlk hK hS dX11_undo_32 (nI_nar _) f1_22 (hP.sub [0, 4, 5, 1, 2, 3] rfl) (hD.sub [0, 4, 5, 1, 2, 3] (by decide) rfl) (⟨rfl, hw22⟩)
  · exfalso; omega

set_option maxHeartbeats 4000000 in
set_option maxRecDepth 100000 in
theorem b_undo_no (g : G5) (b0 : Nat) (sa : Nat) (qa : Nat) (da : Nat) (ka : Nat) (o : Nat) (ca : Nat) (pa : Nat) (ha : Nat) (na : Nat) (ta : Nat) (ua : Nat) (hr_ : Nat) (hz_ : Nat) (nx : Nat) (h : List (List Nat)) (fr : Nat → Int32) (fz : Nat → Int32) (h0 : h.length < 1) : PuI yX11_undo cX11_undo 1 (some .int) 3 84 g [.ref b0] [(b0, .inr (10, [.ref sa, .ref qa, .ref da, .ref ka, .ref o, .ref ca, .ref pa, .ref ha, .ref na, .ref ta, .ref ua])), (ha, .inr (3, [.ref hr_, .ref hz_, .int (nI nx), .int (nI h.length)])), (hr_, .inl (g.2.1, 1536, .inl fr)), (hz_, .inl (g.2.1, 6, .inl fz))] (-7) := by
  refine PuI.of (by decide +kernel) (Nat.le_of_ble_eq_true rfl) ?_
  intro p_ l_ e_ S_ m_ args below meth co X hr hlk hP hK ls hl
  have X : CallFix p_ m_ co cX11_undo 1 S_ args lw_all RX11 := X
  have hl : lv_has ls 1 [(0, .ref b0)] := hl
  refine lv_aload_n X.1 X.2.1 dX11_undo_0 rfl (lv_at hl 0 rfl) ?_
  refine va_get (D := g.1) (ci := 10) (v := .ref ha) (C := RX11) (T := TX11) (N := 11) X.1 X.2.1 X.2.2.2.2 iwX11 X.2.2.2.1 hK hP 0 rfl rfl 7 (by decide) (X.2.2.2.2 _ q243) (fun _ h9 => h9) rfl dX11_undo_1 ?_
  refine (c_hi_size g ha hr_ hz_ nx h fr fz).callV (rest := []) X dX11_undo_4 q912 tX3_size hK (hP.sub [1, 2, 3] rfl) 0 3 rfl rfl rfl hl ⟨⟨Nat.le_of_ble_eq_true rfl, Nat.le_of_ble_eq_true rfl⟩, Nat.le_of_ble_eq_true rfl, Nat.le_of_ble_eq_true rfl⟩ rfl rfl (Nat.le_of_ble_eq_true rfl) ?_
  refine lv_iconst (v := (nI 1)) X.1 X.2.1 dX11_undo_7 (by decide) ?_
  refine z_icmp_ge (tgt := 14) X dX11_undo_8 (by decide) (nI_toInt (by omega)) (nI_toInt (by omega)) (fun c8 => ?_) (fun c8 => ?_)
  · exfalso; omega
  · refine lv_bipush (v := (-7)) X.1 X.2.1 dX11_undo_11 (by decide) ?_
    exact PuI.ret X hr hlk dX11_undo_13 (nI_nar _) (rfl)

set_option maxHeartbeats 4000000 in
set_option maxRecDepth 100000 in
theorem b_save (g : G5) (b0 : Nat) (sa : Nat) (qa : Nat) (da : Nat) (ka : Nat) (o : Nat) (ca : Nat) (pa : Nat) (ha : Nat) (na : Nat) (ta : Nat) (ua : Nat) (k : Nat) (n : Nat) (B : Nat) (T : Nat) (qb : Nat) (s : List Nat) (f : Nat → Int32) (nw : Nat) (nb : Nat) (k0 : Nat) (n0 : Nat) (tk : Bool) (s0 : List Nat) (f0 : Nat → Int32) (hs : s.length ≤ 256) (hf : rep f s) : MuI (S := (Nat → Int32)) yX11_save cX11_save 1 (some .int) 4 106 g [.ref b0] [(b0, .inr (10, [.ref sa, .ref qa, .ref da, .ref ka, .ref o, .ref ca, .ref pa, .ref ha, .ref na, .ref ta, .ref ua])), (sa, .inr (6, [.int (nI k), .int (nI n), .int (nI B), .int (nI T)])), (qa, .inr (9, [.ref qb, .int (nI s.length)])), (qb, .inl (g.2.1, 256, .inl f)), (na, .inr (7, [.ref nw, .int (nI k0), .int (nI n0), .int (bI tk)])), (nw, .inr (9, [.ref nb, .int (nI s0.length)])), (nb, .inl (g.2.1, 256, .inl f0))] (fun r f1 => r = (nI s.length) ∧ rep f1 s) (fun f1 => [(b0, .inr (10, [.ref sa, .ref qa, .ref da, .ref ka, .ref o, .ref ca, .ref pa, .ref ha, .ref na, .ref ta, .ref ua])), (sa, .inr (6, [.int (nI k), .int (nI n), .int (nI B), .int (nI T)])), (qa, .inr (9, [.ref qb, .int (nI s.length)])), (qb, .inl (g.2.1, 256, .inl f)), (na, .inr (7, [.ref nw, .int (nI k), .int (nI n), .int (bI true)])), (nw, .inr (9, [.ref nb, .int (nI s.length)])), (nb, .inl (g.2.1, 256, .inl f1))]) := by
  refine MuI.of (by decide +kernel) (Nat.le_of_ble_eq_true rfl) ?_
  intro p_ l_ e_ S_ m_ args below meth co X hr hlk hP hK A hA hD hS ls hl
  have X : CallFix p_ m_ co cX11_save 1 S_ args lw_all RX11 := X
  have hl : lv_has ls 1 [(0, .ref b0)] := hl
  refine lv_aload_n X.1 X.2.1 dX11_save_0 rfl (lv_at hl 0 rfl) ?_
  refine va_get (D := g.1) (ci := 10) (v := .ref na) (C := RX11) (T := TX11) (N := 11) X.1 X.2.1 X.2.2.2.2 iwX11 X.2.2.2.1 hK hP 0 rfl rfl 8 (by decide) (X.2.2.2.2 _ q244) (fun _ h9 => h9) rfl dX11_save_1 ?_
  refine lv_aload_n X.1 X.2.1 dX11_save_4 rfl (lv_at hl 0 rfl) ?_
  refine va_get (D := g.1) (ci := 10) (v := .ref sa) (C := RX11) (T := TX11) (N := 11) X.1 X.2.1 X.2.2.2.2 iwX11 X.2.2.2.1 hK hP 0 rfl rfl 0 (by decide) (X.2.2.2.2 _ q236) (fun _ h9 => h9) rfl dX11_save_5 ?_
  refine lv_aload_n X.1 X.2.1 dX11_save_8 rfl (lv_at hl 0 rfl) ?_
  refine va_get (D := g.1) (ci := 10) (v := .ref qa) (C := RX11) (T := TX11) (N := 11) X.1 X.2.1 X.2.2.2.2 iwX11 X.2.2.2.1 hK hP 0 rfl rfl 1 (by decide) (X.2.2.2.2 _ q237) (fun _ h9 => h9) rfl dX11_save_9 ?_
  refine (c_sn_take g na nw nb k0 n0 tk s0 f0 sa k n B T qa qb s f (by omega) (by assumption)).callV (rest := []) (wr := [(b0, .inr (10, [.ref sa, .ref qa, .ref da, .ref ka, .ref o, .ref ca, .ref pa, .ref ha, .ref na, .ref ta, .ref ua]))]) X dX11_save_12 q929 tX7_take hK hP hD hS hA [4, 5, 6, 1, 2, 3] [0] (by decide) rfl rfl (by decide) (by decide) 0 7 rfl rfl rfl hl ⟨⟨Nat.le_of_ble_eq_true rfl, Nat.le_of_ble_eq_true rfl⟩, Nat.le_of_ble_eq_true rfl, Nat.le_of_ble_eq_true rfl⟩ rfl rfl (Nat.le_of_ble_eq_true rfl) (fun u12 H locs hw12 hP hD hS => ?_)
  obtain ⟨f1_12, rfl⟩ : ∃ z, z = u12 := ⟨_, rfl⟩
  have hP : PP g [(b0, .inr (10, [.ref sa, .ref qa, .ref da, .ref ka, .ref o, .ref ca, .ref pa, .ref ha, .ref na, .ref ta, .ref ua])), (na, .inr (7, [.ref nw, .int (nI k), .int (nI n), .int (bI true)])), (nw, .inr (9, [.ref nb, .int (nI s.length)])), (nb, .inl (g.2.1, 256, .inl f1_12)), (sa, .inr (6, [.int (nI k), .int (nI n), .int (nI B), .int (nI T)])), (qa, .inr (9, [.ref qb, .int (nI s.length)])), (qb, .inl (g.2.1, 256, .inl f))] H := hP
  have hD : va_D A [(b0, .inr (10, [.ref sa, .ref qa, .ref da, .ref ka, .ref o, .ref ca, .ref pa, .ref ha, .ref na, .ref ta, .ref ua])), (na, .inr (7, [.ref nw, .int (nI k), .int (nI n), .int (bI true)])), (nw, .inr (9, [.ref nb, .int (nI s.length)])), (nb, .inl (g.2.1, 256, .inl f1_12)), (sa, .inr (6, [.int (nI k), .int (nI n), .int (nI B), .int (nI T)])), (qa, .inr (9, [.ref qb, .int (nI s.length)])), (qb, .inl (g.2.1, 256, .inl f))] := hD
  try dsimp only at hw12
  refine lv_aload_n X.1 X.2.1 dX11_save_15 rfl (lv_at hl 0 rfl) ?_
  refine va_get (D := g.1) (ci := 10) (v := .ref qa) (C := RX11) (T := TX11) (N := 11) X.1 X.2.1 X.2.2.2.2 iwX11 X.2.2.2.1 hK hP 0 rfl rfl 1 (by decide) (X.2.2.2.2 _ q237) (fun _ h9 => h9) rfl dX11_save_16 ?_
  refine (c_Word_size g qa qb s f).callV (rest := []) X dX11_save_19 q324 tX10_size hK (hP.sub [5, 6] rfl) 0 9 rfl rfl rfl hl ⟨⟨Nat.le_of_ble_eq_true rfl, Nat.le_of_ble_eq_true rfl⟩, Nat.le_of_ble_eq_true rfl, Nat.le_of_ble_eq_true rfl⟩ rfl rfl (Nat.le_of_ble_eq_true rfl) ?_
  exact MuI.ret X hr hlk hK hS dX11_save_22 (nI_nar _) f1_12 (hP.sub [0, 4, 5, 6, 1, 2, 3] rfl) (hD.sub [0, 4, 5, 6, 1, 2, 3] (by decide) rfl) (⟨rfl, hw12⟩)

set_option maxHeartbeats 4000000 in
set_option maxRecDepth 100000 in
theorem b_restore_ok (g : G5) (b0 : Nat) (sa : Nat) (qa : Nat) (da : Nat) (ka : Nat) (o : Nat) (ca : Nat) (pa : Nat) (ha : Nat) (na : Nat) (ta : Nat) (ua : Nat) (k : Nat) (n : Nat) (B : Nat) (T : Nat) (qb : Nat) (s : List Nat) (f : Nat → Int32) (nw : Nat) (nb : Nat) (k0 : Nat) (n0 : Nat) (tk : Bool) (s0 : List Nat) (f0 : Nat → Int32) (pb : Nat) (p : List Int) (fp : Nat → Int32) (hr_ : Nat) (hz_ : Nat) (nx : Nat) (h : List (List Nat)) (fr : Nat → Int32) (fz : Nat → Int32) (B0 : Nat) (T0 : Nat) (htk : tk = true) (hc0 : shp k0 n0 B0 T0) (hs0 : s0.length ≤ 256) (hf0 : rep f0 s0) : MuI (S := (Nat → Int32) × (Nat → Int32)) yX11_restore cX11_restore 1 (some .int) 4 106 g [.ref b0] [(b0, .inr (10, [.ref sa, .ref qa, .ref da, .ref ka, .ref o, .ref ca, .ref pa, .ref ha, .ref na, .ref ta, .ref ua])), (sa, .inr (6, [.int (nI k), .int (nI n), .int (nI B), .int (nI T)])), (qa, .inr (9, [.ref qb, .int (nI s.length)])), (qb, .inl (g.2.1, 256, .inl f)), (na, .inr (7, [.ref nw, .int (nI k0), .int (nI n0), .int (bI tk)])), (nw, .inr (9, [.ref nb, .int (nI s0.length)])), (nb, .inl (g.2.1, 256, .inl f0)), (pa, .inr (5, [.ref pb, .int (nI p.length)])), (pb, .inl (g.2.1, 8, .inl fp)), (ha, .inr (3, [.ref hr_, .ref hz_, .int (nI nx), .int (nI h.length)])), (hr_, .inl (g.2.1, 1536, .inl fr)), (hz_, .inl (g.2.1, 6, .inl fz))] (fun r u => r = (nI s0.length) ∧ rep u.1 s0 ∧ repZ u.2 []) (fun u => [(b0, .inr (10, [.ref sa, .ref qa, .ref da, .ref ka, .ref o, .ref ca, .ref pa, .ref ha, .ref na, .ref ta, .ref ua])), (sa, .inr (6, [.int (nI k0), .int (nI n0), .int (nI B0), .int (nI T0)])), (qa, .inr (9, [.ref qb, .int (nI s0.length)])), (qb, .inl (g.2.1, 256, .inl u.1)), (na, .inr (7, [.ref nw, .int (nI k0), .int (nI n0), .int (bI tk)])), (nw, .inr (9, [.ref nb, .int (nI s0.length)])), (nb, .inl (g.2.1, 256, .inl f0)), (pa, .inr (5, [.ref pb, .int (nI (([] : List Int).length))])), (pb, .inl (g.2.1, 8, .inl u.2)), (ha, .inr (3, [.ref hr_, .ref hz_, .int (nI nx), .int (nI (([] : List (List Nat)).length))])), (hr_, .inl (g.2.1, 1536, .inl fr)), (hz_, .inl (g.2.1, 6, .inl fz))]) := by
  refine MuI.of (by decide +kernel) (Nat.le_of_ble_eq_true rfl) ?_
  intro p_ l_ e_ S_ m_ args below meth co X hr hlk hP hK A hA hD hS ls hl
  have X : CallFix p_ m_ co cX11_restore 1 S_ args lw_all RX11 := X
  have hl : lv_has ls 1 [(0, .ref b0)] := hl
  refine lv_aload_n X.1 X.2.1 dX11_restore_0 rfl (lv_at hl 0 rfl) ?_
  refine va_get (D := g.1) (ci := 10) (v := .ref na) (C := RX11) (T := TX11) (N := 11) X.1 X.2.1 X.2.2.2.2 iwX11 X.2.2.2.1 hK hP 0 rfl rfl 8 (by decide) (X.2.2.2.2 _ q244) (fun _ h9 => h9) rfl dX11_restore_1 ?_
  refine (c_sn_taken g na nw nb k0 n0 tk s0 f0).callV (rest := []) X dX11_restore_4 q940 tX7_isTaken hK (hP.sub [4, 5, 6] rfl) 0 7 rfl rfl rfl hl ⟨⟨Nat.le_of_ble_eq_true rfl, Nat.le_of_ble_eq_true rfl⟩, Nat.le_of_ble_eq_true rfl, Nat.le_of_ble_eq_true rfl⟩ rfl rfl (Nat.le_of_ble_eq_true rfl) ?_
  refine b_if_ne (tgt := 13) X dX11_restore_7 (by decide) (fun c7 => ?_) (fun c7 => ?_)
  · refine lv_aload_n X.1 X.2.1 dX11_restore_13 rfl (lv_at hl 0 rfl) ?_
    refine va_get (D := g.1) (ci := 10) (v := .ref na) (C := RX11) (T := TX11) (N := 11) X.1 X.2.1 X.2.2.2.2 iwX11 X.2.2.2.1 hK hP 0 rfl rfl 8 (by decide) (X.2.2.2.2 _ q244) (fun _ h9 => h9) rfl dX11_restore_14 ?_
    refine lv_aload_n X.1 X.2.1 dX11_restore_17 rfl (lv_at hl 0 rfl) ?_
    refine va_get (D := g.1) (ci := 10) (v := .ref sa) (C := RX11) (T := TX11) (N := 11) X.1 X.2.1 X.2.2.2.2 iwX11 X.2.2.2.1 hK hP 0 rfl rfl 0 (by decide) (X.2.2.2.2 _ q236) (fun _ h9 => h9) rfl dX11_restore_18 ?_
    refine lv_aload_n X.1 X.2.1 dX11_restore_21 rfl (lv_at hl 0 rfl) ?_
    refine va_get (D := g.1) (ci := 10) (v := .ref qa) (C := RX11) (T := TX11) (N := 11) X.1 X.2.1 X.2.2.2.2 iwX11 X.2.2.2.1 hK hP 0 rfl rfl 1 (by decide) (X.2.2.2.2 _ q237) (fun _ h9 => h9) rfl dX11_restore_22 ?_
    refine (c_sn_give g na nw nb k0 n0 tk s0 f0 sa k n B T qa qb s f B0 T0 (by assumption) (by omega) (by assumption)).callV (rest := []) (wr := [(b0, .inr (10, [.ref sa, .ref qa, .ref da, .ref ka, .ref o, .ref ca, .ref pa, .ref ha, .ref na, .ref ta, .ref ua])), (pa, .inr (5, [.ref pb, .int (nI p.length)])), (pb, .inl (g.2.1, 8, .inl fp)), (ha, .inr (3, [.ref hr_, .ref hz_, .int (nI nx), .int (nI h.length)])), (hr_, .inl (g.2.1, 1536, .inl fr)), (hz_, .inl (g.2.1, 6, .inl fz))]) X dX11_restore_25 q944 tX7_giveBack hK hP hD hS hA [4, 5, 6, 1, 2, 3] [0, 7, 8, 9, 10, 11] (by decide) rfl rfl (by decide) (by decide) 0 7 rfl rfl rfl hl ⟨⟨Nat.le_of_ble_eq_true rfl, Nat.le_of_ble_eq_true rfl⟩, Nat.le_of_ble_eq_true rfl, Nat.le_of_ble_eq_true rfl⟩ rfl rfl (Nat.le_of_ble_eq_true rfl) (fun u25 H locs hw25 hP hD hS => ?_)
    obtain ⟨f1_25, rfl⟩ : ∃ z, z = u25 := ⟨_, rfl⟩
    have hP : PP g [(b0, .inr (10, [.ref sa, .ref qa, .ref da, .ref ka, .ref o, .ref ca, .ref pa, .ref ha, .ref na, .ref ta, .ref ua])), (pa, .inr (5, [.ref pb, .int (nI p.length)])), (pb, .inl (g.2.1, 8, .inl fp)), (ha, .inr (3, [.ref hr_, .ref hz_, .int (nI nx), .int (nI h.length)])), (hr_, .inl (g.2.1, 1536, .inl fr)), (hz_, .inl (g.2.1, 6, .inl fz)), (na, .inr (7, [.ref nw, .int (nI k0), .int (nI n0), .int (bI tk)])), (nw, .inr (9, [.ref nb, .int (nI s0.length)])), (nb, .inl (g.2.1, 256, .inl f0)), (sa, .inr (6, [.int (nI k0), .int (nI n0), .int (nI B0), .int (nI T0)])), (qa, .inr (9, [.ref qb, .int (nI s0.length)])), (qb, .inl (g.2.1, 256, .inl f1_25))] H := hP
    have hD : va_D A [(b0, .inr (10, [.ref sa, .ref qa, .ref da, .ref ka, .ref o, .ref ca, .ref pa, .ref ha, .ref na, .ref ta, .ref ua])), (pa, .inr (5, [.ref pb, .int (nI p.length)])), (pb, .inl (g.2.1, 8, .inl fp)), (ha, .inr (3, [.ref hr_, .ref hz_, .int (nI nx), .int (nI h.length)])), (hr_, .inl (g.2.1, 1536, .inl fr)), (hz_, .inl (g.2.1, 6, .inl fz)), (na, .inr (7, [.ref nw, .int (nI k0), .int (nI n0), .int (bI tk)])), (nw, .inr (9, [.ref nb, .int (nI s0.length)])), (nb, .inl (g.2.1, 256, .inl f0)), (sa, .inr (6, [.int (nI k0), .int (nI n0), .int (nI B0), .int (nI T0)])), (qa, .inr (9, [.ref qb, .int (nI s0.length)])), (qb, .inl (g.2.1, 256, .inl f1_25))] := hD
    try dsimp only at hw25
    refine lv_aload_n X.1 X.2.1 dX11_restore_28 rfl (lv_at hl 0 rfl) ?_
    refine (b_forget g b0 sa qa da ka o ca pa ha na ta ua pb p fp hr_ hz_ nx h fr fz).callV (rest := []) (wr := [(na, .inr (7, [.ref nw, .int (nI k0), .int (nI n0), .int (bI tk)])), (nw, .inr (9, [.ref nb, .int (nI s0.length)])), (nb, .inl (g.2.1, 256, .inl f0)), (sa, .inr (6, [.int (nI k0), .int (nI n0), .int (nI B0), .int (nI T0)])), (qa, .inr (9, [.ref qb, .int (nI s0.length)])), (qb, .inl (g.2.1, 256, .inl f1_25))]) X dX11_restore_29 q288 tX11_forgetPatternAndHistory hK hP hD hS hA [0, 1, 2, 3, 4, 5] [6, 7, 8, 9, 10, 11] (by decide) rfl rfl (by decide) (by decide) 0 10 rfl rfl rfl hl ⟨⟨Nat.le_of_ble_eq_true rfl, Nat.le_of_ble_eq_true rfl⟩, Nat.le_of_ble_eq_true rfl, Nat.le_of_ble_eq_true rfl⟩ rfl rfl (Nat.le_of_ble_eq_true rfl) (fun u29 H locs hw29 hP hD hS => ?_)
    obtain ⟨fp1_29, rfl⟩ : ∃ z, z = u29 := ⟨_, rfl⟩
    have hP : PP g [(na, .inr (7, [.ref nw, .int (nI k0), .int (nI n0), .int (bI tk)])), (nw, .inr (9, [.ref nb, .int (nI s0.length)])), (nb, .inl (g.2.1, 256, .inl f0)), (sa, .inr (6, [.int (nI k0), .int (nI n0), .int (nI B0), .int (nI T0)])), (qa, .inr (9, [.ref qb, .int (nI s0.length)])), (qb, .inl (g.2.1, 256, .inl f1_25)), (b0, .inr (10, [.ref sa, .ref qa, .ref da, .ref ka, .ref o, .ref ca, .ref pa, .ref ha, .ref na, .ref ta, .ref ua])), (pa, .inr (5, [.ref pb, .int (nI (([] : List Int).length))])), (pb, .inl (g.2.1, 8, .inl fp1_29)), (ha, .inr (3, [.ref hr_, .ref hz_, .int (nI nx), .int (nI (([] : List (List Nat)).length))])), (hr_, .inl (g.2.1, 1536, .inl fr)), (hz_, .inl (g.2.1, 6, .inl fz))] H := hP
    have hD : va_D A [(na, .inr (7, [.ref nw, .int (nI k0), .int (nI n0), .int (bI tk)])), (nw, .inr (9, [.ref nb, .int (nI s0.length)])), (nb, .inl (g.2.1, 256, .inl f0)), (sa, .inr (6, [.int (nI k0), .int (nI n0), .int (nI B0), .int (nI T0)])), (qa, .inr (9, [.ref qb, .int (nI s0.length)])), (qb, .inl (g.2.1, 256, .inl f1_25)), (b0, .inr (10, [.ref sa, .ref qa, .ref da, .ref ka, .ref o, .ref ca, .ref pa, .ref ha, .ref na, .ref ta, .ref ua])), (pa, .inr (5, [.ref pb, .int (nI (([] : List Int).length))])), (pb, .inl (g.2.1, 8, .inl fp1_29)), (ha, .inr (3, [.ref hr_, .ref hz_, .int (nI nx), .int (nI (([] : List (List Nat)).length))])), (hr_, .inl (g.2.1, 1536, .inl fr)), (hz_, .inl (g.2.1, 6, .inl fz))] := hD
    try dsimp only at hw29
    refine lv_aload_n X.1 X.2.1 dX11_restore_32 rfl (lv_at hl 0 rfl) ?_
    refine va_get (D := g.1) (ci := 10) (v := .ref qa) (C := RX11) (T := TX11) (N := 11) X.1 X.2.1 X.2.2.2.2 iwX11 X.2.2.2.1 hK hP 6 rfl rfl 1 (by decide) (X.2.2.2.2 _ q237) (fun _ h9 => h9) rfl dX11_restore_33 ?_
    refine (c_Word_size g qa qb s0 f1_25).callV (rest := []) X dX11_restore_36 q324 tX10_size hK (hP.sub [4, 5] rfl) 0 9 rfl rfl rfl hl ⟨⟨Nat.le_of_ble_eq_true rfl, Nat.le_of_ble_eq_true rfl⟩, Nat.le_of_ble_eq_true rfl, Nat.le_of_ble_eq_true rfl⟩ rfl rfl (Nat.le_of_ble_eq_true rfl) ?_
    exact MuI.ret X hr hlk hK hS dX11_restore_39 (nI_nar _) (f1_25, fp1_29) (hP.sub [6, 3, 4, 5, 0, 1, 2, 7, 8, 9, 10, 11] rfl) (hD.sub [6, 3, 4, 5, 0, 1, 2, 7, 8, 9, 10, 11] (by decide) rfl) (⟨rfl, hw25, hw29⟩)
  · exfalso; rw [htk] at c7; cases c7

set_option maxHeartbeats 4000000 in
set_option maxRecDepth 100000 in
theorem b_restore_no (g : G5) (b0 : Nat) (sa : Nat) (qa : Nat) (da : Nat) (ka : Nat) (o : Nat) (ca : Nat) (pa : Nat) (ha : Nat) (na : Nat) (ta : Nat) (ua : Nat) (nw : Nat) (nb : Nat) (k0 : Nat) (n0 : Nat) (tk : Bool) (s0 : List Nat) (f0 : Nat → Int32) (htk : tk = false) : PuI yX11_restore cX11_restore 1 (some .int) 4 106 g [.ref b0] [(b0, .inr (10, [.ref sa, .ref qa, .ref da, .ref ka, .ref o, .ref ca, .ref pa, .ref ha, .ref na, .ref ta, .ref ua])), (na, .inr (7, [.ref nw, .int (nI k0), .int (nI n0), .int (bI tk)])), (nw, .inr (9, [.ref nb, .int (nI s0.length)])), (nb, .inl (g.2.1, 256, .inl f0))] (-7) := by
  refine PuI.of (by decide +kernel) (Nat.le_of_ble_eq_true rfl) ?_
  intro p_ l_ e_ S_ m_ args below meth co X hr hlk hP hK ls hl
  have X : CallFix p_ m_ co cX11_restore 1 S_ args lw_all RX11 := X
  have hl : lv_has ls 1 [(0, .ref b0)] := hl
  refine lv_aload_n X.1 X.2.1 dX11_restore_0 rfl (lv_at hl 0 rfl) ?_
  refine va_get (D := g.1) (ci := 10) (v := .ref na) (C := RX11) (T := TX11) (N := 11) X.1 X.2.1 X.2.2.2.2 iwX11 X.2.2.2.1 hK hP 0 rfl rfl 8 (by decide) (X.2.2.2.2 _ q244) (fun _ h9 => h9) rfl dX11_restore_1 ?_
  refine (c_sn_taken g na nw nb k0 n0 tk s0 f0).callV (rest := []) X dX11_restore_4 q940 tX7_isTaken hK (hP.sub [1, 2, 3] rfl) 0 7 rfl rfl rfl hl ⟨⟨Nat.le_of_ble_eq_true rfl, Nat.le_of_ble_eq_true rfl⟩, Nat.le_of_ble_eq_true rfl, Nat.le_of_ble_eq_true rfl⟩ rfl rfl (Nat.le_of_ble_eq_true rfl) ?_
  refine b_if_ne (tgt := 13) X dX11_restore_7 (by decide) (fun c7 => ?_) (fun c7 => ?_)
  · exfalso; rw [htk] at c7; cases c7
  · refine lv_bipush (v := (-7)) X.1 X.2.1 dX11_restore_10 (by decide) ?_
    exact PuI.ret X hr hlk dX11_restore_12 (nI_nar _) (rfl)

set_option maxHeartbeats 4000000 in
set_option maxRecDepth 100000 in
theorem b_isTable (g : G5) (x : Int32) : PuI yX11_isTable cX11_isTable 1 (some .boolean) 0 0 g [.int x] [] (bI (decide (x.toInt = 0 ∨ x.toInt = 1))) := by
  refine PuI.of (by decide +kernel) (Nat.le_of_ble_eq_true rfl) ?_
  intro p_ l_ e_ S_ m_ args below meth co X hr hlk hP hK ls hl
  have X : CallFix p_ m_ co cX11_isTable 1 S_ args lw_all RX11 := X
  have hl : lv_has ls 1 [(0, .int x)] := hl
  refine lv_iload_n X.1 X.2.1 dX11_isTable_0 rfl (lv_at hl 0 rfl) ?_
  refine z_if_eq (tgt := 9) X dX11_isTable_1 (by decide) rfl (fun c1 => ?_) (fun c1 => ?_)
  · refine lv_iconst (v := (nI 1)) X.1 X.2.1 dX11_isTable_9 (by decide) ?_
    refine lv_goto (tgt := 14) X.1 X.2.1 dX11_isTable_10 (by decide) ?_
    exact PuI.ret X hr hlk dX11_isTable_14 (bI_nar _) (by first | exact bt (by exact decide_eq_true (by omega)) | exact bf (by exact decide_eq_false (by omega)))
  · refine lv_iload_n X.1 X.2.1 dX11_isTable_4 rfl (lv_at hl 0 rfl) ?_
    refine lv_iconst (v := (nI 1)) X.1 X.2.1 dX11_isTable_5 (by decide) ?_
    refine z_icmp_ne (tgt := 13) X dX11_isTable_6 (by decide) rfl (nI_toInt (by omega)) (fun c6 => ?_) (fun c6 => ?_)
    · refine lv_iconst (v := (nI 0)) X.1 X.2.1 dX11_isTable_13 (by decide) ?_
      exact PuI.ret X hr hlk dX11_isTable_14 (bI_nar _) (by first | exact bt (by exact decide_eq_true (by omega)) | exact bf (by exact decide_eq_false (by omega)))
    · refine lv_iconst (v := (nI 1)) X.1 X.2.1 dX11_isTable_9 (by decide) ?_
      refine lv_goto (tgt := 14) X.1 X.2.1 dX11_isTable_10 (by decide) ?_
      exact PuI.ret X hr hlk dX11_isTable_14 (bI_nar _) (by first | exact bt (by exact decide_eq_true (by omega)) | exact bf (by exact decide_eq_false (by omega)))

set_option maxHeartbeats 4000000 in
set_option maxRecDepth 100000 in
theorem b_tableOf0 (g : G5) (b0 : Nat) (sa : Nat) (qa : Nat) (da : Nat) (ka : Nat) (o : Nat) (ca : Nat) (pa : Nat) (ha : Nat) (na : Nat) (ta : Nat) (ua : Nat) : PuR yX11_tableOf cX11_tableOf 2 (some (.object "DeBruijnWorkbench$Table")) 0 0 g [.ref b0, .int (nI 0)] [(b0, .inr (10, [.ref sa, .ref qa, .ref da, .ref ka, .ref o, .ref ca, .ref pa, .ref ha, .ref na, .ref ta, .ref ua]))] ta := by
  refine PuR.of (by decide +kernel) (Nat.le_of_ble_eq_true rfl) ?_
  intro p_ l_ e_ S_ m_ args below meth co X hr hlk hP hK ls hl
  have X : CallFix p_ m_ co cX11_tableOf 2 S_ args lw_all RX11 := X
  have hl : lv_has ls 2 [(0, .ref b0), (1, .int (nI 0))] := hl
  refine lv_iload_n X.1 X.2.1 dX11_tableOf_0 rfl (lv_at hl 1 rfl) ?_
  refine z_if_ne (tgt := 11) X dX11_tableOf_1 (by decide) (nI_toInt (by omega)) (fun c1 => ?_) (fun c1 => ?_)
  · exfalso; omega
  · refine lv_aload_n X.1 X.2.1 dX11_tableOf_4 rfl (lv_at hl 0 rfl) ?_
    refine va_get (D := g.1) (ci := 10) (v := .ref ta) (C := RX11) (T := TX11) (N := 11) X.1 X.2.1 X.2.2.2.2 iwX11 X.2.2.2.1 hK hP 0 rfl rfl 9 (by decide) (X.2.2.2.2 _ q245) (fun _ h9 => h9) rfl dX11_tableOf_5 ?_
    refine lv_goto (tgt := 15) X.1 X.2.1 dX11_tableOf_8 (by decide) ?_
    exact PuR.done X hr hlk dX11_tableOf_15 (rfl)

set_option maxHeartbeats 4000000 in
set_option maxRecDepth 100000 in
theorem b_tableOf1 (g : G5) (b0 : Nat) (sa : Nat) (qa : Nat) (da : Nat) (ka : Nat) (o : Nat) (ca : Nat) (pa : Nat) (ha : Nat) (na : Nat) (ta : Nat) (ua : Nat) : PuR yX11_tableOf cX11_tableOf 2 (some (.object "DeBruijnWorkbench$Table")) 0 0 g [.ref b0, .int (nI 1)] [(b0, .inr (10, [.ref sa, .ref qa, .ref da, .ref ka, .ref o, .ref ca, .ref pa, .ref ha, .ref na, .ref ta, .ref ua]))] ua := by
  refine PuR.of (by decide +kernel) (Nat.le_of_ble_eq_true rfl) ?_
  intro p_ l_ e_ S_ m_ args below meth co X hr hlk hP hK ls hl
  have X : CallFix p_ m_ co cX11_tableOf 2 S_ args lw_all RX11 := X
  have hl : lv_has ls 2 [(0, .ref b0), (1, .int (nI 1))] := hl
  refine lv_iload_n X.1 X.2.1 dX11_tableOf_0 rfl (lv_at hl 1 rfl) ?_
  refine z_if_ne (tgt := 11) X dX11_tableOf_1 (by decide) (nI_toInt (by omega)) (fun c1 => ?_) (fun c1 => ?_)
  · refine lv_aload_n X.1 X.2.1 dX11_tableOf_11 rfl (lv_at hl 0 rfl) ?_
    refine va_get (D := g.1) (ci := 10) (v := .ref ua) (C := RX11) (T := TX11) (N := 11) X.1 X.2.1 X.2.2.2.2 iwX11 X.2.2.2.1 hK hP 0 rfl rfl 10 (by decide) (X.2.2.2.2 _ q246) (fun _ h9 => h9) rfl dX11_tableOf_12 ?_
    exact PuR.done X hr hlk dX11_tableOf_15 (rfl)
  · exfalso; omega

set_option maxHeartbeats 4000000 in
set_option maxRecDepth 100000 in
theorem b_writeTable_bad (g : G5) (b0 : Nat) (sa : Nat) (qa : Nat) (da : Nat) (ka : Nat) (o : Nat) (ca : Nat) (pa : Nat) (ha : Nat) (na : Nat) (ta : Nat) (ua : Nat) (x : Int32) (y0 : Int32) (y1 : Int32) (hno : ¬ (x.toInt = 0 ∨ x.toInt = 1)) : PuI yX11_writeTable cX11_writeTable 5 (some .int) 2 43 g [.ref b0, .int x, .int y0, .int y1] [(b0, .inr (10, [.ref sa, .ref qa, .ref da, .ref ka, .ref o, .ref ca, .ref pa, .ref ha, .ref na, .ref ta, .ref ua]))] (-1) := by
  refine PuI.of (by decide +kernel) (Nat.le_of_ble_eq_true rfl) ?_
  intro p_ l_ e_ S_ m_ args below meth co X hr hlk hP hK ls hl
  have X : CallFix p_ m_ co cX11_writeTable 5 S_ args lw_all RX11 := X
  have hl : lv_has ls 5 [(0, .ref b0), (1, .int x), (2, .int y0), (3, .int y1)] := hl
  refine lv_iload_n X.1 X.2.1 dX11_writeTable_0 rfl (lv_at hl 1 rfl) ?_
  refine (b_isTable g x).callS (rest := []) X dX11_writeTable_1 q953 tX11_isTable hK (hP.sub [] rfl) hl ⟨⟨Nat.le_of_ble_eq_true rfl, Nat.le_of_ble_eq_true rfl⟩, Nat.le_of_ble_eq_true rfl, Nat.le_of_ble_eq_true rfl⟩ rfl rfl (Nat.le_of_ble_eq_true rfl) ?_
  refine b_if_ne (tgt := 9) X dX11_writeTable_4 (by decide) (fun c4 => ?_) (fun c4 => ?_)
  · exfalso; exact hno (of_decide_eq_true c4)
  · refine lv_iconst (v := (-1)) X.1 X.2.1 dX11_writeTable_7 (by decide) ?_
    exact PuI.ret X hr hlk dX11_writeTable_8 (nI_nar _) (rfl)

set_option maxHeartbeats 4000000 in
set_option maxRecDepth 100000 in
theorem b_readTable_bad (g : G5) (b0 : Nat) (sa : Nat) (qa : Nat) (da : Nat) (ka : Nat) (o : Nat) (ca : Nat) (pa : Nat) (ha : Nat) (na : Nat) (ta : Nat) (ua : Nat) (x : Int32) (y0 : Int32) (hno : ¬ (x.toInt = 0 ∨ x.toInt = 1)) : PuI yX11_readTable cX11_readTable 4 (some .int) 2 42 g [.ref b0, .int x, .int y0] [(b0, .inr (10, [.ref sa, .ref qa, .ref da, .ref ka, .ref o, .ref ca, .ref pa, .ref ha, .ref na, .ref ta, .ref ua]))] (-1) := by
  refine PuI.of (by decide +kernel) (Nat.le_of_ble_eq_true rfl) ?_
  intro p_ l_ e_ S_ m_ args below meth co X hr hlk hP hK ls hl
  have X : CallFix p_ m_ co cX11_readTable 4 S_ args lw_all RX11 := X
  have hl : lv_has ls 4 [(0, .ref b0), (1, .int x), (2, .int y0)] := hl
  refine lv_iload_n X.1 X.2.1 dX11_readTable_0 rfl (lv_at hl 1 rfl) ?_
  refine (b_isTable g x).callS (rest := []) X dX11_readTable_1 q953 tX11_isTable hK (hP.sub [] rfl) hl ⟨⟨Nat.le_of_ble_eq_true rfl, Nat.le_of_ble_eq_true rfl⟩, Nat.le_of_ble_eq_true rfl, Nat.le_of_ble_eq_true rfl⟩ rfl rfl (Nat.le_of_ble_eq_true rfl) ?_
  refine b_if_ne (tgt := 9) X dX11_readTable_4 (by decide) (fun c4 => ?_) (fun c4 => ?_)
  · exfalso; exact hno (of_decide_eq_true c4)
  · refine lv_iconst (v := (-1)) X.1 X.2.1 dX11_readTable_7 (by decide) ?_
    exact PuI.ret X hr hlk dX11_readTable_8 (nI_nar _) (rfl)

set_option maxHeartbeats 4000000 in
set_option maxRecDepth 100000 in
theorem b_exportTable_bad (g : G5) (b0 : Nat) (sa : Nat) (qa : Nat) (da : Nat) (ka : Nat) (o : Nat) (ca : Nat) (pa : Nat) (ha : Nat) (na : Nat) (ta : Nat) (ua : Nat) (x : Int32) (y0 : Int32) (hno : ¬ (x.toInt = 0 ∨ x.toInt = 1)) : PuI yX11_exportTable cX11_exportTable 6 (some .int) 2 43 g [.ref b0, .int x, .int y0] [(b0, .inr (10, [.ref sa, .ref qa, .ref da, .ref ka, .ref o, .ref ca, .ref pa, .ref ha, .ref na, .ref ta, .ref ua]))] (-1) := by
  refine PuI.of (by decide +kernel) (Nat.le_of_ble_eq_true rfl) ?_
  intro p_ l_ e_ S_ m_ args below meth co X hr hlk hP hK ls hl
  have X : CallFix p_ m_ co cX11_exportTable 6 S_ args lw_all RX11 := X
  have hl : lv_has ls 6 [(0, .ref b0), (1, .int x), (2, .int y0)] := hl
  refine lv_iload_n X.1 X.2.1 dX11_exportTable_0 rfl (lv_at hl 1 rfl) ?_
  refine (b_isTable g x).callS (rest := []) X dX11_exportTable_1 q953 tX11_isTable hK (hP.sub [] rfl) hl ⟨⟨Nat.le_of_ble_eq_true rfl, Nat.le_of_ble_eq_true rfl⟩, Nat.le_of_ble_eq_true rfl, Nat.le_of_ble_eq_true rfl⟩ rfl rfl (Nat.le_of_ble_eq_true rfl) ?_
  refine b_if_ne (tgt := 9) X dX11_exportTable_4 (by decide) (fun c4 => ?_) (fun c4 => ?_)
  · exfalso; exact hno (of_decide_eq_true c4)
  · refine lv_iconst (v := (-1)) X.1 X.2.1 dX11_exportTable_7 (by decide) ?_
    exact PuI.ret X hr hlk dX11_exportTable_8 (nI_nar _) (rfl)

set_option maxHeartbeats 4000000 in
set_option maxRecDepth 100000 in
theorem b_importTable_bad (g : G5) (b0 : Nat) (sa : Nat) (qa : Nat) (da : Nat) (ka : Nat) (o : Nat) (ca : Nat) (pa : Nat) (ha : Nat) (na : Nat) (ta : Nat) (ua : Nat) (x : Int32) (y : Int32) (hno : ¬ ((x.toInt = 0 ∨ x.toInt = 1) ∧ (y.toInt = 0 ∨ y.toInt = 1))) : PuI yX11_importTable cX11_importTable 7 (some .int) 4 105 g [.ref b0, .int x, .int y] [(b0, .inr (10, [.ref sa, .ref qa, .ref da, .ref ka, .ref o, .ref ca, .ref pa, .ref ha, .ref na, .ref ta, .ref ua]))] (-1) := by
  refine PuI.of (by decide +kernel) (Nat.le_of_ble_eq_true rfl) ?_
  intro p_ l_ e_ S_ m_ args below meth co X hr hlk hP hK ls hl
  have X : CallFix p_ m_ co cX11_importTable 7 S_ args lw_all RX11 := X
  have hl : lv_has ls 7 [(0, .ref b0), (1, .int x), (2, .int y)] := hl
  refine lv_iload_n X.1 X.2.1 dX11_importTable_0 rfl (lv_at hl 1 rfl) ?_
  refine (b_isTable g x).callS (rest := []) X dX11_importTable_1 q953 tX11_isTable hK (hP.sub [] rfl) hl ⟨⟨Nat.le_of_ble_eq_true rfl, Nat.le_of_ble_eq_true rfl⟩, Nat.le_of_ble_eq_true rfl, Nat.le_of_ble_eq_true rfl⟩ rfl rfl (Nat.le_of_ble_eq_true rfl) ?_
  refine b_if_eq (tgt := 14) X dX11_importTable_4 (by decide) (fun c4 => ?_) (fun c4 => ?_)
  · refine lv_iconst (v := (-1)) X.1 X.2.1 dX11_importTable_14 (by decide) ?_
    exact PuI.ret X hr hlk dX11_importTable_15 (nI_nar _) (rfl)
  · refine lv_iload_n X.1 X.2.1 dX11_importTable_7 rfl (lv_at hl 2 rfl) ?_
    refine (c_tb_type g y).callS (rest := []) X dX11_importTable_8 q956 tX9_isType hK (hP.sub [] rfl) hl ⟨⟨Nat.le_of_ble_eq_true rfl, Nat.le_of_ble_eq_true rfl⟩, Nat.le_of_ble_eq_true rfl, Nat.le_of_ble_eq_true rfl⟩ rfl rfl (Nat.le_of_ble_eq_true rfl) ?_
    refine b_if_ne (tgt := 16) X dX11_importTable_11 (by decide) (fun c11 => ?_) (fun c11 => ?_)
    · exfalso; exact hno ⟨of_decide_eq_true c4, of_decide_eq_true c11⟩
    · refine lv_iconst (v := (-1)) X.1 X.2.1 dX11_importTable_14 (by decide) ?_
      exact PuI.ret X hr hlk dX11_importTable_15 (nI_nar _) (rfl)

set_option maxHeartbeats 4000000 in
set_option maxRecDepth 100000 in
theorem b_createTable_no (g : G5) (b0 : Nat) (sa : Nat) (qa : Nat) (da : Nat) (ka : Nat) (o : Nat) (ca : Nat) (pa : Nat) (ha : Nat) (na : Nat) (ta : Nat) (ua : Nat) (x : Int32) (y : Int32) (z : Int32) (hno : ¬ ((x.toInt = 0 ∨ x.toInt = 1) ∧ (y.toInt = 0 ∨ y.toInt = 1) ∧ 0 ≤ z.toInt ∧ z.toInt ≤ 256)) : PuI yX11_createTable cX11_createTable 4 (some .int) 2 44 g [.ref b0, .int x, .int y, .int z] [(b0, .inr (10, [.ref sa, .ref qa, .ref da, .ref ka, .ref o, .ref ca, .ref pa, .ref ha, .ref na, .ref ta, .ref ua]))] (if (x.toInt = 0 ∨ x.toInt = 1) ∧ (y.toInt = 0 ∨ y.toInt = 1) ∧ z.toInt ≤ 256 then (-14) else (-1)) := by
  refine PuI.of (by decide +kernel) (Nat.le_of_ble_eq_true rfl) ?_
  intro p_ l_ e_ S_ m_ args below meth co X hr hlk hP hK ls hl
  have X : CallFix p_ m_ co cX11_createTable 4 S_ args lw_all RX11 := X
  have hl : lv_has ls 4 [(0, .ref b0), (1, .int x), (2, .int y), (3, .int z)] := hl
  refine lv_iload_n X.1 X.2.1 dX11_createTable_0 rfl (lv_at hl 1 rfl) ?_
  refine (b_isTable g x).callS (rest := []) X dX11_createTable_1 q953 tX11_isTable hK (hP.sub [] rfl) hl ⟨⟨Nat.le_of_ble_eq_true rfl, Nat.le_of_ble_eq_true rfl⟩, Nat.le_of_ble_eq_true rfl, Nat.le_of_ble_eq_true rfl⟩ rfl rfl (Nat.le_of_ble_eq_true rfl) ?_
  refine b_if_eq (tgt := 21) X dX11_createTable_4 (by decide) (fun c4 => ?_) (fun c4 => ?_)
  · refine lv_iconst (v := (-1)) X.1 X.2.1 dX11_createTable_21 (by decide) ?_
    exact PuI.ret X hr hlk dX11_createTable_22 (nI_nar _) (by rw [if_neg]; first | (exact fun h => by omega) | (exact fun h => of_decide_eq_false c4 h.1) | (exact fun h => of_decide_eq_false c11 h.2.1))
  · refine lv_iload_n X.1 X.2.1 dX11_createTable_7 rfl (lv_at hl 2 rfl) ?_
    refine (c_tb_type g y).callS (rest := []) X dX11_createTable_8 q956 tX9_isType hK (hP.sub [] rfl) hl ⟨⟨Nat.le_of_ble_eq_true rfl, Nat.le_of_ble_eq_true rfl⟩, Nat.le_of_ble_eq_true rfl, Nat.le_of_ble_eq_true rfl⟩ rfl rfl (Nat.le_of_ble_eq_true rfl) ?_
    refine b_if_eq (tgt := 21) X dX11_createTable_11 (by decide) (fun c11 => ?_) (fun c11 => ?_)
    · refine lv_iconst (v := (-1)) X.1 X.2.1 dX11_createTable_21 (by decide) ?_
      exact PuI.ret X hr hlk dX11_createTable_22 (nI_nar _) (by rw [if_neg]; first | (exact fun h => by omega) | (exact fun h => of_decide_eq_false c4 h.1) | (exact fun h => of_decide_eq_false c11 h.2.1))
    · refine lv_iload_n X.1 X.2.1 dX11_createTable_14 rfl (lv_at hl 3 rfl) ?_
      refine lv_sipush (v := (nI 256)) X.1 X.2.1 dX11_createTable_15 (by decide) ?_
      refine z_icmp_le (tgt := 23) X dX11_createTable_18 (by decide) rfl (nI_toInt (by omega)) (fun c18 => ?_) (fun c18 => ?_)
      · refine lv_iload_n X.1 X.2.1 dX11_createTable_23 rfl (lv_at hl 3 rfl) ?_
        refine z_if_ge (tgt := 30) X dX11_createTable_24 (by decide) rfl (fun c24 => ?_) (fun c24 => ?_)
        · exfalso; exact hno ⟨of_decide_eq_true c4, of_decide_eq_true c11, by omega, by omega⟩
        · refine lv_bipush (v := (-14)) X.1 X.2.1 dX11_createTable_27 (by decide) ?_
          exact PuI.ret X hr hlk dX11_createTable_29 (nI_nar _) (by rw [if_pos ⟨of_decide_eq_true c4, of_decide_eq_true c11, by omega⟩])
      · refine lv_iconst (v := (-1)) X.1 X.2.1 dX11_createTable_21 (by decide) ?_
        exact PuI.ret X hr hlk dX11_createTable_22 (nI_nar _) (by rw [if_neg]; first | (exact fun h => by omega) | (exact fun h => of_decide_eq_false c4 h.1) | (exact fun h => of_decide_eq_false c11 h.2.1))

set_option maxHeartbeats 4000000 in
set_option maxRecDepth 100000 in
theorem b_createTable0 (g : G5) (b0 : Nat) (sa : Nat) (qa : Nat) (da : Nat) (ka : Nat) (o : Nat) (ca : Nat) (pa : Nat) (ha : Nat) (na : Nat) (ta : Nat) (ua : Nat) (tc_ : Nat) (ty : Int) (v : List Int32) (ft : Nat → Int32) (i : Nat) (m : Nat) (hi : i < 2) (hm : m ≤ 256) : MuI (S := (Nat → Int32)) yX11_createTable cX11_createTable 4 (some .int) 2 44 g [.ref b0, .int (nI 0), .int (nI i), .int (nI m)] [(b0, .inr (10, [.ref sa, .ref qa, .ref da, .ref ka, .ref o, .ref ca, .ref pa, .ref ha, .ref na, .ref ta, .ref ua])), (ta, .inr (8, [.ref tc_, .int (iI ty), .int (nI v.length)])), (tc_, .inl (g.2.1, 256, .inl ft))] (fun r ft1 => r = (nI 1) ∧ repT ft1 (List.replicate m 0)) (fun ft1 => [(b0, .inr (10, [.ref sa, .ref qa, .ref da, .ref ka, .ref o, .ref ca, .ref pa, .ref ha, .ref na, .ref ta, .ref ua])), (ta, .inr (8, [.ref tc_, .int (iI ((i : Nat) : Int)), .int (nI ((List.replicate m (0 : Int32)).length))])), (tc_, .inl (g.2.1, 256, .inl ft1))]) := by
  refine MuI.of (by decide +kernel) (Nat.le_of_ble_eq_true rfl) ?_
  intro p_ l_ e_ S_ m_ args below meth co X hr hlk hP hK A hA hD hS ls hl
  have X : CallFix p_ m_ co cX11_createTable 4 S_ args lw_all RX11 := X
  have hl : lv_has ls 4 [(0, .ref b0), (1, .int (nI 0)), (2, .int (nI i)), (3, .int (nI m))] := hl
  have hit : decide ((nI 0).toInt = 0 ∨ (nI 0).toInt = 1) = true := by decide
  have hi2 : decide ((nI i).toInt = 0 ∨ (nI i).toInt = 1) = true := by rw [nI_toInt (by omega)]; exact decide_eq_true (by omega)
  refine lv_iload_n X.1 X.2.1 dX11_createTable_0 rfl (lv_at hl 1 rfl) ?_
  refine (b_isTable g (nI 0)).callS (rest := []) X dX11_createTable_1 q953 tX11_isTable hK (hP.sub [] rfl) hl ⟨⟨Nat.le_of_ble_eq_true rfl, Nat.le_of_ble_eq_true rfl⟩, Nat.le_of_ble_eq_true rfl, Nat.le_of_ble_eq_true rfl⟩ rfl rfl (Nat.le_of_ble_eq_true rfl) ?_
  refine b_if_eq (tgt := 21) X dX11_createTable_4 (by decide) (fun c4 => ?_) (fun c4 => ?_)
  · exfalso; rw [hit] at c4; cases c4
  · refine lv_iload_n X.1 X.2.1 dX11_createTable_7 rfl (lv_at hl 2 rfl) ?_
    refine (c_tb_type g (nI i)).callS (rest := []) X dX11_createTable_8 q956 tX9_isType hK (hP.sub [] rfl) hl ⟨⟨Nat.le_of_ble_eq_true rfl, Nat.le_of_ble_eq_true rfl⟩, Nat.le_of_ble_eq_true rfl, Nat.le_of_ble_eq_true rfl⟩ rfl rfl (Nat.le_of_ble_eq_true rfl) ?_
    refine b_if_eq (tgt := 21) X dX11_createTable_11 (by decide) (fun c11 => ?_) (fun c11 => ?_)
    · exfalso; rw [hi2] at c11; cases c11
    · refine lv_iload_n X.1 X.2.1 dX11_createTable_14 rfl (lv_at hl 3 rfl) ?_
      refine lv_sipush (v := (nI 256)) X.1 X.2.1 dX11_createTable_15 (by decide) ?_
      refine z_icmp_le (tgt := 23) X dX11_createTable_18 (by decide) (nI_toInt (by omega)) (nI_toInt (by omega)) (fun c18 => ?_) (fun c18 => ?_)
      · refine lv_iload_n X.1 X.2.1 dX11_createTable_23 rfl (lv_at hl 3 rfl) ?_
        refine z_if_ge (tgt := 30) X dX11_createTable_24 (by decide) (nI_toInt (by omega)) (fun c24 => ?_) (fun c24 => ?_)
        · refine lv_aload_n X.1 X.2.1 dX11_createTable_30 rfl (lv_at hl 0 rfl) ?_
          refine lv_iload_n X.1 X.2.1 dX11_createTable_31 rfl (lv_at hl 1 rfl) ?_
          refine (b_tableOf0 g b0 sa qa da ka o ca pa ha na ta ua).callV (rest := []) X dX11_createTable_32 q959 tX11_tableOf hK (hP.sub [0] rfl) 0 10 rfl rfl rfl hl ⟨⟨Nat.le_of_ble_eq_true rfl, Nat.le_of_ble_eq_true rfl⟩, Nat.le_of_ble_eq_true rfl, Nat.le_of_ble_eq_true rfl⟩ rfl rfl (Nat.le_of_ble_eq_true rfl) ?_
          refine lv_iload_n X.1 X.2.1 dX11_createTable_35 rfl (lv_at hl 2 rfl) ?_
          refine lv_iload_n X.1 X.2.1 dX11_createTable_36 rfl (lv_at hl 3 rfl) ?_
          refine (c_tb_create g ta tc_ ty v ft i m (by omega)).callV (rest := []) (wr := [(b0, .inr (10, [.ref sa, .ref qa, .ref da, .ref ka, .ref o, .ref ca, .ref pa, .ref ha, .ref na, .ref ta, .ref ua]))]) X dX11_createTable_37 q963 tX9_create hK hP hD hS hA [1, 2] [0] (by decide) rfl rfl (by decide) (by decide) 0 8 rfl rfl rfl hl ⟨⟨Nat.le_of_ble_eq_true rfl, Nat.le_of_ble_eq_true rfl⟩, Nat.le_of_ble_eq_true rfl, Nat.le_of_ble_eq_true rfl⟩ rfl rfl (Nat.le_of_ble_eq_true rfl) (fun u37 H locs hw37 hP hD hS => ?_)
          obtain ⟨f1_37, rfl⟩ : ∃ z, z = u37 := ⟨_, rfl⟩
          have hP : PP g [(b0, .inr (10, [.ref sa, .ref qa, .ref da, .ref ka, .ref o, .ref ca, .ref pa, .ref ha, .ref na, .ref ta, .ref ua])), (ta, .inr (8, [.ref tc_, .int (iI ((i : Nat) : Int)), .int (nI ((List.replicate m (0 : Int32)).length))])), (tc_, .inl (g.2.1, 256, .inl f1_37))] H := hP
          have hD : va_D A [(b0, .inr (10, [.ref sa, .ref qa, .ref da, .ref ka, .ref o, .ref ca, .ref pa, .ref ha, .ref na, .ref ta, .ref ua])), (ta, .inr (8, [.ref tc_, .int (iI ((i : Nat) : Int)), .int (nI ((List.replicate m (0 : Int32)).length))])), (tc_, .inl (g.2.1, 256, .inl f1_37))] := hD
          try dsimp only at hw37
          refine lv_iconst (v := (nI 1)) X.1 X.2.1 dX11_createTable_40 (by decide) ?_
          exact MuI.ret X hr hlk hK hS dX11_createTable_41 (nI_nar _) f1_37 (hP.sub [0, 1, 2] rfl) (hD.sub [0, 1, 2] (by decide) rfl) (⟨rfl, hw37⟩)
        · exfalso; omega
      · exfalso; omega

set_option maxHeartbeats 4000000 in
set_option maxRecDepth 100000 in
theorem b_writeTable0 (g : G5) (b0 : Nat) (sa : Nat) (qa : Nat) (da : Nat) (ka : Nat) (o : Nat) (ca : Nat) (pa : Nat) (ha : Nat) (na : Nat) (ta : Nat) (ua : Nat) (tc_ : Nat) (ty : Int) (v : List Int32) (ft : Nat → Int32) (j : Nat) (x : Int32) (hv : v.length ≤ 256) (hft : repT ft v) (hty : -1 ≤ ty ∧ ty ≤ 1) (hty2 : ty ≠ -1) (hj : j < v.length) : MuI (S := (Nat → Int32)) yX11_writeTable cX11_writeTable 5 (some .int) 2 43 g [.ref b0, .int (nI 0), .int (nI j), .int x] [(b0, .inr (10, [.ref sa, .ref qa, .ref da, .ref ka, .ref o, .ref ca, .ref pa, .ref ha, .ref na, .ref ta, .ref ua])), (ta, .inr (8, [.ref tc_, .int (iI ty), .int (nI v.length)])), (tc_, .inl (g.2.1, 256, .inl ft))] (fun r ft1 => r = (nI 1) ∧ repT ft1 (v.set j (narT ty x))) (fun ft1 => [(b0, .inr (10, [.ref sa, .ref qa, .ref da, .ref ka, .ref o, .ref ca, .ref pa, .ref ha, .ref na, .ref ta, .ref ua])), (ta, .inr (8, [.ref tc_, .int (iI ty), .int (nI ((v.set j (narT ty x)).length))])), (tc_, .inl (g.2.1, 256, .inl ft1))]) := by
  refine MuI.of (by decide +kernel) (Nat.le_of_ble_eq_true rfl) ?_
  intro p_ l_ e_ S_ m_ args below meth co X hr hlk hP hK A hA hD hS ls hl
  have X : CallFix p_ m_ co cX11_writeTable 5 S_ args lw_all RX11 := X
  have hl : lv_has ls 5 [(0, .ref b0), (1, .int (nI 0)), (2, .int (nI j)), (3, .int x)] := hl
  have hit : decide ((nI 0).toInt = 0 ∨ (nI 0).toInt = 1) = true := by decide
  have h7 : hasB (nI j) v.length = true := by rw [hasB_N (by omega)]; exact decide_eq_true hj
  refine lv_iload_n X.1 X.2.1 dX11_writeTable_0 rfl (lv_at hl 1 rfl) ?_
  refine (b_isTable g (nI 0)).callS (rest := []) X dX11_writeTable_1 q953 tX11_isTable hK (hP.sub [] rfl) hl ⟨⟨Nat.le_of_ble_eq_true rfl, Nat.le_of_ble_eq_true rfl⟩, Nat.le_of_ble_eq_true rfl, Nat.le_of_ble_eq_true rfl⟩ rfl rfl (Nat.le_of_ble_eq_true rfl) ?_
  refine b_if_ne (tgt := 9) X dX11_writeTable_4 (by decide) (fun c4 => ?_) (fun c4 => ?_)
  · refine lv_aload_n X.1 X.2.1 dX11_writeTable_9 rfl (lv_at hl 0 rfl) ?_
    refine lv_iload_n X.1 X.2.1 dX11_writeTable_10 rfl (lv_at hl 1 rfl) ?_
    refine (b_tableOf0 g b0 sa qa da ka o ca pa ha na ta ua).callV (rest := []) X dX11_writeTable_11 q959 tX11_tableOf hK (hP.sub [0] rfl) 0 10 rfl rfl rfl hl ⟨⟨Nat.le_of_ble_eq_true rfl, Nat.le_of_ble_eq_true rfl⟩, Nat.le_of_ble_eq_true rfl, Nat.le_of_ble_eq_true rfl⟩ rfl rfl (Nat.le_of_ble_eq_true rfl) ?_
    refine lv_astore (lv' := [(4, .ref ta), (0, .ref b0), (1, .int (nI 0)), (2, .int (nI j)), (3, .int x)]) X.1 X.2.1 dX11_writeTable_14 hl (by decide) rfl (fun ls hl => ?_)
    refine lv_aload X.1 X.2.1 dX11_writeTable_16 (lv_at hl 0 rfl) ?_
    refine (c_tb_miss g ta tc_ ty v ft (by omega)).callV (rest := []) X dX11_writeTable_18 q973 tX9_isMissing hK (hP.sub [1, 2] rfl) 0 8 rfl rfl rfl hl ⟨⟨Nat.le_of_ble_eq_true rfl, Nat.le_of_ble_eq_true rfl⟩, Nat.le_of_ble_eq_true rfl, Nat.le_of_ble_eq_true rfl⟩ rfl rfl (Nat.le_of_ble_eq_true rfl) ?_
    refine b_if_eq (tgt := 27) X dX11_writeTable_21 (by decide) (fun c21 => ?_) (fun c21 => ?_)
    · refine lv_aload X.1 X.2.1 dX11_writeTable_27 (lv_at hl 0 rfl) ?_
      refine lv_iload_n X.1 X.2.1 dX11_writeTable_29 rfl (lv_at hl 3 rfl) ?_
      refine (c_tb_has g ta tc_ ty v ft (nI j) (by omega)).callV (rest := []) X dX11_writeTable_30 q977 tX9_has hK (hP.sub [1, 2] rfl) 0 8 rfl rfl rfl hl ⟨⟨Nat.le_of_ble_eq_true rfl, Nat.le_of_ble_eq_true rfl⟩, Nat.le_of_ble_eq_true rfl, Nat.le_of_ble_eq_true rfl⟩ rfl rfl (Nat.le_of_ble_eq_true rfl) ?_
      refine b_if_ne (tgt := 39) X dX11_writeTable_33 (by decide) (fun c33 => ?_) (fun c33 => ?_)
      · refine lv_aload X.1 X.2.1 dX11_writeTable_39 (lv_at hl 0 rfl) ?_
        refine lv_iload_n X.1 X.2.1 dX11_writeTable_41 rfl (lv_at hl 3 rfl) ?_
        refine lv_iload_n X.1 X.2.1 dX11_writeTable_42 rfl (lv_at hl 4 rfl) ?_
        refine (c_tb_put g ta tc_ ty v ft j x (by omega) (by assumption) (by omega) (by omega)).callV (rest := []) (wr := [(b0, .inr (10, [.ref sa, .ref qa, .ref da, .ref ka, .ref o, .ref ca, .ref pa, .ref ha, .ref na, .ref ta, .ref ua]))]) X dX11_writeTable_43 q981 tX9_put hK hP hD hS hA [1, 2] [0] (by decide) rfl rfl (by decide) (by decide) 0 8 rfl rfl rfl hl ⟨⟨Nat.le_of_ble_eq_true rfl, Nat.le_of_ble_eq_true rfl⟩, Nat.le_of_ble_eq_true rfl, Nat.le_of_ble_eq_true rfl⟩ rfl rfl (Nat.le_of_ble_eq_true rfl) (fun u43 H locs hw43 hP hD hS => ?_)
        obtain ⟨f1_43, rfl⟩ : ∃ z, z = u43 := ⟨_, rfl⟩
        have hP : PP g [(b0, .inr (10, [.ref sa, .ref qa, .ref da, .ref ka, .ref o, .ref ca, .ref pa, .ref ha, .ref na, .ref ta, .ref ua])), (ta, .inr (8, [.ref tc_, .int (iI ty), .int (nI ((v.set j (narT ty x)).length))])), (tc_, .inl (g.2.1, 256, .inl f1_43))] H := hP
        have hD : va_D A [(b0, .inr (10, [.ref sa, .ref qa, .ref da, .ref ka, .ref o, .ref ca, .ref pa, .ref ha, .ref na, .ref ta, .ref ua])), (ta, .inr (8, [.ref tc_, .int (iI ty), .int (nI ((v.set j (narT ty x)).length))])), (tc_, .inl (g.2.1, 256, .inl f1_43))] := hD
        try dsimp only at hw43
        refine lv_iconst (v := (nI 1)) X.1 X.2.1 dX11_writeTable_46 (by decide) ?_
        exact MuI.ret X hr hlk hK hS dX11_writeTable_47 (nI_nar _) f1_43 (hP.sub [0, 1, 2] rfl) (hD.sub [0, 1, 2] (by decide) rfl) (⟨rfl, hw43⟩)
      · exfalso; rw [h7] at c33; cases c33
    · exfalso; exact hty2 (of_decide_eq_true c21)
  · exfalso; rw [hit] at c4; cases c4

set_option maxHeartbeats 4000000 in
set_option maxRecDepth 100000 in
theorem b_writeTable_no0 (g : G5) (b0 : Nat) (sa : Nat) (qa : Nat) (da : Nat) (ka : Nat) (o : Nat) (ca : Nat) (pa : Nat) (ha : Nat) (na : Nat) (ta : Nat) (ua : Nat) (tc_ : Nat) (ty : Int) (v : List Int32) (ft : Nat → Int32) (y : Int32) (x : Int32) (hv : v.length ≤ 256) (hft : repT ft v) (hty : -1 ≤ ty ∧ ty ≤ 1) (hno : ty = -1 ∨ hasB y v.length = false) : PuI yX11_writeTable cX11_writeTable 5 (some .int) 2 43 g [.ref b0, .int (nI 0), .int y, .int x] [(b0, .inr (10, [.ref sa, .ref qa, .ref da, .ref ka, .ref o, .ref ca, .ref pa, .ref ha, .ref na, .ref ta, .ref ua])), (ta, .inr (8, [.ref tc_, .int (iI ty), .int (nI v.length)])), (tc_, .inl (g.2.1, 256, .inl ft))] (if ty = -1 then (-11) else (-13)) := by
  refine PuI.of (by decide +kernel) (Nat.le_of_ble_eq_true rfl) ?_
  intro p_ l_ e_ S_ m_ args below meth co X hr hlk hP hK ls hl
  have X : CallFix p_ m_ co cX11_writeTable 5 S_ args lw_all RX11 := X
  have hl : lv_has ls 5 [(0, .ref b0), (1, .int (nI 0)), (2, .int y), (3, .int x)] := hl
  have hit : decide ((nI 0).toInt = 0 ∨ (nI 0).toInt = 1) = true := by decide
  refine lv_iload_n X.1 X.2.1 dX11_writeTable_0 rfl (lv_at hl 1 rfl) ?_
  refine (b_isTable g (nI 0)).callS (rest := []) X dX11_writeTable_1 q953 tX11_isTable hK (hP.sub [] rfl) hl ⟨⟨Nat.le_of_ble_eq_true rfl, Nat.le_of_ble_eq_true rfl⟩, Nat.le_of_ble_eq_true rfl, Nat.le_of_ble_eq_true rfl⟩ rfl rfl (Nat.le_of_ble_eq_true rfl) ?_
  refine b_if_ne (tgt := 9) X dX11_writeTable_4 (by decide) (fun c4 => ?_) (fun c4 => ?_)
  · refine lv_aload_n X.1 X.2.1 dX11_writeTable_9 rfl (lv_at hl 0 rfl) ?_
    refine lv_iload_n X.1 X.2.1 dX11_writeTable_10 rfl (lv_at hl 1 rfl) ?_
    refine (b_tableOf0 g b0 sa qa da ka o ca pa ha na ta ua).callV (rest := []) X dX11_writeTable_11 q959 tX11_tableOf hK (hP.sub [0] rfl) 0 10 rfl rfl rfl hl ⟨⟨Nat.le_of_ble_eq_true rfl, Nat.le_of_ble_eq_true rfl⟩, Nat.le_of_ble_eq_true rfl, Nat.le_of_ble_eq_true rfl⟩ rfl rfl (Nat.le_of_ble_eq_true rfl) ?_
    refine lv_astore (lv' := [(4, .ref ta), (0, .ref b0), (1, .int (nI 0)), (2, .int y), (3, .int x)]) X.1 X.2.1 dX11_writeTable_14 hl (by decide) rfl (fun ls hl => ?_)
    refine lv_aload X.1 X.2.1 dX11_writeTable_16 (lv_at hl 0 rfl) ?_
    refine (c_tb_miss g ta tc_ ty v ft (by omega)).callV (rest := []) X dX11_writeTable_18 q973 tX9_isMissing hK (hP.sub [1, 2] rfl) 0 8 rfl rfl rfl hl ⟨⟨Nat.le_of_ble_eq_true rfl, Nat.le_of_ble_eq_true rfl⟩, Nat.le_of_ble_eq_true rfl, Nat.le_of_ble_eq_true rfl⟩ rfl rfl (Nat.le_of_ble_eq_true rfl) ?_
    refine b_if_eq (tgt := 27) X dX11_writeTable_21 (by decide) (fun c21 => ?_) (fun c21 => ?_)
    · refine lv_aload X.1 X.2.1 dX11_writeTable_27 (lv_at hl 0 rfl) ?_
      refine lv_iload_n X.1 X.2.1 dX11_writeTable_29 rfl (lv_at hl 3 rfl) ?_
      refine (c_tb_has g ta tc_ ty v ft y (by omega)).callV (rest := []) X dX11_writeTable_30 q977 tX9_has hK (hP.sub [1, 2] rfl) 0 8 rfl rfl rfl hl ⟨⟨Nat.le_of_ble_eq_true rfl, Nat.le_of_ble_eq_true rfl⟩, Nat.le_of_ble_eq_true rfl, Nat.le_of_ble_eq_true rfl⟩ rfl rfl (Nat.le_of_ble_eq_true rfl) ?_
      refine b_if_ne (tgt := 39) X dX11_writeTable_33 (by decide) (fun c33 => ?_) (fun c33 => ?_)
      · exfalso; (rcases hno with h | h) <;> first | exact of_decide_eq_false c21 h | (rw [h] at c33; cases c33)
      · refine lv_bipush (v := (-13)) X.1 X.2.1 dX11_writeTable_36 (by decide) ?_
        exact PuI.ret X hr hlk dX11_writeTable_38 (nI_nar _) (by rw [if_neg (of_decide_eq_false c21)])
    · refine lv_bipush (v := (-11)) X.1 X.2.1 dX11_writeTable_24 (by decide) ?_
      exact PuI.ret X hr hlk dX11_writeTable_26 (nI_nar _) (by rw [if_pos (of_decide_eq_true c21)])
  · exfalso; rw [hit] at c4; cases c4

set_option maxHeartbeats 4000000 in
set_option maxRecDepth 100000 in
theorem b_readTable0 (g : G5) (b0 : Nat) (sa : Nat) (qa : Nat) (da : Nat) (ka : Nat) (o : Nat) (ca : Nat) (pa : Nat) (ha : Nat) (na : Nat) (ta : Nat) (ua : Nat) (tc_ : Nat) (ty : Int) (v : List Int32) (ft : Nat → Int32) (y : Int32) (hv : v.length ≤ 256) (hft : repT ft v) (hty : -1 ≤ ty ∧ ty ≤ 1) : PuI yX11_readTable cX11_readTable 4 (some .int) 2 42 g [.ref b0, .int (nI 0), .int y] [(b0, .inr (10, [.ref sa, .ref qa, .ref da, .ref ka, .ref o, .ref ca, .ref pa, .ref ha, .ref na, .ref ta, .ref ua])), (ta, .inr (8, [.ref tc_, .int (iI ty), .int (nI v.length)])), (tc_, .inl (g.2.1, 256, .inl ft))] (a_readTable ty v y) := by
  refine PuI.of (by decide +kernel) (Nat.le_of_ble_eq_true rfl) ?_
  intro p_ l_ e_ S_ m_ args below meth co X hr hlk hP hK ls hl
  have X : CallFix p_ m_ co cX11_readTable 4 S_ args lw_all RX11 := X
  have hl : lv_has ls 4 [(0, .ref b0), (1, .int (nI 0)), (2, .int y)] := hl
  have hit : decide ((nI 0).toInt = 0 ∨ (nI 0).toInt = 1) = true := by decide
  refine lv_iload_n X.1 X.2.1 dX11_readTable_0 rfl (lv_at hl 1 rfl) ?_
  refine (b_isTable g (nI 0)).callS (rest := []) X dX11_readTable_1 q953 tX11_isTable hK (hP.sub [] rfl) hl ⟨⟨Nat.le_of_ble_eq_true rfl, Nat.le_of_ble_eq_true rfl⟩, Nat.le_of_ble_eq_true rfl, Nat.le_of_ble_eq_true rfl⟩ rfl rfl (Nat.le_of_ble_eq_true rfl) ?_
  refine b_if_ne (tgt := 9) X dX11_readTable_4 (by decide) (fun c4 => ?_) (fun c4 => ?_)
  · refine lv_aload_n X.1 X.2.1 dX11_readTable_9 rfl (lv_at hl 0 rfl) ?_
    refine lv_iload_n X.1 X.2.1 dX11_readTable_10 rfl (lv_at hl 1 rfl) ?_
    refine (b_tableOf0 g b0 sa qa da ka o ca pa ha na ta ua).callV (rest := []) X dX11_readTable_11 q959 tX11_tableOf hK (hP.sub [0] rfl) 0 10 rfl rfl rfl hl ⟨⟨Nat.le_of_ble_eq_true rfl, Nat.le_of_ble_eq_true rfl⟩, Nat.le_of_ble_eq_true rfl, Nat.le_of_ble_eq_true rfl⟩ rfl rfl (Nat.le_of_ble_eq_true rfl) ?_
    refine lv_astore_n (lv' := [(3, .ref ta), (0, .ref b0), (1, .int (nI 0)), (2, .int y)]) X.1 X.2.1 dX11_readTable_14 rfl hl (by decide) rfl (fun ls hl => ?_)
    refine lv_aload_n X.1 X.2.1 dX11_readTable_15 rfl (lv_at hl 0 rfl) ?_
    refine (c_tb_miss g ta tc_ ty v ft (by omega)).callV (rest := []) X dX11_readTable_16 q973 tX9_isMissing hK (hP.sub [1, 2] rfl) 0 8 rfl rfl rfl hl ⟨⟨Nat.le_of_ble_eq_true rfl, Nat.le_of_ble_eq_true rfl⟩, Nat.le_of_ble_eq_true rfl, Nat.le_of_ble_eq_true rfl⟩ rfl rfl (Nat.le_of_ble_eq_true rfl) ?_
    refine b_if_eq (tgt := 25) X dX11_readTable_19 (by decide) (fun c19 => ?_) (fun c19 => ?_)
    · refine lv_aload_n X.1 X.2.1 dX11_readTable_25 rfl (lv_at hl 0 rfl) ?_
      refine lv_iload_n X.1 X.2.1 dX11_readTable_26 rfl (lv_at hl 3 rfl) ?_
      refine (c_tb_has g ta tc_ ty v ft y (by omega)).callV (rest := []) X dX11_readTable_27 q977 tX9_has hK (hP.sub [1, 2] rfl) 0 8 rfl rfl rfl hl ⟨⟨Nat.le_of_ble_eq_true rfl, Nat.le_of_ble_eq_true rfl⟩, Nat.le_of_ble_eq_true rfl, Nat.le_of_ble_eq_true rfl⟩ rfl rfl (Nat.le_of_ble_eq_true rfl) ?_
      refine b_if_eq (tgt := 41) X dX11_readTable_30 (by decide) (fun c30 => ?_) (fun c30 => ?_)
      · refine lv_bipush (v := (-13)) X.1 X.2.1 dX11_readTable_41 (by decide) ?_
        exact PuI.ret X hr hlk dX11_readTable_43 (nI_nar _) (by unfold a_readTable; rw [if_neg (of_decide_eq_false c19), c30]; first | rfl | (rw [xN_N (by omega)]; rfl))
      · obtain ⟨j, hj, rfl⟩ := hasB_t c30
        refine lv_aload_n X.1 X.2.1 dX11_readTable_33 rfl (lv_at hl 0 rfl) ?_
        refine lv_iload_n X.1 X.2.1 dX11_readTable_34 rfl (lv_at hl 3 rfl) ?_
        refine (c_tb_at g ta tc_ ty v ft j (by omega) (by assumption) (by omega)).callV (rest := []) X dX11_readTable_35 q990 tX9_at hK (hP.sub [1, 2] rfl) 0 8 rfl rfl rfl hl ⟨⟨Nat.le_of_ble_eq_true rfl, Nat.le_of_ble_eq_true rfl⟩, Nat.le_of_ble_eq_true rfl, Nat.le_of_ble_eq_true rfl⟩ rfl rfl (Nat.le_of_ble_eq_true rfl) ?_
        refine lv_goto (tgt := 43) X.1 X.2.1 dX11_readTable_38 (by decide) ?_
        exact PuI.ret X hr hlk dX11_readTable_43 (nI_nar _) (by unfold a_readTable; rw [if_neg (of_decide_eq_false c19), c30]; first | rfl | (rw [xN_N (by omega)]; rfl))
    · refine lv_bipush (v := (-11)) X.1 X.2.1 dX11_readTable_22 (by decide) ?_
      exact PuI.ret X hr hlk dX11_readTable_24 (nI_nar _) (by unfold a_readTable; rw [if_pos (of_decide_eq_true c19)])
  · exfalso; rw [hit] at c4; cases c4

set_option maxHeartbeats 4000000 in
set_option maxRecDepth 100000 in
theorem b_exportTable_m0 (g : G5) (b0 : Nat) (sa : Nat) (qa : Nat) (da : Nat) (ka : Nat) (o : Nat) (ca : Nat) (pa : Nat) (ha : Nat) (na : Nat) (ta : Nat) (ua : Nat) (tc_ : Nat) (ty : Int) (v : List Int32) (ft : Nat → Int32) (y : Int32) (hv : v.length ≤ 256) (hft : repT ft v) (hty : -1 ≤ ty ∧ ty ≤ 1) (hty2 : ty = -1) : PuI yX11_exportTable cX11_exportTable 6 (some .int) 2 43 g [.ref b0, .int (nI 0), .int y] [(b0, .inr (10, [.ref sa, .ref qa, .ref da, .ref ka, .ref o, .ref ca, .ref pa, .ref ha, .ref na, .ref ta, .ref ua])), (ta, .inr (8, [.ref tc_, .int (iI ty), .int (nI v.length)])), (tc_, .inl (g.2.1, 256, .inl ft))] (-11) := by
  refine PuI.of (by decide +kernel) (Nat.le_of_ble_eq_true rfl) ?_
  intro p_ l_ e_ S_ m_ args below meth co X hr hlk hP hK ls hl
  have X : CallFix p_ m_ co cX11_exportTable 6 S_ args lw_all RX11 := X
  have hl : lv_has ls 6 [(0, .ref b0), (1, .int (nI 0)), (2, .int y)] := hl
  have hit : decide ((nI 0).toInt = 0 ∨ (nI 0).toInt = 1) = true := by decide
  refine lv_iload_n X.1 X.2.1 dX11_exportTable_0 rfl (lv_at hl 1 rfl) ?_
  refine (b_isTable g (nI 0)).callS (rest := []) X dX11_exportTable_1 q953 tX11_isTable hK (hP.sub [] rfl) hl ⟨⟨Nat.le_of_ble_eq_true rfl, Nat.le_of_ble_eq_true rfl⟩, Nat.le_of_ble_eq_true rfl, Nat.le_of_ble_eq_true rfl⟩ rfl rfl (Nat.le_of_ble_eq_true rfl) ?_
  refine b_if_ne (tgt := 9) X dX11_exportTable_4 (by decide) (fun c4 => ?_) (fun c4 => ?_)
  · refine lv_aload_n X.1 X.2.1 dX11_exportTable_9 rfl (lv_at hl 0 rfl) ?_
    refine lv_iload_n X.1 X.2.1 dX11_exportTable_10 rfl (lv_at hl 1 rfl) ?_
    refine (b_tableOf0 g b0 sa qa da ka o ca pa ha na ta ua).callV (rest := []) X dX11_exportTable_11 q959 tX11_tableOf hK (hP.sub [0] rfl) 0 10 rfl rfl rfl hl ⟨⟨Nat.le_of_ble_eq_true rfl, Nat.le_of_ble_eq_true rfl⟩, Nat.le_of_ble_eq_true rfl, Nat.le_of_ble_eq_true rfl⟩ rfl rfl (Nat.le_of_ble_eq_true rfl) ?_
    refine lv_astore_n (lv' := [(3, .ref ta), (0, .ref b0), (1, .int (nI 0)), (2, .int y)]) X.1 X.2.1 dX11_exportTable_14 rfl hl (by decide) rfl (fun ls hl => ?_)
    refine lv_aload_n X.1 X.2.1 dX11_exportTable_15 rfl (lv_at hl 0 rfl) ?_
    refine (c_tb_miss g ta tc_ ty v ft (by omega)).callV (rest := []) X dX11_exportTable_16 q973 tX9_isMissing hK (hP.sub [1, 2] rfl) 0 8 rfl rfl rfl hl ⟨⟨Nat.le_of_ble_eq_true rfl, Nat.le_of_ble_eq_true rfl⟩, Nat.le_of_ble_eq_true rfl, Nat.le_of_ble_eq_true rfl⟩ rfl rfl (Nat.le_of_ble_eq_true rfl) ?_
    refine b_if_eq (tgt := 25) X dX11_exportTable_19 (by decide) (fun c19 => ?_) (fun c19 => ?_)
    · exfalso; exact of_decide_eq_false c19 hty2
    · refine lv_bipush (v := (-11)) X.1 X.2.1 dX11_exportTable_22 (by decide) ?_
      exact PuI.ret X hr hlk dX11_exportTable_24 (nI_nar _) (rfl)
  · exfalso; rw [hit] at c4; cases c4

set_option maxHeartbeats 4000000 in
set_option maxRecDepth 100000 in
theorem b_exportTable0 (g : G5) (b0 : Nat) (sa : Nat) (qa : Nat) (da : Nat) (ka : Nat) (o : Nat) (ca : Nat) (pa : Nat) (ha : Nat) (na : Nat) (ta : Nat) (ua : Nat) (tc_ : Nat) (ty : Int) (v : List Int32) (ft : Nat → Int32) (qb : Nat) (s : List Nat) (f : Nat → Int32) (y : Int32) (hv : v.length ≤ 256) (hft : repT ft v) (hty : -1 ≤ ty ∧ ty ≤ 1) (hs : s.length ≤ 256) (hf : rep f s) (hb : bd s) (hty2 : ty ≠ -1) : MuI (S := (Nat → Int32)) yX11_exportTable cX11_exportTable 6 (some .int) 2 43 g [.ref b0, .int (nI 0), .int y] [(b0, .inr (10, [.ref sa, .ref qa, .ref da, .ref ka, .ref o, .ref ca, .ref pa, .ref ha, .ref na, .ref ta, .ref ua])), (ta, .inr (8, [.ref tc_, .int (iI ty), .int (nI v.length)])), (tc_, .inl (g.2.1, 256, .inl ft)), (qa, .inr (9, [.ref qb, .int (nI s.length)])), (qb, .inl (g.2.1, 256, .inl f))] (fun r ft1 => r = ((expL ty s y s.length 0 v).1) ∧ repT ft1 (expL ty s y s.length 0 v).2) (fun ft1 => [(b0, .inr (10, [.ref sa, .ref qa, .ref da, .ref ka, .ref o, .ref ca, .ref pa, .ref ha, .ref na, .ref ta, .ref ua])), (ta, .inr (8, [.ref tc_, .int (iI ty), .int (nI (((expL ty s y s.length 0 v).2).length))])), (tc_, .inl (g.2.1, 256, .inl ft1)), (qa, .inr (9, [.ref qb, .int (nI s.length)])), (qb, .inl (g.2.1, 256, .inl f))]) := by
  refine MuI.of (by decide +kernel) (Nat.le_of_ble_eq_true rfl) ?_
  intro p_ l_ e_ S_ m_ args below meth co X hr hlk hP hK A hA hD hS ls hl
  have X : CallFix p_ m_ co cX11_exportTable 6 S_ args lw_all RX11 := X
  have hl : lv_has ls 6 [(0, .ref b0), (1, .int (nI 0)), (2, .int y)] := hl
  have hit : decide ((nI 0).toInt = 0 ∨ (nI 0).toInt = 1) = true := by decide
  refine lv_iload_n X.1 X.2.1 dX11_exportTable_0 rfl (lv_at hl 1 rfl) ?_
  refine (b_isTable g (nI 0)).callS (rest := []) X dX11_exportTable_1 q953 tX11_isTable hK (hP.sub [] rfl) hl ⟨⟨Nat.le_of_ble_eq_true rfl, Nat.le_of_ble_eq_true rfl⟩, Nat.le_of_ble_eq_true rfl, Nat.le_of_ble_eq_true rfl⟩ rfl rfl (Nat.le_of_ble_eq_true rfl) ?_
  refine b_if_ne (tgt := 9) X dX11_exportTable_4 (by decide) (fun c4 => ?_) (fun c4 => ?_)
  · refine lv_aload_n X.1 X.2.1 dX11_exportTable_9 rfl (lv_at hl 0 rfl) ?_
    refine lv_iload_n X.1 X.2.1 dX11_exportTable_10 rfl (lv_at hl 1 rfl) ?_
    refine (b_tableOf0 g b0 sa qa da ka o ca pa ha na ta ua).callV (rest := []) X dX11_exportTable_11 q959 tX11_tableOf hK (hP.sub [0] rfl) 0 10 rfl rfl rfl hl ⟨⟨Nat.le_of_ble_eq_true rfl, Nat.le_of_ble_eq_true rfl⟩, Nat.le_of_ble_eq_true rfl, Nat.le_of_ble_eq_true rfl⟩ rfl rfl (Nat.le_of_ble_eq_true rfl) ?_
    refine lv_astore_n (lv' := [(3, .ref ta), (0, .ref b0), (1, .int (nI 0)), (2, .int y)]) X.1 X.2.1 dX11_exportTable_14 rfl hl (by decide) rfl (fun ls hl => ?_)
    refine lv_aload_n X.1 X.2.1 dX11_exportTable_15 rfl (lv_at hl 0 rfl) ?_
    refine (c_tb_miss g ta tc_ ty v ft (by omega)).callV (rest := []) X dX11_exportTable_16 q973 tX9_isMissing hK (hP.sub [1, 2] rfl) 0 8 rfl rfl rfl hl ⟨⟨Nat.le_of_ble_eq_true rfl, Nat.le_of_ble_eq_true rfl⟩, Nat.le_of_ble_eq_true rfl, Nat.le_of_ble_eq_true rfl⟩ rfl rfl (Nat.le_of_ble_eq_true rfl) ?_
    refine b_if_eq (tgt := 25) X dX11_exportTable_19 (by decide) (fun c19 => ?_) (fun c19 => ?_)
    · refine lv_aload_n X.1 X.2.1 dX11_exportTable_25 rfl (lv_at hl 1 rfl) ?_
      refine va_get (D := g.1) (ci := 10) (v := .ref qa) (C := RX11) (T := TX11) (N := 11) X.1 X.2.1 X.2.2.2.2 iwX11 X.2.2.2.1 hK hP 0 rfl rfl 1 (by decide) (X.2.2.2.2 _ q237) (fun _ h9 => h9) rfl dX11_exportTable_26 ?_
      refine (c_Word_size g qa qb s f).callV (rest := []) X dX11_exportTable_29 q324 tX10_size hK (hP.sub [3, 4] rfl) 0 9 rfl rfl rfl hl ⟨⟨Nat.le_of_ble_eq_true rfl, Nat.le_of_ble_eq_true rfl⟩, Nat.le_of_ble_eq_true rfl, Nat.le_of_ble_eq_true rfl⟩ rfl rfl (Nat.le_of_ble_eq_true rfl) ?_
      refine lv_istore (lv' := [(4, .int (nI s.length)), (3, .ref ta), (0, .ref b0), (1, .int (nI 0)), (2, .int y)]) X.1 X.2.1 dX11_exportTable_32 hl (by decide) rfl (fun ls hl => ?_)
      refine lv_iconst (v := (nI 0)) X.1 X.2.1 dX11_exportTable_34 (by decide) ?_
      refine lv_istore (lv' := [(5, .int (nI 0)), (4, .int (nI s.length)), (3, .ref ta), (0, .ref b0), (1, .int (nI 0)), (2, .int y)]) X.1 X.2.1 dX11_exportTable_35 hl (by decide) rfl (fun ls hl => ?_)
      have L37 : ∀ (r : Nat) (i : Nat) (v1 : List Int32) (f1 : Nat → Int32) (h1 : i + r = s.length) (hv1 : v1.length ≤ 256) (hq : expL ty s y r i v1 = expL ty s y s.length 0 v) (hft1 : repT f1 v1) (H : Heap) (locs : List Loc) (hP : PP g [(b0, .inr (10, [.ref sa, .ref qa, .ref da, .ref ka, .ref o, .ref ca, .ref pa, .ref ha, .ref na, .ref ta, .ref ua])), (ta, .inr (8, [.ref tc_, .int (iI ty), .int (nI v1.length)])), (tc_, .inl (g.2.1, 256, .inl f1)), (qa, .inr (9, [.ref qb, .int (nI s.length)])), (qb, .inl (g.2.1, 256, .inl f))] H) (hD : va_D A [(b0, .inr (10, [.ref sa, .ref qa, .ref da, .ref ka, .ref o, .ref ca, .ref pa, .ref ha, .ref na, .ref ta, .ref ua])), (ta, .inr (8, [.ref tc_, .int (iI ty), .int (nI v1.length)])), (tc_, .inl (g.2.1, 256, .inl f1)), (qa, .inr (9, [.ref qb, .int (nI s.length)])), (qb, .inl (g.2.1, 256, .inl f))]) (hS : va_S A S_.heap H locs) (ls : Array Slot) (hl : lv_has ls 6 [(5, .int (nI i)), (4, .int (nI s.length)), (3, .ref ta), (0, .ref b0), (1, .int (nI 0)), (2, .int y)]), W p_ l_ e_ { frames := 2, cells := 0, slots := 0, locals := 43 } S_ m_ args below meth co H locs 0 0 (MQ below (va_Qi (S := (Nat → Int32)) (fun r ft1 => r = ((expL ty s y s.length 0 v).1) ∧ repT ft1 (expL ty s y s.length 0 v).2) (MuB g A (fun ft1 => [(b0, .inr (10, [.ref sa, .ref qa, .ref da, .ref ka, .ref o, .ref ca, .ref pa, .ref ha, .ref na, .ref ta, .ref ua])), (ta, .inr (8, [.ref tc_, .int (iI ty), .int (nI (((expL ty s y s.length 0 v).2).length))])), (tc_, .inl (g.2.1, 256, .inl ft1)), (qa, .inr (9, [.ref qb, .int (nI s.length)])), (qb, .inl (g.2.1, 256, .inl f))])) A) args S_ 0 0 A) (F0 m_ 37 ls []) := by
        intro r
        induction r with
        | zero =>
          intro i v1 f1 h1 hv1 hq hft1 H locs hP hD hS ls hl
          have e9 : (nI s.length, v1) = expL ty s y s.length 0 v := hq
          refine lv_iload X.1 X.2.1 dX11_exportTable_37 (lv_at hl 0 rfl) ?_
          refine lv_iload X.1 X.2.1 dX11_exportTable_39 (lv_at hl 1 rfl) ?_
          refine z_icmp_ge (tgt := 86) X dX11_exportTable_41 (by decide) (nI_toInt (by omega)) (nI_toInt (by omega)) (fun c41 => ?_) (fun c41 => ?_)
          · refine lv_iload X.1 X.2.1 dX11_exportTable_86 (lv_at hl 1 rfl) ?_
            have hP : PP g [(b0, .inr (10, [.ref sa, .ref qa, .ref da, .ref ka, .ref o, .ref ca, .ref pa, .ref ha, .ref na, .ref ta, .ref ua])), (ta, .inr (8, [.ref tc_, .int (iI ty), .int (nI (((expL ty s y s.length 0 v).2).length))])), (tc_, .inl (g.2.1, 256, .inl f1)), (qa, .inr (9, [.ref qb, .int (nI s.length)])), (qb, .inl (g.2.1, 256, .inl f))] H := by rw [← congrArg Prod.snd e9]; exact hP
            have hD : va_D A [(b0, .inr (10, [.ref sa, .ref qa, .ref da, .ref ka, .ref o, .ref ca, .ref pa, .ref ha, .ref na, .ref ta, .ref ua])), (ta, .inr (8, [.ref tc_, .int (iI ty), .int (nI (((expL ty s y s.length 0 v).2).length))])), (tc_, .inl (g.2.1, 256, .inl f1)), (qa, .inr (9, [.ref qb, .int (nI s.length)])), (qb, .inl (g.2.1, 256, .inl f))] := by rw [← congrArg Prod.snd e9]; exact hD
            exact MuI.ret X hr hlk hK hS dX11_exportTable_88 (nI_nar _) f1 (hP.sub [0, 1, 2, 3, 4] rfl) (hD.sub [0, 1, 2, 3, 4] (by decide) rfl) (⟨congrArg Prod.fst e9, by rw [← congrArg Prod.snd e9]; exact hft1⟩)
          · exfalso; omega
        | succ r ih37 =>
          intro i v1 f1 h1 hv1 hq hft1 H locs hP hD hS ls hl
          refine lv_iload X.1 X.2.1 dX11_exportTable_37 (lv_at hl 0 rfl) ?_
          refine lv_iload X.1 X.2.1 dX11_exportTable_39 (lv_at hl 1 rfl) ?_
          refine z_icmp_ge (tgt := 86) X dX11_exportTable_41 (by decide) (nI_toInt (by omega)) (nI_toInt (by omega)) (fun c41 => ?_) (fun c41 => ?_)
          · exfalso; omega
          · refine lv_aload_n X.1 X.2.1 dX11_exportTable_44 rfl (lv_at hl 2 rfl) ?_
            refine lv_iload_n X.1 X.2.1 dX11_exportTable_45 rfl (lv_at hl 5 rfl) ?_
            refine lv_iload X.1 X.2.1 dX11_exportTable_46 (lv_at hl 0 rfl) ?_
            refine lv_iadd X.1 X.2.1 dX11_exportTable_48 ?_
            refine (c_tb_has g ta tc_ ty v1 f1 (y + (nI i)) (by omega)).callV (rest := []) X dX11_exportTable_49 q977 tX9_has hK (hP.sub [1, 2] rfl) 0 8 rfl rfl rfl hl ⟨⟨Nat.le_of_ble_eq_true rfl, Nat.le_of_ble_eq_true rfl⟩, Nat.le_of_ble_eq_true rfl, Nat.le_of_ble_eq_true rfl⟩ rfl rfl (Nat.le_of_ble_eq_true rfl) ?_
            refine b_if_ne (tgt := 58) X dX11_exportTable_52 (by decide) (fun c52 => ?_) (fun c52 => ?_)
            · rw [exp_has (by omega) (by omega)] at c52
              have h5 := of_decide_eq_true c52
              refine lv_aload_n X.1 X.2.1 dX11_exportTable_58 rfl (lv_at hl 2 rfl) ?_
              refine lv_iload_n X.1 X.2.1 dX11_exportTable_59 rfl (lv_at hl 5 rfl) ?_
              refine lv_iload X.1 X.2.1 dX11_exportTable_60 (lv_at hl 0 rfl) ?_
              refine lv_iadd X.1 X.2.1 dX11_exportTable_62 ?_
              refine tp_i (y := (nI ((y.toInt + (i : Int)).toNat))) (exp_idx (by omega) (by omega) h5.1 h5.2) ?_
              refine lv_aload_n X.1 X.2.1 dX11_exportTable_63 rfl (lv_at hl 2 rfl) ?_
              refine (c_tb_base g ta tc_ ty v1 f1 (by omega)).callV (rest := [.int (nI ((y.toInt + (i : Int)).toNat)), .ref ta]) X dX11_exportTable_64 q998 tX9_letterBase hK (hP.sub [1, 2] rfl) 0 8 rfl rfl rfl hl ⟨⟨Nat.le_of_ble_eq_true rfl, Nat.le_of_ble_eq_true rfl⟩, Nat.le_of_ble_eq_true rfl, Nat.le_of_ble_eq_true rfl⟩ rfl rfl (Nat.le_of_ble_eq_true rfl) ?_
              refine lv_aload_n X.1 X.2.1 dX11_exportTable_67 rfl (lv_at hl 3 rfl) ?_
              refine va_get (D := g.1) (ci := 10) (v := .ref qa) (C := RX11) (T := TX11) (N := 11) X.1 X.2.1 X.2.2.2.2 iwX11 X.2.2.2.1 hK hP 0 rfl rfl 1 (by decide) (X.2.2.2.2 _ q237) (fun _ h9 => h9) rfl dX11_exportTable_68 ?_
              refine lv_iload X.1 X.2.1 dX11_exportTable_71 (lv_at hl 0 rfl) ?_
              refine (c_Word_atN g qa qb s f i (by omega) (by assumption) (by omega)).callV (rest := [.int (nI (if ty = 1 then 97 else 0)), .int (nI ((y.toInt + (i : Int)).toNat)), .ref ta]) X dX11_exportTable_73 q332 tX10_at hK (hP.sub [3, 4] rfl) 0 9 rfl rfl rfl hl ⟨⟨Nat.le_of_ble_eq_true rfl, Nat.le_of_ble_eq_true rfl⟩, Nat.le_of_ble_eq_true rfl, Nat.le_of_ble_eq_true rfl⟩ rfl rfl (Nat.le_of_ble_eq_true rfl) ?_
              have hsb := bd_at hb i
              refine n_add X dX11_exportTable_76 ?_
              refine (c_tb_put g ta tc_ ty v1 f1 ((y.toInt + (i : Int)).toNat) (nI ((if ty = 1 then 97 else 0) + (s.getD i 0))) (by omega) (hft1) (by omega) (by omega)).callV (rest := []) (wr := [(b0, .inr (10, [.ref sa, .ref qa, .ref da, .ref ka, .ref o, .ref ca, .ref pa, .ref ha, .ref na, .ref ta, .ref ua])), (qa, .inr (9, [.ref qb, .int (nI s.length)])), (qb, .inl (g.2.1, 256, .inl f))]) X dX11_exportTable_77 q981 tX9_put hK hP hD hS hA [1, 2] [0, 3, 4] (by decide) rfl rfl (by decide) (by decide) 0 8 rfl rfl rfl hl ⟨⟨Nat.le_of_ble_eq_true rfl, Nat.le_of_ble_eq_true rfl⟩, Nat.le_of_ble_eq_true rfl, Nat.le_of_ble_eq_true rfl⟩ rfl rfl (Nat.le_of_ble_eq_true rfl) (fun u77 H locs hw77 hP hD hS => ?_)
              obtain ⟨f1_77, rfl⟩ : ∃ z, z = u77 := ⟨_, rfl⟩
              have hP : PP g [(b0, .inr (10, [.ref sa, .ref qa, .ref da, .ref ka, .ref o, .ref ca, .ref pa, .ref ha, .ref na, .ref ta, .ref ua])), (qa, .inr (9, [.ref qb, .int (nI s.length)])), (qb, .inl (g.2.1, 256, .inl f)), (ta, .inr (8, [.ref tc_, .int (iI ty), .int (nI ((v1.set ((y.toInt + (i : Int)).toNat) (narT ty (nI ((if ty = 1 then 97 else 0) + (s.getD i 0))))).length))])), (tc_, .inl (g.2.1, 256, .inl f1_77))] H := hP
              have hD : va_D A [(b0, .inr (10, [.ref sa, .ref qa, .ref da, .ref ka, .ref o, .ref ca, .ref pa, .ref ha, .ref na, .ref ta, .ref ua])), (qa, .inr (9, [.ref qb, .int (nI s.length)])), (qb, .inl (g.2.1, 256, .inl f)), (ta, .inr (8, [.ref tc_, .int (iI ty), .int (nI ((v1.set ((y.toInt + (i : Int)).toNat) (narT ty (nI ((if ty = 1 then 97 else 0) + (s.getD i 0))))).length))])), (tc_, .inl (g.2.1, 256, .inl f1_77))] := hD
              try dsimp only at hw77
              refine lv_iinc (v := (nI (i + 1))) (lv' := [(5, .int (nI (i + 1))), (4, .int (nI s.length)), (3, .ref ta), (0, .ref b0), (1, .int (nI 0)), (2, .int y)]) X.1 X.2.1 dX11_exportTable_80 hl (k := 0) rfl (nI_inc _) (by decide) rfl (fun ls hl => ?_)
              refine lv_goto (tgt := 37) X.1 X.2.1 dX11_exportTable_83 (by decide) ?_
              exact ih37 (i + 1) (v1.set (y.toInt + (i : Int)).toNat (narT ty (nI ((if ty = 1 then 97 else 0) + s.getD i 0)))) f1_77 (by omega) (by rw [List.length_set]; exact hv1) (by rw [expL, if_pos h5] at hq; rw [nar_let hsb rfl]; exact hq) (hw77) _ _ (hP.sub [0, 3, 4, 1, 2] rfl) (hD.sub [0, 3, 4, 1, 2] (by decide) rfl) hS ls (lv_sub hl [0, 1, 2, 3, 4, 5] rfl)
            · rw [exp_has (by omega) (by omega)] at c52
              have h5 := of_decide_eq_false c52
              have e9 : ((-13), v1) = expL ty s y s.length 0 v := by rw [expL, if_neg h5] at hq; exact hq
              refine lv_bipush (v := (-13)) X.1 X.2.1 dX11_exportTable_55 (by decide) ?_
              have hP : PP g [(b0, .inr (10, [.ref sa, .ref qa, .ref da, .ref ka, .ref o, .ref ca, .ref pa, .ref ha, .ref na, .ref ta, .ref ua])), (ta, .inr (8, [.ref tc_, .int (iI ty), .int (nI (((expL ty s y s.length 0 v).2).length))])), (tc_, .inl (g.2.1, 256, .inl f1)), (qa, .inr (9, [.ref qb, .int (nI s.length)])), (qb, .inl (g.2.1, 256, .inl f))] H := by rw [← congrArg Prod.snd e9]; exact hP
              have hD : va_D A [(b0, .inr (10, [.ref sa, .ref qa, .ref da, .ref ka, .ref o, .ref ca, .ref pa, .ref ha, .ref na, .ref ta, .ref ua])), (ta, .inr (8, [.ref tc_, .int (iI ty), .int (nI (((expL ty s y s.length 0 v).2).length))])), (tc_, .inl (g.2.1, 256, .inl f1)), (qa, .inr (9, [.ref qb, .int (nI s.length)])), (qb, .inl (g.2.1, 256, .inl f))] := by rw [← congrArg Prod.snd e9]; exact hD
              exact MuI.ret X hr hlk hK hS dX11_exportTable_57 (nI_nar _) f1 (hP.sub [0, 1, 2, 3, 4] rfl) (hD.sub [0, 1, 2, 3, 4] (by decide) rfl) (⟨congrArg Prod.fst e9, by rw [← congrArg Prod.snd e9]; exact hft1⟩)
      exact L37 s.length 0 v ft (by omega) (by omega) (rfl) (hft) _ _ (hP.sub [0, 1, 2, 3, 4] rfl) (hD.sub [0, 1, 2, 3, 4] (by decide) rfl) hS ls (lv_sub hl [0, 1, 2, 3, 4, 5] rfl)
    · exfalso; exact hty2 (of_decide_eq_true c19)
  · exfalso; rw [hit] at c4; cases c4

set_option maxHeartbeats 4000000 in
set_option maxRecDepth 100000 in
theorem b_importTable_m0 (g : G5) (b0 : Nat) (sa : Nat) (qa : Nat) (da : Nat) (ka : Nat) (o : Nat) (ca : Nat) (pa : Nat) (ha : Nat) (na : Nat) (ta : Nat) (ua : Nat) (tc_ : Nat) (ty : Int) (v : List Int32) (ft : Nat → Int32) (i : Nat) (hv : v.length ≤ 256) (hft : repT ft v) (hty : -1 ≤ ty ∧ ty ≤ 1) (hi : i < 2) (hty2 : ty = -1 ∨ ty ≠ ((i : Nat) : Int)) : PuI yX11_importTable cX11_importTable 7 (some .int) 4 105 g [.ref b0, .int (nI 0), .int (nI i)] [(b0, .inr (10, [.ref sa, .ref qa, .ref da, .ref ka, .ref o, .ref ca, .ref pa, .ref ha, .ref na, .ref ta, .ref ua])), (ta, .inr (8, [.ref tc_, .int (iI ty), .int (nI v.length)])), (tc_, .inl (g.2.1, 256, .inl ft))] (if ty = -1 then (-11) else (-12)) := by
  refine PuI.of (by decide +kernel) (Nat.le_of_ble_eq_true rfl) ?_
  intro p_ l_ e_ S_ m_ args below meth co X hr hlk hP hK ls hl
  have X : CallFix p_ m_ co cX11_importTable 7 S_ args lw_all RX11 := X
  have hl : lv_has ls 7 [(0, .ref b0), (1, .int (nI 0)), (2, .int (nI i))] := hl
  have hit : decide ((nI 0).toInt = 0 ∨ (nI 0).toInt = 1) = true := by decide
  have hi2 : decide ((nI i).toInt = 0 ∨ (nI i).toInt = 1) = true := by rw [nI_toInt (by omega)]; exact decide_eq_true (by omega)
  refine lv_iload_n X.1 X.2.1 dX11_importTable_0 rfl (lv_at hl 1 rfl) ?_
  refine (b_isTable g (nI 0)).callS (rest := []) X dX11_importTable_1 q953 tX11_isTable hK (hP.sub [] rfl) hl ⟨⟨Nat.le_of_ble_eq_true rfl, Nat.le_of_ble_eq_true rfl⟩, Nat.le_of_ble_eq_true rfl, Nat.le_of_ble_eq_true rfl⟩ rfl rfl (Nat.le_of_ble_eq_true rfl) ?_
  refine b_if_eq (tgt := 14) X dX11_importTable_4 (by decide) (fun c4 => ?_) (fun c4 => ?_)
  · exfalso; rw [hit] at c4; cases c4
  · refine lv_iload_n X.1 X.2.1 dX11_importTable_7 rfl (lv_at hl 2 rfl) ?_
    refine (c_tb_type g (nI i)).callS (rest := []) X dX11_importTable_8 q956 tX9_isType hK (hP.sub [] rfl) hl ⟨⟨Nat.le_of_ble_eq_true rfl, Nat.le_of_ble_eq_true rfl⟩, Nat.le_of_ble_eq_true rfl, Nat.le_of_ble_eq_true rfl⟩ rfl rfl (Nat.le_of_ble_eq_true rfl) ?_
    refine b_if_ne (tgt := 16) X dX11_importTable_11 (by decide) (fun c11 => ?_) (fun c11 => ?_)
    · refine lv_aload_n X.1 X.2.1 dX11_importTable_16 rfl (lv_at hl 0 rfl) ?_
      refine lv_iload_n X.1 X.2.1 dX11_importTable_17 rfl (lv_at hl 1 rfl) ?_
      refine (b_tableOf0 g b0 sa qa da ka o ca pa ha na ta ua).callV (rest := []) X dX11_importTable_18 q959 tX11_tableOf hK (hP.sub [0] rfl) 0 10 rfl rfl rfl hl ⟨⟨Nat.le_of_ble_eq_true rfl, Nat.le_of_ble_eq_true rfl⟩, Nat.le_of_ble_eq_true rfl, Nat.le_of_ble_eq_true rfl⟩ rfl rfl (Nat.le_of_ble_eq_true rfl) ?_
      refine lv_astore_n (lv' := [(3, .ref ta), (0, .ref b0), (1, .int (nI 0)), (2, .int (nI i))]) X.1 X.2.1 dX11_importTable_21 rfl hl (by decide) rfl (fun ls hl => ?_)
      refine lv_aload_n X.1 X.2.1 dX11_importTable_22 rfl (lv_at hl 0 rfl) ?_
      refine (c_tb_miss g ta tc_ ty v ft (by omega)).callV (rest := []) X dX11_importTable_23 q973 tX9_isMissing hK (hP.sub [1, 2] rfl) 0 8 rfl rfl rfl hl ⟨⟨Nat.le_of_ble_eq_true rfl, Nat.le_of_ble_eq_true rfl⟩, Nat.le_of_ble_eq_true rfl, Nat.le_of_ble_eq_true rfl⟩ rfl rfl (Nat.le_of_ble_eq_true rfl) ?_
      refine b_if_eq (tgt := 32) X dX11_importTable_26 (by decide) (fun c26 => ?_) (fun c26 => ?_)
      · refine lv_aload_n X.1 X.2.1 dX11_importTable_32 rfl (lv_at hl 0 rfl) ?_
        refine lv_iload_n X.1 X.2.1 dX11_importTable_33 rfl (lv_at hl 3 rfl) ?_
        refine (c_tb_of g ta tc_ ty v ft (nI i) (by omega)).callV (rest := []) X dX11_importTable_34 q1006 tX9_isOfType hK (hP.sub [1, 2] rfl) 0 8 rfl rfl rfl hl ⟨⟨Nat.le_of_ble_eq_true rfl, Nat.le_of_ble_eq_true rfl⟩, Nat.le_of_ble_eq_true rfl, Nat.le_of_ble_eq_true rfl⟩ rfl rfl (Nat.le_of_ble_eq_true rfl) ?_
        refine b_if_ne (tgt := 43) X dX11_importTable_37 (by decide) (fun c37 => ?_) (fun c37 => ?_)
        · exfalso; rw [nI_toInt (by omega)] at c37; have h6 := of_decide_eq_true c37; have h7 := of_decide_eq_false c26; omega
        · refine lv_bipush (v := (-12)) X.1 X.2.1 dX11_importTable_40 (by decide) ?_
          exact PuI.ret X hr hlk dX11_importTable_42 (nI_nar _) (by rw [if_neg (of_decide_eq_false c26)])
      · refine lv_bipush (v := (-11)) X.1 X.2.1 dX11_importTable_29 (by decide) ?_
        exact PuI.ret X hr hlk dX11_importTable_31 (nI_nar _) (by rw [if_pos (of_decide_eq_true c26)])
    · exfalso; rw [hi2] at c11; cases c11

set_option maxHeartbeats 4000000 in
set_option maxRecDepth 100000 in
theorem b_createTable1 (g : G5) (b0 : Nat) (sa : Nat) (qa : Nat) (da : Nat) (ka : Nat) (o : Nat) (ca : Nat) (pa : Nat) (ha : Nat) (na : Nat) (ta : Nat) (ua : Nat) (uc_ : Nat) (ty : Int) (v : List Int32) (ft : Nat → Int32) (i : Nat) (m : Nat) (hi : i < 2) (hm : m ≤ 256) : MuI (S := (Nat → Int32)) yX11_createTable cX11_createTable 4 (some .int) 2 44 g [.ref b0, .int (nI 1), .int (nI i), .int (nI m)] [(b0, .inr (10, [.ref sa, .ref qa, .ref da, .ref ka, .ref o, .ref ca, .ref pa, .ref ha, .ref na, .ref ta, .ref ua])), (ua, .inr (8, [.ref uc_, .int (iI ty), .int (nI v.length)])), (uc_, .inl (g.2.1, 256, .inl ft))] (fun r ft1 => r = (nI 1) ∧ repT ft1 (List.replicate m 0)) (fun ft1 => [(b0, .inr (10, [.ref sa, .ref qa, .ref da, .ref ka, .ref o, .ref ca, .ref pa, .ref ha, .ref na, .ref ta, .ref ua])), (ua, .inr (8, [.ref uc_, .int (iI ((i : Nat) : Int)), .int (nI ((List.replicate m (0 : Int32)).length))])), (uc_, .inl (g.2.1, 256, .inl ft1))]) := by
  refine MuI.of (by decide +kernel) (Nat.le_of_ble_eq_true rfl) ?_
  intro p_ l_ e_ S_ m_ args below meth co X hr hlk hP hK A hA hD hS ls hl
  have X : CallFix p_ m_ co cX11_createTable 4 S_ args lw_all RX11 := X
  have hl : lv_has ls 4 [(0, .ref b0), (1, .int (nI 1)), (2, .int (nI i)), (3, .int (nI m))] := hl
  have hit : decide ((nI 1).toInt = 0 ∨ (nI 1).toInt = 1) = true := by decide
  have hi2 : decide ((nI i).toInt = 0 ∨ (nI i).toInt = 1) = true := by rw [nI_toInt (by omega)]; exact decide_eq_true (by omega)
  refine lv_iload_n X.1 X.2.1 dX11_createTable_0 rfl (lv_at hl 1 rfl) ?_
  refine (b_isTable g (nI 1)).callS (rest := []) X dX11_createTable_1 q953 tX11_isTable hK (hP.sub [] rfl) hl ⟨⟨Nat.le_of_ble_eq_true rfl, Nat.le_of_ble_eq_true rfl⟩, Nat.le_of_ble_eq_true rfl, Nat.le_of_ble_eq_true rfl⟩ rfl rfl (Nat.le_of_ble_eq_true rfl) ?_
  refine b_if_eq (tgt := 21) X dX11_createTable_4 (by decide) (fun c4 => ?_) (fun c4 => ?_)
  · exfalso; rw [hit] at c4; cases c4
  · refine lv_iload_n X.1 X.2.1 dX11_createTable_7 rfl (lv_at hl 2 rfl) ?_
    refine (c_tb_type g (nI i)).callS (rest := []) X dX11_createTable_8 q956 tX9_isType hK (hP.sub [] rfl) hl ⟨⟨Nat.le_of_ble_eq_true rfl, Nat.le_of_ble_eq_true rfl⟩, Nat.le_of_ble_eq_true rfl, Nat.le_of_ble_eq_true rfl⟩ rfl rfl (Nat.le_of_ble_eq_true rfl) ?_
    refine b_if_eq (tgt := 21) X dX11_createTable_11 (by decide) (fun c11 => ?_) (fun c11 => ?_)
    · exfalso; rw [hi2] at c11; cases c11
    · refine lv_iload_n X.1 X.2.1 dX11_createTable_14 rfl (lv_at hl 3 rfl) ?_
      refine lv_sipush (v := (nI 256)) X.1 X.2.1 dX11_createTable_15 (by decide) ?_
      refine z_icmp_le (tgt := 23) X dX11_createTable_18 (by decide) (nI_toInt (by omega)) (nI_toInt (by omega)) (fun c18 => ?_) (fun c18 => ?_)
      · refine lv_iload_n X.1 X.2.1 dX11_createTable_23 rfl (lv_at hl 3 rfl) ?_
        refine z_if_ge (tgt := 30) X dX11_createTable_24 (by decide) (nI_toInt (by omega)) (fun c24 => ?_) (fun c24 => ?_)
        · refine lv_aload_n X.1 X.2.1 dX11_createTable_30 rfl (lv_at hl 0 rfl) ?_
          refine lv_iload_n X.1 X.2.1 dX11_createTable_31 rfl (lv_at hl 1 rfl) ?_
          refine (b_tableOf1 g b0 sa qa da ka o ca pa ha na ta ua).callV (rest := []) X dX11_createTable_32 q959 tX11_tableOf hK (hP.sub [0] rfl) 0 10 rfl rfl rfl hl ⟨⟨Nat.le_of_ble_eq_true rfl, Nat.le_of_ble_eq_true rfl⟩, Nat.le_of_ble_eq_true rfl, Nat.le_of_ble_eq_true rfl⟩ rfl rfl (Nat.le_of_ble_eq_true rfl) ?_
          refine lv_iload_n X.1 X.2.1 dX11_createTable_35 rfl (lv_at hl 2 rfl) ?_
          refine lv_iload_n X.1 X.2.1 dX11_createTable_36 rfl (lv_at hl 3 rfl) ?_
          refine (c_tb_create g ua uc_ ty v ft i m (by omega)).callV (rest := []) (wr := [(b0, .inr (10, [.ref sa, .ref qa, .ref da, .ref ka, .ref o, .ref ca, .ref pa, .ref ha, .ref na, .ref ta, .ref ua]))]) X dX11_createTable_37 q963 tX9_create hK hP hD hS hA [1, 2] [0] (by decide) rfl rfl (by decide) (by decide) 0 8 rfl rfl rfl hl ⟨⟨Nat.le_of_ble_eq_true rfl, Nat.le_of_ble_eq_true rfl⟩, Nat.le_of_ble_eq_true rfl, Nat.le_of_ble_eq_true rfl⟩ rfl rfl (Nat.le_of_ble_eq_true rfl) (fun u37 H locs hw37 hP hD hS => ?_)
          obtain ⟨f1_37, rfl⟩ : ∃ z, z = u37 := ⟨_, rfl⟩
          have hP : PP g [(b0, .inr (10, [.ref sa, .ref qa, .ref da, .ref ka, .ref o, .ref ca, .ref pa, .ref ha, .ref na, .ref ta, .ref ua])), (ua, .inr (8, [.ref uc_, .int (iI ((i : Nat) : Int)), .int (nI ((List.replicate m (0 : Int32)).length))])), (uc_, .inl (g.2.1, 256, .inl f1_37))] H := hP
          have hD : va_D A [(b0, .inr (10, [.ref sa, .ref qa, .ref da, .ref ka, .ref o, .ref ca, .ref pa, .ref ha, .ref na, .ref ta, .ref ua])), (ua, .inr (8, [.ref uc_, .int (iI ((i : Nat) : Int)), .int (nI ((List.replicate m (0 : Int32)).length))])), (uc_, .inl (g.2.1, 256, .inl f1_37))] := hD
          try dsimp only at hw37
          refine lv_iconst (v := (nI 1)) X.1 X.2.1 dX11_createTable_40 (by decide) ?_
          exact MuI.ret X hr hlk hK hS dX11_createTable_41 (nI_nar _) f1_37 (hP.sub [0, 1, 2] rfl) (hD.sub [0, 1, 2] (by decide) rfl) (⟨rfl, hw37⟩)
        · exfalso; omega
      · exfalso; omega

set_option maxHeartbeats 4000000 in
set_option maxRecDepth 100000 in
theorem b_writeTable1 (g : G5) (b0 : Nat) (sa : Nat) (qa : Nat) (da : Nat) (ka : Nat) (o : Nat) (ca : Nat) (pa : Nat) (ha : Nat) (na : Nat) (ta : Nat) (ua : Nat) (uc_ : Nat) (ty : Int) (v : List Int32) (ft : Nat → Int32) (j : Nat) (x : Int32) (hv : v.length ≤ 256) (hft : repT ft v) (hty : -1 ≤ ty ∧ ty ≤ 1) (hty2 : ty ≠ -1) (hj : j < v.length) : MuI (S := (Nat → Int32)) yX11_writeTable cX11_writeTable 5 (some .int) 2 43 g [.ref b0, .int (nI 1), .int (nI j), .int x] [(b0, .inr (10, [.ref sa, .ref qa, .ref da, .ref ka, .ref o, .ref ca, .ref pa, .ref ha, .ref na, .ref ta, .ref ua])), (ua, .inr (8, [.ref uc_, .int (iI ty), .int (nI v.length)])), (uc_, .inl (g.2.1, 256, .inl ft))] (fun r ft1 => r = (nI 1) ∧ repT ft1 (v.set j (narT ty x))) (fun ft1 => [(b0, .inr (10, [.ref sa, .ref qa, .ref da, .ref ka, .ref o, .ref ca, .ref pa, .ref ha, .ref na, .ref ta, .ref ua])), (ua, .inr (8, [.ref uc_, .int (iI ty), .int (nI ((v.set j (narT ty x)).length))])), (uc_, .inl (g.2.1, 256, .inl ft1))]) := by
  refine MuI.of (by decide +kernel) (Nat.le_of_ble_eq_true rfl) ?_
  intro p_ l_ e_ S_ m_ args below meth co X hr hlk hP hK A hA hD hS ls hl
  have X : CallFix p_ m_ co cX11_writeTable 5 S_ args lw_all RX11 := X
  have hl : lv_has ls 5 [(0, .ref b0), (1, .int (nI 1)), (2, .int (nI j)), (3, .int x)] := hl
  have hit : decide ((nI 1).toInt = 0 ∨ (nI 1).toInt = 1) = true := by decide
  have h7 : hasB (nI j) v.length = true := by rw [hasB_N (by omega)]; exact decide_eq_true hj
  refine lv_iload_n X.1 X.2.1 dX11_writeTable_0 rfl (lv_at hl 1 rfl) ?_
  refine (b_isTable g (nI 1)).callS (rest := []) X dX11_writeTable_1 q953 tX11_isTable hK (hP.sub [] rfl) hl ⟨⟨Nat.le_of_ble_eq_true rfl, Nat.le_of_ble_eq_true rfl⟩, Nat.le_of_ble_eq_true rfl, Nat.le_of_ble_eq_true rfl⟩ rfl rfl (Nat.le_of_ble_eq_true rfl) ?_
  refine b_if_ne (tgt := 9) X dX11_writeTable_4 (by decide) (fun c4 => ?_) (fun c4 => ?_)
  · refine lv_aload_n X.1 X.2.1 dX11_writeTable_9 rfl (lv_at hl 0 rfl) ?_
    refine lv_iload_n X.1 X.2.1 dX11_writeTable_10 rfl (lv_at hl 1 rfl) ?_
    refine (b_tableOf1 g b0 sa qa da ka o ca pa ha na ta ua).callV (rest := []) X dX11_writeTable_11 q959 tX11_tableOf hK (hP.sub [0] rfl) 0 10 rfl rfl rfl hl ⟨⟨Nat.le_of_ble_eq_true rfl, Nat.le_of_ble_eq_true rfl⟩, Nat.le_of_ble_eq_true rfl, Nat.le_of_ble_eq_true rfl⟩ rfl rfl (Nat.le_of_ble_eq_true rfl) ?_
    refine lv_astore (lv' := [(4, .ref ua), (0, .ref b0), (1, .int (nI 1)), (2, .int (nI j)), (3, .int x)]) X.1 X.2.1 dX11_writeTable_14 hl (by decide) rfl (fun ls hl => ?_)
    refine lv_aload X.1 X.2.1 dX11_writeTable_16 (lv_at hl 0 rfl) ?_
    refine (c_tb_miss g ua uc_ ty v ft (by omega)).callV (rest := []) X dX11_writeTable_18 q973 tX9_isMissing hK (hP.sub [1, 2] rfl) 0 8 rfl rfl rfl hl ⟨⟨Nat.le_of_ble_eq_true rfl, Nat.le_of_ble_eq_true rfl⟩, Nat.le_of_ble_eq_true rfl, Nat.le_of_ble_eq_true rfl⟩ rfl rfl (Nat.le_of_ble_eq_true rfl) ?_
    refine b_if_eq (tgt := 27) X dX11_writeTable_21 (by decide) (fun c21 => ?_) (fun c21 => ?_)
    · refine lv_aload X.1 X.2.1 dX11_writeTable_27 (lv_at hl 0 rfl) ?_
      refine lv_iload_n X.1 X.2.1 dX11_writeTable_29 rfl (lv_at hl 3 rfl) ?_
      refine (c_tb_has g ua uc_ ty v ft (nI j) (by omega)).callV (rest := []) X dX11_writeTable_30 q977 tX9_has hK (hP.sub [1, 2] rfl) 0 8 rfl rfl rfl hl ⟨⟨Nat.le_of_ble_eq_true rfl, Nat.le_of_ble_eq_true rfl⟩, Nat.le_of_ble_eq_true rfl, Nat.le_of_ble_eq_true rfl⟩ rfl rfl (Nat.le_of_ble_eq_true rfl) ?_
      refine b_if_ne (tgt := 39) X dX11_writeTable_33 (by decide) (fun c33 => ?_) (fun c33 => ?_)
      · refine lv_aload X.1 X.2.1 dX11_writeTable_39 (lv_at hl 0 rfl) ?_
        refine lv_iload_n X.1 X.2.1 dX11_writeTable_41 rfl (lv_at hl 3 rfl) ?_
        refine lv_iload_n X.1 X.2.1 dX11_writeTable_42 rfl (lv_at hl 4 rfl) ?_
        refine (c_tb_put g ua uc_ ty v ft j x (by omega) (by assumption) (by omega) (by omega)).callV (rest := []) (wr := [(b0, .inr (10, [.ref sa, .ref qa, .ref da, .ref ka, .ref o, .ref ca, .ref pa, .ref ha, .ref na, .ref ta, .ref ua]))]) X dX11_writeTable_43 q981 tX9_put hK hP hD hS hA [1, 2] [0] (by decide) rfl rfl (by decide) (by decide) 0 8 rfl rfl rfl hl ⟨⟨Nat.le_of_ble_eq_true rfl, Nat.le_of_ble_eq_true rfl⟩, Nat.le_of_ble_eq_true rfl, Nat.le_of_ble_eq_true rfl⟩ rfl rfl (Nat.le_of_ble_eq_true rfl) (fun u43 H locs hw43 hP hD hS => ?_)
        obtain ⟨f1_43, rfl⟩ : ∃ z, z = u43 := ⟨_, rfl⟩
        have hP : PP g [(b0, .inr (10, [.ref sa, .ref qa, .ref da, .ref ka, .ref o, .ref ca, .ref pa, .ref ha, .ref na, .ref ta, .ref ua])), (ua, .inr (8, [.ref uc_, .int (iI ty), .int (nI ((v.set j (narT ty x)).length))])), (uc_, .inl (g.2.1, 256, .inl f1_43))] H := hP
        have hD : va_D A [(b0, .inr (10, [.ref sa, .ref qa, .ref da, .ref ka, .ref o, .ref ca, .ref pa, .ref ha, .ref na, .ref ta, .ref ua])), (ua, .inr (8, [.ref uc_, .int (iI ty), .int (nI ((v.set j (narT ty x)).length))])), (uc_, .inl (g.2.1, 256, .inl f1_43))] := hD
        try dsimp only at hw43
        refine lv_iconst (v := (nI 1)) X.1 X.2.1 dX11_writeTable_46 (by decide) ?_
        exact MuI.ret X hr hlk hK hS dX11_writeTable_47 (nI_nar _) f1_43 (hP.sub [0, 1, 2] rfl) (hD.sub [0, 1, 2] (by decide) rfl) (⟨rfl, hw43⟩)
      · exfalso; rw [h7] at c33; cases c33
    · exfalso; exact hty2 (of_decide_eq_true c21)
  · exfalso; rw [hit] at c4; cases c4

set_option maxHeartbeats 4000000 in
set_option maxRecDepth 100000 in
theorem b_writeTable_no1 (g : G5) (b0 : Nat) (sa : Nat) (qa : Nat) (da : Nat) (ka : Nat) (o : Nat) (ca : Nat) (pa : Nat) (ha : Nat) (na : Nat) (ta : Nat) (ua : Nat) (uc_ : Nat) (ty : Int) (v : List Int32) (ft : Nat → Int32) (y : Int32) (x : Int32) (hv : v.length ≤ 256) (hft : repT ft v) (hty : -1 ≤ ty ∧ ty ≤ 1) (hno : ty = -1 ∨ hasB y v.length = false) : PuI yX11_writeTable cX11_writeTable 5 (some .int) 2 43 g [.ref b0, .int (nI 1), .int y, .int x] [(b0, .inr (10, [.ref sa, .ref qa, .ref da, .ref ka, .ref o, .ref ca, .ref pa, .ref ha, .ref na, .ref ta, .ref ua])), (ua, .inr (8, [.ref uc_, .int (iI ty), .int (nI v.length)])), (uc_, .inl (g.2.1, 256, .inl ft))] (if ty = -1 then (-11) else (-13)) := by
  refine PuI.of (by decide +kernel) (Nat.le_of_ble_eq_true rfl) ?_
  intro p_ l_ e_ S_ m_ args below meth co X hr hlk hP hK ls hl
  have X : CallFix p_ m_ co cX11_writeTable 5 S_ args lw_all RX11 := X
  have hl : lv_has ls 5 [(0, .ref b0), (1, .int (nI 1)), (2, .int y), (3, .int x)] := hl
  have hit : decide ((nI 1).toInt = 0 ∨ (nI 1).toInt = 1) = true := by decide
  refine lv_iload_n X.1 X.2.1 dX11_writeTable_0 rfl (lv_at hl 1 rfl) ?_
  refine (b_isTable g (nI 1)).callS (rest := []) X dX11_writeTable_1 q953 tX11_isTable hK (hP.sub [] rfl) hl ⟨⟨Nat.le_of_ble_eq_true rfl, Nat.le_of_ble_eq_true rfl⟩, Nat.le_of_ble_eq_true rfl, Nat.le_of_ble_eq_true rfl⟩ rfl rfl (Nat.le_of_ble_eq_true rfl) ?_
  refine b_if_ne (tgt := 9) X dX11_writeTable_4 (by decide) (fun c4 => ?_) (fun c4 => ?_)
  · refine lv_aload_n X.1 X.2.1 dX11_writeTable_9 rfl (lv_at hl 0 rfl) ?_
    refine lv_iload_n X.1 X.2.1 dX11_writeTable_10 rfl (lv_at hl 1 rfl) ?_
    refine (b_tableOf1 g b0 sa qa da ka o ca pa ha na ta ua).callV (rest := []) X dX11_writeTable_11 q959 tX11_tableOf hK (hP.sub [0] rfl) 0 10 rfl rfl rfl hl ⟨⟨Nat.le_of_ble_eq_true rfl, Nat.le_of_ble_eq_true rfl⟩, Nat.le_of_ble_eq_true rfl, Nat.le_of_ble_eq_true rfl⟩ rfl rfl (Nat.le_of_ble_eq_true rfl) ?_
    refine lv_astore (lv' := [(4, .ref ua), (0, .ref b0), (1, .int (nI 1)), (2, .int y), (3, .int x)]) X.1 X.2.1 dX11_writeTable_14 hl (by decide) rfl (fun ls hl => ?_)
    refine lv_aload X.1 X.2.1 dX11_writeTable_16 (lv_at hl 0 rfl) ?_
    refine (c_tb_miss g ua uc_ ty v ft (by omega)).callV (rest := []) X dX11_writeTable_18 q973 tX9_isMissing hK (hP.sub [1, 2] rfl) 0 8 rfl rfl rfl hl ⟨⟨Nat.le_of_ble_eq_true rfl, Nat.le_of_ble_eq_true rfl⟩, Nat.le_of_ble_eq_true rfl, Nat.le_of_ble_eq_true rfl⟩ rfl rfl (Nat.le_of_ble_eq_true rfl) ?_
    refine b_if_eq (tgt := 27) X dX11_writeTable_21 (by decide) (fun c21 => ?_) (fun c21 => ?_)
    · refine lv_aload X.1 X.2.1 dX11_writeTable_27 (lv_at hl 0 rfl) ?_
      refine lv_iload_n X.1 X.2.1 dX11_writeTable_29 rfl (lv_at hl 3 rfl) ?_
      refine (c_tb_has g ua uc_ ty v ft y (by omega)).callV (rest := []) X dX11_writeTable_30 q977 tX9_has hK (hP.sub [1, 2] rfl) 0 8 rfl rfl rfl hl ⟨⟨Nat.le_of_ble_eq_true rfl, Nat.le_of_ble_eq_true rfl⟩, Nat.le_of_ble_eq_true rfl, Nat.le_of_ble_eq_true rfl⟩ rfl rfl (Nat.le_of_ble_eq_true rfl) ?_
      refine b_if_ne (tgt := 39) X dX11_writeTable_33 (by decide) (fun c33 => ?_) (fun c33 => ?_)
      · exfalso; (rcases hno with h | h) <;> first | exact of_decide_eq_false c21 h | (rw [h] at c33; cases c33)
      · refine lv_bipush (v := (-13)) X.1 X.2.1 dX11_writeTable_36 (by decide) ?_
        exact PuI.ret X hr hlk dX11_writeTable_38 (nI_nar _) (by rw [if_neg (of_decide_eq_false c21)])
    · refine lv_bipush (v := (-11)) X.1 X.2.1 dX11_writeTable_24 (by decide) ?_
      exact PuI.ret X hr hlk dX11_writeTable_26 (nI_nar _) (by rw [if_pos (of_decide_eq_true c21)])
  · exfalso; rw [hit] at c4; cases c4

set_option maxHeartbeats 4000000 in
set_option maxRecDepth 100000 in
theorem b_readTable1 (g : G5) (b0 : Nat) (sa : Nat) (qa : Nat) (da : Nat) (ka : Nat) (o : Nat) (ca : Nat) (pa : Nat) (ha : Nat) (na : Nat) (ta : Nat) (ua : Nat) (uc_ : Nat) (ty : Int) (v : List Int32) (ft : Nat → Int32) (y : Int32) (hv : v.length ≤ 256) (hft : repT ft v) (hty : -1 ≤ ty ∧ ty ≤ 1) : PuI yX11_readTable cX11_readTable 4 (some .int) 2 42 g [.ref b0, .int (nI 1), .int y] [(b0, .inr (10, [.ref sa, .ref qa, .ref da, .ref ka, .ref o, .ref ca, .ref pa, .ref ha, .ref na, .ref ta, .ref ua])), (ua, .inr (8, [.ref uc_, .int (iI ty), .int (nI v.length)])), (uc_, .inl (g.2.1, 256, .inl ft))] (a_readTable ty v y) := by
  refine PuI.of (by decide +kernel) (Nat.le_of_ble_eq_true rfl) ?_
  intro p_ l_ e_ S_ m_ args below meth co X hr hlk hP hK ls hl
  have X : CallFix p_ m_ co cX11_readTable 4 S_ args lw_all RX11 := X
  have hl : lv_has ls 4 [(0, .ref b0), (1, .int (nI 1)), (2, .int y)] := hl
  have hit : decide ((nI 1).toInt = 0 ∨ (nI 1).toInt = 1) = true := by decide
  refine lv_iload_n X.1 X.2.1 dX11_readTable_0 rfl (lv_at hl 1 rfl) ?_
  refine (b_isTable g (nI 1)).callS (rest := []) X dX11_readTable_1 q953 tX11_isTable hK (hP.sub [] rfl) hl ⟨⟨Nat.le_of_ble_eq_true rfl, Nat.le_of_ble_eq_true rfl⟩, Nat.le_of_ble_eq_true rfl, Nat.le_of_ble_eq_true rfl⟩ rfl rfl (Nat.le_of_ble_eq_true rfl) ?_
  refine b_if_ne (tgt := 9) X dX11_readTable_4 (by decide) (fun c4 => ?_) (fun c4 => ?_)
  · refine lv_aload_n X.1 X.2.1 dX11_readTable_9 rfl (lv_at hl 0 rfl) ?_
    refine lv_iload_n X.1 X.2.1 dX11_readTable_10 rfl (lv_at hl 1 rfl) ?_
    refine (b_tableOf1 g b0 sa qa da ka o ca pa ha na ta ua).callV (rest := []) X dX11_readTable_11 q959 tX11_tableOf hK (hP.sub [0] rfl) 0 10 rfl rfl rfl hl ⟨⟨Nat.le_of_ble_eq_true rfl, Nat.le_of_ble_eq_true rfl⟩, Nat.le_of_ble_eq_true rfl, Nat.le_of_ble_eq_true rfl⟩ rfl rfl (Nat.le_of_ble_eq_true rfl) ?_
    refine lv_astore_n (lv' := [(3, .ref ua), (0, .ref b0), (1, .int (nI 1)), (2, .int y)]) X.1 X.2.1 dX11_readTable_14 rfl hl (by decide) rfl (fun ls hl => ?_)
    refine lv_aload_n X.1 X.2.1 dX11_readTable_15 rfl (lv_at hl 0 rfl) ?_
    refine (c_tb_miss g ua uc_ ty v ft (by omega)).callV (rest := []) X dX11_readTable_16 q973 tX9_isMissing hK (hP.sub [1, 2] rfl) 0 8 rfl rfl rfl hl ⟨⟨Nat.le_of_ble_eq_true rfl, Nat.le_of_ble_eq_true rfl⟩, Nat.le_of_ble_eq_true rfl, Nat.le_of_ble_eq_true rfl⟩ rfl rfl (Nat.le_of_ble_eq_true rfl) ?_
    refine b_if_eq (tgt := 25) X dX11_readTable_19 (by decide) (fun c19 => ?_) (fun c19 => ?_)
    · refine lv_aload_n X.1 X.2.1 dX11_readTable_25 rfl (lv_at hl 0 rfl) ?_
      refine lv_iload_n X.1 X.2.1 dX11_readTable_26 rfl (lv_at hl 3 rfl) ?_
      refine (c_tb_has g ua uc_ ty v ft y (by omega)).callV (rest := []) X dX11_readTable_27 q977 tX9_has hK (hP.sub [1, 2] rfl) 0 8 rfl rfl rfl hl ⟨⟨Nat.le_of_ble_eq_true rfl, Nat.le_of_ble_eq_true rfl⟩, Nat.le_of_ble_eq_true rfl, Nat.le_of_ble_eq_true rfl⟩ rfl rfl (Nat.le_of_ble_eq_true rfl) ?_
      refine b_if_eq (tgt := 41) X dX11_readTable_30 (by decide) (fun c30 => ?_) (fun c30 => ?_)
      · refine lv_bipush (v := (-13)) X.1 X.2.1 dX11_readTable_41 (by decide) ?_
        exact PuI.ret X hr hlk dX11_readTable_43 (nI_nar _) (by unfold a_readTable; rw [if_neg (of_decide_eq_false c19), c30]; first | rfl | (rw [xN_N (by omega)]; rfl))
      · obtain ⟨j, hj, rfl⟩ := hasB_t c30
        refine lv_aload_n X.1 X.2.1 dX11_readTable_33 rfl (lv_at hl 0 rfl) ?_
        refine lv_iload_n X.1 X.2.1 dX11_readTable_34 rfl (lv_at hl 3 rfl) ?_
        refine (c_tb_at g ua uc_ ty v ft j (by omega) (by assumption) (by omega)).callV (rest := []) X dX11_readTable_35 q990 tX9_at hK (hP.sub [1, 2] rfl) 0 8 rfl rfl rfl hl ⟨⟨Nat.le_of_ble_eq_true rfl, Nat.le_of_ble_eq_true rfl⟩, Nat.le_of_ble_eq_true rfl, Nat.le_of_ble_eq_true rfl⟩ rfl rfl (Nat.le_of_ble_eq_true rfl) ?_
        refine lv_goto (tgt := 43) X.1 X.2.1 dX11_readTable_38 (by decide) ?_
        exact PuI.ret X hr hlk dX11_readTable_43 (nI_nar _) (by unfold a_readTable; rw [if_neg (of_decide_eq_false c19), c30]; first | rfl | (rw [xN_N (by omega)]; rfl))
    · refine lv_bipush (v := (-11)) X.1 X.2.1 dX11_readTable_22 (by decide) ?_
      exact PuI.ret X hr hlk dX11_readTable_24 (nI_nar _) (by unfold a_readTable; rw [if_pos (of_decide_eq_true c19)])
  · exfalso; rw [hit] at c4; cases c4

set_option maxHeartbeats 4000000 in
set_option maxRecDepth 100000 in
theorem b_exportTable_m1 (g : G5) (b0 : Nat) (sa : Nat) (qa : Nat) (da : Nat) (ka : Nat) (o : Nat) (ca : Nat) (pa : Nat) (ha : Nat) (na : Nat) (ta : Nat) (ua : Nat) (uc_ : Nat) (ty : Int) (v : List Int32) (ft : Nat → Int32) (y : Int32) (hv : v.length ≤ 256) (hft : repT ft v) (hty : -1 ≤ ty ∧ ty ≤ 1) (hty2 : ty = -1) : PuI yX11_exportTable cX11_exportTable 6 (some .int) 2 43 g [.ref b0, .int (nI 1), .int y] [(b0, .inr (10, [.ref sa, .ref qa, .ref da, .ref ka, .ref o, .ref ca, .ref pa, .ref ha, .ref na, .ref ta, .ref ua])), (ua, .inr (8, [.ref uc_, .int (iI ty), .int (nI v.length)])), (uc_, .inl (g.2.1, 256, .inl ft))] (-11) := by
  refine PuI.of (by decide +kernel) (Nat.le_of_ble_eq_true rfl) ?_
  intro p_ l_ e_ S_ m_ args below meth co X hr hlk hP hK ls hl
  have X : CallFix p_ m_ co cX11_exportTable 6 S_ args lw_all RX11 := X
  have hl : lv_has ls 6 [(0, .ref b0), (1, .int (nI 1)), (2, .int y)] := hl
  have hit : decide ((nI 1).toInt = 0 ∨ (nI 1).toInt = 1) = true := by decide
  refine lv_iload_n X.1 X.2.1 dX11_exportTable_0 rfl (lv_at hl 1 rfl) ?_
  refine (b_isTable g (nI 1)).callS (rest := []) X dX11_exportTable_1 q953 tX11_isTable hK (hP.sub [] rfl) hl ⟨⟨Nat.le_of_ble_eq_true rfl, Nat.le_of_ble_eq_true rfl⟩, Nat.le_of_ble_eq_true rfl, Nat.le_of_ble_eq_true rfl⟩ rfl rfl (Nat.le_of_ble_eq_true rfl) ?_
  refine b_if_ne (tgt := 9) X dX11_exportTable_4 (by decide) (fun c4 => ?_) (fun c4 => ?_)
  · refine lv_aload_n X.1 X.2.1 dX11_exportTable_9 rfl (lv_at hl 0 rfl) ?_
    refine lv_iload_n X.1 X.2.1 dX11_exportTable_10 rfl (lv_at hl 1 rfl) ?_
    refine (b_tableOf1 g b0 sa qa da ka o ca pa ha na ta ua).callV (rest := []) X dX11_exportTable_11 q959 tX11_tableOf hK (hP.sub [0] rfl) 0 10 rfl rfl rfl hl ⟨⟨Nat.le_of_ble_eq_true rfl, Nat.le_of_ble_eq_true rfl⟩, Nat.le_of_ble_eq_true rfl, Nat.le_of_ble_eq_true rfl⟩ rfl rfl (Nat.le_of_ble_eq_true rfl) ?_
    refine lv_astore_n (lv' := [(3, .ref ua), (0, .ref b0), (1, .int (nI 1)), (2, .int y)]) X.1 X.2.1 dX11_exportTable_14 rfl hl (by decide) rfl (fun ls hl => ?_)
    refine lv_aload_n X.1 X.2.1 dX11_exportTable_15 rfl (lv_at hl 0 rfl) ?_
    refine (c_tb_miss g ua uc_ ty v ft (by omega)).callV (rest := []) X dX11_exportTable_16 q973 tX9_isMissing hK (hP.sub [1, 2] rfl) 0 8 rfl rfl rfl hl ⟨⟨Nat.le_of_ble_eq_true rfl, Nat.le_of_ble_eq_true rfl⟩, Nat.le_of_ble_eq_true rfl, Nat.le_of_ble_eq_true rfl⟩ rfl rfl (Nat.le_of_ble_eq_true rfl) ?_
    refine b_if_eq (tgt := 25) X dX11_exportTable_19 (by decide) (fun c19 => ?_) (fun c19 => ?_)
    · exfalso; exact of_decide_eq_false c19 hty2
    · refine lv_bipush (v := (-11)) X.1 X.2.1 dX11_exportTable_22 (by decide) ?_
      exact PuI.ret X hr hlk dX11_exportTable_24 (nI_nar _) (rfl)
  · exfalso; rw [hit] at c4; cases c4

set_option maxHeartbeats 4000000 in
set_option maxRecDepth 100000 in
theorem b_exportTable1 (g : G5) (b0 : Nat) (sa : Nat) (qa : Nat) (da : Nat) (ka : Nat) (o : Nat) (ca : Nat) (pa : Nat) (ha : Nat) (na : Nat) (ta : Nat) (ua : Nat) (uc_ : Nat) (ty : Int) (v : List Int32) (ft : Nat → Int32) (qb : Nat) (s : List Nat) (f : Nat → Int32) (y : Int32) (hv : v.length ≤ 256) (hft : repT ft v) (hty : -1 ≤ ty ∧ ty ≤ 1) (hs : s.length ≤ 256) (hf : rep f s) (hb : bd s) (hty2 : ty ≠ -1) : MuI (S := (Nat → Int32)) yX11_exportTable cX11_exportTable 6 (some .int) 2 43 g [.ref b0, .int (nI 1), .int y] [(b0, .inr (10, [.ref sa, .ref qa, .ref da, .ref ka, .ref o, .ref ca, .ref pa, .ref ha, .ref na, .ref ta, .ref ua])), (ua, .inr (8, [.ref uc_, .int (iI ty), .int (nI v.length)])), (uc_, .inl (g.2.1, 256, .inl ft)), (qa, .inr (9, [.ref qb, .int (nI s.length)])), (qb, .inl (g.2.1, 256, .inl f))] (fun r ft1 => r = ((expL ty s y s.length 0 v).1) ∧ repT ft1 (expL ty s y s.length 0 v).2) (fun ft1 => [(b0, .inr (10, [.ref sa, .ref qa, .ref da, .ref ka, .ref o, .ref ca, .ref pa, .ref ha, .ref na, .ref ta, .ref ua])), (ua, .inr (8, [.ref uc_, .int (iI ty), .int (nI (((expL ty s y s.length 0 v).2).length))])), (uc_, .inl (g.2.1, 256, .inl ft1)), (qa, .inr (9, [.ref qb, .int (nI s.length)])), (qb, .inl (g.2.1, 256, .inl f))]) := by
  refine MuI.of (by decide +kernel) (Nat.le_of_ble_eq_true rfl) ?_
  intro p_ l_ e_ S_ m_ args below meth co X hr hlk hP hK A hA hD hS ls hl
  have X : CallFix p_ m_ co cX11_exportTable 6 S_ args lw_all RX11 := X
  have hl : lv_has ls 6 [(0, .ref b0), (1, .int (nI 1)), (2, .int y)] := hl
  have hit : decide ((nI 1).toInt = 0 ∨ (nI 1).toInt = 1) = true := by decide
  refine lv_iload_n X.1 X.2.1 dX11_exportTable_0 rfl (lv_at hl 1 rfl) ?_
  refine (b_isTable g (nI 1)).callS (rest := []) X dX11_exportTable_1 q953 tX11_isTable hK (hP.sub [] rfl) hl ⟨⟨Nat.le_of_ble_eq_true rfl, Nat.le_of_ble_eq_true rfl⟩, Nat.le_of_ble_eq_true rfl, Nat.le_of_ble_eq_true rfl⟩ rfl rfl (Nat.le_of_ble_eq_true rfl) ?_
  refine b_if_ne (tgt := 9) X dX11_exportTable_4 (by decide) (fun c4 => ?_) (fun c4 => ?_)
  · refine lv_aload_n X.1 X.2.1 dX11_exportTable_9 rfl (lv_at hl 0 rfl) ?_
    refine lv_iload_n X.1 X.2.1 dX11_exportTable_10 rfl (lv_at hl 1 rfl) ?_
    refine (b_tableOf1 g b0 sa qa da ka o ca pa ha na ta ua).callV (rest := []) X dX11_exportTable_11 q959 tX11_tableOf hK (hP.sub [0] rfl) 0 10 rfl rfl rfl hl ⟨⟨Nat.le_of_ble_eq_true rfl, Nat.le_of_ble_eq_true rfl⟩, Nat.le_of_ble_eq_true rfl, Nat.le_of_ble_eq_true rfl⟩ rfl rfl (Nat.le_of_ble_eq_true rfl) ?_
    refine lv_astore_n (lv' := [(3, .ref ua), (0, .ref b0), (1, .int (nI 1)), (2, .int y)]) X.1 X.2.1 dX11_exportTable_14 rfl hl (by decide) rfl (fun ls hl => ?_)
    refine lv_aload_n X.1 X.2.1 dX11_exportTable_15 rfl (lv_at hl 0 rfl) ?_
    refine (c_tb_miss g ua uc_ ty v ft (by omega)).callV (rest := []) X dX11_exportTable_16 q973 tX9_isMissing hK (hP.sub [1, 2] rfl) 0 8 rfl rfl rfl hl ⟨⟨Nat.le_of_ble_eq_true rfl, Nat.le_of_ble_eq_true rfl⟩, Nat.le_of_ble_eq_true rfl, Nat.le_of_ble_eq_true rfl⟩ rfl rfl (Nat.le_of_ble_eq_true rfl) ?_
    refine b_if_eq (tgt := 25) X dX11_exportTable_19 (by decide) (fun c19 => ?_) (fun c19 => ?_)
    · refine lv_aload_n X.1 X.2.1 dX11_exportTable_25 rfl (lv_at hl 1 rfl) ?_
      refine va_get (D := g.1) (ci := 10) (v := .ref qa) (C := RX11) (T := TX11) (N := 11) X.1 X.2.1 X.2.2.2.2 iwX11 X.2.2.2.1 hK hP 0 rfl rfl 1 (by decide) (X.2.2.2.2 _ q237) (fun _ h9 => h9) rfl dX11_exportTable_26 ?_
      refine (c_Word_size g qa qb s f).callV (rest := []) X dX11_exportTable_29 q324 tX10_size hK (hP.sub [3, 4] rfl) 0 9 rfl rfl rfl hl ⟨⟨Nat.le_of_ble_eq_true rfl, Nat.le_of_ble_eq_true rfl⟩, Nat.le_of_ble_eq_true rfl, Nat.le_of_ble_eq_true rfl⟩ rfl rfl (Nat.le_of_ble_eq_true rfl) ?_
      refine lv_istore (lv' := [(4, .int (nI s.length)), (3, .ref ua), (0, .ref b0), (1, .int (nI 1)), (2, .int y)]) X.1 X.2.1 dX11_exportTable_32 hl (by decide) rfl (fun ls hl => ?_)
      refine lv_iconst (v := (nI 0)) X.1 X.2.1 dX11_exportTable_34 (by decide) ?_
      refine lv_istore (lv' := [(5, .int (nI 0)), (4, .int (nI s.length)), (3, .ref ua), (0, .ref b0), (1, .int (nI 1)), (2, .int y)]) X.1 X.2.1 dX11_exportTable_35 hl (by decide) rfl (fun ls hl => ?_)
      have L37 : ∀ (r : Nat) (i : Nat) (v1 : List Int32) (f1 : Nat → Int32) (h1 : i + r = s.length) (hv1 : v1.length ≤ 256) (hq : expL ty s y r i v1 = expL ty s y s.length 0 v) (hft1 : repT f1 v1) (H : Heap) (locs : List Loc) (hP : PP g [(b0, .inr (10, [.ref sa, .ref qa, .ref da, .ref ka, .ref o, .ref ca, .ref pa, .ref ha, .ref na, .ref ta, .ref ua])), (ua, .inr (8, [.ref uc_, .int (iI ty), .int (nI v1.length)])), (uc_, .inl (g.2.1, 256, .inl f1)), (qa, .inr (9, [.ref qb, .int (nI s.length)])), (qb, .inl (g.2.1, 256, .inl f))] H) (hD : va_D A [(b0, .inr (10, [.ref sa, .ref qa, .ref da, .ref ka, .ref o, .ref ca, .ref pa, .ref ha, .ref na, .ref ta, .ref ua])), (ua, .inr (8, [.ref uc_, .int (iI ty), .int (nI v1.length)])), (uc_, .inl (g.2.1, 256, .inl f1)), (qa, .inr (9, [.ref qb, .int (nI s.length)])), (qb, .inl (g.2.1, 256, .inl f))]) (hS : va_S A S_.heap H locs) (ls : Array Slot) (hl : lv_has ls 6 [(5, .int (nI i)), (4, .int (nI s.length)), (3, .ref ua), (0, .ref b0), (1, .int (nI 1)), (2, .int y)]), W p_ l_ e_ { frames := 2, cells := 0, slots := 0, locals := 43 } S_ m_ args below meth co H locs 0 0 (MQ below (va_Qi (S := (Nat → Int32)) (fun r ft1 => r = ((expL ty s y s.length 0 v).1) ∧ repT ft1 (expL ty s y s.length 0 v).2) (MuB g A (fun ft1 => [(b0, .inr (10, [.ref sa, .ref qa, .ref da, .ref ka, .ref o, .ref ca, .ref pa, .ref ha, .ref na, .ref ta, .ref ua])), (ua, .inr (8, [.ref uc_, .int (iI ty), .int (nI (((expL ty s y s.length 0 v).2).length))])), (uc_, .inl (g.2.1, 256, .inl ft1)), (qa, .inr (9, [.ref qb, .int (nI s.length)])), (qb, .inl (g.2.1, 256, .inl f))])) A) args S_ 0 0 A) (F0 m_ 37 ls []) := by
        intro r
        induction r with
        | zero =>
          intro i v1 f1 h1 hv1 hq hft1 H locs hP hD hS ls hl
          have e9 : (nI s.length, v1) = expL ty s y s.length 0 v := hq
          refine lv_iload X.1 X.2.1 dX11_exportTable_37 (lv_at hl 0 rfl) ?_
          refine lv_iload X.1 X.2.1 dX11_exportTable_39 (lv_at hl 1 rfl) ?_
          refine z_icmp_ge (tgt := 86) X dX11_exportTable_41 (by decide) (nI_toInt (by omega)) (nI_toInt (by omega)) (fun c41 => ?_) (fun c41 => ?_)
          · refine lv_iload X.1 X.2.1 dX11_exportTable_86 (lv_at hl 1 rfl) ?_
            have hP : PP g [(b0, .inr (10, [.ref sa, .ref qa, .ref da, .ref ka, .ref o, .ref ca, .ref pa, .ref ha, .ref na, .ref ta, .ref ua])), (ua, .inr (8, [.ref uc_, .int (iI ty), .int (nI (((expL ty s y s.length 0 v).2).length))])), (uc_, .inl (g.2.1, 256, .inl f1)), (qa, .inr (9, [.ref qb, .int (nI s.length)])), (qb, .inl (g.2.1, 256, .inl f))] H := by rw [← congrArg Prod.snd e9]; exact hP
            have hD : va_D A [(b0, .inr (10, [.ref sa, .ref qa, .ref da, .ref ka, .ref o, .ref ca, .ref pa, .ref ha, .ref na, .ref ta, .ref ua])), (ua, .inr (8, [.ref uc_, .int (iI ty), .int (nI (((expL ty s y s.length 0 v).2).length))])), (uc_, .inl (g.2.1, 256, .inl f1)), (qa, .inr (9, [.ref qb, .int (nI s.length)])), (qb, .inl (g.2.1, 256, .inl f))] := by rw [← congrArg Prod.snd e9]; exact hD
            exact MuI.ret X hr hlk hK hS dX11_exportTable_88 (nI_nar _) f1 (hP.sub [0, 1, 2, 3, 4] rfl) (hD.sub [0, 1, 2, 3, 4] (by decide) rfl) (⟨congrArg Prod.fst e9, by rw [← congrArg Prod.snd e9]; exact hft1⟩)
          · exfalso; omega
        | succ r ih37 =>
          intro i v1 f1 h1 hv1 hq hft1 H locs hP hD hS ls hl
          refine lv_iload X.1 X.2.1 dX11_exportTable_37 (lv_at hl 0 rfl) ?_
          refine lv_iload X.1 X.2.1 dX11_exportTable_39 (lv_at hl 1 rfl) ?_
          refine z_icmp_ge (tgt := 86) X dX11_exportTable_41 (by decide) (nI_toInt (by omega)) (nI_toInt (by omega)) (fun c41 => ?_) (fun c41 => ?_)
          · exfalso; omega
          · refine lv_aload_n X.1 X.2.1 dX11_exportTable_44 rfl (lv_at hl 2 rfl) ?_
            refine lv_iload_n X.1 X.2.1 dX11_exportTable_45 rfl (lv_at hl 5 rfl) ?_
            refine lv_iload X.1 X.2.1 dX11_exportTable_46 (lv_at hl 0 rfl) ?_
            refine lv_iadd X.1 X.2.1 dX11_exportTable_48 ?_
            refine (c_tb_has g ua uc_ ty v1 f1 (y + (nI i)) (by omega)).callV (rest := []) X dX11_exportTable_49 q977 tX9_has hK (hP.sub [1, 2] rfl) 0 8 rfl rfl rfl hl ⟨⟨Nat.le_of_ble_eq_true rfl, Nat.le_of_ble_eq_true rfl⟩, Nat.le_of_ble_eq_true rfl, Nat.le_of_ble_eq_true rfl⟩ rfl rfl (Nat.le_of_ble_eq_true rfl) ?_
            refine b_if_ne (tgt := 58) X dX11_exportTable_52 (by decide) (fun c52 => ?_) (fun c52 => ?_)
            · rw [exp_has (by omega) (by omega)] at c52
              have h5 := of_decide_eq_true c52
              refine lv_aload_n X.1 X.2.1 dX11_exportTable_58 rfl (lv_at hl 2 rfl) ?_
              refine lv_iload_n X.1 X.2.1 dX11_exportTable_59 rfl (lv_at hl 5 rfl) ?_
              refine lv_iload X.1 X.2.1 dX11_exportTable_60 (lv_at hl 0 rfl) ?_
              refine lv_iadd X.1 X.2.1 dX11_exportTable_62 ?_
              refine tp_i (y := (nI ((y.toInt + (i : Int)).toNat))) (exp_idx (by omega) (by omega) h5.1 h5.2) ?_
              refine lv_aload_n X.1 X.2.1 dX11_exportTable_63 rfl (lv_at hl 2 rfl) ?_
              refine (c_tb_base g ua uc_ ty v1 f1 (by omega)).callV (rest := [.int (nI ((y.toInt + (i : Int)).toNat)), .ref ua]) X dX11_exportTable_64 q998 tX9_letterBase hK (hP.sub [1, 2] rfl) 0 8 rfl rfl rfl hl ⟨⟨Nat.le_of_ble_eq_true rfl, Nat.le_of_ble_eq_true rfl⟩, Nat.le_of_ble_eq_true rfl, Nat.le_of_ble_eq_true rfl⟩ rfl rfl (Nat.le_of_ble_eq_true rfl) ?_
              refine lv_aload_n X.1 X.2.1 dX11_exportTable_67 rfl (lv_at hl 3 rfl) ?_
              refine va_get (D := g.1) (ci := 10) (v := .ref qa) (C := RX11) (T := TX11) (N := 11) X.1 X.2.1 X.2.2.2.2 iwX11 X.2.2.2.1 hK hP 0 rfl rfl 1 (by decide) (X.2.2.2.2 _ q237) (fun _ h9 => h9) rfl dX11_exportTable_68 ?_
              refine lv_iload X.1 X.2.1 dX11_exportTable_71 (lv_at hl 0 rfl) ?_
              refine (c_Word_atN g qa qb s f i (by omega) (by assumption) (by omega)).callV (rest := [.int (nI (if ty = 1 then 97 else 0)), .int (nI ((y.toInt + (i : Int)).toNat)), .ref ua]) X dX11_exportTable_73 q332 tX10_at hK (hP.sub [3, 4] rfl) 0 9 rfl rfl rfl hl ⟨⟨Nat.le_of_ble_eq_true rfl, Nat.le_of_ble_eq_true rfl⟩, Nat.le_of_ble_eq_true rfl, Nat.le_of_ble_eq_true rfl⟩ rfl rfl (Nat.le_of_ble_eq_true rfl) ?_
              have hsb := bd_at hb i
              refine n_add X dX11_exportTable_76 ?_
              refine (c_tb_put g ua uc_ ty v1 f1 ((y.toInt + (i : Int)).toNat) (nI ((if ty = 1 then 97 else 0) + (s.getD i 0))) (by omega) (hft1) (by omega) (by omega)).callV (rest := []) (wr := [(b0, .inr (10, [.ref sa, .ref qa, .ref da, .ref ka, .ref o, .ref ca, .ref pa, .ref ha, .ref na, .ref ta, .ref ua])), (qa, .inr (9, [.ref qb, .int (nI s.length)])), (qb, .inl (g.2.1, 256, .inl f))]) X dX11_exportTable_77 q981 tX9_put hK hP hD hS hA [1, 2] [0, 3, 4] (by decide) rfl rfl (by decide) (by decide) 0 8 rfl rfl rfl hl ⟨⟨Nat.le_of_ble_eq_true rfl, Nat.le_of_ble_eq_true rfl⟩, Nat.le_of_ble_eq_true rfl, Nat.le_of_ble_eq_true rfl⟩ rfl rfl (Nat.le_of_ble_eq_true rfl) (fun u77 H locs hw77 hP hD hS => ?_)
              obtain ⟨f1_77, rfl⟩ : ∃ z, z = u77 := ⟨_, rfl⟩
              have hP : PP g [(b0, .inr (10, [.ref sa, .ref qa, .ref da, .ref ka, .ref o, .ref ca, .ref pa, .ref ha, .ref na, .ref ta, .ref ua])), (qa, .inr (9, [.ref qb, .int (nI s.length)])), (qb, .inl (g.2.1, 256, .inl f)), (ua, .inr (8, [.ref uc_, .int (iI ty), .int (nI ((v1.set ((y.toInt + (i : Int)).toNat) (narT ty (nI ((if ty = 1 then 97 else 0) + (s.getD i 0))))).length))])), (uc_, .inl (g.2.1, 256, .inl f1_77))] H := hP
              have hD : va_D A [(b0, .inr (10, [.ref sa, .ref qa, .ref da, .ref ka, .ref o, .ref ca, .ref pa, .ref ha, .ref na, .ref ta, .ref ua])), (qa, .inr (9, [.ref qb, .int (nI s.length)])), (qb, .inl (g.2.1, 256, .inl f)), (ua, .inr (8, [.ref uc_, .int (iI ty), .int (nI ((v1.set ((y.toInt + (i : Int)).toNat) (narT ty (nI ((if ty = 1 then 97 else 0) + (s.getD i 0))))).length))])), (uc_, .inl (g.2.1, 256, .inl f1_77))] := hD
              try dsimp only at hw77
              refine lv_iinc (v := (nI (i + 1))) (lv' := [(5, .int (nI (i + 1))), (4, .int (nI s.length)), (3, .ref ua), (0, .ref b0), (1, .int (nI 1)), (2, .int y)]) X.1 X.2.1 dX11_exportTable_80 hl (k := 0) rfl (nI_inc _) (by decide) rfl (fun ls hl => ?_)
              refine lv_goto (tgt := 37) X.1 X.2.1 dX11_exportTable_83 (by decide) ?_
              exact ih37 (i + 1) (v1.set (y.toInt + (i : Int)).toNat (narT ty (nI ((if ty = 1 then 97 else 0) + s.getD i 0)))) f1_77 (by omega) (by rw [List.length_set]; exact hv1) (by rw [expL, if_pos h5] at hq; rw [nar_let hsb rfl]; exact hq) (hw77) _ _ (hP.sub [0, 3, 4, 1, 2] rfl) (hD.sub [0, 3, 4, 1, 2] (by decide) rfl) hS ls (lv_sub hl [0, 1, 2, 3, 4, 5] rfl)
            · rw [exp_has (by omega) (by omega)] at c52
              have h5 := of_decide_eq_false c52
              have e9 : ((-13), v1) = expL ty s y s.length 0 v := by rw [expL, if_neg h5] at hq; exact hq
              refine lv_bipush (v := (-13)) X.1 X.2.1 dX11_exportTable_55 (by decide) ?_
              have hP : PP g [(b0, .inr (10, [.ref sa, .ref qa, .ref da, .ref ka, .ref o, .ref ca, .ref pa, .ref ha, .ref na, .ref ta, .ref ua])), (ua, .inr (8, [.ref uc_, .int (iI ty), .int (nI (((expL ty s y s.length 0 v).2).length))])), (uc_, .inl (g.2.1, 256, .inl f1)), (qa, .inr (9, [.ref qb, .int (nI s.length)])), (qb, .inl (g.2.1, 256, .inl f))] H := by rw [← congrArg Prod.snd e9]; exact hP
              have hD : va_D A [(b0, .inr (10, [.ref sa, .ref qa, .ref da, .ref ka, .ref o, .ref ca, .ref pa, .ref ha, .ref na, .ref ta, .ref ua])), (ua, .inr (8, [.ref uc_, .int (iI ty), .int (nI (((expL ty s y s.length 0 v).2).length))])), (uc_, .inl (g.2.1, 256, .inl f1)), (qa, .inr (9, [.ref qb, .int (nI s.length)])), (qb, .inl (g.2.1, 256, .inl f))] := by rw [← congrArg Prod.snd e9]; exact hD
              exact MuI.ret X hr hlk hK hS dX11_exportTable_57 (nI_nar _) f1 (hP.sub [0, 1, 2, 3, 4] rfl) (hD.sub [0, 1, 2, 3, 4] (by decide) rfl) (⟨congrArg Prod.fst e9, by rw [← congrArg Prod.snd e9]; exact hft1⟩)
      exact L37 s.length 0 v ft (by omega) (by omega) (rfl) (hft) _ _ (hP.sub [0, 1, 2, 3, 4] rfl) (hD.sub [0, 1, 2, 3, 4] (by decide) rfl) hS ls (lv_sub hl [0, 1, 2, 3, 4, 5] rfl)
    · exfalso; exact hty2 (of_decide_eq_true c19)
  · exfalso; rw [hit] at c4; cases c4

set_option maxHeartbeats 4000000 in
set_option maxRecDepth 100000 in
theorem b_importTable_m1 (g : G5) (b0 : Nat) (sa : Nat) (qa : Nat) (da : Nat) (ka : Nat) (o : Nat) (ca : Nat) (pa : Nat) (ha : Nat) (na : Nat) (ta : Nat) (ua : Nat) (uc_ : Nat) (ty : Int) (v : List Int32) (ft : Nat → Int32) (i : Nat) (hv : v.length ≤ 256) (hft : repT ft v) (hty : -1 ≤ ty ∧ ty ≤ 1) (hi : i < 2) (hty2 : ty = -1 ∨ ty ≠ ((i : Nat) : Int)) : PuI yX11_importTable cX11_importTable 7 (some .int) 4 105 g [.ref b0, .int (nI 1), .int (nI i)] [(b0, .inr (10, [.ref sa, .ref qa, .ref da, .ref ka, .ref o, .ref ca, .ref pa, .ref ha, .ref na, .ref ta, .ref ua])), (ua, .inr (8, [.ref uc_, .int (iI ty), .int (nI v.length)])), (uc_, .inl (g.2.1, 256, .inl ft))] (if ty = -1 then (-11) else (-12)) := by
  refine PuI.of (by decide +kernel) (Nat.le_of_ble_eq_true rfl) ?_
  intro p_ l_ e_ S_ m_ args below meth co X hr hlk hP hK ls hl
  have X : CallFix p_ m_ co cX11_importTable 7 S_ args lw_all RX11 := X
  have hl : lv_has ls 7 [(0, .ref b0), (1, .int (nI 1)), (2, .int (nI i))] := hl
  have hit : decide ((nI 1).toInt = 0 ∨ (nI 1).toInt = 1) = true := by decide
  have hi2 : decide ((nI i).toInt = 0 ∨ (nI i).toInt = 1) = true := by rw [nI_toInt (by omega)]; exact decide_eq_true (by omega)
  refine lv_iload_n X.1 X.2.1 dX11_importTable_0 rfl (lv_at hl 1 rfl) ?_
  refine (b_isTable g (nI 1)).callS (rest := []) X dX11_importTable_1 q953 tX11_isTable hK (hP.sub [] rfl) hl ⟨⟨Nat.le_of_ble_eq_true rfl, Nat.le_of_ble_eq_true rfl⟩, Nat.le_of_ble_eq_true rfl, Nat.le_of_ble_eq_true rfl⟩ rfl rfl (Nat.le_of_ble_eq_true rfl) ?_
  refine b_if_eq (tgt := 14) X dX11_importTable_4 (by decide) (fun c4 => ?_) (fun c4 => ?_)
  · exfalso; rw [hit] at c4; cases c4
  · refine lv_iload_n X.1 X.2.1 dX11_importTable_7 rfl (lv_at hl 2 rfl) ?_
    refine (c_tb_type g (nI i)).callS (rest := []) X dX11_importTable_8 q956 tX9_isType hK (hP.sub [] rfl) hl ⟨⟨Nat.le_of_ble_eq_true rfl, Nat.le_of_ble_eq_true rfl⟩, Nat.le_of_ble_eq_true rfl, Nat.le_of_ble_eq_true rfl⟩ rfl rfl (Nat.le_of_ble_eq_true rfl) ?_
    refine b_if_ne (tgt := 16) X dX11_importTable_11 (by decide) (fun c11 => ?_) (fun c11 => ?_)
    · refine lv_aload_n X.1 X.2.1 dX11_importTable_16 rfl (lv_at hl 0 rfl) ?_
      refine lv_iload_n X.1 X.2.1 dX11_importTable_17 rfl (lv_at hl 1 rfl) ?_
      refine (b_tableOf1 g b0 sa qa da ka o ca pa ha na ta ua).callV (rest := []) X dX11_importTable_18 q959 tX11_tableOf hK (hP.sub [0] rfl) 0 10 rfl rfl rfl hl ⟨⟨Nat.le_of_ble_eq_true rfl, Nat.le_of_ble_eq_true rfl⟩, Nat.le_of_ble_eq_true rfl, Nat.le_of_ble_eq_true rfl⟩ rfl rfl (Nat.le_of_ble_eq_true rfl) ?_
      refine lv_astore_n (lv' := [(3, .ref ua), (0, .ref b0), (1, .int (nI 1)), (2, .int (nI i))]) X.1 X.2.1 dX11_importTable_21 rfl hl (by decide) rfl (fun ls hl => ?_)
      refine lv_aload_n X.1 X.2.1 dX11_importTable_22 rfl (lv_at hl 0 rfl) ?_
      refine (c_tb_miss g ua uc_ ty v ft (by omega)).callV (rest := []) X dX11_importTable_23 q973 tX9_isMissing hK (hP.sub [1, 2] rfl) 0 8 rfl rfl rfl hl ⟨⟨Nat.le_of_ble_eq_true rfl, Nat.le_of_ble_eq_true rfl⟩, Nat.le_of_ble_eq_true rfl, Nat.le_of_ble_eq_true rfl⟩ rfl rfl (Nat.le_of_ble_eq_true rfl) ?_
      refine b_if_eq (tgt := 32) X dX11_importTable_26 (by decide) (fun c26 => ?_) (fun c26 => ?_)
      · refine lv_aload_n X.1 X.2.1 dX11_importTable_32 rfl (lv_at hl 0 rfl) ?_
        refine lv_iload_n X.1 X.2.1 dX11_importTable_33 rfl (lv_at hl 3 rfl) ?_
        refine (c_tb_of g ua uc_ ty v ft (nI i) (by omega)).callV (rest := []) X dX11_importTable_34 q1006 tX9_isOfType hK (hP.sub [1, 2] rfl) 0 8 rfl rfl rfl hl ⟨⟨Nat.le_of_ble_eq_true rfl, Nat.le_of_ble_eq_true rfl⟩, Nat.le_of_ble_eq_true rfl, Nat.le_of_ble_eq_true rfl⟩ rfl rfl (Nat.le_of_ble_eq_true rfl) ?_
        refine b_if_ne (tgt := 43) X dX11_importTable_37 (by decide) (fun c37 => ?_) (fun c37 => ?_)
        · exfalso; rw [nI_toInt (by omega)] at c37; have h6 := of_decide_eq_true c37; have h7 := of_decide_eq_false c26; omega
        · refine lv_bipush (v := (-12)) X.1 X.2.1 dX11_importTable_40 (by decide) ?_
          exact PuI.ret X hr hlk dX11_importTable_42 (nI_nar _) (by rw [if_neg (of_decide_eq_false c26)])
      · refine lv_bipush (v := (-11)) X.1 X.2.1 dX11_importTable_29 (by decide) ?_
        exact PuI.ret X hr hlk dX11_importTable_31 (nI_nar _) (by rw [if_pos (of_decide_eq_true c26)])
    · exfalso; rw [hi2] at c11; cases c11
