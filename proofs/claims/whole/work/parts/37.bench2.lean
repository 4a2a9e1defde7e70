set_option maxHeartbeats 4000000 in
set_option maxRecDepth 100000 in
theorem b_take (g : G5) (b0 : Nat) (sa : Nat) (qa : Nat) (da : Nat) (ka : Nat) (o : Nat) (ca : Nat) (pa : Nat) (ha : Nat) (na : Nat) (ta : Nat) (ua : Nat) (qb : Nat) (s : List Nat) (f : Nat → Int32) (db : Nat) (z : List Nat) (fd : Nat → Int32) (hr_ : Nat) (hz_ : Nat) (nx : Nat) (h : List (List Nat)) (fr : Nat → Int32) (fz : Nat → Int32) (hs : s.length ≤ 256) (hf : rep f s) (hz : z.length ≤ 256) (hfd : rep fd z) (hb : bd s) (hbz : bd z) (hh : hrep nx fr fz h) : MuI (S := (Nat → Int32) × (Nat → Int32) × (Nat → Int32)) yX11_takeDraft cX11_takeDraft 2 (some .boolean) 3 84 g [.ref b0] [(b0, .inr (10, [.ref sa, .ref qa, .ref da, .ref ka, .ref o, .ref ca, .ref pa, .ref ha, .ref na, .ref ta, .ref ua])), (qa, .inr (9, [.ref qb, .int (nI s.length)])), (qb, .inl (g.2.1, 256, .inl f)), (da, .inr (9, [.ref db, .int (nI z.length)])), (db, .inl (g.2.1, 256, .inl fd)), (ha, .inr (3, [.ref hr_, .ref hz_, .int (nI nx), .int (nI h.length)])), (hr_, .inl (g.2.1, 1536, .inl fr)), (hz_, .inl (g.2.1, 6, .inl fz))] (fun r u => r = (bI (!(sameB z s))) ∧ rep u.1 z ∧ hrep ((nx + 1) % 6) u.2.1 u.2.2 ((s :: h).take 6)) (fun u => [(b0, .inr (10, [.ref sa, .ref qa, .ref da, .ref ka, .ref o, .ref ca, .ref pa, .ref ha, .ref na, .ref ta, .ref ua])), (qa, .inr (9, [.ref qb, .int (nI z.length)])), (qb, .inl (g.2.1, 256, .inl u.1)), (da, .inr (9, [.ref db, .int (nI z.length)])), (db, .inl (g.2.1, 256, .inl fd)), (ha, .inr (3, [.ref hr_, .ref hz_, .int (nI ((nx + 1) % 6)), .int (nI (((s :: h).take 6).length))])), (hr_, .inl (g.2.1, 1536, .inl u.2.1)), (hz_, .inl (g.2.1, 6, .inl u.2.2))]) := by
  refine MuI.of (by decide +kernel) (Nat.le_of_ble_eq_true rfl) ?_
  intro p_ l_ e_ S_ m_ args below meth co X hr hlk hP hK A hA hD hS ls hl
  have X : CallFix p_ m_ co cX11_takeDraft 2 S_ args lw_all RX11 := X
  have hl : lv_has ls 2 [(0, .ref b0)] := hl
  refine lv_aload_n X.1 X.2.1 dX11_takeDraft_0 rfl (lv_at hl 0 rfl) ?_
  refine va_get (D := g.1) (ci := 10) (v := .ref da) (C := RX11) (T := TX11) (N := 11) X.1 X.2.1 X.2.2.2.2 iwX11 X.2.2.2.1 hK hP 0 rfl rfl 2 (by decide) (X.2.2.2.2 _ q238) (fun _ h9 => h9) rfl dX11_takeDraft_1 ?_
  refine lv_aload_n X.1 X.2.1 dX11_takeDraft_4 rfl (lv_at hl 0 rfl) ?_
  refine va_get (D := g.1) (ci := 10) (v := .ref qa) (C := RX11) (T := TX11) (N := 11) X.1 X.2.1 X.2.2.2.2 iwX11 X.2.2.2.1 hK hP 0 rfl rfl 1 (by decide) (X.2.2.2.2 _ q237) (fun _ h9 => h9) rfl dX11_takeDraft_5 ?_
  refine (c_Word_same g da db z fd qa qb s f (by omega) (by assumption) (by omega) (by assumption) (by assumption) (by assumption)).callV (rest := []) X dX11_takeDraft_8 q461 tX10_isSame hK (hP.sub [3, 4, 1, 2] rfl) 0 9 rfl rfl rfl hl ⟨⟨Nat.le_of_ble_eq_true rfl, Nat.le_of_ble_eq_true rfl⟩, Nat.le_of_ble_eq_true rfl, Nat.le_of_ble_eq_true rfl⟩ rfl rfl (Nat.le_of_ble_eq_true rfl) ?_
  refine b_if_ne (tgt := 18) X dX11_takeDraft_11 (by decide) (fun c11 => ?_) (fun c11 => ?_)
  · refine lv_iconst (v := (nI 0)) X.1 X.2.1 dX11_takeDraft_18 (by decide) ?_
    refine lv_istore_n (lv' := [(1, .int (nI 0)), (0, .ref b0)]) X.1 X.2.1 dX11_takeDraft_19 rfl hl (by decide) rfl (fun ls hl => ?_)
    refine lv_aload_n X.1 X.2.1 dX11_takeDraft_20 rfl (lv_at hl 1 rfl) ?_
    refine va_get (D := g.1) (ci := 10) (v := .ref ha) (C := RX11) (T := TX11) (N := 11) X.1 X.2.1 X.2.2.2.2 iwX11 X.2.2.2.1 hK hP 0 rfl rfl 7 (by decide) (X.2.2.2.2 _ q243) (fun _ h9 => h9) rfl dX11_takeDraft_21 ?_
    refine lv_aload_n X.1 X.2.1 dX11_takeDraft_24 rfl (lv_at hl 1 rfl) ?_
    refine va_get (D := g.1) (ci := 10) (v := .ref qa) (C := RX11) (T := TX11) (N := 11) X.1 X.2.1 X.2.2.2.2 iwX11 X.2.2.2.1 hK hP 0 rfl rfl 1 (by decide) (X.2.2.2.2 _ q237) (fun _ h9 => h9) rfl dX11_takeDraft_25 ?_
    refine (c_hi_rem g ha hr_ hz_ nx h fr fz qa qb s f (by omega) (by assumption) (by assumption)).callV (rest := []) (wr := [(b0, .inr (10, [.ref sa, .ref qa, .ref da, .ref ka, .ref o, .ref ca, .ref pa, .ref ha, .ref na, .ref ta, .ref ua])), (da, .inr (9, [.ref db, .int (nI z.length)])), (db, .inl (g.2.1, 256, .inl fd))]) X dX11_takeDraft_28 q465 tX3_remember hK hP hD hS hA [5, 6, 7, 1, 2] [0, 3, 4] (by decide) rfl rfl (by decide) (by decide) 0 3 rfl rfl rfl hl ⟨⟨Nat.le_of_ble_eq_true rfl, Nat.le_of_ble_eq_true rfl⟩, Nat.le_of_ble_eq_true rfl, Nat.le_of_ble_eq_true rfl⟩ rfl rfl (Nat.le_of_ble_eq_true rfl) (fun u28 H locs hw28 hP hD hS => ?_)
    obtain ⟨fr1_28, fz1_28⟩ := u28
    have hP : PP g [(b0, .inr (10, [.ref sa, .ref qa, .ref da, .ref ka, .ref o, .ref ca, .ref pa, .ref ha, .ref na, .ref ta, .ref ua])), (da, .inr (9, [.ref db, .int (nI z.length)])), (db, .inl (g.2.1, 256, .inl fd)), (ha, .inr (3, [.ref hr_, .ref hz_, .int (nI ((nx + 1) % 6)), .int (nI (((s :: h).take 6).length))])), (hr_, .inl (g.2.1, 1536, .inl fr1_28)), (hz_, .inl (g.2.1, 6, .inl fz1_28)), (qa, .inr (9, [.ref qb, .int (nI s.length)])), (qb, .inl (g.2.1, 256, .inl f))] H := hP
    have hD : va_D A [(b0, .inr (10, [.ref sa, .ref qa, .ref da, .ref ka, .ref o, .ref ca, .ref pa, .ref ha, .ref na, .ref ta, .ref ua])), (da, .inr (9, [.ref db, .int (nI z.length)])), (db, .inl (g.2.1, 256, .inl fd)), (ha, .inr (3, [.ref hr_, .ref hz_, .int (nI ((nx + 1) % 6)), .int (nI (((s :: h).take 6).length))])), (hr_, .inl (g.2.1, 1536, .inl fr1_28)), (hz_, .inl (g.2.1, 6, .inl fz1_28)), (qa, .inr (9, [.ref qb, .int (nI s.length)])), (qb, .inl (g.2.1, 256, .inl f))] := hD
    try dsimp only at hw28
    refine lv_aload_n X.1 X.2.1 dX11_takeDraft_31 rfl (lv_at hl 1 rfl) ?_
    refine va_get (D := g.1) (ci := 10) (v := .ref qa) (C := RX11) (T := TX11) (N := 11) X.1 X.2.1 X.2.2.2.2 iwX11 X.2.2.2.1 hK hP 0 rfl rfl 1 (by decide) (X.2.2.2.2 _ q237) (fun _ h9 => h9) rfl dX11_takeDraft_32 ?_
    refine lv_aload_n X.1 X.2.1 dX11_takeDraft_35 rfl (lv_at hl 1 rfl) ?_
    refine va_get (D := g.1) (ci := 10) (v := .ref da) (C := RX11) (T := TX11) (N := 11) X.1 X.2.1 X.2.2.2.2 iwX11 X.2.2.2.1 hK hP 0 rfl rfl 2 (by decide) (X.2.2.2.2 _ q238) (fun _ h9 => h9) rfl dX11_takeDraft_36 ?_
    refine (c_Word_become g qa qb s f da db z fd (by omega) (by assumption)).callV (rest := []) (wr := [(b0, .inr (10, [.ref sa, .ref qa, .ref da, .ref ka, .ref o, .ref ca, .ref pa, .ref ha, .ref na, .ref ta, .ref ua])), (ha, .inr (3, [.ref hr_, .ref hz_, .int (nI ((nx + 1) % 6)), .int (nI (((s :: h).take 6).length))])), (hr_, .inl (g.2.1, 1536, .inl fr1_28)), (hz_, .inl (g.2.1, 6, .inl fz1_28))]) X dX11_takeDraft_39 q481 tX10_become hK hP hD hS hA [6, 7, 1, 2] [0, 3, 4, 5] (by decide) rfl rfl (by decide) (by decide) 0 9 rfl rfl rfl hl ⟨⟨Nat.le_of_ble_eq_true rfl, Nat.le_of_ble_eq_true rfl⟩, Nat.le_of_ble_eq_true rfl, Nat.le_of_ble_eq_true rfl⟩ rfl rfl (Nat.le_of_ble_eq_true rfl) (fun u39 H locs hw39 hP hD hS => ?_)
    obtain ⟨f1_39, rfl⟩ : ∃ z, z = u39 := ⟨_, rfl⟩
    have hP : PP g [(b0, .inr (10, [.ref sa, .ref qa, .ref da, .ref ka, .ref o, .ref ca, .ref pa, .ref ha, .ref na, .ref ta, .ref ua])), (ha, .inr (3, [.ref hr_, .ref hz_, .int (nI ((nx + 1) % 6)), .int (nI (((s :: h).take 6).length))])), (hr_, .inl (g.2.1, 1536, .inl fr1_28)), (hz_, .inl (g.2.1, 6, .inl fz1_28)), (qa, .inr (9, [.ref qb, .int (nI z.length)])), (qb, .inl (g.2.1, 256, .inl f1_39)), (da, .inr (9, [.ref db, .int (nI z.length)])), (db, .inl (g.2.1, 256, .inl fd))] H := hP
    have hD : va_D A [(b0, .inr (10, [.ref sa, .ref qa, .ref da, .ref ka, .ref o, .ref ca, .ref pa, .ref ha, .ref na, .ref ta, .ref ua])), (ha, .inr (3, [.ref hr_, .ref hz_, .int (nI ((nx + 1) % 6)), .int (nI (((s :: h).take 6).length))])), (hr_, .inl (g.2.1, 1536, .inl fr1_28)), (hz_, .inl (g.2.1, 6, .inl fz1_28)), (qa, .inr (9, [.ref qb, .int (nI z.length)])), (qb, .inl (g.2.1, 256, .inl f1_39)), (da, .inr (9, [.ref db, .int (nI z.length)])), (db, .inl (g.2.1, 256, .inl fd))] := hD
    try dsimp only at hw39
    refine lv_iload_n X.1 X.2.1 dX11_takeDraft_42 rfl (lv_at hl 0 rfl) ?_
    exact MuI.ret X hr hlk hK hS dX11_takeDraft_43 rfl (f1_39, fr1_28, fz1_28) (hP.sub [0, 4, 5, 6, 7, 1, 2, 3] rfl) (hD.sub [0, 4, 5, 6, 7, 1, 2, 3] (by decide) rfl) (⟨by rw [c11]; rfl, hw39, hw28⟩)
  · refine lv_iconst (v := (nI 1)) X.1 X.2.1 dX11_takeDraft_14 (by decide) ?_
    refine lv_goto (tgt := 19) X.1 X.2.1 dX11_takeDraft_15 (by decide) ?_
    refine lv_istore_n (lv' := [(1, .int (nI 1)), (0, .ref b0)]) X.1 X.2.1 dX11_takeDraft_19 rfl hl (by decide) rfl (fun ls hl => ?_)
    refine lv_aload_n X.1 X.2.1 dX11_takeDraft_20 rfl (lv_at hl 1 rfl) ?_
    refine va_get (D := g.1) (ci := 10) (v := .ref ha) (C := RX11) (T := TX11) (N := 11) X.1 X.2.1 X.2.2.2.2 iwX11 X.2.2.2.1 hK hP 0 rfl rfl 7 (by decide) (X.2.2.2.2 _ q243) (fun _ h9 => h9) rfl dX11_takeDraft_21 ?_
    refine lv_aload_n X.1 X.2.1 dX11_takeDraft_24 rfl (lv_at hl 1 rfl) ?_
    refine va_get (D := g.1) (ci := 10) (v := .ref qa) (C := RX11) (T := TX11) (N := 11) X.1 X.2.1 X.2.2.2.2 iwX11 X.2.2.2.1 hK hP 0 rfl rfl 1 (by decide) (X.2.2.2.2 _ q237) (fun _ h9 => h9) rfl dX11_takeDraft_25 ?_
    refine (c_hi_rem g ha hr_ hz_ nx h fr fz qa qb s f (by omega) (by assumption) (by assumption)).callV (rest := []) (wr := [(b0, .inr (10, [.ref sa, .ref qa, .ref da, .ref ka, .ref o, .ref ca, .ref pa, .ref ha, .ref na, .ref ta, .ref ua])), (da, .inr (9, [.ref db, .int (nI z.length)])), (db, .inl (g.2.1, 256, .inl fd))]) X dX11_takeDraft_28 q465 tX3_remember hK hP hD hS hA [5, 6, 7, 1, 2] [0, 3, 4] (by decide) rfl rfl (by decide) (by decide) 0 3 rfl rfl rfl hl ⟨⟨Nat.le_of_ble_eq_true rfl, Nat.le_of_ble_eq_true rfl⟩, Nat.le_of_ble_eq_true rfl, Nat.le_of_ble_eq_true rfl⟩ rfl rfl (Nat.le_of_ble_eq_true rfl) (fun u28 H locs hw28 hP hD hS => ?_)
    obtain ⟨fr1_28, fz1_28⟩ := u28
    have hP : PP g [(b0, .inr (10, [.ref sa, .ref qa, .ref da, .ref ka, .ref o, .ref ca, .ref pa, .ref ha, .ref na, .ref ta, .ref ua])), (da, .inr (9, [.ref db, .int (nI z.length)])), (db, .inl (g.2.1, 256, .inl fd)), (ha, .inr (3, [.ref hr_, .ref hz_, .int (nI ((nx + 1) % 6)), .int (nI (((s :: h).take 6).length))])), (hr_, .inl (g.2.1, 1536, .inl fr1_28)), (hz_, .inl (g.2.1, 6, .inl fz1_28)), (qa, .inr (9, [.ref qb, .int (nI s.length)])), (qb, .inl (g.2.1, 256, .inl f))] H := hP
    have hD : va_D A [(b0, .inr (10, [.ref sa, .ref qa, .ref da, .ref ka, .ref o, .ref ca, .ref pa, .ref ha, .ref na, .ref ta, .ref ua])), (da, .inr (9, [.ref db, .int (nI z.length)])), (db, .inl (g.2.1, 256, .inl fd)), (ha, .inr (3, [.ref hr_, .ref hz_, .int (nI ((nx + 1) % 6)), .int (nI (((s :: h).take 6).length))])), (hr_, .inl (g.2.1, 1536, .inl fr1_28)), (hz_, .inl (g.2.1, 6, .inl fz1_28)), (qa, .inr (9, [.ref qb, .int (nI s.length)])), (qb, .inl (g.2.1, 256, .inl f))] := hD
    try dsimp only at hw28
    refine lv_aload_n X.1 X.2.1 dX11_takeDraft_31 rfl (lv_at hl 1 rfl) ?_
    refine va_get (D := g.1) (ci := 10) (v := .ref qa) (C := RX11) (T := TX11) (N := 11) X.1 X.2.1 X.2.2.2.2 iwX11 X.2.2.2.1 hK hP 0 rfl rfl 1 (by decide) (X.2.2.2.2 _ q237) (fun _ h9 => h9) rfl dX11_takeDraft_32 ?_
    refine lv_aload_n X.1 X.2.1 dX11_takeDraft_35 rfl (lv_at hl 1 rfl) ?_
    refine va_get (D := g.1) (ci := 10) (v := .ref da) (C := RX11) (T := TX11) (N := 11) X.1 X.2.1 X.2.2.2.2 iwX11 X.2.2.2.1 hK hP 0 rfl rfl 2 (by decide) (X.2.2.2.2 _ q238) (fun _ h9 => h9) rfl dX11_takeDraft_36 ?_
    refine (c_Word_become g qa qb s f da db z fd (by omega) (by assumption)).callV (rest := []) (wr := [(b0, .inr (10, [.ref sa, .ref qa, .ref da, .ref ka, .ref o, .ref ca, .ref pa, .ref ha, .ref na, .ref ta, .ref ua])), (ha, .inr (3, [.ref hr_, .ref hz_, .int (nI ((nx + 1) % 6)), .int (nI (((s :: h).take 6).length))])), (hr_, .inl (g.2.1, 1536, .inl fr1_28)), (hz_, .inl (g.2.1, 6, .inl fz1_28))]) X dX11_takeDraft_39 q481 tX10_become hK hP hD hS hA [6, 7, 1, 2] [0, 3, 4, 5] (by decide) rfl rfl (by decide) (by decide) 0 9 rfl rfl rfl hl ⟨⟨Nat.le_of_ble_eq_true rfl, Nat.le_of_ble_eq_true rfl⟩, Nat.le_of_ble_eq_true rfl, Nat.le_of_ble_eq_true rfl⟩ rfl rfl (Nat.le_of_ble_eq_true rfl) (fun u39 H locs hw39 hP hD hS => ?_)
    obtain ⟨f1_39, rfl⟩ : ∃ z, z = u39 := ⟨_, rfl⟩
    have hP : PP g [(b0, .inr (10, [.ref sa, .ref qa, .ref da, .ref ka, .ref o, .ref ca, .ref pa, .ref ha, .ref na, .ref ta, .ref ua])), (ha, .inr (3, [.ref hr_, .ref hz_, .int (nI ((nx + 1) % 6)), .int (nI (((s :: h).take 6).length))])), (hr_, .inl (g.2.1, 1536, .inl fr1_28)), (hz_, .inl (g.2.1, 6, .inl fz1_28)), (qa, .inr (9, [.ref qb, .int (nI z.length)])), (qb, .inl (g.2.1, 256, .inl f1_39)), (da, .inr (9, [.ref db, .int (nI z.length)])), (db, .inl (g.2.1, 256, .inl fd))] H := hP
    have hD : va_D A [(b0, .inr (10, [.ref sa, .ref qa, .ref da, .ref ka, .ref o, .ref ca, .ref pa, .ref ha, .ref na, .ref ta, .ref ua])), (ha, .inr (3, [.ref hr_, .ref hz_, .int (nI ((nx + 1) % 6)), .int (nI (((s :: h).take 6).length))])), (hr_, .inl (g.2.1, 1536, .inl fr1_28)), (hz_, .inl (g.2.1, 6, .inl fz1_28)), (qa, .inr (9, [.ref qb, .int (nI z.length)])), (qb, .inl (g.2.1, 256, .inl f1_39)), (da, .inr (9, [.ref db, .int (nI z.length)])), (db, .inl (g.2.1, 256, .inl fd))] := hD
    try dsimp only at hw39
    refine lv_iload_n X.1 X.2.1 dX11_takeDraft_42 rfl (lv_at hl 0 rfl) ?_
    exact MuI.ret X hr hlk hK hS dX11_takeDraft_43 rfl (f1_39, fr1_28, fz1_28) (hP.sub [0, 4, 5, 6, 7, 1, 2, 3] rfl) (hD.sub [0, 4, 5, 6, 7, 1, 2, 3] (by decide) rfl) (⟨by rw [c11]; rfl, hw39, hw28⟩)

set_option maxHeartbeats 4000000 in
set_option maxRecDepth 100000 in
theorem b_forget (g : G5) (b0 : Nat) (sa : Nat) (qa : Nat) (da : Nat) (ka : Nat) (o : Nat) (ca : Nat) (pa : Nat) (ha : Nat) (na : Nat) (ta : Nat) (ua : Nat) (pb : Nat) (p : List Int) (fp : Nat → Int32) (hr_ : Nat) (hz_ : Nat) (nx : Nat) (h : List (List Nat)) (fr : Nat → Int32) (fz : Nat → Int32) : MuV (S := (Nat → Int32)) yX11_forgetPatternAndHistory cX11_forgetPatternAndHistory 1 none 1 20 g [.ref b0] [(b0, .inr (10, [.ref sa, .ref qa, .ref da, .ref ka, .ref o, .ref ca, .ref pa, .ref ha, .ref na, .ref ta, .ref ua])), (pa, .inr (5, [.ref pb, .int (nI p.length)])), (pb, .inl (g.2.1, 8, .inl fp)), (ha, .inr (3, [.ref hr_, .ref hz_, .int (nI nx), .int (nI h.length)])), (hr_, .inl (g.2.1, 1536, .inl fr)), (hz_, .inl (g.2.1, 6, .inl fz))] (fun fp1 => repZ fp1 []) (fun fp1 => [(b0, .inr (10, [.ref sa, .ref qa, .ref da, .ref ka, .ref o, .ref ca, .ref pa, .ref ha, .ref na, .ref ta, .ref ua])), (pa, .inr (5, [.ref pb, .int (nI (([] : List Int).length))])), (pb, .inl (g.2.1, 8, .inl fp1)), (ha, .inr (3, [.ref hr_, .ref hz_, .int (nI nx), .int (nI (([] : List (List Nat)).length))])), (hr_, .inl (g.2.1, 1536, .inl fr)), (hz_, .inl (g.2.1, 6, .inl fz))]) := by
  refine MuV.of (by decide +kernel) (Nat.le_of_ble_eq_true rfl) ?_
  intro p_ l_ e_ S_ m_ args below meth co X hr hlk hP hK A hA hD hS ls hl
  have X : CallFix p_ m_ co cX11_forgetPatternAndHistory 1 S_ args lw_all RX11 := X
  have hl : lv_has ls 1 [(0, .ref b0)] := hl
  refine lv_aload_n X.1 X.2.1 dX11_forgetPatternAndHistory_0 rfl (lv_at hl 0 rfl) ?_
  refine va_get (D := g.1) (ci := 10) (v := .ref pa) (C := RX11) (T := TX11) (N := 11) X.1 X.2.1 X.2.2.2.2 iwX11 X.2.2.2.1 hK hP 0 rfl rfl 6 (by decide) (X.2.2.2.2 _ q242) (fun _ h9 => h9) rfl dX11_forgetPatternAndHistory_1 ?_
  refine (c_pt_clear g pa pb p fp).callV (rest := []) (wr := [(b0, .inr (10, [.ref sa, .ref qa, .ref da, .ref ka, .ref o, .ref ca, .ref pa, .ref ha, .ref na, .ref ta, .ref ua])), (ha, .inr (3, [.ref hr_, .ref hz_, .int (nI nx), .int (nI h.length)])), (hr_, .inl (g.2.1, 1536, .inl fr)), (hz_, .inl (g.2.1, 6, .inl fz))]) X dX11_forgetPatternAndHistory_4 q292 tX5_clear hK hP hD hS hA [1, 2] [0, 3, 4, 5] (by decide) rfl rfl (by decide) (by decide) 0 5 rfl rfl rfl hl ⟨⟨Nat.le_of_ble_eq_true rfl, Nat.le_of_ble_eq_true rfl⟩, Nat.le_of_ble_eq_true rfl, Nat.le_of_ble_eq_true rfl⟩ rfl rfl (Nat.le_of_ble_eq_true rfl) (fun u4 H locs hw4 hP hD hS => ?_)
  obtain ⟨f1_4, rfl⟩ : ∃ z, z = u4 := ⟨_, rfl⟩
  have hP : PP g [(b0, .inr (10, [.ref sa, .ref qa, .ref da, .ref ka, .ref o, .ref ca, .ref pa, .ref ha, .ref na, .ref ta, .ref ua])), (ha, .inr (3, [.ref hr_, .ref hz_, .int (nI nx), .int (nI h.length)])), (hr_, .inl (g.2.1, 1536, .inl fr)), (hz_, .inl (g.2.1, 6, .inl fz)), (pa, .inr (5, [.ref pb, .int (nI (([] : List Int).length))])), (pb, .inl (g.2.1, 8, .inl f1_4))] H := hP
  have hD : va_D A [(b0, .inr (10, [.ref sa, .ref qa, .ref da, .ref ka, .ref o, .ref ca, .ref pa, .ref ha, .ref na, .ref ta, .ref ua])), (ha, .inr (3, [.ref hr_, .ref hz_, .int (nI nx), .int (nI h.length)])), (hr_, .inl (g.2.1, 1536, .inl fr)), (hz_, .inl (g.2.1, 6, .inl fz)), (pa, .inr (5, [.ref pb, .int (nI (([] : List Int).length))])), (pb, .inl (g.2.1, 8, .inl f1_4))] := hD
  try dsimp only at hw4
  refine lv_aload_n X.1 X.2.1 dX11_forgetPatternAndHistory_7 rfl (lv_at hl 0 rfl) ?_
  refine va_get (D := g.1) (ci := 10) (v := .ref ha) (C := RX11) (T := TX11) (N := 11) X.1 X.2.1 X.2.2.2.2 iwX11 X.2.2.2.1 hK hP 0 rfl rfl 7 (by decide) (X.2.2.2.2 _ q243) (fun _ h9 => h9) rfl dX11_forgetPatternAndHistory_8 ?_
  refine (c_hi_clear g ha hr_ hz_ nx h fr fz).callV (rest := []) (wr := [(b0, .inr (10, [.ref sa, .ref qa, .ref da, .ref ka, .ref o, .ref ca, .ref pa, .ref ha, .ref na, .ref ta, .ref ua])), (pa, .inr (5, [.ref pb, .int (nI (([] : List Int).length))])), (pb, .inl (g.2.1, 8, .inl f1_4))]) X dX11_forgetPatternAndHistory_11 q296 tX3_clear hK hP hD hS hA [1, 2, 3] [0, 4, 5] (by decide) rfl rfl (by decide) (by decide) 0 3 rfl rfl rfl hl ⟨⟨Nat.le_of_ble_eq_true rfl, Nat.le_of_ble_eq_true rfl⟩, Nat.le_of_ble_eq_true rfl, Nat.le_of_ble_eq_true rfl⟩ rfl rfl (Nat.le_of_ble_eq_true rfl) (fun u11 H locs hw11 hP hD hS => ?_)
  have hP : PP g [(b0, .inr (10, [.ref sa, .ref qa, .ref da, .ref ka, .ref o, .ref ca, .ref pa, .ref ha, .ref na, .ref ta, .ref ua])), (pa, .inr (5, [.ref pb, .int (nI (([] : List Int).length))])), (pb, .inl (g.2.1, 8, .inl f1_4)), (ha, .inr (3, [.ref hr_, .ref hz_, .int (nI nx), .int (nI (([] : List (List Nat)).length))])), (hr_, .inl (g.2.1, 1536, .inl fr)), (hz_, .inl (g.2.1, 6, .inl fz))] H := hP
  have hD : va_D A [(b0, .inr (10, [.ref sa, .ref qa, .ref da, .ref ka, .ref o, .ref ca, .ref pa, .ref ha, .ref na, .ref ta, .ref ua])), (pa, .inr (5, [.ref pb, .int (nI (([] : List Int).length))])), (pb, .inl (g.2.1, 8, .inl f1_4)), (ha, .inr (3, [.ref hr_, .ref hz_, .int (nI nx), .int (nI (([] : List (List Nat)).length))])), (hr_, .inl (g.2.1, 1536, .inl fr)), (hz_, .inl (g.2.1, 6, .inl fz))] := hD
  try dsimp only at hw11
  exact MuV.ret X hr hlk hK hS dX11_forgetPatternAndHistory_14 f1_4 (hP.sub [0, 1, 2, 3, 4, 5] rfl) (hD.sub [0, 1, 2, 3, 4, 5] (by decide) rfl) (hw4)

set_option maxHeartbeats 4000000 in
set_option maxRecDepth 100000 in
theorem b_configure_ok (g : G5) (b0 : Nat) (sa : Nat) (qa : Nat) (da : Nat) (ka : Nat) (o : Nat) (ca : Nat) (pa : Nat) (ha : Nat) (na : Nat) (ta : Nat) (ua : Nat) (k : Nat) (n : Nat) (B : Nat) (T : Nat) (qb : Nat) (s : List Nat) (f : Nat → Int32) (pb : Nat) (p : List Int) (fp : Nat → Int32) (hr_ : Nat) (hz_ : Nat) (nx : Nat) (h : List (List Nat)) (fr : Nat → Int32) (fz : Nat → Int32) (k1 : Nat) (n1 : Nat) (B1 : Nat) (T1 : Nat) (hc1 : shp k1 n1 B1 T1) (hp1 : possB (nI k1) (nI n1) = true) : MuI (S := (Nat → Int32) × (Nat → Int32)) yX11_configure cX11_configure 3 (some .int) 2 45 g [.ref b0, .int (nI k1), .int (nI n1)] [(b0, .inr (10, [.ref sa, .ref qa, .ref da, .ref ka, .ref o, .ref ca, .ref pa, .ref ha, .ref na, .ref ta, .ref ua])), (sa, .inr (6, [.int (nI k), .int (nI n), .int (nI B), .int (nI T)])), (qa, .inr (9, [.ref qb, .int (nI s.length)])), (qb, .inl (g.2.1, 256, .inl f)), (pa, .inr (5, [.ref pb, .int (nI p.length)])), (pb, .inl (g.2.1, 8, .inl fp)), (ha, .inr (3, [.ref hr_, .ref hz_, .int (nI nx), .int (nI h.length)])), (hr_, .inl (g.2.1, 1536, .inl fr)), (hz_, .inl (g.2.1, 6, .inl fz))] (fun r u => r = (nI B1) ∧ rep u.1 [] ∧ repZ u.2 []) (fun u => [(b0, .inr (10, [.ref sa, .ref qa, .ref da, .ref ka, .ref o, .ref ca, .ref pa, .ref ha, .ref na, .ref ta, .ref ua])), (sa, .inr (6, [.int (nI k1), .int (nI n1), .int (nI B1), .int (nI T1)])), (qa, .inr (9, [.ref qb, .int (nI (([] : List Nat).length))])), (qb, .inl (g.2.1, 256, .inl u.1)), (pa, .inr (5, [.ref pb, .int (nI (([] : List Int).length))])), (pb, .inl (g.2.1, 8, .inl u.2)), (ha, .inr (3, [.ref hr_, .ref hz_, .int (nI nx), .int (nI (([] : List (List Nat)).length))])), (hr_, .inl (g.2.1, 1536, .inl fr)), (hz_, .inl (g.2.1, 6, .inl fz))]) := by
  refine MuI.of (by decide +kernel) (Nat.le_of_ble_eq_true rfl) ?_
  intro p_ l_ e_ S_ m_ args below meth co X hr hlk hP hK A hA hD hS ls hl
  have X : CallFix p_ m_ co cX11_configure 3 S_ args lw_all RX11 := X
  have hl : lv_has ls 3 [(0, .ref b0), (1, .int (nI k1)), (2, .int (nI n1))] := hl
  refine lv_iload_n X.1 X.2.1 dX11_configure_0 rfl (lv_at hl 1 rfl) ?_
  refine lv_iload_n X.1 X.2.1 dX11_configure_1 rfl (lv_at hl 2 rfl) ?_
  refine (c_isPossible g (nI k1) (nI n1)).callS (rest := []) X dX11_configure_2 q274 tX6_isPossible hK (hP.sub [] rfl) hl ⟨⟨Nat.le_of_ble_eq_true rfl, Nat.le_of_ble_eq_true rfl⟩, Nat.le_of_ble_eq_true rfl, Nat.le_of_ble_eq_true rfl⟩ rfl rfl (Nat.le_of_ble_eq_true rfl) ?_
  refine b_if_ne (tgt := 10) X dX11_configure_5 (by decide) (fun c5 => ?_) (fun c5 => ?_)
  · refine lv_aload_n X.1 X.2.1 dX11_configure_10 rfl (lv_at hl 0 rfl) ?_
    refine va_get (D := g.1) (ci := 10) (v := .ref sa) (C := RX11) (T := TX11) (N := 11) X.1 X.2.1 X.2.2.2.2 iwX11 X.2.2.2.1 hK hP 0 rfl rfl 0 (by decide) (X.2.2.2.2 _ q236) (fun _ h9 => h9) rfl dX11_configure_11 ?_
    refine lv_iload_n X.1 X.2.1 dX11_configure_14 rfl (lv_at hl 1 rfl) ?_
    refine lv_iload_n X.1 X.2.1 dX11_configure_15 rfl (lv_at hl 2 rfl) ?_
    refine (c_change g sa k n B T k1 n1 B1 T1 (by assumption)).callV (rest := []) (wr := [(b0, .inr (10, [.ref sa, .ref qa, .ref da, .ref ka, .ref o, .ref ca, .ref pa, .ref ha, .ref na, .ref ta, .ref ua])), (qa, .inr (9, [.ref qb, .int (nI s.length)])), (qb, .inl (g.2.1, 256, .inl f)), (pa, .inr (5, [.ref pb, .int (nI p.length)])), (pb, .inl (g.2.1, 8, .inl fp)), (ha, .inr (3, [.ref hr_, .ref hz_, .int (nI nx), .int (nI h.length)])), (hr_, .inl (g.2.1, 1536, .inl fr)), (hz_, .inl (g.2.1, 6, .inl fz))]) X dX11_configure_16 q280 tX6_change hK hP hD hS hA [1] [0, 2, 3, 4, 5, 6, 7, 8] (by decide) rfl rfl (by decide) (by decide) 0 6 rfl rfl rfl hl ⟨⟨Nat.le_of_ble_eq_true rfl, Nat.le_of_ble_eq_true rfl⟩, Nat.le_of_ble_eq_true rfl, Nat.le_of_ble_eq_true rfl⟩ rfl rfl (Nat.le_of_ble_eq_true rfl) (fun u16 H locs hw16 hP hD hS => ?_)
    have hP : PP g [(b0, .inr (10, [.ref sa, .ref qa, .ref da, .ref ka, .ref o, .ref ca, .ref pa, .ref ha, .ref na, .ref ta, .ref ua])), (qa, .inr (9, [.ref qb, .int (nI s.length)])), (qb, .inl (g.2.1, 256, .inl f)), (pa, .inr (5, [.ref pb, .int (nI p.length)])), (pb, .inl (g.2.1, 8, .inl fp)), (ha, .inr (3, [.ref hr_, .ref hz_, .int (nI nx), .int (nI h.length)])), (hr_, .inl (g.2.1, 1536, .inl fr)), (hz_, .inl (g.2.1, 6, .inl fz)), (sa, .inr (6, [.int (nI k1), .int (nI n1), .int (nI B1), .int (nI T1)]))] H := hP
    have hD : va_D A [(b0, .inr (10, [.ref sa, .ref qa, .ref da, .ref ka, .ref o, .ref ca, .ref pa, .ref ha, .ref na, .ref ta, .ref ua])), (qa, .inr (9, [.ref qb, .int (nI s.length)])), (qb, .inl (g.2.1, 256, .inl f)), (pa, .inr (5, [.ref pb, .int (nI p.length)])), (pb, .inl (g.2.1, 8, .inl fp)), (ha, .inr (3, [.ref hr_, .ref hz_, .int (nI nx), .int (nI h.length)])), (hr_, .inl (g.2.1, 1536, .inl fr)), (hz_, .inl (g.2.1, 6, .inl fz)), (sa, .inr (6, [.int (nI k1), .int (nI n1), .int (nI B1), .int (nI T1)]))] := hD
    try dsimp only at hw16
    refine lv_aload_n X.1 X.2.1 dX11_configure_19 rfl (lv_at hl 0 rfl) ?_
    refine va_get (D := g.1) (ci := 10) (v := .ref qa) (C := RX11) (T := TX11) (N := 11) X.1 X.2.1 X.2.2.2.2 iwX11 X.2.2.2.1 hK hP 0 rfl rfl 1 (by decide) (X.2.2.2.2 _ q237) (fun _ h9 => h9) rfl dX11_configure_20 ?_
    refine (c_Word_clear g qa qb s f).callV (rest := []) (wr := [(b0, .inr (10, [.ref sa, .ref qa, .ref da, .ref ka, .ref o, .ref ca, .ref pa, .ref ha, .ref na, .ref ta, .ref ua])), (pa, .inr (5, [.ref pb, .int (nI p.length)])), (pb, .inl (g.2.1, 8, .inl fp)), (ha, .inr (3, [.ref hr_, .ref hz_, .int (nI nx), .int (nI h.length)])), (hr_, .inl (g.2.1, 1536, .inl fr)), (hz_, .inl (g.2.1, 6, .inl fz)), (sa, .inr (6, [.int (nI k1), .int (nI n1), .int (nI B1), .int (nI T1)]))]) X dX11_configure_23 q284 tX10_clear hK hP hD hS hA [1, 2] [0, 3, 4, 5, 6, 7, 8] (by decide) rfl rfl (by decide) (by decide) 0 9 rfl rfl rfl hl ⟨⟨Nat.le_of_ble_eq_true rfl, Nat.le_of_ble_eq_true rfl⟩, Nat.le_of_ble_eq_true rfl, Nat.le_of_ble_eq_true rfl⟩ rfl rfl (Nat.le_of_ble_eq_true rfl) (fun u23 H locs hw23 hP hD hS => ?_)
    obtain ⟨f1_23, rfl⟩ : ∃ z, z = u23 := ⟨_, rfl⟩
    have hP : PP g [(b0, .inr (10, [.ref sa, .ref qa, .ref da, .ref ka, .ref o, .ref ca, .ref pa, .ref ha, .ref na, .ref ta, .ref ua])), (pa, .inr (5, [.ref pb, .int (nI p.length)])), (pb, .inl (g.2.1, 8, .inl fp)), (ha, .inr (3, [.ref hr_, .ref hz_, .int (nI nx), .int (nI h.length)])), (hr_, .inl (g.2.1, 1536, .inl fr)), (hz_, .inl (g.2.1, 6, .inl fz)), (sa, .inr (6, [.int (nI k1), .int (nI n1), .int (nI B1), .int (nI T1)])), (qa, .inr (9, [.ref qb, .int (nI (([] : List Nat).length))])), (qb, .inl (g.2.1, 256, .inl f1_23))] H := hP
    have hD : va_D A [(b0, .inr (10, [.ref sa, .ref qa, .ref da, .ref ka, .ref o, .ref ca, .ref pa, .ref ha, .ref na, .ref ta, .ref ua])), (pa, .inr (5, [.ref pb, .int (nI p.length)])), (pb, .inl (g.2.1, 8, .inl fp)), (ha, .inr (3, [.ref hr_, .ref hz_, .int (nI nx), .int (nI h.length)])), (hr_, .inl (g.2.1, 1536, .inl fr)), (hz_, .inl (g.2.1, 6, .inl fz)), (sa, .inr (6, [.int (nI k1), .int (nI n1), .int (nI B1), .int (nI T1)])), (qa, .inr (9, [.ref qb, .int (nI (([] : List Nat).length))])), (qb, .inl (g.2.1, 256, .inl f1_23))] := hD
    try dsimp only at hw23
    refine lv_aload_n X.1 X.2.1 dX11_configure_26 rfl (lv_at hl 0 rfl) ?_
    refine (b_forget g b0 sa qa da ka o ca pa ha na ta ua pb p fp hr_ hz_ nx h fr fz).callV (rest := []) (wr := [(sa, .inr (6, [.int (nI k1), .int (nI n1), .int (nI B1), .int (nI T1)])), (qa, .inr (9, [.ref qb, .int (nI (([] : List Nat).length))])), (qb, .inl (g.2.1, 256, .inl f1_23))]) X dX11_configure_27 q288 tX11_forgetPatternAndHistory hK hP hD hS hA [0, 1, 2, 3, 4, 5] [6, 7, 8] (by decide) rfl rfl (by decide) (by decide) 0 10 rfl rfl rfl hl ⟨⟨Nat.le_of_ble_eq_true rfl, Nat.le_of_ble_eq_true rfl⟩, Nat.le_of_ble_eq_true rfl, Nat.le_of_ble_eq_true rfl⟩ rfl rfl (Nat.le_of_ble_eq_true rfl) (fun u27 H locs hw27 hP hD hS => ?_)
    obtain ⟨fp1_27, rfl⟩ : ∃ z, z = u27 := ⟨_, rfl⟩
    have hP : PP g [(sa, .inr (6, [.int (nI k1), .int (nI n1), .int (nI B1), .int (nI T1)])), (qa, .inr (9, [.ref qb, .int (nI (([] : List Nat).length))])), (qb, .inl (g.2.1, 256, .inl f1_23)), (b0, .inr (10, [.ref sa, .ref qa, .ref da, .ref ka, .ref o, .ref ca, .ref pa, .ref ha, .ref na, .ref ta, .ref ua])), (pa, .inr (5, [.ref pb, .int (nI (([] : List Int).length))])), (pb, .inl (g.2.1, 8, .inl fp1_27)), (ha, .inr (3, [.ref hr_, .ref hz_, .int (nI nx), .int (nI (([] : List (List Nat)).length))])), (hr_, .inl (g.2.1, 1536, .inl fr)), (hz_, .inl (g.2.1, 6, .inl fz))] H := hP
    have hD : va_D A [(sa, .inr (6, [.int (nI k1), .int (nI n1), .int (nI B1), .int (nI T1)])), (qa, .inr (9, [.ref qb, .int (nI (([] : List Nat).length))])), (qb, .inl (g.2.1, 256, .inl f1_23)), (b0, .inr (10, [.ref sa, .ref qa, .ref da, .ref ka, .ref o, .ref ca, .ref pa, .ref ha, .ref na, .ref ta, .ref ua])), (pa, .inr (5, [.ref pb, .int (nI (([] : List Int).length))])), (pb, .inl (g.2.1, 8, .inl fp1_27)), (ha, .inr (3, [.ref hr_, .ref hz_, .int (nI nx), .int (nI (([] : List (List Nat)).length))])), (hr_, .inl (g.2.1, 1536, .inl fr)), (hz_, .inl (g.2.1, 6, .inl fz))] := hD
    try dsimp only at hw27
    refine lv_aload_n X.1 X.2.1 dX11_configure_30 rfl (lv_at hl 0 rfl) ?_
    refine va_get (D := g.1) (ci := 10) (v := .ref sa) (C := RX11) (T := TX11) (N := 11) X.1 X.2.1 X.2.2.2.2 iwX11 X.2.2.2.1 hK hP 3 rfl rfl 0 (by decide) (X.2.2.2.2 _ q236) (fun _ h9 => h9) rfl dX11_configure_31 ?_
    refine (c_sh_B g sa k1 n1 B1 T1).callV (rest := []) X dX11_configure_34 q300 tX6_blockTotal hK (hP.sub [0] rfl) 0 6 rfl rfl rfl hl ⟨⟨Nat.le_of_ble_eq_true rfl, Nat.le_of_ble_eq_true rfl⟩, Nat.le_of_ble_eq_true rfl, Nat.le_of_ble_eq_true rfl⟩ rfl rfl (Nat.le_of_ble_eq_true rfl) ?_
    exact MuI.ret X hr hlk hK hS dX11_configure_37 (nI_nar _) (f1_23, fp1_27) (hP.sub [3, 0, 1, 2, 4, 5, 6, 7, 8] rfl) (hD.sub [3, 0, 1, 2, 4, 5, 6, 7, 8] (by decide) rfl) (⟨rfl, hw23.2, hw27⟩)
  · exfalso; rw [hp1] at c5; cases c5

set_option maxHeartbeats 4000000 in
set_option maxRecDepth 100000 in
theorem b_configure_no (g : G5) (b0 : Nat) (sa : Nat) (qa : Nat) (da : Nat) (ka : Nat) (o : Nat) (ca : Nat) (pa : Nat) (ha : Nat) (na : Nat) (ta : Nat) (ua : Nat) (x : Int32) (y : Int32) (hno : possB x y = false) : PuI yX11_configure cX11_configure 3 (some .int) 2 45 g [.ref b0, .int x, .int y] [(b0, .inr (10, [.ref sa, .ref qa, .ref da, .ref ka, .ref o, .ref ca, .ref pa, .ref ha, .ref na, .ref ta, .ref ua]))] (-1) := by
  refine PuI.of (by decide +kernel) (Nat.le_of_ble_eq_true rfl) ?_
  intro p_ l_ e_ S_ m_ args below meth co X hr hlk hP hK ls hl
  have X : CallFix p_ m_ co cX11_configure 3 S_ args lw_all RX11 := X
  have hl : lv_has ls 3 [(0, .ref b0), (1, .int x), (2, .int y)] := hl
  refine lv_iload_n X.1 X.2.1 dX11_configure_0 rfl (lv_at hl 1 rfl) ?_
  refine lv_iload_n X.1 X.2.1 dX11_configure_1 rfl (lv_at hl 2 rfl) ?_
  refine (c_isPossible g x y).callS (rest := []) X dX11_configure_2 q274 tX6_isPossible hK (hP.sub [] rfl) hl ⟨⟨Nat.le_of_ble_eq_true rfl, Nat.le_of_ble_eq_true rfl⟩, Nat.le_of_ble_eq_true rfl, Nat.le_of_ble_eq_true rfl⟩ rfl rfl (Nat.le_of_ble_eq_true rfl) ?_
  refine b_if_ne (tgt := 10) X dX11_configure_5 (by decide) (fun c5 => ?_) (fun c5 => ?_)
  · exfalso; rw [hno] at c5; cases c5
  · refine lv_iconst (v := (-1)) X.1 X.2.1 dX11_configure_8 (by decide) ?_
    exact PuI.ret X hr hlk dX11_configure_9 (nI_nar _) (rfl)

set_option maxHeartbeats 4000000 in
set_option maxRecDepth 100000 in
theorem b_construct_ok (g : G5) (b0 : Nat) (sa : Nat) (qa : Nat) (da : Nat) (ka : Nat) (o : Nat) (ca : Nat) (pa : Nat) (ha : Nat) (na : Nat) (ta : Nat) (ua : Nat) (k : Nat) (n : Nat) (B : Nat) (T : Nat) (qb : Nat) (s : List Nat) (f : Nat → Int32) (db : Nat) (z : List Nat) (fd : Nat → Int32) (fo : Nat) (fb : Nat) (sb : Nat) (cb : Nat) (q : Nat → Bool) (su : Nat → Int32) (cy : Nat → Int32) (hr_ : Nat) (hz_ : Nat) (nx : Nat) (h : List (List Nat)) (fr : Nat → Int32) (fz : Nat → Int32) (kd : Nat) (y : Int32) (p : Nat) (hc : shp k n B T) (hs : s.length ≤ 256) (hf : rep f s) (hlt : ltk k s) (hh : hrep nx fr fz h) (hk : kd < 4) (hpp : kd = 3 → y = nI p ∧ p < T) : MuI (S := (Nat → Int32) × (Nat → Int32) × (Nat → Bool) × (Nat → Int32) × (Nat → Int32) × (Nat → Int32) × (Nat → Int32)) yX11_construct cX11_construct 3 (some .int) 5 119 g [.ref b0, .int (nI kd), .int y] [(b0, .inr (10, [.ref sa, .ref qa, .ref da, .ref ka, .ref o, .ref ca, .ref pa, .ref ha, .ref na, .ref ta, .ref ua])), (sa, .inr (6, [.int (nI k), .int (nI n), .int (nI B), .int (nI T)])), (qa, .inr (9, [.ref qb, .int (nI s.length)])), (qb, .inl (g.2.1, 256, .inl f)), (da, .inr (9, [.ref db, .int (nI z.length)])), (db, .inl (g.2.1, 256, .inl fd)), (o, .inr (1, [.ref fo, .ref sb, .ref cb])), (fo, .inr (4, [.ref fb])), (fb, .inl (g.2.2.1, 256, .inl (mf q))), (sb, .inl (g.2.1, 256, .inl su)), (cb, .inl (g.2.1, 256, .inl cy)), (ha, .inr (3, [.ref hr_, .ref hz_, .int (nI nx), .int (nI h.length)])), (hr_, .inl (g.2.1, 1536, .inl fr)), (hz_, .inl (g.2.1, 6, .inl fz))] (fun r u => r = (nI ((conL k T n B kd p).length)) ∧ rep u.1 (conL k T n B kd p) ∧ hrep ((nx + 1) % 6) u.2.2.2.2.2.1 u.2.2.2.2.2.2 ((s :: h).take 6)) (fun u => [(b0, .inr (10, [.ref sa, .ref qa, .ref da, .ref ka, .ref o, .ref ca, .ref pa, .ref ha, .ref na, .ref ta, .ref ua])), (sa, .inr (6, [.int (nI k), .int (nI n), .int (nI B), .int (nI T)])), (qa, .inr (9, [.ref qb, .int (nI ((conL k T n B kd p).length))])), (qb, .inl (g.2.1, 256, .inl u.1)), (da, .inr (9, [.ref db, .int (nI ((conL k T n B kd p).length))])), (db, .inl (g.2.1, 256, .inl u.2.1)), (o, .inr (1, [.ref fo, .ref sb, .ref cb])), (fo, .inr (4, [.ref fb])), (fb, .inl (g.2.2.1, 256, .inl (mf u.2.2.1))), (sb, .inl (g.2.1, 256, .inl u.2.2.2.1)), (cb, .inl (g.2.1, 256, .inl u.2.2.2.2.1)), (ha, .inr (3, [.ref hr_, .ref hz_, .int (nI ((nx + 1) % 6)), .int (nI (((s :: h).take 6).length))])), (hr_, .inl (g.2.1, 1536, .inl u.2.2.2.2.2.1)), (hz_, .inl (g.2.1, 6, .inl u.2.2.2.2.2.2))]) := by
  refine MuI.of (by decide +kernel) (Nat.le_of_ble_eq_true rfl) ?_
  intro p_ l_ e_ S_ m_ args below meth co X hr hlk hP hK A hA hD hS ls hl
  have X : CallFix p_ m_ co cX11_construct 3 S_ args lw_all RX11 := X
  have hl : lv_has ls 3 [(0, .ref b0), (1, .int (nI kd)), (2, .int y)] := hl
  obtain ⟨hk2, hk4, hn1, hn6, hB, hT, hBT, hT2⟩ := hc.f
  have hB0 : 0 < B := by rw [hBT]; exact Nat.mul_pos (by omega) (by omega)
  have hcl := con_len hc kd p
  have hbc := (ltk_con hc kd p).bd hk4
  have hbs := hlt.bd hk4
  refine lv_iload_n X.1 X.2.1 dX11_construct_0 rfl (lv_at hl 1 rfl) ?_
  refine z_if_lt (tgt := 9) X dX11_construct_1 (by decide) (nI_toInt (by omega)) (fun c1 => ?_) (fun c1 => ?_)
  · exfalso; omega
  · refine lv_iload_n X.1 X.2.1 dX11_construct_4 rfl (lv_at hl 1 rfl) ?_
    refine lv_iconst (v := (nI 3)) X.1 X.2.1 dX11_construct_5 (by decide) ?_
    refine z_icmp_le (tgt := 11) X dX11_construct_6 (by decide) (nI_toInt (by omega)) (nI_toInt (by omega)) (fun c6 => ?_) (fun c6 => ?_)
    · refine lv_iload_n X.1 X.2.1 dX11_construct_11 rfl (lv_at hl 1 rfl) ?_
      refine lv_iconst (v := (nI 3)) X.1 X.2.1 dX11_construct_12 (by decide) ?_
      refine z_icmp_ne (tgt := 33) X dX11_construct_13 (by decide) (nI_toInt (by omega)) (nI_toInt (by omega)) (fun c13 => ?_) (fun c13 => ?_)
      · refine lv_aload_n X.1 X.2.1 dX11_construct_33 rfl (lv_at hl 0 rfl) ?_
        refine va_get (D := g.1) (ci := 10) (v := .ref da) (C := RX11) (T := TX11) (N := 11) X.1 X.2.1 X.2.2.2.2 iwX11 X.2.2.2.1 hK hP 0 rfl rfl 2 (by decide) (X.2.2.2.2 _ q238) (fun _ h9 => h9) rfl dX11_construct_34 ?_
        refine (c_Word_clear g da db z fd).callV (rest := []) (wr := [(b0, .inr (10, [.ref sa, .ref qa, .ref da, .ref ka, .ref o, .ref ca, .ref pa, .ref ha, .ref na, .ref ta, .ref ua])), (sa, .inr (6, [.int (nI k), .int (nI n), .int (nI B), .int (nI T)])), (qa, .inr (9, [.ref qb, .int (nI s.length)])), (qb, .inl (g.2.1, 256, .inl f)), (o, .inr (1, [.ref fo, .ref sb, .ref cb])), (fo, .inr (4, [.ref fb])), (fb, .inl (g.2.2.1, 256, .inl (mf q))), (sb, .inl (g.2.1, 256, .inl su)), (cb, .inl (g.2.1, 256, .inl cy)), (ha, .inr (3, [.ref hr_, .ref hz_, .int (nI nx), .int (nI h.length)])), (hr_, .inl (g.2.1, 1536, .inl fr)), (hz_, .inl (g.2.1, 6, .inl fz))]) X dX11_construct_37 q284 tX10_clear hK hP hD hS hA [4, 5] [0, 1, 2, 3, 6, 7, 8, 9, 10, 11, 12, 13] (by decide) rfl rfl (by decide) (by decide) 0 9 rfl rfl rfl hl ⟨⟨Nat.le_of_ble_eq_true rfl, Nat.le_of_ble_eq_true rfl⟩, Nat.le_of_ble_eq_true rfl, Nat.le_of_ble_eq_true rfl⟩ rfl rfl (Nat.le_of_ble_eq_true rfl) (fun u37 H locs hw37 hP hD hS => ?_)
        obtain ⟨f1_37, rfl⟩ : ∃ z, z = u37 := ⟨_, rfl⟩
        have hP : PP g [(b0, .inr (10, [.ref sa, .ref qa, .ref da, .ref ka, .ref o, .ref ca, .ref pa, .ref ha, .ref na, .ref ta, .ref ua])), (sa, .inr (6, [.int (nI k), .int (nI n), .int (nI B), .int (nI T)])), (qa, .inr (9, [.ref qb, .int (nI s.length)])), (qb, .inl (g.2.1, 256, .inl f)), (o, .inr (1, [.ref fo, .ref sb, .ref cb])), (fo, .inr (4, [.ref fb])), (fb, .inl (g.2.2.1, 256, .inl (mf q))), (sb, .inl (g.2.1, 256, .inl su)), (cb, .inl (g.2.1, 256, .inl cy)), (ha, .inr (3, [.ref hr_, .ref hz_, .int (nI nx), .int (nI h.length)])), (hr_, .inl (g.2.1, 1536, .inl fr)), (hz_, .inl (g.2.1, 6, .inl fz)), (da, .inr (9, [.ref db, .int (nI (([] : List Nat).length))])), (db, .inl (g.2.1, 256, .inl f1_37))] H := hP
        have hD : va_D A [(b0, .inr (10, [.ref sa, .ref qa, .ref da, .ref ka, .ref o, .ref ca, .ref pa, .ref ha, .ref na, .ref ta, .ref ua])), (sa, .inr (6, [.int (nI k), .int (nI n), .int (nI B), .int (nI T)])), (qa, .inr (9, [.ref qb, .int (nI s.length)])), (qb, .inl (g.2.1, 256, .inl f)), (o, .inr (1, [.ref fo, .ref sb, .ref cb])), (fo, .inr (4, [.ref fb])), (fb, .inl (g.2.2.1, 256, .inl (mf q))), (sb, .inl (g.2.1, 256, .inl su)), (cb, .inl (g.2.1, 256, .inl cy)), (ha, .inr (3, [.ref hr_, .ref hz_, .int (nI nx), .int (nI h.length)])), (hr_, .inl (g.2.1, 1536, .inl fr)), (hz_, .inl (g.2.1, 6, .inl fz)), (da, .inr (9, [.ref db, .int (nI (([] : List Nat).length))])), (db, .inl (g.2.1, 256, .inl f1_37))] := hD
        try dsimp only at hw37
        refine lv_aload_n X.1 X.2.1 dX11_construct_40 rfl (lv_at hl 0 rfl) ?_
        refine va_get (D := g.1) (ci := 10) (v := .ref o) (C := RX11) (T := TX11) (N := 11) X.1 X.2.1 X.2.2.2.2 iwX11 X.2.2.2.1 hK hP 0 rfl rfl 4 (by decide) (X.2.2.2.2 _ q240) (fun _ h9 => h9) rfl dX11_construct_41 ?_
        refine lv_aload_n X.1 X.2.1 dX11_construct_44 rfl (lv_at hl 0 rfl) ?_
        refine va_get (D := g.1) (ci := 10) (v := .ref sa) (C := RX11) (T := TX11) (N := 11) X.1 X.2.1 X.2.2.2.2 iwX11 X.2.2.2.1 hK hP 0 rfl rfl 0 (by decide) (X.2.2.2.2 _ q236) (fun _ h9 => h9) rfl dX11_construct_45 ?_
        refine lv_iload_n X.1 X.2.1 dX11_construct_48 rfl (lv_at hl 1 rfl) ?_
        refine lv_iload_n X.1 X.2.1 dX11_construct_49 rfl (lv_at hl 2 rfl) ?_
        refine lv_aload_n X.1 X.2.1 dX11_construct_50 rfl (lv_at hl 0 rfl) ?_
        refine va_get (D := g.1) (ci := 10) (v := .ref da) (C := RX11) (T := TX11) (N := 11) X.1 X.2.1 X.2.2.2.2 iwX11 X.2.2.2.1 hK hP 0 rfl rfl 2 (by decide) (X.2.2.2.2 _ q238) (fun _ h9 => h9) rfl dX11_construct_51 ?_
        refine (c_build g o fo fb sb cb q su cy sa k n B T da db ([] : List Nat) f1_37 kd y p (by assumption) (hw37.2) (by rw [List.length_nil]; omega) (by omega) (by first | exact hpp | exact fun _ => ⟨rfl, hp⟩)).callV (rest := []) (wr := [(b0, .inr (10, [.ref sa, .ref qa, .ref da, .ref ka, .ref o, .ref ca, .ref pa, .ref ha, .ref na, .ref ta, .ref ua])), (qa, .inr (9, [.ref qb, .int (nI s.length)])), (qb, .inl (g.2.1, 256, .inl f)), (ha, .inr (3, [.ref hr_, .ref hz_, .int (nI nx), .int (nI h.length)])), (hr_, .inl (g.2.1, 1536, .inl fr)), (hz_, .inl (g.2.1, 6, .inl fz))]) X dX11_construct_54 q348 tX1_build hK hP hD hS hA [4, 5, 6, 7, 8, 1, 12, 13] [0, 2, 3, 9, 10, 11] (by decide) rfl rfl (by decide) (by decide) 0 1 rfl rfl rfl hl ⟨⟨Nat.le_of_ble_eq_true rfl, Nat.le_of_ble_eq_true rfl⟩, Nat.le_of_ble_eq_true rfl, Nat.le_of_ble_eq_true rfl⟩ rfl rfl (Nat.le_of_ble_eq_true rfl) (fun u54 H locs hw54 hP hD hS => ?_)
        obtain ⟨q1_54, su1_54, cy1_54, f1_54⟩ := u54
        have hP : PP g [(b0, .inr (10, [.ref sa, .ref qa, .ref da, .ref ka, .ref o, .ref ca, .ref pa, .ref ha, .ref na, .ref ta, .ref ua])), (qa, .inr (9, [.ref qb, .int (nI s.length)])), (qb, .inl (g.2.1, 256, .inl f)), (ha, .inr (3, [.ref hr_, .ref hz_, .int (nI nx), .int (nI h.length)])), (hr_, .inl (g.2.1, 1536, .inl fr)), (hz_, .inl (g.2.1, 6, .inl fz)), (o, .inr (1, [.ref fo, .ref sb, .ref cb])), (fo, .inr (4, [.ref fb])), (fb, .inl (g.2.2.1, 256, .inl (mf q1_54))), (sb, .inl (g.2.1, 256, .inl su1_54)), (cb, .inl (g.2.1, 256, .inl cy1_54)), (sa, .inr (6, [.int (nI k), .int (nI n), .int (nI B), .int (nI T)])), (da, .inr (9, [.ref db, .int (nI ((([] : List Nat) ++ conL k T n B kd p).length))])), (db, .inl (g.2.1, 256, .inl f1_54))] H := hP
        have hD : va_D A [(b0, .inr (10, [.ref sa, .ref qa, .ref da, .ref ka, .ref o, .ref ca, .ref pa, .ref ha, .ref na, .ref ta, .ref ua])), (qa, .inr (9, [.ref qb, .int (nI s.length)])), (qb, .inl (g.2.1, 256, .inl f)), (ha, .inr (3, [.ref hr_, .ref hz_, .int (nI nx), .int (nI h.length)])), (hr_, .inl (g.2.1, 1536, .inl fr)), (hz_, .inl (g.2.1, 6, .inl fz)), (o, .inr (1, [.ref fo, .ref sb, .ref cb])), (fo, .inr (4, [.ref fb])), (fb, .inl (g.2.2.1, 256, .inl (mf q1_54))), (sb, .inl (g.2.1, 256, .inl su1_54)), (cb, .inl (g.2.1, 256, .inl cy1_54)), (sa, .inr (6, [.int (nI k), .int (nI n), .int (nI B), .int (nI T)])), (da, .inr (9, [.ref db, .int (nI ((([] : List Nat) ++ conL k T n B kd p).length))])), (db, .inl (g.2.1, 256, .inl f1_54))] := hD
        try dsimp only at hw54
        have hP : PP g [(b0, .inr (10, [.ref sa, .ref qa, .ref da, .ref ka, .ref o, .ref ca, .ref pa, .ref ha, .ref na, .ref ta, .ref ua])), (qa, .inr (9, [.ref qb, .int (nI s.length)])), (qb, .inl (g.2.1, 256, .inl f)), (ha, .inr (3, [.ref hr_, .ref hz_, .int (nI nx), .int (nI h.length)])), (hr_, .inl (g.2.1, 1536, .inl fr)), (hz_, .inl (g.2.1, 6, .inl fz)), (o, .inr (1, [.ref fo, .ref sb, .ref cb])), (fo, .inr (4, [.ref fb])), (fb, .inl (g.2.2.1, 256, .inl (mf q1_54))), (sb, .inl (g.2.1, 256, .inl su1_54)), (cb, .inl (g.2.1, 256, .inl cy1_54)), (sa, .inr (6, [.int (nI k), .int (nI n), .int (nI B), .int (nI T)])), (da, .inr (9, [.ref db, .int (nI ((conL k T n B kd p).length))])), (db, .inl (g.2.1, 256, .inl f1_54))] H := by simpa only [List.nil_append] using hP
        have hD : va_D A [(b0, .inr (10, [.ref sa, .ref qa, .ref da, .ref ka, .ref o, .ref ca, .ref pa, .ref ha, .ref na, .ref ta, .ref ua])), (qa, .inr (9, [.ref qb, .int (nI s.length)])), (qb, .inl (g.2.1, 256, .inl f)), (ha, .inr (3, [.ref hr_, .ref hz_, .int (nI nx), .int (nI h.length)])), (hr_, .inl (g.2.1, 1536, .inl fr)), (hz_, .inl (g.2.1, 6, .inl fz)), (o, .inr (1, [.ref fo, .ref sb, .ref cb])), (fo, .inr (4, [.ref fb])), (fb, .inl (g.2.2.1, 256, .inl (mf q1_54))), (sb, .inl (g.2.1, 256, .inl su1_54)), (cb, .inl (g.2.1, 256, .inl cy1_54)), (sa, .inr (6, [.int (nI k), .int (nI n), .int (nI B), .int (nI T)])), (da, .inr (9, [.ref db, .int (nI ((conL k T n B kd p).length))])), (db, .inl (g.2.1, 256, .inl f1_54))] := by simpa only [List.nil_append] using hD
        refine lv_aload_n X.1 X.2.1 dX11_construct_57 rfl (lv_at hl 0 rfl) ?_
        refine (b_take g b0 sa qa da ka o ca pa ha na ta ua qb s f db (conL k T n B kd p) f1_54 hr_ hz_ nx h fr fz (by omega) (by assumption) (by omega) (rep_eq hw54 (List.nil_append _)) (hbs) (hbc) (by assumption)).callV (rest := []) (wr := [(o, .inr (1, [.ref fo, .ref sb, .ref cb])), (fo, .inr (4, [.ref fb])), (fb, .inl (g.2.2.1, 256, .inl (mf q1_54))), (sb, .inl (g.2.1, 256, .inl su1_54)), (cb, .inl (g.2.1, 256, .inl cy1_54)), (sa, .inr (6, [.int (nI k), .int (nI n), .int (nI B), .int (nI T)]))]) X dX11_construct_58 q457 tX11_takeDraft hK hP hD hS hA [0, 1, 2, 12, 13, 3, 4, 5] [6, 7, 8, 9, 10, 11] (by decide) rfl rfl (by decide) (by decide) 0 10 rfl rfl rfl hl ⟨⟨Nat.le_of_ble_eq_true rfl, Nat.le_of_ble_eq_true rfl⟩, Nat.le_of_ble_eq_true rfl, Nat.le_of_ble_eq_true rfl⟩ rfl rfl (Nat.le_of_ble_eq_true rfl) (fun r58 u58 H locs hw58 hP hD hS => ?_)
        obtain ⟨f1_58, fr1_58, fz1_58⟩ := u58
        have hP : PP g [(o, .inr (1, [.ref fo, .ref sb, .ref cb])), (fo, .inr (4, [.ref fb])), (fb, .inl (g.2.2.1, 256, .inl (mf q1_54))), (sb, .inl (g.2.1, 256, .inl su1_54)), (cb, .inl (g.2.1, 256, .inl cy1_54)), (sa, .inr (6, [.int (nI k), .int (nI n), .int (nI B), .int (nI T)])), (b0, .inr (10, [.ref sa, .ref qa, .ref da, .ref ka, .ref o, .ref ca, .ref pa, .ref ha, .ref na, .ref ta, .ref ua])), (qa, .inr (9, [.ref qb, .int (nI ((conL k T n B kd p).length))])), (qb, .inl (g.2.1, 256, .inl f1_58)), (da, .inr (9, [.ref db, .int (nI ((conL k T n B kd p).length))])), (db, .inl (g.2.1, 256, .inl f1_54)), (ha, .inr (3, [.ref hr_, .ref hz_, .int (nI ((nx + 1) % 6)), .int (nI (((s :: h).take 6).length))])), (hr_, .inl (g.2.1, 1536, .inl fr1_58)), (hz_, .inl (g.2.1, 6, .inl fz1_58))] H := hP
        have hD : va_D A [(o, .inr (1, [.ref fo, .ref sb, .ref cb])), (fo, .inr (4, [.ref fb])), (fb, .inl (g.2.2.1, 256, .inl (mf q1_54))), (sb, .inl (g.2.1, 256, .inl su1_54)), (cb, .inl (g.2.1, 256, .inl cy1_54)), (sa, .inr (6, [.int (nI k), .int (nI n), .int (nI B), .int (nI T)])), (b0, .inr (10, [.ref sa, .ref qa, .ref da, .ref ka, .ref o, .ref ca, .ref pa, .ref ha, .ref na, .ref ta, .ref ua])), (qa, .inr (9, [.ref qb, .int (nI ((conL k T n B kd p).length))])), (qb, .inl (g.2.1, 256, .inl f1_58)), (da, .inr (9, [.ref db, .int (nI ((conL k T n B kd p).length))])), (db, .inl (g.2.1, 256, .inl f1_54)), (ha, .inr (3, [.ref hr_, .ref hz_, .int (nI ((nx + 1) % 6)), .int (nI (((s :: h).take 6).length))])), (hr_, .inl (g.2.1, 1536, .inl fr1_58)), (hz_, .inl (g.2.1, 6, .inl fz1_58))] := hD
        try dsimp only at hw58
        refine tp_i (y := (bI (!(sameB (conL k T n B kd p) s)))) (hw58.1) ?_
        refine lv_pop X.1 X.2.1 dX11_construct_61 rfl ?_
        refine lv_aload_n X.1 X.2.1 dX11_construct_62 rfl (lv_at hl 0 rfl) ?_
        refine va_get (D := g.1) (ci := 10) (v := .ref qa) (C := RX11) (T := TX11) (N := 11) X.1 X.2.1 X.2.2.2.2 iwX11 X.2.2.2.1 hK hP 6 rfl rfl 1 (by decide) (X.2.2.2.2 _ q237) (fun _ h9 => h9) rfl dX11_construct_63 ?_
        refine (c_Word_size g qa qb (conL k T n B kd p) f1_58).callV (rest := []) X dX11_construct_66 q324 tX10_size hK (hP.sub [7, 8] rfl) 0 9 rfl rfl rfl hl ⟨⟨Nat.le_of_ble_eq_true rfl, Nat.le_of_ble_eq_true rfl⟩, Nat.le_of_ble_eq_true rfl, Nat.le_of_ble_eq_true rfl⟩ rfl rfl (Nat.le_of_ble_eq_true rfl) ?_
        exact MuI.ret X hr hlk hK hS dX11_construct_69 (nI_nar _) (f1_58, f1_54, q1_54, su1_54, cy1_54, fr1_58, fz1_58) (hP.sub [6, 5, 7, 8, 9, 10, 0, 1, 2, 3, 4, 11, 12, 13] rfl) (hD.sub [6, 5, 7, 8, 9, 10, 0, 1, 2, 3, 4, 11, 12, 13] (by decide) rfl) (⟨rfl, hw58.2.1, hw58.2.2⟩)
      · refine lv_iload_n X.1 X.2.1 dX11_construct_16 rfl (lv_at hl 2 rfl) ?_
        obtain ⟨rfl, hp⟩ := hpp (by omega)
        refine z_if_lt (tgt := 31) X dX11_construct_17 (by decide) (nI_toInt (by omega)) (fun c17 => ?_) (fun c17 => ?_)
        · exfalso; omega
        · refine lv_iload_n X.1 X.2.1 dX11_construct_20 rfl (lv_at hl 2 rfl) ?_
          refine lv_aload_n X.1 X.2.1 dX11_construct_21 rfl (lv_at hl 0 rfl) ?_
          refine va_get (D := g.1) (ci := 10) (v := .ref sa) (C := RX11) (T := TX11) (N := 11) X.1 X.2.1 X.2.2.2.2 iwX11 X.2.2.2.1 hK hP 0 rfl rfl 0 (by decide) (X.2.2.2.2 _ q236) (fun _ h9 => h9) rfl dX11_construct_22 ?_
          refine (c_sh_T g sa k n B T).callV (rest := [.int (nI p)]) X dX11_construct_25 q344 tX6_tailTotal hK (hP.sub [1] rfl) 0 6 rfl rfl rfl hl ⟨⟨Nat.le_of_ble_eq_true rfl, Nat.le_of_ble_eq_true rfl⟩, Nat.le_of_ble_eq_true rfl, Nat.le_of_ble_eq_true rfl⟩ rfl rfl (Nat.le_of_ble_eq_true rfl) ?_
          refine z_icmp_lt (tgt := 33) X dX11_construct_28 (by decide) (nI_toInt (by omega)) (nI_toInt (by omega)) (fun c28 => ?_) (fun c28 => ?_)
          · refine lv_aload_n X.1 X.2.1 dX11_construct_33 rfl (lv_at hl 0 rfl) ?_
            refine va_get (D := g.1) (ci := 10) (v := .ref da) (C := RX11) (T := TX11) (N := 11) X.1 X.2.1 X.2.2.2.2 iwX11 X.2.2.2.1 hK hP 0 rfl rfl 2 (by decide) (X.2.2.2.2 _ q238) (fun _ h9 => h9) rfl dX11_construct_34 ?_
            refine (c_Word_clear g da db z fd).callV (rest := []) (wr := [(b0, .inr (10, [.ref sa, .ref qa, .ref da, .ref ka, .ref o, .ref ca, .ref pa, .ref ha, .ref na, .ref ta, .ref ua])), (sa, .inr (6, [.int (nI k), .int (nI n), .int (nI B), .int (nI T)])), (qa, .inr (9, [.ref qb, .int (nI s.length)])), (qb, .inl (g.2.1, 256, .inl f)), (o, .inr (1, [.ref fo, .ref sb, .ref cb])), (fo, .inr (4, [.ref fb])), (fb, .inl (g.2.2.1, 256, .inl (mf q))), (sb, .inl (g.2.1, 256, .inl su)), (cb, .inl (g.2.1, 256, .inl cy)), (ha, .inr (3, [.ref hr_, .ref hz_, .int (nI nx), .int (nI h.length)])), (hr_, .inl (g.2.1, 1536, .inl fr)), (hz_, .inl (g.2.1, 6, .inl fz))]) X dX11_construct_37 q284 tX10_clear hK hP hD hS hA [4, 5] [0, 1, 2, 3, 6, 7, 8, 9, 10, 11, 12, 13] (by decide) rfl rfl (by decide) (by decide) 0 9 rfl rfl rfl hl ⟨⟨Nat.le_of_ble_eq_true rfl, Nat.le_of_ble_eq_true rfl⟩, Nat.le_of_ble_eq_true rfl, Nat.le_of_ble_eq_true rfl⟩ rfl rfl (Nat.le_of_ble_eq_true rfl) (fun u37 H locs hw37 hP hD hS => ?_)
            obtain ⟨f1_37, rfl⟩ : ∃ z, z = u37 := ⟨_, rfl⟩
            have hP : PP g [(b0, .inr (10, [.ref sa, .ref qa, .ref da, .ref ka, .ref o, .ref ca, .ref pa, .ref ha, .ref na, .ref ta, .ref ua])), (sa, .inr (6, [.int (nI k), .int (nI n), .int (nI B), .int (nI T)])), (qa, .inr (9, [.ref qb, .int (nI s.length)])), (qb, .inl (g.2.1, 256, .inl f)), (o, .inr (1, [.ref fo, .ref sb, .ref cb])), (fo, .inr (4, [.ref fb])), (fb, .inl (g.2.2.1, 256, .inl (mf q))), (sb, .inl (g.2.1, 256, .inl su)), (cb, .inl (g.2.1, 256, .inl cy)), (ha, .inr (3, [.ref hr_, .ref hz_, .int (nI nx), .int (nI h.length)])), (hr_, .inl (g.2.1, 1536, .inl fr)), (hz_, .inl (g.2.1, 6, .inl fz)), (da, .inr (9, [.ref db, .int (nI (([] : List Nat).length))])), (db, .inl (g.2.1, 256, .inl f1_37))] H := hP
            have hD : va_D A [(b0, .inr (10, [.ref sa, .ref qa, .ref da, .ref ka, .ref o, .ref ca, .ref pa, .ref ha, .ref na, .ref ta, .ref ua])), (sa, .inr (6, [.int (nI k), .int (nI n), .int (nI B), .int (nI T)])), (qa, .inr (9, [.ref qb, .int (nI s.length)])), (qb, .inl (g.2.1, 256, .inl f)), (o, .inr (1, [.ref fo, .ref sb, .ref cb])), (fo, .inr (4, [.ref fb])), (fb, .inl (g.2.2.1, 256, .inl (mf q))), (sb, .inl (g.2.1, 256, .inl su)), (cb, .inl (g.2.1, 256, .inl cy)), (ha, .inr (3, [.ref hr_, .ref hz_, .int (nI nx), .int (nI h.length)])), (hr_, .inl (g.2.1, 1536, .inl fr)), (hz_, .inl (g.2.1, 6, .inl fz)), (da, .inr (9, [.ref db, .int (nI (([] : List Nat).length))])), (db, .inl (g.2.1, 256, .inl f1_37))] := hD
            try dsimp only at hw37
            refine lv_aload_n X.1 X.2.1 dX11_construct_40 rfl (lv_at hl 0 rfl) ?_
            refine va_get (D := g.1) (ci := 10) (v := .ref o) (C := RX11) (T := TX11) (N := 11) X.1 X.2.1 X.2.2.2.2 iwX11 X.2.2.2.1 hK hP 0 rfl rfl 4 (by decide) (X.2.2.2.2 _ q240) (fun _ h9 => h9) rfl dX11_construct_41 ?_
            refine lv_aload_n X.1 X.2.1 dX11_construct_44 rfl (lv_at hl 0 rfl) ?_
            refine va_get (D := g.1) (ci := 10) (v := .ref sa) (C := RX11) (T := TX11) (N := 11) X.1 X.2.1 X.2.2.2.2 iwX11 X.2.2.2.1 hK hP 0 rfl rfl 0 (by decide) (X.2.2.2.2 _ q236) (fun _ h9 => h9) rfl dX11_construct_45 ?_
            refine lv_iload_n X.1 X.2.1 dX11_construct_48 rfl (lv_at hl 1 rfl) ?_
            refine lv_iload_n X.1 X.2.1 dX11_construct_49 rfl (lv_at hl 2 rfl) ?_
            refine lv_aload_n X.1 X.2.1 dX11_construct_50 rfl (lv_at hl 0 rfl) ?_
            refine va_get (D := g.1) (ci := 10) (v := .ref da) (C := RX11) (T := TX11) (N := 11) X.1 X.2.1 X.2.2.2.2 iwX11 X.2.2.2.1 hK hP 0 rfl rfl 2 (by decide) (X.2.2.2.2 _ q238) (fun _ h9 => h9) rfl dX11_construct_51 ?_
            refine (c_build g o fo fb sb cb q su cy sa k n B T da db ([] : List Nat) f1_37 kd (nI p) p (by assumption) (hw37.2) (by rw [List.length_nil]; omega) (by omega) (by first | exact hpp | exact fun _ => ⟨rfl, hp⟩)).callV (rest := []) (wr := [(b0, .inr (10, [.ref sa, .ref qa, .ref da, .ref ka, .ref o, .ref ca, .ref pa, .ref ha, .ref na, .ref ta, .ref ua])), (qa, .inr (9, [.ref qb, .int (nI s.length)])), (qb, .inl (g.2.1, 256, .inl f)), (ha, .inr (3, [.ref hr_, .ref hz_, .int (nI nx), .int (nI h.length)])), (hr_, .inl (g.2.1, 1536, .inl fr)), (hz_, .inl (g.2.1, 6, .inl fz))]) X dX11_construct_54 q348 tX1_build hK hP hD hS hA [4, 5, 6, 7, 8, 1, 12, 13] [0, 2, 3, 9, 10, 11] (by decide) rfl rfl (by decide) (by decide) 0 1 rfl rfl rfl hl ⟨⟨Nat.le_of_ble_eq_true rfl, Nat.le_of_ble_eq_true rfl⟩, Nat.le_of_ble_eq_true rfl, Nat.le_of_ble_eq_true rfl⟩ rfl rfl (Nat.le_of_ble_eq_true rfl) (fun u54 H locs hw54 hP hD hS => ?_)
            obtain ⟨q1_54, su1_54, cy1_54, f1_54⟩ := u54
            have hP : PP g [(b0, .inr (10, [.ref sa, .ref qa, .ref da, .ref ka, .ref o, .ref ca, .ref pa, .ref ha, .ref na, .ref ta, .ref ua])), (qa, .inr (9, [.ref qb, .int (nI s.length)])), (qb, .inl (g.2.1, 256, .inl f)), (ha, .inr (3, [.ref hr_, .ref hz_, .int (nI nx), .int (nI h.length)])), (hr_, .inl (g.2.1, 1536, .inl fr)), (hz_, .inl (g.2.1, 6, .inl fz)), (o, .inr (1, [.ref fo, .ref sb, .ref cb])), (fo, .inr (4, [.ref fb])), (fb, .inl (g.2.2.1, 256, .inl (mf q1_54))), (sb, .inl (g.2.1, 256, .inl su1_54)), (cb, .inl (g.2.1, 256, .inl cy1_54)), (sa, .inr (6, [.int (nI k), .int (nI n), .int (nI B), .int (nI T)])), (da, .inr (9, [.ref db, .int (nI ((([] : List Nat) ++ conL k T n B kd p).length))])), (db, .inl (g.2.1, 256, .inl f1_54))] H := hP
            have hD : va_D A [(b0, .inr (10, [.ref sa, .ref qa, .ref da, .ref ka, .ref o, .ref ca, .ref pa, .ref ha, .ref na, .ref ta, .ref ua])), (qa, .inr (9, [.ref qb, .int (nI s.length)])), (qb, .inl (g.2.1, 256, .inl f)), (ha, .inr (3, [.ref hr_, .ref hz_, .int (nI nx), .int (nI h.length)])), (hr_, .inl (g.2.1, 1536, .inl fr)), (hz_, .inl (g.2.1, 6, .inl fz)), (o, .inr (1, [.ref fo, .ref sb, .ref cb])), (fo, .inr (4, [.ref fb])), (fb, .inl (g.2.2.1, 256, .inl (mf q1_54))), (sb, .inl (g.2.1, 256, .inl su1_54)), (cb, .inl (g.2.1, 256, .inl cy1_54)), (sa, .inr (6, [.int (nI k), .int (nI n), .int (nI B), .int (nI T)])), (da, .inr (9, [.ref db, .int (nI ((([] : List Nat) ++ conL k T n B kd p).length))])), (db, .inl (g.2.1, 256, .inl f1_54))] := hD
            try dsimp only at hw54
            have hP : PP g [(b0, .inr (10, [.ref sa, .ref qa, .ref da, .ref ka, .ref o, .ref ca, .ref pa, .ref ha, .ref na, .ref ta, .ref ua])), (qa, .inr (9, [.ref qb, .int (nI s.length)])), (qb, .inl (g.2.1, 256, .inl f)), (ha, .inr (3, [.ref hr_, .ref hz_, .int (nI nx), .int (nI h.length)])), (hr_, .inl (g.2.1, 1536, .inl fr)), (hz_, .inl (g.2.1, 6, .inl fz)), (o, .inr (1, [.ref fo, .ref sb, .ref cb])), (fo, .inr (4, [.ref fb])), (fb, .inl (g.2.2.1, 256, .inl (mf q1_54))), (sb, .inl (g.2.1, 256, .inl su1_54)), (cb, .inl (g.2.1, 256, .inl cy1_54)), (sa, .inr (6, [.int (nI k), .int (nI n), .int (nI B), .int (nI T)])), (da, .inr (9, [.ref db, .int (nI ((conL k T n B kd p).length))])), (db, .inl (g.2.1, 256, .inl f1_54))] H := by simpa only [List.nil_append] using hP
            have hD : va_D A [(b0, .inr (10, [.ref sa, .ref qa, .ref da, .ref ka, .ref o, .ref ca, .ref pa, .ref ha, .ref na, .ref ta, .ref ua])), (qa, .inr (9, [.ref qb, .int (nI s.length)])), (qb, .inl (g.2.1, 256, .inl f)), (ha, .inr (3, [.ref hr_, .ref hz_, .int (nI nx), .int (nI h.length)])), (hr_, .inl (g.2.1, 1536, .inl fr)), (hz_, .inl (g.2.1, 6, .inl fz)), (o, .inr (1, [.ref fo, .ref sb, .ref cb])), (fo, .inr (4, [.ref fb])), (fb, .inl (g.2.2.1, 256, .inl (mf q1_54))), (sb, .inl (g.2.1, 256, .inl su1_54)), (cb, .inl (g.2.1, 256, .inl cy1_54)), (sa, .inr (6, [.int (nI k), .int (nI n), .int (nI B), .int (nI T)])), (da, .inr (9, [.ref db, .int (nI ((conL k T n B kd p).length))])), (db, .inl (g.2.1, 256, .inl f1_54))] := by simpa only [List.nil_append] using hD
            refine lv_aload_n X.1 X.2.1 dX11_construct_57 rfl (lv_at hl 0 rfl) ?_
            refine (b_take g b0 sa qa da ka o ca pa ha na ta ua qb s f db (conL k T n B kd p) f1_54 hr_ hz_ nx h fr fz (by omega) (by assumption) (by omega) (rep_eq hw54 (List.nil_append _)) (hbs) (hbc) (by assumption)).callV (rest := []) (wr := [(o, .inr (1, [.ref fo, .ref sb, .ref cb])), (fo, .inr (4, [.ref fb])), (fb, .inl (g.2.2.1, 256, .inl (mf q1_54))), (sb, .inl (g.2.1, 256, .inl su1_54)), (cb, .inl (g.2.1, 256, .inl cy1_54)), (sa, .inr (6, [.int (nI k), .int (nI n), .int (nI B), .int (nI T)]))]) X dX11_construct_58 q457 tX11_takeDraft hK hP hD hS hA [0, 1, 2, 12, 13, 3, 4, 5] [6, 7, 8, 9, 10, 11] (by decide) rfl rfl (by decide) (by decide) 0 10 rfl rfl rfl hl ⟨⟨Nat.le_of_ble_eq_true rfl, Nat.le_of_ble_eq_true rfl⟩, Nat.le_of_ble_eq_true rfl, Nat.le_of_ble_eq_true rfl⟩ rfl rfl (Nat.le_of_ble_eq_true rfl) (fun r58 u58 H locs hw58 hP hD hS => ?_)
            obtain ⟨f1_58, fr1_58, fz1_58⟩ := u58
            have hP : PP g [(o, .inr (1, [.ref fo, .ref sb, .ref cb])), (fo, .inr (4, [.ref fb])), (fb, .inl (g.2.2.1, 256, .inl (mf q1_54))), (sb, .inl (g.2.1, 256, .inl su1_54)), (cb, .inl (g.2.1, 256, .inl cy1_54)), (sa, .inr (6, [.int (nI k), .int (nI n), .int (nI B), .int (nI T)])), (b0, .inr (10, [.ref sa, .ref qa, .ref da, .ref ka, .ref o, .ref ca, .ref pa, .ref ha, .ref na, .ref ta, .ref ua])), (qa, .inr (9, [.ref qb, .int (nI ((conL k T n B kd p).length))])), (qb, .inl (g.2.1, 256, .inl f1_58)), (da, .inr (9, [.ref db, .int (nI ((conL k T n B kd p).length))])), (db, .inl (g.2.1, 256, .inl f1_54)), (ha, .inr (3, [.ref hr_, .ref hz_, .int (nI ((nx + 1) % 6)), .int (nI (((s :: h).take 6).length))])), (hr_, .inl (g.2.1, 1536, .inl fr1_58)), (hz_, .inl (g.2.1, 6, .inl fz1_58))] H := hP
            have hD : va_D A [(o, .inr (1, [.ref fo, .ref sb, .ref cb])), (fo, .inr (4, [.ref fb])), (fb, .inl (g.2.2.1, 256, .inl (mf q1_54))), (sb, .inl (g.2.1, 256, .inl su1_54)), (cb, .inl (g.2.1, 256, .inl cy1_54)), (sa, .inr (6, [.int (nI k), .int (nI n), .int (nI B), .int (nI T)])), (b0, .inr (10, [.ref sa, .ref qa, .ref da, .ref ka, .ref o, .ref ca, .ref pa, .ref ha, .ref na, .ref ta, .ref ua])), (qa, .inr (9, [.ref qb, .int (nI ((conL k T n B kd p).length))])), (qb, .inl (g.2.1, 256, .inl f1_58)), (da, .inr (9, [.ref db, .int (nI ((conL k T n B kd p).length))])), (db, .inl (g.2.1, 256, .inl f1_54)), (ha, .inr (3, [.ref hr_, .ref hz_, .int (nI ((nx + 1) % 6)), .int (nI (((s :: h).take 6).length))])), (hr_, .inl (g.2.1, 1536, .inl fr1_58)), (hz_, .inl (g.2.1, 6, .inl fz1_58))] := hD
            try dsimp only at hw58
            refine tp_i (y := (bI (!(sameB (conL k T n B kd p) s)))) (hw58.1) ?_
            refine lv_pop X.1 X.2.1 dX11_construct_61 rfl ?_
            refine lv_aload_n X.1 X.2.1 dX11_construct_62 rfl (lv_at hl 0 rfl) ?_
            refine va_get (D := g.1) (ci := 10) (v := .ref qa) (C := RX11) (T := TX11) (N := 11) X.1 X.2.1 X.2.2.2.2 iwX11 X.2.2.2.1 hK hP 6 rfl rfl 1 (by decide) (X.2.2.2.2 _ q237) (fun _ h9 => h9) rfl dX11_construct_63 ?_
            refine (c_Word_size g qa qb (conL k T n B kd p) f1_58).callV (rest := []) X dX11_construct_66 q324 tX10_size hK (hP.sub [7, 8] rfl) 0 9 rfl rfl rfl hl ⟨⟨Nat.le_of_ble_eq_true rfl, Nat.le_of_ble_eq_true rfl⟩, Nat.le_of_ble_eq_true rfl, Nat.le_of_ble_eq_true rfl⟩ rfl rfl (Nat.le_of_ble_eq_true rfl) ?_
            exact MuI.ret X hr hlk hK hS dX11_construct_69 (nI_nar _) (f1_58, f1_54, q1_54, su1_54, cy1_54, fr1_58, fz1_58) (hP.sub [6, 5, 7, 8, 9, 10, 0, 1, 2, 3, 4, 11, 12, 13] rfl) (hD.sub [6, 5, 7, 8, 9, 10, 0, 1, 2, 3, 4, 11, 12, 13] (by decide) rfl) (⟨rfl, hw58.2.1, hw58.2.2⟩)
          · exfalso; omega
    · exfalso; omega

set_option maxHeartbeats 4000000 in
set_option maxRecDepth 100000 in
theorem b_construct_no (g : G5) (b0 : Nat) (sa : Nat) (qa : Nat) (da : Nat) (ka : Nat) (o : Nat) (ca : Nat) (pa : Nat) (ha : Nat) (na : Nat) (ta : Nat) (ua : Nat) (k : Nat) (n : Nat) (B : Nat) (T : Nat) (x : Int32) (y : Int32) (hc : shp k n B T) (hno : ¬ (0 ≤ x.toInt ∧ x.toInt ≤ 3) ∨ (x.toInt = 3 ∧ ¬ (0 ≤ y.toInt ∧ y.toInt < (T : Int)))) : PuI yX11_construct cX11_construct 3 (some .int) 5 119 g [.ref b0, .int x, .int y] [(b0, .inr (10, [.ref sa, .ref qa, .ref da, .ref ka, .ref o, .ref ca, .ref pa, .ref ha, .ref na, .ref ta, .ref ua])), (sa, .inr (6, [.int (nI k), .int (nI n), .int (nI B), .int (nI T)]))] (-1) := by
  refine PuI.of (by decide +kernel) (Nat.le_of_ble_eq_true rfl) ?_
  intro p_ l_ e_ S_ m_ args below meth co X hr hlk hP hK ls hl
  have X : CallFix p_ m_ co cX11_construct 3 S_ args lw_all RX11 := X
  have hl : lv_has ls 3 [(0, .ref b0), (1, .int x), (2, .int y)] := hl
  obtain ⟨hk2, hk4, hn1, hn6, hB, hT, hBT, hT2⟩ := hc.f
  have hB0 : 0 < B := by rw [hBT]; exact Nat.mul_pos (by omega) (by omega)
  refine lv_iload_n X.1 X.2.1 dX11_construct_0 rfl (lv_at hl 1 rfl) ?_
  refine z_if_lt (tgt := 9) X dX11_construct_1 (by decide) rfl (fun c1 => ?_) (fun c1 => ?_)
  · refine lv_iconst (v := (-1)) X.1 X.2.1 dX11_construct_9 (by decide) ?_
    exact PuI.ret X hr hlk dX11_construct_10 (nI_nar _) (rfl)
  · refine lv_iload_n X.1 X.2.1 dX11_construct_4 rfl (lv_at hl 1 rfl) ?_
    refine lv_iconst (v := (nI 3)) X.1 X.2.1 dX11_construct_5 (by decide) ?_
    refine z_icmp_le (tgt := 11) X dX11_construct_6 (by decide) rfl (nI_toInt (by omega)) (fun c6 => ?_) (fun c6 => ?_)
    · refine lv_iload_n X.1 X.2.1 dX11_construct_11 rfl (lv_at hl 1 rfl) ?_
      refine lv_iconst (v := (nI 3)) X.1 X.2.1 dX11_construct_12 (by decide) ?_
      refine z_icmp_ne (tgt := 33) X dX11_construct_13 (by decide) rfl (nI_toInt (by omega)) (fun c13 => ?_) (fun c13 => ?_)
      · exfalso; omega
      · refine lv_iload_n X.1 X.2.1 dX11_construct_16 rfl (lv_at hl 2 rfl) ?_
        refine z_if_lt (tgt := 31) X dX11_construct_17 (by decide) rfl (fun c17 => ?_) (fun c17 => ?_)
        · refine lv_iconst (v := (-1)) X.1 X.2.1 dX11_construct_31 (by decide) ?_
          exact PuI.ret X hr hlk dX11_construct_32 (nI_nar _) (rfl)
        · refine lv_iload_n X.1 X.2.1 dX11_construct_20 rfl (lv_at hl 2 rfl) ?_
          refine lv_aload_n X.1 X.2.1 dX11_construct_21 rfl (lv_at hl 0 rfl) ?_
          refine va_get (D := g.1) (ci := 10) (v := .ref sa) (C := RX11) (T := TX11) (N := 11) X.1 X.2.1 X.2.2.2.2 iwX11 X.2.2.2.1 hK hP 0 rfl rfl 0 (by decide) (X.2.2.2.2 _ q236) (fun _ h9 => h9) rfl dX11_construct_22 ?_
          refine (c_sh_T g sa k n B T).callV (rest := [.int y]) X dX11_construct_25 q344 tX6_tailTotal hK (hP.sub [1] rfl) 0 6 rfl rfl rfl hl ⟨⟨Nat.le_of_ble_eq_true rfl, Nat.le_of_ble_eq_true rfl⟩, Nat.le_of_ble_eq_true rfl, Nat.le_of_ble_eq_true rfl⟩ rfl rfl (Nat.le_of_ble_eq_true rfl) ?_
          refine z_icmp_lt (tgt := 33) X dX11_construct_28 (by decide) rfl (nI_toInt (by omega)) (fun c28 => ?_) (fun c28 => ?_)
          · exfalso; omega
          · refine lv_iconst (v := (-1)) X.1 X.2.1 dX11_construct_31 (by decide) ?_
            exact PuI.ret X hr hlk dX11_construct_32 (nI_nar _) (rfl)
    · refine lv_iconst (v := (-1)) X.1 X.2.1 dX11_construct_9 (by decide) ?_
      exact PuI.ret X hr hlk dX11_construct_10 (nI_nar _) (rfl)

set_option maxHeartbeats 4000000 in
set_option maxRecDepth 100000 in
theorem b_appendCommand_ok (g : G5) (b0 : Nat) (sa : Nat) (qa : Nat) (da : Nat) (ka : Nat) (o : Nat) (ca : Nat) (pa : Nat) (ha : Nat) (na : Nat) (ta : Nat) (ua : Nat) (cc_ : Nat) (c : List Nat) (fc : Nat → Int32) (x : Nat) (hcl : c.length < 20) (hfc : rep fc c) (hx1 : 33 ≤ x) (hx2 : x ≤ 126) : MuI (S := (Nat → Int32)) yX11_appendCommand cX11_appendCommand 2 (some .int) 2 41 g [.ref b0, .int (nI x)] [(b0, .inr (10, [.ref sa, .ref qa, .ref da, .ref ka, .ref o, .ref ca, .ref pa, .ref ha, .ref na, .ref ta, .ref ua])), (ca, .inr (2, [.ref cc_, .int (nI c.length)])), (cc_, .inl (g.2.2.2, 20, .inl fc))] (fun r fc1 => r = (nI ((c ++ [x]).length)) ∧ rep fc1 (c ++ [x])) (fun fc1 => [(b0, .inr (10, [.ref sa, .ref qa, .ref da, .ref ka, .ref o, .ref ca, .ref pa, .ref ha, .ref na, .ref ta, .ref ua])), (ca, .inr (2, [.ref cc_, .int (nI ((c ++ [x]).length))])), (cc_, .inl (g.2.2.2, 20, .inl fc1))]) := by
  refine MuI.of (by decide +kernel) (Nat.le_of_ble_eq_true rfl) ?_
  intro p_ l_ e_ S_ m_ args below meth co X hr hlk hP hK A hA hD hS ls hl
  have X : CallFix p_ m_ co cX11_appendCommand 2 S_ args lw_all RX11 := X
  have hl : lv_has ls 2 [(0, .ref b0), (1, .int (nI x))] := hl
  refine lv_iload_n X.1 X.2.1 dX11_appendCommand_0 rfl (lv_at hl 1 rfl) ?_
  refine (c_cm_sign g (nI x)).callS (rest := []) X dX11_appendCommand_1 q493 tX2_isSign hK (hP.sub [] rfl) hl ⟨⟨Nat.le_of_ble_eq_true rfl, Nat.le_of_ble_eq_true rfl⟩, Nat.le_of_ble_eq_true rfl, Nat.le_of_ble_eq_true rfl⟩ rfl rfl (Nat.le_of_ble_eq_true rfl) ?_
  have h9 : decide (33 ≤ (nI x).toInt ∧ (nI x).toInt ≤ 126) = true := by rw [nI_toInt (by omega)]; exact decide_eq_true (by omega)
  refine b_if_ne (tgt := 9) X dX11_appendCommand_4 (by decide) (fun c4 => ?_) (fun c4 => ?_)
  · refine lv_aload_n X.1 X.2.1 dX11_appendCommand_9 rfl (lv_at hl 0 rfl) ?_
    refine va_get (D := g.1) (ci := 10) (v := .ref ca) (C := RX11) (T := TX11) (N := 11) X.1 X.2.1 X.2.2.2.2 iwX11 X.2.2.2.1 hK hP 0 rfl rfl 5 (by decide) (X.2.2.2.2 _ q241) (fun _ h9 => h9) rfl dX11_appendCommand_10 ?_
    refine (c_cm_full g ca cc_ c fc (by omega)).callV (rest := []) X dX11_appendCommand_13 q496 tX2_isFull hK (hP.sub [1, 2] rfl) 0 2 rfl rfl rfl hl ⟨⟨Nat.le_of_ble_eq_true rfl, Nat.le_of_ble_eq_true rfl⟩, Nat.le_of_ble_eq_true rfl, Nat.le_of_ble_eq_true rfl⟩ rfl rfl (Nat.le_of_ble_eq_true rfl) ?_
    refine b_if_eq (tgt := 22) X dX11_appendCommand_16 (by decide) (fun c16 => ?_) (fun c16 => ?_)
    · refine lv_aload_n X.1 X.2.1 dX11_appendCommand_22 rfl (lv_at hl 0 rfl) ?_
      refine va_get (D := g.1) (ci := 10) (v := .ref ca) (C := RX11) (T := TX11) (N := 11) X.1 X.2.1 X.2.2.2.2 iwX11 X.2.2.2.1 hK hP 0 rfl rfl 5 (by decide) (X.2.2.2.2 _ q241) (fun _ h9 => h9) rfl dX11_appendCommand_23 ?_
      refine lv_iload_n X.1 X.2.1 dX11_appendCommand_26 rfl (lv_at hl 1 rfl) ?_
      refine (c_cm_add g ca cc_ c fc x (by omega) (by assumption) (by omega)).callV (rest := []) (wr := [(b0, .inr (10, [.ref sa, .ref qa, .ref da, .ref ka, .ref o, .ref ca, .ref pa, .ref ha, .ref na, .ref ta, .ref ua]))]) X dX11_appendCommand_27 q500 tX2_add hK hP hD hS hA [1, 2] [0] (by decide) rfl rfl (by decide) (by decide) 0 2 rfl rfl rfl hl ⟨⟨Nat.le_of_ble_eq_true rfl, Nat.le_of_ble_eq_true rfl⟩, Nat.le_of_ble_eq_true rfl, Nat.le_of_ble_eq_true rfl⟩ rfl rfl (Nat.le_of_ble_eq_true rfl) (fun u27 H locs hw27 hP hD hS => ?_)
      obtain ⟨f1_27, rfl⟩ : ∃ z, z = u27 := ⟨_, rfl⟩
      have hP : PP g [(b0, .inr (10, [.ref sa, .ref qa, .ref da, .ref ka, .ref o, .ref ca, .ref pa, .ref ha, .ref na, .ref ta, .ref ua])), (ca, .inr (2, [.ref cc_, .int (nI ((c ++ [x]).length))])), (cc_, .inl (g.2.2.2, 20, .inl f1_27))] H := hP
      have hD : va_D A [(b0, .inr (10, [.ref sa, .ref qa, .ref da, .ref ka, .ref o, .ref ca, .ref pa, .ref ha, .ref na, .ref ta, .ref ua])), (ca, .inr (2, [.ref cc_, .int (nI ((c ++ [x]).length))])), (cc_, .inl (g.2.2.2, 20, .inl f1_27))] := hD
      try dsimp only at hw27
      refine lv_aload_n X.1 X.2.1 dX11_appendCommand_30 rfl (lv_at hl 0 rfl) ?_
      refine va_get (D := g.1) (ci := 10) (v := .ref ca) (C := RX11) (T := TX11) (N := 11) X.1 X.2.1 X.2.2.2.2 iwX11 X.2.2.2.1 hK hP 0 rfl rfl 5 (by decide) (X.2.2.2.2 _ q241) (fun _ h9 => h9) rfl dX11_appendCommand_31 ?_
      refine (c_cm_size g ca cc_ (c ++ [x]) f1_27).callV (rest := []) X dX11_appendCommand_34 q505 tX2_size hK (hP.sub [1, 2] rfl) 0 2 rfl rfl rfl hl ⟨⟨Nat.le_of_ble_eq_true rfl, Nat.le_of_ble_eq_true rfl⟩, Nat.le_of_ble_eq_true rfl, Nat.le_of_ble_eq_true rfl⟩ rfl rfl (Nat.le_of_ble_eq_true rfl) ?_
      exact MuI.ret X hr hlk hK hS dX11_appendCommand_37 (nI_nar _) f1_27 (hP.sub [0, 1, 2] rfl) (hD.sub [0, 1, 2] (by decide) rfl) (⟨rfl, hw27⟩)
    · exfalso; simp at c16; omega
  · exfalso; rw [h9] at c4; cases c4

set_option maxHeartbeats 4000000 in
set_option maxRecDepth 100000 in
theorem b_appendCommand_no (g : G5) (b0 : Nat) (sa : Nat) (qa : Nat) (da : Nat) (ka : Nat) (o : Nat) (ca : Nat) (pa : Nat) (ha : Nat) (na : Nat) (ta : Nat) (ua : Nat) (cc_ : Nat) (c : List Nat) (fc : Nat → Int32) (x : Int32) (hcl : c.length ≤ 20) (hno : ¬ (33 ≤ x.toInt ∧ x.toInt ≤ 126) ∨ c.length = 20) : PuI yX11_appendCommand cX11_appendCommand 2 (some .int) 2 41 g [.ref b0, .int x] [(b0, .inr (10, [.ref sa, .ref qa, .ref da, .ref ka, .ref o, .ref ca, .ref pa, .ref ha, .ref na, .ref ta, .ref ua])), (ca, .inr (2, [.ref cc_, .int (nI c.length)])), (cc_, .inl (g.2.2.2, 20, .inl fc))] (if 33 ≤ x.toInt ∧ x.toInt ≤ 126 then (-4) else (-1)) := by
  refine PuI.of (by decide +kernel) (Nat.le_of_ble_eq_true rfl) ?_
  intro p_ l_ e_ S_ m_ args below meth co X hr hlk hP hK ls hl
  have X : CallFix p_ m_ co cX11_appendCommand 2 S_ args lw_all RX11 := X
  have hl : lv_has ls 2 [(0, .ref b0), (1, .int x)] := hl
  refine lv_iload_n X.1 X.2.1 dX11_appendCommand_0 rfl (lv_at hl 1 rfl) ?_
  refine (c_cm_sign g x).callS (rest := []) X dX11_appendCommand_1 q493 tX2_isSign hK (hP.sub [] rfl) hl ⟨⟨Nat.le_of_ble_eq_true rfl, Nat.le_of_ble_eq_true rfl⟩, Nat.le_of_ble_eq_true rfl, Nat.le_of_ble_eq_true rfl⟩ rfl rfl (Nat.le_of_ble_eq_true rfl) ?_
  refine b_if_ne (tgt := 9) X dX11_appendCommand_4 (by decide) (fun c4 => ?_) (fun c4 => ?_)
  · refine lv_aload_n X.1 X.2.1 dX11_appendCommand_9 rfl (lv_at hl 0 rfl) ?_
    refine va_get (D := g.1) (ci := 10) (v := .ref ca) (C := RX11) (T := TX11) (N := 11) X.1 X.2.1 X.2.2.2.2 iwX11 X.2.2.2.1 hK hP 0 rfl rfl 5 (by decide) (X.2.2.2.2 _ q241) (fun _ h9 => h9) rfl dX11_appendCommand_10 ?_
    refine (c_cm_full g ca cc_ c fc (by omega)).callV (rest := []) X dX11_appendCommand_13 q496 tX2_isFull hK (hP.sub [1, 2] rfl) 0 2 rfl rfl rfl hl ⟨⟨Nat.le_of_ble_eq_true rfl, Nat.le_of_ble_eq_true rfl⟩, Nat.le_of_ble_eq_true rfl, Nat.le_of_ble_eq_true rfl⟩ rfl rfl (Nat.le_of_ble_eq_true rfl) ?_
    refine b_if_eq (tgt := 22) X dX11_appendCommand_16 (by decide) (fun c16 => ?_) (fun c16 => ?_)
    · exfalso; have h5 := of_decide_eq_true c4; simp at c16; omega
    · refine lv_bipush (v := (-4)) X.1 X.2.1 dX11_appendCommand_19 (by decide) ?_
      exact PuI.ret X hr hlk dX11_appendCommand_21 (nI_nar _) (by rw [if_pos (of_decide_eq_true c4)])
  · refine lv_iconst (v := (-1)) X.1 X.2.1 dX11_appendCommand_7 (by decide) ?_
    exact PuI.ret X hr hlk dX11_appendCommand_8 (nI_nar _) (by rw [if_neg (of_decide_eq_false c4)])

set_option maxHeartbeats 4000000 in
set_option maxRecDepth 100000 in
theorem b_setLetter_ok (g : G5) (b0 : Nat) (sa : Nat) (qa : Nat) (da : Nat) (ka : Nat) (o : Nat) (ca : Nat) (pa : Nat) (ha : Nat) (na : Nat) (ta : Nat) (ua : Nat) (k : Nat) (n : Nat) (B : Nat) (T : Nat) (qb : Nat) (s : List Nat) (f : Nat → Int32) (db : Nat) (z : List Nat) (fd : Nat → Int32) (hr_ : Nat) (hz_ : Nat) (nx : Nat) (h : List (List Nat)) (fr : Nat → Int32) (fz : Nat → Int32) (j : Nat) (x : Nat) (hc : shp k n B T) (hs : s.length ≤ 256) (hf : rep f s) (hlt : ltk k s) (hh : hrep nx fr fz h) (hj : j < s.length) (hx : x < k) : MuI (S := (Nat → Int32) × (Nat → Int32) × (Nat → Int32) × (Nat → Int32)) yX11_setLetter cX11_setLetter 4 (some .int) 4 105 g [.ref b0, .int (nI j), .int (nI x)] [(b0, .inr (10, [.ref sa, .ref qa, .ref da, .ref ka, .ref o, .ref ca, .ref pa, .ref ha, .ref na, .ref ta, .ref ua])), (sa, .inr (6, [.int (nI k), .int (nI n), .int (nI B), .int (nI T)])), (qa, .inr (9, [.ref qb, .int (nI s.length)])), (qb, .inl (g.2.1, 256, .inl f)), (da, .inr (9, [.ref db, .int (nI z.length)])), (db, .inl (g.2.1, 256, .inl fd)), (ha, .inr (3, [.ref hr_, .ref hz_, .int (nI nx), .int (nI h.length)])), (hr_, .inl (g.2.1, 1536, .inl fr)), (hz_, .inl (g.2.1, 6, .inl fz))] (fun r u => r = (nI (s.getD j 0)) ∧ rep u.1 (s.set j x) ∧ hrep ((nx + 1) % 6) u.2.2.1 u.2.2.2 ((s :: h).take 6)) (fun u => [(b0, .inr (10, [.ref sa, .ref qa, .ref da, .ref ka, .ref o, .ref ca, .ref pa, .ref ha, .ref na, .ref ta, .ref ua])), (sa, .inr (6, [.int (nI k), .int (nI n), .int (nI B), .int (nI T)])), (qa, .inr (9, [.ref qb, .int (nI ((s.set j x).length))])), (qb, .inl (g.2.1, 256, .inl u.1)), (da, .inr (9, [.ref db, .int (nI ((s.set j x).length))])), (db, .inl (g.2.1, 256, .inl u.2.1)), (ha, .inr (3, [.ref hr_, .ref hz_, .int (nI ((nx + 1) % 6)), .int (nI (((s :: h).take 6).length))])), (hr_, .inl (g.2.1, 1536, .inl u.2.2.1)), (hz_, .inl (g.2.1, 6, .inl u.2.2.2))]) := by
  refine MuI.of (by decide +kernel) (Nat.le_of_ble_eq_true rfl) ?_
  intro p_ l_ e_ S_ m_ args below meth co X hr hlk hP hK A hA hD hS ls hl
  have X : CallFix p_ m_ co cX11_setLetter 4 S_ args lw_all RX11 := X
  have hl : lv_has ls 4 [(0, .ref b0), (1, .int (nI j)), (2, .int (nI x))] := hl
  obtain ⟨hk2, hk4, hn1, hn6, hB, hT, hBT, hT2⟩ := hc.f
  have hB0 : 0 < B := by rw [hBT]; exact Nat.mul_pos (by omega) (by omega)
  have hbs := hlt.bd hk4
  have h7 : hasB (nI j) s.length = true := by rw [hasB_N (by omega)]; exact decide_eq_true hj
  have h8 : hasB (nI x) k = true := by rw [hasB_N (by omega)]; exact decide_eq_true hx
  have hbz := (ltk_set (j := j) hlt hx).bd hk4
  have hlz : (s.set j x).length ≤ 256 := by rw [List.length_set]; exact hs
  refine lv_aload_n X.1 X.2.1 dX11_setLetter_0 rfl (lv_at hl 0 rfl) ?_
  refine va_get (D := g.1) (ci := 10) (v := .ref qa) (C := RX11) (T := TX11) (N := 11) X.1 X.2.1 X.2.2.2.2 iwX11 X.2.2.2.1 hK hP 0 rfl rfl 1 (by decide) (X.2.2.2.2 _ q237) (fun _ h9 => h9) rfl dX11_setLetter_1 ?_
  refine lv_iload_n X.1 X.2.1 dX11_setLetter_4 rfl (lv_at hl 1 rfl) ?_
  refine (c_Word_has g qa qb s f (nI j) (by omega)).callV (rest := []) X dX11_setLetter_5 q598 tX10_has hK (hP.sub [2, 3] rfl) 0 9 rfl rfl rfl hl ⟨⟨Nat.le_of_ble_eq_true rfl, Nat.le_of_ble_eq_true rfl⟩, Nat.le_of_ble_eq_true rfl, Nat.le_of_ble_eq_true rfl⟩ rfl rfl (Nat.le_of_ble_eq_true rfl) ?_
  refine b_if_ne (tgt := 14) X dX11_setLetter_8 (by decide) (fun c8 => ?_) (fun c8 => ?_)
  · refine lv_aload_n X.1 X.2.1 dX11_setLetter_14 rfl (lv_at hl 0 rfl) ?_
    refine va_get (D := g.1) (ci := 10) (v := .ref sa) (C := RX11) (T := TX11) (N := 11) X.1 X.2.1 X.2.2.2.2 iwX11 X.2.2.2.1 hK hP 0 rfl rfl 0 (by decide) (X.2.2.2.2 _ q236) (fun _ h9 => h9) rfl dX11_setLetter_15 ?_
    refine lv_iload_n X.1 X.2.1 dX11_setLetter_18 rfl (lv_at hl 2 rfl) ?_
    refine (c_isLetter g sa k n B T (nI x) (by assumption)).callV (rest := []) X dX11_setLetter_19 q599 tX6_isLetter hK (hP.sub [1] rfl) 0 6 rfl rfl rfl hl ⟨⟨Nat.le_of_ble_eq_true rfl, Nat.le_of_ble_eq_true rfl⟩, Nat.le_of_ble_eq_true rfl, Nat.le_of_ble_eq_true rfl⟩ rfl rfl (Nat.le_of_ble_eq_true rfl) ?_
    refine b_if_ne (tgt := 27) X dX11_setLetter_22 (by decide) (fun c22 => ?_) (fun c22 => ?_)
    · refine lv_aload_n X.1 X.2.1 dX11_setLetter_27 rfl (lv_at hl 0 rfl) ?_
      refine va_get (D := g.1) (ci := 10) (v := .ref qa) (C := RX11) (T := TX11) (N := 11) X.1 X.2.1 X.2.2.2.2 iwX11 X.2.2.2.1 hK hP 0 rfl rfl 1 (by decide) (X.2.2.2.2 _ q237) (fun _ h9 => h9) rfl dX11_setLetter_28 ?_
      refine lv_iload_n X.1 X.2.1 dX11_setLetter_31 rfl (lv_at hl 1 rfl) ?_
      refine (c_Word_atN g qa qb s f j (by omega) (by assumption) (by omega)).callV (rest := []) X dX11_setLetter_32 q332 tX10_at hK (hP.sub [2, 3] rfl) 0 9 rfl rfl rfl hl ⟨⟨Nat.le_of_ble_eq_true rfl, Nat.le_of_ble_eq_true rfl⟩, Nat.le_of_ble_eq_true rfl, Nat.le_of_ble_eq_true rfl⟩ rfl rfl (Nat.le_of_ble_eq_true rfl) ?_
      refine lv_istore_n (lv' := [(3, .int (nI (s.getD j 0))), (0, .ref b0), (1, .int (nI j)), (2, .int (nI x))]) X.1 X.2.1 dX11_setLetter_35 rfl hl (by decide) rfl (fun ls hl => ?_)
      refine lv_aload_n X.1 X.2.1 dX11_setLetter_36 rfl (lv_at hl 1 rfl) ?_
      refine va_get (D := g.1) (ci := 10) (v := .ref da) (C := RX11) (T := TX11) (N := 11) X.1 X.2.1 X.2.2.2.2 iwX11 X.2.2.2.1 hK hP 0 rfl rfl 2 (by decide) (X.2.2.2.2 _ q238) (fun _ h9 => h9) rfl dX11_setLetter_37 ?_
      refine lv_aload_n X.1 X.2.1 dX11_setLetter_40 rfl (lv_at hl 1 rfl) ?_
      refine va_get (D := g.1) (ci := 10) (v := .ref qa) (C := RX11) (T := TX11) (N := 11) X.1 X.2.1 X.2.2.2.2 iwX11 X.2.2.2.1 hK hP 0 rfl rfl 1 (by decide) (X.2.2.2.2 _ q237) (fun _ h9 => h9) rfl dX11_setLetter_41 ?_
      refine (c_Word_become g da db z fd qa qb s f (by omega) (by assumption)).callV (rest := []) (wr := [(b0, .inr (10, [.ref sa, .ref qa, .ref da, .ref ka, .ref o, .ref ca, .ref pa, .ref ha, .ref na, .ref ta, .ref ua])), (sa, .inr (6, [.int (nI k), .int (nI n), .int (nI B), .int (nI T)])), (ha, .inr (3, [.ref hr_, .ref hz_, .int (nI nx), .int (nI h.length)])), (hr_, .inl (g.2.1, 1536, .inl fr)), (hz_, .inl (g.2.1, 6, .inl fz))]) X dX11_setLetter_44 q481 tX10_become hK hP hD hS hA [4, 5, 2, 3] [0, 1, 6, 7, 8] (by decide) rfl rfl (by decide) (by decide) 0 9 rfl rfl rfl hl ⟨⟨Nat.le_of_ble_eq_true rfl, Nat.le_of_ble_eq_true rfl⟩, Nat.le_of_ble_eq_true rfl, Nat.le_of_ble_eq_true rfl⟩ rfl rfl (Nat.le_of_ble_eq_true rfl) (fun u44 H locs hw44 hP hD hS => ?_)
      obtain ⟨f1_44, rfl⟩ : ∃ z, z = u44 := ⟨_, rfl⟩
      have hP : PP g [(b0, .inr (10, [.ref sa, .ref qa, .ref da, .ref ka, .ref o, .ref ca, .ref pa, .ref ha, .ref na, .ref ta, .ref ua])), (sa, .inr (6, [.int (nI k), .int (nI n), .int (nI B), .int (nI T)])), (ha, .inr (3, [.ref hr_, .ref hz_, .int (nI nx), .int (nI h.length)])), (hr_, .inl (g.2.1, 1536, .inl fr)), (hz_, .inl (g.2.1, 6, .inl fz)), (da, .inr (9, [.ref db, .int (nI s.length)])), (db, .inl (g.2.1, 256, .inl f1_44)), (qa, .inr (9, [.ref qb, .int (nI s.length)])), (qb, .inl (g.2.1, 256, .inl f))] H := hP
      have hD : va_D A [(b0, .inr (10, [.ref sa, .ref qa, .ref da, .ref ka, .ref o, .ref ca, .ref pa, .ref ha, .ref na, .ref ta, .ref ua])), (sa, .inr (6, [.int (nI k), .int (nI n), .int (nI B), .int (nI T)])), (ha, .inr (3, [.ref hr_, .ref hz_, .int (nI nx), .int (nI h.length)])), (hr_, .inl (g.2.1, 1536, .inl fr)), (hz_, .inl (g.2.1, 6, .inl fz)), (da, .inr (9, [.ref db, .int (nI s.length)])), (db, .inl (g.2.1, 256, .inl f1_44)), (qa, .inr (9, [.ref qb, .int (nI s.length)])), (qb, .inl (g.2.1, 256, .inl f))] := hD
      try dsimp only at hw44
      refine lv_aload_n X.1 X.2.1 dX11_setLetter_47 rfl (lv_at hl 1 rfl) ?_
      refine va_get (D := g.1) (ci := 10) (v := .ref da) (C := RX11) (T := TX11) (N := 11) X.1 X.2.1 X.2.2.2.2 iwX11 X.2.2.2.1 hK hP 0 rfl rfl 2 (by decide) (X.2.2.2.2 _ q238) (fun _ h9 => h9) rfl dX11_setLetter_48 ?_
      refine lv_iload_n X.1 X.2.1 dX11_setLetter_51 rfl (lv_at hl 2 rfl) ?_
      refine lv_iload_n X.1 X.2.1 dX11_setLetter_52 rfl (lv_at hl 3 rfl) ?_
      refine (c_Word_put g da db s f1_44 j x (by omega) (by assumption) (by omega)).callV (rest := []) (wr := [(b0, .inr (10, [.ref sa, .ref qa, .ref da, .ref ka, .ref o, .ref ca, .ref pa, .ref ha, .ref na, .ref ta, .ref ua])), (sa, .inr (6, [.int (nI k), .int (nI n), .int (nI B), .int (nI T)])), (ha, .inr (3, [.ref hr_, .ref hz_, .int (nI nx), .int (nI h.length)])), (hr_, .inl (g.2.1, 1536, .inl fr)), (hz_, .inl (g.2.1, 6, .inl fz)), (qa, .inr (9, [.ref qb, .int (nI s.length)])), (qb, .inl (g.2.1, 256, .inl f))]) X dX11_setLetter_53 q603 tX10_put hK hP hD hS hA [5, 6] [0, 1, 2, 3, 4, 7, 8] (by decide) rfl rfl (by decide) (by decide) 0 9 rfl rfl rfl hl ⟨⟨Nat.le_of_ble_eq_true rfl, Nat.le_of_ble_eq_true rfl⟩, Nat.le_of_ble_eq_true rfl, Nat.le_of_ble_eq_true rfl⟩ rfl rfl (Nat.le_of_ble_eq_true rfl) (fun u53 H locs hw53 hP hD hS => ?_)
      obtain ⟨f1_53, rfl⟩ : ∃ z, z = u53 := ⟨_, rfl⟩
      have hP : PP g [(b0, .inr (10, [.ref sa, .ref qa, .ref da, .ref ka, .ref o, .ref ca, .ref pa, .ref ha, .ref na, .ref ta, .ref ua])), (sa, .inr (6, [.int (nI k), .int (nI n), .int (nI B), .int (nI T)])), (ha, .inr (3, [.ref hr_, .ref hz_, .int (nI nx), .int (nI h.length)])), (hr_, .inl (g.2.1, 1536, .inl fr)), (hz_, .inl (g.2.1, 6, .inl fz)), (qa, .inr (9, [.ref qb, .int (nI s.length)])), (qb, .inl (g.2.1, 256, .inl f)), (da, .inr (9, [.ref db, .int (nI ((s.set j x).length))])), (db, .inl (g.2.1, 256, .inl f1_53))] H := hP
      have hD : va_D A [(b0, .inr (10, [.ref sa, .ref qa, .ref da, .ref ka, .ref o, .ref ca, .ref pa, .ref ha, .ref na, .ref ta, .ref ua])), (sa, .inr (6, [.int (nI k), .int (nI n), .int (nI B), .int (nI T)])), (ha, .inr (3, [.ref hr_, .ref hz_, .int (nI nx), .int (nI h.length)])), (hr_, .inl (g.2.1, 1536, .inl fr)), (hz_, .inl (g.2.1, 6, .inl fz)), (qa, .inr (9, [.ref qb, .int (nI s.length)])), (qb, .inl (g.2.1, 256, .inl f)), (da, .inr (9, [.ref db, .int (nI ((s.set j x).length))])), (db, .inl (g.2.1, 256, .inl f1_53))] := hD
      try dsimp only at hw53
      refine lv_aload_n X.1 X.2.1 dX11_setLetter_56 rfl (lv_at hl 1 rfl) ?_
      refine (b_take g b0 sa qa da ka o ca pa ha na ta ua qb s f db (s.set j x) f1_53 hr_ hz_ nx h fr fz (by omega) (by assumption) (hlz) (hw53) (hbs) (hbz) (by assumption)).callV (rest := []) (wr := [(sa, .inr (6, [.int (nI k), .int (nI n), .int (nI B), .int (nI T)]))]) X dX11_setLetter_57 q457 tX11_takeDraft hK hP hD hS hA [0, 5, 6, 7, 8, 2, 3, 4] [1] (by decide) rfl rfl (by decide) (by decide) 0 10 rfl rfl rfl hl ⟨⟨Nat.le_of_ble_eq_true rfl, Nat.le_of_ble_eq_true rfl⟩, Nat.le_of_ble_eq_true rfl, Nat.le_of_ble_eq_true rfl⟩ rfl rfl (Nat.le_of_ble_eq_true rfl) (fun r57 u57 H locs hw57 hP hD hS => ?_)
      obtain ⟨f1_57, fr1_57, fz1_57⟩ := u57
      have hP : PP g [(sa, .inr (6, [.int (nI k), .int (nI n), .int (nI B), .int (nI T)])), (b0, .inr (10, [.ref sa, .ref qa, .ref da, .ref ka, .ref o, .ref ca, .ref pa, .ref ha, .ref na, .ref ta, .ref ua])), (qa, .inr (9, [.ref qb, .int (nI ((s.set j x).length))])), (qb, .inl (g.2.1, 256, .inl f1_57)), (da, .inr (9, [.ref db, .int (nI ((s.set j x).length))])), (db, .inl (g.2.1, 256, .inl f1_53)), (ha, .inr (3, [.ref hr_, .ref hz_, .int (nI ((nx + 1) % 6)), .int (nI (((s :: h).take 6).length))])), (hr_, .inl (g.2.1, 1536, .inl fr1_57)), (hz_, .inl (g.2.1, 6, .inl fz1_57))] H := hP
      have hD : va_D A [(sa, .inr (6, [.int (nI k), .int (nI n), .int (nI B), .int (nI T)])), (b0, .inr (10, [.ref sa, .ref qa, .ref da, .ref ka, .ref o, .ref ca, .ref pa, .ref ha, .ref na, .ref ta, .ref ua])), (qa, .inr (9, [.ref qb, .int (nI ((s.set j x).length))])), (qb, .inl (g.2.1, 256, .inl f1_57)), (da, .inr (9, [.ref db, .int (nI ((s.set j x).length))])), (db, .inl (g.2.1, 256, .inl f1_53)), (ha, .inr (3, [.ref hr_, .ref hz_, .int (nI ((nx + 1) % 6)), .int (nI (((s :: h).take 6).length))])), (hr_, .inl (g.2.1, 1536, .inl fr1_57)), (hz_, .inl (g.2.1, 6, .inl fz1_57))] := hD
      try dsimp only at hw57
      refine tp_i (y := (bI (!(sameB (s.set j x) s)))) (hw57.1) ?_
      refine lv_pop X.1 X.2.1 dX11_setLetter_60 rfl ?_
      refine lv_iload_n X.1 X.2.1 dX11_setLetter_61 rfl (lv_at hl 0 rfl) ?_
      exact MuI.ret X hr hlk hK hS dX11_setLetter_62 (nI_nar _) (f1_57, f1_53, fr1_57, fz1_57) (hP.sub [1, 0, 2, 3, 4, 5, 6, 7, 8] rfl) (hD.sub [1, 0, 2, 3, 4, 5, 6, 7, 8] (by decide) rfl) (⟨rfl, hw57.2.1, hw57.2.2⟩)
    · exfalso; rw [h8] at c22; cases c22
  · exfalso; rw [h7] at c8; cases c8

set_option maxHeartbeats 4000000 in
set_option maxRecDepth 100000 in
theorem b_setLetter_no (g : G5) (b0 : Nat) (sa : Nat) (qa : Nat) (da : Nat) (ka : Nat) (o : Nat) (ca : Nat) (pa : Nat) (ha : Nat) (na : Nat) (ta : Nat) (ua : Nat) (k : Nat) (n : Nat) (B : Nat) (T : Nat) (qb : Nat) (s : List Nat) (f : Nat → Int32) (x : Int32) (y : Int32) (hc : shp k n B T) (hs : s.length ≤ 256) (hno : (hasB x s.length && hasB y k) = false) : PuI yX11_setLetter cX11_setLetter 4 (some .int) 4 105 g [.ref b0, .int x, .int y] [(b0, .inr (10, [.ref sa, .ref qa, .ref da, .ref ka, .ref o, .ref ca, .ref pa, .ref ha, .ref na, .ref ta, .ref ua])), (sa, .inr (6, [.int (nI k), .int (nI n), .int (nI B), .int (nI T)])), (qa, .inr (9, [.ref qb, .int (nI s.length)])), (qb, .inl (g.2.1, 256, .inl f))] (if hasB x s.length then (-1) else (-2)) := by
  refine PuI.of (by decide +kernel) (Nat.le_of_ble_eq_true rfl) ?_
  intro p_ l_ e_ S_ m_ args below meth co X hr hlk hP hK ls hl
  have X : CallFix p_ m_ co cX11_setLetter 4 S_ args lw_all RX11 := X
  have hl : lv_has ls 4 [(0, .ref b0), (1, .int x), (2, .int y)] := hl
  refine lv_aload_n X.1 X.2.1 dX11_setLetter_0 rfl (lv_at hl 0 rfl) ?_
  refine va_get (D := g.1) (ci := 10) (v := .ref qa) (C := RX11) (T := TX11) (N := 11) X.1 X.2.1 X.2.2.2.2 iwX11 X.2.2.2.1 hK hP 0 rfl rfl 1 (by decide) (X.2.2.2.2 _ q237) (fun _ h9 => h9) rfl dX11_setLetter_1 ?_
  refine lv_iload_n X.1 X.2.1 dX11_setLetter_4 rfl (lv_at hl 1 rfl) ?_
  refine (c_Word_has g qa qb s f x (by omega)).callV (rest := []) X dX11_setLetter_5 q598 tX10_has hK (hP.sub [2, 3] rfl) 0 9 rfl rfl rfl hl ⟨⟨Nat.le_of_ble_eq_true rfl, Nat.le_of_ble_eq_true rfl⟩, Nat.le_of_ble_eq_true rfl, Nat.le_of_ble_eq_true rfl⟩ rfl rfl (Nat.le_of_ble_eq_true rfl) ?_
  refine b_if_ne (tgt := 14) X dX11_setLetter_8 (by decide) (fun c8 => ?_) (fun c8 => ?_)
  · refine lv_aload_n X.1 X.2.1 dX11_setLetter_14 rfl (lv_at hl 0 rfl) ?_
    refine va_get (D := g.1) (ci := 10) (v := .ref sa) (C := RX11) (T := TX11) (N := 11) X.1 X.2.1 X.2.2.2.2 iwX11 X.2.2.2.1 hK hP 0 rfl rfl 0 (by decide) (X.2.2.2.2 _ q236) (fun _ h9 => h9) rfl dX11_setLetter_15 ?_
    refine lv_iload_n X.1 X.2.1 dX11_setLetter_18 rfl (lv_at hl 2 rfl) ?_
    refine (c_isLetter g sa k n B T y (by assumption)).callV (rest := []) X dX11_setLetter_19 q599 tX6_isLetter hK (hP.sub [1] rfl) 0 6 rfl rfl rfl hl ⟨⟨Nat.le_of_ble_eq_true rfl, Nat.le_of_ble_eq_true rfl⟩, Nat.le_of_ble_eq_true rfl, Nat.le_of_ble_eq_true rfl⟩ rfl rfl (Nat.le_of_ble_eq_true rfl) ?_
    refine b_if_ne (tgt := 27) X dX11_setLetter_22 (by decide) (fun c22 => ?_) (fun c22 => ?_)
    · exfalso; rw [c8, c22] at hno; cases hno
    · refine lv_iconst (v := (-1)) X.1 X.2.1 dX11_setLetter_25 (by decide) ?_
      exact PuI.ret X hr hlk dX11_setLetter_26 (nI_nar _) (by rw [c8]; rfl)
  · refine lv_bipush (v := (-2)) X.1 X.2.1 dX11_setLetter_11 (by decide) ?_
    exact PuI.ret X hr hlk dX11_setLetter_13 (nI_nar _) (by rw [c8]; rfl)

set_option maxHeartbeats 4000000 in
set_option maxRecDepth 100000 in
theorem b_appendLetter_ok (g : G5) (b0 : Nat) (sa : Nat) (qa : Nat) (da : Nat) (ka : Nat) (o : Nat) (ca : Nat) (pa : Nat) (ha : Nat) (na : Nat) (ta : Nat) (ua : Nat) (k : Nat) (n : Nat) (B : Nat) (T : Nat) (qb : Nat) (s : List Nat) (f : Nat → Int32) (db : Nat) (z : List Nat) (fd : Nat → Int32) (hr_ : Nat) (hz_ : Nat) (nx : Nat) (h : List (List Nat)) (fr : Nat → Int32) (fz : Nat → Int32) (x : Nat) (hc : shp k n B T) (hs : s.length ≤ 256) (hf : rep f s) (hlt : ltk k s) (hh : hrep nx fr fz h) (hl2 : s.length < 256) (hx : x < k) : MuI (S := (Nat → Int32) × (Nat → Int32) × (Nat → Int32) × (Nat → Int32)) yX11_appendLetter cX11_appendLetter 2 (some .int) 4 105 g [.ref b0, .int (nI x)] [(b0, .inr (10, [.ref sa, .ref qa, .ref da, .ref ka, .ref o, .ref ca, .ref pa, .ref ha, .ref na, .ref ta, .ref ua])), (sa, .inr (6, [.int (nI k), .int (nI n), .int (nI B), .int (nI T)])), (qa, .inr (9, [.ref qb, .int (nI s.length)])), (qb, .inl (g.2.1, 256, .inl f)), (da, .inr (9, [.ref db, .int (nI z.length)])), (db, .inl (g.2.1, 256, .inl fd)), (ha, .inr (3, [.ref hr_, .ref hz_, .int (nI nx), .int (nI h.length)])), (hr_, .inl (g.2.1, 1536, .inl fr)), (hz_, .inl (g.2.1, 6, .inl fz))] (fun r u => r = (nI ((s ++ [x]).length)) ∧ rep u.1 (s ++ [x]) ∧ hrep ((nx + 1) % 6) u.2.2.1 u.2.2.2 ((s :: h).take 6)) (fun u => [(b0, .inr (10, [.ref sa, .ref qa, .ref da, .ref ka, .ref o, .ref ca, .ref pa, .ref ha, .ref na, .ref ta, .ref ua])), (sa, .inr (6, [.int (nI k), .int (nI n), .int (nI B), .int (nI T)])), (qa, .inr (9, [.ref qb, .int (nI ((s ++ [x]).length))])), (qb, .inl (g.2.1, 256, .inl u.1)), (da, .inr (9, [.ref db, .int (nI ((s ++ [x]).length))])), (db, .inl (g.2.1, 256, .inl u.2.1)), (ha, .inr (3, [.ref hr_, .ref hz_, .int (nI ((nx + 1) % 6)), .int (nI (((s :: h).take 6).length))])), (hr_, .inl (g.2.1, 1536, .inl u.2.2.1)), (hz_, .inl (g.2.1, 6, .inl u.2.2.2))]) := by
  refine MuI.of (by decide +kernel) (Nat.le_of_ble_eq_true rfl) ?_
  intro p_ l_ e_ S_ m_ args below meth co X hr hlk hP hK A hA hD hS ls hl
  have X : CallFix p_ m_ co cX11_appendLetter 2 S_ args lw_all RX11 := X
  have hl : lv_has ls 2 [(0, .ref b0), (1, .int (nI x))] := hl
  obtain ⟨hk2, hk4, hn1, hn6, hB, hT, hBT, hT2⟩ := hc.f
  have hB0 : 0 < B := by rw [hBT]; exact Nat.mul_pos (by omega) (by omega)
  have hbs := hlt.bd hk4
  have h8 : hasB (nI x) k = true := by rw [hasB_N (by omega)]; exact decide_eq_true hx
  have hbz := (ltk_app hlt (ltk_one hx)).bd hk4
  have hlz : (s ++ [x]).length ≤ 256 := by simp; omega
  refine lv_aload_n X.1 X.2.1 dX11_appendLetter_0 rfl (lv_at hl 0 rfl) ?_
  refine va_get (D := g.1) (ci := 10) (v := .ref sa) (C := RX11) (T := TX11) (N := 11) X.1 X.2.1 X.2.2.2.2 iwX11 X.2.2.2.1 hK hP 0 rfl rfl 0 (by decide) (X.2.2.2.2 _ q236) (fun _ h9 => h9) rfl dX11_appendLetter_1 ?_
  refine lv_iload_n X.1 X.2.1 dX11_appendLetter_4 rfl (lv_at hl 1 rfl) ?_
  refine (c_isLetter g sa k n B T (nI x) (by assumption)).callV (rest := []) X dX11_appendLetter_5 q599 tX6_isLetter hK (hP.sub [1] rfl) 0 6 rfl rfl rfl hl ⟨⟨Nat.le_of_ble_eq_true rfl, Nat.le_of_ble_eq_true rfl⟩, Nat.le_of_ble_eq_true rfl, Nat.le_of_ble_eq_true rfl⟩ rfl rfl (Nat.le_of_ble_eq_true rfl) ?_
  refine b_if_ne (tgt := 13) X dX11_appendLetter_8 (by decide) (fun c8 => ?_) (fun c8 => ?_)
  · refine lv_aload_n X.1 X.2.1 dX11_appendLetter_13 rfl (lv_at hl 0 rfl) ?_
    refine va_get (D := g.1) (ci := 10) (v := .ref qa) (C := RX11) (T := TX11) (N := 11) X.1 X.2.1 X.2.2.2.2 iwX11 X.2.2.2.1 hK hP 0 rfl rfl 1 (by decide) (X.2.2.2.2 _ q237) (fun _ h9 => h9) rfl dX11_appendLetter_14 ?_
    refine (c_Word_isFull g qa qb s f (by omega)).callV (rest := []) X dX11_appendLetter_17 q611 tX10_isFull hK (hP.sub [2, 3] rfl) 0 9 rfl rfl rfl hl ⟨⟨Nat.le_of_ble_eq_true rfl, Nat.le_of_ble_eq_true rfl⟩, Nat.le_of_ble_eq_true rfl, Nat.le_of_ble_eq_true rfl⟩ rfl rfl (Nat.le_of_ble_eq_true rfl) ?_
    refine b_if_eq (tgt := 26) X dX11_appendLetter_20 (by decide) (fun c20 => ?_) (fun c20 => ?_)
    · refine lv_aload_n X.1 X.2.1 dX11_appendLetter_26 rfl (lv_at hl 0 rfl) ?_
      refine va_get (D := g.1) (ci := 10) (v := .ref da) (C := RX11) (T := TX11) (N := 11) X.1 X.2.1 X.2.2.2.2 iwX11 X.2.2.2.1 hK hP 0 rfl rfl 2 (by decide) (X.2.2.2.2 _ q238) (fun _ h9 => h9) rfl dX11_appendLetter_27 ?_
      refine lv_aload_n X.1 X.2.1 dX11_appendLetter_30 rfl (lv_at hl 0 rfl) ?_
      refine va_get (D := g.1) (ci := 10) (v := .ref qa) (C := RX11) (T := TX11) (N := 11) X.1 X.2.1 X.2.2.2.2 iwX11 X.2.2.2.1 hK hP 0 rfl rfl 1 (by decide) (X.2.2.2.2 _ q237) (fun _ h9 => h9) rfl dX11_appendLetter_31 ?_
      refine (c_Word_become g da db z fd qa qb s f (by omega) (by assumption)).callV (rest := []) (wr := [(b0, .inr (10, [.ref sa, .ref qa, .ref da, .ref ka, .ref o, .ref ca, .ref pa, .ref ha, .ref na, .ref ta, .ref ua])), (sa, .inr (6, [.int (nI k), .int (nI n), .int (nI B), .int (nI T)])), (ha, .inr (3, [.ref hr_, .ref hz_, .int (nI nx), .int (nI h.length)])), (hr_, .inl (g.2.1, 1536, .inl fr)), (hz_, .inl (g.2.1, 6, .inl fz))]) X dX11_appendLetter_34 q481 tX10_become hK hP hD hS hA [4, 5, 2, 3] [0, 1, 6, 7, 8] (by decide) rfl rfl (by decide) (by decide) 0 9 rfl rfl rfl hl ⟨⟨Nat.le_of_ble_eq_true rfl, Nat.le_of_ble_eq_true rfl⟩, Nat.le_of_ble_eq_true rfl, Nat.le_of_ble_eq_true rfl⟩ rfl rfl (Nat.le_of_ble_eq_true rfl) (fun u34 H locs hw34 hP hD hS => ?_)
      obtain ⟨f1_34, rfl⟩ : ∃ z, z = u34 := ⟨_, rfl⟩
      have hP : PP g [(b0, .inr (10, [.ref sa, .ref qa, .ref da, .ref ka, .ref o, .ref ca, .ref pa, .ref ha, .ref na, .ref ta, .ref ua])), (sa, .inr (6, [.int (nI k), .int (nI n), .int (nI B), .int (nI T)])), (ha, .inr (3, [.ref hr_, .ref hz_, .int (nI nx), .int (nI h.length)])), (hr_, .inl (g.2.1, 1536, .inl fr)), (hz_, .inl (g.2.1, 6, .inl fz)), (da, .inr (9, [.ref db, .int (nI s.length)])), (db, .inl (g.2.1, 256, .inl f1_34)), (qa, .inr (9, [.ref qb, .int (nI s.length)])), (qb, .inl (g.2.1, 256, .inl f))] H := hP
      have hD : va_D A [(b0, .inr (10, [.ref sa, .ref qa, .ref da, .ref ka, .ref o, .ref ca, .ref pa, .ref ha, .ref na, .ref ta, .ref ua])), (sa, .inr (6, [.int (nI k), .int (nI n), .int (nI B), .int (nI T)])), (ha, .inr (3, [.ref hr_, .ref hz_, .int (nI nx), .int (nI h.length)])), (hr_, .inl (g.2.1, 1536, .inl fr)), (hz_, .inl (g.2.1, 6, .inl fz)), (da, .inr (9, [.ref db, .int (nI s.length)])), (db, .inl (g.2.1, 256, .inl f1_34)), (qa, .inr (9, [.ref qb, .int (nI s.length)])), (qb, .inl (g.2.1, 256, .inl f))] := hD
      try dsimp only at hw34
      refine lv_aload_n X.1 X.2.1 dX11_appendLetter_37 rfl (lv_at hl 0 rfl) ?_
      refine va_get (D := g.1) (ci := 10) (v := .ref da) (C := RX11) (T := TX11) (N := 11) X.1 X.2.1 X.2.2.2.2 iwX11 X.2.2.2.1 hK hP 0 rfl rfl 2 (by decide) (X.2.2.2.2 _ q238) (fun _ h9 => h9) rfl dX11_appendLetter_38 ?_
      refine lv_iload_n X.1 X.2.1 dX11_appendLetter_41 rfl (lv_at hl 1 rfl) ?_
      refine (c_Word_add g da db s f1_34 x (by omega) (by assumption)).callV (rest := []) (wr := [(b0, .inr (10, [.ref sa, .ref qa, .ref da, .ref ka, .ref o, .ref ca, .ref pa, .ref ha, .ref na, .ref ta, .ref ua])), (sa, .inr (6, [.int (nI k), .int (nI n), .int (nI B), .int (nI T)])), (ha, .inr (3, [.ref hr_, .ref hz_, .int (nI nx), .int (nI h.length)])), (hr_, .inl (g.2.1, 1536, .inl fr)), (hz_, .inl (g.2.1, 6, .inl fz)), (qa, .inr (9, [.ref qb, .int (nI s.length)])), (qb, .inl (g.2.1, 256, .inl f))]) X dX11_appendLetter_42 q612 tX10_add hK hP hD hS hA [5, 6] [0, 1, 2, 3, 4, 7, 8] (by decide) rfl rfl (by decide) (by decide) 0 9 rfl rfl rfl hl ⟨⟨Nat.le_of_ble_eq_true rfl, Nat.le_of_ble_eq_true rfl⟩, Nat.le_of_ble_eq_true rfl, Nat.le_of_ble_eq_true rfl⟩ rfl rfl (Nat.le_of_ble_eq_true rfl) (fun u42 H locs hw42 hP hD hS => ?_)
      obtain ⟨f1_42, rfl⟩ : ∃ z, z = u42 := ⟨_, rfl⟩
      have hP : PP g [(b0, .inr (10, [.ref sa, .ref qa, .ref da, .ref ka, .ref o, .ref ca, .ref pa, .ref ha, .ref na, .ref ta, .ref ua])), (sa, .inr (6, [.int (nI k), .int (nI n), .int (nI B), .int (nI T)])), (ha, .inr (3, [.ref hr_, .ref hz_, .int (nI nx), .int (nI h.length)])), (hr_, .inl (g.2.1, 1536, .inl fr)), (hz_, .inl (g.2.1, 6, .inl fz)), (qa, .inr (9, [.ref qb, .int (nI s.length)])), (qb, .inl (g.2.1, 256, .inl f)), (da, .inr (9, [.ref db, .int (nI ((s ++ [x]).length))])), (db, .inl (g.2.1, 256, .inl f1_42))] H := hP
      have hD : va_D A [(b0, .inr (10, [.ref sa, .ref qa, .ref da, .ref ka, .ref o, .ref ca, .ref pa, .ref ha, .ref na, .ref ta, .ref ua])), (sa, .inr (6, [.int (nI k), .int (nI n), .int (nI B), .int (nI T)])), (ha, .inr (3, [.ref hr_, .ref hz_, .int (nI nx), .int (nI h.length)])), (hr_, .inl (g.2.1, 1536, .inl fr)), (hz_, .inl (g.2.1, 6, .inl fz)), (qa, .inr (9, [.ref qb, .int (nI s.length)])), (qb, .inl (g.2.1, 256, .inl f)), (da, .inr (9, [.ref db, .int (nI ((s ++ [x]).length))])), (db, .inl (g.2.1, 256, .inl f1_42))] := hD
      try dsimp only at hw42
      refine lv_aload_n X.1 X.2.1 dX11_appendLetter_45 rfl (lv_at hl 0 rfl) ?_
      refine (b_take g b0 sa qa da ka o ca pa ha na ta ua qb s f db (s ++ [x]) f1_42 hr_ hz_ nx h fr fz (by omega) (by assumption) (hlz) (hw42) (hbs) (hbz) (by assumption)).callV (rest := []) (wr := [(sa, .inr (6, [.int (nI k), .int (nI n), .int (nI B), .int (nI T)]))]) X dX11_appendLetter_46 q457 tX11_takeDraft hK hP hD hS hA [0, 5, 6, 7, 8, 2, 3, 4] [1] (by decide) rfl rfl (by decide) (by decide) 0 10 rfl rfl rfl hl ⟨⟨Nat.le_of_ble_eq_true rfl, Nat.le_of_ble_eq_true rfl⟩, Nat.le_of_ble_eq_true rfl, Nat.le_of_ble_eq_true rfl⟩ rfl rfl (Nat.le_of_ble_eq_true rfl) (fun r46 u46 H locs hw46 hP hD hS => ?_)
      obtain ⟨f1_46, fr1_46, fz1_46⟩ := u46
      have hP : PP g [(sa, .inr (6, [.int (nI k), .int (nI n), .int (nI B), .int (nI T)])), (b0, .inr (10, [.ref sa, .ref qa, .ref da, .ref ka, .ref o, .ref ca, .ref pa, .ref ha, .ref na, .ref ta, .ref ua])), (qa, .inr (9, [.ref qb, .int (nI ((s ++ [x]).length))])), (qb, .inl (g.2.1, 256, .inl f1_46)), (da, .inr (9, [.ref db, .int (nI ((s ++ [x]).length))])), (db, .inl (g.2.1, 256, .inl f1_42)), (ha, .inr (3, [.ref hr_, .ref hz_, .int (nI ((nx + 1) % 6)), .int (nI (((s :: h).take 6).length))])), (hr_, .inl (g.2.1, 1536, .inl fr1_46)), (hz_, .inl (g.2.1, 6, .inl fz1_46))] H := hP
      have hD : va_D A [(sa, .inr (6, [.int (nI k), .int (nI n), .int (nI B), .int (nI T)])), (b0, .inr (10, [.ref sa, .ref qa, .ref da, .ref ka, .ref o, .ref ca, .ref pa, .ref ha, .ref na, .ref ta, .ref ua])), (qa, .inr (9, [.ref qb, .int (nI ((s ++ [x]).length))])), (qb, .inl (g.2.1, 256, .inl f1_46)), (da, .inr (9, [.ref db, .int (nI ((s ++ [x]).length))])), (db, .inl (g.2.1, 256, .inl f1_42)), (ha, .inr (3, [.ref hr_, .ref hz_, .int (nI ((nx + 1) % 6)), .int (nI (((s :: h).take 6).length))])), (hr_, .inl (g.2.1, 1536, .inl fr1_46)), (hz_, .inl (g.2.1, 6, .inl fz1_46))] := hD
      try dsimp only at hw46
      refine tp_i (y := (bI (!(sameB (s ++ [x]) s)))) (hw46.1) ?_
      refine lv_pop X.1 X.2.1 dX11_appendLetter_49 rfl ?_
      refine lv_aload_n X.1 X.2.1 dX11_appendLetter_50 rfl (lv_at hl 0 rfl) ?_
      refine va_get (D := g.1) (ci := 10) (v := .ref qa) (C := RX11) (T := TX11) (N := 11) X.1 X.2.1 X.2.2.2.2 iwX11 X.2.2.2.1 hK hP 1 rfl rfl 1 (by decide) (X.2.2.2.2 _ q237) (fun _ h9 => h9) rfl dX11_appendLetter_51 ?_
      refine (c_Word_size g qa qb (s ++ [x]) f1_46).callV (rest := []) X dX11_appendLetter_54 q324 tX10_size hK (hP.sub [2, 3] rfl) 0 9 rfl rfl rfl hl ⟨⟨Nat.le_of_ble_eq_true rfl, Nat.le_of_ble_eq_true rfl⟩, Nat.le_of_ble_eq_true rfl, Nat.le_of_ble_eq_true rfl⟩ rfl rfl (Nat.le_of_ble_eq_true rfl) ?_
      exact MuI.ret X hr hlk hK hS dX11_appendLetter_57 (nI_nar _) (f1_46, f1_42, fr1_46, fz1_46) (hP.sub [1, 0, 2, 3, 4, 5, 6, 7, 8] rfl) (hD.sub [1, 0, 2, 3, 4, 5, 6, 7, 8] (by decide) rfl) (⟨rfl, hw46.2.1, hw46.2.2⟩)
    · exfalso; simp at c20; omega
  · exfalso; rw [h8] at c8; cases c8

set_option maxHeartbeats 4000000 in
set_option maxRecDepth 100000 in
theorem b_appendLetter_no (g : G5) (b0 : Nat) (sa : Nat) (qa : Nat) (da : Nat) (ka : Nat) (o : Nat) (ca : Nat) (pa : Nat) (ha : Nat) (na : Nat) (ta : Nat) (ua : Nat) (k : Nat) (n : Nat) (B : Nat) (T : Nat) (qb : Nat) (s : List Nat) (f : Nat → Int32) (x : Int32) (hc : shp k n B T) (hs : s.length ≤ 256) (hno : hasB x k = false ∨ s.length = 256) : PuI yX11_appendLetter cX11_appendLetter 2 (some .int) 4 105 g [.ref b0, .int x] [(b0, .inr (10, [.ref sa, .ref qa, .ref da, .ref ka, .ref o, .ref ca, .ref pa, .ref ha, .ref na, .ref ta, .ref ua])), (sa, .inr (6, [.int (nI k), .int (nI n), .int (nI B), .int (nI T)])), (qa, .inr (9, [.ref qb, .int (nI s.length)])), (qb, .inl (g.2.1, 256, .inl f))] (if hasB x k then (-4) else (-1)) := by
  refine PuI.of (by decide +kernel) (Nat.le_of_ble_eq_true rfl) ?_
  intro p_ l_ e_ S_ m_ args below meth co X hr hlk hP hK ls hl
  have X : CallFix p_ m_ co cX11_appendLetter 2 S_ args lw_all RX11 := X
  have hl : lv_has ls 2 [(0, .ref b0), (1, .int x)] := hl
  refine lv_aload_n X.1 X.2.1 dX11_appendLetter_0 rfl (lv_at hl 0 rfl) ?_
  refine va_get (D := g.1) (ci := 10) (v := .ref sa) (C := RX11) (T := TX11) (N := 11) X.1 X.2.1 X.2.2.2.2 iwX11 X.2.2.2.1 hK hP 0 rfl rfl 0 (by decide) (X.2.2.2.2 _ q236) (fun _ h9 => h9) rfl dX11_appendLetter_1 ?_
  refine lv_iload_n X.1 X.2.1 dX11_appendLetter_4 rfl (lv_at hl 1 rfl) ?_
  refine (c_isLetter g sa k n B T x (by assumption)).callV (rest := []) X dX11_appendLetter_5 q599 tX6_isLetter hK (hP.sub [1] rfl) 0 6 rfl rfl rfl hl ⟨⟨Nat.le_of_ble_eq_true rfl, Nat.le_of_ble_eq_true rfl⟩, Nat.le_of_ble_eq_true rfl, Nat.le_of_ble_eq_true rfl⟩ rfl rfl (Nat.le_of_ble_eq_true rfl) ?_
  refine b_if_ne (tgt := 13) X dX11_appendLetter_8 (by decide) (fun c8 => ?_) (fun c8 => ?_)
  · refine lv_aload_n X.1 X.2.1 dX11_appendLetter_13 rfl (lv_at hl 0 rfl) ?_
    refine va_get (D := g.1) (ci := 10) (v := .ref qa) (C := RX11) (T := TX11) (N := 11) X.1 X.2.1 X.2.2.2.2 iwX11 X.2.2.2.1 hK hP 0 rfl rfl 1 (by decide) (X.2.2.2.2 _ q237) (fun _ h9 => h9) rfl dX11_appendLetter_14 ?_
    refine (c_Word_isFull g qa qb s f (by omega)).callV (rest := []) X dX11_appendLetter_17 q611 tX10_isFull hK (hP.sub [2, 3] rfl) 0 9 rfl rfl rfl hl ⟨⟨Nat.le_of_ble_eq_true rfl, Nat.le_of_ble_eq_true rfl⟩, Nat.le_of_ble_eq_true rfl, Nat.le_of_ble_eq_true rfl⟩ rfl rfl (Nat.le_of_ble_eq_true rfl) ?_
    refine b_if_eq (tgt := 26) X dX11_appendLetter_20 (by decide) (fun c20 => ?_) (fun c20 => ?_)
    · exfalso; (rcases hno with h | h) <;> first | (rw [h] at c8; cases c8) | (simp at c20; omega)
    · refine lv_bipush (v := (-4)) X.1 X.2.1 dX11_appendLetter_23 (by decide) ?_
      exact PuI.ret X hr hlk dX11_appendLetter_25 (nI_nar _) (by rw [c8]; rfl)
  · refine lv_iconst (v := (-1)) X.1 X.2.1 dX11_appendLetter_11 (by decide) ?_
    exact PuI.ret X hr hlk dX11_appendLetter_12 (nI_nar _) (by rw [c8]; rfl)

set_option maxHeartbeats 4000000 in
set_option maxRecDepth 100000 in
theorem b_rotate_ok (g : G5) (b0 : Nat) (sa : Nat) (qa : Nat) (da : Nat) (ka : Nat) (o : Nat) (ca : Nat) (pa : Nat) (ha : Nat) (na : Nat) (ta : Nat) (ua : Nat) (k : Nat) (n : Nat) (B : Nat) (T : Nat) (qb : Nat) (s : List Nat) (f : Nat → Int32) (db : Nat) (z : List Nat) (fd : Nat → Int32) (hr_ : Nat) (hz_ : Nat) (nx : Nat) (h : List (List Nat)) (fr : Nat → Int32) (fz : Nat → Int32) (x : Int32) (hc : shp k n B T) (hs : s.length ≤ 256) (hf : rep f s) (hlt : ltk k s) (hh : hrep nx fr fz h) (h0 : 0 < s.length) : MuI (S := (Nat → Int32) × (Nat → Int32) × (Nat → Int32) × (Nat → Int32)) yX11_rotate cX11_rotate 3 (some .int) 4 105 g [.ref b0, .int x] [(b0, .inr (10, [.ref sa, .ref qa, .ref da, .ref ka, .ref o, .ref ca, .ref pa, .ref ha, .ref na, .ref ta, .ref ua])), (sa, .inr (6, [.int (nI k), .int (nI n), .int (nI B), .int (nI T)])), (qa, .inr (9, [.ref qb, .int (nI s.length)])), (qb, .inl (g.2.1, 256, .inl f)), (da, .inr (9, [.ref db, .int (nI z.length)])), (db, .inl (g.2.1, 256, .inl fd)), (ha, .inr (3, [.ref hr_, .ref hz_, .int (nI nx), .int (nI h.length)])), (hr_, .inl (g.2.1, 1536, .inl fr)), (hz_, .inl (g.2.1, 6, .inl fz))] (fun r u => r = (nI ((partL s (x.toInt % (s.length : Int)).toNat s.length 0).getD 0 0)) ∧ rep u.1 (partL s (x.toInt % (s.length : Int)).toNat s.length 0) ∧ hrep ((nx + 1) % 6) u.2.2.1 u.2.2.2 ((s :: h).take 6)) (fun u => [(b0, .inr (10, [.ref sa, .ref qa, .ref da, .ref ka, .ref o, .ref ca, .ref pa, .ref ha, .ref na, .ref ta, .ref ua])), (sa, .inr (6, [.int (nI k), .int (nI n), .int (nI B), .int (nI T)])), (qa, .inr (9, [.ref qb, .int (nI ((partL s (x.toInt % (s.length : Int)).toNat s.length 0).length))])), (qb, .inl (g.2.1, 256, .inl u.1)), (da, .inr (9, [.ref db, .int (nI ((partL s (x.toInt % (s.length : Int)).toNat s.length 0).length))])), (db, .inl (g.2.1, 256, .inl u.2.1)), (ha, .inr (3, [.ref hr_, .ref hz_, .int (nI ((nx + 1) % 6)), .int (nI (((s :: h).take 6).length))])), (hr_, .inl (g.2.1, 1536, .inl u.2.2.1)), (hz_, .inl (g.2.1, 6, .inl u.2.2.2))]) := by
  refine MuI.of (by decide +kernel) (Nat.le_of_ble_eq_true rfl) ?_
  intro p_ l_ e_ S_ m_ args below meth co X hr hlk hP hK A hA hD hS ls hl
  have X : CallFix p_ m_ co cX11_rotate 3 S_ args lw_all RX11 := X
  have hl : lv_has ls 3 [(0, .ref b0), (1, .int x)] := hl
  obtain ⟨hk2, hk4, hn1, hn6, hB, hT, hBT, hT2⟩ := hc.f
  have hB0 : 0 < B := by rw [hBT]; exact Nat.mul_pos (by omega) (by omega)
  have hbs := hlt.bd hk4
  have hbz := (ltk_part hlt (by omega) (x.toInt % (s.length : Int)).toNat s.length 0).bd hk4
  have hlz := partL_len s (x.toInt % (s.length : Int)).toNat s.length 0
  have h8 := fm_lt (x := x.toInt) (n := s.length) h0
  refine lv_aload_n X.1 X.2.1 dX11_rotate_0 rfl (lv_at hl 0 rfl) ?_
  refine va_get (D := g.1) (ci := 10) (v := .ref qa) (C := RX11) (T := TX11) (N := 11) X.1 X.2.1 X.2.2.2.2 iwX11 X.2.2.2.1 hK hP 0 rfl rfl 1 (by decide) (X.2.2.2.2 _ q237) (fun _ h9 => h9) rfl dX11_rotate_1 ?_
  refine (c_Word_size g qa qb s f).callV (rest := []) X dX11_rotate_4 q324 tX10_size hK (hP.sub [2, 3] rfl) 0 9 rfl rfl rfl hl ⟨⟨Nat.le_of_ble_eq_true rfl, Nat.le_of_ble_eq_true rfl⟩, Nat.le_of_ble_eq_true rfl, Nat.le_of_ble_eq_true rfl⟩ rfl rfl (Nat.le_of_ble_eq_true rfl) ?_
  refine lv_istore_n (lv' := [(2, .int (nI s.length)), (0, .ref b0), (1, .int x)]) X.1 X.2.1 dX11_rotate_7 rfl hl (by decide) rfl (fun ls hl => ?_)
  refine lv_iload_n X.1 X.2.1 dX11_rotate_8 rfl (lv_at hl 0 rfl) ?_
  refine lv_iconst (v := (nI 1)) X.1 X.2.1 dX11_rotate_9 (by decide) ?_
  refine z_icmp_ge (tgt := 16) X dX11_rotate_10 (by decide) (nI_toInt (by omega)) (nI_toInt (by omega)) (fun c10 => ?_) (fun c10 => ?_)
  · refine lv_aload_n X.1 X.2.1 dX11_rotate_16 rfl (lv_at hl 1 rfl) ?_
    refine va_get (D := g.1) (ci := 10) (v := .ref da) (C := RX11) (T := TX11) (N := 11) X.1 X.2.1 X.2.2.2.2 iwX11 X.2.2.2.1 hK hP 0 rfl rfl 2 (by decide) (X.2.2.2.2 _ q238) (fun _ h9 => h9) rfl dX11_rotate_17 ?_
    refine (c_Word_clear g da db z fd).callV (rest := []) (wr := [(b0, .inr (10, [.ref sa, .ref qa, .ref da, .ref ka, .ref o, .ref ca, .ref pa, .ref ha, .ref na, .ref ta, .ref ua])), (sa, .inr (6, [.int (nI k), .int (nI n), .int (nI B), .int (nI T)])), (qa, .inr (9, [.ref qb, .int (nI s.length)])), (qb, .inl (g.2.1, 256, .inl f)), (ha, .inr (3, [.ref hr_, .ref hz_, .int (nI nx), .int (nI h.length)])), (hr_, .inl (g.2.1, 1536, .inl fr)), (hz_, .inl (g.2.1, 6, .inl fz))]) X dX11_rotate_20 q284 tX10_clear hK hP hD hS hA [4, 5] [0, 1, 2, 3, 6, 7, 8] (by decide) rfl rfl (by decide) (by decide) 0 9 rfl rfl rfl hl ⟨⟨Nat.le_of_ble_eq_true rfl, Nat.le_of_ble_eq_true rfl⟩, Nat.le_of_ble_eq_true rfl, Nat.le_of_ble_eq_true rfl⟩ rfl rfl (Nat.le_of_ble_eq_true rfl) (fun u20 H locs hw20 hP hD hS => ?_)
    obtain ⟨f1_20, rfl⟩ : ∃ z, z = u20 := ⟨_, rfl⟩
    have hP : PP g [(b0, .inr (10, [.ref sa, .ref qa, .ref da, .ref ka, .ref o, .ref ca, .ref pa, .ref ha, .ref na, .ref ta, .ref ua])), (sa, .inr (6, [.int (nI k), .int (nI n), .int (nI B), .int (nI T)])), (qa, .inr (9, [.ref qb, .int (nI s.length)])), (qb, .inl (g.2.1, 256, .inl f)), (ha, .inr (3, [.ref hr_, .ref hz_, .int (nI nx), .int (nI h.length)])), (hr_, .inl (g.2.1, 1536, .inl fr)), (hz_, .inl (g.2.1, 6, .inl fz)), (da, .inr (9, [.ref db, .int (nI (([] : List Nat).length))])), (db, .inl (g.2.1, 256, .inl f1_20))] H := hP
    have hD : va_D A [(b0, .inr (10, [.ref sa, .ref qa, .ref da, .ref ka, .ref o, .ref ca, .ref pa, .ref ha, .ref na, .ref ta, .ref ua])), (sa, .inr (6, [.int (nI k), .int (nI n), .int (nI B), .int (nI T)])), (qa, .inr (9, [.ref qb, .int (nI s.length)])), (qb, .inl (g.2.1, 256, .inl f)), (ha, .inr (3, [.ref hr_, .ref hz_, .int (nI nx), .int (nI h.length)])), (hr_, .inl (g.2.1, 1536, .inl fr)), (hz_, .inl (g.2.1, 6, .inl fz)), (da, .inr (9, [.ref db, .int (nI (([] : List Nat).length))])), (db, .inl (g.2.1, 256, .inl f1_20))] := hD
    try dsimp only at hw20
    refine lv_aload_n X.1 X.2.1 dX11_rotate_23 rfl (lv_at hl 1 rfl) ?_
    refine va_get (D := g.1) (ci := 10) (v := .ref da) (C := RX11) (T := TX11) (N := 11) X.1 X.2.1 X.2.2.2.2 iwX11 X.2.2.2.1 hK hP 0 rfl rfl 2 (by decide) (X.2.2.2.2 _ q238) (fun _ h9 => h9) rfl dX11_rotate_24 ?_
    refine lv_aload_n X.1 X.2.1 dX11_rotate_27 rfl (lv_at hl 1 rfl) ?_
    refine va_get (D := g.1) (ci := 10) (v := .ref qa) (C := RX11) (T := TX11) (N := 11) X.1 X.2.1 X.2.2.2.2 iwX11 X.2.2.2.1 hK hP 0 rfl rfl 1 (by decide) (X.2.2.2.2 _ q237) (fun _ h9 => h9) rfl dX11_rotate_28 ?_
    refine lv_iload_n X.1 X.2.1 dX11_rotate_31 rfl (lv_at hl 2 rfl) ?_
    refine lv_iload_n X.1 X.2.1 dX11_rotate_32 rfl (lv_at hl 0 rfl) ?_
    refine (c_fmod g x s.length (by omega) (by omega)).callS (rest := [.ref qa, .ref da]) X dX11_rotate_33 q617 tJ9_floorMod_7cf53 hK (hP.sub [] rfl) hl ⟨⟨Nat.le_of_ble_eq_true rfl, Nat.le_of_ble_eq_true rfl⟩, Nat.le_of_ble_eq_true rfl, Nat.le_of_ble_eq_true rfl⟩ rfl rfl (Nat.le_of_ble_eq_true rfl) ?_
    refine tp_i (y := (nI ((x.toInt % (s.length : Int)).toNat))) (fm_N h0) ?_
    refine lv_iload_n X.1 X.2.1 dX11_rotate_36 rfl (lv_at hl 0 rfl) ?_
    refine (c_Word_addPart g da db ([] : List Nat) f1_20 qa qb s f ((x.toInt % (s.length : Int)).toNat) s.length (hw20.2) (by omega) (by assumption) (by omega) (by omega) (by rw [List.length_nil]; omega)).callV (rest := []) (wr := [(b0, .inr (10, [.ref sa, .ref qa, .ref da, .ref ka, .ref o, .ref ca, .ref pa, .ref ha, .ref na, .ref ta, .ref ua])), (sa, .inr (6, [.int (nI k), .int (nI n), .int (nI B), .int (nI T)])), (ha, .inr (3, [.ref hr_, .ref hz_, .int (nI nx), .int (nI h.length)])), (hr_, .inl (g.2.1, 1536, .inl fr)), (hz_, .inl (g.2.1, 6, .inl fz))]) X dX11_rotate_37 q620 tX10_addPart hK hP hD hS hA [7, 8, 2, 3] [0, 1, 4, 5, 6] (by decide) rfl rfl (by decide) (by decide) 0 9 rfl rfl rfl hl ⟨⟨Nat.le_of_ble_eq_true rfl, Nat.le_of_ble_eq_true rfl⟩, Nat.le_of_ble_eq_true rfl, Nat.le_of_ble_eq_true rfl⟩ rfl rfl (Nat.le_of_ble_eq_true rfl) (fun u37 H locs hw37 hP hD hS => ?_)
    obtain ⟨f1_37, rfl⟩ : ∃ z, z = u37 := ⟨_, rfl⟩
    have hP : PP g [(b0, .inr (10, [.ref sa, .ref qa, .ref da, .ref ka, .ref o, .ref ca, .ref pa, .ref ha, .ref na, .ref ta, .ref ua])), (sa, .inr (6, [.int (nI k), .int (nI n), .int (nI B), .int (nI T)])), (ha, .inr (3, [.ref hr_, .ref hz_, .int (nI nx), .int (nI h.length)])), (hr_, .inl (g.2.1, 1536, .inl fr)), (hz_, .inl (g.2.1, 6, .inl fz)), (da, .inr (9, [.ref db, .int (nI ((([] : List Nat) ++ partL s ((x.toInt % (s.length : Int)).toNat) s.length 0).length))])), (db, .inl (g.2.1, 256, .inl f1_37)), (qa, .inr (9, [.ref qb, .int (nI s.length)])), (qb, .inl (g.2.1, 256, .inl f))] H := hP
    have hD : va_D A [(b0, .inr (10, [.ref sa, .ref qa, .ref da, .ref ka, .ref o, .ref ca, .ref pa, .ref ha, .ref na, .ref ta, .ref ua])), (sa, .inr (6, [.int (nI k), .int (nI n), .int (nI B), .int (nI T)])), (ha, .inr (3, [.ref hr_, .ref hz_, .int (nI nx), .int (nI h.length)])), (hr_, .inl (g.2.1, 1536, .inl fr)), (hz_, .inl (g.2.1, 6, .inl fz)), (da, .inr (9, [.ref db, .int (nI ((([] : List Nat) ++ partL s ((x.toInt % (s.length : Int)).toNat) s.length 0).length))])), (db, .inl (g.2.1, 256, .inl f1_37)), (qa, .inr (9, [.ref qb, .int (nI s.length)])), (qb, .inl (g.2.1, 256, .inl f))] := hD
    try dsimp only at hw37
    have hP : PP g [(b0, .inr (10, [.ref sa, .ref qa, .ref da, .ref ka, .ref o, .ref ca, .ref pa, .ref ha, .ref na, .ref ta, .ref ua])), (sa, .inr (6, [.int (nI k), .int (nI n), .int (nI B), .int (nI T)])), (ha, .inr (3, [.ref hr_, .ref hz_, .int (nI nx), .int (nI h.length)])), (hr_, .inl (g.2.1, 1536, .inl fr)), (hz_, .inl (g.2.1, 6, .inl fz)), (da, .inr (9, [.ref db, .int (nI ((partL s (x.toInt % (s.length : Int)).toNat s.length 0).length))])), (db, .inl (g.2.1, 256, .inl f1_37)), (qa, .inr (9, [.ref qb, .int (nI s.length)])), (qb, .inl (g.2.1, 256, .inl f))] H := by simpa only [List.nil_append] using hP
    have hD : va_D A [(b0, .inr (10, [.ref sa, .ref qa, .ref da, .ref ka, .ref o, .ref ca, .ref pa, .ref ha, .ref na, .ref ta, .ref ua])), (sa, .inr (6, [.int (nI k), .int (nI n), .int (nI B), .int (nI T)])), (ha, .inr (3, [.ref hr_, .ref hz_, .int (nI nx), .int (nI h.length)])), (hr_, .inl (g.2.1, 1536, .inl fr)), (hz_, .inl (g.2.1, 6, .inl fz)), (da, .inr (9, [.ref db, .int (nI ((partL s (x.toInt % (s.length : Int)).toNat s.length 0).length))])), (db, .inl (g.2.1, 256, .inl f1_37)), (qa, .inr (9, [.ref qb, .int (nI s.length)])), (qb, .inl (g.2.1, 256, .inl f))] := by simpa only [List.nil_append] using hD
    refine lv_aload_n X.1 X.2.1 dX11_rotate_40 rfl (lv_at hl 1 rfl) ?_
    refine (b_take g b0 sa qa da ka o ca pa ha na ta ua qb s f db (partL s (x.toInt % (s.length : Int)).toNat s.length 0) f1_37 hr_ hz_ nx h fr fz (by omega) (by assumption) (by omega) (rep_eq hw37 (List.nil_append _)) (hbs) (hbz) (by assumption)).callV (rest := []) (wr := [(sa, .inr (6, [.int (nI k), .int (nI n), .int (nI B), .int (nI T)]))]) X dX11_rotate_41 q457 tX11_takeDraft hK hP hD hS hA [0, 7, 8, 5, 6, 2, 3, 4] [1] (by decide) rfl rfl (by decide) (by decide) 0 10 rfl rfl rfl hl ⟨⟨Nat.le_of_ble_eq_true rfl, Nat.le_of_ble_eq_true rfl⟩, Nat.le_of_ble_eq_true rfl, Nat.le_of_ble_eq_true rfl⟩ rfl rfl (Nat.le_of_ble_eq_true rfl) (fun r41 u41 H locs hw41 hP hD hS => ?_)
    obtain ⟨f1_41, fr1_41, fz1_41⟩ := u41
    have hP : PP g [(sa, .inr (6, [.int (nI k), .int (nI n), .int (nI B), .int (nI T)])), (b0, .inr (10, [.ref sa, .ref qa, .ref da, .ref ka, .ref o, .ref ca, .ref pa, .ref ha, .ref na, .ref ta, .ref ua])), (qa, .inr (9, [.ref qb, .int (nI ((partL s (x.toInt % (s.length : Int)).toNat s.length 0).length))])), (qb, .inl (g.2.1, 256, .inl f1_41)), (da, .inr (9, [.ref db, .int (nI ((partL s (x.toInt % (s.length : Int)).toNat s.length 0).length))])), (db, .inl (g.2.1, 256, .inl f1_37)), (ha, .inr (3, [.ref hr_, .ref hz_, .int (nI ((nx + 1) % 6)), .int (nI (((s :: h).take 6).length))])), (hr_, .inl (g.2.1, 1536, .inl fr1_41)), (hz_, .inl (g.2.1, 6, .inl fz1_41))] H := hP
    have hD : va_D A [(sa, .inr (6, [.int (nI k), .int (nI n), .int (nI B), .int (nI T)])), (b0, .inr (10, [.ref sa, .ref qa, .ref da, .ref ka, .ref o, .ref ca, .ref pa, .ref ha, .ref na, .ref ta, .ref ua])), (qa, .inr (9, [.ref qb, .int (nI ((partL s (x.toInt % (s.length : Int)).toNat s.length 0).length))])), (qb, .inl (g.2.1, 256, .inl f1_41)), (da, .inr (9, [.ref db, .int (nI ((partL s (x.toInt % (s.length : Int)).toNat s.length 0).length))])), (db, .inl (g.2.1, 256, .inl f1_37)), (ha, .inr (3, [.ref hr_, .ref hz_, .int (nI ((nx + 1) % 6)), .int (nI (((s :: h).take 6).length))])), (hr_, .inl (g.2.1, 1536, .inl fr1_41)), (hz_, .inl (g.2.1, 6, .inl fz1_41))] := hD
    try dsimp only at hw41
    refine tp_i (y := (bI (!(sameB (partL s (x.toInt % (s.length : Int)).toNat s.length 0) s)))) (hw41.1) ?_
    refine lv_pop X.1 X.2.1 dX11_rotate_44 rfl ?_
    refine lv_aload_n X.1 X.2.1 dX11_rotate_45 rfl (lv_at hl 1 rfl) ?_
    refine va_get (D := g.1) (ci := 10) (v := .ref qa) (C := RX11) (T := TX11) (N := 11) X.1 X.2.1 X.2.2.2.2 iwX11 X.2.2.2.1 hK hP 1 rfl rfl 1 (by decide) (X.2.2.2.2 _ q237) (fun _ h9 => h9) rfl dX11_rotate_46 ?_
    refine lv_iconst (v := (nI 0)) X.1 X.2.1 dX11_rotate_49 (by decide) ?_
    refine (c_Word_atN g qa qb (partL s (x.toInt % (s.length : Int)).toNat s.length 0) f1_41 0 (by omega) (hw41.2.1) (by omega)).callV (rest := []) X dX11_rotate_50 q332 tX10_at hK (hP.sub [2, 3] rfl) 0 9 rfl rfl rfl hl ⟨⟨Nat.le_of_ble_eq_true rfl, Nat.le_of_ble_eq_true rfl⟩, Nat.le_of_ble_eq_true rfl, Nat.le_of_ble_eq_true rfl⟩ rfl rfl (Nat.le_of_ble_eq_true rfl) ?_
    exact MuI.ret X hr hlk hK hS dX11_rotate_53 (nI_nar _) (f1_41, f1_37, fr1_41, fz1_41) (hP.sub [1, 0, 2, 3, 4, 5, 6, 7, 8] rfl) (hD.sub [1, 0, 2, 3, 4, 5, 6, 7, 8] (by decide) rfl) (⟨rfl, hw41.2.1, hw41.2.2⟩)
  · exfalso; omega

set_option maxHeartbeats 4000000 in
set_option maxRecDepth 100000 in
theorem b_rotate_no (g : G5) (b0 : Nat) (sa : Nat) (qa : Nat) (da : Nat) (ka : Nat) (o : Nat) (ca : Nat) (pa : Nat) (ha : Nat) (na : Nat) (ta : Nat) (ua : Nat) (qb : Nat) (s : List Nat) (f : Nat → Int32) (x : Int32) (h0 : s.length < 1) : PuI yX11_rotate cX11_rotate 3 (some .int) 4 105 g [.ref b0, .int x] [(b0, .inr (10, [.ref sa, .ref qa, .ref da, .ref ka, .ref o, .ref ca, .ref pa, .ref ha, .ref na, .ref ta, .ref ua])), (qa, .inr (9, [.ref qb, .int (nI s.length)])), (qb, .inl (g.2.1, 256, .inl f))] (-3) := by
  refine PuI.of (by decide +kernel) (Nat.le_of_ble_eq_true rfl) ?_
  intro p_ l_ e_ S_ m_ args below meth co X hr hlk hP hK ls hl
  have X : CallFix p_ m_ co cX11_rotate 3 S_ args lw_all RX11 := X
  have hl : lv_has ls 3 [(0, .ref b0), (1, .int x)] := hl
  refine lv_aload_n X.1 X.2.1 dX11_rotate_0 rfl (lv_at hl 0 rfl) ?_
  refine va_get (D := g.1) (ci := 10) (v := .ref qa) (C := RX11) (T := TX11) (N := 11) X.1 X.2.1 X.2.2.2.2 iwX11 X.2.2.2.1 hK hP 0 rfl rfl 1 (by decide) (X.2.2.2.2 _ q237) (fun _ h9 => h9) rfl dX11_rotate_1 ?_
  refine (c_Word_size g qa qb s f).callV (rest := []) X dX11_rotate_4 q324 tX10_size hK (hP.sub [1, 2] rfl) 0 9 rfl rfl rfl hl ⟨⟨Nat.le_of_ble_eq_true rfl, Nat.le_of_ble_eq_true rfl⟩, Nat.le_of_ble_eq_true rfl, Nat.le_of_ble_eq_true rfl⟩ rfl rfl (Nat.le_of_ble_eq_true rfl) ?_
  refine lv_istore_n (lv' := [(2, .int (nI s.length)), (0, .ref b0), (1, .int x)]) X.1 X.2.1 dX11_rotate_7 rfl hl (by decide) rfl (fun ls hl => ?_)
  refine lv_iload_n X.1 X.2.1 dX11_rotate_8 rfl (lv_at hl 0 rfl) ?_
  refine lv_iconst (v := (nI 1)) X.1 X.2.1 dX11_rotate_9 (by decide) ?_
  refine z_icmp_ge (tgt := 16) X dX11_rotate_10 (by decide) (nI_toInt (by omega)) (nI_toInt (by omega)) (fun c10 => ?_) (fun c10 => ?_)
  · exfalso; omega
  · refine lv_bipush (v := (-3)) X.1 X.2.1 dX11_rotate_13 (by decide) ?_
    exact PuI.ret X hr hlk dX11_rotate_15 (nI_nar _) (rfl)

set_option maxHeartbeats 4000000 in
set_option maxRecDepth 100000 in
theorem b_reverse_no (g : G5) (b0 : Nat) (sa : Nat) (qa : Nat) (da : Nat) (ka : Nat) (o : Nat) (ca : Nat) (pa : Nat) (ha : Nat) (na : Nat) (ta : Nat) (ua : Nat) (qb : Nat) (s : List Nat) (f : Nat → Int32) (h0 : s.length < 1) : PuI yX11_reverse cX11_reverse 3 (some .int) 4 105 g [.ref b0] [(b0, .inr (10, [.ref sa, .ref qa, .ref da, .ref ka, .ref o, .ref ca, .ref pa, .ref ha, .ref na, .ref ta, .ref ua])), (qa, .inr (9, [.ref qb, .int (nI s.length)])), (qb, .inl (g.2.1, 256, .inl f))] (-3) := by
  refine PuI.of (by decide +kernel) (Nat.le_of_ble_eq_true rfl) ?_
  intro p_ l_ e_ S_ m_ args below meth co X hr hlk hP hK ls hl
  have X : CallFix p_ m_ co cX11_reverse 3 S_ args lw_all RX11 := X
  have hl : lv_has ls 3 [(0, .ref b0)] := hl
  refine lv_aload_n X.1 X.2.1 dX11_reverse_0 rfl (lv_at hl 0 rfl) ?_
  refine va_get (D := g.1) (ci := 10) (v := .ref qa) (C := RX11) (T := TX11) (N := 11) X.1 X.2.1 X.2.2.2.2 iwX11 X.2.2.2.1 hK hP 0 rfl rfl 1 (by decide) (X.2.2.2.2 _ q237) (fun _ h9 => h9) rfl dX11_reverse_1 ?_
  refine (c_Word_size g qa qb s f).callV (rest := []) X dX11_reverse_4 q324 tX10_size hK (hP.sub [1, 2] rfl) 0 9 rfl rfl rfl hl ⟨⟨Nat.le_of_ble_eq_true rfl, Nat.le_of_ble_eq_true rfl⟩, Nat.le_of_ble_eq_true rfl, Nat.le_of_ble_eq_true rfl⟩ rfl rfl (Nat.le_of_ble_eq_true rfl) ?_
  refine lv_istore_n (lv' := [(1, .int (nI s.length)), (0, .ref b0)]) X.1 X.2.1 dX11_reverse_7 rfl hl (by decide) rfl (fun ls hl => ?_)
  refine lv_iload_n X.1 X.2.1 dX11_reverse_8 rfl (lv_at hl 0 rfl) ?_
  refine lv_iconst (v := (nI 1)) X.1 X.2.1 dX11_reverse_9 (by decide) ?_
  refine z_icmp_ge (tgt := 16) X dX11_reverse_10 (by decide) (nI_toInt (by omega)) (nI_toInt (by omega)) (fun c10 => ?_) (fun c10 => ?_)
  · exfalso; omega
  · refine lv_bipush (v := (-3)) X.1 X.2.1 dX11_reverse_13 (by decide) ?_
    exact PuI.ret X hr hlk dX11_reverse_15 (nI_nar _) (rfl)

set_option maxHeartbeats 4000000 in
set_option maxRecDepth 100000 in
theorem b_complement_no (g : G5) (b0 : Nat) (sa : Nat) (qa : Nat) (da : Nat) (ka : Nat) (o : Nat) (ca : Nat) (pa : Nat) (ha : Nat) (na : Nat) (ta : Nat) (ua : Nat) (qb : Nat) (s : List Nat) (f : Nat → Int32) (h0 : s.length < 1) : PuI yX11_complement cX11_complement 3 (some .int) 4 105 g [.ref b0] [(b0, .inr (10, [.ref sa, .ref qa, .ref da, .ref ka, .ref o, .ref ca, .ref pa, .ref ha, .ref na, .ref ta, .ref ua])), (qa, .inr (9, [.ref qb, .int (nI s.length)])), (qb, .inl (g.2.1, 256, .inl f))] (-3) := by
  refine PuI.of (by decide +kernel) (Nat.le_of_ble_eq_true rfl) ?_
  intro p_ l_ e_ S_ m_ args below meth co X hr hlk hP hK ls hl
  have X : CallFix p_ m_ co cX11_complement 3 S_ args lw_all RX11 := X
  have hl : lv_has ls 3 [(0, .ref b0)] := hl
  refine lv_aload_n X.1 X.2.1 dX11_complement_0 rfl (lv_at hl 0 rfl) ?_
  refine va_get (D := g.1) (ci := 10) (v := .ref qa) (C := RX11) (T := TX11) (N := 11) X.1 X.2.1 X.2.2.2.2 iwX11 X.2.2.2.1 hK hP 0 rfl rfl 1 (by decide) (X.2.2.2.2 _ q237) (fun _ h9 => h9) rfl dX11_complement_1 ?_
  refine (c_Word_size g qa qb s f).callV (rest := []) X dX11_complement_4 q324 tX10_size hK (hP.sub [1, 2] rfl) 0 9 rfl rfl rfl hl ⟨⟨Nat.le_of_ble_eq_true rfl, Nat.le_of_ble_eq_true rfl⟩, Nat.le_of_ble_eq_true rfl, Nat.le_of_ble_eq_true rfl⟩ rfl rfl (Nat.le_of_ble_eq_true rfl) ?_
  refine lv_istore_n (lv' := [(1, .int (nI s.length)), (0, .ref b0)]) X.1 X.2.1 dX11_complement_7 rfl hl (by decide) rfl (fun ls hl => ?_)
  refine lv_iload_n X.1 X.2.1 dX11_complement_8 rfl (lv_at hl 0 rfl) ?_
  refine lv_iconst (v := (nI 1)) X.1 X.2.1 dX11_complement_9 (by decide) ?_
  refine z_icmp_ge (tgt := 16) X dX11_complement_10 (by decide) (nI_toInt (by omega)) (nI_toInt (by omega)) (fun c10 => ?_) (fun c10 => ?_)
  · exfalso; omega
  · refine lv_bipush (v := (-3)) X.1 X.2.1 dX11_complement_13 (by decide) ?_
    exact PuI.ret X hr hlk dX11_complement_15 (nI_nar _) (rfl)

set_option maxHeartbeats 4000000 in
set_option maxRecDepth 100000 in
theorem b_reverse_ok (g : G5) (b0 : Nat) (sa : Nat) (qa : Nat) (da : Nat) (ka : Nat) (o : Nat) (ca : Nat) (pa : Nat) (ha : Nat) (na : Nat) (ta : Nat) (ua : Nat) (k : Nat) (n : Nat) (B : Nat) (T : Nat) (qb : Nat) (s : List Nat) (f : Nat → Int32) (db : Nat) (z : List Nat) (fd : Nat → Int32) (hr_ : Nat) (hz_ : Nat) (nx : Nat) (h : List (List Nat)) (fr : Nat → Int32) (fz : Nat → Int32) (hc : shp k n B T) (hs : s.length ≤ 256) (hf : rep f s) (hlt : ltk k s) (hh : hrep nx fr fz h) (h0 : 0 < s.length) : MuI (S := (Nat → Int32) × (Nat → Int32) × (Nat → Int32) × (Nat → Int32)) yX11_reverse cX11_reverse 3 (some .int) 4 105 g [.ref b0] [(b0, .inr (10, [.ref sa, .ref qa, .ref da, .ref ka, .ref o, .ref ca, .ref pa, .ref ha, .ref na, .ref ta, .ref ua])), (sa, .inr (6, [.int (nI k), .int (nI n), .int (nI B), .int (nI T)])), (qa, .inr (9, [.ref qb, .int (nI s.length)])), (qb, .inl (g.2.1, 256, .inl f)), (da, .inr (9, [.ref db, .int (nI z.length)])), (db, .inl (g.2.1, 256, .inl fd)), (ha, .inr (3, [.ref hr_, .ref hz_, .int (nI nx), .int (nI h.length)])), (hr_, .inl (g.2.1, 1536, .inl fr)), (hz_, .inl (g.2.1, 6, .inl fz))] (fun r u => r = (nI (if sameB (revL s s.length) s then 1 else 0)) ∧ rep u.1 (revL s s.length) ∧ hrep ((nx + 1) % 6) u.2.2.1 u.2.2.2 ((s :: h).take 6)) (fun u => [(b0, .inr (10, [.ref sa, .ref qa, .ref da, .ref ka, .ref o, .ref ca, .ref pa, .ref ha, .ref na, .ref ta, .ref ua])), (sa, .inr (6, [.int (nI k), .int (nI n), .int (nI B), .int (nI T)])), (qa, .inr (9, [.ref qb, .int (nI ((revL s s.length).length))])), (qb, .inl (g.2.1, 256, .inl u.1)), (da, .inr (9, [.ref db, .int (nI ((revL s s.length).length))])), (db, .inl (g.2.1, 256, .inl u.2.1)), (ha, .inr (3, [.ref hr_, .ref hz_, .int (nI ((nx + 1) % 6)), .int (nI (((s :: h).take 6).length))])), (hr_, .inl (g.2.1, 1536, .inl u.2.2.1)), (hz_, .inl (g.2.1, 6, .inl u.2.2.2))]) := by
  refine MuI.of (by decide +kernel) (Nat.le_of_ble_eq_true rfl) ?_
  intro p_ l_ e_ S_ m_ args below meth co X hr hlk hP hK A hA hD hS ls hl
  have X : CallFix p_ m_ co cX11_reverse 3 S_ args lw_all RX11 := X
  have hl : lv_has ls 3 [(0, .ref b0)] := hl
  obtain ⟨hk2, hk4, hn1, hn6, hB, hT, hBT, hT2⟩ := hc.f
  have hB0 : 0 < B := by rw [hBT]; exact Nat.mul_pos (by omega) (by omega)
  have hbs := hlt.bd hk4
  have hbz := (ltk_rev hlt (by omega) s.length).bd hk4
  have hlz := revL_len s s.length
  refine lv_aload_n X.1 X.2.1 dX11_reverse_0 rfl (lv_at hl 0 rfl) ?_
  refine va_get (D := g.1) (ci := 10) (v := .ref qa) (C := RX11) (T := TX11) (N := 11) X.1 X.2.1 X.2.2.2.2 iwX11 X.2.2.2.1 hK hP 0 rfl rfl 1 (by decide) (X.2.2.2.2 _ q237) (fun _ h9 => h9) rfl dX11_reverse_1 ?_
  refine (c_Word_size g qa qb s f).callV (rest := []) X dX11_reverse_4 q324 tX10_size hK (hP.sub [2, 3] rfl) 0 9 rfl rfl rfl hl ⟨⟨Nat.le_of_ble_eq_true rfl, Nat.le_of_ble_eq_true rfl⟩, Nat.le_of_ble_eq_true rfl, Nat.le_of_ble_eq_true rfl⟩ rfl rfl (Nat.le_of_ble_eq_true rfl) ?_
  refine lv_istore_n (lv' := [(1, .int (nI s.length)), (0, .ref b0)]) X.1 X.2.1 dX11_reverse_7 rfl hl (by decide) rfl (fun ls hl => ?_)
  refine lv_iload_n X.1 X.2.1 dX11_reverse_8 rfl (lv_at hl 0 rfl) ?_
  refine lv_iconst (v := (nI 1)) X.1 X.2.1 dX11_reverse_9 (by decide) ?_
  refine z_icmp_ge (tgt := 16) X dX11_reverse_10 (by decide) (nI_toInt (by omega)) (nI_toInt (by omega)) (fun c10 => ?_) (fun c10 => ?_)
  · refine lv_aload_n X.1 X.2.1 dX11_reverse_16 rfl (lv_at hl 1 rfl) ?_
    refine va_get (D := g.1) (ci := 10) (v := .ref da) (C := RX11) (T := TX11) (N := 11) X.1 X.2.1 X.2.2.2.2 iwX11 X.2.2.2.1 hK hP 0 rfl rfl 2 (by decide) (X.2.2.2.2 _ q238) (fun _ h9 => h9) rfl dX11_reverse_17 ?_
    refine (c_Word_clear g da db z fd).callV (rest := []) (wr := [(b0, .inr (10, [.ref sa, .ref qa, .ref da, .ref ka, .ref o, .ref ca, .ref pa, .ref ha, .ref na, .ref ta, .ref ua])), (sa, .inr (6, [.int (nI k), .int (nI n), .int (nI B), .int (nI T)])), (qa, .inr (9, [.ref qb, .int (nI s.length)])), (qb, .inl (g.2.1, 256, .inl f)), (ha, .inr (3, [.ref hr_, .ref hz_, .int (nI nx), .int (nI h.length)])), (hr_, .inl (g.2.1, 1536, .inl fr)), (hz_, .inl (g.2.1, 6, .inl fz))]) X dX11_reverse_20 q284 tX10_clear hK hP hD hS hA [4, 5] [0, 1, 2, 3, 6, 7, 8] (by decide) rfl rfl (by decide) (by decide) 0 9 rfl rfl rfl hl ⟨⟨Nat.le_of_ble_eq_true rfl, Nat.le_of_ble_eq_true rfl⟩, Nat.le_of_ble_eq_true rfl, Nat.le_of_ble_eq_true rfl⟩ rfl rfl (Nat.le_of_ble_eq_true rfl) (fun u20 H locs hw20 hP hD hS => ?_)
    obtain ⟨f1_20, rfl⟩ : ∃ z, z = u20 := ⟨_, rfl⟩
    have hP : PP g [(b0, .inr (10, [.ref sa, .ref qa, .ref da, .ref ka, .ref o, .ref ca, .ref pa, .ref ha, .ref na, .ref ta, .ref ua])), (sa, .inr (6, [.int (nI k), .int (nI n), .int (nI B), .int (nI T)])), (qa, .inr (9, [.ref qb, .int (nI s.length)])), (qb, .inl (g.2.1, 256, .inl f)), (ha, .inr (3, [.ref hr_, .ref hz_, .int (nI nx), .int (nI h.length)])), (hr_, .inl (g.2.1, 1536, .inl fr)), (hz_, .inl (g.2.1, 6, .inl fz)), (da, .inr (9, [.ref db, .int (nI (([] : List Nat).length))])), (db, .inl (g.2.1, 256, .inl f1_20))] H := hP
    have hD : va_D A [(b0, .inr (10, [.ref sa, .ref qa, .ref da, .ref ka, .ref o, .ref ca, .ref pa, .ref ha, .ref na, .ref ta, .ref ua])), (sa, .inr (6, [.int (nI k), .int (nI n), .int (nI B), .int (nI T)])), (qa, .inr (9, [.ref qb, .int (nI s.length)])), (qb, .inl (g.2.1, 256, .inl f)), (ha, .inr (3, [.ref hr_, .ref hz_, .int (nI nx), .int (nI h.length)])), (hr_, .inl (g.2.1, 1536, .inl fr)), (hz_, .inl (g.2.1, 6, .inl fz)), (da, .inr (9, [.ref db, .int (nI (([] : List Nat).length))])), (db, .inl (g.2.1, 256, .inl f1_20))] := hD
    try dsimp only at hw20
    refine lv_iload_n X.1 X.2.1 dX11_reverse_23 rfl (lv_at hl 0 rfl) ?_
    refine lv_iconst (v := (nI 1)) X.1 X.2.1 dX11_reverse_24 (by decide) ?_
    refine lv_isub X.1 X.2.1 dX11_reverse_25 ?_
    refine tp_i (y := (iI (((s.length : Nat) : Int) - ((1 : Nat) : Int)))) (by first | rw [iI_sub] | rw [nI_iI, nI_iI, iI_sub] | rw [nI_iI, iI_sub]) ?_
    refine lv_istore_n (lv' := [(2, .int (iI (((s.length : Nat) : Int) - ((1 : Nat) : Int)))), (1, .int (nI s.length)), (0, .ref b0)]) X.1 X.2.1 dX11_reverse_26 rfl hl (by decide) rfl (fun ls hl => ?_)
    have L27 : ∀ (r : Nat) (s1 : List Nat) (fd1 : Nat → Int32) (hr1 : s1.length + r = s.length) (hq : s1 ++ revL s r = revL s s.length) (hf1 : rep fd1 s1) (H : Heap) (locs : List Loc) (hP : PP g [(b0, .inr (10, [.ref sa, .ref qa, .ref da, .ref ka, .ref o, .ref ca, .ref pa, .ref ha, .ref na, .ref ta, .ref ua])), (sa, .inr (6, [.int (nI k), .int (nI n), .int (nI B), .int (nI T)])), (qa, .inr (9, [.ref qb, .int (nI s.length)])), (qb, .inl (g.2.1, 256, .inl f)), (da, .inr (9, [.ref db, .int (nI s1.length)])), (db, .inl (g.2.1, 256, .inl fd1)), (ha, .inr (3, [.ref hr_, .ref hz_, .int (nI nx), .int (nI h.length)])), (hr_, .inl (g.2.1, 1536, .inl fr)), (hz_, .inl (g.2.1, 6, .inl fz))] H) (hD : va_D A [(b0, .inr (10, [.ref sa, .ref qa, .ref da, .ref ka, .ref o, .ref ca, .ref pa, .ref ha, .ref na, .ref ta, .ref ua])), (sa, .inr (6, [.int (nI k), .int (nI n), .int (nI B), .int (nI T)])), (qa, .inr (9, [.ref qb, .int (nI s.length)])), (qb, .inl (g.2.1, 256, .inl f)), (da, .inr (9, [.ref db, .int (nI s1.length)])), (db, .inl (g.2.1, 256, .inl fd1)), (ha, .inr (3, [.ref hr_, .ref hz_, .int (nI nx), .int (nI h.length)])), (hr_, .inl (g.2.1, 1536, .inl fr)), (hz_, .inl (g.2.1, 6, .inl fz))]) (hS : va_S A S_.heap H locs) (ls : Array Slot) (hl : lv_has ls 3 [(2, .int (iI (((r : Nat) : Int) - 1))), (1, .int (nI s.length)), (0, .ref b0)]), W p_ l_ e_ { frames := 4, cells := 0, slots := 0, locals := 105 } S_ m_ args below meth co H locs 0 0 (MQ below (va_Qi (S := (Nat → Int32) × (Nat → Int32) × (Nat → Int32) × (Nat → Int32)) (fun r u => r = (nI (if sameB (revL s s.length) s then 1 else 0)) ∧ rep u.1 (revL s s.length) ∧ hrep ((nx + 1) % 6) u.2.2.1 u.2.2.2 ((s :: h).take 6)) (MuB g A (fun u => [(b0, .inr (10, [.ref sa, .ref qa, .ref da, .ref ka, .ref o, .ref ca, .ref pa, .ref ha, .ref na, .ref ta, .ref ua])), (sa, .inr (6, [.int (nI k), .int (nI n), .int (nI B), .int (nI T)])), (qa, .inr (9, [.ref qb, .int (nI ((revL s s.length).length))])), (qb, .inl (g.2.1, 256, .inl u.1)), (da, .inr (9, [.ref db, .int (nI ((revL s s.length).length))])), (db, .inl (g.2.1, 256, .inl u.2.1)), (ha, .inr (3, [.ref hr_, .ref hz_, .int (nI ((nx + 1) % 6)), .int (nI (((s :: h).take 6).length))])), (hr_, .inl (g.2.1, 1536, .inl u.2.2.1)), (hz_, .inl (g.2.1, 6, .inl u.2.2.2))])) A) args S_ 0 0 A) (F0 m_ 27 ls []) := by
      intro r
      induction r with
      | zero =>
        intro s1 fd1 hr1 hq hf1 H locs hP hD hS ls hl
        have e9 : s1 = revL s s.length := by simpa [revL] using hq
        refine lv_iload_n X.1 X.2.1 dX11_reverse_27 rfl (lv_at hl 0 rfl) ?_
        refine z_if_lt (tgt := 52) X dX11_reverse_28 (by decide) (iI_toInt (by omega) (by omega)) (fun c28 => ?_) (fun c28 => ?_)
        · have hP : PP g [(b0, .inr (10, [.ref sa, .ref qa, .ref da, .ref ka, .ref o, .ref ca, .ref pa, .ref ha, .ref na, .ref ta, .ref ua])), (sa, .inr (6, [.int (nI k), .int (nI n), .int (nI B), .int (nI T)])), (qa, .inr (9, [.ref qb, .int (nI s.length)])), (qb, .inl (g.2.1, 256, .inl f)), (da, .inr (9, [.ref db, .int (nI ((revL s s.length).length))])), (db, .inl (g.2.1, 256, .inl fd1)), (ha, .inr (3, [.ref hr_, .ref hz_, .int (nI nx), .int (nI h.length)])), (hr_, .inl (g.2.1, 1536, .inl fr)), (hz_, .inl (g.2.1, 6, .inl fz))] H := by rw [← e9]; exact hP
          have hD : va_D A [(b0, .inr (10, [.ref sa, .ref qa, .ref da, .ref ka, .ref o, .ref ca, .ref pa, .ref ha, .ref na, .ref ta, .ref ua])), (sa, .inr (6, [.int (nI k), .int (nI n), .int (nI B), .int (nI T)])), (qa, .inr (9, [.ref qb, .int (nI s.length)])), (qb, .inl (g.2.1, 256, .inl f)), (da, .inr (9, [.ref db, .int (nI ((revL s s.length).length))])), (db, .inl (g.2.1, 256, .inl fd1)), (ha, .inr (3, [.ref hr_, .ref hz_, .int (nI nx), .int (nI h.length)])), (hr_, .inl (g.2.1, 1536, .inl fr)), (hz_, .inl (g.2.1, 6, .inl fz))] := by rw [← e9]; exact hD
          refine lv_aload_n X.1 X.2.1 dX11_reverse_52 rfl (lv_at hl 2 rfl) ?_
          refine (b_take g b0 sa qa da ka o ca pa ha na ta ua qb s f db (revL s s.length) fd1 hr_ hz_ nx h fr fz (by omega) (by assumption) (by omega) (rep_eq hf1 e9) (hbs) (hbz) (by assumption)).callV (rest := []) (wr := [(sa, .inr (6, [.int (nI k), .int (nI n), .int (nI B), .int (nI T)]))]) X dX11_reverse_53 q457 tX11_takeDraft hK hP hD hS hA [0, 2, 3, 4, 5, 6, 7, 8] [1] (by decide) rfl rfl (by decide) (by decide) 0 10 rfl rfl rfl hl ⟨⟨Nat.le_of_ble_eq_true rfl, Nat.le_of_ble_eq_true rfl⟩, Nat.le_of_ble_eq_true rfl, Nat.le_of_ble_eq_true rfl⟩ rfl rfl (Nat.le_of_ble_eq_true rfl) (fun r53 u53 H locs hw53 hP hD hS => ?_)
          obtain ⟨f1_53, fr1_53, fz1_53⟩ := u53
          have hP : PP g [(sa, .inr (6, [.int (nI k), .int (nI n), .int (nI B), .int (nI T)])), (b0, .inr (10, [.ref sa, .ref qa, .ref da, .ref ka, .ref o, .ref ca, .ref pa, .ref ha, .ref na, .ref ta, .ref ua])), (qa, .inr (9, [.ref qb, .int (nI ((revL s s.length).length))])), (qb, .inl (g.2.1, 256, .inl f1_53)), (da, .inr (9, [.ref db, .int (nI ((revL s s.length).length))])), (db, .inl (g.2.1, 256, .inl fd1)), (ha, .inr (3, [.ref hr_, .ref hz_, .int (nI ((nx + 1) % 6)), .int (nI (((s :: h).take 6).length))])), (hr_, .inl (g.2.1, 1536, .inl fr1_53)), (hz_, .inl (g.2.1, 6, .inl fz1_53))] H := hP
          have hD : va_D A [(sa, .inr (6, [.int (nI k), .int (nI n), .int (nI B), .int (nI T)])), (b0, .inr (10, [.ref sa, .ref qa, .ref da, .ref ka, .ref o, .ref ca, .ref pa, .ref ha, .ref na, .ref ta, .ref ua])), (qa, .inr (9, [.ref qb, .int (nI ((revL s s.length).length))])), (qb, .inl (g.2.1, 256, .inl f1_53)), (da, .inr (9, [.ref db, .int (nI ((revL s s.length).length))])), (db, .inl (g.2.1, 256, .inl fd1)), (ha, .inr (3, [.ref hr_, .ref hz_, .int (nI ((nx + 1) % 6)), .int (nI (((s :: h).take 6).length))])), (hr_, .inl (g.2.1, 1536, .inl fr1_53)), (hz_, .inl (g.2.1, 6, .inl fz1_53))] := hD
          try dsimp only at hw53
          refine tp_i (y := (bI (!(sameB (revL s s.length) s)))) (hw53.1) ?_
          refine b_if_eq (tgt := 63) X dX11_reverse_56 (by decide) (fun c56 => ?_) (fun c56 => ?_)
          · refine lv_iconst (v := (nI 1)) X.1 X.2.1 dX11_reverse_63 (by decide) ?_
            exact MuI.ret X hr hlk hK hS dX11_reverse_64 (nI_nar _) (f1_53, fd1, fr1_53, fz1_53) (hP.sub [1, 0, 2, 3, 4, 5, 6, 7, 8] rfl) (hD.sub [1, 0, 2, 3, 4, 5, 6, 7, 8] (by decide) rfl) (⟨(by (cases hsm : sameB (revL s s.length) s) <;> rw [hsm] at c56 <;> first | rfl | cases c56), hw53.2.1, hw53.2.2⟩)
          · refine lv_iconst (v := (nI 0)) X.1 X.2.1 dX11_reverse_59 (by decide) ?_
            refine lv_goto (tgt := 64) X.1 X.2.1 dX11_reverse_60 (by decide) ?_
            exact MuI.ret X hr hlk hK hS dX11_reverse_64 (nI_nar _) (f1_53, fd1, fr1_53, fz1_53) (hP.sub [1, 0, 2, 3, 4, 5, 6, 7, 8] rfl) (hD.sub [1, 0, 2, 3, 4, 5, 6, 7, 8] (by decide) rfl) (⟨(by (cases hsm : sameB (revL s s.length) s) <;> rw [hsm] at c56 <;> first | rfl | cases c56), hw53.2.1, hw53.2.2⟩)
        · exfalso; omega
      | succ r ih27 =>
        intro s1 fd1 hr1 hq hf1 H locs hP hD hS ls hl
        refine lv_iload_n X.1 X.2.1 dX11_reverse_27 rfl (lv_at hl 0 rfl) ?_
        refine z_if_lt (tgt := 52) X dX11_reverse_28 (by decide) (iI_toInt (by omega) (by omega)) (fun c28 => ?_) (fun c28 => ?_)
        · exfalso; omega
        · refine lv_aload_n X.1 X.2.1 dX11_reverse_31 rfl (lv_at hl 2 rfl) ?_
          refine va_get (D := g.1) (ci := 10) (v := .ref da) (C := RX11) (T := TX11) (N := 11) X.1 X.2.1 X.2.2.2.2 iwX11 X.2.2.2.1 hK hP 0 rfl rfl 2 (by decide) (X.2.2.2.2 _ q238) (fun _ h9 => h9) rfl dX11_reverse_32 ?_
          refine lv_aload_n X.1 X.2.1 dX11_reverse_35 rfl (lv_at hl 2 rfl) ?_
          refine va_get (D := g.1) (ci := 10) (v := .ref qa) (C := RX11) (T := TX11) (N := 11) X.1 X.2.1 X.2.2.2.2 iwX11 X.2.2.2.1 hK hP 0 rfl rfl 1 (by decide) (X.2.2.2.2 _ q237) (fun _ h9 => h9) rfl dX11_reverse_36 ?_
          refine lv_iload_n X.1 X.2.1 dX11_reverse_39 rfl (lv_at hl 0 rfl) ?_
          refine tp_i (y := (nI r)) (by rw [nI_iI]; congr 1; omega) ?_
          refine (c_Word_atN g qa qb s f r (by omega) (by assumption) (by omega)).callV (rest := [.ref da]) X dX11_reverse_40 q332 tX10_at hK (hP.sub [2, 3] rfl) 0 9 rfl rfl rfl hl ⟨⟨Nat.le_of_ble_eq_true rfl, Nat.le_of_ble_eq_true rfl⟩, Nat.le_of_ble_eq_true rfl, Nat.le_of_ble_eq_true rfl⟩ rfl rfl (Nat.le_of_ble_eq_true rfl) ?_
          refine (c_Word_add g da db s1 fd1 (s.getD r 0) (by omega) (by assumption)).callV (rest := []) (wr := [(b0, .inr (10, [.ref sa, .ref qa, .ref da, .ref ka, .ref o, .ref ca, .ref pa, .ref ha, .ref na, .ref ta, .ref ua])), (sa, .inr (6, [.int (nI k), .int (nI n), .int (nI B), .int (nI T)])), (qa, .inr (9, [.ref qb, .int (nI s.length)])), (qb, .inl (g.2.1, 256, .inl f)), (ha, .inr (3, [.ref hr_, .ref hz_, .int (nI nx), .int (nI h.length)])), (hr_, .inl (g.2.1, 1536, .inl fr)), (hz_, .inl (g.2.1, 6, .inl fz))]) X dX11_reverse_43 q612 tX10_add hK hP hD hS hA [4, 5] [0, 1, 2, 3, 6, 7, 8] (by decide) rfl rfl (by decide) (by decide) 0 9 rfl rfl rfl hl ⟨⟨Nat.le_of_ble_eq_true rfl, Nat.le_of_ble_eq_true rfl⟩, Nat.le_of_ble_eq_true rfl, Nat.le_of_ble_eq_true rfl⟩ rfl rfl (Nat.le_of_ble_eq_true rfl) (fun u43 H locs hw43 hP hD hS => ?_)
          obtain ⟨f1_43, rfl⟩ : ∃ z, z = u43 := ⟨_, rfl⟩
          have hP : PP g [(b0, .inr (10, [.ref sa, .ref qa, .ref da, .ref ka, .ref o, .ref ca, .ref pa, .ref ha, .ref na, .ref ta, .ref ua])), (sa, .inr (6, [.int (nI k), .int (nI n), .int (nI B), .int (nI T)])), (qa, .inr (9, [.ref qb, .int (nI s.length)])), (qb, .inl (g.2.1, 256, .inl f)), (ha, .inr (3, [.ref hr_, .ref hz_, .int (nI nx), .int (nI h.length)])), (hr_, .inl (g.2.1, 1536, .inl fr)), (hz_, .inl (g.2.1, 6, .inl fz)), (da, .inr (9, [.ref db, .int (nI ((s1 ++ [(s.getD r 0)]).length))])), (db, .inl (g.2.1, 256, .inl f1_43))] H := hP
          have hD : va_D A [(b0, .inr (10, [.ref sa, .ref qa, .ref da, .ref ka, .ref o, .ref ca, .ref pa, .ref ha, .ref na, .ref ta, .ref ua])), (sa, .inr (6, [.int (nI k), .int (nI n), .int (nI B), .int (nI T)])), (qa, .inr (9, [.ref qb, .int (nI s.length)])), (qb, .inl (g.2.1, 256, .inl f)), (ha, .inr (3, [.ref hr_, .ref hz_, .int (nI nx), .int (nI h.length)])), (hr_, .inl (g.2.1, 1536, .inl fr)), (hz_, .inl (g.2.1, 6, .inl fz)), (da, .inr (9, [.ref db, .int (nI ((s1 ++ [(s.getD r 0)]).length))])), (db, .inl (g.2.1, 256, .inl f1_43))] := hD
          try dsimp only at hw43
          refine lv_iinc (v := (iI (((r : Nat) : Int) - 1))) (lv' := [(2, .int (iI (((r : Nat) : Int) - 1))), (1, .int (nI s.length)), (0, .ref b0)]) X.1 X.2.1 dX11_reverse_46 hl (k := 0) rfl (iI_inc _ _ _ (by omega)) (by decide) rfl (fun ls hl => ?_)
          refine lv_goto (tgt := 27) X.1 X.2.1 dX11_reverse_49 (by decide) ?_
          exact ih27 (s1 ++ [s.getD r 0]) f1_43 (by simp; omega) (by rw [revL] at hq; simpa using hq) (hw43) _ _ (hP.sub [0, 1, 2, 3, 7, 8, 4, 5, 6] rfl) (hD.sub [0, 1, 2, 3, 7, 8, 4, 5, 6] (by decide) rfl) hS ls (lv_sub hl [0, 1, 2] rfl)
    exact L27 s.length ([] : List Nat) f1_20 (by simp) (rfl) (hw20.2) _ _ (hP.sub [0, 1, 2, 3, 7, 8, 4, 5, 6] rfl) (hD.sub [0, 1, 2, 3, 7, 8, 4, 5, 6] (by decide) rfl) hS ls (lv_sub hl [0, 1, 2] rfl)
  · exfalso; omega

set_option maxHeartbeats 4000000 in
set_option maxRecDepth 100000 in
theorem b_complement_ok (g : G5) (b0 : Nat) (sa : Nat) (qa : Nat) (da : Nat) (ka : Nat) (o : Nat) (ca : Nat) (pa : Nat) (ha : Nat) (na : Nat) (ta : Nat) (ua : Nat) (k : Nat) (n : Nat) (B : Nat) (T : Nat) (qb : Nat) (s : List Nat) (f : Nat → Int32) (db : Nat) (z : List Nat) (fd : Nat → Int32) (hr_ : Nat) (hz_ : Nat) (nx : Nat) (h : List (List Nat)) (fr : Nat → Int32) (fz : Nat → Int32) (hc : shp k n B T) (hs : s.length ≤ 256) (hf : rep f s) (hlt : ltk k s) (hh : hrep nx fr fz h) (h0 : 0 < s.length) : MuI (S := (Nat → Int32) × (Nat → Int32) × (Nat → Int32) × (Nat → Int32)) yX11_complement cX11_complement 3 (some .int) 4 105 g [.ref b0] [(b0, .inr (10, [.ref sa, .ref qa, .ref da, .ref ka, .ref o, .ref ca, .ref pa, .ref ha, .ref na, .ref ta, .ref ua])), (sa, .inr (6, [.int (nI k), .int (nI n), .int (nI B), .int (nI T)])), (qa, .inr (9, [.ref qb, .int (nI s.length)])), (qb, .inl (g.2.1, 256, .inl f)), (da, .inr (9, [.ref db, .int (nI z.length)])), (db, .inl (g.2.1, 256, .inl fd)), (ha, .inr (3, [.ref hr_, .ref hz_, .int (nI nx), .int (nI h.length)])), (hr_, .inl (g.2.1, 1536, .inl fr)), (hz_, .inl (g.2.1, 6, .inl fz))] (fun r u => r = (nI ((comL k s s.length 0).getD 0 0)) ∧ rep u.1 (comL k s s.length 0) ∧ hrep ((nx + 1) % 6) u.2.2.1 u.2.2.2 ((s :: h).take 6)) (fun u => [(b0, .inr (10, [.ref sa, .ref qa, .ref da, .ref ka, .ref o, .ref ca, .ref pa, .ref ha, .ref na, .ref ta, .ref ua])), (sa, .inr (6, [.int (nI k), .int (nI n), .int (nI B), .int (nI T)])), (qa, .inr (9, [.ref qb, .int (nI ((comL k s s.length 0).length))])), (qb, .inl (g.2.1, 256, .inl u.1)), (da, .inr (9, [.ref db, .int (nI ((comL k s s.length 0).length))])), (db, .inl (g.2.1, 256, .inl u.2.1)), (ha, .inr (3, [.ref hr_, .ref hz_, .int (nI ((nx + 1) % 6)), .int (nI (((s :: h).take 6).length))])), (hr_, .inl (g.2.1, 1536, .inl u.2.2.1)), (hz_, .inl (g.2.1, 6, .inl u.2.2.2))]) := by
  refine MuI.of (by decide +kernel) (Nat.le_of_ble_eq_true rfl) ?_
  intro p_ l_ e_ S_ m_ args below meth co X hr hlk hP hK A hA hD hS ls hl
  have X : CallFix p_ m_ co cX11_complement 3 S_ args lw_all RX11 := X
  have hl : lv_has ls 3 [(0, .ref b0)] := hl
  obtain ⟨hk2, hk4, hn1, hn6, hB, hT, hBT, hT2⟩ := hc.f
  have hB0 : 0 < B := by rw [hBT]; exact Nat.mul_pos (by omega) (by omega)
  have hbs := hlt.bd hk4
  have hbz := (ltk_com (s := s) (k := k) (by omega) s.length 0).bd hk4
  have hlz := comL_len k s s.length 0
  refine lv_aload_n X.1 X.2.1 dX11_complement_0 rfl (lv_at hl 0 rfl) ?_
  refine va_get (D := g.1) (ci := 10) (v := .ref qa) (C := RX11) (T := TX11) (N := 11) X.1 X.2.1 X.2.2.2.2 iwX11 X.2.2.2.1 hK hP 0 rfl rfl 1 (by decide) (X.2.2.2.2 _ q237) (fun _ h9 => h9) rfl dX11_complement_1 ?_
  refine (c_Word_size g qa qb s f).callV (rest := []) X dX11_complement_4 q324 tX10_size hK (hP.sub [2, 3] rfl) 0 9 rfl rfl rfl hl ⟨⟨Nat.le_of_ble_eq_true rfl, Nat.le_of_ble_eq_true rfl⟩, Nat.le_of_ble_eq_true rfl, Nat.le_of_ble_eq_true rfl⟩ rfl rfl (Nat.le_of_ble_eq_true rfl) ?_
  refine lv_istore_n (lv' := [(1, .int (nI s.length)), (0, .ref b0)]) X.1 X.2.1 dX11_complement_7 rfl hl (by decide) rfl (fun ls hl => ?_)
  refine lv_iload_n X.1 X.2.1 dX11_complement_8 rfl (lv_at hl 0 rfl) ?_
  refine lv_iconst (v := (nI 1)) X.1 X.2.1 dX11_complement_9 (by decide) ?_
  refine z_icmp_ge (tgt := 16) X dX11_complement_10 (by decide) (nI_toInt (by omega)) (nI_toInt (by omega)) (fun c10 => ?_) (fun c10 => ?_)
  · refine lv_aload_n X.1 X.2.1 dX11_complement_16 rfl (lv_at hl 1 rfl) ?_
    refine va_get (D := g.1) (ci := 10) (v := .ref da) (C := RX11) (T := TX11) (N := 11) X.1 X.2.1 X.2.2.2.2 iwX11 X.2.2.2.1 hK hP 0 rfl rfl 2 (by decide) (X.2.2.2.2 _ q238) (fun _ h9 => h9) rfl dX11_complement_17 ?_
    refine (c_Word_clear g da db z fd).callV (rest := []) (wr := [(b0, .inr (10, [.ref sa, .ref qa, .ref da, .ref ka, .ref o, .ref ca, .ref pa, .ref ha, .ref na, .ref ta, .ref ua])), (sa, .inr (6, [.int (nI k), .int (nI n), .int (nI B), .int (nI T)])), (qa, .inr (9, [.ref qb, .int (nI s.length)])), (qb, .inl (g.2.1, 256, .inl f)), (ha, .inr (3, [.ref hr_, .ref hz_, .int (nI nx), .int (nI h.length)])), (hr_, .inl (g.2.1, 1536, .inl fr)), (hz_, .inl (g.2.1, 6, .inl fz))]) X dX11_complement_20 q284 tX10_clear hK hP hD hS hA [4, 5] [0, 1, 2, 3, 6, 7, 8] (by decide) rfl rfl (by decide) (by decide) 0 9 rfl rfl rfl hl ⟨⟨Nat.le_of_ble_eq_true rfl, Nat.le_of_ble_eq_true rfl⟩, Nat.le_of_ble_eq_true rfl, Nat.le_of_ble_eq_true rfl⟩ rfl rfl (Nat.le_of_ble_eq_true rfl) (fun u20 H locs hw20 hP hD hS => ?_)
    obtain ⟨f1_20, rfl⟩ : ∃ z, z = u20 := ⟨_, rfl⟩
    have hP : PP g [(b0, .inr (10, [.ref sa, .ref qa, .ref da, .ref ka, .ref o, .ref ca, .ref pa, .ref ha, .ref na, .ref ta, .ref ua])), (sa, .inr (6, [.int (nI k), .int (nI n), .int (nI B), .int (nI T)])), (qa, .inr (9, [.ref qb, .int (nI s.length)])), (qb, .inl (g.2.1, 256, .inl f)), (ha, .inr (3, [.ref hr_, .ref hz_, .int (nI nx), .int (nI h.length)])), (hr_, .inl (g.2.1, 1536, .inl fr)), (hz_, .inl (g.2.1, 6, .inl fz)), (da, .inr (9, [.ref db, .int (nI (([] : List Nat).length))])), (db, .inl (g.2.1, 256, .inl f1_20))] H := hP
    have hD : va_D A [(b0, .inr (10, [.ref sa, .ref qa, .ref da, .ref ka, .ref o, .ref ca, .ref pa, .ref ha, .ref na, .ref ta, .ref ua])), (sa, .inr (6, [.int (nI k), .int (nI n), .int (nI B), .int (nI T)])), (qa, .inr (9, [.ref qb, .int (nI s.length)])), (qb, .inl (g.2.1, 256, .inl f)), (ha, .inr (3, [.ref hr_, .ref hz_, .int (nI nx), .int (nI h.length)])), (hr_, .inl (g.2.1, 1536, .inl fr)), (hz_, .inl (g.2.1, 6, .inl fz)), (da, .inr (9, [.ref db, .int (nI (([] : List Nat).length))])), (db, .inl (g.2.1, 256, .inl f1_20))] := hD
    try dsimp only at hw20
    refine lv_iconst (v := (nI 0)) X.1 X.2.1 dX11_complement_23 (by decide) ?_
    refine lv_istore_n (lv' := [(2, .int (nI 0)), (1, .int (nI s.length)), (0, .ref b0)]) X.1 X.2.1 dX11_complement_24 rfl hl (by decide) rfl (fun ls hl => ?_)
    have L25 : ∀ (r : Nat) (i : Nat) (s1 : List Nat) (fd1 : Nat → Int32) (hr1 : i + r = s.length) (hl1 : s1.length = i) (hq : s1 ++ comL k s r i = comL k s s.length 0) (hf1 : rep fd1 s1) (H : Heap) (locs : List Loc) (hP : PP g [(b0, .inr (10, [.ref sa, .ref qa, .ref da, .ref ka, .ref o, .ref ca, .ref pa, .ref ha, .ref na, .ref ta, .ref ua])), (sa, .inr (6, [.int (nI k), .int (nI n), .int (nI B), .int (nI T)])), (qa, .inr (9, [.ref qb, .int (nI s.length)])), (qb, .inl (g.2.1, 256, .inl f)), (da, .inr (9, [.ref db, .int (nI s1.length)])), (db, .inl (g.2.1, 256, .inl fd1)), (ha, .inr (3, [.ref hr_, .ref hz_, .int (nI nx), .int (nI h.length)])), (hr_, .inl (g.2.1, 1536, .inl fr)), (hz_, .inl (g.2.1, 6, .inl fz))] H) (hD : va_D A [(b0, .inr (10, [.ref sa, .ref qa, .ref da, .ref ka, .ref o, .ref ca, .ref pa, .ref ha, .ref na, .ref ta, .ref ua])), (sa, .inr (6, [.int (nI k), .int (nI n), .int (nI B), .int (nI T)])), (qa, .inr (9, [.ref qb, .int (nI s.length)])), (qb, .inl (g.2.1, 256, .inl f)), (da, .inr (9, [.ref db, .int (nI s1.length)])), (db, .inl (g.2.1, 256, .inl fd1)), (ha, .inr (3, [.ref hr_, .ref hz_, .int (nI nx), .int (nI h.length)])), (hr_, .inl (g.2.1, 1536, .inl fr)), (hz_, .inl (g.2.1, 6, .inl fz))]) (hS : va_S A S_.heap H locs) (ls : Array Slot) (hl : lv_has ls 3 [(2, .int (nI i)), (1, .int (nI s.length)), (0, .ref b0)]), W p_ l_ e_ { frames := 4, cells := 0, slots := 0, locals := 105 } S_ m_ args below meth co H locs 0 0 (MQ below (va_Qi (S := (Nat → Int32) × (Nat → Int32) × (Nat → Int32) × (Nat → Int32)) (fun r u => r = (nI ((comL k s s.length 0).getD 0 0)) ∧ rep u.1 (comL k s s.length 0) ∧ hrep ((nx + 1) % 6) u.2.2.1 u.2.2.2 ((s :: h).take 6)) (MuB g A (fun u => [(b0, .inr (10, [.ref sa, .ref qa, .ref da, .ref ka, .ref o, .ref ca, .ref pa, .ref ha, .ref na, .ref ta, .ref ua])), (sa, .inr (6, [.int (nI k), .int (nI n), .int (nI B), .int (nI T)])), (qa, .inr (9, [.ref qb, .int (nI ((comL k s s.length 0).length))])), (qb, .inl (g.2.1, 256, .inl u.1)), (da, .inr (9, [.ref db, .int (nI ((comL k s s.length 0).length))])), (db, .inl (g.2.1, 256, .inl u.2.1)), (ha, .inr (3, [.ref hr_, .ref hz_, .int (nI ((nx + 1) % 6)), .int (nI (((s :: h).take 6).length))])), (hr_, .inl (g.2.1, 1536, .inl u.2.2.1)), (hz_, .inl (g.2.1, 6, .inl u.2.2.2))])) A) args S_ 0 0 A) (F0 m_ 25 ls []) := by
      intro r
      induction r with
      | zero =>
        intro i s1 fd1 hr1 hl1 hq hf1 H locs hP hD hS ls hl
        have e9 : s1 = comL k s s.length 0 := by simpa [comL] using hq
        refine lv_iload_n X.1 X.2.1 dX11_complement_25 rfl (lv_at hl 0 rfl) ?_
        refine lv_iload_n X.1 X.2.1 dX11_complement_26 rfl (lv_at hl 1 rfl) ?_
        refine z_icmp_ge (tgt := 61) X dX11_complement_27 (by decide) (nI_toInt (by omega)) (nI_toInt (by omega)) (fun c27 => ?_) (fun c27 => ?_)
        · have hP : PP g [(b0, .inr (10, [.ref sa, .ref qa, .ref da, .ref ka, .ref o, .ref ca, .ref pa, .ref ha, .ref na, .ref ta, .ref ua])), (sa, .inr (6, [.int (nI k), .int (nI n), .int (nI B), .int (nI T)])), (qa, .inr (9, [.ref qb, .int (nI s.length)])), (qb, .inl (g.2.1, 256, .inl f)), (da, .inr (9, [.ref db, .int (nI ((comL k s s.length 0).length))])), (db, .inl (g.2.1, 256, .inl fd1)), (ha, .inr (3, [.ref hr_, .ref hz_, .int (nI nx), .int (nI h.length)])), (hr_, .inl (g.2.1, 1536, .inl fr)), (hz_, .inl (g.2.1, 6, .inl fz))] H := by rw [← e9]; exact hP
          have hD : va_D A [(b0, .inr (10, [.ref sa, .ref qa, .ref da, .ref ka, .ref o, .ref ca, .ref pa, .ref ha, .ref na, .ref ta, .ref ua])), (sa, .inr (6, [.int (nI k), .int (nI n), .int (nI B), .int (nI T)])), (qa, .inr (9, [.ref qb, .int (nI s.length)])), (qb, .inl (g.2.1, 256, .inl f)), (da, .inr (9, [.ref db, .int (nI ((comL k s s.length 0).length))])), (db, .inl (g.2.1, 256, .inl fd1)), (ha, .inr (3, [.ref hr_, .ref hz_, .int (nI nx), .int (nI h.length)])), (hr_, .inl (g.2.1, 1536, .inl fr)), (hz_, .inl (g.2.1, 6, .inl fz))] := by rw [← e9]; exact hD
          refine lv_aload_n X.1 X.2.1 dX11_complement_61 rfl (lv_at hl 2 rfl) ?_
          refine (b_take g b0 sa qa da ka o ca pa ha na ta ua qb s f db (comL k s s.length 0) fd1 hr_ hz_ nx h fr fz (by omega) (by assumption) (by omega) (rep_eq hf1 e9) (hbs) (hbz) (by assumption)).callV (rest := []) (wr := [(sa, .inr (6, [.int (nI k), .int (nI n), .int (nI B), .int (nI T)]))]) X dX11_complement_62 q457 tX11_takeDraft hK hP hD hS hA [0, 2, 3, 4, 5, 6, 7, 8] [1] (by decide) rfl rfl (by decide) (by decide) 0 10 rfl rfl rfl hl ⟨⟨Nat.le_of_ble_eq_true rfl, Nat.le_of_ble_eq_true rfl⟩, Nat.le_of_ble_eq_true rfl, Nat.le_of_ble_eq_true rfl⟩ rfl rfl (Nat.le_of_ble_eq_true rfl) (fun r62 u62 H locs hw62 hP hD hS => ?_)
          obtain ⟨f1_62, fr1_62, fz1_62⟩ := u62
          have hP : PP g [(sa, .inr (6, [.int (nI k), .int (nI n), .int (nI B), .int (nI T)])), (b0, .inr (10, [.ref sa, .ref qa, .ref da, .ref ka, .ref o, .ref ca, .ref pa, .ref ha, .ref na, .ref ta, .ref ua])), (qa, .inr (9, [.ref qb, .int (nI ((comL k s s.length 0).length))])), (qb, .inl (g.2.1, 256, .inl f1_62)), (da, .inr (9, [.ref db, .int (nI ((comL k s s.length 0).length))])), (db, .inl (g.2.1, 256, .inl fd1)), (ha, .inr (3, [.ref hr_, .ref hz_, .int (nI ((nx + 1) % 6)), .int (nI (((s :: h).take 6).length))])), (hr_, .inl (g.2.1, 1536, .inl fr1_62)), (hz_, .inl (g.2.1, 6, .inl fz1_62))] H := hP
          have hD : va_D A [(sa, .inr (6, [.int (nI k), .int (nI n), .int (nI B), .int (nI T)])), (b0, .inr (10, [.ref sa, .ref qa, .ref da, .ref ka, .ref o, .ref ca, .ref pa, .ref ha, .ref na, .ref ta, .ref ua])), (qa, .inr (9, [.ref qb, .int (nI ((comL k s s.length 0).length))])), (qb, .inl (g.2.1, 256, .inl f1_62)), (da, .inr (9, [.ref db, .int (nI ((comL k s s.length 0).length))])), (db, .inl (g.2.1, 256, .inl fd1)), (ha, .inr (3, [.ref hr_, .ref hz_, .int (nI ((nx + 1) % 6)), .int (nI (((s :: h).take 6).length))])), (hr_, .inl (g.2.1, 1536, .inl fr1_62)), (hz_, .inl (g.2.1, 6, .inl fz1_62))] := hD
          try dsimp only at hw62
          refine tp_i (y := (bI (!(sameB (comL k s s.length 0) s)))) (hw62.1) ?_
          refine lv_pop X.1 X.2.1 dX11_complement_65 rfl ?_
          refine lv_aload_n X.1 X.2.1 dX11_complement_66 rfl (lv_at hl 2 rfl) ?_
          refine va_get (D := g.1) (ci := 10) (v := .ref qa) (C := RX11) (T := TX11) (N := 11) X.1 X.2.1 X.2.2.2.2 iwX11 X.2.2.2.1 hK hP 1 rfl rfl 1 (by decide) (X.2.2.2.2 _ q237) (fun _ h9 => h9) rfl dX11_complement_67 ?_
          refine lv_iconst (v := (nI 0)) X.1 X.2.1 dX11_complement_70 (by decide) ?_
          refine (c_Word_atN g qa qb (comL k s s.length 0) f1_62 0 (by omega) (hw62.2.1) (by omega)).callV (rest := []) X dX11_complement_71 q332 tX10_at hK (hP.sub [2, 3] rfl) 0 9 rfl rfl rfl hl ⟨⟨Nat.le_of_ble_eq_true rfl, Nat.le_of_ble_eq_true rfl⟩, Nat.le_of_ble_eq_true rfl, Nat.le_of_ble_eq_true rfl⟩ rfl rfl (Nat.le_of_ble_eq_true rfl) ?_
          exact MuI.ret X hr hlk hK hS dX11_complement_74 (nI_nar _) (f1_62, fd1, fr1_62, fz1_62) (hP.sub [1, 0, 2, 3, 4, 5, 6, 7, 8] rfl) (hD.sub [1, 0, 2, 3, 4, 5, 6, 7, 8] (by decide) rfl) (⟨rfl, hw62.2.1, hw62.2.2⟩)
        · exfalso; omega
      | succ r ih25 =>
        intro i s1 fd1 hr1 hl1 hq hf1 H locs hP hD hS ls hl
        refine lv_iload_n X.1 X.2.1 dX11_complement_25 rfl (lv_at hl 0 rfl) ?_
        refine lv_iload_n X.1 X.2.1 dX11_complement_26 rfl (lv_at hl 1 rfl) ?_
        refine z_icmp_ge (tgt := 61) X dX11_complement_27 (by decide) (nI_toInt (by omega)) (nI_toInt (by omega)) (fun c27 => ?_) (fun c27 => ?_)
        · exfalso; omega
        · refine lv_aload_n X.1 X.2.1 dX11_complement_30 rfl (lv_at hl 2 rfl) ?_
          refine va_get (D := g.1) (ci := 10) (v := .ref da) (C := RX11) (T := TX11) (N := 11) X.1 X.2.1 X.2.2.2.2 iwX11 X.2.2.2.1 hK hP 0 rfl rfl 2 (by decide) (X.2.2.2.2 _ q238) (fun _ h9 => h9) rfl dX11_complement_31 ?_
          refine lv_aload_n X.1 X.2.1 dX11_complement_34 rfl (lv_at hl 2 rfl) ?_
          refine va_get (D := g.1) (ci := 10) (v := .ref sa) (C := RX11) (T := TX11) (N := 11) X.1 X.2.1 X.2.2.2.2 iwX11 X.2.2.2.1 hK hP 0 rfl rfl 0 (by decide) (X.2.2.2.2 _ q236) (fun _ h9 => h9) rfl dX11_complement_35 ?_
          refine (c_sh_k g sa k n B T).callV (rest := [.ref da]) X dX11_complement_38 q308 tX6_letterTotal hK (hP.sub [1] rfl) 0 6 rfl rfl rfl hl ⟨⟨Nat.le_of_ble_eq_true rfl, Nat.le_of_ble_eq_true rfl⟩, Nat.le_of_ble_eq_true rfl, Nat.le_of_ble_eq_true rfl⟩ rfl rfl (Nat.le_of_ble_eq_true rfl) ?_
          refine lv_iconst (v := (nI 1)) X.1 X.2.1 dX11_complement_41 (by decide) ?_
          refine n_sub X dX11_complement_42 (by omega) ?_
          refine lv_aload_n X.1 X.2.1 dX11_complement_43 rfl (lv_at hl 2 rfl) ?_
          refine va_get (D := g.1) (ci := 10) (v := .ref qa) (C := RX11) (T := TX11) (N := 11) X.1 X.2.1 X.2.2.2.2 iwX11 X.2.2.2.1 hK hP 0 rfl rfl 1 (by decide) (X.2.2.2.2 _ q237) (fun _ h9 => h9) rfl dX11_complement_44 ?_
          refine lv_iload_n X.1 X.2.1 dX11_complement_47 rfl (lv_at hl 0 rfl) ?_
          refine (c_Word_atN g qa qb s f i (by omega) (by assumption) (by omega)).callV (rest := [.int (nI (k - 1)), .ref da]) X dX11_complement_48 q332 tX10_at hK (hP.sub [2, 3] rfl) 0 9 rfl rfl rfl hl ⟨⟨Nat.le_of_ble_eq_true rfl, Nat.le_of_ble_eq_true rfl⟩, Nat.le_of_ble_eq_true rfl, Nat.le_of_ble_eq_true rfl⟩ rfl rfl (Nat.le_of_ble_eq_true rfl) ?_
          have hsk := ltk_at hlt (by omega) i
          refine n_sub X dX11_complement_51 (by omega) ?_
          refine (c_Word_add g da db s1 fd1 ((k - 1) - (s.getD i 0)) (by omega) (by assumption)).callV (rest := []) (wr := [(b0, .inr (10, [.ref sa, .ref qa, .ref da, .ref ka, .ref o, .ref ca, .ref pa, .ref ha, .ref na, .ref ta, .ref ua])), (sa, .inr (6, [.int (nI k), .int (nI n), .int (nI B), .int (nI T)])), (qa, .inr (9, [.ref qb, .int (nI s.length)])), (qb, .inl (g.2.1, 256, .inl f)), (ha, .inr (3, [.ref hr_, .ref hz_, .int (nI nx), .int (nI h.length)])), (hr_, .inl (g.2.1, 1536, .inl fr)), (hz_, .inl (g.2.1, 6, .inl fz))]) X dX11_complement_52 q612 tX10_add hK hP hD hS hA [4, 5] [0, 1, 2, 3, 6, 7, 8] (by decide) rfl rfl (by decide) (by decide) 0 9 rfl rfl rfl hl ⟨⟨Nat.le_of_ble_eq_true rfl, Nat.le_of_ble_eq_true rfl⟩, Nat.le_of_ble_eq_true rfl, Nat.le_of_ble_eq_true rfl⟩ rfl rfl (Nat.le_of_ble_eq_true rfl) (fun u52 H locs hw52 hP hD hS => ?_)
          obtain ⟨f1_52, rfl⟩ : ∃ z, z = u52 := ⟨_, rfl⟩
          have hP : PP g [(b0, .inr (10, [.ref sa, .ref qa, .ref da, .ref ka, .ref o, .ref ca, .ref pa, .ref ha, .ref na, .ref ta, .ref ua])), (sa, .inr (6, [.int (nI k), .int (nI n), .int (nI B), .int (nI T)])), (qa, .inr (9, [.ref qb, .int (nI s.length)])), (qb, .inl (g.2.1, 256, .inl f)), (ha, .inr (3, [.ref hr_, .ref hz_, .int (nI nx), .int (nI h.length)])), (hr_, .inl (g.2.1, 1536, .inl fr)), (hz_, .inl (g.2.1, 6, .inl fz)), (da, .inr (9, [.ref db, .int (nI ((s1 ++ [((k - 1) - (s.getD i 0))]).length))])), (db, .inl (g.2.1, 256, .inl f1_52))] H := hP
          have hD : va_D A [(b0, .inr (10, [.ref sa, .ref qa, .ref da, .ref ka, .ref o, .ref ca, .ref pa, .ref ha, .ref na, .ref ta, .ref ua])), (sa, .inr (6, [.int (nI k), .int (nI n), .int (nI B), .int (nI T)])), (qa, .inr (9, [.ref qb, .int (nI s.length)])), (qb, .inl (g.2.1, 256, .inl f)), (ha, .inr (3, [.ref hr_, .ref hz_, .int (nI nx), .int (nI h.length)])), (hr_, .inl (g.2.1, 1536, .inl fr)), (hz_, .inl (g.2.1, 6, .inl fz)), (da, .inr (9, [.ref db, .int (nI ((s1 ++ [((k - 1) - (s.getD i 0))]).length))])), (db, .inl (g.2.1, 256, .inl f1_52))] := hD
          try dsimp only at hw52
          refine lv_iinc (v := (nI (i + 1))) (lv' := [(2, .int (nI (i + 1))), (1, .int (nI s.length)), (0, .ref b0)]) X.1 X.2.1 dX11_complement_55 hl (k := 0) rfl (nI_inc _) (by decide) rfl (fun ls hl => ?_)
          refine lv_goto (tgt := 25) X.1 X.2.1 dX11_complement_58 (by decide) ?_
          exact ih25 (i + 1) (s1 ++ [k - 1 - s.getD i 0]) f1_52 (by omega) (by simp; omega) (by rw [comL] at hq; simpa using hq) (hw52) _ _ (hP.sub [0, 1, 2, 3, 7, 8, 4, 5, 6] rfl) (hD.sub [0, 1, 2, 3, 7, 8, 4, 5, 6] (by decide) rfl) hS ls (lv_sub hl [0, 1, 2] rfl)
    exact L25 s.length 0 ([] : List Nat) f1_20 (by omega) (rfl) (rfl) (hw20.2) _ _ (hP.sub [0, 1, 2, 3, 7, 8, 4, 5, 6] rfl) (hD.sub [0, 1, 2, 3, 7, 8, 4, 5, 6] (by decide) rfl) hS ls (lv_sub hl [0, 1, 2] rfl)
  · exfalso; omega

set_option maxHeartbeats 4000000 in
set_option maxRecDepth 100000 in
theorem b_cut_ok (g : G5) (b0 : Nat) (sa : Nat) (qa : Nat) (da : Nat) (ka : Nat) (o : Nat) (ca : Nat) (pa : Nat) (ha : Nat) (na : Nat) (ta : Nat) (ua : Nat) (k : Nat) (n : Nat) (B : Nat) (T : Nat) (qb : Nat) (s : List Nat) (f : Nat → Int32) (db : Nat) (z : List Nat) (fd : Nat → Int32) (hr_ : Nat) (hz_ : Nat) (nx : Nat) (h : List (List Nat)) (fr : Nat → Int32) (fz : Nat → Int32) (i : Nat) (j : Nat) (hc : shp k n B T) (hs : s.length ≤ 256) (hf : rep f s) (hlt : ltk k s) (hh : hrep nx fr fz h) (hi : i < s.length) (hj1 : 1 ≤ j) (hj : j < s.length) (hrp : repB s i (i + j) (n - 1) = true) : MuI (S := (Nat → Int32) × (Nat → Int32) × (Nat → Int32) × (Nat → Int32)) yX11_cut cX11_cut 3 (some .int) 4 105 g [.ref b0, .int (nI i), .int (nI j)] [(b0, .inr (10, [.ref sa, .ref qa, .ref da, .ref ka, .ref o, .ref ca, .ref pa, .ref ha, .ref na, .ref ta, .ref ua])), (sa, .inr (6, [.int (nI k), .int (nI n), .int (nI B), .int (nI T)])), (qa, .inr (9, [.ref qb, .int (nI s.length)])), (qb, .inl (g.2.1, 256, .inl f)), (da, .inr (9, [.ref db, .int (nI z.length)])), (db, .inl (g.2.1, 256, .inl fd)), (ha, .inr (3, [.ref hr_, .ref hz_, .int (nI nx), .int (nI h.length)])), (hr_, .inl (g.2.1, 1536, .inl fr)), (hz_, .inl (g.2.1, 6, .inl fz))] (fun r u => r = (nI ((partL s (i + j) (s.length - j) 0).length)) ∧ rep u.1 (partL s (i + j) (s.length - j) 0) ∧ hrep ((nx + 1) % 6) u.2.2.1 u.2.2.2 ((s :: h).take 6)) (fun u => [(b0, .inr (10, [.ref sa, .ref qa, .ref da, .ref ka, .ref o, .ref ca, .ref pa, .ref ha, .ref na, .ref ta, .ref ua])), (sa, .inr (6, [.int (nI k), .int (nI n), .int (nI B), .int (nI T)])), (qa, .inr (9, [.ref qb, .int (nI ((partL s (i + j) (s.length - j) 0).length))])), (qb, .inl (g.2.1, 256, .inl u.1)), (da, .inr (9, [.ref db, .int (nI ((partL s (i + j) (s.length - j) 0).length))])), (db, .inl (g.2.1, 256, .inl u.2.1)), (ha, .inr (3, [.ref hr_, .ref hz_, .int (nI ((nx + 1) % 6)), .int (nI (((s :: h).take 6).length))])), (hr_, .inl (g.2.1, 1536, .inl u.2.2.1)), (hz_, .inl (g.2.1, 6, .inl u.2.2.2))]) := by
  refine MuI.of (by decide +kernel) (Nat.le_of_ble_eq_true rfl) ?_
  intro p_ l_ e_ S_ m_ args below meth co X hr hlk hP hK A hA hD hS ls hl
  have X : CallFix p_ m_ co cX11_cut 3 S_ args lw_all RX11 := X
  have hl : lv_has ls 3 [(0, .ref b0), (1, .int (nI i)), (2, .int (nI j))] := hl
  obtain ⟨hk2, hk4, hn1, hn6, hB, hT, hBT, hT2⟩ := hc.f
  have hB0 : 0 < B := by rw [hBT]; exact Nat.mul_pos (by omega) (by omega)
  have hbs := hlt.bd hk4
  have h7 : hasB (nI i) s.length = true := by rw [hasB_N (by omega)]; exact decide_eq_true hi
  have h8 : cutB s (nI j) = true := by unfold cutB; rw [nI_toInt (by omega)]; exact decide_eq_true (by omega)
  have hbz := (ltk_part hlt (by omega) (i + j) (s.length - j) 0).bd hk4
  have hlz := partL_len s (i + j) (s.length - j) 0
  refine lv_aload_n X.1 X.2.1 dX11_cut_0 rfl (lv_at hl 0 rfl) ?_
  refine va_get (D := g.1) (ci := 10) (v := .ref qa) (C := RX11) (T := TX11) (N := 11) X.1 X.2.1 X.2.2.2.2 iwX11 X.2.2.2.1 hK hP 0 rfl rfl 1 (by decide) (X.2.2.2.2 _ q237) (fun _ h9 => h9) rfl dX11_cut_1 ?_
  refine lv_iload_n X.1 X.2.1 dX11_cut_4 rfl (lv_at hl 1 rfl) ?_
  refine (c_Word_has g qa qb s f (nI i) (by omega)).callV (rest := []) X dX11_cut_5 q598 tX10_has hK (hP.sub [2, 3] rfl) 0 9 rfl rfl rfl hl ⟨⟨Nat.le_of_ble_eq_true rfl, Nat.le_of_ble_eq_true rfl⟩, Nat.le_of_ble_eq_true rfl, Nat.le_of_ble_eq_true rfl⟩ rfl rfl (Nat.le_of_ble_eq_true rfl) ?_
  refine b_if_ne (tgt := 14) X dX11_cut_8 (by decide) (fun c8 => ?_) (fun c8 => ?_)
  · refine lv_aload_n X.1 X.2.1 dX11_cut_14 rfl (lv_at hl 0 rfl) ?_
    refine lv_iload_n X.1 X.2.1 dX11_cut_15 rfl (lv_at hl 2 rfl) ?_
    refine (b_isCutCount g b0 sa qa da ka o ca pa ha na ta ua qb s f (nI j) (by omega)).callV (rest := []) X dX11_cut_16 q642 tX11_isCutCount hK (hP.sub [0, 2, 3] rfl) 0 10 rfl rfl rfl hl ⟨⟨Nat.le_of_ble_eq_true rfl, Nat.le_of_ble_eq_true rfl⟩, Nat.le_of_ble_eq_true rfl, Nat.le_of_ble_eq_true rfl⟩ rfl rfl (Nat.le_of_ble_eq_true rfl) ?_
    refine b_if_ne (tgt := 24) X dX11_cut_19 (by decide) (fun c19 => ?_) (fun c19 => ?_)
    · refine lv_aload_n X.1 X.2.1 dX11_cut_24 rfl (lv_at hl 0 rfl) ?_
      refine lv_iload_n X.1 X.2.1 dX11_cut_25 rfl (lv_at hl 1 rfl) ?_
      refine lv_iload_n X.1 X.2.1 dX11_cut_26 rfl (lv_at hl 2 rfl) ?_
      refine (b_canCut g b0 sa qa da ka o ca pa ha na ta ua k n B T qb s f i j (by assumption) (by omega) (by assumption) (hbs) (by omega) (by omega) (by omega)).callV (rest := []) X dX11_cut_27 q646 tX11_canCut hK (hP.sub [0, 1, 2, 3] rfl) 0 10 rfl rfl rfl hl ⟨⟨Nat.le_of_ble_eq_true rfl, Nat.le_of_ble_eq_true rfl⟩, Nat.le_of_ble_eq_true rfl, Nat.le_of_ble_eq_true rfl⟩ rfl rfl (Nat.le_of_ble_eq_true rfl) ?_
      refine b_if_ne (tgt := 36) X dX11_cut_30 (by decide) (fun c30 => ?_) (fun c30 => ?_)
      · refine lv_aload_n X.1 X.2.1 dX11_cut_36 rfl (lv_at hl 0 rfl) ?_
        refine va_get (D := g.1) (ci := 10) (v := .ref da) (C := RX11) (T := TX11) (N := 11) X.1 X.2.1 X.2.2.2.2 iwX11 X.2.2.2.1 hK hP 0 rfl rfl 2 (by decide) (X.2.2.2.2 _ q238) (fun _ h9 => h9) rfl dX11_cut_37 ?_
        refine (c_Word_clear g da db z fd).callV (rest := []) (wr := [(b0, .inr (10, [.ref sa, .ref qa, .ref da, .ref ka, .ref o, .ref ca, .ref pa, .ref ha, .ref na, .ref ta, .ref ua])), (sa, .inr (6, [.int (nI k), .int (nI n), .int (nI B), .int (nI T)])), (qa, .inr (9, [.ref qb, .int (nI s.length)])), (qb, .inl (g.2.1, 256, .inl f)), (ha, .inr (3, [.ref hr_, .ref hz_, .int (nI nx), .int (nI h.length)])), (hr_, .inl (g.2.1, 1536, .inl fr)), (hz_, .inl (g.2.1, 6, .inl fz))]) X dX11_cut_40 q284 tX10_clear hK hP hD hS hA [4, 5] [0, 1, 2, 3, 6, 7, 8] (by decide) rfl rfl (by decide) (by decide) 0 9 rfl rfl rfl hl ⟨⟨Nat.le_of_ble_eq_true rfl, Nat.le_of_ble_eq_true rfl⟩, Nat.le_of_ble_eq_true rfl, Nat.le_of_ble_eq_true rfl⟩ rfl rfl (Nat.le_of_ble_eq_true rfl) (fun u40 H locs hw40 hP hD hS => ?_)
        obtain ⟨f1_40, rfl⟩ : ∃ z, z = u40 := ⟨_, rfl⟩
        have hP : PP g [(b0, .inr (10, [.ref sa, .ref qa, .ref da, .ref ka, .ref o, .ref ca, .ref pa, .ref ha, .ref na, .ref ta, .ref ua])), (sa, .inr (6, [.int (nI k), .int (nI n), .int (nI B), .int (nI T)])), (qa, .inr (9, [.ref qb, .int (nI s.length)])), (qb, .inl (g.2.1, 256, .inl f)), (ha, .inr (3, [.ref hr_, .ref hz_, .int (nI nx), .int (nI h.length)])), (hr_, .inl (g.2.1, 1536, .inl fr)), (hz_, .inl (g.2.1, 6, .inl fz)), (da, .inr (9, [.ref db, .int (nI (([] : List Nat).length))])), (db, .inl (g.2.1, 256, .inl f1_40))] H := hP
        have hD : va_D A [(b0, .inr (10, [.ref sa, .ref qa, .ref da, .ref ka, .ref o, .ref ca, .ref pa, .ref ha, .ref na, .ref ta, .ref ua])), (sa, .inr (6, [.int (nI k), .int (nI n), .int (nI B), .int (nI T)])), (qa, .inr (9, [.ref qb, .int (nI s.length)])), (qb, .inl (g.2.1, 256, .inl f)), (ha, .inr (3, [.ref hr_, .ref hz_, .int (nI nx), .int (nI h.length)])), (hr_, .inl (g.2.1, 1536, .inl fr)), (hz_, .inl (g.2.1, 6, .inl fz)), (da, .inr (9, [.ref db, .int (nI (([] : List Nat).length))])), (db, .inl (g.2.1, 256, .inl f1_40))] := hD
        try dsimp only at hw40
        refine lv_aload_n X.1 X.2.1 dX11_cut_43 rfl (lv_at hl 0 rfl) ?_
        refine va_get (D := g.1) (ci := 10) (v := .ref da) (C := RX11) (T := TX11) (N := 11) X.1 X.2.1 X.2.2.2.2 iwX11 X.2.2.2.1 hK hP 0 rfl rfl 2 (by decide) (X.2.2.2.2 _ q238) (fun _ h9 => h9) rfl dX11_cut_44 ?_
        refine lv_aload_n X.1 X.2.1 dX11_cut_47 rfl (lv_at hl 0 rfl) ?_
        refine va_get (D := g.1) (ci := 10) (v := .ref qa) (C := RX11) (T := TX11) (N := 11) X.1 X.2.1 X.2.2.2.2 iwX11 X.2.2.2.1 hK hP 0 rfl rfl 1 (by decide) (X.2.2.2.2 _ q237) (fun _ h9 => h9) rfl dX11_cut_48 ?_
        refine lv_iload_n X.1 X.2.1 dX11_cut_51 rfl (lv_at hl 1 rfl) ?_
        refine lv_iload_n X.1 X.2.1 dX11_cut_52 rfl (lv_at hl 2 rfl) ?_
        refine n_add X dX11_cut_53 ?_
        refine lv_aload_n X.1 X.2.1 dX11_cut_54 rfl (lv_at hl 0 rfl) ?_
        refine va_get (D := g.1) (ci := 10) (v := .ref qa) (C := RX11) (T := TX11) (N := 11) X.1 X.2.1 X.2.2.2.2 iwX11 X.2.2.2.1 hK hP 0 rfl rfl 1 (by decide) (X.2.2.2.2 _ q237) (fun _ h9 => h9) rfl dX11_cut_55 ?_
        refine (c_Word_size g qa qb s f).callV (rest := [.int (nI (i + j)), .ref qa, .ref da]) X dX11_cut_58 q324 tX10_size hK (hP.sub [2, 3] rfl) 0 9 rfl rfl rfl hl ⟨⟨Nat.le_of_ble_eq_true rfl, Nat.le_of_ble_eq_true rfl⟩, Nat.le_of_ble_eq_true rfl, Nat.le_of_ble_eq_true rfl⟩ rfl rfl (Nat.le_of_ble_eq_true rfl) ?_
        refine lv_iload_n X.1 X.2.1 dX11_cut_61 rfl (lv_at hl 2 rfl) ?_
        refine n_sub X dX11_cut_62 (by omega) ?_
        refine (c_Word_addPart g da db ([] : List Nat) f1_40 qa qb s f (i + j) (s.length - j) (hw40.2) (by omega) (by assumption) (by omega) (by omega) (by rw [List.length_nil]; omega)).callV (rest := []) (wr := [(b0, .inr (10, [.ref sa, .ref qa, .ref da, .ref ka, .ref o, .ref ca, .ref pa, .ref ha, .ref na, .ref ta, .ref ua])), (sa, .inr (6, [.int (nI k), .int (nI n), .int (nI B), .int (nI T)])), (ha, .inr (3, [.ref hr_, .ref hz_, .int (nI nx), .int (nI h.length)])), (hr_, .inl (g.2.1, 1536, .inl fr)), (hz_, .inl (g.2.1, 6, .inl fz))]) X dX11_cut_63 q620 tX10_addPart hK hP hD hS hA [7, 8, 2, 3] [0, 1, 4, 5, 6] (by decide) rfl rfl (by decide) (by decide) 0 9 rfl rfl rfl hl ⟨⟨Nat.le_of_ble_eq_true rfl, Nat.le_of_ble_eq_true rfl⟩, Nat.le_of_ble_eq_true rfl, Nat.le_of_ble_eq_true rfl⟩ rfl rfl (Nat.le_of_ble_eq_true rfl) (fun u63 H locs hw63 hP hD hS => ?_)
        obtain ⟨f1_63, rfl⟩ : ∃ z, z = u63 := ⟨_, rfl⟩
        have hP : PP g [(b0, .inr (10, [.ref sa, .ref qa, .ref da, .ref ka, .ref o, .ref ca, .ref pa, .ref ha, .ref na, .ref ta, .ref ua])), (sa, .inr (6, [.int (nI k), .int (nI n), .int (nI B), .int (nI T)])), (ha, .inr (3, [.ref hr_, .ref hz_, .int (nI nx), .int (nI h.length)])), (hr_, .inl (g.2.1, 1536, .inl fr)), (hz_, .inl (g.2.1, 6, .inl fz)), (da, .inr (9, [.ref db, .int (nI ((([] : List Nat) ++ partL s (i + j) (s.length - j) 0).length))])), (db, .inl (g.2.1, 256, .inl f1_63)), (qa, .inr (9, [.ref qb, .int (nI s.length)])), (qb, .inl (g.2.1, 256, .inl f))] H := hP
        have hD : va_D A [(b0, .inr (10, [.ref sa, .ref qa, .ref da, .ref ka, .ref o, .ref ca, .ref pa, .ref ha, .ref na, .ref ta, .ref ua])), (sa, .inr (6, [.int (nI k), .int (nI n), .int (nI B), .int (nI T)])), (ha, .inr (3, [.ref hr_, .ref hz_, .int (nI nx), .int (nI h.length)])), (hr_, .inl (g.2.1, 1536, .inl fr)), (hz_, .inl (g.2.1, 6, .inl fz)), (da, .inr (9, [.ref db, .int (nI ((([] : List Nat) ++ partL s (i + j) (s.length - j) 0).length))])), (db, .inl (g.2.1, 256, .inl f1_63)), (qa, .inr (9, [.ref qb, .int (nI s.length)])), (qb, .inl (g.2.1, 256, .inl f))] := hD
        try dsimp only at hw63
        have hP : PP g [(b0, .inr (10, [.ref sa, .ref qa, .ref da, .ref ka, .ref o, .ref ca, .ref pa, .ref ha, .ref na, .ref ta, .ref ua])), (sa, .inr (6, [.int (nI k), .int (nI n), .int (nI B), .int (nI T)])), (ha, .inr (3, [.ref hr_, .ref hz_, .int (nI nx), .int (nI h.length)])), (hr_, .inl (g.2.1, 1536, .inl fr)), (hz_, .inl (g.2.1, 6, .inl fz)), (da, .inr (9, [.ref db, .int (nI ((partL s (i + j) (s.length - j) 0).length))])), (db, .inl (g.2.1, 256, .inl f1_63)), (qa, .inr (9, [.ref qb, .int (nI s.length)])), (qb, .inl (g.2.1, 256, .inl f))] H := by simpa only [List.nil_append] using hP
        have hD : va_D A [(b0, .inr (10, [.ref sa, .ref qa, .ref da, .ref ka, .ref o, .ref ca, .ref pa, .ref ha, .ref na, .ref ta, .ref ua])), (sa, .inr (6, [.int (nI k), .int (nI n), .int (nI B), .int (nI T)])), (ha, .inr (3, [.ref hr_, .ref hz_, .int (nI nx), .int (nI h.length)])), (hr_, .inl (g.2.1, 1536, .inl fr)), (hz_, .inl (g.2.1, 6, .inl fz)), (da, .inr (9, [.ref db, .int (nI ((partL s (i + j) (s.length - j) 0).length))])), (db, .inl (g.2.1, 256, .inl f1_63)), (qa, .inr (9, [.ref qb, .int (nI s.length)])), (qb, .inl (g.2.1, 256, .inl f))] := by simpa only [List.nil_append] using hD
        refine lv_aload_n X.1 X.2.1 dX11_cut_66 rfl (lv_at hl 0 rfl) ?_
        refine (b_take g b0 sa qa da ka o ca pa ha na ta ua qb s f db (partL s (i + j) (s.length - j) 0) f1_63 hr_ hz_ nx h fr fz (by omega) (by assumption) (by omega) (rep_eq hw63 (List.nil_append _)) (hbs) (hbz) (by assumption)).callV (rest := []) (wr := [(sa, .inr (6, [.int (nI k), .int (nI n), .int (nI B), .int (nI T)]))]) X dX11_cut_67 q457 tX11_takeDraft hK hP hD hS hA [0, 7, 8, 5, 6, 2, 3, 4] [1] (by decide) rfl rfl (by decide) (by decide) 0 10 rfl rfl rfl hl ⟨⟨Nat.le_of_ble_eq_true rfl, Nat.le_of_ble_eq_true rfl⟩, Nat.le_of_ble_eq_true rfl, Nat.le_of_ble_eq_true rfl⟩ rfl rfl (Nat.le_of_ble_eq_true rfl) (fun r67 u67 H locs hw67 hP hD hS => ?_)
        obtain ⟨f1_67, fr1_67, fz1_67⟩ := u67
        have hP : PP g [(sa, .inr (6, [.int (nI k), .int (nI n), .int (nI B), .int (nI T)])), (b0, .inr (10, [.ref sa, .ref qa, .ref da, .ref ka, .ref o, .ref ca, .ref pa, .ref ha, .ref na, .ref ta, .ref ua])), (qa, .inr (9, [.ref qb, .int (nI ((partL s (i + j) (s.length - j) 0).length))])), (qb, .inl (g.2.1, 256, .inl f1_67)), (da, .inr (9, [.ref db, .int (nI ((partL s (i + j) (s.length - j) 0).length))])), (db, .inl (g.2.1, 256, .inl f1_63)), (ha, .inr (3, [.ref hr_, .ref hz_, .int (nI ((nx + 1) % 6)), .int (nI (((s :: h).take 6).length))])), (hr_, .inl (g.2.1, 1536, .inl fr1_67)), (hz_, .inl (g.2.1, 6, .inl fz1_67))] H := hP
        have hD : va_D A [(sa, .inr (6, [.int (nI k), .int (nI n), .int (nI B), .int (nI T)])), (b0, .inr (10, [.ref sa, .ref qa, .ref da, .ref ka, .ref o, .ref ca, .ref pa, .ref ha, .ref na, .ref ta, .ref ua])), (qa, .inr (9, [.ref qb, .int (nI ((partL s (i + j) (s.length - j) 0).length))])), (qb, .inl (g.2.1, 256, .inl f1_67)), (da, .inr (9, [.ref db, .int (nI ((partL s (i + j) (s.length - j) 0).length))])), (db, .inl (g.2.1, 256, .inl f1_63)), (ha, .inr (3, [.ref hr_, .ref hz_, .int (nI ((nx + 1) % 6)), .int (nI (((s :: h).take 6).length))])), (hr_, .inl (g.2.1, 1536, .inl fr1_67)), (hz_, .inl (g.2.1, 6, .inl fz1_67))] := hD
        try dsimp only at hw67
        refine tp_i (y := (bI (!(sameB (partL s (i + j) (s.length - j) 0) s)))) (hw67.1) ?_
        refine lv_pop X.1 X.2.1 dX11_cut_70 rfl ?_
        refine lv_aload_n X.1 X.2.1 dX11_cut_71 rfl (lv_at hl 0 rfl) ?_
        refine va_get (D := g.1) (ci := 10) (v := .ref qa) (C := RX11) (T := TX11) (N := 11) X.1 X.2.1 X.2.2.2.2 iwX11 X.2.2.2.1 hK hP 1 rfl rfl 1 (by decide) (X.2.2.2.2 _ q237) (fun _ h9 => h9) rfl dX11_cut_72 ?_
        refine (c_Word_size g qa qb (partL s (i + j) (s.length - j) 0) f1_67).callV (rest := []) X dX11_cut_75 q324 tX10_size hK (hP.sub [2, 3] rfl) 0 9 rfl rfl rfl hl ⟨⟨Nat.le_of_ble_eq_true rfl, Nat.le_of_ble_eq_true rfl⟩, Nat.le_of_ble_eq_true rfl, Nat.le_of_ble_eq_true rfl⟩ rfl rfl (Nat.le_of_ble_eq_true rfl) ?_
        exact MuI.ret X hr hlk hK hS dX11_cut_78 (nI_nar _) (f1_67, f1_63, fr1_67, fz1_67) (hP.sub [1, 0, 2, 3, 4, 5, 6, 7, 8] rfl) (hD.sub [1, 0, 2, 3, 4, 5, 6, 7, 8] (by decide) rfl) (⟨rfl, hw67.2.1, hw67.2.2⟩)
      · exfalso; rw [hrp] at c30; cases c30
    · exfalso; rw [h8] at c19; cases c19
  · exfalso; rw [h7] at c8; cases c8

set_option maxHeartbeats 4000000 in
set_option maxRecDepth 100000 in
theorem b_cut_no1 (g : G5) (b0 : Nat) (sa : Nat) (qa : Nat) (da : Nat) (ka : Nat) (o : Nat) (ca : Nat) (pa : Nat) (ha : Nat) (na : Nat) (ta : Nat) (ua : Nat) (k : Nat) (n : Nat) (B : Nat) (T : Nat) (qb : Nat) (s : List Nat) (f : Nat → Int32) (x : Int32) (y : Int32) (hc : shp k n B T) (hs : s.length ≤ 256) (hno : (hasB x s.length && cutB s y) = false) : PuI yX11_cut cX11_cut 3 (some .int) 4 105 g [.ref b0, .int x, .int y] [(b0, .inr (10, [.ref sa, .ref qa, .ref da, .ref ka, .ref o, .ref ca, .ref pa, .ref ha, .ref na, .ref ta, .ref ua])), (sa, .inr (6, [.int (nI k), .int (nI n), .int (nI B), .int (nI T)])), (qa, .inr (9, [.ref qb, .int (nI s.length)])), (qb, .inl (g.2.1, 256, .inl f))] (if hasB x s.length then (-1) else (-2)) := by
  refine PuI.of (by decide +kernel) (Nat.le_of_ble_eq_true rfl) ?_
  intro p_ l_ e_ S_ m_ args below meth co X hr hlk hP hK ls hl
  have X : CallFix p_ m_ co cX11_cut 3 S_ args lw_all RX11 := X
  have hl : lv_has ls 3 [(0, .ref b0), (1, .int x), (2, .int y)] := hl
  refine lv_aload_n X.1 X.2.1 dX11_cut_0 rfl (lv_at hl 0 rfl) ?_
  refine va_get (D := g.1) (ci := 10) (v := .ref qa) (C := RX11) (T := TX11) (N := 11) X.1 X.2.1 X.2.2.2.2 iwX11 X.2.2.2.1 hK hP 0 rfl rfl 1 (by decide) (X.2.2.2.2 _ q237) (fun _ h9 => h9) rfl dX11_cut_1 ?_
  refine lv_iload_n X.1 X.2.1 dX11_cut_4 rfl (lv_at hl 1 rfl) ?_
  refine (c_Word_has g qa qb s f x (by omega)).callV (rest := []) X dX11_cut_5 q598 tX10_has hK (hP.sub [2, 3] rfl) 0 9 rfl rfl rfl hl ⟨⟨Nat.le_of_ble_eq_true rfl, Nat.le_of_ble_eq_true rfl⟩, Nat.le_of_ble_eq_true rfl, Nat.le_of_ble_eq_true rfl⟩ rfl rfl (Nat.le_of_ble_eq_true rfl) ?_
  refine b_if_ne (tgt := 14) X dX11_cut_8 (by decide) (fun c8 => ?_) (fun c8 => ?_)
  · refine lv_aload_n X.1 X.2.1 dX11_cut_14 rfl (lv_at hl 0 rfl) ?_
    refine lv_iload_n X.1 X.2.1 dX11_cut_15 rfl (lv_at hl 2 rfl) ?_
    refine (b_isCutCount g b0 sa qa da ka o ca pa ha na ta ua qb s f y (by omega)).callV (rest := []) X dX11_cut_16 q642 tX11_isCutCount hK (hP.sub [0, 2, 3] rfl) 0 10 rfl rfl rfl hl ⟨⟨Nat.le_of_ble_eq_true rfl, Nat.le_of_ble_eq_true rfl⟩, Nat.le_of_ble_eq_true rfl, Nat.le_of_ble_eq_true rfl⟩ rfl rfl (Nat.le_of_ble_eq_true rfl) ?_
    refine b_if_ne (tgt := 24) X dX11_cut_19 (by decide) (fun c19 => ?_) (fun c19 => ?_)
    · exfalso; rw [c8, c19] at hno; cases hno
    · refine lv_iconst (v := (-1)) X.1 X.2.1 dX11_cut_22 (by decide) ?_
      exact PuI.ret X hr hlk dX11_cut_23 (nI_nar _) (by rw [c8]; rfl)
  · refine lv_bipush (v := (-2)) X.1 X.2.1 dX11_cut_11 (by decide) ?_
    exact PuI.ret X hr hlk dX11_cut_13 (nI_nar _) (by rw [c8]; rfl)

set_option maxHeartbeats 4000000 in
set_option maxRecDepth 100000 in
theorem b_cut_no2 (g : G5) (b0 : Nat) (sa : Nat) (qa : Nat) (da : Nat) (ka : Nat) (o : Nat) (ca : Nat) (pa : Nat) (ha : Nat) (na : Nat) (ta : Nat) (ua : Nat) (k : Nat) (n : Nat) (B : Nat) (T : Nat) (qb : Nat) (s : List Nat) (f : Nat → Int32) (i : Nat) (j : Nat) (hc : shp k n B T) (hs : s.length ≤ 256) (hf : rep f s) (hlt : ltk k s) (hi : i < s.length) (hj1 : 1 ≤ j) (hj : j < s.length) (hrp : repB s i (i + j) (n - 1) = false) : PuI yX11_cut cX11_cut 3 (some .int) 4 105 g [.ref b0, .int (nI i), .int (nI j)] [(b0, .inr (10, [.ref sa, .ref qa, .ref da, .ref ka, .ref o, .ref ca, .ref pa, .ref ha, .ref na, .ref ta, .ref ua])), (sa, .inr (6, [.int (nI k), .int (nI n), .int (nI B), .int (nI T)])), (qa, .inr (9, [.ref qb, .int (nI s.length)])), (qb, .inl (g.2.1, 256, .inl f))] (-5) := by
  refine PuI.of (by decide +kernel) (Nat.le_of_ble_eq_true rfl) ?_
  intro p_ l_ e_ S_ m_ args below meth co X hr hlk hP hK ls hl
  have X : CallFix p_ m_ co cX11_cut 3 S_ args lw_all RX11 := X
  have hl : lv_has ls 3 [(0, .ref b0), (1, .int (nI i)), (2, .int (nI j))] := hl
  obtain ⟨hk2, hk4, hn1, hn6, hB, hT, hBT, hT2⟩ := hc.f
  have hB0 : 0 < B := by rw [hBT]; exact Nat.mul_pos (by omega) (by omega)
  have hbs := hlt.bd hk4
  have h7 : hasB (nI i) s.length = true := by rw [hasB_N (by omega)]; exact decide_eq_true hi
  have h8 : cutB s (nI j) = true := by unfold cutB; rw [nI_toInt (by omega)]; exact decide_eq_true (by omega)
  refine lv_aload_n X.1 X.2.1 dX11_cut_0 rfl (lv_at hl 0 rfl) ?_
  refine va_get (D := g.1) (ci := 10) (v := .ref qa) (C := RX11) (T := TX11) (N := 11) X.1 X.2.1 X.2.2.2.2 iwX11 X.2.2.2.1 hK hP 0 rfl rfl 1 (by decide) (X.2.2.2.2 _ q237) (fun _ h9 => h9) rfl dX11_cut_1 ?_
  refine lv_iload_n X.1 X.2.1 dX11_cut_4 rfl (lv_at hl 1 rfl) ?_
  refine (c_Word_has g qa qb s f (nI i) (by omega)).callV (rest := []) X dX11_cut_5 q598 tX10_has hK (hP.sub [2, 3] rfl) 0 9 rfl rfl rfl hl ⟨⟨Nat.le_of_ble_eq_true rfl, Nat.le_of_ble_eq_true rfl⟩, Nat.le_of_ble_eq_true rfl, Nat.le_of_ble_eq_true rfl⟩ rfl rfl (Nat.le_of_ble_eq_true rfl) ?_
  refine b_if_ne (tgt := 14) X dX11_cut_8 (by decide) (fun c8 => ?_) (fun c8 => ?_)
  · refine lv_aload_n X.1 X.2.1 dX11_cut_14 rfl (lv_at hl 0 rfl) ?_
    refine lv_iload_n X.1 X.2.1 dX11_cut_15 rfl (lv_at hl 2 rfl) ?_
    refine (b_isCutCount g b0 sa qa da ka o ca pa ha na ta ua qb s f (nI j) (by omega)).callV (rest := []) X dX11_cut_16 q642 tX11_isCutCount hK (hP.sub [0, 2, 3] rfl) 0 10 rfl rfl rfl hl ⟨⟨Nat.le_of_ble_eq_true rfl, Nat.le_of_ble_eq_true rfl⟩, Nat.le_of_ble_eq_true rfl, Nat.le_of_ble_eq_true rfl⟩ rfl rfl (Nat.le_of_ble_eq_true rfl) ?_
    refine b_if_ne (tgt := 24) X dX11_cut_19 (by decide) (fun c19 => ?_) (fun c19 => ?_)
    · refine lv_aload_n X.1 X.2.1 dX11_cut_24 rfl (lv_at hl 0 rfl) ?_
      refine lv_iload_n X.1 X.2.1 dX11_cut_25 rfl (lv_at hl 1 rfl) ?_
      refine lv_iload_n X.1 X.2.1 dX11_cut_26 rfl (lv_at hl 2 rfl) ?_
      refine (b_canCut g b0 sa qa da ka o ca pa ha na ta ua k n B T qb s f i j (by assumption) (by omega) (by assumption) (hbs) (by omega) (by omega) (by omega)).callV (rest := []) X dX11_cut_27 q646 tX11_canCut hK (hP.sub [0, 1, 2, 3] rfl) 0 10 rfl rfl rfl hl ⟨⟨Nat.le_of_ble_eq_true rfl, Nat.le_of_ble_eq_true rfl⟩, Nat.le_of_ble_eq_true rfl, Nat.le_of_ble_eq_true rfl⟩ rfl rfl (Nat.le_of_ble_eq_true rfl) ?_
      refine b_if_ne (tgt := 36) X dX11_cut_30 (by decide) (fun c30 => ?_) (fun c30 => ?_)
      · exfalso; rw [hrp] at c30; cases c30
      · refine lv_bipush (v := (-5)) X.1 X.2.1 dX11_cut_33 (by decide) ?_
        exact PuI.ret X hr hlk dX11_cut_35 (nI_nar _) (rfl)
    · exfalso; rw [h8] at c19; cases c19
  · exfalso; rw [h7] at c8; cases c8

set_option maxHeartbeats 4000000 in
set_option maxRecDepth 100000 in
theorem b_exchange_ok (g : G5) (b0 : Nat) (sa : Nat) (qa : Nat) (da : Nat) (ka : Nat) (o : Nat) (ca : Nat) (pa : Nat) (ha : Nat) (na : Nat) (ta : Nat) (ua : Nat) (k : Nat) (n : Nat) (B : Nat) (T : Nat) (qb : Nat) (s : List Nat) (f : Nat → Int32) (db : Nat) (z : List Nat) (fd : Nat → Int32) (hr_ : Nat) (hz_ : Nat) (nx : Nat) (h : List (List Nat)) (fr : Nat → Int32) (fz : Nat → Int32) (i1 : Nat) (i2 : Nat) (i3 : Nat) (i4 : Nat) (hc : shp k n B T) (hs : s.length ≤ 256) (hf : rep f s) (hlt : ltk k s) (hh : hrep nx fr fz h) (h12 : i1 < i2) (h23 : i2 < i3) (h34 : i3 < i4) (h4 : i4 < s.length) (r1 : repB s i1 i3 (n - 1) = true) (r2 : repB s i2 i4 (n - 1) = true) : MuI (S := (Nat → Int32) × (Nat → Int32) × (Nat → Int32) × (Nat → Int32)) yX11_exchange cX11_exchange 6 (some .int) 4 105 g [.ref b0, .int (nI i1), .int (nI i2), .int (nI i3), .int (nI i4)] [(b0, .inr (10, [.ref sa, .ref qa, .ref da, .ref ka, .ref o, .ref ca, .ref pa, .ref ha, .ref na, .ref ta, .ref ua])), (sa, .inr (6, [.int (nI k), .int (nI n), .int (nI B), .int (nI T)])), (qa, .inr (9, [.ref qb, .int (nI s.length)])), (qb, .inl (g.2.1, 256, .inl f)), (da, .inr (9, [.ref db, .int (nI z.length)])), (db, .inl (g.2.1, 256, .inl fd)), (ha, .inr (3, [.ref hr_, .ref hz_, .int (nI nx), .int (nI h.length)])), (hr_, .inl (g.2.1, 1536, .inl fr)), (hz_, .inl (g.2.1, 6, .inl fz))] (fun r u => r = (nI (if sameB (excL s i1 i2 i3 i4) s then 0 else 1)) ∧ rep u.1 (excL s i1 i2 i3 i4) ∧ hrep ((nx + 1) % 6) u.2.2.1 u.2.2.2 ((s :: h).take 6)) (fun u => [(b0, .inr (10, [.ref sa, .ref qa, .ref da, .ref ka, .ref o, .ref ca, .ref pa, .ref ha, .ref na, .ref ta, .ref ua])), (sa, .inr (6, [.int (nI k), .int (nI n), .int (nI B), .int (nI T)])), (qa, .inr (9, [.ref qb, .int (nI ((excL s i1 i2 i3 i4).length))])), (qb, .inl (g.2.1, 256, .inl u.1)), (da, .inr (9, [.ref db, .int (nI ((excL s i1 i2 i3 i4).length))])), (db, .inl (g.2.1, 256, .inl u.2.1)), (ha, .inr (3, [.ref hr_, .ref hz_, .int (nI ((nx + 1) % 6)), .int (nI (((s :: h).take 6).length))])), (hr_, .inl (g.2.1, 1536, .inl u.2.2.1)), (hz_, .inl (g.2.1, 6, .inl u.2.2.2))]) := by
  refine MuI.of (by decide +kernel) (Nat.le_of_ble_eq_true rfl) ?_
  intro p_ l_ e_ S_ m_ args below meth co X hr hlk hP hK A hA hD hS ls hl
  have X : CallFix p_ m_ co cX11_exchange 6 S_ args lw_all RX11 := X
  have hl : lv_has ls 6 [(0, .ref b0), (1, .int (nI i1)), (2, .int (nI i2)), (3, .int (nI i3)), (4, .int (nI i4))] := hl
  obtain ⟨hk2, hk4, hn1, hn6, hB, hT, hBT, hT2⟩ := hc.f
  have hB0 : 0 < B := by rw [hBT]; exact Nat.mul_pos (by omega) (by omega)
  have hbs := hlt.bd hk4
  have p1 : hasB (nI i1) s.length = true := by rw [hasB_N (by omega)]; exact decide_eq_true (by omega)
  have p2 : hasB (nI i2) s.length = true := by rw [hasB_N (by omega)]; exact decide_eq_true (by omega)
  have p3 : hasB (nI i3) s.length = true := by rw [hasB_N (by omega)]; exact decide_eq_true (by omega)
  have p4 : hasB (nI i4) s.length = true := by rw [hasB_N (by omega)]; exact decide_eq_true (by omega)
  have hbz := (ltk_exc hlt (by omega) i1 i2 i3 i4).bd hk4
  have hlz := excL_len h12 h23 h34 h4
  refine lv_aload_n X.1 X.2.1 dX11_exchange_0 rfl (lv_at hl 0 rfl) ?_
  refine va_get (D := g.1) (ci := 10) (v := .ref qa) (C := RX11) (T := TX11) (N := 11) X.1 X.2.1 X.2.2.2.2 iwX11 X.2.2.2.1 hK hP 0 rfl rfl 1 (by decide) (X.2.2.2.2 _ q237) (fun _ h9 => h9) rfl dX11_exchange_1 ?_
  refine lv_iload_n X.1 X.2.1 dX11_exchange_4 rfl (lv_at hl 1 rfl) ?_
  refine (c_Word_has g qa qb s f (nI i1) (by omega)).callV (rest := []) X dX11_exchange_5 q598 tX10_has hK (hP.sub [2, 3] rfl) 0 9 rfl rfl rfl hl ⟨⟨Nat.le_of_ble_eq_true rfl, Nat.le_of_ble_eq_true rfl⟩, Nat.le_of_ble_eq_true rfl, Nat.le_of_ble_eq_true rfl⟩ rfl rfl (Nat.le_of_ble_eq_true rfl) ?_
  refine b_if_eq (tgt := 45) X dX11_exchange_8 (by decide) (fun c8 => ?_) (fun c8 => ?_)
  · exfalso; rw [p1] at c8; cases c8
  · refine lv_aload_n X.1 X.2.1 dX11_exchange_11 rfl (lv_at hl 0 rfl) ?_
    refine va_get (D := g.1) (ci := 10) (v := .ref qa) (C := RX11) (T := TX11) (N := 11) X.1 X.2.1 X.2.2.2.2 iwX11 X.2.2.2.1 hK hP 0 rfl rfl 1 (by decide) (X.2.2.2.2 _ q237) (fun _ h9 => h9) rfl dX11_exchange_12 ?_
    refine lv_iload_n X.1 X.2.1 dX11_exchange_15 rfl (lv_at hl 2 rfl) ?_
    refine (c_Word_has g qa qb s f (nI i2) (by omega)).callV (rest := []) X dX11_exchange_16 q598 tX10_has hK (hP.sub [2, 3] rfl) 0 9 rfl rfl rfl hl ⟨⟨Nat.le_of_ble_eq_true rfl, Nat.le_of_ble_eq_true rfl⟩, Nat.le_of_ble_eq_true rfl, Nat.le_of_ble_eq_true rfl⟩ rfl rfl (Nat.le_of_ble_eq_true rfl) ?_
    refine b_if_eq (tgt := 45) X dX11_exchange_19 (by decide) (fun c19 => ?_) (fun c19 => ?_)
    · exfalso; rw [p2] at c19; cases c19
    · refine lv_aload_n X.1 X.2.1 dX11_exchange_22 rfl (lv_at hl 0 rfl) ?_
      refine va_get (D := g.1) (ci := 10) (v := .ref qa) (C := RX11) (T := TX11) (N := 11) X.1 X.2.1 X.2.2.2.2 iwX11 X.2.2.2.1 hK hP 0 rfl rfl 1 (by decide) (X.2.2.2.2 _ q237) (fun _ h9 => h9) rfl dX11_exchange_23 ?_
      refine lv_iload_n X.1 X.2.1 dX11_exchange_26 rfl (lv_at hl 3 rfl) ?_
      refine (c_Word_has g qa qb s f (nI i3) (by omega)).callV (rest := []) X dX11_exchange_27 q598 tX10_has hK (hP.sub [2, 3] rfl) 0 9 rfl rfl rfl hl ⟨⟨Nat.le_of_ble_eq_true rfl, Nat.le_of_ble_eq_true rfl⟩, Nat.le_of_ble_eq_true rfl, Nat.le_of_ble_eq_true rfl⟩ rfl rfl (Nat.le_of_ble_eq_true rfl) ?_
      refine b_if_eq (tgt := 45) X dX11_exchange_30 (by decide) (fun c30 => ?_) (fun c30 => ?_)
      · exfalso; rw [p3] at c30; cases c30
      · refine lv_aload_n X.1 X.2.1 dX11_exchange_33 rfl (lv_at hl 0 rfl) ?_
        refine va_get (D := g.1) (ci := 10) (v := .ref qa) (C := RX11) (T := TX11) (N := 11) X.1 X.2.1 X.2.2.2.2 iwX11 X.2.2.2.1 hK hP 0 rfl rfl 1 (by decide) (X.2.2.2.2 _ q237) (fun _ h9 => h9) rfl dX11_exchange_34 ?_
        refine lv_iload X.1 X.2.1 dX11_exchange_37 (lv_at hl 4 rfl) ?_
        refine (c_Word_has g qa qb s f (nI i4) (by omega)).callV (rest := []) X dX11_exchange_39 q598 tX10_has hK (hP.sub [2, 3] rfl) 0 9 rfl rfl rfl hl ⟨⟨Nat.le_of_ble_eq_true rfl, Nat.le_of_ble_eq_true rfl⟩, Nat.le_of_ble_eq_true rfl, Nat.le_of_ble_eq_true rfl⟩ rfl rfl (Nat.le_of_ble_eq_true rfl) ?_
        refine b_if_ne (tgt := 48) X dX11_exchange_42 (by decide) (fun c42 => ?_) (fun c42 => ?_)
        · refine lv_iload_n X.1 X.2.1 dX11_exchange_48 rfl (lv_at hl 1 rfl) ?_
          refine lv_iload_n X.1 X.2.1 dX11_exchange_49 rfl (lv_at hl 2 rfl) ?_
          refine z_icmp_ge (tgt := 64) X dX11_exchange_50 (by decide) (nI_toInt (by omega)) (nI_toInt (by omega)) (fun c50 => ?_) (fun c50 => ?_)
          · exfalso; omega
          · refine lv_iload_n X.1 X.2.1 dX11_exchange_53 rfl (lv_at hl 2 rfl) ?_
            refine lv_iload_n X.1 X.2.1 dX11_exchange_54 rfl (lv_at hl 3 rfl) ?_
            refine z_icmp_ge (tgt := 64) X dX11_exchange_55 (by decide) (nI_toInt (by omega)) (nI_toInt (by omega)) (fun c55 => ?_) (fun c55 => ?_)
            · exfalso; omega
            · refine lv_iload_n X.1 X.2.1 dX11_exchange_58 rfl (lv_at hl 3 rfl) ?_
              refine lv_iload X.1 X.2.1 dX11_exchange_59 (lv_at hl 4 rfl) ?_
              refine z_icmp_lt (tgt := 66) X dX11_exchange_61 (by decide) (nI_toInt (by omega)) (nI_toInt (by omega)) (fun c61 => ?_) (fun c61 => ?_)
              · refine lv_aload_n X.1 X.2.1 dX11_exchange_66 rfl (lv_at hl 0 rfl) ?_
                refine va_get (D := g.1) (ci := 10) (v := .ref sa) (C := RX11) (T := TX11) (N := 11) X.1 X.2.1 X.2.2.2.2 iwX11 X.2.2.2.1 hK hP 0 rfl rfl 0 (by decide) (X.2.2.2.2 _ q236) (fun _ h9 => h9) rfl dX11_exchange_67 ?_
                refine (c_sh_n g sa k n B T).callV (rest := []) X dX11_exchange_70 q316 tX6_blockSize hK (hP.sub [1] rfl) 0 6 rfl rfl rfl hl ⟨⟨Nat.le_of_ble_eq_true rfl, Nat.le_of_ble_eq_true rfl⟩, Nat.le_of_ble_eq_true rfl, Nat.le_of_ble_eq_true rfl⟩ rfl rfl (Nat.le_of_ble_eq_true rfl) ?_
                refine lv_iconst (v := (nI 1)) X.1 X.2.1 dX11_exchange_73 (by decide) ?_
                refine n_sub X dX11_exchange_74 (by omega) ?_
                refine lv_istore (lv' := [(5, .int (nI (n - 1))), (0, .ref b0), (1, .int (nI i1)), (2, .int (nI i2)), (3, .int (nI i3)), (4, .int (nI i4))]) X.1 X.2.1 dX11_exchange_75 hl (by decide) rfl (fun ls hl => ?_)
                refine lv_aload_n X.1 X.2.1 dX11_exchange_77 rfl (lv_at hl 1 rfl) ?_
                refine va_get (D := g.1) (ci := 10) (v := .ref qa) (C := RX11) (T := TX11) (N := 11) X.1 X.2.1 X.2.2.2.2 iwX11 X.2.2.2.1 hK hP 0 rfl rfl 1 (by decide) (X.2.2.2.2 _ q237) (fun _ h9 => h9) rfl dX11_exchange_78 ?_
                refine lv_iload_n X.1 X.2.1 dX11_exchange_81 rfl (lv_at hl 2 rfl) ?_
                refine lv_iload_n X.1 X.2.1 dX11_exchange_82 rfl (lv_at hl 4 rfl) ?_
                refine lv_iload X.1 X.2.1 dX11_exchange_83 (lv_at hl 0 rfl) ?_
                refine (c_Word_repeats g qa qb s f i1 i3 (n - 1) (by omega) (by assumption) (hbs) (by omega) (by omega) (by omega) (by omega)).callV (rest := []) X dX11_exchange_85 q650 tX10_repeats hK (hP.sub [2, 3] rfl) 0 9 rfl rfl rfl hl ⟨⟨Nat.le_of_ble_eq_true rfl, Nat.le_of_ble_eq_true rfl⟩, Nat.le_of_ble_eq_true rfl, Nat.le_of_ble_eq_true rfl⟩ rfl rfl (Nat.le_of_ble_eq_true rfl) ?_
                refine b_if_eq (tgt := 106) X dX11_exchange_88 (by decide) (fun c88 => ?_) (fun c88 => ?_)
                · exfalso; rw [r1] at c88; cases c88
                · refine lv_aload_n X.1 X.2.1 dX11_exchange_91 rfl (lv_at hl 1 rfl) ?_
                  refine va_get (D := g.1) (ci := 10) (v := .ref qa) (C := RX11) (T := TX11) (N := 11) X.1 X.2.1 X.2.2.2.2 iwX11 X.2.2.2.1 hK hP 0 rfl rfl 1 (by decide) (X.2.2.2.2 _ q237) (fun _ h9 => h9) rfl dX11_exchange_92 ?_
                  refine lv_iload_n X.1 X.2.1 dX11_exchange_95 rfl (lv_at hl 3 rfl) ?_
                  refine lv_iload X.1 X.2.1 dX11_exchange_96 (lv_at hl 5 rfl) ?_
                  refine lv_iload X.1 X.2.1 dX11_exchange_98 (lv_at hl 0 rfl) ?_
                  refine (c_Word_repeats g qa qb s f i2 i4 (n - 1) (by omega) (by assumption) (hbs) (by omega) (by omega) (by omega) (by omega)).callV (rest := []) X dX11_exchange_100 q650 tX10_repeats hK (hP.sub [2, 3] rfl) 0 9 rfl rfl rfl hl ⟨⟨Nat.le_of_ble_eq_true rfl, Nat.le_of_ble_eq_true rfl⟩, Nat.le_of_ble_eq_true rfl, Nat.le_of_ble_eq_true rfl⟩ rfl rfl (Nat.le_of_ble_eq_true rfl) ?_
                  refine b_if_ne (tgt := 109) X dX11_exchange_103 (by decide) (fun c103 => ?_) (fun c103 => ?_)
                  · refine lv_aload_n X.1 X.2.1 dX11_exchange_109 rfl (lv_at hl 1 rfl) ?_
                    refine va_get (D := g.1) (ci := 10) (v := .ref da) (C := RX11) (T := TX11) (N := 11) X.1 X.2.1 X.2.2.2.2 iwX11 X.2.2.2.1 hK hP 0 rfl rfl 2 (by decide) (X.2.2.2.2 _ q238) (fun _ h9 => h9) rfl dX11_exchange_110 ?_
                    refine (c_Word_clear g da db z fd).callV (rest := []) (wr := [(b0, .inr (10, [.ref sa, .ref qa, .ref da, .ref ka, .ref o, .ref ca, .ref pa, .ref ha, .ref na, .ref ta, .ref ua])), (sa, .inr (6, [.int (nI k), .int (nI n), .int (nI B), .int (nI T)])), (qa, .inr (9, [.ref qb, .int (nI s.length)])), (qb, .inl (g.2.1, 256, .inl f)), (ha, .inr (3, [.ref hr_, .ref hz_, .int (nI nx), .int (nI h.length)])), (hr_, .inl (g.2.1, 1536, .inl fr)), (hz_, .inl (g.2.1, 6, .inl fz))]) X dX11_exchange_113 q284 tX10_clear hK hP hD hS hA [4, 5] [0, 1, 2, 3, 6, 7, 8] (by decide) rfl rfl (by decide) (by decide) 0 9 rfl rfl rfl hl ⟨⟨Nat.le_of_ble_eq_true rfl, Nat.le_of_ble_eq_true rfl⟩, Nat.le_of_ble_eq_true rfl, Nat.le_of_ble_eq_true rfl⟩ rfl rfl (Nat.le_of_ble_eq_true rfl) (fun u113 H locs hw113 hP hD hS => ?_)
                    obtain ⟨f1_113, rfl⟩ : ∃ z, z = u113 := ⟨_, rfl⟩
                    have hP : PP g [(b0, .inr (10, [.ref sa, .ref qa, .ref da, .ref ka, .ref o, .ref ca, .ref pa, .ref ha, .ref na, .ref ta, .ref ua])), (sa, .inr (6, [.int (nI k), .int (nI n), .int (nI B), .int (nI T)])), (qa, .inr (9, [.ref qb, .int (nI s.length)])), (qb, .inl (g.2.1, 256, .inl f)), (ha, .inr (3, [.ref hr_, .ref hz_, .int (nI nx), .int (nI h.length)])), (hr_, .inl (g.2.1, 1536, .inl fr)), (hz_, .inl (g.2.1, 6, .inl fz)), (da, .inr (9, [.ref db, .int (nI (([] : List Nat).length))])), (db, .inl (g.2.1, 256, .inl f1_113))] H := hP
                    have hD : va_D A [(b0, .inr (10, [.ref sa, .ref qa, .ref da, .ref ka, .ref o, .ref ca, .ref pa, .ref ha, .ref na, .ref ta, .ref ua])), (sa, .inr (6, [.int (nI k), .int (nI n), .int (nI B), .int (nI T)])), (qa, .inr (9, [.ref qb, .int (nI s.length)])), (qb, .inl (g.2.1, 256, .inl f)), (ha, .inr (3, [.ref hr_, .ref hz_, .int (nI nx), .int (nI h.length)])), (hr_, .inl (g.2.1, 1536, .inl fr)), (hz_, .inl (g.2.1, 6, .inl fz)), (da, .inr (9, [.ref db, .int (nI (([] : List Nat).length))])), (db, .inl (g.2.1, 256, .inl f1_113))] := hD
                    try dsimp only at hw113
                    refine lv_aload_n X.1 X.2.1 dX11_exchange_116 rfl (lv_at hl 1 rfl) ?_
                    refine va_get (D := g.1) (ci := 10) (v := .ref da) (C := RX11) (T := TX11) (N := 11) X.1 X.2.1 X.2.2.2.2 iwX11 X.2.2.2.1 hK hP 0 rfl rfl 2 (by decide) (X.2.2.2.2 _ q238) (fun _ h9 => h9) rfl dX11_exchange_117 ?_
                    refine lv_aload_n X.1 X.2.1 dX11_exchange_120 rfl (lv_at hl 1 rfl) ?_
                    refine va_get (D := g.1) (ci := 10) (v := .ref qa) (C := RX11) (T := TX11) (N := 11) X.1 X.2.1 X.2.2.2.2 iwX11 X.2.2.2.1 hK hP 0 rfl rfl 1 (by decide) (X.2.2.2.2 _ q237) (fun _ h9 => h9) rfl dX11_exchange_121 ?_
                    refine lv_iconst (v := (nI 0)) X.1 X.2.1 dX11_exchange_124 (by decide) ?_
                    refine lv_iload_n X.1 X.2.1 dX11_exchange_125 rfl (lv_at hl 2 rfl) ?_
                    refine (c_Word_addPart g da db ([] : List Nat) f1_113 qa qb s f 0 i1 (hw113.2) (by omega) (by assumption) (by omega) (by omega) (by rw [List.length_nil]; omega)).callV (rest := []) (wr := [(b0, .inr (10, [.ref sa, .ref qa, .ref da, .ref ka, .ref o, .ref ca, .ref pa, .ref ha, .ref na, .ref ta, .ref ua])), (sa, .inr (6, [.int (nI k), .int (nI n), .int (nI B), .int (nI T)])), (ha, .inr (3, [.ref hr_, .ref hz_, .int (nI nx), .int (nI h.length)])), (hr_, .inl (g.2.1, 1536, .inl fr)), (hz_, .inl (g.2.1, 6, .inl fz))]) X dX11_exchange_126 q620 tX10_addPart hK hP hD hS hA [7, 8, 2, 3] [0, 1, 4, 5, 6] (by decide) rfl rfl (by decide) (by decide) 0 9 rfl rfl rfl hl ⟨⟨Nat.le_of_ble_eq_true rfl, Nat.le_of_ble_eq_true rfl⟩, Nat.le_of_ble_eq_true rfl, Nat.le_of_ble_eq_true rfl⟩ rfl rfl (Nat.le_of_ble_eq_true rfl) (fun u126 H locs hw126 hP hD hS => ?_)
                    obtain ⟨f1_126, rfl⟩ : ∃ z, z = u126 := ⟨_, rfl⟩
                    have hP : PP g [(b0, .inr (10, [.ref sa, .ref qa, .ref da, .ref ka, .ref o, .ref ca, .ref pa, .ref ha, .ref na, .ref ta, .ref ua])), (sa, .inr (6, [.int (nI k), .int (nI n), .int (nI B), .int (nI T)])), (ha, .inr (3, [.ref hr_, .ref hz_, .int (nI nx), .int (nI h.length)])), (hr_, .inl (g.2.1, 1536, .inl fr)), (hz_, .inl (g.2.1, 6, .inl fz)), (da, .inr (9, [.ref db, .int (nI ((([] : List Nat) ++ partL s 0 i1 0).length))])), (db, .inl (g.2.1, 256, .inl f1_126)), (qa, .inr (9, [.ref qb, .int (nI s.length)])), (qb, .inl (g.2.1, 256, .inl f))] H := hP
                    have hD : va_D A [(b0, .inr (10, [.ref sa, .ref qa, .ref da, .ref ka, .ref o, .ref ca, .ref pa, .ref ha, .ref na, .ref ta, .ref ua])), (sa, .inr (6, [.int (nI k), .int (nI n), .int (nI B), .int (nI T)])), (ha, .inr (3, [.ref hr_, .ref hz_, .int (nI nx), .int (nI h.length)])), (hr_, .inl (g.2.1, 1536, .inl fr)), (hz_, .inl (g.2.1, 6, .inl fz)), (da, .inr (9, [.ref db, .int (nI ((([] : List Nat) ++ partL s 0 i1 0).length))])), (db, .inl (g.2.1, 256, .inl f1_126)), (qa, .inr (9, [.ref qb, .int (nI s.length)])), (qb, .inl (g.2.1, 256, .inl f))] := hD
                    try dsimp only at hw126
                    refine lv_aload_n X.1 X.2.1 dX11_exchange_129 rfl (lv_at hl 1 rfl) ?_
                    refine va_get (D := g.1) (ci := 10) (v := .ref da) (C := RX11) (T := TX11) (N := 11) X.1 X.2.1 X.2.2.2.2 iwX11 X.2.2.2.1 hK hP 0 rfl rfl 2 (by decide) (X.2.2.2.2 _ q238) (fun _ h9 => h9) rfl dX11_exchange_130 ?_
                    refine lv_aload_n X.1 X.2.1 dX11_exchange_133 rfl (lv_at hl 1 rfl) ?_
                    refine va_get (D := g.1) (ci := 10) (v := .ref qa) (C := RX11) (T := TX11) (N := 11) X.1 X.2.1 X.2.2.2.2 iwX11 X.2.2.2.1 hK hP 0 rfl rfl 1 (by decide) (X.2.2.2.2 _ q237) (fun _ h9 => h9) rfl dX11_exchange_134 ?_
                    refine lv_iload_n X.1 X.2.1 dX11_exchange_137 rfl (lv_at hl 4 rfl) ?_
                    refine lv_iload X.1 X.2.1 dX11_exchange_138 (lv_at hl 5 rfl) ?_
                    refine lv_iload_n X.1 X.2.1 dX11_exchange_140 rfl (lv_at hl 4 rfl) ?_
                    refine n_sub X dX11_exchange_141 (by omega) ?_
                    refine (c_Word_addPart g da db (([] : List Nat) ++ partL s 0 i1 0) f1_126 qa qb s f i3 (i4 - i3) (hw126) (by omega) (by assumption) (by omega) (by omega) (by simp [partL_len]; omega)).callV (rest := []) (wr := [(b0, .inr (10, [.ref sa, .ref qa, .ref da, .ref ka, .ref o, .ref ca, .ref pa, .ref ha, .ref na, .ref ta, .ref ua])), (sa, .inr (6, [.int (nI k), .int (nI n), .int (nI B), .int (nI T)])), (ha, .inr (3, [.ref hr_, .ref hz_, .int (nI nx), .int (nI h.length)])), (hr_, .inl (g.2.1, 1536, .inl fr)), (hz_, .inl (g.2.1, 6, .inl fz))]) X dX11_exchange_142 q620 tX10_addPart hK hP hD hS hA [5, 6, 7, 8] [0, 1, 2, 3, 4] (by decide) rfl rfl (by decide) (by decide) 0 9 rfl rfl rfl hl ⟨⟨Nat.le_of_ble_eq_true rfl, Nat.le_of_ble_eq_true rfl⟩, Nat.le_of_ble_eq_true rfl, Nat.le_of_ble_eq_true rfl⟩ rfl rfl (Nat.le_of_ble_eq_true rfl) (fun u142 H locs hw142 hP hD hS => ?_)
                    obtain ⟨f1_142, rfl⟩ : ∃ z, z = u142 := ⟨_, rfl⟩
                    have hP : PP g [(b0, .inr (10, [.ref sa, .ref qa, .ref da, .ref ka, .ref o, .ref ca, .ref pa, .ref ha, .ref na, .ref ta, .ref ua])), (sa, .inr (6, [.int (nI k), .int (nI n), .int (nI B), .int (nI T)])), (ha, .inr (3, [.ref hr_, .ref hz_, .int (nI nx), .int (nI h.length)])), (hr_, .inl (g.2.1, 1536, .inl fr)), (hz_, .inl (g.2.1, 6, .inl fz)), (da, .inr (9, [.ref db, .int (nI (((([] : List Nat) ++ partL s 0 i1 0) ++ partL s i3 (i4 - i3) 0).length))])), (db, .inl (g.2.1, 256, .inl f1_142)), (qa, .inr (9, [.ref qb, .int (nI s.length)])), (qb, .inl (g.2.1, 256, .inl f))] H := hP
                    have hD : va_D A [(b0, .inr (10, [.ref sa, .ref qa, .ref da, .ref ka, .ref o, .ref ca, .ref pa, .ref ha, .ref na, .ref ta, .ref ua])), (sa, .inr (6, [.int (nI k), .int (nI n), .int (nI B), .int (nI T)])), (ha, .inr (3, [.ref hr_, .ref hz_, .int (nI nx), .int (nI h.length)])), (hr_, .inl (g.2.1, 1536, .inl fr)), (hz_, .inl (g.2.1, 6, .inl fz)), (da, .inr (9, [.ref db, .int (nI (((([] : List Nat) ++ partL s 0 i1 0) ++ partL s i3 (i4 - i3) 0).length))])), (db, .inl (g.2.1, 256, .inl f1_142)), (qa, .inr (9, [.ref qb, .int (nI s.length)])), (qb, .inl (g.2.1, 256, .inl f))] := hD
                    try dsimp only at hw142
                    refine lv_aload_n X.1 X.2.1 dX11_exchange_145 rfl (lv_at hl 1 rfl) ?_
                    refine va_get (D := g.1) (ci := 10) (v := .ref da) (C := RX11) (T := TX11) (N := 11) X.1 X.2.1 X.2.2.2.2 iwX11 X.2.2.2.1 hK hP 0 rfl rfl 2 (by decide) (X.2.2.2.2 _ q238) (fun _ h9 => h9) rfl dX11_exchange_146 ?_
                    refine lv_aload_n X.1 X.2.1 dX11_exchange_149 rfl (lv_at hl 1 rfl) ?_
                    refine va_get (D := g.1) (ci := 10) (v := .ref qa) (C := RX11) (T := TX11) (N := 11) X.1 X.2.1 X.2.2.2.2 iwX11 X.2.2.2.1 hK hP 0 rfl rfl 1 (by decide) (X.2.2.2.2 _ q237) (fun _ h9 => h9) rfl dX11_exchange_150 ?_
                    refine lv_iload_n X.1 X.2.1 dX11_exchange_153 rfl (lv_at hl 3 rfl) ?_
                    refine lv_iload_n X.1 X.2.1 dX11_exchange_154 rfl (lv_at hl 4 rfl) ?_
                    refine lv_iload_n X.1 X.2.1 dX11_exchange_155 rfl (lv_at hl 3 rfl) ?_
                    refine n_sub X dX11_exchange_156 (by omega) ?_
                    refine (c_Word_addPart g da db ((([] : List Nat) ++ partL s 0 i1 0) ++ partL s i3 (i4 - i3) 0) f1_142 qa qb s f i2 (i3 - i2) (hw142) (by omega) (by assumption) (by omega) (by omega) (by simp [partL_len]; omega)).callV (rest := []) (wr := [(b0, .inr (10, [.ref sa, .ref qa, .ref da, .ref ka, .ref o, .ref ca, .ref pa, .ref ha, .ref na, .ref ta, .ref ua])), (sa, .inr (6, [.int (nI k), .int (nI n), .int (nI B), .int (nI T)])), (ha, .inr (3, [.ref hr_, .ref hz_, .int (nI nx), .int (nI h.length)])), (hr_, .inl (g.2.1, 1536, .inl fr)), (hz_, .inl (g.2.1, 6, .inl fz))]) X dX11_exchange_157 q620 tX10_addPart hK hP hD hS hA [5, 6, 7, 8] [0, 1, 2, 3, 4] (by decide) rfl rfl (by decide) (by decide) 0 9 rfl rfl rfl hl ⟨⟨Nat.le_of_ble_eq_true rfl, Nat.le_of_ble_eq_true rfl⟩, Nat.le_of_ble_eq_true rfl, Nat.le_of_ble_eq_true rfl⟩ rfl rfl (Nat.le_of_ble_eq_true rfl) (fun u157 H locs hw157 hP hD hS => ?_)
                    obtain ⟨f1_157, rfl⟩ : ∃ z, z = u157 := ⟨_, rfl⟩
                    have hP : PP g [(b0, .inr (10, [.ref sa, .ref qa, .ref da, .ref ka, .ref o, .ref ca, .ref pa, .ref ha, .ref na, .ref ta, .ref ua])), (sa, .inr (6, [.int (nI k), .int (nI n), .int (nI B), .int (nI T)])), (ha, .inr (3, [.ref hr_, .ref hz_, .int (nI nx), .int (nI h.length)])), (hr_, .inl (g.2.1, 1536, .inl fr)), (hz_, .inl (g.2.1, 6, .inl fz)), (da, .inr (9, [.ref db, .int (nI ((((([] : List Nat) ++ partL s 0 i1 0) ++ partL s i3 (i4 - i3) 0) ++ partL s i2 (i3 - i2) 0).length))])), (db, .inl (g.2.1, 256, .inl f1_157)), (qa, .inr (9, [.ref qb, .int (nI s.length)])), (qb, .inl (g.2.1, 256, .inl f))] H := hP
                    have hD : va_D A [(b0, .inr (10, [.ref sa, .ref qa, .ref da, .ref ka, .ref o, .ref ca, .ref pa, .ref ha, .ref na, .ref ta, .ref ua])), (sa, .inr (6, [.int (nI k), .int (nI n), .int (nI B), .int (nI T)])), (ha, .inr (3, [.ref hr_, .ref hz_, .int (nI nx), .int (nI h.length)])), (hr_, .inl (g.2.1, 1536, .inl fr)), (hz_, .inl (g.2.1, 6, .inl fz)), (da, .inr (9, [.ref db, .int (nI ((((([] : List Nat) ++ partL s 0 i1 0) ++ partL s i3 (i4 - i3) 0) ++ partL s i2 (i3 - i2) 0).length))])), (db, .inl (g.2.1, 256, .inl f1_157)), (qa, .inr (9, [.ref qb, .int (nI s.length)])), (qb, .inl (g.2.1, 256, .inl f))] := hD
                    try dsimp only at hw157
                    refine lv_aload_n X.1 X.2.1 dX11_exchange_160 rfl (lv_at hl 1 rfl) ?_
                    refine va_get (D := g.1) (ci := 10) (v := .ref da) (C := RX11) (T := TX11) (N := 11) X.1 X.2.1 X.2.2.2.2 iwX11 X.2.2.2.1 hK hP 0 rfl rfl 2 (by decide) (X.2.2.2.2 _ q238) (fun _ h9 => h9) rfl dX11_exchange_161 ?_
                    refine lv_aload_n X.1 X.2.1 dX11_exchange_164 rfl (lv_at hl 1 rfl) ?_
                    refine va_get (D := g.1) (ci := 10) (v := .ref qa) (C := RX11) (T := TX11) (N := 11) X.1 X.2.1 X.2.2.2.2 iwX11 X.2.2.2.1 hK hP 0 rfl rfl 1 (by decide) (X.2.2.2.2 _ q237) (fun _ h9 => h9) rfl dX11_exchange_165 ?_
                    refine lv_iload_n X.1 X.2.1 dX11_exchange_168 rfl (lv_at hl 2 rfl) ?_
                    refine lv_iload_n X.1 X.2.1 dX11_exchange_169 rfl (lv_at hl 3 rfl) ?_
                    refine lv_iload_n X.1 X.2.1 dX11_exchange_170 rfl (lv_at hl 2 rfl) ?_
                    refine n_sub X dX11_exchange_171 (by omega) ?_
                    refine (c_Word_addPart g da db (((([] : List Nat) ++ partL s 0 i1 0) ++ partL s i3 (i4 - i3) 0) ++ partL s i2 (i3 - i2) 0) f1_157 qa qb s f i1 (i2 - i1) (hw157) (by omega) (by assumption) (by omega) (by omega) (by simp [partL_len]; omega)).callV (rest := []) (wr := [(b0, .inr (10, [.ref sa, .ref qa, .ref da, .ref ka, .ref o, .ref ca, .ref pa, .ref ha, .ref na, .ref ta, .ref ua])), (sa, .inr (6, [.int (nI k), .int (nI n), .int (nI B), .int (nI T)])), (ha, .inr (3, [.ref hr_, .ref hz_, .int (nI nx), .int (nI h.length)])), (hr_, .inl (g.2.1, 1536, .inl fr)), (hz_, .inl (g.2.1, 6, .inl fz))]) X dX11_exchange_172 q620 tX10_addPart hK hP hD hS hA [5, 6, 7, 8] [0, 1, 2, 3, 4] (by decide) rfl rfl (by decide) (by decide) 0 9 rfl rfl rfl hl ⟨⟨Nat.le_of_ble_eq_true rfl, Nat.le_of_ble_eq_true rfl⟩, Nat.le_of_ble_eq_true rfl, Nat.le_of_ble_eq_true rfl⟩ rfl rfl (Nat.le_of_ble_eq_true rfl) (fun u172 H locs hw172 hP hD hS => ?_)
                    obtain ⟨f1_172, rfl⟩ : ∃ z, z = u172 := ⟨_, rfl⟩
                    have hP : PP g [(b0, .inr (10, [.ref sa, .ref qa, .ref da, .ref ka, .ref o, .ref ca, .ref pa, .ref ha, .ref na, .ref ta, .ref ua])), (sa, .inr (6, [.int (nI k), .int (nI n), .int (nI B), .int (nI T)])), (ha, .inr (3, [.ref hr_, .ref hz_, .int (nI nx), .int (nI h.length)])), (hr_, .inl (g.2.1, 1536, .inl fr)), (hz_, .inl (g.2.1, 6, .inl fz)), (da, .inr (9, [.ref db, .int (nI (((((([] : List Nat) ++ partL s 0 i1 0) ++ partL s i3 (i4 - i3) 0) ++ partL s i2 (i3 - i2) 0) ++ partL s i1 (i2 - i1) 0).length))])), (db, .inl (g.2.1, 256, .inl f1_172)), (qa, .inr (9, [.ref qb, .int (nI s.length)])), (qb, .inl (g.2.1, 256, .inl f))] H := hP
                    have hD : va_D A [(b0, .inr (10, [.ref sa, .ref qa, .ref da, .ref ka, .ref o, .ref ca, .ref pa, .ref ha, .ref na, .ref ta, .ref ua])), (sa, .inr (6, [.int (nI k), .int (nI n), .int (nI B), .int (nI T)])), (ha, .inr (3, [.ref hr_, .ref hz_, .int (nI nx), .int (nI h.length)])), (hr_, .inl (g.2.1, 1536, .inl fr)), (hz_, .inl (g.2.1, 6, .inl fz)), (da, .inr (9, [.ref db, .int (nI (((((([] : List Nat) ++ partL s 0 i1 0) ++ partL s i3 (i4 - i3) 0) ++ partL s i2 (i3 - i2) 0) ++ partL s i1 (i2 - i1) 0).length))])), (db, .inl (g.2.1, 256, .inl f1_172)), (qa, .inr (9, [.ref qb, .int (nI s.length)])), (qb, .inl (g.2.1, 256, .inl f))] := hD
                    try dsimp only at hw172
                    refine lv_aload_n X.1 X.2.1 dX11_exchange_175 rfl (lv_at hl 1 rfl) ?_
                    refine va_get (D := g.1) (ci := 10) (v := .ref da) (C := RX11) (T := TX11) (N := 11) X.1 X.2.1 X.2.2.2.2 iwX11 X.2.2.2.1 hK hP 0 rfl rfl 2 (by decide) (X.2.2.2.2 _ q238) (fun _ h9 => h9) rfl dX11_exchange_176 ?_
                    refine lv_aload_n X.1 X.2.1 dX11_exchange_179 rfl (lv_at hl 1 rfl) ?_
                    refine va_get (D := g.1) (ci := 10) (v := .ref qa) (C := RX11) (T := TX11) (N := 11) X.1 X.2.1 X.2.2.2.2 iwX11 X.2.2.2.1 hK hP 0 rfl rfl 1 (by decide) (X.2.2.2.2 _ q237) (fun _ h9 => h9) rfl dX11_exchange_180 ?_
                    refine lv_iload X.1 X.2.1 dX11_exchange_183 (lv_at hl 5 rfl) ?_
                    refine lv_aload_n X.1 X.2.1 dX11_exchange_185 rfl (lv_at hl 1 rfl) ?_
                    refine va_get (D := g.1) (ci := 10) (v := .ref qa) (C := RX11) (T := TX11) (N := 11) X.1 X.2.1 X.2.2.2.2 iwX11 X.2.2.2.1 hK hP 0 rfl rfl 1 (by decide) (X.2.2.2.2 _ q237) (fun _ h9 => h9) rfl dX11_exchange_186 ?_
                    refine (c_Word_size g qa qb s f).callV (rest := [.int (nI i4), .ref qa, .ref da]) X dX11_exchange_189 q324 tX10_size hK (hP.sub [7, 8] rfl) 0 9 rfl rfl rfl hl ⟨⟨Nat.le_of_ble_eq_true rfl, Nat.le_of_ble_eq_true rfl⟩, Nat.le_of_ble_eq_true rfl, Nat.le_of_ble_eq_true rfl⟩ rfl rfl (Nat.le_of_ble_eq_true rfl) ?_
                    refine lv_iload X.1 X.2.1 dX11_exchange_192 (lv_at hl 5 rfl) ?_
                    refine n_sub X dX11_exchange_194 (by omega) ?_
                    refine (c_Word_addPart g da db ((((([] : List Nat) ++ partL s 0 i1 0) ++ partL s i3 (i4 - i3) 0) ++ partL s i2 (i3 - i2) 0) ++ partL s i1 (i2 - i1) 0) f1_172 qa qb s f i4 (s.length - i4) (hw172) (by omega) (by assumption) (by omega) (by omega) (by simp [partL_len]; omega)).callV (rest := []) (wr := [(b0, .inr (10, [.ref sa, .ref qa, .ref da, .ref ka, .ref o, .ref ca, .ref pa, .ref ha, .ref na, .ref ta, .ref ua])), (sa, .inr (6, [.int (nI k), .int (nI n), .int (nI B), .int (nI T)])), (ha, .inr (3, [.ref hr_, .ref hz_, .int (nI nx), .int (nI h.length)])), (hr_, .inl (g.2.1, 1536, .inl fr)), (hz_, .inl (g.2.1, 6, .inl fz))]) X dX11_exchange_195 q620 tX10_addPart hK hP hD hS hA [5, 6, 7, 8] [0, 1, 2, 3, 4] (by decide) rfl rfl (by decide) (by decide) 0 9 rfl rfl rfl hl ⟨⟨Nat.le_of_ble_eq_true rfl, Nat.le_of_ble_eq_true rfl⟩, Nat.le_of_ble_eq_true rfl, Nat.le_of_ble_eq_true rfl⟩ rfl rfl (Nat.le_of_ble_eq_true rfl) (fun u195 H locs hw195 hP hD hS => ?_)
                    obtain ⟨f1_195, rfl⟩ : ∃ z, z = u195 := ⟨_, rfl⟩
                    have hP : PP g [(b0, .inr (10, [.ref sa, .ref qa, .ref da, .ref ka, .ref o, .ref ca, .ref pa, .ref ha, .ref na, .ref ta, .ref ua])), (sa, .inr (6, [.int (nI k), .int (nI n), .int (nI B), .int (nI T)])), (ha, .inr (3, [.ref hr_, .ref hz_, .int (nI nx), .int (nI h.length)])), (hr_, .inl (g.2.1, 1536, .inl fr)), (hz_, .inl (g.2.1, 6, .inl fz)), (da, .inr (9, [.ref db, .int (nI ((((((([] : List Nat) ++ partL s 0 i1 0) ++ partL s i3 (i4 - i3) 0) ++ partL s i2 (i3 - i2) 0) ++ partL s i1 (i2 - i1) 0) ++ partL s i4 (s.length - i4) 0).length))])), (db, .inl (g.2.1, 256, .inl f1_195)), (qa, .inr (9, [.ref qb, .int (nI s.length)])), (qb, .inl (g.2.1, 256, .inl f))] H := hP
                    have hD : va_D A [(b0, .inr (10, [.ref sa, .ref qa, .ref da, .ref ka, .ref o, .ref ca, .ref pa, .ref ha, .ref na, .ref ta, .ref ua])), (sa, .inr (6, [.int (nI k), .int (nI n), .int (nI B), .int (nI T)])), (ha, .inr (3, [.ref hr_, .ref hz_, .int (nI nx), .int (nI h.length)])), (hr_, .inl (g.2.1, 1536, .inl fr)), (hz_, .inl (g.2.1, 6, .inl fz)), (da, .inr (9, [.ref db, .int (nI ((((((([] : List Nat) ++ partL s 0 i1 0) ++ partL s i3 (i4 - i3) 0) ++ partL s i2 (i3 - i2) 0) ++ partL s i1 (i2 - i1) 0) ++ partL s i4 (s.length - i4) 0).length))])), (db, .inl (g.2.1, 256, .inl f1_195)), (qa, .inr (9, [.ref qb, .int (nI s.length)])), (qb, .inl (g.2.1, 256, .inl f))] := hD
                    try dsimp only at hw195
                    have hP : PP g [(b0, .inr (10, [.ref sa, .ref qa, .ref da, .ref ka, .ref o, .ref ca, .ref pa, .ref ha, .ref na, .ref ta, .ref ua])), (sa, .inr (6, [.int (nI k), .int (nI n), .int (nI B), .int (nI T)])), (ha, .inr (3, [.ref hr_, .ref hz_, .int (nI nx), .int (nI h.length)])), (hr_, .inl (g.2.1, 1536, .inl fr)), (hz_, .inl (g.2.1, 6, .inl fz)), (da, .inr (9, [.ref db, .int (nI ((excL s i1 i2 i3 i4).length))])), (db, .inl (g.2.1, 256, .inl f1_195)), (qa, .inr (9, [.ref qb, .int (nI s.length)])), (qb, .inl (g.2.1, 256, .inl f))] H := by exact hP
                    have hD : va_D A [(b0, .inr (10, [.ref sa, .ref qa, .ref da, .ref ka, .ref o, .ref ca, .ref pa, .ref ha, .ref na, .ref ta, .ref ua])), (sa, .inr (6, [.int (nI k), .int (nI n), .int (nI B), .int (nI T)])), (ha, .inr (3, [.ref hr_, .ref hz_, .int (nI nx), .int (nI h.length)])), (hr_, .inl (g.2.1, 1536, .inl fr)), (hz_, .inl (g.2.1, 6, .inl fz)), (da, .inr (9, [.ref db, .int (nI ((excL s i1 i2 i3 i4).length))])), (db, .inl (g.2.1, 256, .inl f1_195)), (qa, .inr (9, [.ref qb, .int (nI s.length)])), (qb, .inl (g.2.1, 256, .inl f))] := by exact hD
                    refine lv_aload_n X.1 X.2.1 dX11_exchange_198 rfl (lv_at hl 1 rfl) ?_
                    refine (b_take g b0 sa qa da ka o ca pa ha na ta ua qb s f db (excL s i1 i2 i3 i4) f1_195 hr_ hz_ nx h fr fz (by omega) (by assumption) (by omega) (hw195) (hbs) (hbz) (by assumption)).callV (rest := []) (wr := [(sa, .inr (6, [.int (nI k), .int (nI n), .int (nI B), .int (nI T)]))]) X dX11_exchange_199 q457 tX11_takeDraft hK hP hD hS hA [0, 7, 8, 5, 6, 2, 3, 4] [1] (by decide) rfl rfl (by decide) (by decide) 0 10 rfl rfl rfl hl ⟨⟨Nat.le_of_ble_eq_true rfl, Nat.le_of_ble_eq_true rfl⟩, Nat.le_of_ble_eq_true rfl, Nat.le_of_ble_eq_true rfl⟩ rfl rfl (Nat.le_of_ble_eq_true rfl) (fun r199 u199 H locs hw199 hP hD hS => ?_)
                    obtain ⟨f1_199, fr1_199, fz1_199⟩ := u199
                    have hP : PP g [(sa, .inr (6, [.int (nI k), .int (nI n), .int (nI B), .int (nI T)])), (b0, .inr (10, [.ref sa, .ref qa, .ref da, .ref ka, .ref o, .ref ca, .ref pa, .ref ha, .ref na, .ref ta, .ref ua])), (qa, .inr (9, [.ref qb, .int (nI ((excL s i1 i2 i3 i4).length))])), (qb, .inl (g.2.1, 256, .inl f1_199)), (da, .inr (9, [.ref db, .int (nI ((excL s i1 i2 i3 i4).length))])), (db, .inl (g.2.1, 256, .inl f1_195)), (ha, .inr (3, [.ref hr_, .ref hz_, .int (nI ((nx + 1) % 6)), .int (nI (((s :: h).take 6).length))])), (hr_, .inl (g.2.1, 1536, .inl fr1_199)), (hz_, .inl (g.2.1, 6, .inl fz1_199))] H := hP
                    have hD : va_D A [(sa, .inr (6, [.int (nI k), .int (nI n), .int (nI B), .int (nI T)])), (b0, .inr (10, [.ref sa, .ref qa, .ref da, .ref ka, .ref o, .ref ca, .ref pa, .ref ha, .ref na, .ref ta, .ref ua])), (qa, .inr (9, [.ref qb, .int (nI ((excL s i1 i2 i3 i4).length))])), (qb, .inl (g.2.1, 256, .inl f1_199)), (da, .inr (9, [.ref db, .int (nI ((excL s i1 i2 i3 i4).length))])), (db, .inl (g.2.1, 256, .inl f1_195)), (ha, .inr (3, [.ref hr_, .ref hz_, .int (nI ((nx + 1) % 6)), .int (nI (((s :: h).take 6).length))])), (hr_, .inl (g.2.1, 1536, .inl fr1_199)), (hz_, .inl (g.2.1, 6, .inl fz1_199))] := hD
                    try dsimp only at hw199
                    refine tp_i (y := (bI (!(sameB (excL s i1 i2 i3 i4) s)))) (hw199.1) ?_
                    refine b_if_eq (tgt := 209) X dX11_exchange_202 (by decide) (fun c202 => ?_) (fun c202 => ?_)
                    · refine lv_iconst (v := (nI 0)) X.1 X.2.1 dX11_exchange_209 (by decide) ?_
                      exact MuI.ret X hr hlk hK hS dX11_exchange_210 (nI_nar _) (f1_199, f1_195, fr1_199, fz1_199) (hP.sub [1, 0, 2, 3, 4, 5, 6, 7, 8] rfl) (hD.sub [1, 0, 2, 3, 4, 5, 6, 7, 8] (by decide) rfl) (⟨(by (cases hsm : sameB (excL s i1 i2 i3 i4) s) <;> rw [hsm] at c202 <;> first | rfl | cases c202), hw199.2.1, hw199.2.2⟩)
                    · refine lv_iconst (v := (nI 1)) X.1 X.2.1 dX11_exchange_205 (by decide) ?_
                      refine lv_goto (tgt := 210) X.1 X.2.1 dX11_exchange_206 (by decide) ?_
                      exact MuI.ret X hr hlk hK hS dX11_exchange_210 (nI_nar _) (f1_199, f1_195, fr1_199, fz1_199) (hP.sub [1, 0, 2, 3, 4, 5, 6, 7, 8] rfl) (hD.sub [1, 0, 2, 3, 4, 5, 6, 7, 8] (by decide) rfl) (⟨(by (cases hsm : sameB (excL s i1 i2 i3 i4) s) <;> rw [hsm] at c202 <;> first | rfl | cases c202), hw199.2.1, hw199.2.2⟩)
                  · exfalso; rw [r2] at c103; cases c103
              · exfalso; omega
        · exfalso; rw [p4] at c42; cases c42

set_option maxHeartbeats 4000000 in
set_option maxRecDepth 100000 in
theorem b_exchange_no2 (g : G5) (b0 : Nat) (sa : Nat) (qa : Nat) (da : Nat) (ka : Nat) (o : Nat) (ca : Nat) (pa : Nat) (ha : Nat) (na : Nat) (ta : Nat) (ua : Nat) (k : Nat) (n : Nat) (B : Nat) (T : Nat) (qb : Nat) (s : List Nat) (f : Nat → Int32) (i1 : Nat) (i2 : Nat) (i3 : Nat) (i4 : Nat) (hc : shp k n B T) (hs : s.length ≤ 256) (hf : rep f s) (hlt : ltk k s) (h12 : i1 < i2) (h23 : i2 < i3) (h34 : i3 < i4) (h4 : i4 < s.length) (hrr : (repB s i1 i3 (n - 1) && repB s i2 i4 (n - 1)) = false) : PuI yX11_exchange cX11_exchange 6 (some .int) 4 105 g [.ref b0, .int (nI i1), .int (nI i2), .int (nI i3), .int (nI i4)] [(b0, .inr (10, [.ref sa, .ref qa, .ref da, .ref ka, .ref o, .ref ca, .ref pa, .ref ha, .ref na, .ref ta, .ref ua])), (sa, .inr (6, [.int (nI k), .int (nI n), .int (nI B), .int (nI T)])), (qa, .inr (9, [.ref qb, .int (nI s.length)])), (qb, .inl (g.2.1, 256, .inl f))] (-5) := by
  refine PuI.of (by decide +kernel) (Nat.le_of_ble_eq_true rfl) ?_
  intro p_ l_ e_ S_ m_ args below meth co X hr hlk hP hK ls hl
  have X : CallFix p_ m_ co cX11_exchange 6 S_ args lw_all RX11 := X
  have hl : lv_has ls 6 [(0, .ref b0), (1, .int (nI i1)), (2, .int (nI i2)), (3, .int (nI i3)), (4, .int (nI i4))] := hl
  obtain ⟨hk2, hk4, hn1, hn6, hB, hT, hBT, hT2⟩ := hc.f
  have hB0 : 0 < B := by rw [hBT]; exact Nat.mul_pos (by omega) (by omega)
  have hbs := hlt.bd hk4
  have p1 : hasB (nI i1) s.length = true := by rw [hasB_N (by omega)]; exact decide_eq_true (by omega)
  have p2 : hasB (nI i2) s.length = true := by rw [hasB_N (by omega)]; exact decide_eq_true (by omega)
  have p3 : hasB (nI i3) s.length = true := by rw [hasB_N (by omega)]; exact decide_eq_true (by omega)
  have p4 : hasB (nI i4) s.length = true := by rw [hasB_N (by omega)]; exact decide_eq_true (by omega)
  refine lv_aload_n X.1 X.2.1 dX11_exchange_0 rfl (lv_at hl 0 rfl) ?_
  refine va_get (D := g.1) (ci := 10) (v := .ref qa) (C := RX11) (T := TX11) (N := 11) X.1 X.2.1 X.2.2.2.2 iwX11 X.2.2.2.1 hK hP 0 rfl rfl 1 (by decide) (X.2.2.2.2 _ q237) (fun _ h9 => h9) rfl dX11_exchange_1 ?_
  refine lv_iload_n X.1 X.2.1 dX11_exchange_4 rfl (lv_at hl 1 rfl) ?_
  refine (c_Word_has g qa qb s f (nI i1) (by omega)).callV (rest := []) X dX11_exchange_5 q598 tX10_has hK (hP.sub [2, 3] rfl) 0 9 rfl rfl rfl hl ⟨⟨Nat.le_of_ble_eq_true rfl, Nat.le_of_ble_eq_true rfl⟩, Nat.le_of_ble_eq_true rfl, Nat.le_of_ble_eq_true rfl⟩ rfl rfl (Nat.le_of_ble_eq_true rfl) ?_
  refine b_if_eq (tgt := 45) X dX11_exchange_8 (by decide) (fun c8 => ?_) (fun c8 => ?_)
  · exfalso; rw [p1] at c8; cases c8
  · refine lv_aload_n X.1 X.2.1 dX11_exchange_11 rfl (lv_at hl 0 rfl) ?_
    refine va_get (D := g.1) (ci := 10) (v := .ref qa) (C := RX11) (T := TX11) (N := 11) X.1 X.2.1 X.2.2.2.2 iwX11 X.2.2.2.1 hK hP 0 rfl rfl 1 (by decide) (X.2.2.2.2 _ q237) (fun _ h9 => h9) rfl dX11_exchange_12 ?_
    refine lv_iload_n X.1 X.2.1 dX11_exchange_15 rfl (lv_at hl 2 rfl) ?_
    refine (c_Word_has g qa qb s f (nI i2) (by omega)).callV (rest := []) X dX11_exchange_16 q598 tX10_has hK (hP.sub [2, 3] rfl) 0 9 rfl rfl rfl hl ⟨⟨Nat.le_of_ble_eq_true rfl, Nat.le_of_ble_eq_true rfl⟩, Nat.le_of_ble_eq_true rfl, Nat.le_of_ble_eq_true rfl⟩ rfl rfl (Nat.le_of_ble_eq_true rfl) ?_
    refine b_if_eq (tgt := 45) X dX11_exchange_19 (by decide) (fun c19 => ?_) (fun c19 => ?_)
    · exfalso; rw [p2] at c19; cases c19
    · refine lv_aload_n X.1 X.2.1 dX11_exchange_22 rfl (lv_at hl 0 rfl) ?_
      refine va_get (D := g.1) (ci := 10) (v := .ref qa) (C := RX11) (T := TX11) (N := 11) X.1 X.2.1 X.2.2.2.2 iwX11 X.2.2.2.1 hK hP 0 rfl rfl 1 (by decide) (X.2.2.2.2 _ q237) (fun _ h9 => h9) rfl dX11_exchange_23 ?_
      refine lv_iload_n X.1 X.2.1 dX11_exchange_26 rfl (lv_at hl 3 rfl) ?_
      refine (c_Word_has g qa qb s f (nI i3) (by omega)).callV (rest := []) X dX11_exchange_27 q598 tX10_has hK (hP.sub [2, 3] rfl) 0 9 rfl rfl rfl hl ⟨⟨Nat.le_of_ble_eq_true rfl, Nat.le_of_ble_eq_true rfl⟩, Nat.le_of_ble_eq_true rfl, Nat.le_of_ble_eq_true rfl⟩ rfl rfl (Nat.le_of_ble_eq_true rfl) ?_
      refine b_if_eq (tgt := 45) X dX11_exchange_30 (by decide) (fun c30 => ?_) (fun c30 => ?_)
      · exfalso; rw [p3] at c30; cases c30
      · refine lv_aload_n X.1 X.2.1 dX11_exchange_33 rfl (lv_at hl 0 rfl) ?_
        refine va_get (D := g.1) (ci := 10) (v := .ref qa) (C := RX11) (T := TX11) (N := 11) X.1 X.2.1 X.2.2.2.2 iwX11 X.2.2.2.1 hK hP 0 rfl rfl 1 (by decide) (X.2.2.2.2 _ q237) (fun _ h9 => h9) rfl dX11_exchange_34 ?_
        refine lv_iload X.1 X.2.1 dX11_exchange_37 (lv_at hl 4 rfl) ?_
        refine (c_Word_has g qa qb s f (nI i4) (by omega)).callV (rest := []) X dX11_exchange_39 q598 tX10_has hK (hP.sub [2, 3] rfl) 0 9 rfl rfl rfl hl ⟨⟨Nat.le_of_ble_eq_true rfl, Nat.le_of_ble_eq_true rfl⟩, Nat.le_of_ble_eq_true rfl, Nat.le_of_ble_eq_true rfl⟩ rfl rfl (Nat.le_of_ble_eq_true rfl) ?_
        refine b_if_ne (tgt := 48) X dX11_exchange_42 (by decide) (fun c42 => ?_) (fun c42 => ?_)
        · refine lv_iload_n X.1 X.2.1 dX11_exchange_48 rfl (lv_at hl 1 rfl) ?_
          refine lv_iload_n X.1 X.2.1 dX11_exchange_49 rfl (lv_at hl 2 rfl) ?_
          refine z_icmp_ge (tgt := 64) X dX11_exchange_50 (by decide) (nI_toInt (by omega)) (nI_toInt (by omega)) (fun c50 => ?_) (fun c50 => ?_)
          · exfalso; omega
          · refine lv_iload_n X.1 X.2.1 dX11_exchange_53 rfl (lv_at hl 2 rfl) ?_
            refine lv_iload_n X.1 X.2.1 dX11_exchange_54 rfl (lv_at hl 3 rfl) ?_
            refine z_icmp_ge (tgt := 64) X dX11_exchange_55 (by decide) (nI_toInt (by omega)) (nI_toInt (by omega)) (fun c55 => ?_) (fun c55 => ?_)
            · exfalso; omega
            · refine lv_iload_n X.1 X.2.1 dX11_exchange_58 rfl (lv_at hl 3 rfl) ?_
              refine lv_iload X.1 X.2.1 dX11_exchange_59 (lv_at hl 4 rfl) ?_
              refine z_icmp_lt (tgt := 66) X dX11_exchange_61 (by decide) (nI_toInt (by omega)) (nI_toInt (by omega)) (fun c61 => ?_) (fun c61 => ?_)
              · refine lv_aload_n X.1 X.2.1 dX11_exchange_66 rfl (lv_at hl 0 rfl) ?_
                refine va_get (D := g.1) (ci := 10) (v := .ref sa) (C := RX11) (T := TX11) (N := 11) X.1 X.2.1 X.2.2.2.2 iwX11 X.2.2.2.1 hK hP 0 rfl rfl 0 (by decide) (X.2.2.2.2 _ q236) (fun _ h9 => h9) rfl dX11_exchange_67 ?_
                refine (c_sh_n g sa k n B T).callV (rest := []) X dX11_exchange_70 q316 tX6_blockSize hK (hP.sub [1] rfl) 0 6 rfl rfl rfl hl ⟨⟨Nat.le_of_ble_eq_true rfl, Nat.le_of_ble_eq_true rfl⟩, Nat.le_of_ble_eq_true rfl, Nat.le_of_ble_eq_true rfl⟩ rfl rfl (Nat.le_of_ble_eq_true rfl) ?_
                refine lv_iconst (v := (nI 1)) X.1 X.2.1 dX11_exchange_73 (by decide) ?_
                refine n_sub X dX11_exchange_74 (by omega) ?_
                refine lv_istore (lv' := [(5, .int (nI (n - 1))), (0, .ref b0), (1, .int (nI i1)), (2, .int (nI i2)), (3, .int (nI i3)), (4, .int (nI i4))]) X.1 X.2.1 dX11_exchange_75 hl (by decide) rfl (fun ls hl => ?_)
                refine lv_aload_n X.1 X.2.1 dX11_exchange_77 rfl (lv_at hl 1 rfl) ?_
                refine va_get (D := g.1) (ci := 10) (v := .ref qa) (C := RX11) (T := TX11) (N := 11) X.1 X.2.1 X.2.2.2.2 iwX11 X.2.2.2.1 hK hP 0 rfl rfl 1 (by decide) (X.2.2.2.2 _ q237) (fun _ h9 => h9) rfl dX11_exchange_78 ?_
                refine lv_iload_n X.1 X.2.1 dX11_exchange_81 rfl (lv_at hl 2 rfl) ?_
                refine lv_iload_n X.1 X.2.1 dX11_exchange_82 rfl (lv_at hl 4 rfl) ?_
                refine lv_iload X.1 X.2.1 dX11_exchange_83 (lv_at hl 0 rfl) ?_
                refine (c_Word_repeats g qa qb s f i1 i3 (n - 1) (by omega) (by assumption) (hbs) (by omega) (by omega) (by omega) (by omega)).callV (rest := []) X dX11_exchange_85 q650 tX10_repeats hK (hP.sub [2, 3] rfl) 0 9 rfl rfl rfl hl ⟨⟨Nat.le_of_ble_eq_true rfl, Nat.le_of_ble_eq_true rfl⟩, Nat.le_of_ble_eq_true rfl, Nat.le_of_ble_eq_true rfl⟩ rfl rfl (Nat.le_of_ble_eq_true rfl) ?_
                refine b_if_eq (tgt := 106) X dX11_exchange_88 (by decide) (fun c88 => ?_) (fun c88 => ?_)
                · refine lv_bipush (v := (-5)) X.1 X.2.1 dX11_exchange_106 (by decide) ?_
                  exact PuI.ret X hr hlk dX11_exchange_108 (nI_nar _) (rfl)
                · refine lv_aload_n X.1 X.2.1 dX11_exchange_91 rfl (lv_at hl 1 rfl) ?_
                  refine va_get (D := g.1) (ci := 10) (v := .ref qa) (C := RX11) (T := TX11) (N := 11) X.1 X.2.1 X.2.2.2.2 iwX11 X.2.2.2.1 hK hP 0 rfl rfl 1 (by decide) (X.2.2.2.2 _ q237) (fun _ h9 => h9) rfl dX11_exchange_92 ?_
                  refine lv_iload_n X.1 X.2.1 dX11_exchange_95 rfl (lv_at hl 3 rfl) ?_
                  refine lv_iload X.1 X.2.1 dX11_exchange_96 (lv_at hl 5 rfl) ?_
                  refine lv_iload X.1 X.2.1 dX11_exchange_98 (lv_at hl 0 rfl) ?_
                  refine (c_Word_repeats g qa qb s f i2 i4 (n - 1) (by omega) (by assumption) (hbs) (by omega) (by omega) (by omega) (by omega)).callV (rest := []) X dX11_exchange_100 q650 tX10_repeats hK (hP.sub [2, 3] rfl) 0 9 rfl rfl rfl hl ⟨⟨Nat.le_of_ble_eq_true rfl, Nat.le_of_ble_eq_true rfl⟩, Nat.le_of_ble_eq_true rfl, Nat.le_of_ble_eq_true rfl⟩ rfl rfl (Nat.le_of_ble_eq_true rfl) ?_
                  refine b_if_ne (tgt := 109) X dX11_exchange_103 (by decide) (fun c103 => ?_) (fun c103 => ?_)
                  · exfalso; rw [c88, c103] at hrr; cases hrr
                  · refine lv_bipush (v := (-5)) X.1 X.2.1 dX11_exchange_106 (by decide) ?_
                    exact PuI.ret X hr hlk dX11_exchange_108 (nI_nar _) (rfl)
              · exfalso; omega
        · exfalso; rw [p4] at c42; cases c42

set_option maxHeartbeats 4000000 in
set_option maxRecDepth 100000 in
theorem b_exchange_no1 (g : G5) (b0 : Nat) (sa : Nat) (qa : Nat) (da : Nat) (ka : Nat) (o : Nat) (ca : Nat) (pa : Nat) (ha : Nat) (na : Nat) (ta : Nat) (ua : Nat) (k : Nat) (n : Nat) (B : Nat) (T : Nat) (qb : Nat) (s : List Nat) (f : Nat → Int32) (x1 : Int32) (x2 : Int32) (x3 : Int32) (x4 : Int32) (hc : shp k n B T) (hs : s.length ≤ 256) (hno : (hasB x1 s.length && hasB x2 s.length && hasB x3 s.length && hasB x4 s.length) = false ∨ ¬ (x1.toInt < x2.toInt ∧ x2.toInt < x3.toInt ∧ x3.toInt < x4.toInt)) : PuI yX11_exchange cX11_exchange 6 (some .int) 4 105 g [.ref b0, .int x1, .int x2, .int x3, .int x4] [(b0, .inr (10, [.ref sa, .ref qa, .ref da, .ref ka, .ref o, .ref ca, .ref pa, .ref ha, .ref na, .ref ta, .ref ua])), (sa, .inr (6, [.int (nI k), .int (nI n), .int (nI B), .int (nI T)])), (qa, .inr (9, [.ref qb, .int (nI s.length)])), (qb, .inl (g.2.1, 256, .inl f))] (if (hasB x1 s.length && hasB x2 s.length && hasB x3 s.length && hasB x4 s.length) then (-1) else (-2)) := by
  refine PuI.of (by decide +kernel) (Nat.le_of_ble_eq_true rfl) ?_
  intro p_ l_ e_ S_ m_ args below meth co X hr hlk hP hK ls hl
  have X : CallFix p_ m_ co cX11_exchange 6 S_ args lw_all RX11 := X
  have hl : lv_has ls 6 [(0, .ref b0), (1, .int x1), (2, .int x2), (3, .int x3), (4, .int x4)] := hl
  refine lv_aload_n X.1 X.2.1 dX11_exchange_0 rfl (lv_at hl 0 rfl) ?_
  refine va_get (D := g.1) (ci := 10) (v := .ref qa) (C := RX11) (T := TX11) (N := 11) X.1 X.2.1 X.2.2.2.2 iwX11 X.2.2.2.1 hK hP 0 rfl rfl 1 (by decide) (X.2.2.2.2 _ q237) (fun _ h9 => h9) rfl dX11_exchange_1 ?_
  refine lv_iload_n X.1 X.2.1 dX11_exchange_4 rfl (lv_at hl 1 rfl) ?_
  refine (c_Word_has g qa qb s f x1 (by omega)).callV (rest := []) X dX11_exchange_5 q598 tX10_has hK (hP.sub [2, 3] rfl) 0 9 rfl rfl rfl hl ⟨⟨Nat.le_of_ble_eq_true rfl, Nat.le_of_ble_eq_true rfl⟩, Nat.le_of_ble_eq_true rfl, Nat.le_of_ble_eq_true rfl⟩ rfl rfl (Nat.le_of_ble_eq_true rfl) ?_
  refine b_if_eq (tgt := 45) X dX11_exchange_8 (by decide) (fun c8 => ?_) (fun c8 => ?_)
  · refine lv_bipush (v := (-2)) X.1 X.2.1 dX11_exchange_45 (by decide) ?_
    exact PuI.ret X hr hlk dX11_exchange_47 (nI_nar _) (by rw [c8]; first | rfl | (rw [c19]; first | rfl | (rw [c30]; first | rfl | (rw [c42]; rfl))))
  · refine lv_aload_n X.1 X.2.1 dX11_exchange_11 rfl (lv_at hl 0 rfl) ?_
    refine va_get (D := g.1) (ci := 10) (v := .ref qa) (C := RX11) (T := TX11) (N := 11) X.1 X.2.1 X.2.2.2.2 iwX11 X.2.2.2.1 hK hP 0 rfl rfl 1 (by decide) (X.2.2.2.2 _ q237) (fun _ h9 => h9) rfl dX11_exchange_12 ?_
    refine lv_iload_n X.1 X.2.1 dX11_exchange_15 rfl (lv_at hl 2 rfl) ?_
    refine (c_Word_has g qa qb s f x2 (by omega)).callV (rest := []) X dX11_exchange_16 q598 tX10_has hK (hP.sub [2, 3] rfl) 0 9 rfl rfl rfl hl ⟨⟨Nat.le_of_ble_eq_true rfl, Nat.le_of_ble_eq_true rfl⟩, Nat.le_of_ble_eq_true rfl, Nat.le_of_ble_eq_true rfl⟩ rfl rfl (Nat.le_of_ble_eq_true rfl) ?_
    refine b_if_eq (tgt := 45) X dX11_exchange_19 (by decide) (fun c19 => ?_) (fun c19 => ?_)
    · refine lv_bipush (v := (-2)) X.1 X.2.1 dX11_exchange_45 (by decide) ?_
      exact PuI.ret X hr hlk dX11_exchange_47 (nI_nar _) (by rw [c8]; first | rfl | (rw [c19]; first | rfl | (rw [c30]; first | rfl | (rw [c42]; rfl))))
    · refine lv_aload_n X.1 X.2.1 dX11_exchange_22 rfl (lv_at hl 0 rfl) ?_
      refine va_get (D := g.1) (ci := 10) (v := .ref qa) (C := RX11) (T := TX11) (N := 11) X.1 X.2.1 X.2.2.2.2 iwX11 X.2.2.2.1 hK hP 0 rfl rfl 1 (by decide) (X.2.2.2.2 _ q237) (fun _ h9 => h9) rfl dX11_exchange_23 ?_
      refine lv_iload_n X.1 X.2.1 dX11_exchange_26 rfl (lv_at hl 3 rfl) ?_
      refine (c_Word_has g qa qb s f x3 (by omega)).callV (rest := []) X dX11_exchange_27 q598 tX10_has hK (hP.sub [2, 3] rfl) 0 9 rfl rfl rfl hl ⟨⟨Nat.le_of_ble_eq_true rfl, Nat.le_of_ble_eq_true rfl⟩, Nat.le_of_ble_eq_true rfl, Nat.le_of_ble_eq_true rfl⟩ rfl rfl (Nat.le_of_ble_eq_true rfl) ?_
      refine b_if_eq (tgt := 45) X dX11_exchange_30 (by decide) (fun c30 => ?_) (fun c30 => ?_)
      · refine lv_bipush (v := (-2)) X.1 X.2.1 dX11_exchange_45 (by decide) ?_
        exact PuI.ret X hr hlk dX11_exchange_47 (nI_nar _) (by rw [c8]; first | rfl | (rw [c19]; first | rfl | (rw [c30]; first | rfl | (rw [c42]; rfl))))
      · refine lv_aload_n X.1 X.2.1 dX11_exchange_33 rfl (lv_at hl 0 rfl) ?_
        refine va_get (D := g.1) (ci := 10) (v := .ref qa) (C := RX11) (T := TX11) (N := 11) X.1 X.2.1 X.2.2.2.2 iwX11 X.2.2.2.1 hK hP 0 rfl rfl 1 (by decide) (X.2.2.2.2 _ q237) (fun _ h9 => h9) rfl dX11_exchange_34 ?_
        refine lv_iload X.1 X.2.1 dX11_exchange_37 (lv_at hl 4 rfl) ?_
        refine (c_Word_has g qa qb s f x4 (by omega)).callV (rest := []) X dX11_exchange_39 q598 tX10_has hK (hP.sub [2, 3] rfl) 0 9 rfl rfl rfl hl ⟨⟨Nat.le_of_ble_eq_true rfl, Nat.le_of_ble_eq_true rfl⟩, Nat.le_of_ble_eq_true rfl, Nat.le_of_ble_eq_true rfl⟩ rfl rfl (Nat.le_of_ble_eq_true rfl) ?_
        refine b_if_ne (tgt := 48) X dX11_exchange_42 (by decide) (fun c42 => ?_) (fun c42 => ?_)
        · refine lv_iload_n X.1 X.2.1 dX11_exchange_48 rfl (lv_at hl 1 rfl) ?_
          refine lv_iload_n X.1 X.2.1 dX11_exchange_49 rfl (lv_at hl 2 rfl) ?_
          refine z_icmp_ge (tgt := 64) X dX11_exchange_50 (by decide) rfl rfl (fun c50 => ?_) (fun c50 => ?_)
          · refine lv_iconst (v := (-1)) X.1 X.2.1 dX11_exchange_64 (by decide) ?_
            exact PuI.ret X hr hlk dX11_exchange_65 (nI_nar _) (by rw [c8, c19, c30, c42]; rfl)
          · refine lv_iload_n X.1 X.2.1 dX11_exchange_53 rfl (lv_at hl 2 rfl) ?_
            refine lv_iload_n X.1 X.2.1 dX11_exchange_54 rfl (lv_at hl 3 rfl) ?_
            refine z_icmp_ge (tgt := 64) X dX11_exchange_55 (by decide) rfl rfl (fun c55 => ?_) (fun c55 => ?_)
            · refine lv_iconst (v := (-1)) X.1 X.2.1 dX11_exchange_64 (by decide) ?_
              exact PuI.ret X hr hlk dX11_exchange_65 (nI_nar _) (by rw [c8, c19, c30, c42]; rfl)
            · refine lv_iload_n X.1 X.2.1 dX11_exchange_58 rfl (lv_at hl 3 rfl) ?_
              refine lv_iload X.1 X.2.1 dX11_exchange_59 (lv_at hl 4 rfl) ?_
              refine z_icmp_lt (tgt := 66) X dX11_exchange_61 (by decide) rfl rfl (fun c61 => ?_) (fun c61 => ?_)
              · exfalso; (rcases hno with h | h) <;> first | (rw [c8, c19, c30, c42] at h; cases h) | omega
              · refine lv_iconst (v := (-1)) X.1 X.2.1 dX11_exchange_64 (by decide) ?_
                exact PuI.ret X hr hlk dX11_exchange_65 (nI_nar _) (by rw [c8, c19, c30, c42]; rfl)
        · refine lv_bipush (v := (-2)) X.1 X.2.1 dX11_exchange_45 (by decide) ?_
          exact PuI.ret X hr hlk dX11_exchange_47 (nI_nar _) (by rw [c8]; first | rfl | (rw [c19]; first | rfl | (rw [c30]; first | rfl | (rw [c42]; rfl))))
