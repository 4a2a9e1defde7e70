set_option maxHeartbeats 4000000 in
set_option maxRecDepth 100000 in
theorem c_s_coder (g : G5) (adK adV : Nat → Nat) (fm : Value) (i : Nat) (hi : i < 4) : PuE yJ0_coder_7d493 cJ0_coder_7d493 1 (some .byte) 0 0 g adK adV fm [.ref (adK i)] [] 0 := by
  refine PuE.of (by decide +kernel) (Nat.le_of_ble_eq_true rfl) ?_
  intro p_ l_ e_ S_ m_ args below meth co X hr hlk hP hK hE ls hl
  have X : CallFix p_ m_ co cJ0_coder_7d493 1 S_ args lw_all RJ0 := X
  have hl : lv_has ls 1 [(0, .ref (adK i))] := hl
  refine va_gets (v := .int 1) X.1 X.2.1 hE.2.1 va_S.rf X.2.2.2.1 (X.2.2.2.2 _ q540) (fun _ h9 => h9) dJ0_coder_7d493_0 ?_
  refine z_if_eq (tgt := 13) X dJ0_coder_7d493_3 (by decide) (show Int32.toInt (1) = 1 from rfl) (fun c3 => ?_) (fun c3 => ?_)
  · exfalso; omega
  · refine lv_aload_n X.1 X.2.1 dJ0_coder_7d493_6 rfl (lv_at hl 0 rfl) ?_
    refine vk_getf (v := .int 0) X.1 X.2.1 (hE.1.1 i (by omega)).2.1 va_S.rf X.2.2.2.1 (X.2.2.2.2 _ q1479) (fun _ h9 => h9) dJ0_coder_7d493_7 ?_
    refine lv_goto (tgt := 14) X.1 X.2.1 dJ0_coder_7d493_10 (by decide) ?_
    exact PuI.ret X hr hlk dJ0_coder_7d493_14 rfl (rfl)

set_option maxHeartbeats 4000000 in
set_option maxRecDepth 100000 in
theorem c_s_lat (g : G5) (adK adV : Nat → Nat) (fm : Value) (i : Nat) (hi : i < 4) : PuE yJ0_isLatin1_aae02 cJ0_isLatin1_aae02 1 (some .boolean) 0 0 g adK adV fm [.ref (adK i)] [] (bI true) := by
  refine PuE.of (by decide +kernel) (Nat.le_of_ble_eq_true rfl) ?_
  intro p_ l_ e_ S_ m_ args below meth co X hr hlk hP hK hE ls hl
  have X : CallFix p_ m_ co cJ0_isLatin1_aae02 1 S_ args lw_all RJ0 := X
  have hl : lv_has ls 1 [(0, .ref (adK i))] := hl
  refine va_gets (v := .int 1) X.1 X.2.1 hE.2.1 va_S.rf X.2.2.2.1 (X.2.2.2.2 _ q540) (fun _ h9 => h9) dJ0_isLatin1_aae02_0 ?_
  refine z_if_eq (tgt := 17) X dJ0_isLatin1_aae02_3 (by decide) (show Int32.toInt (1) = 1 from rfl) (fun c3 => ?_) (fun c3 => ?_)
  · exfalso; omega
  · refine lv_aload_n X.1 X.2.1 dJ0_isLatin1_aae02_6 rfl (lv_at hl 0 rfl) ?_
    refine vk_getf (v := .int 0) X.1 X.2.1 (hE.1.1 i (by omega)).2.1 va_S.rf X.2.2.2.1 (X.2.2.2.2 _ q1479) (fun _ h9 => h9) dJ0_isLatin1_aae02_7 ?_
    refine z_if_ne (tgt := 17) X dJ0_isLatin1_aae02_10 (by decide) (show Int32.toInt (0) = 0 from rfl) (fun c10 => ?_) (fun c10 => ?_)
    · exfalso; omega
    · refine lv_iconst (v := (nI 1)) X.1 X.2.1 dJ0_isLatin1_aae02_13 (by decide) ?_
      refine lv_goto (tgt := 18) X.1 X.2.1 dJ0_isLatin1_aae02_14 (by decide) ?_
      exact PuI.ret X hr hlk dJ0_isLatin1_aae02_18 (bI_nar _) (rfl)

set_option maxHeartbeats 4000000 in
set_option maxRecDepth 100000 in
theorem c_s_len (g : G5) (adK adV : Nat → Nat) (fm : Value) (i : Nat) (hi : i < 4) : PuE yJ0_length_8abf5 cJ0_length_8abf5 1 (some .int) 1 20 g adK adV fm [.ref (adK i)] [] (nI (lenS.getD i 0)) := by
  refine PuE.of (by decide +kernel) (Nat.le_of_ble_eq_true rfl) ?_
  intro p_ l_ e_ S_ m_ args below meth co X hr hlk hP hK hE ls hl
  have X : CallFix p_ m_ co cJ0_length_8abf5 1 S_ args lw_all RJ0 := X
  have hl : lv_has ls 1 [(0, .ref (adK i))] := hl
  refine lv_aload_n X.1 X.2.1 dJ0_length_8abf5_0 rfl (lv_at hl 0 rfl) ?_
  refine vk_getf (v := .ref (adV i)) X.1 X.2.1 (hE.1.1 i (by omega)).2.2.1 va_S.rf X.2.2.2.1 (X.2.2.2.2 _ q1478) (fun _ h9 => h9) dJ0_length_8abf5_1 ?_
  refine va_tlen (v := nI (lenS.getD i 0)) X.1 X.2.1 (hE.1.1 i (by omega)).2.2.2 va_S.rf rfl dJ0_length_8abf5_4 ?_
  refine lv_aload_n X.1 X.2.1 dJ0_length_8abf5_5 rfl (lv_at hl 0 rfl) ?_
  refine (c_s_coder g adK adV fm i (by omega)).callV (rest := [.int (nI (lenS.getD i 0))]) X dJ0_length_8abf5_6 q536 tJ0_coder_7d493 hK (hP.sub [] rfl) hE (vk_recv hE.1 (by omega) va_S.rf) hl ⟨⟨Nat.le_of_ble_eq_true rfl, Nat.le_of_ble_eq_true rfl⟩, Nat.le_of_ble_eq_true rfl, Nat.le_of_ble_eq_true rfl⟩ rfl rfl (Nat.le_of_ble_eq_true rfl) ?_
  refine lv_ishr X.1 X.2.1 dJ0_length_8abf5_9 ?_
  exact PuI.ret X hr hlk dJ0_length_8abf5_10 (nI_nar _) (sb_shr0 _)

set_option maxHeartbeats 4000000 in
set_option maxRecDepth 100000 in
theorem c_s_pren (g : G5) (x : Nat) (y : Nat) (hx : x < y) (hy : y < 1000) : PuI yJ3_checkIndex_8e157 cJ3_checkIndex_8e157 3 (some .int) 0 0 g [.int (nI x), .int (nI y), .null] [] (nI x) := by
  refine PuI.ofF (by decide +kernel) (Nat.le_of_ble_eq_true rfl) ?_
  intro p_ l_ e_ S_ m_ args below meth co X hr hlk hP hK ls hl
  have X : CallFix p_ m_ co cJ3_checkIndex_8e157 3 S_ args lw_all RJ3 := X
  have hl : lv_has ls 3 [(0, .int (nI x)), (1, .int (nI y)), (2, .null)] := hl
  refine lv_iload_n X.1 X.2.1 dJ3_checkIndex_8e157_0 rfl (lv_at hl 0 rfl) ?_
  refine z_if_lt (tgt := 9) X dJ3_checkIndex_8e157_1 (by decide) (nI_toInt (by omega)) (fun c1 => ?_) (fun c1 => ?_)
  · exfalso; omega
  · refine lv_iload_n X.1 X.2.1 dJ3_checkIndex_8e157_4 rfl (lv_at hl 0 rfl) ?_
    refine lv_iload_n X.1 X.2.1 dJ3_checkIndex_8e157_5 rfl (lv_at hl 1 rfl) ?_
    refine z_icmp_lt (tgt := 16) X dJ3_checkIndex_8e157_6 (by decide) (nI_toInt (by omega)) (nI_toInt (by omega)) (fun c6 => ?_) (fun c6 => ?_)
    · refine lv_iload_n X.1 X.2.1 dJ3_checkIndex_8e157_16 rfl (lv_at hl 0 rfl) ?_
      exact PuI.ret X hr hlk dJ3_checkIndex_8e157_17 (nI_nar _) (rfl)
    · exfalso; omega

set_option maxHeartbeats 4000000 in
set_option maxRecDepth 100000 in
theorem c_s_prer (g : G5) (x : Nat) (y : Nat) (t : Nat) (hx : x < y) (hy : y < 1000) : PuI yJ3_checkIndex_8e157 cJ3_checkIndex_8e157 3 (some .int) 0 0 g [.int (nI x), .int (nI y), .ref t] [] (nI x) := by
  refine PuI.ofF (by decide +kernel) (Nat.le_of_ble_eq_true rfl) ?_
  intro p_ l_ e_ S_ m_ args below meth co X hr hlk hP hK ls hl
  have X : CallFix p_ m_ co cJ3_checkIndex_8e157 3 S_ args lw_all RJ3 := X
  have hl : lv_has ls 3 [(0, .int (nI x)), (1, .int (nI y)), (2, .ref t)] := hl
  refine lv_iload_n X.1 X.2.1 dJ3_checkIndex_8e157_0 rfl (lv_at hl 0 rfl) ?_
  refine z_if_lt (tgt := 9) X dJ3_checkIndex_8e157_1 (by decide) (nI_toInt (by omega)) (fun c1 => ?_) (fun c1 => ?_)
  · exfalso; omega
  · refine lv_iload_n X.1 X.2.1 dJ3_checkIndex_8e157_4 rfl (lv_at hl 0 rfl) ?_
    refine lv_iload_n X.1 X.2.1 dJ3_checkIndex_8e157_5 rfl (lv_at hl 1 rfl) ?_
    refine z_icmp_lt (tgt := 16) X dJ3_checkIndex_8e157_6 (by decide) (nI_toInt (by omega)) (nI_toInt (by omega)) (fun c6 => ?_) (fun c6 => ?_)
    · refine lv_iload_n X.1 X.2.1 dJ3_checkIndex_8e157_16 rfl (lv_at hl 0 rfl) ?_
      exact PuI.ret X hr hlk dJ3_checkIndex_8e157_17 (nI_nar _) (rfl)
    · exfalso; omega

set_option maxHeartbeats 4000000 in
set_option maxRecDepth 100000 in
theorem c_s_chk (g : G5) (adK adV : Nat → Nat) (fm : Value) (x : Nat) (y : Nat) (hx : x < y) (hy : y < 1000) : PuVE yJ0_checkIndex_df160 cJ0_checkIndex_df160 2 none 1 22 g adK adV fm [.int (nI x), .int (nI y)] [] := by
  refine PuVE.of (by decide +kernel) (Nat.le_of_ble_eq_true rfl) ?_
  intro p_ l_ e_ S_ m_ args below meth co X hr hlk hP hK hE ls hl
  have X : CallFix p_ m_ co cJ0_checkIndex_df160 2 S_ args lw_all RJ0 := X
  have hl : lv_has ls 2 [(0, .int (nI x)), (1, .int (nI y))] := hl
  refine lv_iload_n X.1 X.2.1 dJ0_checkIndex_df160_0 rfl (lv_at hl 0 rfl) ?_
  refine lv_iload_n X.1 X.2.1 dJ0_checkIndex_df160_1 rfl (lv_at hl 1 rfl) ?_
  refine va_gets (v := fm) X.1 X.2.1 hE.2.2.1 va_S.rf X.2.2.2.1 (X.2.2.2.2 _ q556) (fun _ h9 => h9) dJ0_checkIndex_df160_2 ?_
  rcases hE.2.2.2.1 with rfl | ⟨t, rfl⟩
  · refine (c_s_pren g x y (by omega) (by omega)).callS (rest := []) X dJ0_checkIndex_df160_5 q558 tJ3_checkIndex_8e157 hK (hP.sub [] rfl) hl ⟨⟨Nat.le_of_ble_eq_true rfl, Nat.le_of_ble_eq_true rfl⟩, Nat.le_of_ble_eq_true rfl, Nat.le_of_ble_eq_true rfl⟩ rfl rfl (Nat.le_of_ble_eq_true rfl) ?_
    refine lv_pop X.1 X.2.1 dJ0_checkIndex_df160_8 rfl ?_
    exact PuVE.done X hr hlk dJ0_checkIndex_df160_9
  · refine (c_s_prer g x y t (by omega) (by omega)).callS (rest := []) X dJ0_checkIndex_df160_5 q558 tJ3_checkIndex_8e157 hK (hP.sub [] rfl) hl ⟨⟨Nat.le_of_ble_eq_true rfl, Nat.le_of_ble_eq_true rfl⟩, Nat.le_of_ble_eq_true rfl, Nat.le_of_ble_eq_true rfl⟩ rfl rfl (Nat.le_of_ble_eq_true rfl) ?_
    refine lv_pop X.1 X.2.1 dJ0_checkIndex_df160_8 rfl ?_
    exact PuVE.done X hr hlk dJ0_checkIndex_df160_9

set_option maxHeartbeats 4000000 in
set_option maxRecDepth 100000 in
theorem c_s_latat (g : G5) (adK adV : Nat → Nat) (fm : Value) (i : Nat) (j : Nat) (hi : i < 4) (hj : j < lenS.getD i 0) : PuE yJ1_charAt_3b067 cJ1_charAt_3b067 2 (some .char) 2 43 g adK adV fm [.ref (adV i), .int (nI j)] [] (nI (chS i j)) := by
  refine PuE.of (by decide +kernel) (Nat.le_of_ble_eq_true rfl) ?_
  intro p_ l_ e_ S_ m_ args below meth co X hr hlk hP hK hE ls hl
  have X : CallFix p_ m_ co cJ1_charAt_3b067 2 S_ args lw_all RJ1 := X
  have hl : lv_has ls 2 [(0, .ref (adV i)), (1, .int (nI j))] := hl
  have hlen : lenS.getD i 0 ≤ 8 := lenS_le i
  have hch := chS_ok i hi j hj
  refine lv_iload_n X.1 X.2.1 dJ1_charAt_3b067_0 rfl (lv_at hl 1 rfl) ?_
  refine lv_aload_n X.1 X.2.1 dJ1_charAt_3b067_1 rfl (lv_at hl 0 rfl) ?_
  refine va_tlen (v := nI (lenS.getD i 0)) X.1 X.2.1 (hE.1.1 i (by omega)).2.2.2 va_S.rf rfl dJ1_charAt_3b067_2 ?_
  refine (c_s_chk g adK adV fm j (lenS.getD i 0) (by omega) (by omega)).callS (rest := []) X dJ1_charAt_3b067_3 q553 tJ0_checkIndex_df160 hK (hP.sub [] rfl) hE hl ⟨⟨Nat.le_of_ble_eq_true rfl, Nat.le_of_ble_eq_true rfl⟩, Nat.le_of_ble_eq_true rfl, Nat.le_of_ble_eq_true rfl⟩ rfl rfl (Nat.le_of_ble_eq_true rfl) ?_
  refine lv_aload_n X.1 X.2.1 dJ1_charAt_3b067_6 rfl (lv_at hl 0 rfl) ?_
  refine lv_iload_n X.1 X.2.1 dJ1_charAt_3b067_7 rfl (lv_at hl 1 rfl) ?_
  refine va_tb (v := .int ((bytS.getD i []).getD j 0)) X.1 X.2.1 (hE.1.1 i (by omega)).2.2.2 va_S.rf (vp_in_nI (by omega) (by omega)) (by rw [nI_clamp (by omega)]) dJ1_charAt_3b067_8 ?_
  refine lv_sipush (v := (nI 255)) X.1 X.2.1 dJ1_charAt_3b067_9 (by decide) ?_
  refine lv_iand X.1 X.2.1 dJ1_charAt_3b067_12 ?_
  refine lv_i2c X.1 X.2.1 dJ1_charAt_3b067_13 rfl ?_
  refine tp_i (y := (nI (chS i j))) (hch.1) ?_
  exact PuI.ret X hr hlk dJ1_charAt_3b067_14 ((pk_charN (by omega)).1) (rfl)

set_option maxHeartbeats 4000000 in
set_option maxRecDepth 100000 in
theorem c_s_at (g : G5) (adK adV : Nat → Nat) (fm : Value) (i : Nat) (j : Nat) (hi : i < 4) (hj : j < lenS.getD i 0) : PuE yJ0_charAt_5068e cJ0_charAt_5068e 2 (some .char) 4 85 g adK adV fm [.ref (adK i), .int (nI j)] [] (nI (chS i j)) := by
  refine PuE.of (by decide +kernel) (Nat.le_of_ble_eq_true rfl) ?_
  intro p_ l_ e_ S_ m_ args below meth co X hr hlk hP hK hE ls hl
  have X : CallFix p_ m_ co cJ0_charAt_5068e 2 S_ args lw_all RJ0 := X
  have hl : lv_has ls 2 [(0, .ref (adK i)), (1, .int (nI j))] := hl
  have hlen : lenS.getD i 0 ≤ 8 := lenS_le i
  have hch := chS_ok i hi j hj
  refine lv_aload_n X.1 X.2.1 dJ0_charAt_5068e_0 rfl (lv_at hl 0 rfl) ?_
  refine (c_s_lat g adK adV fm i (by omega)).callV (rest := []) X dJ0_charAt_5068e_1 q546 tJ0_isLatin1_aae02 hK (hP.sub [] rfl) hE (vk_recv hE.1 (by omega) va_S.rf) hl ⟨⟨Nat.le_of_ble_eq_true rfl, Nat.le_of_ble_eq_true rfl⟩, Nat.le_of_ble_eq_true rfl, Nat.le_of_ble_eq_true rfl⟩ rfl rfl (Nat.le_of_ble_eq_true rfl) ?_
  refine b_if_eq (tgt := 16) X dJ0_charAt_5068e_4 (by decide) (fun c4 => ?_) (fun c4 => ?_)
  · exfalso; cases c4
  · refine lv_aload_n X.1 X.2.1 dJ0_charAt_5068e_7 rfl (lv_at hl 0 rfl) ?_
    refine vk_getf (v := .ref (adV i)) X.1 X.2.1 (hE.1.1 i (by omega)).2.2.1 va_S.rf X.2.2.2.1 (X.2.2.2.2 _ q1478) (fun _ h9 => h9) dJ0_charAt_5068e_8 ?_
    refine lv_iload_n X.1 X.2.1 dJ0_charAt_5068e_11 rfl (lv_at hl 1 rfl) ?_
    refine (c_s_latat g adK adV fm i j (by omega) (by omega)).callS (rest := []) X dJ0_charAt_5068e_12 q550 tJ1_charAt_3b067 hK (hP.sub [] rfl) hE hl ⟨⟨Nat.le_of_ble_eq_true rfl, Nat.le_of_ble_eq_true rfl⟩, Nat.le_of_ble_eq_true rfl, Nat.le_of_ble_eq_true rfl⟩ rfl rfl (Nat.le_of_ble_eq_true rfl) ?_
    exact PuI.ret X hr hlk dJ0_charAt_5068e_15 ((pk_charN (by omega)).1) (rfl)

set_option maxHeartbeats 4000000 in
set_option maxRecDepth 100000 in
theorem c_cm_name (g : G5) (adK adV : Nat → Nat) (fm : Value) (i : Nat) (hi : i < 4) : PuRE yX2_nameOf cX2_nameOf 1 (some (.object "java/lang/String")) 0 0 g adK adV fm [.int (nI i)] [] i := by
  refine PuRE.of (by decide +kernel) (Nat.le_of_ble_eq_true rfl) ?_
  intro p_ l_ e_ S_ m_ args below meth co X hr hlk hP hK hE ls hl
  have X : CallFix p_ m_ co cX2_nameOf 1 S_ args lw_all RX2 := X
  have hl : lv_has ls 1 [(0, .int (nI i))] := hl
  refine lv_iload_n X.1 X.2.1 dX2_nameOf_0 rfl (lv_at hl 0 rfl) ?_
  rcases (show i = 0 ∨ i = 1 ∨ i = 2 ∨ i = 3 by omega) with rfl | rfl | rfl | rfl
  · refine lv_tableIn (tgt := 28) X.1 X.2.1 dX2_nameOf_1 (by decide) (by decide) rfl (by decide) ?_
    refine va_ldcS (q := adK 0) X.1 X.2.1 X.2.2.2.1 (hE.2.2.2.2.1.1) dX2_nameOf_28 ?_
    exact PuRE.done X hr hlk dX2_nameOf_30 (rfl)
  · refine lv_tableIn (tgt := 31) X.1 X.2.1 dX2_nameOf_1 (by decide) (by decide) rfl (by decide) ?_
    refine va_ldcS (q := adK 1) X.1 X.2.1 X.2.2.2.1 (hE.2.2.2.2.1.2.1) dX2_nameOf_31 ?_
    exact PuRE.done X hr hlk dX2_nameOf_33 (rfl)
  · refine lv_tableIn (tgt := 34) X.1 X.2.1 dX2_nameOf_1 (by decide) (by decide) rfl (by decide) ?_
    refine va_ldcS (q := adK 2) X.1 X.2.1 X.2.2.2.1 (hE.2.2.2.2.1.2.2.1) dX2_nameOf_34 ?_
    exact PuRE.done X hr hlk dX2_nameOf_36 (rfl)
  · refine lv_tableOut (tgt := 37) X.1 X.2.1 dX2_nameOf_1 (Or.inr (by decide)) (by decide) ?_
    refine va_ldcS (q := adK 3) X.1 X.2.1 X.2.2.2.1 (hE.2.2.2.2.1.2.2.2) dX2_nameOf_37 ?_
    exact PuRE.done X hr hlk dX2_nameOf_39 (rfl)

set_option maxHeartbeats 4000000 in
set_option maxRecDepth 100000 in
theorem c_cm_isName (g : G5) (adK adV : Nat → Nat) (fm : Value) (a : Nat) (b : Nat) (c : List Nat) (f : Nat → Int32) (i : Nat) (hc : c.length ≤ 20) (hf : rep f c) (hb : bch c) (hi : i < 4) : PuE yX2_isName cX2_isName 3 (some .boolean) 5 106 g adK adV fm [.ref a, .ref (adK i)] [(a, .inr (2, [.ref b, .int (nI c.length)])), (b, .inl (g.2.2.2, 20, .inl f))] (bI (nmB c i)) := by
  refine PuE.of (by decide +kernel) (Nat.le_of_ble_eq_true rfl) ?_
  intro p_ l_ e_ S_ m_ args below meth co X hr hlk hP hK hE ls hl
  have X : CallFix p_ m_ co cX2_isName 3 S_ args lw_all RX2 := X
  have hl : lv_has ls 3 [(0, .ref a), (1, .ref (adK i))] := hl
  have hlen : lenS.getD i 0 ≤ 8 := lenS_le i
  have hce := ceN_le c
  refine lv_aload_n X.1 X.2.1 dX2_isName_0 rfl (lv_at hl 0 rfl) ?_
  refine (c_cm_end g a b c f (by omega) (by assumption) (by assumption)).callV (rest := []) X dX2_isName_1 q528 tX2_nameEnd hK (hP.sub [0, 1] rfl) 0 2 rfl rfl rfl hl ⟨⟨Nat.le_of_ble_eq_true rfl, Nat.le_of_ble_eq_true rfl⟩, Nat.le_of_ble_eq_true rfl, Nat.le_of_ble_eq_true rfl⟩ rfl rfl (Nat.le_of_ble_eq_true rfl) ?_
  refine lv_aload_n X.1 X.2.1 dX2_isName_4 rfl (lv_at hl 1 rfl) ?_
  refine (c_s_len g adK adV fm i (by omega)).callV (rest := [.int (nI (ceN c))]) X dX2_isName_5 q532 tJ0_length_8abf5 hK (hP.sub [] rfl) hE (vk_recv hE.1 (by omega) va_S.rf) hl ⟨⟨Nat.le_of_ble_eq_true rfl, Nat.le_of_ble_eq_true rfl⟩, Nat.le_of_ble_eq_true rfl, Nat.le_of_ble_eq_true rfl⟩ rfl rfl (Nat.le_of_ble_eq_true rfl) ?_
  refine z_icmp_eq (tgt := 13) X dX2_isName_8 (by decide) (nI_toInt (by omega)) (nI_toInt (by omega)) (fun c8 => ?_) (fun c8 => ?_)
  · refine lv_iconst (v := (nI 0)) X.1 X.2.1 dX2_isName_13 (by decide) ?_
    refine lv_istore_n (lv' := [(2, .int (nI 0)), (0, .ref a), (1, .ref (adK i))]) X.1 X.2.1 dX2_isName_14 rfl hl (by decide) rfl (fun ls hl => ?_)
    have L15 : ∀ (r : Nat) (t : Nat) (h1 : t + r = lenS.getD i 0) (hq : nmbL c i r t = nmB c i) (ls : Array Slot) (hl : lv_has ls 3 [(2, .int (nI t)), (0, .ref a), (1, .ref (adK i))]), W p_ l_ e_ { frames := 5, cells := 0, slots := 0, locals := 106 } S_ m_ args below meth co S_.heap [] 0 0 (MQ below (vp_Si (fun r => r = (bI (nmB c i)))) args S_ 0 0 (fun _ => False)) (F0 m_ 15 ls []) := by
      intro r
      induction r with
      | zero =>
        intro t h1 hq ls hl
        refine lv_iload_n X.1 X.2.1 dX2_isName_15 rfl (lv_at hl 0 rfl) ?_
        refine lv_aload_n X.1 X.2.1 dX2_isName_16 rfl (lv_at hl 2 rfl) ?_
        refine (c_s_len g adK adV fm i (by omega)).callV (rest := [.int (nI t)]) X dX2_isName_17 q532 tJ0_length_8abf5 hK (hP.sub [] rfl) hE (vk_recv hE.1 (by omega) va_S.rf) hl ⟨⟨Nat.le_of_ble_eq_true rfl, Nat.le_of_ble_eq_true rfl⟩, Nat.le_of_ble_eq_true rfl, Nat.le_of_ble_eq_true rfl⟩ rfl rfl (Nat.le_of_ble_eq_true rfl) ?_
        refine z_icmp_ge (tgt := 45) X dX2_isName_20 (by decide) (nI_toInt (by omega)) (nI_toInt (by omega)) (fun c20 => ?_) (fun c20 => ?_)
        · refine lv_iconst (v := (nI 1)) X.1 X.2.1 dX2_isName_45 (by decide) ?_
          exact PuI.ret X hr hlk dX2_isName_46 (bI_nar _) (by rw [← hq]; rfl)
        · exfalso; omega
      | succ r ih15 =>
        intro t h1 hq ls hl
        refine lv_iload_n X.1 X.2.1 dX2_isName_15 rfl (lv_at hl 0 rfl) ?_
        refine lv_aload_n X.1 X.2.1 dX2_isName_16 rfl (lv_at hl 2 rfl) ?_
        refine (c_s_len g adK adV fm i (by omega)).callV (rest := [.int (nI t)]) X dX2_isName_17 q532 tJ0_length_8abf5 hK (hP.sub [] rfl) hE (vk_recv hE.1 (by omega) va_S.rf) hl ⟨⟨Nat.le_of_ble_eq_true rfl, Nat.le_of_ble_eq_true rfl⟩, Nat.le_of_ble_eq_true rfl, Nat.le_of_ble_eq_true rfl⟩ rfl rfl (Nat.le_of_ble_eq_true rfl) ?_
        refine z_icmp_ge (tgt := 45) X dX2_isName_20 (by decide) (nI_toInt (by omega)) (nI_toInt (by omega)) (fun c20 => ?_) (fun c20 => ?_)
        · exfalso; omega
        · refine lv_aload_n X.1 X.2.1 dX2_isName_23 rfl (lv_at hl 1 rfl) ?_
          refine va_get (D := g.1) (ci := 2) (v := .ref b) (C := RX2) (T := TX2) (N := 2) X.1 X.2.1 X.2.2.2.2 iwX2 X.2.2.2.1 hK hP 0 rfl rfl 0 (by decide) (X.2.2.2.2 _ q159) (fun _ h9 => h9) rfl dX2_isName_24 ?_
          refine lv_iload_n X.1 X.2.1 dX2_isName_27 rfl (lv_at hl 0 rfl) ?_
          refine n_cald X hK hP 1 2 rfl rfl (by omega) (by decide) dX2_isName_28 ?_
          have hbt := hb t
          refine tp_i (y := (nI (c.getD t 0))) (hf t (by omega)) ?_
          refine lv_aload_n X.1 X.2.1 dX2_isName_29 rfl (lv_at hl 2 rfl) ?_
          refine lv_iload_n X.1 X.2.1 dX2_isName_30 rfl (lv_at hl 0 rfl) ?_
          refine (c_s_at g adK adV fm i t (by omega) (by omega)).callV (rest := [.int (nI (c.getD t 0))]) X dX2_isName_31 q542 tJ0_charAt_5068e hK (hP.sub [] rfl) hE (vk_recv hE.1 (by omega) va_S.rf) hl ⟨⟨Nat.le_of_ble_eq_true rfl, Nat.le_of_ble_eq_true rfl⟩, Nat.le_of_ble_eq_true rfl, Nat.le_of_ble_eq_true rfl⟩ rfl rfl (Nat.le_of_ble_eq_true rfl) ?_
          have hch := (chS_ok i hi t (by omega)).2
          refine z_icmp_eq (tgt := 39) X dX2_isName_34 (by decide) (nI_toInt (by omega)) (nI_toInt (by omega)) (fun c34 => ?_) (fun c34 => ?_)
          · refine lv_iinc (v := (nI (t + 1))) (lv' := [(2, .int (nI (t + 1))), (0, .ref a), (1, .ref (adK i))]) X.1 X.2.1 dX2_isName_39 hl (k := 0) rfl (nI_inc _) (by decide) rfl (fun ls hl => ?_)
            refine lv_goto (tgt := 15) X.1 X.2.1 dX2_isName_42 (by decide) ?_
            exact ih15 (t + 1) (by omega) (by rw [nmbL, if_pos (by omega)] at hq; exact hq) ls (lv_sub hl [0, 1, 2] rfl)
          · refine lv_iconst (v := (nI 0)) X.1 X.2.1 dX2_isName_37 (by decide) ?_
            exact PuI.ret X hr hlk dX2_isName_38 (bI_nar _) (by rw [nmbL, if_neg (by omega)] at hq; rw [← hq]; rfl)
    exact L15 (lenS.getD i 0) 0 (by omega) (by unfold nmB; rw [if_pos (by omega)]) ls (lv_sub hl [0, 1, 2] rfl)
  · refine lv_iconst (v := (nI 0)) X.1 X.2.1 dX2_isName_11 (by decide) ?_
    exact PuI.ret X hr hlk dX2_isName_12 (bI_nar _) (by unfold nmB; rw [if_neg (by omega)]; rfl)

set_option maxHeartbeats 4000000 in
set_option maxRecDepth 100000 in
theorem c_cm_kind (g : G5) (adK adV : Nat → Nat) (fm : Value) (a : Nat) (b : Nat) (c : List Nat) (f : Nat → Int32) (hc : c.length ≤ 20) (hf : rep f c) (hb : bch c) : PuE yX2_kind cX2_kind 2 (some .int) 6 128 g adK adV fm [.ref a] [(a, .inr (2, [.ref b, .int (nI c.length)])), (b, .inl (g.2.2.2, 20, .inl f))] (kdI c) := by
  refine PuE.of (by decide +kernel) (Nat.le_of_ble_eq_true rfl) ?_
  intro p_ l_ e_ S_ m_ args below meth co X hr hlk hP hK hE ls hl
  have X : CallFix p_ m_ co cX2_kind 2 S_ args lw_all RX2 := X
  have hl : lv_has ls 2 [(0, .ref a)] := hl
  refine lv_iconst (v := (nI 0)) X.1 X.2.1 dX2_kind_0 (by decide) ?_
  refine lv_istore_n (lv' := [(1, .int (nI 0)), (0, .ref a)]) X.1 X.2.1 dX2_kind_1 rfl hl (by decide) rfl (fun ls hl => ?_)
  have L2 : ∀ (r : Nat) (i : Nat) (h1 : i + r = 4) (hq : kdL c r i = kdI c) (ls : Array Slot) (hl : lv_has ls 2 [(1, .int (nI i)), (0, .ref a)]), W p_ l_ e_ { frames := 6, cells := 0, slots := 0, locals := 128 } S_ m_ args below meth co S_.heap [] 0 0 (MQ below (vp_Si (fun r => r = (kdI c))) args S_ 0 0 (fun _ => False)) (F0 m_ 2 ls []) := by
    intro r
    induction r with
    | zero =>
      intro i h1 hq ls hl
      refine lv_iload_n X.1 X.2.1 dX2_kind_2 rfl (lv_at hl 0 rfl) ?_
      refine lv_iconst (v := (nI 3)) X.1 X.2.1 dX2_kind_3 (by decide) ?_
      refine z_icmp_gt (tgt := 26) X dX2_kind_4 (by decide) (nI_toInt (by omega)) (nI_toInt (by omega)) (fun c4 => ?_) (fun c4 => ?_)
      · refine lv_bipush (v := (-6)) X.1 X.2.1 dX2_kind_26 (by decide) ?_
        exact PuI.ret X hr hlk dX2_kind_28 (nI_nar _) (by rw [← hq]; rfl)
      · exfalso; omega
    | succ r ih2 =>
      intro i h1 hq ls hl
      refine lv_iload_n X.1 X.2.1 dX2_kind_2 rfl (lv_at hl 0 rfl) ?_
      refine lv_iconst (v := (nI 3)) X.1 X.2.1 dX2_kind_3 (by decide) ?_
      refine z_icmp_gt (tgt := 26) X dX2_kind_4 (by decide) (nI_toInt (by omega)) (nI_toInt (by omega)) (fun c4 => ?_) (fun c4 => ?_)
      · exfalso; omega
      · refine lv_aload_n X.1 X.2.1 dX2_kind_7 rfl (lv_at hl 1 rfl) ?_
        refine lv_iload_n X.1 X.2.1 dX2_kind_8 rfl (lv_at hl 0 rfl) ?_
        refine (c_cm_name g adK adV fm i (by omega)).callS (rest := [.ref a]) X dX2_kind_9 q517 tX2_nameOf hK (hP.sub [] rfl) hE hl ⟨⟨Nat.le_of_ble_eq_true rfl, Nat.le_of_ble_eq_true rfl⟩, Nat.le_of_ble_eq_true rfl, Nat.le_of_ble_eq_true rfl⟩ rfl rfl (Nat.le_of_ble_eq_true rfl) ?_
        refine (c_cm_isName g adK adV fm a b c f i (by omega) (by assumption) (by assumption) (by omega)).callV (rest := []) X dX2_kind_12 q524 tX2_isName hK (hP.sub [0, 1] rfl) hE (va_recv hK (hP.sub [0, 1] rfl) (ci := 2) (q0 := 0) rfl rfl) hl ⟨⟨Nat.le_of_ble_eq_true rfl, Nat.le_of_ble_eq_true rfl⟩, Nat.le_of_ble_eq_true rfl, Nat.le_of_ble_eq_true rfl⟩ rfl rfl (Nat.le_of_ble_eq_true rfl) ?_
        refine b_if_eq (tgt := 20) X dX2_kind_15 (by decide) (fun c15 => ?_) (fun c15 => ?_)
        · refine lv_iinc (v := (nI (i + 1))) (lv' := [(1, .int (nI (i + 1))), (0, .ref a)]) X.1 X.2.1 dX2_kind_20 hl (k := 0) rfl (nI_inc _) (by decide) rfl (fun ls hl => ?_)
          refine lv_goto (tgt := 2) X.1 X.2.1 dX2_kind_23 (by decide) ?_
          exact ih2 (i + 1) (by omega) (by rw [kdL, c15] at hq; exact hq) ls (lv_sub hl [0, 1] rfl)
        · refine lv_iload_n X.1 X.2.1 dX2_kind_18 rfl (lv_at hl 0 rfl) ?_
          exact PuI.ret X hr hlk dX2_kind_19 (nI_nar _) (by rw [kdL, c15] at hq; exact hq)
  exact L2 4 0 (by omega) (rfl) ls (lv_sub hl [0, 1] rfl)
