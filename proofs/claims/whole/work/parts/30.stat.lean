set_option maxHeartbeats 4000000 in
set_option maxRecDepth 100000 in
theorem c_build (g : G5) (o : Nat) (fo : Nat) (fb : Nat) (sb : Nat) (cb : Nat) (q : Nat → Bool) (su : Nat → Int32) (cy : Nat → Int32) (a : Nat) (k : Nat) (n : Nat) (B : Nat) (T : Nat) (w : Nat) (wb : Nat) (s : List Nat) (f : Nat → Int32) (kd : Nat) (pp : Int32) (p : Nat) (hc : shp k n B T) (hf : rep f s) (hs : s.length + B ≤ 256) (hk : kd < 4) (hpp : kd = 3 → pp = nI p ∧ p < T) : MuV (S := (Nat → Bool) × (Nat → Int32) × (Nat → Int32) × (Nat → Int32)) yX1_build cX1_build 5 none 4 95 g [.ref o, .ref a, .int (nI kd), .int pp, .ref w] [(o, .inr (1, [.ref fo, .ref sb, .ref cb])), (fo, .inr (4, [.ref fb])), (fb, .inl (g.2.2.1, 256, .inl (mf q))), (sb, .inl (g.2.1, 256, .inl su)), (cb, .inl (g.2.1, 256, .inl cy)), (a, .inr (6, [.int (nI k), .int (nI n), .int (nI B), .int (nI T)])), (w, .inr (9, [.ref wb, .int (nI s.length)])), (wb, .inl (g.2.1, 256, .inl f))] (fun u => rep u.2.2.2 (s ++ conL k T n B kd p)) (fun u => [(o, .inr (1, [.ref fo, .ref sb, .ref cb])), (fo, .inr (4, [.ref fb])), (fb, .inl (g.2.2.1, 256, .inl (mf u.1))), (sb, .inl (g.2.1, 256, .inl u.2.1)), (cb, .inl (g.2.1, 256, .inl u.2.2.1)), (a, .inr (6, [.int (nI k), .int (nI n), .int (nI B), .int (nI T)])), (w, .inr (9, [.ref wb, .int (nI ((s ++ conL k T n B kd p).length))])), (wb, .inl (g.2.1, 256, .inl u.2.2.2))]) := by
  refine MuV.of (by decide +kernel) (Nat.le_of_ble_eq_true rfl) ?_
  intro p_ l_ e_ S_ m_ args below meth co X hr hlk hP hK A hA hD hS ls hl
  have X : CallFix p_ m_ co cX1_build 5 S_ args lw_all RX1 := X
  have hl : lv_has ls 5 [(0, .ref o), (1, .ref a), (2, .int (nI kd)), (3, .int pp), (4, .ref w)] := hl
  refine lv_iload_n X.1 X.2.1 dX1_build_0 rfl (lv_at hl 2 rfl) ?_
  rcases (show kd = 0 ∨ kd = 1 ∨ kd = 2 ∨ kd = 3 by omega) with rfl | rfl | rfl | rfl
  · refine lv_tableIn (tgt := 28) X.1 X.2.1 dX1_build_1 (by decide) (by decide) rfl (by decide) ?_
    refine lv_aload_n X.1 X.2.1 dX1_build_28 rfl (lv_at hl 0 rfl) ?_
    refine lv_aload_n X.1 X.2.1 dX1_build_29 rfl (lv_at hl 1 rfl) ?_
    refine lv_aload X.1 X.2.1 dX1_build_30 (lv_at hl 4 rfl) ?_
    refine (c_bu_greedy g o fo fb sb cb q a k n B T w wb s f (by assumption) (by assumption) (by omega)).callV (rest := []) (wr := [(sb, .inl (g.2.1, 256, .inl su)), (cb, .inl (g.2.1, 256, .inl cy))]) X dX1_build_32 q352 tX1_buildGreedy hK hP hD hS hA [0, 1, 2, 5, 6, 7] [3, 4] (by decide) rfl rfl (by decide) (by decide) 0 1 rfl rfl rfl hl ⟨⟨Nat.le_of_ble_eq_true rfl, Nat.le_of_ble_eq_true rfl⟩, Nat.le_of_ble_eq_true rfl, Nat.le_of_ble_eq_true rfl⟩ rfl rfl (Nat.le_of_ble_eq_true rfl) (fun u32 H locs hw32 hP hD hS => ?_)
    obtain ⟨q1_32, f1_32⟩ := u32
    have hP : PP g [(sb, .inl (g.2.1, 256, .inl su)), (cb, .inl (g.2.1, 256, .inl cy)), (o, .inr (1, [.ref fo, .ref sb, .ref cb])), (fo, .inr (4, [.ref fb])), (fb, .inl (g.2.2.1, 256, .inl (mf q1_32))), (a, .inr (6, [.int (nI k), .int (nI n), .int (nI B), .int (nI T)])), (w, .inr (9, [.ref wb, .int (nI ((s ++ grL k T B 0 qz).length))])), (wb, .inl (g.2.1, 256, .inl f1_32))] H := hP
    have hD : va_D A [(sb, .inl (g.2.1, 256, .inl su)), (cb, .inl (g.2.1, 256, .inl cy)), (o, .inr (1, [.ref fo, .ref sb, .ref cb])), (fo, .inr (4, [.ref fb])), (fb, .inl (g.2.2.1, 256, .inl (mf q1_32))), (a, .inr (6, [.int (nI k), .int (nI n), .int (nI B), .int (nI T)])), (w, .inr (9, [.ref wb, .int (nI ((s ++ grL k T B 0 qz).length))])), (wb, .inl (g.2.1, 256, .inl f1_32))] := hD
    try dsimp only at hw32
    refine lv_goto (tgt := 66) X.1 X.2.1 dX1_build_35 (by decide) ?_
    exact MuV.ret X hr hlk hK hS dX1_build_66 (q1_32, su, cy, f1_32) (hP.sub [2, 3, 4, 0, 1, 5, 6, 7] rfl) (hD.sub [2, 3, 4, 0, 1, 5, 6, 7] (by decide) rfl) (hw32)
  · refine lv_tableIn (tgt := 38) X.1 X.2.1 dX1_build_1 (by decide) (by decide) rfl (by decide) ?_
    refine lv_aload_n X.1 X.2.1 dX1_build_38 rfl (lv_at hl 0 rfl) ?_
    refine lv_aload_n X.1 X.2.1 dX1_build_39 rfl (lv_at hl 1 rfl) ?_
    refine lv_aload X.1 X.2.1 dX1_build_40 (lv_at hl 4 rfl) ?_
    refine (c_bu_lyn g o fo sb cb a k n B T w wb s f (by assumption) (by assumption) (by omega)).callV (rest := []) (wr := [(fo, .inr (4, [.ref fb])), (fb, .inl (g.2.2.1, 256, .inl (mf q))), (sb, .inl (g.2.1, 256, .inl su)), (cb, .inl (g.2.1, 256, .inl cy))]) X dX1_build_42 q390 tX1_buildLyndon hK hP hD hS hA [0, 5, 6, 7] [1, 2, 3, 4] (by decide) rfl rfl (by decide) (by decide) 0 1 rfl rfl rfl hl ⟨⟨Nat.le_of_ble_eq_true rfl, Nat.le_of_ble_eq_true rfl⟩, Nat.le_of_ble_eq_true rfl, Nat.le_of_ble_eq_true rfl⟩ rfl rfl (Nat.le_of_ble_eq_true rfl) (fun u42 H locs hw42 hP hD hS => ?_)
    obtain ⟨f1_42, rfl⟩ : ∃ z, z = u42 := ⟨_, rfl⟩
    have hP : PP g [(fo, .inr (4, [.ref fb])), (fb, .inl (g.2.2.1, 256, .inl (mf q))), (sb, .inl (g.2.1, 256, .inl su)), (cb, .inl (g.2.1, 256, .inl cy)), (o, .inr (1, [.ref fo, .ref sb, .ref cb])), (a, .inr (6, [.int (nI k), .int (nI n), .int (nI B), .int (nI T)])), (w, .inr (9, [.ref wb, .int (nI ((s ++ lyL k T n B 0).length))])), (wb, .inl (g.2.1, 256, .inl f1_42))] H := hP
    have hD : va_D A [(fo, .inr (4, [.ref fb])), (fb, .inl (g.2.2.1, 256, .inl (mf q))), (sb, .inl (g.2.1, 256, .inl su)), (cb, .inl (g.2.1, 256, .inl cy)), (o, .inr (1, [.ref fo, .ref sb, .ref cb])), (a, .inr (6, [.int (nI k), .int (nI n), .int (nI B), .int (nI T)])), (w, .inr (9, [.ref wb, .int (nI ((s ++ lyL k T n B 0).length))])), (wb, .inl (g.2.1, 256, .inl f1_42))] := hD
    try dsimp only at hw42
    refine lv_goto (tgt := 66) X.1 X.2.1 dX1_build_45 (by decide) ?_
    exact MuV.ret X hr hlk hK hS dX1_build_66 (q, su, cy, f1_42) (hP.sub [4, 0, 1, 2, 3, 5, 6, 7] rfl) (hD.sub [4, 0, 1, 2, 3, 5, 6, 7] (by decide) rfl) (hw42)
  · refine lv_tableIn (tgt := 48) X.1 X.2.1 dX1_build_1 (by decide) (by decide) rfl (by decide) ?_
    refine lv_aload_n X.1 X.2.1 dX1_build_48 rfl (lv_at hl 0 rfl) ?_
    refine lv_aload_n X.1 X.2.1 dX1_build_49 rfl (lv_at hl 1 rfl) ?_
    refine lv_aload X.1 X.2.1 dX1_build_50 (lv_at hl 4 rfl) ?_
    refine (c_bu_neck g o fo sb cb a k n B T w wb s f (by assumption) (by assumption) (by omega)).callV (rest := []) (wr := [(fo, .inr (4, [.ref fb])), (fb, .inl (g.2.2.1, 256, .inl (mf q))), (sb, .inl (g.2.1, 256, .inl su)), (cb, .inl (g.2.1, 256, .inl cy))]) X dX1_build_52 q420 tX1_buildNecklace hK hP hD hS hA [0, 5, 6, 7] [1, 2, 3, 4] (by decide) rfl rfl (by decide) (by decide) 0 1 rfl rfl rfl hl ⟨⟨Nat.le_of_ble_eq_true rfl, Nat.le_of_ble_eq_true rfl⟩, Nat.le_of_ble_eq_true rfl, Nat.le_of_ble_eq_true rfl⟩ rfl rfl (Nat.le_of_ble_eq_true rfl) (fun u52 H locs hw52 hP hD hS => ?_)
    obtain ⟨f1_52, rfl⟩ : ∃ z, z = u52 := ⟨_, rfl⟩
    have hP : PP g [(fo, .inr (4, [.ref fb])), (fb, .inl (g.2.2.1, 256, .inl (mf q))), (sb, .inl (g.2.1, 256, .inl su)), (cb, .inl (g.2.1, 256, .inl cy)), (o, .inr (1, [.ref fo, .ref sb, .ref cb])), (a, .inr (6, [.int (nI k), .int (nI n), .int (nI B), .int (nI T)])), (w, .inr (9, [.ref wb, .int (nI ((s ++ neL k T n B 0).length))])), (wb, .inl (g.2.1, 256, .inl f1_52))] H := hP
    have hD : va_D A [(fo, .inr (4, [.ref fb])), (fb, .inl (g.2.2.1, 256, .inl (mf q))), (sb, .inl (g.2.1, 256, .inl su)), (cb, .inl (g.2.1, 256, .inl cy)), (o, .inr (1, [.ref fo, .ref sb, .ref cb])), (a, .inr (6, [.int (nI k), .int (nI n), .int (nI B), .int (nI T)])), (w, .inr (9, [.ref wb, .int (nI ((s ++ neL k T n B 0).length))])), (wb, .inl (g.2.1, 256, .inl f1_52))] := hD
    try dsimp only at hw52
    refine lv_goto (tgt := 66) X.1 X.2.1 dX1_build_55 (by decide) ?_
    exact MuV.ret X hr hlk hK hS dX1_build_66 (q, su, cy, f1_52) (hP.sub [4, 0, 1, 2, 3, 5, 6, 7] rfl) (hD.sub [4, 0, 1, 2, 3, 5, 6, 7] (by decide) rfl) (hw52)
  · obtain ⟨rfl, hp⟩ := hpp rfl
    refine lv_tableOut (tgt := 58) X.1 X.2.1 dX1_build_1 (Or.inr (by decide)) (by decide) ?_
    refine lv_aload_n X.1 X.2.1 dX1_build_58 rfl (lv_at hl 0 rfl) ?_
    refine lv_aload_n X.1 X.2.1 dX1_build_59 rfl (lv_at hl 1 rfl) ?_
    refine lv_iload_n X.1 X.2.1 dX1_build_60 rfl (lv_at hl 3 rfl) ?_
    refine lv_aload X.1 X.2.1 dX1_build_61 (lv_at hl 4 rfl) ?_
    refine (c_bu_jo g o fo sb cb su cy a k n B T w wb s f p (by assumption) (by assumption) (by omega) (by omega)).callV (rest := []) (wr := [(fo, .inr (4, [.ref fb])), (fb, .inl (g.2.2.1, 256, .inl (mf q)))]) X dX1_build_63 q430 tX1_buildJoined hK hP hD hS hA [0, 3, 4, 5, 6, 7] [1, 2] (by decide) rfl rfl (by decide) (by decide) 0 1 rfl rfl rfl hl ⟨⟨Nat.le_of_ble_eq_true rfl, Nat.le_of_ble_eq_true rfl⟩, Nat.le_of_ble_eq_true rfl, Nat.le_of_ble_eq_true rfl⟩ rfl rfl (Nat.le_of_ble_eq_true rfl) (fun u63 H locs hw63 hP hD hS => ?_)
    obtain ⟨su1_63, cy1_63, f1_63⟩ := u63
    have hP : PP g [(fo, .inr (4, [.ref fb])), (fb, .inl (g.2.2.1, 256, .inl (mf q))), (o, .inr (1, [.ref fo, .ref sb, .ref cb])), (sb, .inl (g.2.1, 256, .inl su1_63)), (cb, .inl (g.2.1, 256, .inl cy1_63)), (a, .inr (6, [.int (nI k), .int (nI n), .int (nI B), .int (nI T)])), (w, .inr (9, [.ref wb, .int (nI ((s ++ joL k T n B p).length))])), (wb, .inl (g.2.1, 256, .inl f1_63))] H := hP
    have hD : va_D A [(fo, .inr (4, [.ref fb])), (fb, .inl (g.2.2.1, 256, .inl (mf q))), (o, .inr (1, [.ref fo, .ref sb, .ref cb])), (sb, .inl (g.2.1, 256, .inl su1_63)), (cb, .inl (g.2.1, 256, .inl cy1_63)), (a, .inr (6, [.int (nI k), .int (nI n), .int (nI B), .int (nI T)])), (w, .inr (9, [.ref wb, .int (nI ((s ++ joL k T n B p).length))])), (wb, .inl (g.2.1, 256, .inl f1_63))] := hD
    try dsimp only at hw63
    exact MuV.ret X hr hlk hK hS dX1_build_66 (q, su1_63, cy1_63, f1_63) (hP.sub [2, 0, 1, 3, 4, 5, 6, 7] rfl) (hD.sub [2, 0, 1, 3, 4, 5, 6, 7] (by decide) rfl) (hw63)

set_option maxHeartbeats 4000000 in
set_option maxRecDepth 100000 in
theorem c_st_size (g : G5) (a : Nat) (b : Nat) (s : List Nat) (f : Nat → Int32) (j : Nat) (hs : s.length ≤ 256) (hf : rep f s) (hb : bd s) (hj : j < s.length) : PuI yX8_runSize cX8_runSize 3 (some .int) 2 43 g [.ref a, .int (nI j)] [(a, .inr (9, [.ref b, .int (nI s.length)])), (b, .inl (g.2.1, 256, .inl f))] (nI (rsN s j)) := by
  refine PuI.of (by decide +kernel) (Nat.le_of_ble_eq_true rfl) ?_
  intro p_ l_ e_ S_ m_ args below meth co X hr hlk hP hK ls hl
  have X : CallFix p_ m_ co cX8_runSize 3 S_ args lw_all RX8 := X
  have hl : lv_has ls 3 [(0, .ref a), (1, .int (nI j))] := hl
  refine lv_iconst (v := (nI 1)) X.1 X.2.1 dX8_runSize_0 (by decide) ?_
  refine lv_istore_n (lv' := [(2, .int (nI 1)), (0, .ref a), (1, .int (nI j))]) X.1 X.2.1 dX8_runSize_1 rfl hl (by decide) rfl (fun ls hl => ?_)
  have L2 : ∀ (r : Nat) (z : Nat) (h1 : z + r = s.length) (hq : rsL s j r z = rsN s j) (ls : Array Slot) (hl : lv_has ls 3 [(2, .int (nI z)), (0, .ref a), (1, .int (nI j))]), W p_ l_ e_ { frames := 2, cells := 0, slots := 0, locals := 43 } S_ m_ args below meth co S_.heap [] 0 0 (MQ below (vp_Si (fun r => r = (nI (rsN s j)))) args S_ 0 0 (fun _ => False)) (F0 m_ 2 ls []) := by
    intro r
    induction r with
    | zero =>
      intro z h1 hq ls hl
      refine lv_iload_n X.1 X.2.1 dX8_runSize_2 rfl (lv_at hl 0 rfl) ?_
      refine lv_aload_n X.1 X.2.1 dX8_runSize_3 rfl (lv_at hl 1 rfl) ?_
      refine (c_Word_size g a b s f).callV (rest := [.int (nI z)]) X dX8_runSize_4 q872 tX10_size hK (hP.sub [0, 1] rfl) 0 9 rfl rfl rfl hl ⟨⟨Nat.le_of_ble_eq_true rfl, Nat.le_of_ble_eq_true rfl⟩, Nat.le_of_ble_eq_true rfl, Nat.le_of_ble_eq_true rfl⟩ rfl rfl (Nat.le_of_ble_eq_true rfl) ?_
      refine z_icmp_ge (tgt := 31) X dX8_runSize_7 (by decide) (nI_toInt (by omega)) (nI_toInt (by omega)) (fun c7 => ?_) (fun c7 => ?_)
      · refine lv_iload_n X.1 X.2.1 dX8_runSize_31 rfl (lv_at hl 0 rfl) ?_
        exact PuI.ret X hr hlk dX8_runSize_32 (nI_nar _) (by first | rw [e8] | (rw [← hq]; rfl))
      · exfalso; omega
    | succ r ih2 =>
      intro z h1 hq ls hl
      refine lv_iload_n X.1 X.2.1 dX8_runSize_2 rfl (lv_at hl 0 rfl) ?_
      refine lv_aload_n X.1 X.2.1 dX8_runSize_3 rfl (lv_at hl 1 rfl) ?_
      refine (c_Word_size g a b s f).callV (rest := [.int (nI z)]) X dX8_runSize_4 q872 tX10_size hK (hP.sub [0, 1] rfl) 0 9 rfl rfl rfl hl ⟨⟨Nat.le_of_ble_eq_true rfl, Nat.le_of_ble_eq_true rfl⟩, Nat.le_of_ble_eq_true rfl, Nat.le_of_ble_eq_true rfl⟩ rfl rfl (Nat.le_of_ble_eq_true rfl) ?_
      refine z_icmp_ge (tgt := 31) X dX8_runSize_7 (by decide) (nI_toInt (by omega)) (nI_toInt (by omega)) (fun c7 => ?_) (fun c7 => ?_)
      · exfalso; omega
      · refine lv_aload_n X.1 X.2.1 dX8_runSize_10 rfl (lv_at hl 1 rfl) ?_
        refine lv_iload_n X.1 X.2.1 dX8_runSize_11 rfl (lv_at hl 2 rfl) ?_
        refine lv_iload_n X.1 X.2.1 dX8_runSize_12 rfl (lv_at hl 0 rfl) ?_
        refine n_add X dX8_runSize_13 ?_
        refine (c_Word_arN g a b s f (j + z) (by omega) (by assumption) (by omega) (by omega)).callV (rest := []) X dX8_runSize_14 q873 tX10_around hK (hP.sub [0, 1] rfl) 0 9 rfl rfl rfl hl ⟨⟨Nat.le_of_ble_eq_true rfl, Nat.le_of_ble_eq_true rfl⟩, Nat.le_of_ble_eq_true rfl, Nat.le_of_ble_eq_true rfl⟩ rfl rfl (Nat.le_of_ble_eq_true rfl) ?_
        refine lv_aload_n X.1 X.2.1 dX8_runSize_17 rfl (lv_at hl 1 rfl) ?_
        refine lv_iload_n X.1 X.2.1 dX8_runSize_18 rfl (lv_at hl 2 rfl) ?_
        refine (c_Word_atN g a b s f j (by omega) (by assumption) (by omega)).callV (rest := [.int (nI (s.getD ((j + z) % s.length) 0))]) X dX8_runSize_19 q871 tX10_at hK (hP.sub [0, 1] rfl) 0 9 rfl rfl rfl hl ⟨⟨Nat.le_of_ble_eq_true rfl, Nat.le_of_ble_eq_true rfl⟩, Nat.le_of_ble_eq_true rfl, Nat.le_of_ble_eq_true rfl⟩ rfl rfl (Nat.le_of_ble_eq_true rfl) ?_
        have e1 := bd_at hb ((j + z) % s.length)
        have e2 := bd_at hb j
        refine z_icmp_ne (tgt := 31) X dX8_runSize_22 (by decide) (nI_toInt (by omega)) (nI_toInt (by omega)) (fun c22 => ?_) (fun c22 => ?_)
        · have e8 : rsN s j = z := by rw [rsL, if_neg (by omega)] at hq; exact hq.symm
          refine lv_iload_n X.1 X.2.1 dX8_runSize_31 rfl (lv_at hl 0 rfl) ?_
          exact PuI.ret X hr hlk dX8_runSize_32 (nI_nar _) (by first | rw [e8] | (rw [← hq]; rfl))
        · refine lv_iinc (v := (nI (z + 1))) (lv' := [(2, .int (nI (z + 1))), (0, .ref a), (1, .int (nI j))]) X.1 X.2.1 dX8_runSize_25 hl (k := 0) rfl (nI_inc _) (by decide) rfl (fun ls hl => ?_)
          refine lv_goto (tgt := 2) X.1 X.2.1 dX8_runSize_28 (by decide) ?_
          exact ih2 (z + 1) (by omega) (by rw [rsL, if_pos (by omega)] at hq; exact hq) ls (lv_sub hl [0, 1, 2] rfl)
  exact L2 (s.length - 1) 1 (by omega) (rfl) ls (lv_sub hl [0, 1, 2] rfl)

set_option maxHeartbeats 4000000 in
set_option maxRecDepth 100000 in
theorem c_st_runs (g : G5) (a : Nat) (b : Nat) (s : List Nat) (f : Nat → Int32) (l : Nat) (m : Nat) (hs : s.length ≤ 256) (hf : rep f s) (hb : bd s) (hl4 : l < 4) (hm : m ≤ 256) : PuI yX8_runs cX8_runs 6 (some .int) 4 87 g [.ref a, .int (nI l), .int (nI m)] [(a, .inr (9, [.ref b, .int (nI s.length)])), (b, .inl (g.2.1, 256, .inl f))] (nI (runsN s l m)) := by
  refine PuI.of (by decide +kernel) (Nat.le_of_ble_eq_true rfl) ?_
  intro p_ l_ e_ S_ m_ args below meth co X hr hlk hP hK ls hl
  have X : CallFix p_ m_ co cX8_runs 6 S_ args lw_all RX8 := X
  have hl : lv_has ls 6 [(0, .ref a), (1, .int (nI l)), (2, .int (nI m))] := hl
  refine lv_aload_n X.1 X.2.1 dX8_runs_0 rfl (lv_at hl 0 rfl) ?_
  refine (c_Word_isConst g a b s f (by omega) (by assumption) (by assumption)).callV (rest := []) X dX8_runs_1 q866 tX10_isConstant hK (hP.sub [0, 1] rfl) 0 9 rfl rfl rfl hl ⟨⟨Nat.le_of_ble_eq_true rfl, Nat.le_of_ble_eq_true rfl⟩, Nat.le_of_ble_eq_true rfl, Nat.le_of_ble_eq_true rfl⟩ rfl rfl (Nat.le_of_ble_eq_true rfl) ?_
  refine b_if_eq (tgt := 30) X dX8_runs_4 (by decide) (fun c4 => ?_) (fun c4 => ?_)
  · refine lv_iconst (v := (nI 0)) X.1 X.2.1 dX8_runs_30 (by decide) ?_
    refine lv_istore_n (lv' := [(3, .int (nI 0)), (0, .ref a), (1, .int (nI l)), (2, .int (nI m))]) X.1 X.2.1 dX8_runs_31 rfl hl (by decide) rfl (fun ls hl => ?_)
    refine lv_iconst (v := (nI 0)) X.1 X.2.1 dX8_runs_32 (by decide) ?_
    refine lv_istore (lv' := [(4, .int (nI 0)), (3, .int (nI 0)), (0, .ref a), (1, .int (nI l)), (2, .int (nI m))]) X.1 X.2.1 dX8_runs_33 hl (by decide) rfl (fun ls hl => ?_)
    have L35 : ∀ (r : Nat) (v : Nat) (i : Nat) (h1 : i + r = s.length) (hq : cntL (runQ s l m) r i v = cntL (runQ s l m) s.length 0 0) (ls : Array Slot) (hl : lv_has ls 6 [(4, .int (nI i)), (3, .int (nI v)), (0, .ref a), (1, .int (nI l)), (2, .int (nI m))]), W p_ l_ e_ { frames := 4, cells := 0, slots := 0, locals := 87 } S_ m_ args below meth co S_.heap [] 0 0 (MQ below (vp_Si (fun r => r = (nI (runsN s l m)))) args S_ 0 0 (fun _ => False)) (F0 m_ 35 ls []) := by
      intro r
      induction r with
      | zero =>
        intro v i h1 hq ls hl
        refine lv_iload X.1 X.2.1 dX8_runs_35 (lv_at hl 0 rfl) ?_
        refine lv_aload_n X.1 X.2.1 dX8_runs_37 rfl (lv_at hl 2 rfl) ?_
        refine (c_Word_size g a b s f).callV (rest := [.int (nI i)]) X dX8_runs_38 q872 tX10_size hK (hP.sub [0, 1] rfl) 0 9 rfl rfl rfl hl ⟨⟨Nat.le_of_ble_eq_true rfl, Nat.le_of_ble_eq_true rfl⟩, Nat.le_of_ble_eq_true rfl, Nat.le_of_ble_eq_true rfl⟩ rfl rfl (Nat.le_of_ble_eq_true rfl) ?_
        refine z_icmp_ge (tgt := 97) X dX8_runs_41 (by decide) (nI_toInt (by omega)) (nI_toInt (by omega)) (fun c41 => ?_) (fun c41 => ?_)
        · refine lv_iload_n X.1 X.2.1 dX8_runs_97 rfl (lv_at hl 1 rfl) ?_
          exact PuI.ret X hr hlk dX8_runs_98 (nI_nar _) (by unfold runsN; rw [c4]; exact congrArg nI hq)
        · exfalso; omega
      | succ r ih35 =>
        intro v i h1 hq ls hl
        refine lv_iload X.1 X.2.1 dX8_runs_35 (lv_at hl 0 rfl) ?_
        refine lv_aload_n X.1 X.2.1 dX8_runs_37 rfl (lv_at hl 2 rfl) ?_
        refine (c_Word_size g a b s f).callV (rest := [.int (nI i)]) X dX8_runs_38 q872 tX10_size hK (hP.sub [0, 1] rfl) 0 9 rfl rfl rfl hl ⟨⟨Nat.le_of_ble_eq_true rfl, Nat.le_of_ble_eq_true rfl⟩, Nat.le_of_ble_eq_true rfl, Nat.le_of_ble_eq_true rfl⟩ rfl rfl (Nat.le_of_ble_eq_true rfl) ?_
        refine z_icmp_ge (tgt := 97) X dX8_runs_41 (by decide) (nI_toInt (by omega)) (nI_toInt (by omega)) (fun c41 => ?_) (fun c41 => ?_)
        · exfalso; omega
        · refine lv_aload_n X.1 X.2.1 dX8_runs_44 rfl (lv_at hl 2 rfl) ?_
          refine lv_iload X.1 X.2.1 dX8_runs_45 (lv_at hl 0 rfl) ?_
          refine (c_Word_atN g a b s f i (by omega) (by assumption) (by omega)).callV (rest := []) X dX8_runs_47 q871 tX10_at hK (hP.sub [0, 1] rfl) 0 9 rfl rfl rfl hl ⟨⟨Nat.le_of_ble_eq_true rfl, Nat.le_of_ble_eq_true rfl⟩, Nat.le_of_ble_eq_true rfl, Nat.le_of_ble_eq_true rfl⟩ rfl rfl (Nat.le_of_ble_eq_true rfl) ?_
          refine lv_iload_n X.1 X.2.1 dX8_runs_50 rfl (lv_at hl 3 rfl) ?_
          have e1 := bd_at hb i
          refine z_icmp_ne (tgt := 70) X dX8_runs_51 (by decide) (nI_toInt (by omega)) (nI_toInt (by omega)) (fun c51 => ?_) (fun c51 => ?_)
          · refine lv_iconst (v := (nI 0)) X.1 X.2.1 dX8_runs_70 (by decide) ?_
            refine lv_istore (lv' := [(5, .int (nI 0)), (4, .int (nI i)), (3, .int (nI v)), (0, .ref a), (1, .int (nI l)), (2, .int (nI m))]) X.1 X.2.1 dX8_runs_71 hl (by decide) rfl (fun ls hl => ?_)
            refine lv_iload X.1 X.2.1 dX8_runs_73 (lv_at hl 0 rfl) ?_
            refine z_if_eq (tgt := 91) X dX8_runs_75 (by decide) (nI_toInt (by omega)) (fun c75 => ?_) (fun c75 => ?_)
            · refine lv_iinc (v := (nI (i + 1))) (lv' := [(4, .int (nI (i + 1))), (5, .int (nI 0)), (3, .int (nI v)), (0, .ref a), (1, .int (nI l)), (2, .int (nI m))]) X.1 X.2.1 dX8_runs_91 hl (k := 1) rfl (nI_inc _) (by decide) rfl (fun ls hl => ?_)
              refine lv_goto (tgt := 35) X.1 X.2.1 dX8_runs_94 (by decide) ?_
              exact ih35 v (i + 1) (by omega) (by rw [cntL, runQ] at hq; first | (rw [decide_eq_false (by omega)] at hq; exact hq) | (rw [decide_eq_true (by omega)] at hq; exact hq)) ls (lv_sub hl [0, 2, 3, 4, 5] rfl)
            · refine lv_aload_n X.1 X.2.1 dX8_runs_78 rfl (lv_at hl 3 rfl) ?_
              refine lv_iload X.1 X.2.1 dX8_runs_79 (lv_at hl 1 rfl) ?_
              refine (c_st_size g a b s f i (by omega) (by assumption) (by assumption) (by omega)).callS (rest := []) X dX8_runs_81 q874 tX8_runSize hK (hP.sub [0, 1] rfl) hl ⟨⟨Nat.le_of_ble_eq_true rfl, Nat.le_of_ble_eq_true rfl⟩, Nat.le_of_ble_eq_true rfl, Nat.le_of_ble_eq_true rfl⟩ rfl rfl (Nat.le_of_ble_eq_true rfl) ?_
              have e3 := rsL_le s i (s.length - 1) 1
              have e4 : rsN s i ≤ 1 + (s.length - 1) := e3
              refine lv_iload_n X.1 X.2.1 dX8_runs_84 rfl (lv_at hl 5 rfl) ?_
              refine z_icmp_ne (tgt := 91) X dX8_runs_85 (by decide) (nI_toInt (by omega)) (nI_toInt (by omega)) (fun c85 => ?_) (fun c85 => ?_)
              · refine lv_iinc (v := (nI (i + 1))) (lv' := [(4, .int (nI (i + 1))), (5, .int (nI 0)), (3, .int (nI v)), (0, .ref a), (1, .int (nI l)), (2, .int (nI m))]) X.1 X.2.1 dX8_runs_91 hl (k := 1) rfl (nI_inc _) (by decide) rfl (fun ls hl => ?_)
                refine lv_goto (tgt := 35) X.1 X.2.1 dX8_runs_94 (by decide) ?_
                exact ih35 v (i + 1) (by omega) (by rw [cntL, runQ] at hq; first | (rw [decide_eq_false (by omega)] at hq; exact hq) | (rw [decide_eq_true (by omega)] at hq; exact hq)) ls (lv_sub hl [0, 2, 3, 4, 5] rfl)
              · refine lv_iinc (v := (nI (v + 1))) (lv' := [(3, .int (nI (v + 1))), (5, .int (nI 0)), (4, .int (nI i)), (0, .ref a), (1, .int (nI l)), (2, .int (nI m))]) X.1 X.2.1 dX8_runs_88 hl (k := 2) rfl (nI_inc _) (by decide) rfl (fun ls hl => ?_)
                refine lv_iinc (v := (nI (i + 1))) (lv' := [(4, .int (nI (i + 1))), (3, .int (nI (v + 1))), (5, .int (nI 0)), (0, .ref a), (1, .int (nI l)), (2, .int (nI m))]) X.1 X.2.1 dX8_runs_91 hl (k := 2) rfl (nI_inc _) (by decide) rfl (fun ls hl => ?_)
                refine lv_goto (tgt := 35) X.1 X.2.1 dX8_runs_94 (by decide) ?_
                exact ih35 (v + 1) (i + 1) (by omega) (by rw [cntL, runQ] at hq; first | (rw [decide_eq_false (by omega)] at hq; exact hq) | (rw [decide_eq_true (by omega)] at hq; exact hq)) ls (lv_sub hl [0, 1, 3, 4, 5] rfl)
          · refine lv_aload_n X.1 X.2.1 dX8_runs_54 rfl (lv_at hl 2 rfl) ?_
            refine lv_iload X.1 X.2.1 dX8_runs_55 (lv_at hl 0 rfl) ?_
            refine lv_iconst (v := (nI 1)) X.1 X.2.1 dX8_runs_57 (by decide) ?_
            refine lv_isub X.1 X.2.1 dX8_runs_58 ?_
            refine tp_i (y := (iI (((i : Nat) : Int) - ((1 : Nat) : Int)))) (by first | rw [iI_sub] | rw [nI_iI, nI_iI, iI_sub] | rw [nI_iI, iI_sub]) ?_
            refine (c_Word_ar g a b s f (iI (((i : Nat) : Int) - ((1 : Nat) : Int))) (by omega) (by assumption)).callV (rest := []) X dX8_runs_59 q873 tX10_around hK (hP.sub [0, 1] rfl) 0 9 rfl rfl rfl hl ⟨⟨Nat.le_of_ble_eq_true rfl, Nat.le_of_ble_eq_true rfl⟩, Nat.le_of_ble_eq_true rfl, Nat.le_of_ble_eq_true rfl⟩ rfl rfl (Nat.le_of_ble_eq_true rfl) ?_
            have e2 := bd_at hb ((i + s.length - 1) % s.length)
            refine tp_i (y := (nI (s.getD ((i + s.length - 1) % s.length) 0))) (arI_p (by omega) hs (by omega)) ?_
            refine lv_iload_n X.1 X.2.1 dX8_runs_62 rfl (lv_at hl 3 rfl) ?_
            refine z_icmp_eq (tgt := 70) X dX8_runs_63 (by decide) (nI_toInt (by omega)) (nI_toInt (by omega)) (fun c63 => ?_) (fun c63 => ?_)
            · refine lv_iconst (v := (nI 0)) X.1 X.2.1 dX8_runs_70 (by decide) ?_
              refine lv_istore (lv' := [(5, .int (nI 0)), (4, .int (nI i)), (3, .int (nI v)), (0, .ref a), (1, .int (nI l)), (2, .int (nI m))]) X.1 X.2.1 dX8_runs_71 hl (by decide) rfl (fun ls hl => ?_)
              refine lv_iload X.1 X.2.1 dX8_runs_73 (lv_at hl 0 rfl) ?_
              refine z_if_eq (tgt := 91) X dX8_runs_75 (by decide) (nI_toInt (by omega)) (fun c75 => ?_) (fun c75 => ?_)
              · refine lv_iinc (v := (nI (i + 1))) (lv' := [(4, .int (nI (i + 1))), (5, .int (nI 0)), (3, .int (nI v)), (0, .ref a), (1, .int (nI l)), (2, .int (nI m))]) X.1 X.2.1 dX8_runs_91 hl (k := 1) rfl (nI_inc _) (by decide) rfl (fun ls hl => ?_)
                refine lv_goto (tgt := 35) X.1 X.2.1 dX8_runs_94 (by decide) ?_
                exact ih35 v (i + 1) (by omega) (by rw [cntL, runQ] at hq; first | (rw [decide_eq_false (by omega)] at hq; exact hq) | (rw [decide_eq_true (by omega)] at hq; exact hq)) ls (lv_sub hl [0, 2, 3, 4, 5] rfl)
              · refine lv_aload_n X.1 X.2.1 dX8_runs_78 rfl (lv_at hl 3 rfl) ?_
                refine lv_iload X.1 X.2.1 dX8_runs_79 (lv_at hl 1 rfl) ?_
                refine (c_st_size g a b s f i (by omega) (by assumption) (by assumption) (by omega)).callS (rest := []) X dX8_runs_81 q874 tX8_runSize hK (hP.sub [0, 1] rfl) hl ⟨⟨Nat.le_of_ble_eq_true rfl, Nat.le_of_ble_eq_true rfl⟩, Nat.le_of_ble_eq_true rfl, Nat.le_of_ble_eq_true rfl⟩ rfl rfl (Nat.le_of_ble_eq_true rfl) ?_
                have e3 := rsL_le s i (s.length - 1) 1
                have e4 : rsN s i ≤ 1 + (s.length - 1) := e3
                refine lv_iload_n X.1 X.2.1 dX8_runs_84 rfl (lv_at hl 5 rfl) ?_
                refine z_icmp_ne (tgt := 91) X dX8_runs_85 (by decide) (nI_toInt (by omega)) (nI_toInt (by omega)) (fun c85 => ?_) (fun c85 => ?_)
                · refine lv_iinc (v := (nI (i + 1))) (lv' := [(4, .int (nI (i + 1))), (5, .int (nI 0)), (3, .int (nI v)), (0, .ref a), (1, .int (nI l)), (2, .int (nI m))]) X.1 X.2.1 dX8_runs_91 hl (k := 1) rfl (nI_inc _) (by decide) rfl (fun ls hl => ?_)
                  refine lv_goto (tgt := 35) X.1 X.2.1 dX8_runs_94 (by decide) ?_
                  exact ih35 v (i + 1) (by omega) (by rw [cntL, runQ] at hq; first | (rw [decide_eq_false (by omega)] at hq; exact hq) | (rw [decide_eq_true (by omega)] at hq; exact hq)) ls (lv_sub hl [0, 2, 3, 4, 5] rfl)
                · refine lv_iinc (v := (nI (v + 1))) (lv' := [(3, .int (nI (v + 1))), (5, .int (nI 0)), (4, .int (nI i)), (0, .ref a), (1, .int (nI l)), (2, .int (nI m))]) X.1 X.2.1 dX8_runs_88 hl (k := 2) rfl (nI_inc _) (by decide) rfl (fun ls hl => ?_)
                  refine lv_iinc (v := (nI (i + 1))) (lv' := [(4, .int (nI (i + 1))), (3, .int (nI (v + 1))), (5, .int (nI 0)), (0, .ref a), (1, .int (nI l)), (2, .int (nI m))]) X.1 X.2.1 dX8_runs_91 hl (k := 2) rfl (nI_inc _) (by decide) rfl (fun ls hl => ?_)
                  refine lv_goto (tgt := 35) X.1 X.2.1 dX8_runs_94 (by decide) ?_
                  exact ih35 (v + 1) (i + 1) (by omega) (by rw [cntL, runQ] at hq; first | (rw [decide_eq_false (by omega)] at hq; exact hq) | (rw [decide_eq_true (by omega)] at hq; exact hq)) ls (lv_sub hl [0, 1, 3, 4, 5] rfl)
            · refine lv_iconst (v := (nI 1)) X.1 X.2.1 dX8_runs_66 (by decide) ?_
              refine lv_goto (tgt := 71) X.1 X.2.1 dX8_runs_67 (by decide) ?_
              refine lv_istore (lv' := [(5, .int (nI 1)), (4, .int (nI i)), (3, .int (nI v)), (0, .ref a), (1, .int (nI l)), (2, .int (nI m))]) X.1 X.2.1 dX8_runs_71 hl (by decide) rfl (fun ls hl => ?_)
              refine lv_iload X.1 X.2.1 dX8_runs_73 (lv_at hl 0 rfl) ?_
              refine z_if_eq (tgt := 91) X dX8_runs_75 (by decide) (nI_toInt (by omega)) (fun c75 => ?_) (fun c75 => ?_)
              · refine lv_iinc (v := (nI (i + 1))) (lv' := [(4, .int (nI (i + 1))), (5, .int (nI 1)), (3, .int (nI v)), (0, .ref a), (1, .int (nI l)), (2, .int (nI m))]) X.1 X.2.1 dX8_runs_91 hl (k := 1) rfl (nI_inc _) (by decide) rfl (fun ls hl => ?_)
                refine lv_goto (tgt := 35) X.1 X.2.1 dX8_runs_94 (by decide) ?_
                exact ih35 v (i + 1) (by omega) (by rw [cntL, runQ] at hq; first | (rw [decide_eq_false (by omega)] at hq; exact hq) | (rw [decide_eq_true (by omega)] at hq; exact hq)) ls (lv_sub hl [0, 2, 3, 4, 5] rfl)
              · refine lv_aload_n X.1 X.2.1 dX8_runs_78 rfl (lv_at hl 3 rfl) ?_
                refine lv_iload X.1 X.2.1 dX8_runs_79 (lv_at hl 1 rfl) ?_
                refine (c_st_size g a b s f i (by omega) (by assumption) (by assumption) (by omega)).callS (rest := []) X dX8_runs_81 q874 tX8_runSize hK (hP.sub [0, 1] rfl) hl ⟨⟨Nat.le_of_ble_eq_true rfl, Nat.le_of_ble_eq_true rfl⟩, Nat.le_of_ble_eq_true rfl, Nat.le_of_ble_eq_true rfl⟩ rfl rfl (Nat.le_of_ble_eq_true rfl) ?_
                have e3 := rsL_le s i (s.length - 1) 1
                have e4 : rsN s i ≤ 1 + (s.length - 1) := e3
                refine lv_iload_n X.1 X.2.1 dX8_runs_84 rfl (lv_at hl 5 rfl) ?_
                refine z_icmp_ne (tgt := 91) X dX8_runs_85 (by decide) (nI_toInt (by omega)) (nI_toInt (by omega)) (fun c85 => ?_) (fun c85 => ?_)
                · refine lv_iinc (v := (nI (i + 1))) (lv' := [(4, .int (nI (i + 1))), (5, .int (nI 1)), (3, .int (nI v)), (0, .ref a), (1, .int (nI l)), (2, .int (nI m))]) X.1 X.2.1 dX8_runs_91 hl (k := 1) rfl (nI_inc _) (by decide) rfl (fun ls hl => ?_)
                  refine lv_goto (tgt := 35) X.1 X.2.1 dX8_runs_94 (by decide) ?_
                  exact ih35 v (i + 1) (by omega) (by rw [cntL, runQ] at hq; first | (rw [decide_eq_false (by omega)] at hq; exact hq) | (rw [decide_eq_true (by omega)] at hq; exact hq)) ls (lv_sub hl [0, 2, 3, 4, 5] rfl)
                · refine lv_iinc (v := (nI (v + 1))) (lv' := [(3, .int (nI (v + 1))), (5, .int (nI 1)), (4, .int (nI i)), (0, .ref a), (1, .int (nI l)), (2, .int (nI m))]) X.1 X.2.1 dX8_runs_88 hl (k := 2) rfl (nI_inc _) (by decide) rfl (fun ls hl => ?_)
                  refine lv_iinc (v := (nI (i + 1))) (lv' := [(4, .int (nI (i + 1))), (3, .int (nI (v + 1))), (5, .int (nI 1)), (0, .ref a), (1, .int (nI l)), (2, .int (nI m))]) X.1 X.2.1 dX8_runs_91 hl (k := 2) rfl (nI_inc _) (by decide) rfl (fun ls hl => ?_)
                  refine lv_goto (tgt := 35) X.1 X.2.1 dX8_runs_94 (by decide) ?_
                  exact ih35 (v + 1) (i + 1) (by omega) (by rw [cntL, runQ] at hq; first | (rw [decide_eq_false (by omega)] at hq; exact hq) | (rw [decide_eq_true (by omega)] at hq; exact hq)) ls (lv_sub hl [0, 1, 3, 4, 5] rfl)
    exact L35 s.length 0 0 (by omega) (rfl) ls (lv_sub hl [0, 1, 2, 3, 4] rfl)
  · refine lv_aload_n X.1 X.2.1 dX8_runs_7 rfl (lv_at hl 0 rfl) ?_
    refine lv_iconst (v := (nI 0)) X.1 X.2.1 dX8_runs_8 (by decide) ?_
    refine (c_Word_at g a b s f (nI 0) (by omega) (by assumption)).callV (rest := []) X dX8_runs_9 q871 tX10_at hK (hP.sub [0, 1] rfl) 0 9 rfl rfl rfl hl ⟨⟨Nat.le_of_ble_eq_true rfl, Nat.le_of_ble_eq_true rfl⟩, Nat.le_of_ble_eq_true rfl, Nat.le_of_ble_eq_true rfl⟩ rfl rfl (Nat.le_of_ble_eq_true rfl) ?_
    refine lv_iload_n X.1 X.2.1 dX8_runs_12 rfl (lv_at hl 1 rfl) ?_
    refine z_icmp_ne (tgt := 28) X dX8_runs_13 (by decide) rfl (nI_toInt (by omega)) (fun c13 => ?_) (fun c13 => ?_)
    · refine lv_iconst (v := (nI 0)) X.1 X.2.1 dX8_runs_28 (by decide) ?_
      exact PuI.ret X hr hlk dX8_runs_29 (nI_nar _) (by unfold runsN; rw [c4]; first | rw [if_pos rfl, if_pos (by omega)] | rw [if_pos rfl, if_neg (by omega)])
    · refine lv_aload_n X.1 X.2.1 dX8_runs_16 rfl (lv_at hl 0 rfl) ?_
      refine (c_Word_size g a b s f).callV (rest := []) X dX8_runs_17 q872 tX10_size hK (hP.sub [0, 1] rfl) 0 9 rfl rfl rfl hl ⟨⟨Nat.le_of_ble_eq_true rfl, Nat.le_of_ble_eq_true rfl⟩, Nat.le_of_ble_eq_true rfl, Nat.le_of_ble_eq_true rfl⟩ rfl rfl (Nat.le_of_ble_eq_true rfl) ?_
      refine lv_iload_n X.1 X.2.1 dX8_runs_20 rfl (lv_at hl 2 rfl) ?_
      refine z_icmp_ne (tgt := 28) X dX8_runs_21 (by decide) (nI_toInt (by omega)) (nI_toInt (by omega)) (fun c21 => ?_) (fun c21 => ?_)
      · refine lv_iconst (v := (nI 0)) X.1 X.2.1 dX8_runs_28 (by decide) ?_
        exact PuI.ret X hr hlk dX8_runs_29 (nI_nar _) (by unfold runsN; rw [c4]; first | rw [if_pos rfl, if_pos (by omega)] | rw [if_pos rfl, if_neg (by omega)])
      · refine lv_iconst (v := (nI 1)) X.1 X.2.1 dX8_runs_24 (by decide) ?_
        refine lv_goto (tgt := 29) X.1 X.2.1 dX8_runs_25 (by decide) ?_
        exact PuI.ret X hr hlk dX8_runs_29 (nI_nar _) (by unfold runsN; rw [c4]; first | rw [if_pos rfl, if_pos (by omega)] | rw [if_pos rfl, if_neg (by omega)])

set_option maxHeartbeats 4000000 in
set_option maxRecDepth 100000 in
theorem c_st_spread (g : G5) (a : Nat) (b : Nat) (s : List Nat) (f : Nat → Int32) (l : Nat) (k : Nat) (hs : s.length ≤ 256) (hf : rep f s) (hb : bd s) (hl4 : l < 4) (hk2 : 2 ≤ k) (hk4 : k ≤ 4) : PuI yX8_spread cX8_spread 7 (some .int) 2 42 g [.ref a, .int (nI l), .int (nI k)] [(a, .inr (9, [.ref b, .int (nI s.length)])), (b, .inl (g.2.1, 256, .inl f))] (iI (spL s l k s.length 0 0 0 0)) := by
  refine PuI.of (by decide +kernel) (Nat.le_of_ble_eq_true rfl) ?_
  intro p_ l_ e_ S_ m_ args below meth co X hr hlk hP hK ls hl
  have X : CallFix p_ m_ co cX8_spread 7 S_ args lw_all RX8 := X
  have hl : lv_has ls 7 [(0, .ref a), (1, .int (nI l)), (2, .int (nI k))] := hl
  refine lv_iconst (v := (nI 0)) X.1 X.2.1 dX8_spread_0 (by decide) ?_
  refine tp_i (y := (iI 0)) (rfl) ?_
  refine lv_istore_n (lv' := [(3, .int (iI 0)), (0, .ref a), (1, .int (nI l)), (2, .int (nI k))]) X.1 X.2.1 dX8_spread_1 rfl hl (by decide) rfl (fun ls hl => ?_)
  refine lv_iconst (v := (nI 0)) X.1 X.2.1 dX8_spread_2 (by decide) ?_
  refine tp_i (y := (iI 0)) (rfl) ?_
  refine lv_istore (lv' := [(4, .int (iI 0)), (3, .int (iI 0)), (0, .ref a), (1, .int (nI l)), (2, .int (nI k))]) X.1 X.2.1 dX8_spread_3 hl (by decide) rfl (fun ls hl => ?_)
  refine lv_iconst (v := (nI 0)) X.1 X.2.1 dX8_spread_5 (by decide) ?_
  refine tp_i (y := (iI 0)) (rfl) ?_
  refine lv_istore (lv' := [(5, .int (iI 0)), (4, .int (iI 0)), (3, .int (iI 0)), (0, .ref a), (1, .int (nI l)), (2, .int (nI k))]) X.1 X.2.1 dX8_spread_6 hl (by decide) rfl (fun ls hl => ?_)
  refine lv_iconst (v := (nI 0)) X.1 X.2.1 dX8_spread_8 (by decide) ?_
  refine lv_istore (lv' := [(6, .int (nI 0)), (5, .int (iI 0)), (4, .int (iI 0)), (3, .int (iI 0)), (0, .ref a), (1, .int (nI l)), (2, .int (nI k))]) X.1 X.2.1 dX8_spread_9 hl (by decide) rfl (fun ls hl => ?_)
  have L11 : ∀ (r : Nat) (d : Int) (lo : Int) (hi : Int) (i : Nat) (h1 : i + r = s.length) (h2 : -(i : Int) ≤ d ∧ d ≤ 3 * (i : Int)) (h3 : -(i : Int) ≤ lo ∧ lo ≤ 0) (h4 : 0 ≤ hi ∧ hi ≤ 3 * (i : Int)) (hq : spL s l k r i d lo hi = spL s l k s.length 0 0 0 0) (ls : Array Slot) (hl : lv_has ls 7 [(6, .int (nI i)), (5, .int (iI hi)), (4, .int (iI lo)), (3, .int (iI d)), (0, .ref a), (1, .int (nI l)), (2, .int (nI k))]), W p_ l_ e_ { frames := 2, cells := 0, slots := 0, locals := 42 } S_ m_ args below meth co S_.heap [] 0 0 (MQ below (vp_Si (fun r => r = (iI (spL s l k s.length 0 0 0 0)))) args S_ 0 0 (fun _ => False)) (F0 m_ 11 ls []) := by
    intro r
    induction r with
    | zero =>
      intro d lo hi i h1 h2 h3 h4 hq ls hl
      refine lv_iload X.1 X.2.1 dX8_spread_11 (lv_at hl 0 rfl) ?_
      refine lv_aload_n X.1 X.2.1 dX8_spread_13 rfl (lv_at hl 4 rfl) ?_
      refine (c_Word_size g a b s f).callV (rest := [.int (nI i)]) X dX8_spread_14 q872 tX10_size hK (hP.sub [0, 1] rfl) 0 9 rfl rfl rfl hl ⟨⟨Nat.le_of_ble_eq_true rfl, Nat.le_of_ble_eq_true rfl⟩, Nat.le_of_ble_eq_true rfl, Nat.le_of_ble_eq_true rfl⟩ rfl rfl (Nat.le_of_ble_eq_true rfl) ?_
      refine z_icmp_ge (tgt := 62) X dX8_spread_17 (by decide) (nI_toInt (by omega)) (nI_toInt (by omega)) (fun c17 => ?_) (fun c17 => ?_)
      · refine lv_iload X.1 X.2.1 dX8_spread_62 (lv_at hl 1 rfl) ?_
        refine lv_iload X.1 X.2.1 dX8_spread_64 (lv_at hl 2 rfl) ?_
        refine lv_isub X.1 X.2.1 dX8_spread_66 ?_
        refine tp_i (y := (iI (hi - lo))) (by first | rw [iI_sub] | rw [nI_iI, nI_iI, iI_sub] | rw [nI_iI, iI_sub]) ?_
        exact PuI.ret X hr hlk dX8_spread_67 (nI_nar _) (by rw [← hq]; rfl)
      · exfalso; omega
    | succ r ih11 =>
      intro d lo hi i h1 h2 h3 h4 hq ls hl
      refine lv_iload X.1 X.2.1 dX8_spread_11 (lv_at hl 0 rfl) ?_
      refine lv_aload_n X.1 X.2.1 dX8_spread_13 rfl (lv_at hl 4 rfl) ?_
      refine (c_Word_size g a b s f).callV (rest := [.int (nI i)]) X dX8_spread_14 q872 tX10_size hK (hP.sub [0, 1] rfl) 0 9 rfl rfl rfl hl ⟨⟨Nat.le_of_ble_eq_true rfl, Nat.le_of_ble_eq_true rfl⟩, Nat.le_of_ble_eq_true rfl, Nat.le_of_ble_eq_true rfl⟩ rfl rfl (Nat.le_of_ble_eq_true rfl) ?_
      refine z_icmp_ge (tgt := 62) X dX8_spread_17 (by decide) (nI_toInt (by omega)) (nI_toInt (by omega)) (fun c17 => ?_) (fun c17 => ?_)
      · exfalso; omega
      · refine lv_iload_n X.1 X.2.1 dX8_spread_20 rfl (lv_at hl 3 rfl) ?_
        refine lv_aload_n X.1 X.2.1 dX8_spread_21 rfl (lv_at hl 4 rfl) ?_
        refine lv_iload X.1 X.2.1 dX8_spread_22 (lv_at hl 0 rfl) ?_
        refine (c_Word_atN g a b s f i (by omega) (by assumption) (by omega)).callV (rest := [.int (iI d)]) X dX8_spread_24 q871 tX10_at hK (hP.sub [0, 1] rfl) 0 9 rfl rfl rfl hl ⟨⟨Nat.le_of_ble_eq_true rfl, Nat.le_of_ble_eq_true rfl⟩, Nat.le_of_ble_eq_true rfl, Nat.le_of_ble_eq_true rfl⟩ rfl rfl (Nat.le_of_ble_eq_true rfl) ?_
        refine lv_iload_n X.1 X.2.1 dX8_spread_27 rfl (lv_at hl 5 rfl) ?_
        have e1 := bd_at hb i
        refine z_icmp_ne (tgt := 37) X dX8_spread_28 (by decide) (nI_toInt (by omega)) (nI_toInt (by omega)) (fun c28 => ?_) (fun c28 => ?_)
        · refine lv_iconst (v := (-1)) X.1 X.2.1 dX8_spread_37 (by decide) ?_
          refine lv_iadd X.1 X.2.1 dX8_spread_38 ?_
          have e5 : -1 ≤ (if s.getD i 0 = l then (k : Int) - 1 else -1) ∧ (if s.getD i 0 = l then (k : Int) - 1 else -1) ≤ 3 := by split <;> omega
          refine tp_i (y := (iI (d + (if s.getD i 0 = l then (k : Int) - 1 else -1)))) (by first | (rw [if_pos (by omega)]; congr 1; omega) | (rw [if_neg (by omega), ← iI_add]; rfl)) ?_
          refine lv_istore_n (lv' := [(3, .int (iI (d + (if s.getD i 0 = l then (k : Int) - 1 else -1)))), (6, .int (nI i)), (5, .int (iI hi)), (4, .int (iI lo)), (0, .ref a), (1, .int (nI l)), (2, .int (nI k))]) X.1 X.2.1 dX8_spread_39 rfl hl (by decide) rfl (fun ls hl => ?_)
          refine lv_iload X.1 X.2.1 dX8_spread_40 (lv_at hl 3 rfl) ?_
          refine lv_iload_n X.1 X.2.1 dX8_spread_42 rfl (lv_at hl 0 rfl) ?_
          refine (c_minI g lo (d + (if s.getD i 0 = l then (k : Int) - 1 else -1)) (by omega) (by omega)).callS (rest := []) X dX8_spread_43 q884 tJ9_min_7cf53 hK (hP.sub [] rfl) hl ⟨⟨Nat.le_of_ble_eq_true rfl, Nat.le_of_ble_eq_true rfl⟩, Nat.le_of_ble_eq_true rfl, Nat.le_of_ble_eq_true rfl⟩ rfl rfl (Nat.le_of_ble_eq_true rfl) ?_
          refine lv_istore (lv' := [(4, .int (iI (min lo (d + (if s.getD i 0 = l then (k : Int) - 1 else -1))))), (3, .int (iI (d + (if s.getD i 0 = l then (k : Int) - 1 else -1)))), (6, .int (nI i)), (5, .int (iI hi)), (0, .ref a), (1, .int (nI l)), (2, .int (nI k))]) X.1 X.2.1 dX8_spread_46 hl (by decide) rfl (fun ls hl => ?_)
          refine lv_iload X.1 X.2.1 dX8_spread_48 (lv_at hl 3 rfl) ?_
          refine lv_iload_n X.1 X.2.1 dX8_spread_50 rfl (lv_at hl 1 rfl) ?_
          refine (c_maxI g hi (d + (if s.getD i 0 = l then (k : Int) - 1 else -1)) (by omega) (by omega)).callS (rest := []) X dX8_spread_51 q885 tJ9_max_7cf53 hK (hP.sub [] rfl) hl ⟨⟨Nat.le_of_ble_eq_true rfl, Nat.le_of_ble_eq_true rfl⟩, Nat.le_of_ble_eq_true rfl, Nat.le_of_ble_eq_true rfl⟩ rfl rfl (Nat.le_of_ble_eq_true rfl) ?_
          refine lv_istore (lv' := [(5, .int (iI (max hi (d + (if s.getD i 0 = l then (k : Int) - 1 else -1))))), (4, .int (iI (min lo (d + (if s.getD i 0 = l then (k : Int) - 1 else -1))))), (3, .int (iI (d + (if s.getD i 0 = l then (k : Int) - 1 else -1)))), (6, .int (nI i)), (0, .ref a), (1, .int (nI l)), (2, .int (nI k))]) X.1 X.2.1 dX8_spread_54 hl (by decide) rfl (fun ls hl => ?_)
          refine lv_iinc (v := (nI (i + 1))) (lv' := [(6, .int (nI (i + 1))), (5, .int (iI (max hi (d + (if s.getD i 0 = l then (k : Int) - 1 else -1))))), (4, .int (iI (min lo (d + (if s.getD i 0 = l then (k : Int) - 1 else -1))))), (3, .int (iI (d + (if s.getD i 0 = l then (k : Int) - 1 else -1)))), (0, .ref a), (1, .int (nI l)), (2, .int (nI k))]) X.1 X.2.1 dX8_spread_56 hl (k := 3) rfl (nI_inc _) (by decide) rfl (fun ls hl => ?_)
          refine lv_goto (tgt := 11) X.1 X.2.1 dX8_spread_59 (by decide) ?_
          exact ih11 (d + (if s.getD i 0 = l then (k : Int) - 1 else -1)) (min lo (d + (if s.getD i 0 = l then (k : Int) - 1 else -1))) (max hi (d + (if s.getD i 0 = l then (k : Int) - 1 else -1))) (i + 1) (by omega) (by split <;> omega) (by split <;> omega) (by split <;> omega) (by rw [spL] at hq; exact hq) ls (lv_sub hl [0, 1, 2, 3, 4, 5, 6] rfl)
        · refine lv_iload_n X.1 X.2.1 dX8_spread_31 rfl (lv_at hl 6 rfl) ?_
          refine lv_iconst (v := (nI 1)) X.1 X.2.1 dX8_spread_32 (by decide) ?_
          refine n_sub X dX8_spread_33 (by omega) ?_
          refine lv_goto (tgt := 38) X.1 X.2.1 dX8_spread_34 (by decide) ?_
          refine lv_iadd X.1 X.2.1 dX8_spread_38 ?_
          refine tp_i (y := (iI (d + ((k - 1 : Nat) : Int)))) (by first | rw [iI_add] | rw [nI_iI, nI_iI, iI_add] | rw [nI_iI, iI_add]) ?_
          have e5 : -1 ≤ (if s.getD i 0 = l then (k : Int) - 1 else -1) ∧ (if s.getD i 0 = l then (k : Int) - 1 else -1) ≤ 3 := by split <;> omega
          refine tp_i (y := (iI (d + (if s.getD i 0 = l then (k : Int) - 1 else -1)))) (by first | (rw [if_pos (by omega)]; congr 1; omega) | (rw [if_neg (by omega), ← iI_add]; rfl)) ?_
          refine lv_istore_n (lv' := [(3, .int (iI (d + (if s.getD i 0 = l then (k : Int) - 1 else -1)))), (6, .int (nI i)), (5, .int (iI hi)), (4, .int (iI lo)), (0, .ref a), (1, .int (nI l)), (2, .int (nI k))]) X.1 X.2.1 dX8_spread_39 rfl hl (by decide) rfl (fun ls hl => ?_)
          refine lv_iload X.1 X.2.1 dX8_spread_40 (lv_at hl 3 rfl) ?_
          refine lv_iload_n X.1 X.2.1 dX8_spread_42 rfl (lv_at hl 0 rfl) ?_
          refine (c_minI g lo (d + (if s.getD i 0 = l then (k : Int) - 1 else -1)) (by omega) (by omega)).callS (rest := []) X dX8_spread_43 q884 tJ9_min_7cf53 hK (hP.sub [] rfl) hl ⟨⟨Nat.le_of_ble_eq_true rfl, Nat.le_of_ble_eq_true rfl⟩, Nat.le_of_ble_eq_true rfl, Nat.le_of_ble_eq_true rfl⟩ rfl rfl (Nat.le_of_ble_eq_true rfl) ?_
          refine lv_istore (lv' := [(4, .int (iI (min lo (d + (if s.getD i 0 = l then (k : Int) - 1 else -1))))), (3, .int (iI (d + (if s.getD i 0 = l then (k : Int) - 1 else -1)))), (6, .int (nI i)), (5, .int (iI hi)), (0, .ref a), (1, .int (nI l)), (2, .int (nI k))]) X.1 X.2.1 dX8_spread_46 hl (by decide) rfl (fun ls hl => ?_)
          refine lv_iload X.1 X.2.1 dX8_spread_48 (lv_at hl 3 rfl) ?_
          refine lv_iload_n X.1 X.2.1 dX8_spread_50 rfl (lv_at hl 1 rfl) ?_
          refine (c_maxI g hi (d + (if s.getD i 0 = l then (k : Int) - 1 else -1)) (by omega) (by omega)).callS (rest := []) X dX8_spread_51 q885 tJ9_max_7cf53 hK (hP.sub [] rfl) hl ⟨⟨Nat.le_of_ble_eq_true rfl, Nat.le_of_ble_eq_true rfl⟩, Nat.le_of_ble_eq_true rfl, Nat.le_of_ble_eq_true rfl⟩ rfl rfl (Nat.le_of_ble_eq_true rfl) ?_
          refine lv_istore (lv' := [(5, .int (iI (max hi (d + (if s.getD i 0 = l then (k : Int) - 1 else -1))))), (4, .int (iI (min lo (d + (if s.getD i 0 = l then (k : Int) - 1 else -1))))), (3, .int (iI (d + (if s.getD i 0 = l then (k : Int) - 1 else -1)))), (6, .int (nI i)), (0, .ref a), (1, .int (nI l)), (2, .int (nI k))]) X.1 X.2.1 dX8_spread_54 hl (by decide) rfl (fun ls hl => ?_)
          refine lv_iinc (v := (nI (i + 1))) (lv' := [(6, .int (nI (i + 1))), (5, .int (iI (max hi (d + (if s.getD i 0 = l then (k : Int) - 1 else -1))))), (4, .int (iI (min lo (d + (if s.getD i 0 = l then (k : Int) - 1 else -1))))), (3, .int (iI (d + (if s.getD i 0 = l then (k : Int) - 1 else -1)))), (0, .ref a), (1, .int (nI l)), (2, .int (nI k))]) X.1 X.2.1 dX8_spread_56 hl (k := 3) rfl (nI_inc _) (by decide) rfl (fun ls hl => ?_)
          refine lv_goto (tgt := 11) X.1 X.2.1 dX8_spread_59 (by decide) ?_
          exact ih11 (d + (if s.getD i 0 = l then (k : Int) - 1 else -1)) (min lo (d + (if s.getD i 0 = l then (k : Int) - 1 else -1))) (max hi (d + (if s.getD i 0 = l then (k : Int) - 1 else -1))) (i + 1) (by omega) (by split <;> omega) (by split <;> omega) (by split <;> omega) (by rw [spL] at hq; exact hq) ls (lv_sub hl [0, 1, 2, 3, 4, 5, 6] rfl)
  exact L11 s.length 0 0 0 0 (by omega) (by omega) (by omega) (by omega) (rfl) ls (lv_sub hl [0, 1, 2, 3, 4, 5, 6] rfl)

set_option maxHeartbeats 4000000 in
set_option maxRecDepth 100000 in
theorem c_st_sum (g : G5) (a : Nat) (b : Nat) (s : List Nat) (f : Nat → Int32) (hs : s.length ≤ 256) (hf : rep f s) (hb : bd s) : PuI yX8_letterSum cX8_letterSum 3 (some .int) 2 42 g [.ref a] [(a, .inr (9, [.ref b, .int (nI s.length)])), (b, .inl (g.2.1, 256, .inl f))] (nI (smL s s.length 0 0)) := by
  refine PuI.of (by decide +kernel) (Nat.le_of_ble_eq_true rfl) ?_
  intro p_ l_ e_ S_ m_ args below meth co X hr hlk hP hK ls hl
  have X : CallFix p_ m_ co cX8_letterSum 3 S_ args lw_all RX8 := X
  have hl : lv_has ls 3 [(0, .ref a)] := hl
  refine lv_iconst (v := (nI 0)) X.1 X.2.1 dX8_letterSum_0 (by decide) ?_
  refine lv_istore_n (lv' := [(1, .int (nI 0)), (0, .ref a)]) X.1 X.2.1 dX8_letterSum_1 rfl hl (by decide) rfl (fun ls hl => ?_)
  refine lv_iconst (v := (nI 0)) X.1 X.2.1 dX8_letterSum_2 (by decide) ?_
  refine lv_istore_n (lv' := [(2, .int (nI 0)), (1, .int (nI 0)), (0, .ref a)]) X.1 X.2.1 dX8_letterSum_3 rfl hl (by decide) rfl (fun ls hl => ?_)
  have L4 : ∀ (r : Nat) (v : Nat) (i : Nat) (h1 : i + r = s.length) (hq : smL s r i v = smL s s.length 0 0) (ls : Array Slot) (hl : lv_has ls 3 [(2, .int (nI i)), (1, .int (nI v)), (0, .ref a)]), W p_ l_ e_ { frames := 2, cells := 0, slots := 0, locals := 42 } S_ m_ args below meth co S_.heap [] 0 0 (MQ below (vp_Si (fun r => r = (nI (smL s s.length 0 0)))) args S_ 0 0 (fun _ => False)) (F0 m_ 4 ls []) := by
    intro r
    induction r with
    | zero =>
      intro v i h1 hq ls hl
      refine lv_iload_n X.1 X.2.1 dX8_letterSum_4 rfl (lv_at hl 0 rfl) ?_
      refine lv_aload_n X.1 X.2.1 dX8_letterSum_5 rfl (lv_at hl 2 rfl) ?_
      refine (c_Word_size g a b s f).callV (rest := [.int (nI i)]) X dX8_letterSum_6 q872 tX10_size hK (hP.sub [0, 1] rfl) 0 9 rfl rfl rfl hl ⟨⟨Nat.le_of_ble_eq_true rfl, Nat.le_of_ble_eq_true rfl⟩, Nat.le_of_ble_eq_true rfl, Nat.le_of_ble_eq_true rfl⟩ rfl rfl (Nat.le_of_ble_eq_true rfl) ?_
      refine z_icmp_ge (tgt := 26) X dX8_letterSum_9 (by decide) (nI_toInt (by omega)) (nI_toInt (by omega)) (fun c9 => ?_) (fun c9 => ?_)
      · refine lv_iload_n X.1 X.2.1 dX8_letterSum_26 rfl (lv_at hl 1 rfl) ?_
        exact PuI.ret X hr hlk dX8_letterSum_27 (nI_nar _) (by rw [← hq]; rfl)
      · exfalso; omega
    | succ r ih4 =>
      intro v i h1 hq ls hl
      refine lv_iload_n X.1 X.2.1 dX8_letterSum_4 rfl (lv_at hl 0 rfl) ?_
      refine lv_aload_n X.1 X.2.1 dX8_letterSum_5 rfl (lv_at hl 2 rfl) ?_
      refine (c_Word_size g a b s f).callV (rest := [.int (nI i)]) X dX8_letterSum_6 q872 tX10_size hK (hP.sub [0, 1] rfl) 0 9 rfl rfl rfl hl ⟨⟨Nat.le_of_ble_eq_true rfl, Nat.le_of_ble_eq_true rfl⟩, Nat.le_of_ble_eq_true rfl, Nat.le_of_ble_eq_true rfl⟩ rfl rfl (Nat.le_of_ble_eq_true rfl) ?_
      refine z_icmp_ge (tgt := 26) X dX8_letterSum_9 (by decide) (nI_toInt (by omega)) (nI_toInt (by omega)) (fun c9 => ?_) (fun c9 => ?_)
      · exfalso; omega
      · refine lv_iload_n X.1 X.2.1 dX8_letterSum_12 rfl (lv_at hl 1 rfl) ?_
        refine lv_aload_n X.1 X.2.1 dX8_letterSum_13 rfl (lv_at hl 2 rfl) ?_
        refine lv_iload_n X.1 X.2.1 dX8_letterSum_14 rfl (lv_at hl 0 rfl) ?_
        refine (c_Word_atN g a b s f i (by omega) (by assumption) (by omega)).callV (rest := [.int (nI v)]) X dX8_letterSum_15 q871 tX10_at hK (hP.sub [0, 1] rfl) 0 9 rfl rfl rfl hl ⟨⟨Nat.le_of_ble_eq_true rfl, Nat.le_of_ble_eq_true rfl⟩, Nat.le_of_ble_eq_true rfl, Nat.le_of_ble_eq_true rfl⟩ rfl rfl (Nat.le_of_ble_eq_true rfl) ?_
        refine n_add X dX8_letterSum_18 ?_
        refine lv_istore_n (lv' := [(1, .int (nI (v + (s.getD i 0)))), (2, .int (nI i)), (0, .ref a)]) X.1 X.2.1 dX8_letterSum_19 rfl hl (by decide) rfl (fun ls hl => ?_)
        refine lv_iinc (v := (nI (i + 1))) (lv' := [(2, .int (nI (i + 1))), (1, .int (nI (v + (s.getD i 0)))), (0, .ref a)]) X.1 X.2.1 dX8_letterSum_20 hl (k := 1) rfl (nI_inc _) (by decide) rfl (fun ls hl => ?_)
        refine lv_goto (tgt := 4) X.1 X.2.1 dX8_letterSum_23 (by decide) ?_
        exact ih4 (v + (s.getD i 0)) (i + 1) (by omega) (by rw [smL] at hq; exact hq) ls (lv_sub hl [0, 1, 2] rfl)
  exact L4 s.length 0 0 (by omega) (rfl) ls (lv_sub hl [0, 1, 2] rfl)
