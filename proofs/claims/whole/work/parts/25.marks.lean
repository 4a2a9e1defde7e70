set_option maxHeartbeats 4000000 in
set_option maxRecDepth 100000 in
theorem c_mk_clear (g : G5) (a : Nat) (b : Nat) (q : Nat → Bool) : MuV (S := Unit) yX4_clear cX4_clear 2 none 0 0 g [.ref a] [(a, .inr (4, [.ref b])), (b, .inl (g.2.2.1, 256, .inl (mf q)))] (fun _ => True) (fun _ => [(a, .inr (4, [.ref b])), (b, .inl (g.2.2.1, 256, .inl (mf qz)))]) := by
  refine MuV.of (by decide +kernel) (Nat.le_of_ble_eq_true rfl) ?_
  intro p_ l_ e_ S_ m_ args below meth co X hr hlk hP hK A hA hD hS ls hl
  have X : CallFix p_ m_ co cX4_clear 2 S_ args lw_all RX4 := X
  have hl : lv_has ls 2 [(0, .ref a)] := hl
  refine lv_iconst (v := (nI 0)) X.1 X.2.1 dX4_clear_0 (by decide) ?_
  refine lv_istore_n (lv' := [(1, .int (nI 0)), (0, .ref a)]) X.1 X.2.1 dX4_clear_1 rfl hl (by decide) rfl (fun ls hl => ?_)
  have L2 : ∀ (r : Nat) (i : Nat) (f1 : Nat → Int32) (h1 : i + r = 256) (hz : ∀ j, j < i → f1 j = nI 0) (H : Heap) (locs : List Loc) (hP : PP g [(a, .inr (4, [.ref b])), (b, .inl (g.2.2.1, 256, .inl f1))] H) (hD : va_D A [(a, .inr (4, [.ref b])), (b, .inl (g.2.2.1, 256, .inl f1))]) (hS : va_S A S_.heap H locs) (ls : Array Slot) (hl : lv_has ls 2 [(1, .int (nI i)), (0, .ref a)]), W p_ l_ e_ { frames := 0, cells := 0, slots := 0, locals := 0 } S_ m_ args below meth co H locs 0 0 (MQ below (va_Qv (S := Unit) (fun _ => True) (MuB g A (fun _ => [(a, .inr (4, [.ref b])), (b, .inl (g.2.2.1, 256, .inl (mf qz)))])) A) args S_ 0 0 A) (F0 m_ 2 ls []) := by
    intro r
    induction r with
    | zero =>
      intro i f1 h1 hz H locs hP hD hS ls hl
      refine lv_iload_n X.1 X.2.1 dX4_clear_2 rfl (lv_at hl 0 rfl) ?_
      refine lv_aload_n X.1 X.2.1 dX4_clear_3 rfl (lv_at hl 1 rfl) ?_
      refine va_get (D := g.1) (ci := 4) (v := .ref b) (C := RX4) (T := TX4) (N := 1) X.1 X.2.1 X.2.2.2.2 iwX4 X.2.2.2.1 hK hP 0 rfl rfl 0 (by decide) (X.2.2.2.2 _ q126) (fun _ h9 => h9) rfl dX4_clear_4 ?_
      refine va_alen X.1 X.2.1 hK hP 1 1 rfl rfl (v := nI 256) rfl dX4_clear_7 ?_
      refine z_icmp_ge (tgt := 24) X dX4_clear_8 (by decide) (nI_toInt (by omega)) (nI_toInt (by omega)) (fun c8 => ?_) (fun c8 => ?_)
      · have hP : PP g [(a, .inr (4, [.ref b])), (b, .inl (g.2.2.1, 256, .inl (mf qz)))] H := by exact PP_arr hP 1 rfl (fun j hj => hz j (by omega))
        have hD : va_D A [(a, .inr (4, [.ref b])), (b, .inl (g.2.2.1, 256, .inl (mf qz)))] := by exact hD.set (p := 1) rfl
        exact MuV.ret X hr hlk hK hS dX4_clear_24 () (hP.sub [0, 1] rfl) (hD.sub [0, 1] (by decide) rfl) (trivial)
      · exfalso; omega
    | succ r ih2 =>
      intro i f1 h1 hz H locs hP hD hS ls hl
      refine lv_iload_n X.1 X.2.1 dX4_clear_2 rfl (lv_at hl 0 rfl) ?_
      refine lv_aload_n X.1 X.2.1 dX4_clear_3 rfl (lv_at hl 1 rfl) ?_
      refine va_get (D := g.1) (ci := 4) (v := .ref b) (C := RX4) (T := TX4) (N := 1) X.1 X.2.1 X.2.2.2.2 iwX4 X.2.2.2.1 hK hP 0 rfl rfl 0 (by decide) (X.2.2.2.2 _ q126) (fun _ h9 => h9) rfl dX4_clear_4 ?_
      refine va_alen X.1 X.2.1 hK hP 1 1 rfl rfl (v := nI 256) rfl dX4_clear_7 ?_
      refine z_icmp_ge (tgt := 24) X dX4_clear_8 (by decide) (nI_toInt (by omega)) (nI_toInt (by omega)) (fun c8 => ?_) (fun c8 => ?_)
      · exfalso; omega
      · refine lv_aload_n X.1 X.2.1 dX4_clear_11 rfl (lv_at hl 1 rfl) ?_
        refine va_get (D := g.1) (ci := 4) (v := .ref b) (C := RX4) (T := TX4) (N := 1) X.1 X.2.1 X.2.2.2.2 iwX4 X.2.2.2.1 hK hP 0 rfl rfl 0 (by decide) (X.2.2.2.2 _ q126) (fun _ h9 => h9) rfl dX4_clear_12 ?_
        refine lv_iload_n X.1 X.2.1 dX4_clear_15 rfl (lv_at hl 0 rfl) ?_
        refine lv_iconst (v := (nI 0)) X.1 X.2.1 dX4_clear_16 (by decide) ?_
        refine n_zast X hK hP hD hS 1 1 rfl rfl (by omega) (by decide) (rfl) dX4_clear_17 (fun H locs hP hD hS => ?_)
        have hP : PP g [(a, .inr (4, [.ref b])), (b, .inl (g.2.2.1, 256, .inl (upd f1 i (nI 0))))] H := hP
        have hD : va_D A [(a, .inr (4, [.ref b])), (b, .inl (g.2.2.1, 256, .inl (upd f1 i (nI 0))))] := hD
        refine lv_iinc (v := (nI (i + 1))) (lv' := [(1, .int (nI (i + 1))), (0, .ref a)]) X.1 X.2.1 dX4_clear_18 hl (k := 0) rfl (nI_inc _) (by decide) rfl (fun ls hl => ?_)
        refine lv_goto (tgt := 2) X.1 X.2.1 dX4_clear_21 (by decide) ?_
        exact ih2 (i + 1) (upd f1 i (nI 0)) (by omega) (fun j hj => by unfold upd; split <;> first | rfl | exact hz j (by omega)) _ _ (hP.sub [0, 1] rfl) (hD.sub [0, 1] (by decide) rfl) hS ls (lv_sub hl [0, 1] rfl)
  exact L2 256 0 (mf q) (by omega) (fun j hj => absurd hj (Nat.not_lt_zero j)) _ _ (hP.sub [0, 1] rfl) (hD.sub [0, 1] (by decide) rfl) hS ls (lv_sub hl [0, 1] rfl)

set_option maxHeartbeats 4000000 in
set_option maxRecDepth 100000 in
theorem c_mk_has (g : G5) (a : Nat) (b : Nat) (q : Nat → Bool) (x : Nat) (hx : x < 256) : PuI yX4_has cX4_has 2 (some .boolean) 0 0 g [.ref a, .int (nI x)] [(a, .inr (4, [.ref b])), (b, .inl (g.2.2.1, 256, .inl (mf q)))] (bI (q x)) := by
  refine PuI.of (by decide +kernel) (Nat.le_of_ble_eq_true rfl) ?_
  intro p_ l_ e_ S_ m_ args below meth co X hr hlk hP hK ls hl
  have X : CallFix p_ m_ co cX4_has 2 S_ args lw_all RX4 := X
  have hl : lv_has ls 2 [(0, .ref a), (1, .int (nI x))] := hl
  refine lv_iload_n X.1 X.2.1 dX4_has_0 rfl (lv_at hl 1 rfl) ?_
  refine z_if_lt (tgt := 26) X dX4_has_1 (by decide) (nI_toInt (by omega)) (fun c1 => ?_) (fun c1 => ?_)
  · exfalso; omega
  · refine lv_iload_n X.1 X.2.1 dX4_has_4 rfl (lv_at hl 1 rfl) ?_
    refine lv_aload_n X.1 X.2.1 dX4_has_5 rfl (lv_at hl 0 rfl) ?_
    refine va_get (D := g.1) (ci := 4) (v := .ref b) (C := RX4) (T := TX4) (N := 1) X.1 X.2.1 X.2.2.2.2 iwX4 X.2.2.2.1 hK hP 0 rfl rfl 0 (by decide) (X.2.2.2.2 _ q126) (fun _ h9 => h9) rfl dX4_has_6 ?_
    refine va_alen X.1 X.2.1 hK hP 1 1 rfl rfl (v := nI 256) rfl dX4_has_9 ?_
    refine z_icmp_ge (tgt := 26) X dX4_has_10 (by decide) (nI_toInt (by omega)) (nI_toInt (by omega)) (fun c10 => ?_) (fun c10 => ?_)
    · exfalso; omega
    · refine lv_aload_n X.1 X.2.1 dX4_has_13 rfl (lv_at hl 0 rfl) ?_
      refine va_get (D := g.1) (ci := 4) (v := .ref b) (C := RX4) (T := TX4) (N := 1) X.1 X.2.1 X.2.2.2.2 iwX4 X.2.2.2.1 hK hP 0 rfl rfl 0 (by decide) (X.2.2.2.2 _ q126) (fun _ h9 => h9) rfl dX4_has_14 ?_
      refine lv_iload_n X.1 X.2.1 dX4_has_17 rfl (lv_at hl 1 rfl) ?_
      refine n_zald X hK hP 1 1 rfl rfl (by omega) (by decide) dX4_has_18 ?_
      refine tp_i (y := (bI (q x))) (rfl) ?_
      refine b_if_eq (tgt := 26) X dX4_has_19 (by decide) (fun c19 => ?_) (fun c19 => ?_)
      · refine lv_iconst (v := (nI 0)) X.1 X.2.1 dX4_has_26 (by decide) ?_
        exact PuI.ret X hr hlk dX4_has_27 (bI_nar _) (by first | exact bt c19 | exact bf c19)
      · refine lv_iconst (v := (nI 1)) X.1 X.2.1 dX4_has_22 (by decide) ?_
        refine lv_goto (tgt := 27) X.1 X.2.1 dX4_has_23 (by decide) ?_
        exact PuI.ret X hr hlk dX4_has_27 (bI_nar _) (by first | exact bt c19 | exact bf c19)

set_option maxHeartbeats 4000000 in
set_option maxRecDepth 100000 in
theorem c_mk_add (g : G5) (a : Nat) (b : Nat) (q : Nat → Bool) (x : Nat) (hx : x < 256) : MuV (S := Unit) yX4_add cX4_add 2 none 0 0 g [.ref a, .int (nI x)] [(a, .inr (4, [.ref b])), (b, .inl (g.2.2.1, 256, .inl (mf q)))] (fun _ => True) (fun _ => [(a, .inr (4, [.ref b])), (b, .inl (g.2.2.1, 256, .inl (mf (qset q x))))]) := by
  refine MuV.of (by decide +kernel) (Nat.le_of_ble_eq_true rfl) ?_
  intro p_ l_ e_ S_ m_ args below meth co X hr hlk hP hK A hA hD hS ls hl
  have X : CallFix p_ m_ co cX4_add 2 S_ args lw_all RX4 := X
  have hl : lv_has ls 2 [(0, .ref a), (1, .int (nI x))] := hl
  refine lv_iload_n X.1 X.2.1 dX4_add_0 rfl (lv_at hl 1 rfl) ?_
  refine z_if_lt (tgt := 20) X dX4_add_1 (by decide) (nI_toInt (by omega)) (fun c1 => ?_) (fun c1 => ?_)
  · exfalso; omega
  · refine lv_iload_n X.1 X.2.1 dX4_add_4 rfl (lv_at hl 1 rfl) ?_
    refine lv_aload_n X.1 X.2.1 dX4_add_5 rfl (lv_at hl 0 rfl) ?_
    refine va_get (D := g.1) (ci := 4) (v := .ref b) (C := RX4) (T := TX4) (N := 1) X.1 X.2.1 X.2.2.2.2 iwX4 X.2.2.2.1 hK hP 0 rfl rfl 0 (by decide) (X.2.2.2.2 _ q126) (fun _ h9 => h9) rfl dX4_add_6 ?_
    refine va_alen X.1 X.2.1 hK hP 1 1 rfl rfl (v := nI 256) rfl dX4_add_9 ?_
    refine z_icmp_ge (tgt := 20) X dX4_add_10 (by decide) (nI_toInt (by omega)) (nI_toInt (by omega)) (fun c10 => ?_) (fun c10 => ?_)
    · exfalso; omega
    · refine lv_aload_n X.1 X.2.1 dX4_add_13 rfl (lv_at hl 0 rfl) ?_
      refine va_get (D := g.1) (ci := 4) (v := .ref b) (C := RX4) (T := TX4) (N := 1) X.1 X.2.1 X.2.2.2.2 iwX4 X.2.2.2.1 hK hP 0 rfl rfl 0 (by decide) (X.2.2.2.2 _ q126) (fun _ h9 => h9) rfl dX4_add_14 ?_
      refine lv_iload_n X.1 X.2.1 dX4_add_17 rfl (lv_at hl 1 rfl) ?_
      refine lv_iconst (v := (nI 1)) X.1 X.2.1 dX4_add_18 (by decide) ?_
      refine n_zast X hK hP hD hS 1 1 rfl rfl (by omega) (by decide) (rfl) dX4_add_19 (fun H locs hP hD hS => ?_)
      have hP : PP g [(a, .inr (4, [.ref b])), (b, .inl (g.2.2.1, 256, .inl (upd (mf q) x (nI 1))))] H := hP
      have hD : va_D A [(a, .inr (4, [.ref b])), (b, .inl (g.2.2.1, 256, .inl (upd (mf q) x (nI 1))))] := hD
      have hP : PP g [(a, .inr (4, [.ref b])), (b, .inl (g.2.2.1, 256, .inl (mf (qset q x))))] H := by rw [← mf_set]; exact hP
      have hD : va_D A [(a, .inr (4, [.ref b])), (b, .inl (g.2.2.1, 256, .inl (mf (qset q x))))] := by rw [← mf_set]; exact hD
      exact MuV.ret X hr hlk hK hS dX4_add_20 () (hP.sub [0, 1] rfl) (hD.sub [0, 1] (by decide) rfl) (trivial)

set_option maxHeartbeats 4000000 in
set_option maxRecDepth 100000 in
theorem c_bl_first (g : G5) (o : Nat) (ma : Nat) (a : Nat) (k : Nat) (n : Nat) (B : Nat) (T : Nat) (w : Nat) (wb : Nat) (s : List Nat) (f : Nat → Int32) (b : Nat) (hc : shp k n B T) (hs : s.length ≤ 256) (hf : rep f s) (hlt : ltk k s) (hb : b < 256) : PuI yX0_firstPlace cX0_firstPlace 5 (some .int) 3 67 g [.ref o, .ref a, .ref w, .int (nI b)] [(o, .inr (0, [.ref ma])), (a, .inr (6, [.int (nI k), .int (nI n), .int (nI B), .int (nI T)])), (w, .inr (9, [.ref wb, .int (nI s.length)])), (wb, .inl (g.2.1, 256, .inl f))] (oI (fpO k n s b)) := by
  refine PuI.of (by decide +kernel) (Nat.le_of_ble_eq_true rfl) ?_
  intro p_ l_ e_ S_ m_ args below meth co X hr hlk hP hK ls hl
  have X : CallFix p_ m_ co cX0_firstPlace 5 S_ args lw_all RX0 := X
  have hl : lv_has ls 5 [(0, .ref o), (1, .ref a), (2, .ref w), (3, .int (nI b))] := hl
  obtain ⟨hk2, hk4, hn1, hn6, hB, hT, hBT, hT2⟩ := hc.f
  refine lv_iconst (v := (nI 0)) X.1 X.2.1 dX0_firstPlace_0 (by decide) ?_
  refine lv_istore (lv' := [(4, .int (nI 0)), (0, .ref o), (1, .ref a), (2, .ref w), (3, .int (nI b))]) X.1 X.2.1 dX0_firstPlace_1 hl (by decide) rfl (fun ls hl => ?_)
  have L3 : ∀ (r : Nat) (i : Nat) (h1 : i + r = s.length) (hq : firstL (eqC k n s b) r i = fpO k n s b) (ls : Array Slot) (hl : lv_has ls 5 [(4, .int (nI i)), (0, .ref o), (1, .ref a), (2, .ref w), (3, .int (nI b))]), W p_ l_ e_ { frames := 3, cells := 0, slots := 0, locals := 67 } S_ m_ args below meth co S_.heap [] 0 0 (MQ below (vp_Si (fun r => r = (oI (fpO k n s b)))) args S_ 0 0 (fun _ => False)) (F0 m_ 3 ls []) := by
    intro r
    induction r with
    | zero =>
      intro i h1 hq ls hl
      refine lv_iload X.1 X.2.1 dX0_firstPlace_3 (lv_at hl 0 rfl) ?_
      refine lv_aload_n X.1 X.2.1 dX0_firstPlace_5 rfl (lv_at hl 3 rfl) ?_
      refine (c_Word_size g w wb s f).callV (rest := [.int (nI i)]) X dX0_firstPlace_6 q683 tX10_size hK (hP.sub [2, 3] rfl) 0 9 rfl rfl rfl hl ⟨⟨Nat.le_of_ble_eq_true rfl, Nat.le_of_ble_eq_true rfl⟩, Nat.le_of_ble_eq_true rfl, Nat.le_of_ble_eq_true rfl⟩ rfl rfl (Nat.le_of_ble_eq_true rfl) ?_
      refine z_icmp_ge (tgt := 32) X dX0_firstPlace_9 (by decide) (nI_toInt (by omega)) (nI_toInt (by omega)) (fun c9 => ?_) (fun c9 => ?_)
      · refine lv_bipush (v := (-2)) X.1 X.2.1 dX0_firstPlace_32 (by decide) ?_
        exact PuI.ret X hr hlk dX0_firstPlace_34 (nI_nar _) (by rw [← hq]; rfl)
      · exfalso; omega
    | succ r ih3 =>
      intro i h1 hq ls hl
      refine lv_iload X.1 X.2.1 dX0_firstPlace_3 (lv_at hl 0 rfl) ?_
      refine lv_aload_n X.1 X.2.1 dX0_firstPlace_5 rfl (lv_at hl 3 rfl) ?_
      refine (c_Word_size g w wb s f).callV (rest := [.int (nI i)]) X dX0_firstPlace_6 q683 tX10_size hK (hP.sub [2, 3] rfl) 0 9 rfl rfl rfl hl ⟨⟨Nat.le_of_ble_eq_true rfl, Nat.le_of_ble_eq_true rfl⟩, Nat.le_of_ble_eq_true rfl, Nat.le_of_ble_eq_true rfl⟩ rfl rfl (Nat.le_of_ble_eq_true rfl) ?_
      refine z_icmp_ge (tgt := 32) X dX0_firstPlace_9 (by decide) (nI_toInt (by omega)) (nI_toInt (by omega)) (fun c9 => ?_) (fun c9 => ?_)
      · exfalso; omega
      · refine lv_aload_n X.1 X.2.1 dX0_firstPlace_12 rfl (lv_at hl 2 rfl) ?_
        refine lv_aload_n X.1 X.2.1 dX0_firstPlace_13 rfl (lv_at hl 3 rfl) ?_
        refine lv_iload X.1 X.2.1 dX0_firstPlace_14 (lv_at hl 0 rfl) ?_
        refine (c_codeAt g a k n B T w wb s f i (by assumption) (by omega) (by assumption) (by omega) (by omega)).callV (rest := []) X dX0_firstPlace_16 q684 tX6_codeAt hK (hP.sub [1, 2, 3] rfl) 0 6 rfl rfl rfl hl ⟨⟨Nat.le_of_ble_eq_true rfl, Nat.le_of_ble_eq_true rfl⟩, Nat.le_of_ble_eq_true rfl, Nat.le_of_ble_eq_true rfl⟩ rfl rfl (Nat.le_of_ble_eq_true rfl) ?_
        have hF := codeN_lt hc hlt i
        refine lv_iload_n X.1 X.2.1 dX0_firstPlace_19 rfl (lv_at hl 4 rfl) ?_
        refine z_icmp_ne (tgt := 26) X dX0_firstPlace_20 (by decide) (nI_toInt (by omega)) (nI_toInt (by omega)) (fun c20 => ?_) (fun c20 => ?_)
        · refine lv_iinc (v := (nI (i + 1))) (lv' := [(4, .int (nI (i + 1))), (0, .ref o), (1, .ref a), (2, .ref w), (3, .int (nI b))]) X.1 X.2.1 dX0_firstPlace_26 hl (k := 0) rfl (nI_inc _) (by decide) rfl (fun ls hl => ?_)
          refine lv_goto (tgt := 3) X.1 X.2.1 dX0_firstPlace_29 (by decide) ?_
          exact ih3 (i + 1) (by omega) (by rw [firstL, eqC, decide_eq_false (by omega)] at hq; exact hq) ls (lv_sub hl [0, 1, 2, 3, 4] rfl)
        · refine lv_iload X.1 X.2.1 dX0_firstPlace_23 (lv_at hl 0 rfl) ?_
          exact PuI.ret X hr hlk dX0_firstPlace_25 (nI_nar _) (by rw [firstL, eqC, decide_eq_true (by omega)] at hq; rw [← hq]; rfl)
  exact L3 s.length 0 (by omega) (rfl) ls (lv_sub hl [0, 1, 2, 3, 4] rfl)

set_option maxHeartbeats 4000000 in
set_option maxRecDepth 100000 in
theorem c_bl_total (g : G5) (o : Nat) (ma : Nat) (a : Nat) (k : Nat) (n : Nat) (B : Nat) (T : Nat) (w : Nat) (wb : Nat) (s : List Nat) (f : Nat → Int32) (b : Nat) (hc : shp k n B T) (hs : s.length ≤ 256) (hf : rep f s) (hlt : ltk k s) (hb : b < 256) : PuI yX0_placeTotal cX0_placeTotal 6 (some .int) 3 67 g [.ref o, .ref a, .ref w, .int (nI b)] [(o, .inr (0, [.ref ma])), (a, .inr (6, [.int (nI k), .int (nI n), .int (nI B), .int (nI T)])), (w, .inr (9, [.ref wb, .int (nI s.length)])), (wb, .inl (g.2.1, 256, .inl f))] (nI (cntL (eqC k n s b) s.length 0 0)) := by
  refine PuI.of (by decide +kernel) (Nat.le_of_ble_eq_true rfl) ?_
  intro p_ l_ e_ S_ m_ args below meth co X hr hlk hP hK ls hl
  have X : CallFix p_ m_ co cX0_placeTotal 6 S_ args lw_all RX0 := X
  have hl : lv_has ls 6 [(0, .ref o), (1, .ref a), (2, .ref w), (3, .int (nI b))] := hl
  obtain ⟨hk2, hk4, hn1, hn6, hB, hT, hBT, hT2⟩ := hc.f
  refine lv_iconst (v := (nI 0)) X.1 X.2.1 dX0_placeTotal_0 (by decide) ?_
  refine lv_istore (lv' := [(4, .int (nI 0)), (0, .ref o), (1, .ref a), (2, .ref w), (3, .int (nI b))]) X.1 X.2.1 dX0_placeTotal_1 hl (by decide) rfl (fun ls hl => ?_)
  refine lv_iconst (v := (nI 0)) X.1 X.2.1 dX0_placeTotal_3 (by decide) ?_
  refine lv_istore (lv' := [(5, .int (nI 0)), (4, .int (nI 0)), (0, .ref o), (1, .ref a), (2, .ref w), (3, .int (nI b))]) X.1 X.2.1 dX0_placeTotal_4 hl (by decide) rfl (fun ls hl => ?_)
  have L6 : ∀ (r : Nat) (v : Nat) (i : Nat) (h1 : i + r = s.length) (hq : cntL (eqC k n s b) r i v = cntL (eqC k n s b) s.length 0 0) (ls : Array Slot) (hl : lv_has ls 6 [(5, .int (nI i)), (4, .int (nI v)), (0, .ref o), (1, .ref a), (2, .ref w), (3, .int (nI b))]), W p_ l_ e_ { frames := 3, cells := 0, slots := 0, locals := 67 } S_ m_ args below meth co S_.heap [] 0 0 (MQ below (vp_Si (fun r => r = (nI (cntL (eqC k n s b) s.length 0 0)))) args S_ 0 0 (fun _ => False)) (F0 m_ 6 ls []) := by
    intro r
    induction r with
    | zero =>
      intro v i h1 hq ls hl
      refine lv_iload X.1 X.2.1 dX0_placeTotal_6 (lv_at hl 0 rfl) ?_
      refine lv_aload_n X.1 X.2.1 dX0_placeTotal_8 rfl (lv_at hl 4 rfl) ?_
      refine (c_Word_size g w wb s f).callV (rest := [.int (nI i)]) X dX0_placeTotal_9 q683 tX10_size hK (hP.sub [2, 3] rfl) 0 9 rfl rfl rfl hl ⟨⟨Nat.le_of_ble_eq_true rfl, Nat.le_of_ble_eq_true rfl⟩, Nat.le_of_ble_eq_true rfl, Nat.le_of_ble_eq_true rfl⟩ rfl rfl (Nat.le_of_ble_eq_true rfl) ?_
      refine z_icmp_ge (tgt := 35) X dX0_placeTotal_12 (by decide) (nI_toInt (by omega)) (nI_toInt (by omega)) (fun c12 => ?_) (fun c12 => ?_)
      · refine lv_iload X.1 X.2.1 dX0_placeTotal_35 (lv_at hl 1 rfl) ?_
        exact PuI.ret X hr hlk dX0_placeTotal_37 (nI_nar _) (by rw [← hq]; rfl)
      · exfalso; omega
    | succ r ih6 =>
      intro v i h1 hq ls hl
      refine lv_iload X.1 X.2.1 dX0_placeTotal_6 (lv_at hl 0 rfl) ?_
      refine lv_aload_n X.1 X.2.1 dX0_placeTotal_8 rfl (lv_at hl 4 rfl) ?_
      refine (c_Word_size g w wb s f).callV (rest := [.int (nI i)]) X dX0_placeTotal_9 q683 tX10_size hK (hP.sub [2, 3] rfl) 0 9 rfl rfl rfl hl ⟨⟨Nat.le_of_ble_eq_true rfl, Nat.le_of_ble_eq_true rfl⟩, Nat.le_of_ble_eq_true rfl, Nat.le_of_ble_eq_true rfl⟩ rfl rfl (Nat.le_of_ble_eq_true rfl) ?_
      refine z_icmp_ge (tgt := 35) X dX0_placeTotal_12 (by decide) (nI_toInt (by omega)) (nI_toInt (by omega)) (fun c12 => ?_) (fun c12 => ?_)
      · exfalso; omega
      · refine lv_aload_n X.1 X.2.1 dX0_placeTotal_15 rfl (lv_at hl 3 rfl) ?_
        refine lv_aload_n X.1 X.2.1 dX0_placeTotal_16 rfl (lv_at hl 4 rfl) ?_
        refine lv_iload X.1 X.2.1 dX0_placeTotal_17 (lv_at hl 0 rfl) ?_
        refine (c_codeAt g a k n B T w wb s f i (by assumption) (by omega) (by assumption) (by omega) (by omega)).callV (rest := []) X dX0_placeTotal_19 q684 tX6_codeAt hK (hP.sub [1, 2, 3] rfl) 0 6 rfl rfl rfl hl ⟨⟨Nat.le_of_ble_eq_true rfl, Nat.le_of_ble_eq_true rfl⟩, Nat.le_of_ble_eq_true rfl, Nat.le_of_ble_eq_true rfl⟩ rfl rfl (Nat.le_of_ble_eq_true rfl) ?_
        have hF := codeN_lt hc hlt i
        refine lv_iload_n X.1 X.2.1 dX0_placeTotal_22 rfl (lv_at hl 5 rfl) ?_
        refine z_icmp_ne (tgt := 29) X dX0_placeTotal_23 (by decide) (nI_toInt (by omega)) (nI_toInt (by omega)) (fun c23 => ?_) (fun c23 => ?_)
        · refine lv_iinc (v := (nI (i + 1))) (lv' := [(5, .int (nI (i + 1))), (4, .int (nI v)), (0, .ref o), (1, .ref a), (2, .ref w), (3, .int (nI b))]) X.1 X.2.1 dX0_placeTotal_29 hl (k := 0) rfl (nI_inc _) (by decide) rfl (fun ls hl => ?_)
          refine lv_goto (tgt := 6) X.1 X.2.1 dX0_placeTotal_32 (by decide) ?_
          exact ih6 v (i + 1) (by omega) (by rw [cntL, eqC] at hq; first | (rw [decide_eq_true (by omega)] at hq; exact hq) | (rw [decide_eq_false (by omega)] at hq; exact hq)) ls (lv_sub hl [0, 1, 2, 3, 4, 5] rfl)
        · refine lv_iinc (v := (nI (v + 1))) (lv' := [(4, .int (nI (v + 1))), (5, .int (nI i)), (0, .ref o), (1, .ref a), (2, .ref w), (3, .int (nI b))]) X.1 X.2.1 dX0_placeTotal_26 hl (k := 1) rfl (nI_inc _) (by decide) rfl (fun ls hl => ?_)
          refine lv_iinc (v := (nI (i + 1))) (lv' := [(5, .int (nI (i + 1))), (4, .int (nI (v + 1))), (0, .ref o), (1, .ref a), (2, .ref w), (3, .int (nI b))]) X.1 X.2.1 dX0_placeTotal_29 hl (k := 1) rfl (nI_inc _) (by decide) rfl (fun ls hl => ?_)
          refine lv_goto (tgt := 6) X.1 X.2.1 dX0_placeTotal_32 (by decide) ?_
          exact ih6 (v + 1) (i + 1) (by omega) (by rw [cntL, eqC] at hq; first | (rw [decide_eq_true (by omega)] at hq; exact hq) | (rw [decide_eq_false (by omega)] at hq; exact hq)) ls (lv_sub hl [0, 1, 2, 3, 4, 5] rfl)
  exact L6 s.length 0 0 (by omega) (rfl) ls (lv_sub hl [0, 1, 2, 3, 4, 5] rfl)

set_option maxHeartbeats 4000000 in
set_option maxRecDepth 100000 in
theorem c_bl_look (g : G5) (o : Nat) (ma : Nat) (mb : Nat) (q : Nat → Bool) (a : Nat) (k : Nat) (n : Nat) (B : Nat) (T : Nat) (w : Nat) (wb : Nat) (s : List Nat) (f : Nat → Int32) (hc : shp k n B T) (hs : s.length ≤ 256) (hf : rep f s) (hlt : ltk k s) : MuV (S := Unit) yX0_look cX0_look 4 none 3 67 g [.ref o, .ref a, .ref w] [(o, .inr (0, [.ref ma])), (ma, .inr (4, [.ref mb])), (mb, .inl (g.2.2.1, 256, .inl (mf q))), (a, .inr (6, [.int (nI k), .int (nI n), .int (nI B), .int (nI T)])), (w, .inr (9, [.ref wb, .int (nI s.length)])), (wb, .inl (g.2.1, 256, .inl f))] (fun _ => True) (fun _ => [(o, .inr (0, [.ref ma])), (ma, .inr (4, [.ref mb])), (mb, .inl (g.2.2.1, 256, .inl (mf (occ k n s)))), (a, .inr (6, [.int (nI k), .int (nI n), .int (nI B), .int (nI T)])), (w, .inr (9, [.ref wb, .int (nI s.length)])), (wb, .inl (g.2.1, 256, .inl f))]) := by
  refine MuV.of (by decide +kernel) (Nat.le_of_ble_eq_true rfl) ?_
  intro p_ l_ e_ S_ m_ args below meth co X hr hlk hP hK A hA hD hS ls hl
  have X : CallFix p_ m_ co cX0_look 4 S_ args lw_all RX0 := X
  have hl : lv_has ls 4 [(0, .ref o), (1, .ref a), (2, .ref w)] := hl
  obtain ⟨hk2, hk4, hn1, hn6, hB, hT, hBT, hT2⟩ := hc.f
  refine lv_aload_n X.1 X.2.1 dX0_look_0 rfl (lv_at hl 0 rfl) ?_
  refine va_get (D := g.1) (ci := 0) (v := .ref ma) (C := RX0) (T := TX0) (N := 1) X.1 X.2.1 X.2.2.2.2 iwX0 X.2.2.2.1 hK hP 0 rfl rfl 0 (by decide) (X.2.2.2.2 _ q131) (fun _ h9 => h9) rfl dX0_look_1 ?_
  refine (c_mk_clear g ma mb q).callV (rest := []) (wr := [(o, .inr (0, [.ref ma])), (a, .inr (6, [.int (nI k), .int (nI n), .int (nI B), .int (nI T)])), (w, .inr (9, [.ref wb, .int (nI s.length)])), (wb, .inl (g.2.1, 256, .inl f))]) X dX0_look_4 q723 tX4_clear hK hP hD hS hA [1, 2] [0, 3, 4, 5] (by decide) rfl rfl (by decide) (by decide) 0 4 rfl rfl rfl hl ⟨⟨Nat.le_of_ble_eq_true rfl, Nat.le_of_ble_eq_true rfl⟩, Nat.le_of_ble_eq_true rfl, Nat.le_of_ble_eq_true rfl⟩ rfl rfl (Nat.le_of_ble_eq_true rfl) (fun u4 H locs hw4 hP hD hS => ?_)
  have hP : PP g [(o, .inr (0, [.ref ma])), (a, .inr (6, [.int (nI k), .int (nI n), .int (nI B), .int (nI T)])), (w, .inr (9, [.ref wb, .int (nI s.length)])), (wb, .inl (g.2.1, 256, .inl f)), (ma, .inr (4, [.ref mb])), (mb, .inl (g.2.2.1, 256, .inl (mf qz)))] H := hP
  have hD : va_D A [(o, .inr (0, [.ref ma])), (a, .inr (6, [.int (nI k), .int (nI n), .int (nI B), .int (nI T)])), (w, .inr (9, [.ref wb, .int (nI s.length)])), (wb, .inl (g.2.1, 256, .inl f)), (ma, .inr (4, [.ref mb])), (mb, .inl (g.2.2.1, 256, .inl (mf qz)))] := hD
  refine lv_iconst (v := (nI 0)) X.1 X.2.1 dX0_look_7 (by decide) ?_
  refine lv_istore_n (lv' := [(3, .int (nI 0)), (0, .ref o), (1, .ref a), (2, .ref w)]) X.1 X.2.1 dX0_look_8 rfl hl (by decide) rfl (fun ls hl => ?_)
  have L9 : ∀ (r : Nat) (i : Nat) (q1 : Nat → Bool) (h1 : i + r = s.length) (hq : lkL (codeN k n s) r i q1 = occ k n s) (H : Heap) (locs : List Loc) (hP : PP g [(o, .inr (0, [.ref ma])), (ma, .inr (4, [.ref mb])), (mb, .inl (g.2.2.1, 256, .inl (mf q1))), (a, .inr (6, [.int (nI k), .int (nI n), .int (nI B), .int (nI T)])), (w, .inr (9, [.ref wb, .int (nI s.length)])), (wb, .inl (g.2.1, 256, .inl f))] H) (hD : va_D A [(o, .inr (0, [.ref ma])), (ma, .inr (4, [.ref mb])), (mb, .inl (g.2.2.1, 256, .inl (mf q1))), (a, .inr (6, [.int (nI k), .int (nI n), .int (nI B), .int (nI T)])), (w, .inr (9, [.ref wb, .int (nI s.length)])), (wb, .inl (g.2.1, 256, .inl f))]) (hS : va_S A S_.heap H locs) (ls : Array Slot) (hl : lv_has ls 4 [(3, .int (nI i)), (0, .ref o), (1, .ref a), (2, .ref w)]), W p_ l_ e_ { frames := 3, cells := 0, slots := 0, locals := 67 } S_ m_ args below meth co H locs 0 0 (MQ below (va_Qv (S := Unit) (fun _ => True) (MuB g A (fun _ => [(o, .inr (0, [.ref ma])), (ma, .inr (4, [.ref mb])), (mb, .inl (g.2.2.1, 256, .inl (mf (occ k n s)))), (a, .inr (6, [.int (nI k), .int (nI n), .int (nI B), .int (nI T)])), (w, .inr (9, [.ref wb, .int (nI s.length)])), (wb, .inl (g.2.1, 256, .inl f))])) A) args S_ 0 0 A) (F0 m_ 9 ls []) := by
    intro r
    induction r with
    | zero =>
      intro i q1 h1 hq H locs hP hD hS ls hl
      have e9 : q1 = occ k n s := hq
      refine lv_iload_n X.1 X.2.1 dX0_look_9 rfl (lv_at hl 0 rfl) ?_
      refine lv_aload_n X.1 X.2.1 dX0_look_10 rfl (lv_at hl 3 rfl) ?_
      refine (c_Word_size g w wb s f).callV (rest := [.int (nI i)]) X dX0_look_11 q683 tX10_size hK (hP.sub [4, 5] rfl) 0 9 rfl rfl rfl hl ⟨⟨Nat.le_of_ble_eq_true rfl, Nat.le_of_ble_eq_true rfl⟩, Nat.le_of_ble_eq_true rfl, Nat.le_of_ble_eq_true rfl⟩ rfl rfl (Nat.le_of_ble_eq_true rfl) ?_
      refine z_icmp_ge (tgt := 36) X dX0_look_14 (by decide) (nI_toInt (by omega)) (nI_toInt (by omega)) (fun c14 => ?_) (fun c14 => ?_)
      · have hP : PP g [(o, .inr (0, [.ref ma])), (ma, .inr (4, [.ref mb])), (mb, .inl (g.2.2.1, 256, .inl (mf (occ k n s)))), (a, .inr (6, [.int (nI k), .int (nI n), .int (nI B), .int (nI T)])), (w, .inr (9, [.ref wb, .int (nI s.length)])), (wb, .inl (g.2.1, 256, .inl f))] H := by rw [← e9]; exact hP
        have hD : va_D A [(o, .inr (0, [.ref ma])), (ma, .inr (4, [.ref mb])), (mb, .inl (g.2.2.1, 256, .inl (mf (occ k n s)))), (a, .inr (6, [.int (nI k), .int (nI n), .int (nI B), .int (nI T)])), (w, .inr (9, [.ref wb, .int (nI s.length)])), (wb, .inl (g.2.1, 256, .inl f))] := by rw [← e9]; exact hD
        exact MuV.ret X hr hlk hK hS dX0_look_36 () (hP.sub [0, 1, 2, 3, 4, 5] rfl) (hD.sub [0, 1, 2, 3, 4, 5] (by decide) rfl) (trivial)
      · exfalso; omega
    | succ r ih9 =>
      intro i q1 h1 hq H locs hP hD hS ls hl
      refine lv_iload_n X.1 X.2.1 dX0_look_9 rfl (lv_at hl 0 rfl) ?_
      refine lv_aload_n X.1 X.2.1 dX0_look_10 rfl (lv_at hl 3 rfl) ?_
      refine (c_Word_size g w wb s f).callV (rest := [.int (nI i)]) X dX0_look_11 q683 tX10_size hK (hP.sub [4, 5] rfl) 0 9 rfl rfl rfl hl ⟨⟨Nat.le_of_ble_eq_true rfl, Nat.le_of_ble_eq_true rfl⟩, Nat.le_of_ble_eq_true rfl, Nat.le_of_ble_eq_true rfl⟩ rfl rfl (Nat.le_of_ble_eq_true rfl) ?_
      refine z_icmp_ge (tgt := 36) X dX0_look_14 (by decide) (nI_toInt (by omega)) (nI_toInt (by omega)) (fun c14 => ?_) (fun c14 => ?_)
      · exfalso; omega
      · refine lv_aload_n X.1 X.2.1 dX0_look_17 rfl (lv_at hl 1 rfl) ?_
        refine va_get (D := g.1) (ci := 0) (v := .ref ma) (C := RX0) (T := TX0) (N := 1) X.1 X.2.1 X.2.2.2.2 iwX0 X.2.2.2.1 hK hP 0 rfl rfl 0 (by decide) (X.2.2.2.2 _ q131) (fun _ h9 => h9) rfl dX0_look_18 ?_
        refine lv_aload_n X.1 X.2.1 dX0_look_21 rfl (lv_at hl 2 rfl) ?_
        refine lv_aload_n X.1 X.2.1 dX0_look_22 rfl (lv_at hl 3 rfl) ?_
        refine lv_iload_n X.1 X.2.1 dX0_look_23 rfl (lv_at hl 0 rfl) ?_
        refine (c_codeAt g a k n B T w wb s f i (by assumption) (by omega) (by assumption) (by omega) (by omega)).callV (rest := [.ref ma]) X dX0_look_24 q684 tX6_codeAt hK (hP.sub [3, 4, 5] rfl) 0 6 rfl rfl rfl hl ⟨⟨Nat.le_of_ble_eq_true rfl, Nat.le_of_ble_eq_true rfl⟩, Nat.le_of_ble_eq_true rfl, Nat.le_of_ble_eq_true rfl⟩ rfl rfl (Nat.le_of_ble_eq_true rfl) ?_
        have hF := codeN_lt hc hlt i
        refine (c_mk_add g ma mb q1 (codeN k n s i) (by omega)).callV (rest := []) (wr := [(o, .inr (0, [.ref ma])), (a, .inr (6, [.int (nI k), .int (nI n), .int (nI B), .int (nI T)])), (w, .inr (9, [.ref wb, .int (nI s.length)])), (wb, .inl (g.2.1, 256, .inl f))]) X dX0_look_27 q724 tX4_add hK hP hD hS hA [1, 2] [0, 3, 4, 5] (by decide) rfl rfl (by decide) (by decide) 0 4 rfl rfl rfl hl ⟨⟨Nat.le_of_ble_eq_true rfl, Nat.le_of_ble_eq_true rfl⟩, Nat.le_of_ble_eq_true rfl, Nat.le_of_ble_eq_true rfl⟩ rfl rfl (Nat.le_of_ble_eq_true rfl) (fun u27 H locs hw27 hP hD hS => ?_)
        have hP : PP g [(o, .inr (0, [.ref ma])), (a, .inr (6, [.int (nI k), .int (nI n), .int (nI B), .int (nI T)])), (w, .inr (9, [.ref wb, .int (nI s.length)])), (wb, .inl (g.2.1, 256, .inl f)), (ma, .inr (4, [.ref mb])), (mb, .inl (g.2.2.1, 256, .inl (mf (qset q1 (codeN k n s i)))))] H := hP
        have hD : va_D A [(o, .inr (0, [.ref ma])), (a, .inr (6, [.int (nI k), .int (nI n), .int (nI B), .int (nI T)])), (w, .inr (9, [.ref wb, .int (nI s.length)])), (wb, .inl (g.2.1, 256, .inl f)), (ma, .inr (4, [.ref mb])), (mb, .inl (g.2.2.1, 256, .inl (mf (qset q1 (codeN k n s i)))))] := hD
        refine lv_iinc (v := (nI (i + 1))) (lv' := [(3, .int (nI (i + 1))), (0, .ref o), (1, .ref a), (2, .ref w)]) X.1 X.2.1 dX0_look_30 hl (k := 0) rfl (nI_inc _) (by decide) rfl (fun ls hl => ?_)
        refine lv_goto (tgt := 9) X.1 X.2.1 dX0_look_33 (by decide) ?_
        exact ih9 (i + 1) (qset q1 (codeN k n s i)) (by omega) (by rw [lkL] at hq; exact hq) _ _ (hP.sub [0, 4, 5, 1, 2, 3] rfl) (hD.sub [0, 4, 5, 1, 2, 3] (by decide) rfl) hS ls (lv_sub hl [0, 1, 2, 3] rfl)
  exact L9 s.length 0 qz (by omega) (rfl) _ _ (hP.sub [0, 4, 5, 1, 2, 3] rfl) (hD.sub [0, 4, 5, 1, 2, 3] (by decide) rfl) hS ls (lv_sub hl [0, 1, 2, 3] rfl)

set_option maxHeartbeats 4000000 in
set_option maxRecDepth 100000 in
theorem c_bl_diff (g : G5) (o : Nat) (ma : Nat) (mb : Nat) (q : Nat → Bool) (a : Nat) (k : Nat) (n : Nat) (B : Nat) (T : Nat) (w : Nat) (wb : Nat) (s : List Nat) (f : Nat → Int32) (hc : shp k n B T) (hs : s.length ≤ 256) (hf : rep f s) (hlt : ltk k s) : MuI (S := Unit) yX0_differentTotal cX0_differentTotal 5 (some .int) 4 90 g [.ref o, .ref a, .ref w] [(o, .inr (0, [.ref ma])), (ma, .inr (4, [.ref mb])), (mb, .inl (g.2.2.1, 256, .inl (mf q))), (a, .inr (6, [.int (nI k), .int (nI n), .int (nI B), .int (nI T)])), (w, .inr (9, [.ref wb, .int (nI s.length)])), (wb, .inl (g.2.1, 256, .inl f))] (fun r (_ : Unit) => r = (nI (cntL (occ k n s) B 0 0))) (fun _ => [(o, .inr (0, [.ref ma])), (ma, .inr (4, [.ref mb])), (mb, .inl (g.2.2.1, 256, .inl (mf (occ k n s)))), (a, .inr (6, [.int (nI k), .int (nI n), .int (nI B), .int (nI T)])), (w, .inr (9, [.ref wb, .int (nI s.length)])), (wb, .inl (g.2.1, 256, .inl f))]) := by
  refine MuI.of (by decide +kernel) (Nat.le_of_ble_eq_true rfl) ?_
  intro p_ l_ e_ S_ m_ args below meth co X hr hlk hP hK A hA hD hS ls hl
  have X : CallFix p_ m_ co cX0_differentTotal 5 S_ args lw_all RX0 := X
  have hl : lv_has ls 5 [(0, .ref o), (1, .ref a), (2, .ref w)] := hl
  obtain ⟨hk2, hk4, hn1, hn6, hB, hT, hBT, hT2⟩ := hc.f
  refine lv_aload_n X.1 X.2.1 dX0_differentTotal_0 rfl (lv_at hl 0 rfl) ?_
  refine lv_aload_n X.1 X.2.1 dX0_differentTotal_1 rfl (lv_at hl 1 rfl) ?_
  refine lv_aload_n X.1 X.2.1 dX0_differentTotal_2 rfl (lv_at hl 2 rfl) ?_
  refine (c_bl_look g o ma mb q a k n B T w wb s f (by assumption) (by omega) (by assumption) (by assumption)).callV (rest := []) (wr := []) X dX0_differentTotal_3 q719 tX0_look hK hP hD hS hA [0, 1, 2, 3, 4, 5] [] (by decide) rfl rfl (by decide) (by decide) 0 0 rfl rfl rfl hl ⟨⟨Nat.le_of_ble_eq_true rfl, Nat.le_of_ble_eq_true rfl⟩, Nat.le_of_ble_eq_true rfl, Nat.le_of_ble_eq_true rfl⟩ rfl rfl (Nat.le_of_ble_eq_true rfl) (fun u3 H locs hw3 hP hD hS => ?_)
  have hP : PP g [(o, .inr (0, [.ref ma])), (ma, .inr (4, [.ref mb])), (mb, .inl (g.2.2.1, 256, .inl (mf (occ k n s)))), (a, .inr (6, [.int (nI k), .int (nI n), .int (nI B), .int (nI T)])), (w, .inr (9, [.ref wb, .int (nI s.length)])), (wb, .inl (g.2.1, 256, .inl f))] H := hP
  have hD : va_D A [(o, .inr (0, [.ref ma])), (ma, .inr (4, [.ref mb])), (mb, .inl (g.2.2.1, 256, .inl (mf (occ k n s)))), (a, .inr (6, [.int (nI k), .int (nI n), .int (nI B), .int (nI T)])), (w, .inr (9, [.ref wb, .int (nI s.length)])), (wb, .inl (g.2.1, 256, .inl f))] := hD
  refine lv_iconst (v := (nI 0)) X.1 X.2.1 dX0_differentTotal_6 (by decide) ?_
  refine lv_istore_n (lv' := [(3, .int (nI 0)), (0, .ref o), (1, .ref a), (2, .ref w)]) X.1 X.2.1 dX0_differentTotal_7 rfl hl (by decide) rfl (fun ls hl => ?_)
  refine lv_iconst (v := (nI 0)) X.1 X.2.1 dX0_differentTotal_8 (by decide) ?_
  refine lv_istore (lv' := [(4, .int (nI 0)), (3, .int (nI 0)), (0, .ref o), (1, .ref a), (2, .ref w)]) X.1 X.2.1 dX0_differentTotal_9 hl (by decide) rfl (fun ls hl => ?_)
  have L11 : ∀ (r : Nat) (v : Nat) (i : Nat) (h1 : i + r = B) (hq : cntL (occ k n s) r i v = cntL (occ k n s) B 0 0) (ls : Array Slot) (hl : lv_has ls 5 [(4, .int (nI i)), (3, .int (nI v)), (0, .ref o), (1, .ref a), (2, .ref w)]), W p_ l_ e_ { frames := 4, cells := 0, slots := 0, locals := 90 } S_ m_ args below meth co H locs 0 0 (MQ below (va_Qi (S := Unit) (fun r (_ : Unit) => r = (nI (cntL (occ k n s) B 0 0))) (MuB g A (fun _ => [(o, .inr (0, [.ref ma])), (ma, .inr (4, [.ref mb])), (mb, .inl (g.2.2.1, 256, .inl (mf (occ k n s)))), (a, .inr (6, [.int (nI k), .int (nI n), .int (nI B), .int (nI T)])), (w, .inr (9, [.ref wb, .int (nI s.length)])), (wb, .inl (g.2.1, 256, .inl f))])) A) args S_ 0 0 A) (F0 m_ 11 ls []) := by
    intro r
    induction r with
    | zero =>
      intro v i h1 hq ls hl
      refine lv_iload X.1 X.2.1 dX0_differentTotal_11 (lv_at hl 0 rfl) ?_
      refine lv_aload_n X.1 X.2.1 dX0_differentTotal_13 rfl (lv_at hl 3 rfl) ?_
      refine (c_sh_B g a k n B T).callV (rest := [.int (nI i)]) X dX0_differentTotal_14 q725 tX6_blockTotal hK (hP.sub [3] rfl) 0 6 rfl rfl rfl hl ⟨⟨Nat.le_of_ble_eq_true rfl, Nat.le_of_ble_eq_true rfl⟩, Nat.le_of_ble_eq_true rfl, Nat.le_of_ble_eq_true rfl⟩ rfl rfl (Nat.le_of_ble_eq_true rfl) ?_
      refine z_icmp_ge (tgt := 41) X dX0_differentTotal_17 (by decide) (nI_toInt (by omega)) (nI_toInt (by omega)) (fun c17 => ?_) (fun c17 => ?_)
      · refine lv_iload_n X.1 X.2.1 dX0_differentTotal_41 rfl (lv_at hl 1 rfl) ?_
        exact MuI.ret X hr hlk hK hS dX0_differentTotal_42 (nI_nar _) () (hP.sub [0, 1, 2, 3, 4, 5] rfl) (hD.sub [0, 1, 2, 3, 4, 5] (by decide) rfl) (by rw [← hq]; rfl)
      · exfalso; omega
    | succ r ih11 =>
      intro v i h1 hq ls hl
      refine lv_iload X.1 X.2.1 dX0_differentTotal_11 (lv_at hl 0 rfl) ?_
      refine lv_aload_n X.1 X.2.1 dX0_differentTotal_13 rfl (lv_at hl 3 rfl) ?_
      refine (c_sh_B g a k n B T).callV (rest := [.int (nI i)]) X dX0_differentTotal_14 q725 tX6_blockTotal hK (hP.sub [3] rfl) 0 6 rfl rfl rfl hl ⟨⟨Nat.le_of_ble_eq_true rfl, Nat.le_of_ble_eq_true rfl⟩, Nat.le_of_ble_eq_true rfl, Nat.le_of_ble_eq_true rfl⟩ rfl rfl (Nat.le_of_ble_eq_true rfl) ?_
      refine z_icmp_ge (tgt := 41) X dX0_differentTotal_17 (by decide) (nI_toInt (by omega)) (nI_toInt (by omega)) (fun c17 => ?_) (fun c17 => ?_)
      · exfalso; omega
      · refine lv_aload_n X.1 X.2.1 dX0_differentTotal_20 rfl (lv_at hl 2 rfl) ?_
        refine va_get (D := g.1) (ci := 0) (v := .ref ma) (C := RX0) (T := TX0) (N := 1) X.1 X.2.1 X.2.2.2.2 iwX0 X.2.2.2.1 hK hP 0 rfl rfl 0 (by decide) (X.2.2.2.2 _ q131) (fun _ h9 => h9) rfl dX0_differentTotal_21 ?_
        refine lv_iload X.1 X.2.1 dX0_differentTotal_24 (lv_at hl 0 rfl) ?_
        refine (c_mk_has g ma mb (occ k n s) i (by omega)).callV (rest := []) X dX0_differentTotal_26 q726 tX4_has hK (hP.sub [1, 2] rfl) 0 4 rfl rfl rfl hl ⟨⟨Nat.le_of_ble_eq_true rfl, Nat.le_of_ble_eq_true rfl⟩, Nat.le_of_ble_eq_true rfl, Nat.le_of_ble_eq_true rfl⟩ rfl rfl (Nat.le_of_ble_eq_true rfl) ?_
        refine b_if_eq (tgt := 35) X dX0_differentTotal_29 (by decide) (fun c29 => ?_) (fun c29 => ?_)
        · refine lv_iinc (v := (nI (i + 1))) (lv' := [(4, .int (nI (i + 1))), (3, .int (nI v)), (0, .ref o), (1, .ref a), (2, .ref w)]) X.1 X.2.1 dX0_differentTotal_35 hl (k := 0) rfl (nI_inc _) (by decide) rfl (fun ls hl => ?_)
          refine lv_goto (tgt := 11) X.1 X.2.1 dX0_differentTotal_38 (by decide) ?_
          exact ih11 v (i + 1) (by omega) (by rw [cntL, c29] at hq; exact hq) ls (lv_sub hl [0, 1, 2, 3, 4] rfl)
        · refine lv_iinc (v := (nI (v + 1))) (lv' := [(3, .int (nI (v + 1))), (4, .int (nI i)), (0, .ref o), (1, .ref a), (2, .ref w)]) X.1 X.2.1 dX0_differentTotal_32 hl (k := 1) rfl (nI_inc _) (by decide) rfl (fun ls hl => ?_)
          refine lv_iinc (v := (nI (i + 1))) (lv' := [(4, .int (nI (i + 1))), (3, .int (nI (v + 1))), (0, .ref o), (1, .ref a), (2, .ref w)]) X.1 X.2.1 dX0_differentTotal_35 hl (k := 1) rfl (nI_inc _) (by decide) rfl (fun ls hl => ?_)
          refine lv_goto (tgt := 11) X.1 X.2.1 dX0_differentTotal_38 (by decide) ?_
          exact ih11 (v + 1) (i + 1) (by omega) (by rw [cntL, c29] at hq; exact hq) ls (lv_sub hl [0, 1, 2, 3, 4] rfl)
  exact L11 B 0 0 (by omega) (rfl) ls (lv_sub hl [0, 1, 2, 3, 4] rfl)

set_option maxHeartbeats 4000000 in
set_option maxRecDepth 100000 in
theorem c_bl_miss (g : G5) (o : Nat) (ma : Nat) (mb : Nat) (q : Nat → Bool) (a : Nat) (k : Nat) (n : Nat) (B : Nat) (T : Nat) (w : Nat) (wb : Nat) (s : List Nat) (f : Nat → Int32) (x : Int32) (hc : shp k n B T) (hs : s.length ≤ 256) (hf : rep f s) (hlt : ltk k s) : MuI (S := Unit) yX0_missing cX0_missing 6 (some .int) 4 90 g [.ref o, .ref a, .ref w, .int x] [(o, .inr (0, [.ref ma])), (ma, .inr (4, [.ref mb])), (mb, .inl (g.2.2.1, 256, .inl (mf q))), (a, .inr (6, [.int (nI k), .int (nI n), .int (nI B), .int (nI T)])), (w, .inr (9, [.ref wb, .int (nI s.length)])), (wb, .inl (g.2.1, 256, .inl f))] (fun r (_ : Unit) => r = (nthL (fun b => !(occ k n s b)) x.toInt B 0 0)) (fun _ => [(o, .inr (0, [.ref ma])), (ma, .inr (4, [.ref mb])), (mb, .inl (g.2.2.1, 256, .inl (mf (occ k n s)))), (a, .inr (6, [.int (nI k), .int (nI n), .int (nI B), .int (nI T)])), (w, .inr (9, [.ref wb, .int (nI s.length)])), (wb, .inl (g.2.1, 256, .inl f))]) := by
  refine MuI.of (by decide +kernel) (Nat.le_of_ble_eq_true rfl) ?_
  intro p_ l_ e_ S_ m_ args below meth co X hr hlk hP hK A hA hD hS ls hl
  have X : CallFix p_ m_ co cX0_missing 6 S_ args lw_all RX0 := X
  have hl : lv_has ls 6 [(0, .ref o), (1, .ref a), (2, .ref w), (3, .int x)] := hl
  obtain ⟨hk2, hk4, hn1, hn6, hB, hT, hBT, hT2⟩ := hc.f
  refine lv_aload_n X.1 X.2.1 dX0_missing_0 rfl (lv_at hl 0 rfl) ?_
  refine lv_aload_n X.1 X.2.1 dX0_missing_1 rfl (lv_at hl 1 rfl) ?_
  refine lv_aload_n X.1 X.2.1 dX0_missing_2 rfl (lv_at hl 2 rfl) ?_
  refine (c_bl_look g o ma mb q a k n B T w wb s f (by assumption) (by omega) (by assumption) (by assumption)).callV (rest := []) (wr := []) X dX0_missing_3 q719 tX0_look hK hP hD hS hA [0, 1, 2, 3, 4, 5] [] (by decide) rfl rfl (by decide) (by decide) 0 0 rfl rfl rfl hl ⟨⟨Nat.le_of_ble_eq_true rfl, Nat.le_of_ble_eq_true rfl⟩, Nat.le_of_ble_eq_true rfl, Nat.le_of_ble_eq_true rfl⟩ rfl rfl (Nat.le_of_ble_eq_true rfl) (fun u3 H locs hw3 hP hD hS => ?_)
  have hP : PP g [(o, .inr (0, [.ref ma])), (ma, .inr (4, [.ref mb])), (mb, .inl (g.2.2.1, 256, .inl (mf (occ k n s)))), (a, .inr (6, [.int (nI k), .int (nI n), .int (nI B), .int (nI T)])), (w, .inr (9, [.ref wb, .int (nI s.length)])), (wb, .inl (g.2.1, 256, .inl f))] H := hP
  have hD : va_D A [(o, .inr (0, [.ref ma])), (ma, .inr (4, [.ref mb])), (mb, .inl (g.2.2.1, 256, .inl (mf (occ k n s)))), (a, .inr (6, [.int (nI k), .int (nI n), .int (nI B), .int (nI T)])), (w, .inr (9, [.ref wb, .int (nI s.length)])), (wb, .inl (g.2.1, 256, .inl f))] := hD
  refine lv_iconst (v := (nI 0)) X.1 X.2.1 dX0_missing_6 (by decide) ?_
  refine lv_istore (lv' := [(4, .int (nI 0)), (0, .ref o), (1, .ref a), (2, .ref w), (3, .int x)]) X.1 X.2.1 dX0_missing_7 hl (by decide) rfl (fun ls hl => ?_)
  refine lv_iconst (v := (nI 0)) X.1 X.2.1 dX0_missing_9 (by decide) ?_
  refine lv_istore (lv' := [(5, .int (nI 0)), (4, .int (nI 0)), (0, .ref o), (1, .ref a), (2, .ref w), (3, .int x)]) X.1 X.2.1 dX0_missing_10 hl (by decide) rfl (fun ls hl => ?_)
  have L12 : ∀ (r : Nat) (v : Nat) (i : Nat) (h1 : i + r = B) (h2 : v ≤ i) (hq : nthL (fun b => !(occ k n s b)) x.toInt r i v = nthL (fun b => !(occ k n s b)) x.toInt B 0 0) (ls : Array Slot) (hl : lv_has ls 6 [(5, .int (nI i)), (4, .int (nI v)), (0, .ref o), (1, .ref a), (2, .ref w), (3, .int x)]), W p_ l_ e_ { frames := 4, cells := 0, slots := 0, locals := 90 } S_ m_ args below meth co H locs 0 0 (MQ below (va_Qi (S := Unit) (fun r (_ : Unit) => r = (nthL (fun b => !(occ k n s b)) x.toInt B 0 0)) (MuB g A (fun _ => [(o, .inr (0, [.ref ma])), (ma, .inr (4, [.ref mb])), (mb, .inl (g.2.2.1, 256, .inl (mf (occ k n s)))), (a, .inr (6, [.int (nI k), .int (nI n), .int (nI B), .int (nI T)])), (w, .inr (9, [.ref wb, .int (nI s.length)])), (wb, .inl (g.2.1, 256, .inl f))])) A) args S_ 0 0 A) (F0 m_ 12 ls []) := by
    intro r
    induction r with
    | zero =>
      intro v i h1 h2 hq ls hl
      refine lv_iload X.1 X.2.1 dX0_missing_12 (lv_at hl 0 rfl) ?_
      refine lv_aload_n X.1 X.2.1 dX0_missing_14 rfl (lv_at hl 3 rfl) ?_
      refine (c_sh_B g a k n B T).callV (rest := [.int (nI i)]) X dX0_missing_15 q725 tX6_blockTotal hK (hP.sub [3] rfl) 0 6 rfl rfl rfl hl ⟨⟨Nat.le_of_ble_eq_true rfl, Nat.le_of_ble_eq_true rfl⟩, Nat.le_of_ble_eq_true rfl, Nat.le_of_ble_eq_true rfl⟩ rfl rfl (Nat.le_of_ble_eq_true rfl) ?_
      refine z_icmp_ge (tgt := 51) X dX0_missing_18 (by decide) (nI_toInt (by omega)) (nI_toInt (by omega)) (fun c18 => ?_) (fun c18 => ?_)
      · refine lv_bipush (v := (-2)) X.1 X.2.1 dX0_missing_51 (by decide) ?_
        exact MuI.ret X hr hlk hK hS dX0_missing_53 (nI_nar _) () (hP.sub [0, 1, 2, 3, 4, 5] rfl) (hD.sub [0, 1, 2, 3, 4, 5] (by decide) rfl) (by rw [← hq]; rfl)
      · exfalso; omega
    | succ r ih12 =>
      intro v i h1 h2 hq ls hl
      refine lv_iload X.1 X.2.1 dX0_missing_12 (lv_at hl 0 rfl) ?_
      refine lv_aload_n X.1 X.2.1 dX0_missing_14 rfl (lv_at hl 3 rfl) ?_
      refine (c_sh_B g a k n B T).callV (rest := [.int (nI i)]) X dX0_missing_15 q725 tX6_blockTotal hK (hP.sub [3] rfl) 0 6 rfl rfl rfl hl ⟨⟨Nat.le_of_ble_eq_true rfl, Nat.le_of_ble_eq_true rfl⟩, Nat.le_of_ble_eq_true rfl, Nat.le_of_ble_eq_true rfl⟩ rfl rfl (Nat.le_of_ble_eq_true rfl) ?_
      refine z_icmp_ge (tgt := 51) X dX0_missing_18 (by decide) (nI_toInt (by omega)) (nI_toInt (by omega)) (fun c18 => ?_) (fun c18 => ?_)
      · exfalso; omega
      · refine lv_aload_n X.1 X.2.1 dX0_missing_21 rfl (lv_at hl 2 rfl) ?_
        refine va_get (D := g.1) (ci := 0) (v := .ref ma) (C := RX0) (T := TX0) (N := 1) X.1 X.2.1 X.2.2.2.2 iwX0 X.2.2.2.1 hK hP 0 rfl rfl 0 (by decide) (X.2.2.2.2 _ q131) (fun _ h9 => h9) rfl dX0_missing_22 ?_
        refine lv_iload X.1 X.2.1 dX0_missing_25 (lv_at hl 0 rfl) ?_
        refine (c_mk_has g ma mb (occ k n s) i (by omega)).callV (rest := []) X dX0_missing_27 q726 tX4_has hK (hP.sub [1, 2] rfl) 0 4 rfl rfl rfl hl ⟨⟨Nat.le_of_ble_eq_true rfl, Nat.le_of_ble_eq_true rfl⟩, Nat.le_of_ble_eq_true rfl, Nat.le_of_ble_eq_true rfl⟩ rfl rfl (Nat.le_of_ble_eq_true rfl) ?_
        refine b_if_ne (tgt := 45) X dX0_missing_30 (by decide) (fun c30 => ?_) (fun c30 => ?_)
        · refine lv_iinc (v := (nI (i + 1))) (lv' := [(5, .int (nI (i + 1))), (4, .int (nI v)), (0, .ref o), (1, .ref a), (2, .ref w), (3, .int x)]) X.1 X.2.1 dX0_missing_45 hl (k := 0) rfl (nI_inc _) (by decide) rfl (fun ls hl => ?_)
          refine lv_goto (tgt := 12) X.1 X.2.1 dX0_missing_48 (by decide) ?_
          exact ih12 v (i + 1) (by omega) (by omega) (by rw [nthL, c30] at hq; first | exact hq | (rw [Bool.not_false, if_pos rfl, if_neg c36] at hq; exact hq)) ls (lv_sub hl [0, 1, 2, 3, 4, 5] rfl)
        · refine lv_iload X.1 X.2.1 dX0_missing_33 (lv_at hl 1 rfl) ?_
          refine lv_iload_n X.1 X.2.1 dX0_missing_35 rfl (lv_at hl 5 rfl) ?_
          refine z_icmp_ne (tgt := 42) X dX0_missing_36 (by decide) (nI_toInt (by omega)) rfl (fun c36 => ?_) (fun c36 => ?_)
          · refine lv_iinc (v := (nI (v + 1))) (lv' := [(4, .int (nI (v + 1))), (5, .int (nI i)), (0, .ref o), (1, .ref a), (2, .ref w), (3, .int x)]) X.1 X.2.1 dX0_missing_42 hl (k := 1) rfl (nI_inc _) (by decide) rfl (fun ls hl => ?_)
            refine lv_iinc (v := (nI (i + 1))) (lv' := [(5, .int (nI (i + 1))), (4, .int (nI (v + 1))), (0, .ref o), (1, .ref a), (2, .ref w), (3, .int x)]) X.1 X.2.1 dX0_missing_45 hl (k := 1) rfl (nI_inc _) (by decide) rfl (fun ls hl => ?_)
            refine lv_goto (tgt := 12) X.1 X.2.1 dX0_missing_48 (by decide) ?_
            exact ih12 (v + 1) (i + 1) (by omega) (by omega) (by rw [nthL, c30] at hq; first | exact hq | (rw [Bool.not_false, if_pos rfl, if_neg c36] at hq; exact hq)) ls (lv_sub hl [0, 1, 2, 3, 4, 5] rfl)
          · refine lv_iload X.1 X.2.1 dX0_missing_39 (lv_at hl 0 rfl) ?_
            exact MuI.ret X hr hlk hK hS dX0_missing_41 (nI_nar _) () (hP.sub [0, 1, 2, 3, 4, 5] rfl) (hD.sub [0, 1, 2, 3, 4, 5] (by decide) rfl) (by rw [nthL, c30, Bool.not_false, if_pos rfl, if_pos c36] at hq; exact hq)
  exact L12 B 0 0 (by omega) (by omega) (rfl) ls (lv_sub hl [0, 1, 2, 3, 4, 5] rfl)

set_option maxHeartbeats 4000000 in
set_option maxRecDepth 100000 in
theorem c_bl_rep (g : G5) (o : Nat) (ma : Nat) (mb : Nat) (q : Nat → Bool) (a : Nat) (k : Nat) (n : Nat) (B : Nat) (T : Nat) (w : Nat) (wb : Nat) (s : List Nat) (f : Nat → Int32) (hc : shp k n B T) (hs : s.length ≤ 256) (hf : rep f s) (hlt : ltk k s) : MuI (S := Nat → Bool) yX0_repeatPlace cX0_repeatPlace 5 (some .int) 3 67 g [.ref o, .ref a, .ref w] [(o, .inr (0, [.ref ma])), (ma, .inr (4, [.ref mb])), (mb, .inl (g.2.2.1, 256, .inl (mf q))), (a, .inr (6, [.int (nI k), .int (nI n), .int (nI B), .int (nI T)])), (w, .inr (9, [.ref wb, .int (nI s.length)])), (wb, .inl (g.2.1, 256, .inl f))] (fun r (_ : Nat → Bool) => r = oI (rpL (codeN k n s) s.length 0 qz)) (fun q1 => [(o, .inr (0, [.ref ma])), (ma, .inr (4, [.ref mb])), (mb, .inl (g.2.2.1, 256, .inl (mf q1))), (a, .inr (6, [.int (nI k), .int (nI n), .int (nI B), .int (nI T)])), (w, .inr (9, [.ref wb, .int (nI s.length)])), (wb, .inl (g.2.1, 256, .inl f))]) := by
  refine MuI.of (by decide +kernel) (Nat.le_of_ble_eq_true rfl) ?_
  intro p_ l_ e_ S_ m_ args below meth co X hr hlk hP hK A hA hD hS ls hl
  have X : CallFix p_ m_ co cX0_repeatPlace 5 S_ args lw_all RX0 := X
  have hl : lv_has ls 5 [(0, .ref o), (1, .ref a), (2, .ref w)] := hl
  obtain ⟨hk2, hk4, hn1, hn6, hB, hT, hBT, hT2⟩ := hc.f
  refine lv_aload_n X.1 X.2.1 dX0_repeatPlace_0 rfl (lv_at hl 0 rfl) ?_
  refine va_get (D := g.1) (ci := 0) (v := .ref ma) (C := RX0) (T := TX0) (N := 1) X.1 X.2.1 X.2.2.2.2 iwX0 X.2.2.2.1 hK hP 0 rfl rfl 0 (by decide) (X.2.2.2.2 _ q131) (fun _ h9 => h9) rfl dX0_repeatPlace_1 ?_
  refine (c_mk_clear g ma mb q).callV (rest := []) (wr := [(o, .inr (0, [.ref ma])), (a, .inr (6, [.int (nI k), .int (nI n), .int (nI B), .int (nI T)])), (w, .inr (9, [.ref wb, .int (nI s.length)])), (wb, .inl (g.2.1, 256, .inl f))]) X dX0_repeatPlace_4 q723 tX4_clear hK hP hD hS hA [1, 2] [0, 3, 4, 5] (by decide) rfl rfl (by decide) (by decide) 0 4 rfl rfl rfl hl ⟨⟨Nat.le_of_ble_eq_true rfl, Nat.le_of_ble_eq_true rfl⟩, Nat.le_of_ble_eq_true rfl, Nat.le_of_ble_eq_true rfl⟩ rfl rfl (Nat.le_of_ble_eq_true rfl) (fun u4 H locs hw4 hP hD hS => ?_)
  have hP : PP g [(o, .inr (0, [.ref ma])), (a, .inr (6, [.int (nI k), .int (nI n), .int (nI B), .int (nI T)])), (w, .inr (9, [.ref wb, .int (nI s.length)])), (wb, .inl (g.2.1, 256, .inl f)), (ma, .inr (4, [.ref mb])), (mb, .inl (g.2.2.1, 256, .inl (mf qz)))] H := hP
  have hD : va_D A [(o, .inr (0, [.ref ma])), (a, .inr (6, [.int (nI k), .int (nI n), .int (nI B), .int (nI T)])), (w, .inr (9, [.ref wb, .int (nI s.length)])), (wb, .inl (g.2.1, 256, .inl f)), (ma, .inr (4, [.ref mb])), (mb, .inl (g.2.2.1, 256, .inl (mf qz)))] := hD
  refine lv_iconst (v := (nI 0)) X.1 X.2.1 dX0_repeatPlace_7 (by decide) ?_
  refine lv_istore_n (lv' := [(3, .int (nI 0)), (0, .ref o), (1, .ref a), (2, .ref w)]) X.1 X.2.1 dX0_repeatPlace_8 rfl hl (by decide) rfl (fun ls hl => ?_)
  have L9 : ∀ (r : Nat) (i : Nat) (q1 : Nat → Bool) (h1 : i + r = s.length) (hq : rpL (codeN k n s) r i q1 = rpL (codeN k n s) s.length 0 qz) (H : Heap) (locs : List Loc) (hP : PP g [(o, .inr (0, [.ref ma])), (ma, .inr (4, [.ref mb])), (mb, .inl (g.2.2.1, 256, .inl (mf q1))), (a, .inr (6, [.int (nI k), .int (nI n), .int (nI B), .int (nI T)])), (w, .inr (9, [.ref wb, .int (nI s.length)])), (wb, .inl (g.2.1, 256, .inl f))] H) (hD : va_D A [(o, .inr (0, [.ref ma])), (ma, .inr (4, [.ref mb])), (mb, .inl (g.2.2.1, 256, .inl (mf q1))), (a, .inr (6, [.int (nI k), .int (nI n), .int (nI B), .int (nI T)])), (w, .inr (9, [.ref wb, .int (nI s.length)])), (wb, .inl (g.2.1, 256, .inl f))]) (hS : va_S A S_.heap H locs) (ls : Array Slot) (hl : lv_has ls 5 [(3, .int (nI i)), (0, .ref o), (1, .ref a), (2, .ref w)]), W p_ l_ e_ { frames := 3, cells := 0, slots := 0, locals := 67 } S_ m_ args below meth co H locs 0 0 (MQ below (va_Qi (S := Nat → Bool) (fun r (_ : Nat → Bool) => r = oI (rpL (codeN k n s) s.length 0 qz)) (MuB g A (fun q1 => [(o, .inr (0, [.ref ma])), (ma, .inr (4, [.ref mb])), (mb, .inl (g.2.2.1, 256, .inl (mf q1))), (a, .inr (6, [.int (nI k), .int (nI n), .int (nI B), .int (nI T)])), (w, .inr (9, [.ref wb, .int (nI s.length)])), (wb, .inl (g.2.1, 256, .inl f))])) A) args S_ 0 0 A) (F0 m_ 9 ls []) := by
    intro r
    induction r with
    | zero =>
      intro i q1 h1 hq H locs hP hD hS ls hl
      refine lv_iload_n X.1 X.2.1 dX0_repeatPlace_9 rfl (lv_at hl 0 rfl) ?_
      refine lv_aload_n X.1 X.2.1 dX0_repeatPlace_10 rfl (lv_at hl 3 rfl) ?_
      refine (c_Word_size g w wb s f).callV (rest := [.int (nI i)]) X dX0_repeatPlace_11 q683 tX10_size hK (hP.sub [4, 5] rfl) 0 9 rfl rfl rfl hl ⟨⟨Nat.le_of_ble_eq_true rfl, Nat.le_of_ble_eq_true rfl⟩, Nat.le_of_ble_eq_true rfl, Nat.le_of_ble_eq_true rfl⟩ rfl rfl (Nat.le_of_ble_eq_true rfl) ?_
      refine z_icmp_ge (tgt := 54) X dX0_repeatPlace_14 (by decide) (nI_toInt (by omega)) (nI_toInt (by omega)) (fun c14 => ?_) (fun c14 => ?_)
      · refine lv_bipush (v := (-2)) X.1 X.2.1 dX0_repeatPlace_54 (by decide) ?_
        exact MuI.ret X hr hlk hK hS dX0_repeatPlace_56 (nI_nar _) q1 (hP.sub [0, 1, 2, 3, 4, 5] rfl) (hD.sub [0, 1, 2, 3, 4, 5] (by decide) rfl) (by rw [← hq]; rfl)
      · exfalso; omega
    | succ r ih9 =>
      intro i q1 h1 hq H locs hP hD hS ls hl
      refine lv_iload_n X.1 X.2.1 dX0_repeatPlace_9 rfl (lv_at hl 0 rfl) ?_
      refine lv_aload_n X.1 X.2.1 dX0_repeatPlace_10 rfl (lv_at hl 3 rfl) ?_
      refine (c_Word_size g w wb s f).callV (rest := [.int (nI i)]) X dX0_repeatPlace_11 q683 tX10_size hK (hP.sub [4, 5] rfl) 0 9 rfl rfl rfl hl ⟨⟨Nat.le_of_ble_eq_true rfl, Nat.le_of_ble_eq_true rfl⟩, Nat.le_of_ble_eq_true rfl, Nat.le_of_ble_eq_true rfl⟩ rfl rfl (Nat.le_of_ble_eq_true rfl) ?_
      refine z_icmp_ge (tgt := 54) X dX0_repeatPlace_14 (by decide) (nI_toInt (by omega)) (nI_toInt (by omega)) (fun c14 => ?_) (fun c14 => ?_)
      · exfalso; omega
      · refine lv_aload_n X.1 X.2.1 dX0_repeatPlace_17 rfl (lv_at hl 2 rfl) ?_
        refine lv_aload_n X.1 X.2.1 dX0_repeatPlace_18 rfl (lv_at hl 3 rfl) ?_
        refine lv_iload_n X.1 X.2.1 dX0_repeatPlace_19 rfl (lv_at hl 0 rfl) ?_
        refine (c_codeAt g a k n B T w wb s f i (by assumption) (by omega) (by assumption) (by omega) (by omega)).callV (rest := []) X dX0_repeatPlace_20 q684 tX6_codeAt hK (hP.sub [3, 4, 5] rfl) 0 6 rfl rfl rfl hl ⟨⟨Nat.le_of_ble_eq_true rfl, Nat.le_of_ble_eq_true rfl⟩, Nat.le_of_ble_eq_true rfl, Nat.le_of_ble_eq_true rfl⟩ rfl rfl (Nat.le_of_ble_eq_true rfl) ?_
        have hF := codeN_lt hc hlt i
        refine lv_istore (lv' := [(4, .int (nI (codeN k n s i))), (3, .int (nI i)), (0, .ref o), (1, .ref a), (2, .ref w)]) X.1 X.2.1 dX0_repeatPlace_23 hl (by decide) rfl (fun ls hl => ?_)
        refine lv_aload_n X.1 X.2.1 dX0_repeatPlace_25 rfl (lv_at hl 2 rfl) ?_
        refine va_get (D := g.1) (ci := 0) (v := .ref ma) (C := RX0) (T := TX0) (N := 1) X.1 X.2.1 X.2.2.2.2 iwX0 X.2.2.2.1 hK hP 0 rfl rfl 0 (by decide) (X.2.2.2.2 _ q131) (fun _ h9 => h9) rfl dX0_repeatPlace_26 ?_
        refine lv_iload X.1 X.2.1 dX0_repeatPlace_29 (lv_at hl 0 rfl) ?_
        refine (c_mk_has g ma mb q1 (codeN k n s i) (by omega)).callV (rest := []) X dX0_repeatPlace_31 q726 tX4_has hK (hP.sub [1, 2] rfl) 0 4 rfl rfl rfl hl ⟨⟨Nat.le_of_ble_eq_true rfl, Nat.le_of_ble_eq_true rfl⟩, Nat.le_of_ble_eq_true rfl, Nat.le_of_ble_eq_true rfl⟩ rfl rfl (Nat.le_of_ble_eq_true rfl) ?_
        refine b_if_eq (tgt := 39) X dX0_repeatPlace_34 (by decide) (fun c34 => ?_) (fun c34 => ?_)
        · refine lv_aload_n X.1 X.2.1 dX0_repeatPlace_39 rfl (lv_at hl 2 rfl) ?_
          refine va_get (D := g.1) (ci := 0) (v := .ref ma) (C := RX0) (T := TX0) (N := 1) X.1 X.2.1 X.2.2.2.2 iwX0 X.2.2.2.1 hK hP 0 rfl rfl 0 (by decide) (X.2.2.2.2 _ q131) (fun _ h9 => h9) rfl dX0_repeatPlace_40 ?_
          refine lv_iload X.1 X.2.1 dX0_repeatPlace_43 (lv_at hl 0 rfl) ?_
          refine (c_mk_add g ma mb q1 (codeN k n s i) (by omega)).callV (rest := []) (wr := [(o, .inr (0, [.ref ma])), (a, .inr (6, [.int (nI k), .int (nI n), .int (nI B), .int (nI T)])), (w, .inr (9, [.ref wb, .int (nI s.length)])), (wb, .inl (g.2.1, 256, .inl f))]) X dX0_repeatPlace_45 q724 tX4_add hK hP hD hS hA [1, 2] [0, 3, 4, 5] (by decide) rfl rfl (by decide) (by decide) 0 4 rfl rfl rfl hl ⟨⟨Nat.le_of_ble_eq_true rfl, Nat.le_of_ble_eq_true rfl⟩, Nat.le_of_ble_eq_true rfl, Nat.le_of_ble_eq_true rfl⟩ rfl rfl (Nat.le_of_ble_eq_true rfl) (fun u45 H locs hw45 hP hD hS => ?_)
          have hP : PP g [(o, .inr (0, [.ref ma])), (a, .inr (6, [.int (nI k), .int (nI n), .int (nI B), .int (nI T)])), (w, .inr (9, [.ref wb, .int (nI s.length)])), (wb, .inl (g.2.1, 256, .inl f)), (ma, .inr (4, [.ref mb])), (mb, .inl (g.2.2.1, 256, .inl (mf (qset q1 (codeN k n s i)))))] H := hP
          have hD : va_D A [(o, .inr (0, [.ref ma])), (a, .inr (6, [.int (nI k), .int (nI n), .int (nI B), .int (nI T)])), (w, .inr (9, [.ref wb, .int (nI s.length)])), (wb, .inl (g.2.1, 256, .inl f)), (ma, .inr (4, [.ref mb])), (mb, .inl (g.2.2.1, 256, .inl (mf (qset q1 (codeN k n s i)))))] := hD
          refine lv_iinc (v := (nI (i + 1))) (lv' := [(3, .int (nI (i + 1))), (4, .int (nI (codeN k n s i))), (0, .ref o), (1, .ref a), (2, .ref w)]) X.1 X.2.1 dX0_repeatPlace_48 hl (k := 1) rfl (nI_inc _) (by decide) rfl (fun ls hl => ?_)
          refine lv_goto (tgt := 9) X.1 X.2.1 dX0_repeatPlace_51 (by decide) ?_
          exact ih9 (i + 1) (qset q1 (codeN k n s i)) (by omega) (by rw [rpL, c34] at hq; exact hq) _ _ (hP.sub [0, 4, 5, 1, 2, 3] rfl) (hD.sub [0, 4, 5, 1, 2, 3] (by decide) rfl) hS ls (lv_sub hl [0, 2, 3, 4] rfl)
        · refine lv_iload_n X.1 X.2.1 dX0_repeatPlace_37 rfl (lv_at hl 1 rfl) ?_
          exact MuI.ret X hr hlk hK hS dX0_repeatPlace_38 (nI_nar _) q1 (hP.sub [0, 1, 2, 3, 4, 5] rfl) (hD.sub [0, 1, 2, 3, 4, 5] (by decide) rfl) (by rw [← hq, rpL, c34]; rfl)
  exact L9 s.length 0 qz (by omega) (rfl) _ _ (hP.sub [0, 4, 5, 1, 2, 3] rfl) (hD.sub [0, 4, 5, 1, 2, 3] (by decide) rfl) hS ls (lv_sub hl [0, 1, 2, 3] rfl)

set_option maxHeartbeats 4000000 in
set_option maxRecDepth 100000 in
theorem c_cyc (g : G5) (a : Nat) (k : Nat) (n : Nat) (B : Nat) (T : Nat) (m : Nat) (hc : shp k n B T) (hm : 2 ≤ m) (hm2 : m ≤ 1000000000) : PuI yX6_cycleTotalModulo cX6_cycleTotalModulo 6 (some .int) 1 22 g [.ref a, .int (nI m)] [(a, .inr (6, [.int (nI k), .int (nI n), .int (nI B), .int (nI T)]))] (nI (cycN k n T m)) := by
  refine PuI.of (by decide +kernel) (Nat.le_of_ble_eq_true rfl) ?_
  intro p_ l_ e_ S_ m_ args below meth co X hr hlk hP hK ls hl
  have X : CallFix p_ m_ co cX6_cycleTotalModulo 6 S_ args lw_all RX6 := X
  have hl : lv_has ls 6 [(0, .ref a), (1, .int (nI m))] := hl
  obtain ⟨hk2, hk4, hn1, hn6, hB, hT, hBT, hT2⟩ := hc.f
  have hfa := fac_le (m := k - 1) (by omega)
  refine lv_iload_n X.1 X.2.1 dX6_cycleTotalModulo_0 rfl (lv_at hl 1 rfl) ?_
  refine lv_iconst (v := (nI 1)) X.1 X.2.1 dX6_cycleTotalModulo_1 (by decide) ?_
  refine z_icmp_ge (tgt := 7) X dX6_cycleTotalModulo_2 (by decide) (nI_toInt (by omega)) (nI_toInt (by omega)) (fun c2 => ?_) (fun c2 => ?_)
  · refine lv_lconst (v := lN 1) X.1 X.2.1 dX6_cycleTotalModulo_7 (by decide) ?_
    refine lv_lstore_n (lv' := [(2, .long (lN 1)), (0, .ref a), (1, .int (nI m))]) X.1 X.2.1 dX6_cycleTotalModulo_8 rfl hl (by decide) rfl (fun ls hl => ?_)
    refine lv_aload_n X.1 X.2.1 dX6_cycleTotalModulo_9 rfl (lv_at hl 1 rfl) ?_
    refine va_get (D := g.1) (ci := 6) (v := .int (nI k)) (C := RX6) (T := TX6) (N := 4) X.1 X.2.1 X.2.2.2.2 iwX6 X.2.2.2.1 hK hP 0 rfl rfl 0 (by decide) (X.2.2.2.2 _ q87) (fun _ h9 => h9) rfl dX6_cycleTotalModulo_10 ?_
    refine lv_iconst (v := (nI 1)) X.1 X.2.1 dX6_cycleTotalModulo_13 (by decide) ?_
    refine n_sub X dX6_cycleTotalModulo_14 (by omega) ?_
    refine (c_fact g (k - 1) (by omega) (by omega)).callS (rest := []) X dX6_cycleTotalModulo_15 q856 tX6_factorial hK (hP.sub [] rfl) hl ⟨⟨Nat.le_of_ble_eq_true rfl, Nat.le_of_ble_eq_true rfl⟩, Nat.le_of_ble_eq_true rfl, Nat.le_of_ble_eq_true rfl⟩ rfl rfl (Nat.le_of_ble_eq_true rfl) ?_
    refine lv_istore (lv' := [(4, .int (nI (facN (k - 1)))), (2, .long (lN 1)), (0, .ref a), (1, .int (nI m))]) X.1 X.2.1 dX6_cycleTotalModulo_18 hl (by decide) rfl (fun ls hl => ?_)
    refine lv_iconst (v := (nI 0)) X.1 X.2.1 dX6_cycleTotalModulo_20 (by decide) ?_
    refine lv_istore (lv' := [(5, .int (nI 0)), (4, .int (nI (facN (k - 1)))), (2, .long (lN 1)), (0, .ref a), (1, .int (nI m))]) X.1 X.2.1 dX6_cycleTotalModulo_21 hl (by decide) rfl (fun ls hl => ?_)
    have L23 : ∀ (r : Nat) (v : Nat) (i : Nat) (h1 : i + r = T) (hv : v < m) (hq : pmL (facN (k - 1)) m r v = pmL (facN (k - 1)) m T 1) (ls : Array Slot) (hl : lv_has ls 6 [(5, .int (nI i)), (4, .int (nI (facN (k - 1)))), (2, .long (lN v)), (0, .ref a), (1, .int (nI m))]), W p_ l_ e_ { frames := 1, cells := 0, slots := 0, locals := 22 } S_ m_ args below meth co S_.heap [] 0 0 (MQ below (vp_Si (fun r => r = (nI (cycN k n T m)))) args S_ 0 0 (fun _ => False)) (F0 m_ 23 ls []) := by
      intro r
      induction r with
      | zero =>
        intro v i h1 hv hq ls hl
        have e9 : pmL k m (T - n) v = cycN k n T m := by unfold cycN; rw [← hq]; rfl
        refine lv_iload X.1 X.2.1 dX6_cycleTotalModulo_23 (lv_at hl 0 rfl) ?_
        refine lv_aload_n X.1 X.2.1 dX6_cycleTotalModulo_25 rfl (lv_at hl 3 rfl) ?_
        refine va_get (D := g.1) (ci := 6) (v := .int (nI T)) (C := RX6) (T := TX6) (N := 4) X.1 X.2.1 X.2.2.2.2 iwX6 X.2.2.2.1 hK hP 0 rfl rfl 3 (by decide) (X.2.2.2.2 _ q90) (fun _ h9 => h9) rfl dX6_cycleTotalModulo_26 ?_
        refine z_icmp_ge (tgt := 47) X dX6_cycleTotalModulo_29 (by decide) (nI_toInt (by omega)) (nI_toInt (by omega)) (fun c29 => ?_) (fun c29 => ?_)
        · refine lv_aload_n X.1 X.2.1 dX6_cycleTotalModulo_47 rfl (lv_at hl 3 rfl) ?_
          refine va_get (D := g.1) (ci := 6) (v := .int (nI n)) (C := RX6) (T := TX6) (N := 4) X.1 X.2.1 X.2.2.2.2 iwX6 X.2.2.2.1 hK hP 0 rfl rfl 1 (by decide) (X.2.2.2.2 _ q88) (fun _ h9 => h9) rfl dX6_cycleTotalModulo_48 ?_
          refine lv_istore (lv' := [(5, .int (nI n)), (4, .int (nI (facN (k - 1)))), (2, .long (lN v)), (0, .ref a), (1, .int (nI m))]) X.1 X.2.1 dX6_cycleTotalModulo_51 hl (by decide) rfl (fun ls hl => ?_)
          have L53 : ∀ (r : Nat) (v : Nat) (i : Nat) (h1 : i + r = T ∨ (r = 0 ∧ T ≤ i)) (hv : v < m) (hi : i ≤ 128 + 6) (hq : pmL k m r v = cycN k n T m) (ls : Array Slot) (hl : lv_has ls 6 [(5, .int (nI i)), (4, .int (nI (facN (k - 1)))), (2, .long (lN v)), (0, .ref a), (1, .int (nI m))]), W p_ l_ e_ { frames := 1, cells := 0, slots := 0, locals := 22 } S_ m_ args below meth co S_.heap [] 0 0 (MQ below (vp_Si (fun r => r = (nI (cycN k n T m)))) args S_ 0 0 (fun _ => False)) (F0 m_ 53 ls []) := by
            intro r
            induction r with
            | zero =>
              intro v i h1 hv hi hq ls hl
              refine lv_iload X.1 X.2.1 dX6_cycleTotalModulo_53 (lv_at hl 0 rfl) ?_
              refine lv_aload_n X.1 X.2.1 dX6_cycleTotalModulo_55 rfl (lv_at hl 3 rfl) ?_
              refine va_get (D := g.1) (ci := 6) (v := .int (nI T)) (C := RX6) (T := TX6) (N := 4) X.1 X.2.1 X.2.2.2.2 iwX6 X.2.2.2.1 hK hP 0 rfl rfl 3 (by decide) (X.2.2.2.2 _ q90) (fun _ h9 => h9) rfl dX6_cycleTotalModulo_56 ?_
              refine z_icmp_ge (tgt := 79) X dX6_cycleTotalModulo_59 (by decide) (nI_toInt (by omega)) (nI_toInt (by omega)) (fun c59 => ?_) (fun c59 => ?_)
              · refine lv_lload_n X.1 X.2.1 dX6_cycleTotalModulo_79 rfl (lv_at hl 2 rfl) ?_
                refine lv_l2i (v := nI v) X.1 X.2.1 dX6_cycleTotalModulo_80 (lN_i _) ?_
                exact PuI.ret X hr hlk dX6_cycleTotalModulo_81 (nI_nar _) (by rw [← hq]; rfl)
              · exfalso; omega
            | succ r ih53 =>
              intro v i h1 hv hi hq ls hl
              refine lv_iload X.1 X.2.1 dX6_cycleTotalModulo_53 (lv_at hl 0 rfl) ?_
              refine lv_aload_n X.1 X.2.1 dX6_cycleTotalModulo_55 rfl (lv_at hl 3 rfl) ?_
              refine va_get (D := g.1) (ci := 6) (v := .int (nI T)) (C := RX6) (T := TX6) (N := 4) X.1 X.2.1 X.2.2.2.2 iwX6 X.2.2.2.1 hK hP 0 rfl rfl 3 (by decide) (X.2.2.2.2 _ q90) (fun _ h9 => h9) rfl dX6_cycleTotalModulo_56 ?_
              refine z_icmp_ge (tgt := 79) X dX6_cycleTotalModulo_59 (by decide) (nI_toInt (by omega)) (nI_toInt (by omega)) (fun c59 => ?_) (fun c59 => ?_)
              · exfalso; omega
              · refine lv_lload_n X.1 X.2.1 dX6_cycleTotalModulo_62 rfl (lv_at hl 2 rfl) ?_
                refine lv_aload_n X.1 X.2.1 dX6_cycleTotalModulo_63 rfl (lv_at hl 3 rfl) ?_
                refine va_get (D := g.1) (ci := 6) (v := .int (nI k)) (C := RX6) (T := TX6) (N := 4) X.1 X.2.1 X.2.2.2.2 iwX6 X.2.2.2.1 hK hP 0 rfl rfl 0 (by decide) (X.2.2.2.2 _ q87) (fun _ h9 => h9) rfl dX6_cycleTotalModulo_64 ?_
                refine lv_i2l (v := lN k) X.1 X.2.1 dX6_cycleTotalModulo_67 (nI_l (by omega)) ?_
                have hF8 := mul_bd (v := v) (o := k) hv hm2 (by omega)
                have hF9 := md_bd (v := v) (o := k) (m := m) (by omega)
                refine lv_lmul X.1 X.2.1 dX6_cycleTotalModulo_68 ?_
                refine tp_l (y := (lN (v * k))) (lN_mul _ _) ?_
                refine lv_iload_n X.1 X.2.1 dX6_cycleTotalModulo_69 rfl (lv_at hl 4 rfl) ?_
                refine lv_i2l (v := lN m) X.1 X.2.1 dX6_cycleTotalModulo_70 (nI_l (by omega)) ?_
                refine lv_lrem X.1 X.2.1 dX6_cycleTotalModulo_71 (lN_ne0 (by omega) (by omega)) ?_
                refine tp_l (y := (lN ((v * k) % m))) (pk_lRem (by omega) (by omega) (by omega)) ?_
                refine lv_lstore_n (lv' := [(2, .long (lN ((v * k) % m))), (5, .int (nI i)), (4, .int (nI (facN (k - 1)))), (0, .ref a), (1, .int (nI m))]) X.1 X.2.1 dX6_cycleTotalModulo_72 rfl hl (by decide) rfl (fun ls hl => ?_)
                refine lv_iinc (v := (nI (i + 1))) (lv' := [(5, .int (nI (i + 1))), (2, .long (lN ((v * k) % m))), (4, .int (nI (facN (k - 1)))), (0, .ref a), (1, .int (nI m))]) X.1 X.2.1 dX6_cycleTotalModulo_73 hl (k := 1) rfl (nI_inc _) (by decide) rfl (fun ls hl => ?_)
                refine lv_goto (tgt := 53) X.1 X.2.1 dX6_cycleTotalModulo_76 (by decide) ?_
                exact ih53 ((v * k) % m) (i + 1) (by omega) (by omega) (by omega) (by rw [pmL] at hq; exact hq) ls (lv_sub hl [0, 2, 1, 3, 4] rfl)
          exact L53 (T - n) v n (by omega) (by omega) (by omega) (e9) ls (lv_sub hl [0, 1, 2, 3, 4] rfl)
        · exfalso; omega
      | succ r ih23 =>
        intro v i h1 hv hq ls hl
        refine lv_iload X.1 X.2.1 dX6_cycleTotalModulo_23 (lv_at hl 0 rfl) ?_
        refine lv_aload_n X.1 X.2.1 dX6_cycleTotalModulo_25 rfl (lv_at hl 3 rfl) ?_
        refine va_get (D := g.1) (ci := 6) (v := .int (nI T)) (C := RX6) (T := TX6) (N := 4) X.1 X.2.1 X.2.2.2.2 iwX6 X.2.2.2.1 hK hP 0 rfl rfl 3 (by decide) (X.2.2.2.2 _ q90) (fun _ h9 => h9) rfl dX6_cycleTotalModulo_26 ?_
        refine z_icmp_ge (tgt := 47) X dX6_cycleTotalModulo_29 (by decide) (nI_toInt (by omega)) (nI_toInt (by omega)) (fun c29 => ?_) (fun c29 => ?_)
        · exfalso; omega
        · refine lv_lload_n X.1 X.2.1 dX6_cycleTotalModulo_32 rfl (lv_at hl 2 rfl) ?_
          refine lv_iload X.1 X.2.1 dX6_cycleTotalModulo_33 (lv_at hl 1 rfl) ?_
          refine lv_i2l (v := lN (facN (k - 1))) X.1 X.2.1 dX6_cycleTotalModulo_35 (nI_l (by omega)) ?_
          have hF8 := mul_bd (v := v) (o := facN (k - 1)) hv hm2 hfa
          have hF9 := md_bd (v := v) (o := facN (k - 1)) (m := m) (by omega)
          refine lv_lmul X.1 X.2.1 dX6_cycleTotalModulo_36 ?_
          refine tp_l (y := (lN (v * (facN (k - 1))))) (lN_mul _ _) ?_
          refine lv_iload_n X.1 X.2.1 dX6_cycleTotalModulo_37 rfl (lv_at hl 4 rfl) ?_
          refine lv_i2l (v := lN m) X.1 X.2.1 dX6_cycleTotalModulo_38 (nI_l (by omega)) ?_
          refine lv_lrem X.1 X.2.1 dX6_cycleTotalModulo_39 (lN_ne0 (by omega) (by omega)) ?_
          refine tp_l (y := (lN ((v * (facN (k - 1))) % m))) (pk_lRem (by omega) (by omega) (by omega)) ?_
          refine lv_lstore_n (lv' := [(2, .long (lN ((v * (facN (k - 1))) % m))), (5, .int (nI i)), (4, .int (nI (facN (k - 1)))), (0, .ref a), (1, .int (nI m))]) X.1 X.2.1 dX6_cycleTotalModulo_40 rfl hl (by decide) rfl (fun ls hl => ?_)
          refine lv_iinc (v := (nI (i + 1))) (lv' := [(5, .int (nI (i + 1))), (2, .long (lN ((v * (facN (k - 1))) % m))), (4, .int (nI (facN (k - 1)))), (0, .ref a), (1, .int (nI m))]) X.1 X.2.1 dX6_cycleTotalModulo_41 hl (k := 1) rfl (nI_inc _) (by decide) rfl (fun ls hl => ?_)
          refine lv_goto (tgt := 23) X.1 X.2.1 dX6_cycleTotalModulo_44 (by decide) ?_
          exact ih23 ((v * (facN (k - 1))) % m) (i + 1) (by omega) (by omega) (by rw [pmL] at hq; exact hq) ls (lv_sub hl [0, 2, 1, 3, 4] rfl)
    exact L23 T 1 0 (by omega) (by omega) (rfl) ls (lv_sub hl [0, 1, 2, 3, 4] rfl)
  · exfalso; omega
