set_option maxHeartbeats 4000000 in
set_option maxRecDepth 100000 in
theorem c_slot (g : G5) (x : Nat) (hx : x < 256) : PuI yX1_isSlot cX1_isSlot 1 (some .boolean) 0 0 g [.int (nI x)] [] (bI true) := by
  refine PuI.of (by decide +kernel) (Nat.le_of_ble_eq_true rfl) ?_
  intro p_ l_ e_ S_ m_ args below meth co X hr hlk hP hK ls hl
  have X : CallFix p_ m_ co cX1_isSlot 1 S_ args lw_all RX1 := X
  have hl : lv_has ls 1 [(0, .int (nI x))] := hl
  refine lv_iload_n X.1 X.2.1 dX1_isSlot_0 rfl (lv_at hl 0 rfl) ?_
  refine z_if_lt (tgt := 15) X dX1_isSlot_1 (by decide) (nI_toInt (by omega)) (fun c1 => ?_) (fun c1 => ?_)
  · exfalso; omega
  · refine lv_iload_n X.1 X.2.1 dX1_isSlot_4 rfl (lv_at hl 0 rfl) ?_
    refine lv_sipush (v := (nI 256)) X.1 X.2.1 dX1_isSlot_5 (by decide) ?_
    refine z_icmp_ge (tgt := 15) X dX1_isSlot_8 (by decide) (nI_toInt (by omega)) (nI_toInt (by omega)) (fun c8 => ?_) (fun c8 => ?_)
    · exfalso; omega
    · refine lv_iconst (v := (nI 1)) X.1 X.2.1 dX1_isSlot_11 (by decide) ?_
      refine lv_goto (tgt := 16) X.1 X.2.1 dX1_isSlot_12 (by decide) ?_
      exact PuI.ret X hr hlk dX1_isSlot_16 (bI_nar _) (rfl)

set_option maxHeartbeats 4000000 in
set_option maxRecDepth 100000 in
theorem c_bu_gn (g : G5) (o : Nat) (fo : Nat) (fb : Nat) (sb : Nat) (cb : Nat) (q : Nat → Bool) (a : Nat) (k : Nat) (n : Nat) (B : Nat) (T : Nat) (u : Nat) (hc : shp k n B T) (hu : u < T) : PuI yX1_greatestNew cX1_greatestNew 4 (some .int) 1 22 g [.ref o, .ref a, .int (nI u)] [(o, .inr (1, [.ref fo, .ref sb, .ref cb])), (fo, .inr (4, [.ref fb])), (fb, .inl (g.2.2.1, 256, .inl (mf q))), (a, .inr (6, [.int (nI k), .int (nI n), .int (nI B), .int (nI T)]))] (oI (gnL q k u k)) := by
  refine PuI.of (by decide +kernel) (Nat.le_of_ble_eq_true rfl) ?_
  intro p_ l_ e_ S_ m_ args below meth co X hr hlk hP hK ls hl
  have X : CallFix p_ m_ co cX1_greatestNew 4 S_ args lw_all RX1 := X
  have hl : lv_has ls 4 [(0, .ref o), (1, .ref a), (2, .int (nI u))] := hl
  obtain ⟨hk2, hk4, hn1, hn6, hB, hT, hBT, hT2⟩ := hc.f
  have hB0 : 0 < B := by rw [hBT]; exact Nat.mul_pos (by omega) (by omega)
  refine lv_aload_n X.1 X.2.1 dX1_greatestNew_0 rfl (lv_at hl 1 rfl) ?_
  refine (c_sh_k g a k n B T).callV (rest := []) X dX1_greatestNew_1 q365 tX6_letterTotal hK (hP.sub [3] rfl) 0 6 rfl rfl rfl hl ⟨⟨Nat.le_of_ble_eq_true rfl, Nat.le_of_ble_eq_true rfl⟩, Nat.le_of_ble_eq_true rfl, Nat.le_of_ble_eq_true rfl⟩ rfl rfl (Nat.le_of_ble_eq_true rfl) ?_
  refine lv_iconst (v := (nI 1)) X.1 X.2.1 dX1_greatestNew_4 (by decide) ?_
  refine lv_isub X.1 X.2.1 dX1_greatestNew_5 ?_
  refine tp_i (y := (iI (((k : Nat) : Int) - ((1 : Nat) : Int)))) (by first | rw [iI_sub] | rw [nI_iI, nI_iI, iI_sub] | rw [nI_iI, iI_sub]) ?_
  refine lv_istore_n (lv' := [(3, .int (iI (((k : Nat) : Int) - ((1 : Nat) : Int)))), (0, .ref o), (1, .ref a), (2, .int (nI u))]) X.1 X.2.1 dX1_greatestNew_6 rfl hl (by decide) rfl (fun ls hl => ?_)
  have L7 : ∀ (r : Nat)  (hr1 : r ≤ k) (hq : gnL q k u r = gnL q k u k) (ls : Array Slot) (hl : lv_has ls 4 [(3, .int (iI (((r : Nat) : Int) - 1))), (0, .ref o), (1, .ref a), (2, .int (nI u))]), W p_ l_ e_ { frames := 1, cells := 0, slots := 0, locals := 22 } S_ m_ args below meth co S_.heap [] 0 0 (MQ below (vp_Si (fun r => r = (oI (gnL q k u k)))) args S_ 0 0 (fun _ => False)) (F0 m_ 7 ls []) := by
    intro r
    induction r with
    | zero =>
      intro hr1 hq ls hl
      refine lv_iload_n X.1 X.2.1 dX1_greatestNew_7 rfl (lv_at hl 0 rfl) ?_
      refine z_if_lt (tgt := 35) X dX1_greatestNew_8 (by decide) (iI_toInt (by omega) (by omega)) (fun c8 => ?_) (fun c8 => ?_)
      · refine lv_bipush (v := (-2)) X.1 X.2.1 dX1_greatestNew_35 (by decide) ?_
        exact PuI.ret X hr hlk dX1_greatestNew_37 (nI_nar _) (by rw [← hq]; rfl)
      · exfalso; omega
    | succ r ih7 =>
      intro hr1 hq ls hl
      refine lv_iload_n X.1 X.2.1 dX1_greatestNew_7 rfl (lv_at hl 0 rfl) ?_
      refine z_if_lt (tgt := 35) X dX1_greatestNew_8 (by decide) (iI_toInt (by omega) (by omega)) (fun c8 => ?_) (fun c8 => ?_)
      · exfalso; omega
      · refine lv_aload_n X.1 X.2.1 dX1_greatestNew_11 rfl (lv_at hl 1 rfl) ?_
        refine va_get (D := g.1) (ci := 1) (v := .ref fo) (C := RX1) (T := TX1) (N := 3) X.1 X.2.1 X.2.2.2.2 iwX1 X.2.2.2.1 hK hP 0 rfl rfl 0 (by decide) (X.2.2.2.2 _ q143) (fun _ h9 => h9) rfl dX1_greatestNew_12 ?_
        refine lv_aload_n X.1 X.2.1 dX1_greatestNew_15 rfl (lv_at hl 2 rfl) ?_
        refine lv_iload_n X.1 X.2.1 dX1_greatestNew_16 rfl (lv_at hl 3 rfl) ?_
        refine lv_iload_n X.1 X.2.1 dX1_greatestNew_17 rfl (lv_at hl 0 rfl) ?_
        refine tp_i (y := (nI r)) (by rw [nI_iI]; congr 1; omega) ?_
        refine (c_ended g a k n B T u r).callV (rest := [.ref fo]) X dX1_greatestNew_18 q366 tX6_ended hK (hP.sub [3] rfl) 0 6 rfl rfl rfl hl ⟨⟨Nat.le_of_ble_eq_true rfl, Nat.le_of_ble_eq_true rfl⟩, Nat.le_of_ble_eq_true rfl, Nat.le_of_ble_eq_true rfl⟩ rfl rfl (Nat.le_of_ble_eq_true rfl) ?_
        have hF := suc_ended hc hu (t := r) (by omega)
        refine (c_mk_has g fo fb q (u * k + r) (by omega)).callV (rest := []) X dX1_greatestNew_21 q370 tX4_has hK (hP.sub [1, 2] rfl) 0 4 rfl rfl rfl hl ⟨⟨Nat.le_of_ble_eq_true rfl, Nat.le_of_ble_eq_true rfl⟩, Nat.le_of_ble_eq_true rfl, Nat.le_of_ble_eq_true rfl⟩ rfl rfl (Nat.le_of_ble_eq_true rfl) ?_
        refine b_if_ne (tgt := 29) X dX1_greatestNew_24 (by decide) (fun c24 => ?_) (fun c24 => ?_)
        · refine lv_iinc (v := (iI (((r : Nat) : Int) - 1))) (lv' := [(3, .int (iI (((r : Nat) : Int) - 1))), (0, .ref o), (1, .ref a), (2, .int (nI u))]) X.1 X.2.1 dX1_greatestNew_29 hl (k := 0) rfl (iI_inc _ _ _ (by omega)) (by decide) rfl (fun ls hl => ?_)
          refine lv_goto (tgt := 7) X.1 X.2.1 dX1_greatestNew_32 (by decide) ?_
          exact ih7 (by omega) (by rw [gnL, c24] at hq; exact hq) ls (lv_sub hl [0, 1, 2, 3] rfl)
        · refine lv_iload_n X.1 X.2.1 dX1_greatestNew_27 rfl (lv_at hl 0 rfl) ?_
          exact PuI.ret X hr hlk dX1_greatestNew_28 (nI_nar _) (by rw [gnL, c24] at hq; rw [← hq]; show _ = nI r; rw [nI_iI]; congr 1; omega)
  exact L7 k (by omega) (rfl) ls (lv_sub hl [0, 1, 2, 3] rfl)

set_option maxHeartbeats 4000000 in
set_option maxRecDepth 100000 in
theorem c_bu_greedy (g : G5) (o : Nat) (fo : Nat) (fb : Nat) (sb : Nat) (cb : Nat) (q : Nat → Bool) (a : Nat) (k : Nat) (n : Nat) (B : Nat) (T : Nat) (w : Nat) (wb : Nat) (s : List Nat) (f : Nat → Int32) (hc : shp k n B T) (hf : rep f s) (hs : s.length + B ≤ 256) : MuV (S := (Nat → Bool) × (Nat → Int32)) yX1_buildGreedy cX1_buildGreedy 7 none 2 45 g [.ref o, .ref a, .ref w] [(o, .inr (1, [.ref fo, .ref sb, .ref cb])), (fo, .inr (4, [.ref fb])), (fb, .inl (g.2.2.1, 256, .inl (mf q))), (a, .inr (6, [.int (nI k), .int (nI n), .int (nI B), .int (nI T)])), (w, .inr (9, [.ref wb, .int (nI s.length)])), (wb, .inl (g.2.1, 256, .inl f))] (fun u => rep u.2 (s ++ grL k T B 0 qz)) (fun u => [(o, .inr (1, [.ref fo, .ref sb, .ref cb])), (fo, .inr (4, [.ref fb])), (fb, .inl (g.2.2.1, 256, .inl (mf u.1))), (a, .inr (6, [.int (nI k), .int (nI n), .int (nI B), .int (nI T)])), (w, .inr (9, [.ref wb, .int (nI ((s ++ grL k T B 0 qz).length))])), (wb, .inl (g.2.1, 256, .inl u.2))]) := by
  refine MuV.of (by decide +kernel) (Nat.le_of_ble_eq_true rfl) ?_
  intro p_ l_ e_ S_ m_ args below meth co X hr hlk hP hK A hA hD hS ls hl
  have X : CallFix p_ m_ co cX1_buildGreedy 7 S_ args lw_all RX1 := X
  have hl : lv_has ls 7 [(0, .ref o), (1, .ref a), (2, .ref w)] := hl
  obtain ⟨hk2, hk4, hn1, hn6, hB, hT, hBT, hT2⟩ := hc.f
  have hB0 : 0 < B := by rw [hBT]; exact Nat.mul_pos (by omega) (by omega)
  refine lv_aload_n X.1 X.2.1 dX1_buildGreedy_0 rfl (lv_at hl 0 rfl) ?_
  refine va_get (D := g.1) (ci := 1) (v := .ref fo) (C := RX1) (T := TX1) (N := 3) X.1 X.2.1 X.2.2.2.2 iwX1 X.2.2.2.1 hK hP 0 rfl rfl 0 (by decide) (X.2.2.2.2 _ q143) (fun _ h9 => h9) rfl dX1_buildGreedy_1 ?_
  refine (c_mk_clear g fo fb q).callV (rest := []) (wr := [(o, .inr (1, [.ref fo, .ref sb, .ref cb])), (a, .inr (6, [.int (nI k), .int (nI n), .int (nI B), .int (nI T)])), (w, .inr (9, [.ref wb, .int (nI s.length)])), (wb, .inl (g.2.1, 256, .inl f))]) X dX1_buildGreedy_4 q356 tX4_clear hK hP hD hS hA [1, 2] [0, 3, 4, 5] (by decide) rfl rfl (by decide) (by decide) 0 4 rfl rfl rfl hl ⟨⟨Nat.le_of_ble_eq_true rfl, Nat.le_of_ble_eq_true rfl⟩, Nat.le_of_ble_eq_true rfl, Nat.le_of_ble_eq_true rfl⟩ rfl rfl (Nat.le_of_ble_eq_true rfl) (fun u4 H locs hw4 hP hD hS => ?_)
  have hP : PP g [(o, .inr (1, [.ref fo, .ref sb, .ref cb])), (a, .inr (6, [.int (nI k), .int (nI n), .int (nI B), .int (nI T)])), (w, .inr (9, [.ref wb, .int (nI s.length)])), (wb, .inl (g.2.1, 256, .inl f)), (fo, .inr (4, [.ref fb])), (fb, .inl (g.2.2.1, 256, .inl (mf qz)))] H := hP
  have hD : va_D A [(o, .inr (1, [.ref fo, .ref sb, .ref cb])), (a, .inr (6, [.int (nI k), .int (nI n), .int (nI B), .int (nI T)])), (w, .inr (9, [.ref wb, .int (nI s.length)])), (wb, .inl (g.2.1, 256, .inl f)), (fo, .inr (4, [.ref fb])), (fb, .inl (g.2.2.1, 256, .inl (mf qz)))] := hD
  try dsimp only at hw4
  refine lv_iconst (v := (nI 0)) X.1 X.2.1 dX1_buildGreedy_7 (by decide) ?_
  refine lv_istore_n (lv' := [(3, .int (nI 0)), (0, .ref o), (1, .ref a), (2, .ref w)]) X.1 X.2.1 dX1_buildGreedy_8 rfl hl (by decide) rfl (fun ls hl => ?_)
  refine lv_iconst (v := (nI 0)) X.1 X.2.1 dX1_buildGreedy_9 (by decide) ?_
  refine lv_istore (lv' := [(4, .int (nI 0)), (3, .int (nI 0)), (0, .ref o), (1, .ref a), (2, .ref w)]) X.1 X.2.1 dX1_buildGreedy_10 hl (by decide) rfl (fun ls hl => ?_)
  have L12 : ∀ (r : Nat) (u : Nat) (i : Nat) (s1 : List Nat) (q1 : Nat → Bool) (f1 : Nat → Int32) (h1 : i + r = B) (hu : u < T) (hq : s1 ++ grL k T r u q1 = s ++ grL k T B 0 qz) (hf1 : rep f1 s1) (hl1 : s1.length + r ≤ 256) (H : Heap) (locs : List Loc) (hP : PP g [(o, .inr (1, [.ref fo, .ref sb, .ref cb])), (fo, .inr (4, [.ref fb])), (fb, .inl (g.2.2.1, 256, .inl (mf q1))), (a, .inr (6, [.int (nI k), .int (nI n), .int (nI B), .int (nI T)])), (w, .inr (9, [.ref wb, .int (nI s1.length)])), (wb, .inl (g.2.1, 256, .inl f1))] H) (hD : va_D A [(o, .inr (1, [.ref fo, .ref sb, .ref cb])), (fo, .inr (4, [.ref fb])), (fb, .inl (g.2.2.1, 256, .inl (mf q1))), (a, .inr (6, [.int (nI k), .int (nI n), .int (nI B), .int (nI T)])), (w, .inr (9, [.ref wb, .int (nI s1.length)])), (wb, .inl (g.2.1, 256, .inl f1))]) (hS : va_S A S_.heap H locs) (ls : Array Slot) (hl : lv_has ls 7 [(4, .int (nI i)), (3, .int (nI u)), (0, .ref o), (1, .ref a), (2, .ref w)]), W p_ l_ e_ { frames := 2, cells := 0, slots := 0, locals := 45 } S_ m_ args below meth co H locs 0 0 (MQ below (va_Qv (S := (Nat → Bool) × (Nat → Int32)) (fun u => rep u.2 (s ++ grL k T B 0 qz)) (MuB g A (fun u => [(o, .inr (1, [.ref fo, .ref sb, .ref cb])), (fo, .inr (4, [.ref fb])), (fb, .inl (g.2.2.1, 256, .inl (mf u.1))), (a, .inr (6, [.int (nI k), .int (nI n), .int (nI B), .int (nI T)])), (w, .inr (9, [.ref wb, .int (nI ((s ++ grL k T B 0 qz).length))])), (wb, .inl (g.2.1, 256, .inl u.2))])) A) args S_ 0 0 A) (F0 m_ 12 ls []) := by
    intro r
    induction r with
    | zero =>
      intro u i s1 q1 f1 h1 hu hq hf1 hl1 H locs hP hD hS ls hl
      have e9 : s1 = s ++ grL k T B 0 qz := by simpa [grL] using hq
      refine lv_iload X.1 X.2.1 dX1_buildGreedy_12 (lv_at hl 0 rfl) ?_
      refine lv_aload_n X.1 X.2.1 dX1_buildGreedy_14 rfl (lv_at hl 3 rfl) ?_
      refine (c_sh_B g a k n B T).callV (rest := [.int (nI i)]) X dX1_buildGreedy_15 q360 tX6_blockTotal hK (hP.sub [3] rfl) 0 6 rfl rfl rfl hl ⟨⟨Nat.le_of_ble_eq_true rfl, Nat.le_of_ble_eq_true rfl⟩, Nat.le_of_ble_eq_true rfl, Nat.le_of_ble_eq_true rfl⟩ rfl rfl (Nat.le_of_ble_eq_true rfl) ?_
      refine z_icmp_ge (tgt := 74) X dX1_buildGreedy_18 (by decide) (nI_toInt (by omega)) (nI_toInt (by omega)) (fun c18 => ?_) (fun c18 => ?_)
      · have hP : PP g [(o, .inr (1, [.ref fo, .ref sb, .ref cb])), (fo, .inr (4, [.ref fb])), (fb, .inl (g.2.2.1, 256, .inl (mf q1))), (a, .inr (6, [.int (nI k), .int (nI n), .int (nI B), .int (nI T)])), (w, .inr (9, [.ref wb, .int (nI ((s ++ grL k T B 0 qz).length))])), (wb, .inl (g.2.1, 256, .inl f1))] H := by rw [← e9]; exact hP
        have hD : va_D A [(o, .inr (1, [.ref fo, .ref sb, .ref cb])), (fo, .inr (4, [.ref fb])), (fb, .inl (g.2.2.1, 256, .inl (mf q1))), (a, .inr (6, [.int (nI k), .int (nI n), .int (nI B), .int (nI T)])), (w, .inr (9, [.ref wb, .int (nI ((s ++ grL k T B 0 qz).length))])), (wb, .inl (g.2.1, 256, .inl f1))] := by rw [← e9]; exact hD
        exact MuV.ret X hr hlk hK hS dX1_buildGreedy_74 (q1, f1) (hP.sub [0, 1, 2, 3, 4, 5] rfl) (hD.sub [0, 1, 2, 3, 4, 5] (by decide) rfl) (rep_eq hf1 e9)
      · exfalso; omega
    | succ r ih12 =>
      intro u i s1 q1 f1 h1 hu hq hf1 hl1 H locs hP hD hS ls hl
      refine lv_iload X.1 X.2.1 dX1_buildGreedy_12 (lv_at hl 0 rfl) ?_
      refine lv_aload_n X.1 X.2.1 dX1_buildGreedy_14 rfl (lv_at hl 3 rfl) ?_
      refine (c_sh_B g a k n B T).callV (rest := [.int (nI i)]) X dX1_buildGreedy_15 q360 tX6_blockTotal hK (hP.sub [3] rfl) 0 6 rfl rfl rfl hl ⟨⟨Nat.le_of_ble_eq_true rfl, Nat.le_of_ble_eq_true rfl⟩, Nat.le_of_ble_eq_true rfl, Nat.le_of_ble_eq_true rfl⟩ rfl rfl (Nat.le_of_ble_eq_true rfl) ?_
      refine z_icmp_ge (tgt := 74) X dX1_buildGreedy_18 (by decide) (nI_toInt (by omega)) (nI_toInt (by omega)) (fun c18 => ?_) (fun c18 => ?_)
      · exfalso; omega
      · refine lv_aload_n X.1 X.2.1 dX1_buildGreedy_21 rfl (lv_at hl 2 rfl) ?_
        refine lv_aload_n X.1 X.2.1 dX1_buildGreedy_22 rfl (lv_at hl 3 rfl) ?_
        refine lv_iload_n X.1 X.2.1 dX1_buildGreedy_23 rfl (lv_at hl 1 rfl) ?_
        refine (c_bu_gn g o fo fb sb cb q1 a k n B T u (by assumption) (by omega)).callV (rest := []) X dX1_buildGreedy_24 q361 tX1_greatestNew hK (hP.sub [0, 1, 2, 3] rfl) 0 1 rfl rfl rfl hl ⟨⟨Nat.le_of_ble_eq_true rfl, Nat.le_of_ble_eq_true rfl⟩, Nat.le_of_ble_eq_true rfl, Nat.le_of_ble_eq_true rfl⟩ rfl rfl (Nat.le_of_ble_eq_true rfl) ?_
        rcases oI_cases (gnL q1 k u k) with ⟨hx, ex⟩ | ⟨x, hx, ex⟩
        · have e9 : s1 = s ++ grL k T B 0 qz := by rw [grL, hx] at hq; simpa using hq
          refine tp_i (y := (-2)) (ex) ?_
          refine lv_istore (lv' := [(5, .int (-2)), (4, .int (nI i)), (3, .int (nI u)), (0, .ref o), (1, .ref a), (2, .ref w)]) X.1 X.2.1 dX1_buildGreedy_27 hl (by decide) rfl (fun ls hl => ?_)
          refine lv_iload X.1 X.2.1 dX1_buildGreedy_29 (lv_at hl 0 rfl) ?_
          refine lv_bipush (v := (-2)) X.1 X.2.1 dX1_buildGreedy_31 (by decide) ?_
          refine z_icmp_ne (tgt := 37) X dX1_buildGreedy_33 (by decide) (show Int32.toInt ((-2)) = (-2) from rfl) (show Int32.toInt ((-2)) = (-2) from rfl) (fun c33 => ?_) (fun c33 => ?_)
          · exfalso; omega
          · have hP : PP g [(o, .inr (1, [.ref fo, .ref sb, .ref cb])), (fo, .inr (4, [.ref fb])), (fb, .inl (g.2.2.1, 256, .inl (mf q1))), (a, .inr (6, [.int (nI k), .int (nI n), .int (nI B), .int (nI T)])), (w, .inr (9, [.ref wb, .int (nI ((s ++ grL k T B 0 qz).length))])), (wb, .inl (g.2.1, 256, .inl f1))] H := by rw [← e9]; exact hP
            have hD : va_D A [(o, .inr (1, [.ref fo, .ref sb, .ref cb])), (fo, .inr (4, [.ref fb])), (fb, .inl (g.2.2.1, 256, .inl (mf q1))), (a, .inr (6, [.int (nI k), .int (nI n), .int (nI B), .int (nI T)])), (w, .inr (9, [.ref wb, .int (nI ((s ++ grL k T B 0 qz).length))])), (wb, .inl (g.2.1, 256, .inl f1))] := by rw [← e9]; exact hD
            exact MuV.ret X hr hlk hK hS dX1_buildGreedy_36 (q1, f1) (hP.sub [0, 1, 2, 3, 4, 5] rfl) (hD.sub [0, 1, 2, 3, 4, 5] (by decide) rfl) (rep_eq hf1 e9)
        · have hxk := (gnL_lt hx).1
          have hF := suc_ended hc hu (t := x) (by omega)
          refine tp_i (y := (nI x)) (ex) ?_
          refine lv_istore (lv' := [(5, .int (nI x)), (4, .int (nI i)), (3, .int (nI u)), (0, .ref o), (1, .ref a), (2, .ref w)]) X.1 X.2.1 dX1_buildGreedy_27 hl (by decide) rfl (fun ls hl => ?_)
          refine lv_iload X.1 X.2.1 dX1_buildGreedy_29 (lv_at hl 0 rfl) ?_
          refine lv_bipush (v := (-2)) X.1 X.2.1 dX1_buildGreedy_31 (by decide) ?_
          refine z_icmp_ne (tgt := 37) X dX1_buildGreedy_33 (by decide) (nI_toInt (by omega)) (show Int32.toInt ((-2)) = (-2) from rfl) (fun c33 => ?_) (fun c33 => ?_)
          · refine lv_aload_n X.1 X.2.1 dX1_buildGreedy_37 rfl (lv_at hl 4 rfl) ?_
            refine lv_iload_n X.1 X.2.1 dX1_buildGreedy_38 rfl (lv_at hl 2 rfl) ?_
            refine lv_iload X.1 X.2.1 dX1_buildGreedy_39 (lv_at hl 0 rfl) ?_
            refine (c_ended g a k n B T u x).callV (rest := []) X dX1_buildGreedy_41 q366 tX6_ended hK (hP.sub [3] rfl) 0 6 rfl rfl rfl hl ⟨⟨Nat.le_of_ble_eq_true rfl, Nat.le_of_ble_eq_true rfl⟩, Nat.le_of_ble_eq_true rfl, Nat.le_of_ble_eq_true rfl⟩ rfl rfl (Nat.le_of_ble_eq_true rfl) ?_
            refine lv_istore (lv' := [(6, .int (nI (u * k + x))), (5, .int (nI x)), (4, .int (nI i)), (3, .int (nI u)), (0, .ref o), (1, .ref a), (2, .ref w)]) X.1 X.2.1 dX1_buildGreedy_44 hl (by decide) rfl (fun ls hl => ?_)
            refine lv_aload_n X.1 X.2.1 dX1_buildGreedy_46 rfl (lv_at hl 4 rfl) ?_
            refine va_get (D := g.1) (ci := 1) (v := .ref fo) (C := RX1) (T := TX1) (N := 3) X.1 X.2.1 X.2.2.2.2 iwX1 X.2.2.2.1 hK hP 0 rfl rfl 0 (by decide) (X.2.2.2.2 _ q143) (fun _ h9 => h9) rfl dX1_buildGreedy_47 ?_
            refine lv_iload X.1 X.2.1 dX1_buildGreedy_50 (lv_at hl 0 rfl) ?_
            refine (c_mk_add g fo fb q1 (u * k + x) (by omega)).callV (rest := []) (wr := [(o, .inr (1, [.ref fo, .ref sb, .ref cb])), (a, .inr (6, [.int (nI k), .int (nI n), .int (nI B), .int (nI T)])), (w, .inr (9, [.ref wb, .int (nI s1.length)])), (wb, .inl (g.2.1, 256, .inl f1))]) X dX1_buildGreedy_52 q374 tX4_add hK hP hD hS hA [1, 2] [0, 3, 4, 5] (by decide) rfl rfl (by decide) (by decide) 0 4 rfl rfl rfl hl ⟨⟨Nat.le_of_ble_eq_true rfl, Nat.le_of_ble_eq_true rfl⟩, Nat.le_of_ble_eq_true rfl, Nat.le_of_ble_eq_true rfl⟩ rfl rfl (Nat.le_of_ble_eq_true rfl) (fun u52 H locs hw52 hP hD hS => ?_)
            have hP : PP g [(o, .inr (1, [.ref fo, .ref sb, .ref cb])), (a, .inr (6, [.int (nI k), .int (nI n), .int (nI B), .int (nI T)])), (w, .inr (9, [.ref wb, .int (nI s1.length)])), (wb, .inl (g.2.1, 256, .inl f1)), (fo, .inr (4, [.ref fb])), (fb, .inl (g.2.2.1, 256, .inl (mf (qset q1 (u * k + x)))))] H := hP
            have hD : va_D A [(o, .inr (1, [.ref fo, .ref sb, .ref cb])), (a, .inr (6, [.int (nI k), .int (nI n), .int (nI B), .int (nI T)])), (w, .inr (9, [.ref wb, .int (nI s1.length)])), (wb, .inl (g.2.1, 256, .inl f1)), (fo, .inr (4, [.ref fb])), (fb, .inl (g.2.2.1, 256, .inl (mf (qset q1 (u * k + x)))))] := hD
            try dsimp only at hw52
            refine lv_aload_n X.1 X.2.1 dX1_buildGreedy_55 rfl (lv_at hl 6 rfl) ?_
            refine lv_iload X.1 X.2.1 dX1_buildGreedy_56 (lv_at hl 1 rfl) ?_
            refine (c_Word_add g w wb s1 f1 x (by omega) (by assumption)).callV (rest := []) (wr := [(o, .inr (1, [.ref fo, .ref sb, .ref cb])), (a, .inr (6, [.int (nI k), .int (nI n), .int (nI B), .int (nI T)])), (fo, .inr (4, [.ref fb])), (fb, .inl (g.2.2.1, 256, .inl (mf (qset q1 (u * k + x)))))]) X dX1_buildGreedy_58 q378 tX10_add hK hP hD hS hA [2, 3] [0, 1, 4, 5] (by decide) rfl rfl (by decide) (by decide) 0 9 rfl rfl rfl hl ⟨⟨Nat.le_of_ble_eq_true rfl, Nat.le_of_ble_eq_true rfl⟩, Nat.le_of_ble_eq_true rfl, Nat.le_of_ble_eq_true rfl⟩ rfl rfl (Nat.le_of_ble_eq_true rfl) (fun u58 H locs hw58 hP hD hS => ?_)
            obtain ⟨f1_58, rfl⟩ : ∃ z, z = u58 := ⟨_, rfl⟩
            have hP : PP g [(o, .inr (1, [.ref fo, .ref sb, .ref cb])), (a, .inr (6, [.int (nI k), .int (nI n), .int (nI B), .int (nI T)])), (fo, .inr (4, [.ref fb])), (fb, .inl (g.2.2.1, 256, .inl (mf (qset q1 (u * k + x))))), (w, .inr (9, [.ref wb, .int (nI ((s1 ++ [x]).length))])), (wb, .inl (g.2.1, 256, .inl f1_58))] H := hP
            have hD : va_D A [(o, .inr (1, [.ref fo, .ref sb, .ref cb])), (a, .inr (6, [.int (nI k), .int (nI n), .int (nI B), .int (nI T)])), (fo, .inr (4, [.ref fb])), (fb, .inl (g.2.2.1, 256, .inl (mf (qset q1 (u * k + x))))), (w, .inr (9, [.ref wb, .int (nI ((s1 ++ [x]).length))])), (wb, .inl (g.2.1, 256, .inl f1_58))] := hD
            try dsimp only at hw58
            refine lv_aload_n X.1 X.2.1 dX1_buildGreedy_61 rfl (lv_at hl 5 rfl) ?_
            refine lv_iload X.1 X.2.1 dX1_buildGreedy_62 (lv_at hl 0 rfl) ?_
            refine (c_tail g a k n B T (u * k + x) (by assumption) (by omega)).callV (rest := []) X dX1_buildGreedy_64 q386 tX6_tail hK (hP.sub [1] rfl) 0 6 rfl rfl rfl hl ⟨⟨Nat.le_of_ble_eq_true rfl, Nat.le_of_ble_eq_true rfl⟩, Nat.le_of_ble_eq_true rfl, Nat.le_of_ble_eq_true rfl⟩ rfl rfl (Nat.le_of_ble_eq_true rfl) ?_
            refine lv_istore_n (lv' := [(3, .int (nI ((u * k + x) % T))), (6, .int (nI (u * k + x))), (5, .int (nI x)), (4, .int (nI i)), (0, .ref o), (1, .ref a), (2, .ref w)]) X.1 X.2.1 dX1_buildGreedy_67 rfl hl (by decide) rfl (fun ls hl => ?_)
            refine lv_iinc (v := (nI (i + 1))) (lv' := [(4, .int (nI (i + 1))), (3, .int (nI ((u * k + x) % T))), (6, .int (nI (u * k + x))), (5, .int (nI x)), (0, .ref o), (1, .ref a), (2, .ref w)]) X.1 X.2.1 dX1_buildGreedy_68 hl (k := 3) rfl (nI_inc _) (by decide) rfl (fun ls hl => ?_)
            refine lv_goto (tgt := 12) X.1 X.2.1 dX1_buildGreedy_71 (by decide) ?_
            exact ih12 ((u * k + x) % T) (i + 1) (s1 ++ [x]) (qset q1 (u * k + x)) f1_58 (by omega) (md_lt hc _) (by rw [grL, hx] at hq; simpa using hq) (hw58) (by simp; omega) _ _ (hP.sub [0, 2, 3, 1, 4, 5] rfl) (hD.sub [0, 2, 3, 1, 4, 5] (by decide) rfl) hS ls (lv_sub hl [0, 1, 4, 5, 6] rfl)
          · exfalso; omega
  exact L12 B 0 0 s qz f (by omega) (by omega) (rfl) (hf) (by omega) _ _ (hP.sub [0, 4, 5, 1, 2, 3] rfl) (hD.sub [0, 4, 5, 1, 2, 3] (by decide) rfl) hS ls (lv_sub hl [0, 1, 2, 3, 4] rfl)

set_option maxHeartbeats 4000000 in
set_option maxRecDepth 100000 in
theorem c_bu_start (g : G5) (o : Nat) (fo : Nat) (sb : Nat) (cb : Nat) (a : Nat) (k : Nat) (n : Nat) (B : Nat) (T : Nat) (w : Nat) (wb : Nat) (s : List Nat) (f : Nat → Int32) (b : Nat) (c : Nat) (hc : shp k n B T) (hf : rep f s) (hs : s.length + c ≤ 256) (hb : b < B) : MuV (S := Nat → Int32) yX1_addStart cX1_addStart 7 none 2 44 g [.ref o, .ref a, .int (nI b), .int (nI c), .ref w] [(o, .inr (1, [.ref fo, .ref sb, .ref cb])), (a, .inr (6, [.int (nI k), .int (nI n), .int (nI B), .int (nI T)])), (w, .inr (9, [.ref wb, .int (nI s.length)])), (wb, .inl (g.2.1, 256, .inl f))] (fun f1 => rep f1 (s ++ asL k T c b)) (fun f1 => [(o, .inr (1, [.ref fo, .ref sb, .ref cb])), (a, .inr (6, [.int (nI k), .int (nI n), .int (nI B), .int (nI T)])), (w, .inr (9, [.ref wb, .int (nI ((s ++ asL k T c b).length))])), (wb, .inl (g.2.1, 256, .inl f1))]) := by
  refine MuV.of (by decide +kernel) (Nat.le_of_ble_eq_true rfl) ?_
  intro p_ l_ e_ S_ m_ args below meth co X hr hlk hP hK A hA hD hS ls hl
  have X : CallFix p_ m_ co cX1_addStart 7 S_ args lw_all RX1 := X
  have hl : lv_has ls 7 [(0, .ref o), (1, .ref a), (2, .int (nI b)), (3, .int (nI c)), (4, .ref w)] := hl
  obtain ⟨hk2, hk4, hn1, hn6, hB, hT, hBT, hT2⟩ := hc.f
  have hB0 : 0 < B := by rw [hBT]; exact Nat.mul_pos (by omega) (by omega)
  refine lv_iload_n X.1 X.2.1 dX1_addStart_0 rfl (lv_at hl 2 rfl) ?_
  refine lv_istore (lv' := [(5, .int (nI b)), (0, .ref o), (1, .ref a), (2, .int (nI b)), (3, .int (nI c)), (4, .ref w)]) X.1 X.2.1 dX1_addStart_1 hl (by decide) rfl (fun ls hl => ?_)
  refine lv_iconst (v := (nI 0)) X.1 X.2.1 dX1_addStart_3 (by decide) ?_
  refine lv_istore (lv' := [(6, .int (nI 0)), (5, .int (nI b)), (0, .ref o), (1, .ref a), (2, .int (nI b)), (3, .int (nI c)), (4, .ref w)]) X.1 X.2.1 dX1_addStart_4 hl (by decide) rfl (fun ls hl => ?_)
  have L6 : ∀ (r : Nat) (t : Nat) (i : Nat) (s1 : List Nat) (f1 : Nat → Int32) (h1 : i + r = c) (ht : t < B) (hq : s1 ++ asL k T r t = s ++ asL k T c b) (hf1 : rep f1 s1) (hl1 : s1.length + r ≤ 256) (H : Heap) (locs : List Loc) (hP : PP g [(o, .inr (1, [.ref fo, .ref sb, .ref cb])), (a, .inr (6, [.int (nI k), .int (nI n), .int (nI B), .int (nI T)])), (w, .inr (9, [.ref wb, .int (nI s1.length)])), (wb, .inl (g.2.1, 256, .inl f1))] H) (hD : va_D A [(o, .inr (1, [.ref fo, .ref sb, .ref cb])), (a, .inr (6, [.int (nI k), .int (nI n), .int (nI B), .int (nI T)])), (w, .inr (9, [.ref wb, .int (nI s1.length)])), (wb, .inl (g.2.1, 256, .inl f1))]) (hS : va_S A S_.heap H locs) (ls : Array Slot) (hl : lv_has ls 7 [(6, .int (nI i)), (5, .int (nI t)), (0, .ref o), (1, .ref a), (2, .int (nI b)), (3, .int (nI c)), (4, .ref w)]), W p_ l_ e_ { frames := 2, cells := 0, slots := 0, locals := 44 } S_ m_ args below meth co H locs 0 0 (MQ below (va_Qv (S := Nat → Int32) (fun f1 => rep f1 (s ++ asL k T c b)) (MuB g A (fun f1 => [(o, .inr (1, [.ref fo, .ref sb, .ref cb])), (a, .inr (6, [.int (nI k), .int (nI n), .int (nI B), .int (nI T)])), (w, .inr (9, [.ref wb, .int (nI ((s ++ asL k T c b).length))])), (wb, .inl (g.2.1, 256, .inl f1))])) A) args S_ 0 0 A) (F0 m_ 6 ls []) := by
    intro r
    induction r with
    | zero =>
      intro t i s1 f1 h1 ht hq hf1 hl1 H locs hP hD hS ls hl
      have e9 : s1 = s ++ asL k T c b := by simpa [asL] using hq
      refine lv_iload X.1 X.2.1 dX1_addStart_6 (lv_at hl 0 rfl) ?_
      refine lv_iload_n X.1 X.2.1 dX1_addStart_8 rfl (lv_at hl 5 rfl) ?_
      refine z_icmp_ge (tgt := 38) X dX1_addStart_9 (by decide) (nI_toInt (by omega)) (nI_toInt (by omega)) (fun c9 => ?_) (fun c9 => ?_)
      · have hP : PP g [(o, .inr (1, [.ref fo, .ref sb, .ref cb])), (a, .inr (6, [.int (nI k), .int (nI n), .int (nI B), .int (nI T)])), (w, .inr (9, [.ref wb, .int (nI ((s ++ asL k T c b).length))])), (wb, .inl (g.2.1, 256, .inl f1))] H := by rw [← e9]; exact hP
        have hD : va_D A [(o, .inr (1, [.ref fo, .ref sb, .ref cb])), (a, .inr (6, [.int (nI k), .int (nI n), .int (nI B), .int (nI T)])), (w, .inr (9, [.ref wb, .int (nI ((s ++ asL k T c b).length))])), (wb, .inl (g.2.1, 256, .inl f1))] := by rw [← e9]; exact hD
        exact MuV.ret X hr hlk hK hS dX1_addStart_38 f1 (hP.sub [0, 1, 2, 3] rfl) (hD.sub [0, 1, 2, 3] (by decide) rfl) (rep_eq hf1 e9)
      · exfalso; omega
    | succ r ih6 =>
      intro t i s1 f1 h1 ht hq hf1 hl1 H locs hP hD hS ls hl
      refine lv_iload X.1 X.2.1 dX1_addStart_6 (lv_at hl 0 rfl) ?_
      refine lv_iload_n X.1 X.2.1 dX1_addStart_8 rfl (lv_at hl 5 rfl) ?_
      refine z_icmp_ge (tgt := 38) X dX1_addStart_9 (by decide) (nI_toInt (by omega)) (nI_toInt (by omega)) (fun c9 => ?_) (fun c9 => ?_)
      · exfalso; omega
      · refine lv_aload X.1 X.2.1 dX1_addStart_12 (lv_at hl 6 rfl) ?_
        refine lv_aload_n X.1 X.2.1 dX1_addStart_14 rfl (lv_at hl 3 rfl) ?_
        refine lv_iload X.1 X.2.1 dX1_addStart_15 (lv_at hl 1 rfl) ?_
        refine (c_first g a k n B T t (by assumption) (by omega)).callV (rest := [.ref w]) X dX1_addStart_17 q410 tX6_firstLetter hK (hP.sub [1] rfl) 0 6 rfl rfl rfl hl ⟨⟨Nat.le_of_ble_eq_true rfl, Nat.le_of_ble_eq_true rfl⟩, Nat.le_of_ble_eq_true rfl, Nat.le_of_ble_eq_true rfl⟩ rfl rfl (Nat.le_of_ble_eq_true rfl) ?_
        refine (c_Word_add g w wb s1 f1 (t / T) (by omega) (by assumption)).callV (rest := []) (wr := [(o, .inr (1, [.ref fo, .ref sb, .ref cb])), (a, .inr (6, [.int (nI k), .int (nI n), .int (nI B), .int (nI T)]))]) X dX1_addStart_20 q378 tX10_add hK hP hD hS hA [2, 3] [0, 1] (by decide) rfl rfl (by decide) (by decide) 0 9 rfl rfl rfl hl ⟨⟨Nat.le_of_ble_eq_true rfl, Nat.le_of_ble_eq_true rfl⟩, Nat.le_of_ble_eq_true rfl, Nat.le_of_ble_eq_true rfl⟩ rfl rfl (Nat.le_of_ble_eq_true rfl) (fun u20 H locs hw20 hP hD hS => ?_)
        obtain ⟨f1_20, rfl⟩ : ∃ z, z = u20 := ⟨_, rfl⟩
        have hP : PP g [(o, .inr (1, [.ref fo, .ref sb, .ref cb])), (a, .inr (6, [.int (nI k), .int (nI n), .int (nI B), .int (nI T)])), (w, .inr (9, [.ref wb, .int (nI ((s1 ++ [(t / T)]).length))])), (wb, .inl (g.2.1, 256, .inl f1_20))] H := hP
        have hD : va_D A [(o, .inr (1, [.ref fo, .ref sb, .ref cb])), (a, .inr (6, [.int (nI k), .int (nI n), .int (nI B), .int (nI T)])), (w, .inr (9, [.ref wb, .int (nI ((s1 ++ [(t / T)]).length))])), (wb, .inl (g.2.1, 256, .inl f1_20))] := hD
        try dsimp only at hw20
        refine lv_aload_n X.1 X.2.1 dX1_addStart_23 rfl (lv_at hl 3 rfl) ?_
        refine lv_iload X.1 X.2.1 dX1_addStart_24 (lv_at hl 1 rfl) ?_
        refine lv_iconst (v := (nI 0)) X.1 X.2.1 dX1_addStart_26 (by decide) ?_
        refine (c_moved g a k n B T t 0 (by assumption) (by omega)).callV (rest := []) X dX1_addStart_27 q414 tX6_moved hK (hP.sub [1] rfl) 0 6 rfl rfl rfl hl ⟨⟨Nat.le_of_ble_eq_true rfl, Nat.le_of_ble_eq_true rfl⟩, Nat.le_of_ble_eq_true rfl, Nat.le_of_ble_eq_true rfl⟩ rfl rfl (Nat.le_of_ble_eq_true rfl) ?_
        refine lv_istore (lv' := [(5, .int (nI (t % T * k + 0))), (6, .int (nI i)), (0, .ref o), (1, .ref a), (2, .int (nI b)), (3, .int (nI c)), (4, .ref w)]) X.1 X.2.1 dX1_addStart_30 hl (by decide) rfl (fun ls hl => ?_)
        refine lv_iinc (v := (nI (i + 1))) (lv' := [(6, .int (nI (i + 1))), (5, .int (nI (t % T * k + 0))), (0, .ref o), (1, .ref a), (2, .int (nI b)), (3, .int (nI c)), (4, .ref w)]) X.1 X.2.1 dX1_addStart_32 hl (k := 1) rfl (nI_inc _) (by decide) rfl (fun ls hl => ?_)
        refine lv_goto (tgt := 6) X.1 X.2.1 dX1_addStart_35 (by decide) ?_
        exact ih6 (t % T * k + 0) (i + 1) (s1 ++ [t / T]) f1_20 (by omega) (suc_ended hc (md_lt hc _) (by omega)) (by rw [asL] at hq; simpa using hq) (hw20) (by simp; omega) _ _ (hP.sub [0, 1, 2, 3] rfl) (hD.sub [0, 1, 2, 3] (by decide) rfl) hS ls (lv_sub hl [0, 1, 2, 3, 4, 5, 6] rfl)
  exact L6 c b 0 s f (by omega) (by omega) (rfl) (hf) (by omega) _ _ (hP.sub [0, 1, 2, 3] rfl) (hD.sub [0, 1, 2, 3] (by decide) rfl) hS ls (lv_sub hl [0, 1, 2, 3, 4, 5, 6] rfl)

set_option maxHeartbeats 4000000 in
set_option maxRecDepth 100000 in
theorem c_bu_lyn (g : G5) (o : Nat) (fo : Nat) (sb : Nat) (cb : Nat) (a : Nat) (k : Nat) (n : Nat) (B : Nat) (T : Nat) (w : Nat) (wb : Nat) (s : List Nat) (f : Nat → Int32) (hc : shp k n B T) (hf : rep f s) (hs : s.length + B ≤ 256) : MuV (S := Nat → Int32) yX1_buildLyndon cX1_buildLyndon 4 none 3 70 g [.ref o, .ref a, .ref w] [(o, .inr (1, [.ref fo, .ref sb, .ref cb])), (a, .inr (6, [.int (nI k), .int (nI n), .int (nI B), .int (nI T)])), (w, .inr (9, [.ref wb, .int (nI s.length)])), (wb, .inl (g.2.1, 256, .inl f))] (fun f1 => rep f1 (s ++ lyL k T n B 0)) (fun f1 => [(o, .inr (1, [.ref fo, .ref sb, .ref cb])), (a, .inr (6, [.int (nI k), .int (nI n), .int (nI B), .int (nI T)])), (w, .inr (9, [.ref wb, .int (nI ((s ++ lyL k T n B 0).length))])), (wb, .inl (g.2.1, 256, .inl f1))]) := by
  refine MuV.of (by decide +kernel) (Nat.le_of_ble_eq_true rfl) ?_
  intro p_ l_ e_ S_ m_ args below meth co X hr hlk hP hK A hA hD hS ls hl
  have X : CallFix p_ m_ co cX1_buildLyndon 4 S_ args lw_all RX1 := X
  have hl : lv_has ls 4 [(0, .ref o), (1, .ref a), (2, .ref w)] := hl
  obtain ⟨hk2, hk4, hn1, hn6, hB, hT, hBT, hT2⟩ := hc.f
  have hB0 : 0 < B := by rw [hBT]; exact Nat.mul_pos (by omega) (by omega)
  have hll := lyL_len hc
  refine lv_iconst (v := (nI 0)) X.1 X.2.1 dX1_buildLyndon_0 (by decide) ?_
  refine lv_istore_n (lv' := [(3, .int (nI 0)), (0, .ref o), (1, .ref a), (2, .ref w)]) X.1 X.2.1 dX1_buildLyndon_1 rfl hl (by decide) rfl (fun ls hl => ?_)
  have L2 : ∀ (r : Nat) (b : Nat) (s1 : List Nat) (f1 : Nat → Int32) (h1 : b + r = B) (hq : s1 ++ lyL k T n r b = s ++ lyL k T n B 0) (hf1 : rep f1 s1) (hl1 : s1.length + (lyL k T n r b).length ≤ 256) (H : Heap) (locs : List Loc) (hP : PP g [(o, .inr (1, [.ref fo, .ref sb, .ref cb])), (a, .inr (6, [.int (nI k), .int (nI n), .int (nI B), .int (nI T)])), (w, .inr (9, [.ref wb, .int (nI s1.length)])), (wb, .inl (g.2.1, 256, .inl f1))] H) (hD : va_D A [(o, .inr (1, [.ref fo, .ref sb, .ref cb])), (a, .inr (6, [.int (nI k), .int (nI n), .int (nI B), .int (nI T)])), (w, .inr (9, [.ref wb, .int (nI s1.length)])), (wb, .inl (g.2.1, 256, .inl f1))]) (hS : va_S A S_.heap H locs) (ls : Array Slot) (hl : lv_has ls 4 [(3, .int (nI b)), (0, .ref o), (1, .ref a), (2, .ref w)]), W p_ l_ e_ { frames := 3, cells := 0, slots := 0, locals := 70 } S_ m_ args below meth co H locs 0 0 (MQ below (va_Qv (S := Nat → Int32) (fun f1 => rep f1 (s ++ lyL k T n B 0)) (MuB g A (fun f1 => [(o, .inr (1, [.ref fo, .ref sb, .ref cb])), (a, .inr (6, [.int (nI k), .int (nI n), .int (nI B), .int (nI T)])), (w, .inr (9, [.ref wb, .int (nI ((s ++ lyL k T n B 0).length))])), (wb, .inl (g.2.1, 256, .inl f1))])) A) args S_ 0 0 A) (F0 m_ 2 ls []) := by
    intro r
    induction r with
    | zero =>
      intro b s1 f1 h1 hq hf1 hl1 H locs hP hD hS ls hl
      have e9 : s1 = s ++ lyL k T n B 0 := by simpa [lyL] using hq
      refine lv_iload_n X.1 X.2.1 dX1_buildLyndon_2 rfl (lv_at hl 0 rfl) ?_
      refine lv_aload_n X.1 X.2.1 dX1_buildLyndon_3 rfl (lv_at hl 2 rfl) ?_
      refine (c_sh_B g a k n B T).callV (rest := [.int (nI b)]) X dX1_buildLyndon_4 q360 tX6_blockTotal hK (hP.sub [1] rfl) 0 6 rfl rfl rfl hl ⟨⟨Nat.le_of_ble_eq_true rfl, Nat.le_of_ble_eq_true rfl⟩, Nat.le_of_ble_eq_true rfl, Nat.le_of_ble_eq_true rfl⟩ rfl rfl (Nat.le_of_ble_eq_true rfl) ?_
      refine z_icmp_ge (tgt := 36) X dX1_buildLyndon_7 (by decide) (nI_toInt (by omega)) (nI_toInt (by omega)) (fun c7 => ?_) (fun c7 => ?_)
      · have hP : PP g [(o, .inr (1, [.ref fo, .ref sb, .ref cb])), (a, .inr (6, [.int (nI k), .int (nI n), .int (nI B), .int (nI T)])), (w, .inr (9, [.ref wb, .int (nI ((s ++ lyL k T n B 0).length))])), (wb, .inl (g.2.1, 256, .inl f1))] H := by rw [← e9]; exact hP
        have hD : va_D A [(o, .inr (1, [.ref fo, .ref sb, .ref cb])), (a, .inr (6, [.int (nI k), .int (nI n), .int (nI B), .int (nI T)])), (w, .inr (9, [.ref wb, .int (nI ((s ++ lyL k T n B 0).length))])), (wb, .inl (g.2.1, 256, .inl f1))] := by rw [← e9]; exact hD
        exact MuV.ret X hr hlk hK hS dX1_buildLyndon_36 f1 (hP.sub [0, 1, 2, 3] rfl) (hD.sub [0, 1, 2, 3] (by decide) rfl) (rep_eq hf1 e9)
      · exfalso; omega
    | succ r ih2 =>
      intro b s1 f1 h1 hq hf1 hl1 H locs hP hD hS ls hl
      refine lv_iload_n X.1 X.2.1 dX1_buildLyndon_2 rfl (lv_at hl 0 rfl) ?_
      refine lv_aload_n X.1 X.2.1 dX1_buildLyndon_3 rfl (lv_at hl 2 rfl) ?_
      refine (c_sh_B g a k n B T).callV (rest := [.int (nI b)]) X dX1_buildLyndon_4 q360 tX6_blockTotal hK (hP.sub [1] rfl) 0 6 rfl rfl rfl hl ⟨⟨Nat.le_of_ble_eq_true rfl, Nat.le_of_ble_eq_true rfl⟩, Nat.le_of_ble_eq_true rfl, Nat.le_of_ble_eq_true rfl⟩ rfl rfl (Nat.le_of_ble_eq_true rfl) ?_
      refine z_icmp_ge (tgt := 36) X dX1_buildLyndon_7 (by decide) (nI_toInt (by omega)) (nI_toInt (by omega)) (fun c7 => ?_) (fun c7 => ?_)
      · exfalso; omega
      · refine lv_aload_n X.1 X.2.1 dX1_buildLyndon_10 rfl (lv_at hl 2 rfl) ?_
        refine lv_iload_n X.1 X.2.1 dX1_buildLyndon_11 rfl (lv_at hl 0 rfl) ?_
        refine (c_isLeast g a k n B T b (by assumption) (by omega)).callV (rest := []) X dX1_buildLyndon_12 q394 tX6_isLeastRotation hK (hP.sub [1] rfl) 0 6 rfl rfl rfl hl ⟨⟨Nat.le_of_ble_eq_true rfl, Nat.le_of_ble_eq_true rfl⟩, Nat.le_of_ble_eq_true rfl, Nat.le_of_ble_eq_true rfl⟩ rfl rfl (Nat.le_of_ble_eq_true rfl) ?_
        refine b_if_eq (tgt := 30) X dX1_buildLyndon_15 (by decide) (fun c15 => ?_) (fun c15 => ?_)
        · refine lv_iinc (v := (nI (b + 1))) (lv' := [(3, .int (nI (b + 1))), (0, .ref o), (1, .ref a), (2, .ref w)]) X.1 X.2.1 dX1_buildLyndon_30 hl (k := 0) rfl (nI_inc _) (by decide) rfl (fun ls hl => ?_)
          refine lv_goto (tgt := 2) X.1 X.2.1 dX1_buildLyndon_33 (by decide) ?_
          exact ih2 (b + 1) s1 f1 (by omega) (by rw [lyL, c15] at hq; simpa using hq) (by first | exact hw27 | exact hf1) (by rw [lyL, c15] at hl1; simp only [List.length_append, asL_len, List.length_nil, if_true, if_false, Bool.false_eq_true] at hl1 ⊢; omega) _ _ (hP.sub [0, 1, 2, 3] rfl) (hD.sub [0, 1, 2, 3] (by decide) rfl) hS ls (lv_sub hl [0, 1, 2, 3] rfl)
        · refine lv_aload_n X.1 X.2.1 dX1_buildLyndon_18 rfl (lv_at hl 1 rfl) ?_
          refine lv_aload_n X.1 X.2.1 dX1_buildLyndon_19 rfl (lv_at hl 2 rfl) ?_
          refine lv_iload_n X.1 X.2.1 dX1_buildLyndon_20 rfl (lv_at hl 0 rfl) ?_
          refine lv_aload_n X.1 X.2.1 dX1_buildLyndon_21 rfl (lv_at hl 2 rfl) ?_
          refine lv_iload_n X.1 X.2.1 dX1_buildLyndon_22 rfl (lv_at hl 0 rfl) ?_
          refine (c_rotTot g a k n B T b (by assumption) (by omega)).callV (rest := [.int (nI b), .ref a, .ref o]) X dX1_buildLyndon_23 q402 tX6_rotationTotal hK (hP.sub [1] rfl) 0 6 rfl rfl rfl hl ⟨⟨Nat.le_of_ble_eq_true rfl, Nat.le_of_ble_eq_true rfl⟩, Nat.le_of_ble_eq_true rfl, Nat.le_of_ble_eq_true rfl⟩ rfl rfl (Nat.le_of_ble_eq_true rfl) ?_
          have hF := rt_le (k := k) (T := T) (n := n) (b := b) (r := n - 1) (t := b) (i := 1) (by omega)
          have hF2 : s1.length + rtN k T n b ≤ 256 := by rw [lyL, c15] at hl1; simp only [List.length_append, asL_len, if_true] at hl1; omega
          refine lv_aload_n X.1 X.2.1 dX1_buildLyndon_26 rfl (lv_at hl 3 rfl) ?_
          refine (c_bu_start g o fo sb cb a k n B T w wb s1 f1 b (rtN k T n b) (by assumption) (by assumption) (by omega) (by omega)).callV (rest := []) (wr := []) X dX1_buildLyndon_27 q406 tX1_addStart hK hP hD hS hA [0, 1, 2, 3] [] (by decide) rfl rfl (by decide) (by decide) 0 1 rfl rfl rfl hl ⟨⟨Nat.le_of_ble_eq_true rfl, Nat.le_of_ble_eq_true rfl⟩, Nat.le_of_ble_eq_true rfl, Nat.le_of_ble_eq_true rfl⟩ rfl rfl (Nat.le_of_ble_eq_true rfl) (fun u27 H locs hw27 hP hD hS => ?_)
          obtain ⟨f1_27, rfl⟩ : ∃ z, z = u27 := ⟨_, rfl⟩
          have hP : PP g [(o, .inr (1, [.ref fo, .ref sb, .ref cb])), (a, .inr (6, [.int (nI k), .int (nI n), .int (nI B), .int (nI T)])), (w, .inr (9, [.ref wb, .int (nI ((s1 ++ asL k T (rtN k T n b) b).length))])), (wb, .inl (g.2.1, 256, .inl f1_27))] H := hP
          have hD : va_D A [(o, .inr (1, [.ref fo, .ref sb, .ref cb])), (a, .inr (6, [.int (nI k), .int (nI n), .int (nI B), .int (nI T)])), (w, .inr (9, [.ref wb, .int (nI ((s1 ++ asL k T (rtN k T n b) b).length))])), (wb, .inl (g.2.1, 256, .inl f1_27))] := hD
          try dsimp only at hw27
          refine lv_iinc (v := (nI (b + 1))) (lv' := [(3, .int (nI (b + 1))), (0, .ref o), (1, .ref a), (2, .ref w)]) X.1 X.2.1 dX1_buildLyndon_30 hl (k := 0) rfl (nI_inc _) (by decide) rfl (fun ls hl => ?_)
          refine lv_goto (tgt := 2) X.1 X.2.1 dX1_buildLyndon_33 (by decide) ?_
          exact ih2 (b + 1) (s1 ++ asL k T (rtN k T n b) b) f1_27 (by omega) (by rw [lyL, c15] at hq; simpa using hq) (by first | exact hw27 | exact hf1) (by rw [lyL, c15] at hl1; simp only [List.length_append, asL_len, List.length_nil, if_true, if_false, Bool.false_eq_true] at hl1 ⊢; omega) _ _ (hP.sub [0, 1, 2, 3] rfl) (hD.sub [0, 1, 2, 3] (by decide) rfl) hS ls (lv_sub hl [0, 1, 2, 3] rfl)
  exact L2 B 0 s f (by omega) (rfl) (hf) (by omega) _ _ (hP.sub [0, 1, 2, 3] rfl) (hD.sub [0, 1, 2, 3] (by decide) rfl) hS ls (lv_sub hl [0, 1, 2, 3] rfl)

set_option maxHeartbeats 4000000 in
set_option maxRecDepth 100000 in
theorem c_bu_neck (g : G5) (o : Nat) (fo : Nat) (sb : Nat) (cb : Nat) (a : Nat) (k : Nat) (n : Nat) (B : Nat) (T : Nat) (w : Nat) (wb : Nat) (s : List Nat) (f : Nat → Int32) (hc : shp k n B T) (hf : rep f s) (hs : s.length + B ≤ 256) : MuV (S := Nat → Int32) yX1_buildNecklace cX1_buildNecklace 6 none 3 69 g [.ref o, .ref a, .ref w] [(o, .inr (1, [.ref fo, .ref sb, .ref cb])), (a, .inr (6, [.int (nI k), .int (nI n), .int (nI B), .int (nI T)])), (w, .inr (9, [.ref wb, .int (nI s.length)])), (wb, .inl (g.2.1, 256, .inl f))] (fun f1 => rep f1 (s ++ neL k T n B 0)) (fun f1 => [(o, .inr (1, [.ref fo, .ref sb, .ref cb])), (a, .inr (6, [.int (nI k), .int (nI n), .int (nI B), .int (nI T)])), (w, .inr (9, [.ref wb, .int (nI ((s ++ neL k T n B 0).length))])), (wb, .inl (g.2.1, 256, .inl f1))]) := by
  refine MuV.of (by decide +kernel) (Nat.le_of_ble_eq_true rfl) ?_
  intro p_ l_ e_ S_ m_ args below meth co X hr hlk hP hK A hA hD hS ls hl
  have X : CallFix p_ m_ co cX1_buildNecklace 6 S_ args lw_all RX1 := X
  have hl : lv_has ls 6 [(0, .ref o), (1, .ref a), (2, .ref w)] := hl
  obtain ⟨hk2, hk4, hn1, hn6, hB, hT, hBT, hT2⟩ := hc.f
  have hB0 : 0 < B := by rw [hBT]; exact Nat.mul_pos (by omega) (by omega)
  refine lv_iconst (v := (nI 0)) X.1 X.2.1 dX1_buildNecklace_0 (by decide) ?_
  refine lv_istore_n (lv' := [(3, .int (nI 0)), (0, .ref o), (1, .ref a), (2, .ref w)]) X.1 X.2.1 dX1_buildNecklace_1 rfl hl (by decide) rfl (fun ls hl => ?_)
  refine lv_iconst (v := (nI 0)) X.1 X.2.1 dX1_buildNecklace_2 (by decide) ?_
  refine lv_istore (lv' := [(4, .int (nI 0)), (3, .int (nI 0)), (0, .ref o), (1, .ref a), (2, .ref w)]) X.1 X.2.1 dX1_buildNecklace_3 hl (by decide) rfl (fun ls hl => ?_)
  have L5 : ∀ (r : Nat) (b : Nat) (i : Nat) (s1 : List Nat) (f1 : Nat → Int32) (h1 : i + r = B) (hb : b < B) (hq : s1 ++ neL k T n r b = s ++ neL k T n B 0) (hf1 : rep f1 s1) (hl1 : s1.length + r ≤ 256) (H : Heap) (locs : List Loc) (hP : PP g [(o, .inr (1, [.ref fo, .ref sb, .ref cb])), (a, .inr (6, [.int (nI k), .int (nI n), .int (nI B), .int (nI T)])), (w, .inr (9, [.ref wb, .int (nI s1.length)])), (wb, .inl (g.2.1, 256, .inl f1))] H) (hD : va_D A [(o, .inr (1, [.ref fo, .ref sb, .ref cb])), (a, .inr (6, [.int (nI k), .int (nI n), .int (nI B), .int (nI T)])), (w, .inr (9, [.ref wb, .int (nI s1.length)])), (wb, .inl (g.2.1, 256, .inl f1))]) (hS : va_S A S_.heap H locs) (ls : Array Slot) (hl : lv_has ls 6 [(4, .int (nI i)), (3, .int (nI b)), (0, .ref o), (1, .ref a), (2, .ref w)]), W p_ l_ e_ { frames := 3, cells := 0, slots := 0, locals := 69 } S_ m_ args below meth co H locs 0 0 (MQ below (va_Qv (S := Nat → Int32) (fun f1 => rep f1 (s ++ neL k T n B 0)) (MuB g A (fun f1 => [(o, .inr (1, [.ref fo, .ref sb, .ref cb])), (a, .inr (6, [.int (nI k), .int (nI n), .int (nI B), .int (nI T)])), (w, .inr (9, [.ref wb, .int (nI ((s ++ neL k T n B 0).length))])), (wb, .inl (g.2.1, 256, .inl f1))])) A) args S_ 0 0 A) (F0 m_ 5 ls []) := by
    intro r
    induction r with
    | zero =>
      intro b i s1 f1 h1 hb hq hf1 hl1 H locs hP hD hS ls hl
      have e9 : s1 = s ++ neL k T n B 0 := by simpa [neL] using hq
      refine lv_iload X.1 X.2.1 dX1_buildNecklace_5 (lv_at hl 0 rfl) ?_
      refine lv_aload_n X.1 X.2.1 dX1_buildNecklace_7 rfl (lv_at hl 3 rfl) ?_
      refine (c_sh_B g a k n B T).callV (rest := [.int (nI i)]) X dX1_buildNecklace_8 q360 tX6_blockTotal hK (hP.sub [1] rfl) 0 6 rfl rfl rfl hl ⟨⟨Nat.le_of_ble_eq_true rfl, Nat.le_of_ble_eq_true rfl⟩, Nat.le_of_ble_eq_true rfl, Nat.le_of_ble_eq_true rfl⟩ rfl rfl (Nat.le_of_ble_eq_true rfl) ?_
      refine z_icmp_ge (tgt := 41) X dX1_buildNecklace_11 (by decide) (nI_toInt (by omega)) (nI_toInt (by omega)) (fun c11 => ?_) (fun c11 => ?_)
      · have hP : PP g [(o, .inr (1, [.ref fo, .ref sb, .ref cb])), (a, .inr (6, [.int (nI k), .int (nI n), .int (nI B), .int (nI T)])), (w, .inr (9, [.ref wb, .int (nI ((s ++ neL k T n B 0).length))])), (wb, .inl (g.2.1, 256, .inl f1))] H := by rw [← e9]; exact hP
        have hD : va_D A [(o, .inr (1, [.ref fo, .ref sb, .ref cb])), (a, .inr (6, [.int (nI k), .int (nI n), .int (nI B), .int (nI T)])), (w, .inr (9, [.ref wb, .int (nI ((s ++ neL k T n B 0).length))])), (wb, .inl (g.2.1, 256, .inl f1))] := by rw [← e9]; exact hD
        exact MuV.ret X hr hlk hK hS dX1_buildNecklace_41 f1 (hP.sub [0, 1, 2, 3] rfl) (hD.sub [0, 1, 2, 3] (by decide) rfl) (rep_eq hf1 e9)
      · exfalso; omega
    | succ r ih5 =>
      intro b i s1 f1 h1 hb hq hf1 hl1 H locs hP hD hS ls hl
      refine lv_iload X.1 X.2.1 dX1_buildNecklace_5 (lv_at hl 0 rfl) ?_
      refine lv_aload_n X.1 X.2.1 dX1_buildNecklace_7 rfl (lv_at hl 3 rfl) ?_
      refine (c_sh_B g a k n B T).callV (rest := [.int (nI i)]) X dX1_buildNecklace_8 q360 tX6_blockTotal hK (hP.sub [1] rfl) 0 6 rfl rfl rfl hl ⟨⟨Nat.le_of_ble_eq_true rfl, Nat.le_of_ble_eq_true rfl⟩, Nat.le_of_ble_eq_true rfl, Nat.le_of_ble_eq_true rfl⟩ rfl rfl (Nat.le_of_ble_eq_true rfl) ?_
      refine z_icmp_ge (tgt := 41) X dX1_buildNecklace_11 (by decide) (nI_toInt (by omega)) (nI_toInt (by omega)) (fun c11 => ?_) (fun c11 => ?_)
      · exfalso; omega
      · refine lv_aload_n X.1 X.2.1 dX1_buildNecklace_14 rfl (lv_at hl 3 rfl) ?_
        refine lv_iload_n X.1 X.2.1 dX1_buildNecklace_15 rfl (lv_at hl 1 rfl) ?_
        refine (c_succ g a k n B T b (by assumption) (by omega)).callV (rest := []) X dX1_buildNecklace_16 q424 tX6_successor hK (hP.sub [1] rfl) 0 6 rfl rfl rfl hl ⟨⟨Nat.le_of_ble_eq_true rfl, Nat.le_of_ble_eq_true rfl⟩, Nat.le_of_ble_eq_true rfl, Nat.le_of_ble_eq_true rfl⟩ rfl rfl (Nat.le_of_ble_eq_true rfl) ?_
        have hF := suc_lt hc hb
        refine lv_istore (lv' := [(5, .int (nI (sucN k T n b))), (4, .int (nI i)), (3, .int (nI b)), (0, .ref o), (1, .ref a), (2, .ref w)]) X.1 X.2.1 dX1_buildNecklace_19 hl (by decide) rfl (fun ls hl => ?_)
        refine lv_aload_n X.1 X.2.1 dX1_buildNecklace_21 rfl (lv_at hl 5 rfl) ?_
        refine lv_iload X.1 X.2.1 dX1_buildNecklace_22 (lv_at hl 0 rfl) ?_
        refine (c_Word_add g w wb s1 f1 (sucN k T n b) (by omega) (by assumption)).callV (rest := []) (wr := [(o, .inr (1, [.ref fo, .ref sb, .ref cb])), (a, .inr (6, [.int (nI k), .int (nI n), .int (nI B), .int (nI T)]))]) X dX1_buildNecklace_24 q378 tX10_add hK hP hD hS hA [2, 3] [0, 1] (by decide) rfl rfl (by decide) (by decide) 0 9 rfl rfl rfl hl ⟨⟨Nat.le_of_ble_eq_true rfl, Nat.le_of_ble_eq_true rfl⟩, Nat.le_of_ble_eq_true rfl, Nat.le_of_ble_eq_true rfl⟩ rfl rfl (Nat.le_of_ble_eq_true rfl) (fun u24 H locs hw24 hP hD hS => ?_)
        obtain ⟨f1_24, rfl⟩ : ∃ z, z = u24 := ⟨_, rfl⟩
        have hP : PP g [(o, .inr (1, [.ref fo, .ref sb, .ref cb])), (a, .inr (6, [.int (nI k), .int (nI n), .int (nI B), .int (nI T)])), (w, .inr (9, [.ref wb, .int (nI ((s1 ++ [(sucN k T n b)]).length))])), (wb, .inl (g.2.1, 256, .inl f1_24))] H := hP
        have hD : va_D A [(o, .inr (1, [.ref fo, .ref sb, .ref cb])), (a, .inr (6, [.int (nI k), .int (nI n), .int (nI B), .int (nI T)])), (w, .inr (9, [.ref wb, .int (nI ((s1 ++ [(sucN k T n b)]).length))])), (wb, .inl (g.2.1, 256, .inl f1_24))] := hD
        try dsimp only at hw24
        refine lv_aload_n X.1 X.2.1 dX1_buildNecklace_27 rfl (lv_at hl 4 rfl) ?_
        refine lv_iload_n X.1 X.2.1 dX1_buildNecklace_28 rfl (lv_at hl 2 rfl) ?_
        refine lv_iload X.1 X.2.1 dX1_buildNecklace_29 (lv_at hl 0 rfl) ?_
        refine (c_moved g a k n B T b (sucN k T n b) (by assumption) (by omega)).callV (rest := []) X dX1_buildNecklace_31 q414 tX6_moved hK (hP.sub [1] rfl) 0 6 rfl rfl rfl hl ⟨⟨Nat.le_of_ble_eq_true rfl, Nat.le_of_ble_eq_true rfl⟩, Nat.le_of_ble_eq_true rfl, Nat.le_of_ble_eq_true rfl⟩ rfl rfl (Nat.le_of_ble_eq_true rfl) ?_
        refine lv_istore_n (lv' := [(3, .int (nI (b % T * k + (sucN k T n b)))), (5, .int (nI (sucN k T n b))), (4, .int (nI i)), (0, .ref o), (1, .ref a), (2, .ref w)]) X.1 X.2.1 dX1_buildNecklace_34 rfl hl (by decide) rfl (fun ls hl => ?_)
        refine lv_iinc (v := (nI (i + 1))) (lv' := [(4, .int (nI (i + 1))), (3, .int (nI (b % T * k + (sucN k T n b)))), (5, .int (nI (sucN k T n b))), (0, .ref o), (1, .ref a), (2, .ref w)]) X.1 X.2.1 dX1_buildNecklace_35 hl (k := 2) rfl (nI_inc _) (by decide) rfl (fun ls hl => ?_)
        refine lv_goto (tgt := 5) X.1 X.2.1 dX1_buildNecklace_38 (by decide) ?_
        exact ih5 (b % T * k + (sucN k T n b)) (i + 1) (s1 ++ [sucN k T n b]) f1_24 (by omega) (suc_ended hc (md_lt hc _) (by omega)) (by rw [neL] at hq; simpa using hq) (hw24) (by simp; omega) _ _ (hP.sub [0, 1, 2, 3] rfl) (hD.sub [0, 1, 2, 3] (by decide) rfl) hS ls (lv_sub hl [0, 1, 3, 4, 5] rfl)
  exact L5 B 0 0 s f (by omega) (by omega) (rfl) (hf) (by omega) _ _ (hP.sub [0, 1, 2, 3] rfl) (hD.sub [0, 1, 2, 3] (by decide) rfl) hS ls (lv_sub hl [0, 1, 2, 3, 4] rfl)

set_option maxHeartbeats 4000000 in
set_option maxRecDepth 100000 in
theorem c_bu_join (g : G5) (o : Nat) (fo : Nat) (sb : Nat) (cb : Nat) (su : Nat → Int32) (cy : Nat → Int32) (B : Nat) (si : Nat → Nat) (la : Nat → Nat) (x : Nat) (y : Nat) (hB : B ≤ 256) (hsu : rb B su si) (hcy : rb B cy la) (hla : ∀ i, i < B → la i < B) (hsi : ∀ i, i < B → si i < B) (hx : x < B) (hy : y < B) : MuV (S := (Nat → Int32) × (Nat → Int32)) yX1_join cX1_join 6 none 1 20 g [.ref o, .int (nI x), .int (nI y)] [(o, .inr (1, [.ref fo, .ref sb, .ref cb])), (sb, .inl (g.2.1, 256, .inl su)), (cb, .inl (g.2.1, 256, .inl cy))] (fun u => rb B u.1 (jC (si, la) x y).1 ∧ rb B u.2 (jC (si, la) x y).2) (fun u => [(o, .inr (1, [.ref fo, .ref sb, .ref cb])), (sb, .inl (g.2.1, 256, .inl u.1)), (cb, .inl (g.2.1, 256, .inl u.2))]) := by
  refine MuV.of (by decide +kernel) (Nat.le_of_ble_eq_true rfl) ?_
  intro p_ l_ e_ S_ m_ args below meth co X hr hlk hP hK A hA hD hS ls hl
  have X : CallFix p_ m_ co cX1_join 6 S_ args lw_all RX1 := X
  have hl : lv_has ls 6 [(0, .ref o), (1, .int (nI x)), (2, .int (nI y))] := hl
  have hlx := hla x hx
  have hly := hla y hy
  refine lv_iload_n X.1 X.2.1 dX1_join_0 rfl (lv_at hl 1 rfl) ?_
  refine (c_slot g x (by omega)).callS (rest := []) X dX1_join_1 q438 tX1_isSlot hK (hP.sub [] rfl) hl ⟨⟨Nat.le_of_ble_eq_true rfl, Nat.le_of_ble_eq_true rfl⟩, Nat.le_of_ble_eq_true rfl, Nat.le_of_ble_eq_true rfl⟩ rfl rfl (Nat.le_of_ble_eq_true rfl) ?_
  refine b_if_eq (tgt := 29) X dX1_join_4 (by decide) (fun c4 => ?_) (fun c4 => ?_)
  · exfalso; cases c4
  · refine lv_iload_n X.1 X.2.1 dX1_join_7 rfl (lv_at hl 2 rfl) ?_
    refine (c_slot g y (by omega)).callS (rest := []) X dX1_join_8 q438 tX1_isSlot hK (hP.sub [] rfl) hl ⟨⟨Nat.le_of_ble_eq_true rfl, Nat.le_of_ble_eq_true rfl⟩, Nat.le_of_ble_eq_true rfl, Nat.le_of_ble_eq_true rfl⟩ rfl rfl (Nat.le_of_ble_eq_true rfl) ?_
    refine b_if_eq (tgt := 29) X dX1_join_11 (by decide) (fun c11 => ?_) (fun c11 => ?_)
    · exfalso; cases c11
    · refine lv_aload_n X.1 X.2.1 dX1_join_14 rfl (lv_at hl 0 rfl) ?_
      refine va_get (D := g.1) (ci := 1) (v := .ref cb) (C := RX1) (T := TX1) (N := 3) X.1 X.2.1 X.2.2.2.2 iwX1 X.2.2.2.1 hK hP 0 rfl rfl 2 (by decide) (X.2.2.2.2 _ q145) (fun _ h9 => h9) rfl dX1_join_15 ?_
      refine lv_iload_n X.1 X.2.1 dX1_join_18 rfl (lv_at hl 1 rfl) ?_
      refine n_iald X hK hP 2 0 rfl rfl (by omega) (by decide) dX1_join_19 ?_
      refine tp_i (y := (nI (la x))) (hcy x hx) ?_
      refine lv_aload_n X.1 X.2.1 dX1_join_20 rfl (lv_at hl 0 rfl) ?_
      refine va_get (D := g.1) (ci := 1) (v := .ref cb) (C := RX1) (T := TX1) (N := 3) X.1 X.2.1 X.2.2.2.2 iwX1 X.2.2.2.1 hK hP 0 rfl rfl 2 (by decide) (X.2.2.2.2 _ q145) (fun _ h9 => h9) rfl dX1_join_21 ?_
      refine lv_iload_n X.1 X.2.1 dX1_join_24 rfl (lv_at hl 2 rfl) ?_
      refine n_iald X hK hP 2 0 rfl rfl (by omega) (by decide) dX1_join_25 ?_
      refine tp_i (y := (nI (la y))) (hcy y hy) ?_
      refine z_icmp_ne (tgt := 30) X dX1_join_26 (by decide) (nI_toInt (by omega)) (nI_toInt (by omega)) (fun c26 => ?_) (fun c26 => ?_)
      · have e9 : jC (si, la) x y = (swp si x y, rlb la x y) := if_neg (by show ¬ la x = la y; omega)
        refine lv_aload_n X.1 X.2.1 dX1_join_30 rfl (lv_at hl 0 rfl) ?_
        refine va_get (D := g.1) (ci := 1) (v := .ref sb) (C := RX1) (T := TX1) (N := 3) X.1 X.2.1 X.2.2.2.2 iwX1 X.2.2.2.1 hK hP 0 rfl rfl 1 (by decide) (X.2.2.2.2 _ q144) (fun _ h9 => h9) rfl dX1_join_31 ?_
        refine lv_iload_n X.1 X.2.1 dX1_join_34 rfl (lv_at hl 1 rfl) ?_
        refine n_iald X hK hP 1 0 rfl rfl (by omega) (by decide) dX1_join_35 ?_
        refine tp_i (y := (nI (si x))) (hsu x hx) ?_
        refine lv_istore_n (lv' := [(3, .int (nI (si x))), (0, .ref o), (1, .int (nI x)), (2, .int (nI y))]) X.1 X.2.1 dX1_join_36 rfl hl (by decide) rfl (fun ls hl => ?_)
        refine lv_aload_n X.1 X.2.1 dX1_join_37 rfl (lv_at hl 1 rfl) ?_
        refine va_get (D := g.1) (ci := 1) (v := .ref sb) (C := RX1) (T := TX1) (N := 3) X.1 X.2.1 X.2.2.2.2 iwX1 X.2.2.2.1 hK hP 0 rfl rfl 1 (by decide) (X.2.2.2.2 _ q144) (fun _ h9 => h9) rfl dX1_join_38 ?_
        refine lv_iload_n X.1 X.2.1 dX1_join_41 rfl (lv_at hl 2 rfl) ?_
        refine lv_aload_n X.1 X.2.1 dX1_join_42 rfl (lv_at hl 1 rfl) ?_
        refine va_get (D := g.1) (ci := 1) (v := .ref sb) (C := RX1) (T := TX1) (N := 3) X.1 X.2.1 X.2.2.2.2 iwX1 X.2.2.2.1 hK hP 0 rfl rfl 1 (by decide) (X.2.2.2.2 _ q144) (fun _ h9 => h9) rfl dX1_join_43 ?_
        refine lv_iload_n X.1 X.2.1 dX1_join_46 rfl (lv_at hl 3 rfl) ?_
        refine n_iald X hK hP 1 0 rfl rfl (by omega) (by decide) dX1_join_47 ?_
        refine tp_i (y := (nI (si y))) (by first | exact hsu y hy | (unfold upd; split; · rfl; · exact hsu y hy)) ?_
        refine n_iast X hK hP hD hS 1 0 rfl rfl (by omega) (by decide) dX1_join_48 (fun H locs hP hD hS => ?_)
        have hP : PP g [(o, .inr (1, [.ref fo, .ref sb, .ref cb])), (sb, .inl (g.2.1, 256, .inl (upd su x (nI (si y))))), (cb, .inl (g.2.1, 256, .inl cy))] H := hP
        have hD : va_D A [(o, .inr (1, [.ref fo, .ref sb, .ref cb])), (sb, .inl (g.2.1, 256, .inl (upd su x (nI (si y))))), (cb, .inl (g.2.1, 256, .inl cy))] := hD
        refine lv_aload_n X.1 X.2.1 dX1_join_49 rfl (lv_at hl 1 rfl) ?_
        refine va_get (D := g.1) (ci := 1) (v := .ref sb) (C := RX1) (T := TX1) (N := 3) X.1 X.2.1 X.2.2.2.2 iwX1 X.2.2.2.1 hK hP 0 rfl rfl 1 (by decide) (X.2.2.2.2 _ q144) (fun _ h9 => h9) rfl dX1_join_50 ?_
        refine lv_iload_n X.1 X.2.1 dX1_join_53 rfl (lv_at hl 3 rfl) ?_
        refine lv_iload_n X.1 X.2.1 dX1_join_54 rfl (lv_at hl 0 rfl) ?_
        refine n_iast X hK hP hD hS 1 0 rfl rfl (by omega) (by decide) dX1_join_55 (fun H locs hP hD hS => ?_)
        have hP : PP g [(o, .inr (1, [.ref fo, .ref sb, .ref cb])), (sb, .inl (g.2.1, 256, .inl (upd (upd su x (nI (si y))) y (nI (si x))))), (cb, .inl (g.2.1, 256, .inl cy))] H := hP
        have hD : va_D A [(o, .inr (1, [.ref fo, .ref sb, .ref cb])), (sb, .inl (g.2.1, 256, .inl (upd (upd su x (nI (si y))) y (nI (si x))))), (cb, .inl (g.2.1, 256, .inl cy))] := hD
        refine lv_aload_n X.1 X.2.1 dX1_join_56 rfl (lv_at hl 1 rfl) ?_
        refine va_get (D := g.1) (ci := 1) (v := .ref cb) (C := RX1) (T := TX1) (N := 3) X.1 X.2.1 X.2.2.2.2 iwX1 X.2.2.2.1 hK hP 0 rfl rfl 2 (by decide) (X.2.2.2.2 _ q145) (fun _ h9 => h9) rfl dX1_join_57 ?_
        refine lv_iload_n X.1 X.2.1 dX1_join_60 rfl (lv_at hl 3 rfl) ?_
        refine n_iald X hK hP 2 0 rfl rfl (by omega) (by decide) dX1_join_61 ?_
        refine tp_i (y := (nI (la y))) (hcy y hy) ?_
        refine lv_istore (lv' := [(4, .int (nI (la y))), (3, .int (nI (si x))), (0, .ref o), (1, .int (nI x)), (2, .int (nI y))]) X.1 X.2.1 dX1_join_62 hl (by decide) rfl (fun ls hl => ?_)
        refine lv_iconst (v := (nI 0)) X.1 X.2.1 dX1_join_64 (by decide) ?_
        refine lv_istore (lv' := [(5, .int (nI 0)), (4, .int (nI (la y))), (3, .int (nI (si x))), (0, .ref o), (1, .int (nI x)), (2, .int (nI y))]) X.1 X.2.1 dX1_join_65 hl (by decide) rfl (fun ls hl => ?_)
        have L67 : ∀ (r : Nat) (i : Nat) (f1 : Nat → Int32) (h1 : i + r = 256) (hz : ∀ j, j < B → f1 j = nI (if j < i ∧ la j = la y then la x else la j)) (H : Heap) (locs : List Loc) (hP : PP g [(o, .inr (1, [.ref fo, .ref sb, .ref cb])), (sb, .inl (g.2.1, 256, .inl (upd (upd su x (nI (si y))) y (nI (si x))))), (cb, .inl (g.2.1, 256, .inl f1))] H) (hD : va_D A [(o, .inr (1, [.ref fo, .ref sb, .ref cb])), (sb, .inl (g.2.1, 256, .inl (upd (upd su x (nI (si y))) y (nI (si x))))), (cb, .inl (g.2.1, 256, .inl f1))]) (hS : va_S A S_.heap H locs) (ls : Array Slot) (hl : lv_has ls 6 [(5, .int (nI i)), (4, .int (nI (la y))), (3, .int (nI (si x))), (0, .ref o), (1, .int (nI x)), (2, .int (nI y))]), W p_ l_ e_ { frames := 1, cells := 0, slots := 0, locals := 20 } S_ m_ args below meth co H locs 0 0 (MQ below (va_Qv (S := (Nat → Int32) × (Nat → Int32)) (fun u => rb B u.1 (jC (si, la) x y).1 ∧ rb B u.2 (jC (si, la) x y).2) (MuB g A (fun u => [(o, .inr (1, [.ref fo, .ref sb, .ref cb])), (sb, .inl (g.2.1, 256, .inl u.1)), (cb, .inl (g.2.1, 256, .inl u.2))])) A) args S_ 0 0 A) (F0 m_ 67 ls []) := by
          intro r
          induction r with
          | zero =>
            intro i f1 h1 hz H locs hP hD hS ls hl
            refine lv_iload X.1 X.2.1 dX1_join_67 (lv_at hl 0 rfl) ?_
            refine lv_aload_n X.1 X.2.1 dX1_join_69 rfl (lv_at hl 3 rfl) ?_
            refine va_get (D := g.1) (ci := 1) (v := .ref cb) (C := RX1) (T := TX1) (N := 3) X.1 X.2.1 X.2.2.2.2 iwX1 X.2.2.2.1 hK hP 0 rfl rfl 2 (by decide) (X.2.2.2.2 _ q145) (fun _ h9 => h9) rfl dX1_join_70 ?_
            refine va_alen X.1 X.2.1 hK hP 2 0 rfl rfl (v := nI 256) rfl dX1_join_73 ?_
            refine z_icmp_ge (tgt := 108) X dX1_join_74 (by decide) (nI_toInt (by omega)) (nI_toInt (by omega)) (fun c74 => ?_) (fun c74 => ?_)
            · exact MuV.ret X hr hlk hK hS dX1_join_108 ((upd (upd su x (nI (si y))) y (nI (si x))), f1) (hP.sub [0, 1, 2] rfl) (hD.sub [0, 1, 2] (by decide) rfl) (by rw [e9]; exact ⟨rb_swp hsu, fun j hj => by show f1 j = nI (rlb la x y j); rw [hz j hj]; unfold rlb; simp only [show (j < i ∧ la j = la y) ↔ la j = la y from ⟨fun q => q.2, fun q => ⟨by omega, q⟩⟩]⟩)
            · exfalso; omega
          | succ r ih67 =>
            intro i f1 h1 hz H locs hP hD hS ls hl
            refine lv_iload X.1 X.2.1 dX1_join_67 (lv_at hl 0 rfl) ?_
            refine lv_aload_n X.1 X.2.1 dX1_join_69 rfl (lv_at hl 3 rfl) ?_
            refine va_get (D := g.1) (ci := 1) (v := .ref cb) (C := RX1) (T := TX1) (N := 3) X.1 X.2.1 X.2.2.2.2 iwX1 X.2.2.2.1 hK hP 0 rfl rfl 2 (by decide) (X.2.2.2.2 _ q145) (fun _ h9 => h9) rfl dX1_join_70 ?_
            refine va_alen X.1 X.2.1 hK hP 2 0 rfl rfl (v := nI 256) rfl dX1_join_73 ?_
            refine z_icmp_ge (tgt := 108) X dX1_join_74 (by decide) (nI_toInt (by omega)) (nI_toInt (by omega)) (fun c74 => ?_) (fun c74 => ?_)
            · exfalso; omega
            · refine lv_aload_n X.1 X.2.1 dX1_join_77 rfl (lv_at hl 3 rfl) ?_
              refine va_get (D := g.1) (ci := 1) (v := .ref cb) (C := RX1) (T := TX1) (N := 3) X.1 X.2.1 X.2.2.2.2 iwX1 X.2.2.2.1 hK hP 0 rfl rfl 2 (by decide) (X.2.2.2.2 _ q145) (fun _ h9 => h9) rfl dX1_join_78 ?_
              refine lv_iload X.1 X.2.1 dX1_join_81 (lv_at hl 0 rfl) ?_
              refine n_iald X hK hP 2 0 rfl rfl (by omega) (by decide) dX1_join_83 ?_
              refine lv_iload X.1 X.2.1 dX1_join_84 (lv_at hl 1 rfl) ?_
              refine z_icmp_ne (tgt := 102) X dX1_join_86 (by decide) rfl (nI_toInt (by omega)) (fun c86 => ?_) (fun c86 => ?_)
              · refine lv_iinc (v := (nI (i + 1))) (lv' := [(5, .int (nI (i + 1))), (4, .int (nI (la y))), (3, .int (nI (si x))), (0, .ref o), (1, .int (nI x)), (2, .int (nI y))]) X.1 X.2.1 dX1_join_102 hl (k := 0) rfl (nI_inc _) (by decide) rfl (fun ls hl => ?_)
                refine lv_goto (tgt := 67) X.1 X.2.1 dX1_join_105 (by decide) ?_
                exact ih67 (i + 1) f1 (by omega) (by first | exact rl_eq hz hla hly hB c86 | exact rl_ne hz hla hly hB c86) _ _ (hP.sub [0, 1, 2] rfl) (hD.sub [0, 1, 2] (by decide) rfl) hS ls (lv_sub hl [0, 1, 2, 3, 4, 5] rfl)
              · refine lv_aload_n X.1 X.2.1 dX1_join_89 rfl (lv_at hl 3 rfl) ?_
                refine va_get (D := g.1) (ci := 1) (v := .ref cb) (C := RX1) (T := TX1) (N := 3) X.1 X.2.1 X.2.2.2.2 iwX1 X.2.2.2.1 hK hP 0 rfl rfl 2 (by decide) (X.2.2.2.2 _ q145) (fun _ h9 => h9) rfl dX1_join_90 ?_
                refine lv_iload X.1 X.2.1 dX1_join_93 (lv_at hl 0 rfl) ?_
                refine lv_aload_n X.1 X.2.1 dX1_join_95 rfl (lv_at hl 3 rfl) ?_
                refine va_get (D := g.1) (ci := 1) (v := .ref cb) (C := RX1) (T := TX1) (N := 3) X.1 X.2.1 X.2.2.2.2 iwX1 X.2.2.2.1 hK hP 0 rfl rfl 2 (by decide) (X.2.2.2.2 _ q145) (fun _ h9 => h9) rfl dX1_join_96 ?_
                refine lv_iload_n X.1 X.2.1 dX1_join_99 rfl (lv_at hl 4 rfl) ?_
                refine n_iald X hK hP 2 0 rfl rfl (by omega) (by decide) dX1_join_100 ?_
                refine tp_i (y := (nI (la x))) (by rw [hz x hx, if_neg (by omega)]) ?_
                refine n_iast X hK hP hD hS 2 0 rfl rfl (by omega) (by decide) dX1_join_101 (fun H locs hP hD hS => ?_)
                have hP : PP g [(o, .inr (1, [.ref fo, .ref sb, .ref cb])), (sb, .inl (g.2.1, 256, .inl (upd (upd su x (nI (si y))) y (nI (si x))))), (cb, .inl (g.2.1, 256, .inl (upd f1 i (nI (la x)))))] H := hP
                have hD : va_D A [(o, .inr (1, [.ref fo, .ref sb, .ref cb])), (sb, .inl (g.2.1, 256, .inl (upd (upd su x (nI (si y))) y (nI (si x))))), (cb, .inl (g.2.1, 256, .inl (upd f1 i (nI (la x)))))] := hD
                refine lv_iinc (v := (nI (i + 1))) (lv' := [(5, .int (nI (i + 1))), (4, .int (nI (la y))), (3, .int (nI (si x))), (0, .ref o), (1, .int (nI x)), (2, .int (nI y))]) X.1 X.2.1 dX1_join_102 hl (k := 0) rfl (nI_inc _) (by decide) rfl (fun ls hl => ?_)
                refine lv_goto (tgt := 67) X.1 X.2.1 dX1_join_105 (by decide) ?_
                exact ih67 (i + 1) (upd f1 i (nI (la x))) (by omega) (by first | exact rl_eq hz hla hly hB c86 | exact rl_ne hz hla hly hB c86) _ _ (hP.sub [0, 1, 2] rfl) (hD.sub [0, 1, 2] (by decide) rfl) hS ls (lv_sub hl [0, 1, 2, 3, 4, 5] rfl)
        exact L67 256 0 cy (by omega) (fun j hj => by rw [if_neg (by omega)]; exact hcy j hj) _ _ (hP.sub [0, 1, 2] rfl) (hD.sub [0, 1, 2] (by decide) rfl) hS ls (lv_sub hl [0, 1, 2, 3, 4, 5] rfl)
      · have e9 : jC (si, la) x y = (si, la) := if_pos (by show la x = la y; omega)
        exact MuV.ret X hr hlk hK hS dX1_join_29 (su, cy) (hP.sub [0, 1, 2] rfl) (hD.sub [0, 1, 2] (by decide) rfl) (by rw [e9]; exact ⟨hsu, hcy⟩)

set_option maxHeartbeats 4000000 in
set_option maxRecDepth 100000 in
theorem c_bu_cyc (g : G5) (o : Nat) (fo : Nat) (sb : Nat) (cb : Nat) (su : Nat → Int32) (cy : Nat → Int32) (a : Nat) (k : Nat) (n : Nat) (B : Nat) (T : Nat) (hc : shp k n B T) : MuV (S := (Nat → Int32) × (Nat → Int32)) yX1_startCycles cX1_startCycles 3 none 2 46 g [.ref o, .ref a] [(o, .inr (1, [.ref fo, .ref sb, .ref cb])), (sb, .inl (g.2.1, 256, .inl su)), (cb, .inl (g.2.1, 256, .inl cy)), (a, .inr (6, [.int (nI k), .int (nI n), .int (nI B), .int (nI T)]))] (fun u => rb B u.1 (turnN k T) ∧ rb B u.2 (lrN k T n)) (fun u => [(o, .inr (1, [.ref fo, .ref sb, .ref cb])), (sb, .inl (g.2.1, 256, .inl u.1)), (cb, .inl (g.2.1, 256, .inl u.2)), (a, .inr (6, [.int (nI k), .int (nI n), .int (nI B), .int (nI T)]))]) := by
  refine MuV.of (by decide +kernel) (Nat.le_of_ble_eq_true rfl) ?_
  intro p_ l_ e_ S_ m_ args below meth co X hr hlk hP hK A hA hD hS ls hl
  have X : CallFix p_ m_ co cX1_startCycles 3 S_ args lw_all RX1 := X
  have hl : lv_has ls 3 [(0, .ref o), (1, .ref a)] := hl
  obtain ⟨hk2, hk4, hn1, hn6, hB, hT, hBT, hT2⟩ := hc.f
  have hB0 : 0 < B := by rw [hBT]; exact Nat.mul_pos (by omega) (by omega)
  refine lv_iconst (v := (nI 0)) X.1 X.2.1 dX1_startCycles_0 (by decide) ?_
  refine lv_istore_n (lv' := [(2, .int (nI 0)), (0, .ref o), (1, .ref a)]) X.1 X.2.1 dX1_startCycles_1 rfl hl (by decide) rfl (fun ls hl => ?_)
  have L2 : ∀ (r : Nat) (i : Nat) (su1 : Nat → Int32) (cy1 : Nat → Int32) (h1 : i + r = B) (hz1 : rb i su1 (turnN k T)) (hz2 : rb i cy1 (lrN k T n)) (H : Heap) (locs : List Loc) (hP : PP g [(o, .inr (1, [.ref fo, .ref sb, .ref cb])), (sb, .inl (g.2.1, 256, .inl su1)), (cb, .inl (g.2.1, 256, .inl cy1)), (a, .inr (6, [.int (nI k), .int (nI n), .int (nI B), .int (nI T)]))] H) (hD : va_D A [(o, .inr (1, [.ref fo, .ref sb, .ref cb])), (sb, .inl (g.2.1, 256, .inl su1)), (cb, .inl (g.2.1, 256, .inl cy1)), (a, .inr (6, [.int (nI k), .int (nI n), .int (nI B), .int (nI T)]))]) (hS : va_S A S_.heap H locs) (ls : Array Slot) (hl : lv_has ls 3 [(2, .int (nI i)), (0, .ref o), (1, .ref a)]), W p_ l_ e_ { frames := 2, cells := 0, slots := 0, locals := 46 } S_ m_ args below meth co H locs 0 0 (MQ below (va_Qv (S := (Nat → Int32) × (Nat → Int32)) (fun u => rb B u.1 (turnN k T) ∧ rb B u.2 (lrN k T n)) (MuB g A (fun u => [(o, .inr (1, [.ref fo, .ref sb, .ref cb])), (sb, .inl (g.2.1, 256, .inl u.1)), (cb, .inl (g.2.1, 256, .inl u.2)), (a, .inr (6, [.int (nI k), .int (nI n), .int (nI B), .int (nI T)]))])) A) args S_ 0 0 A) (F0 m_ 2 ls []) := by
    intro r
    induction r with
    | zero =>
      intro i su1 cy1 h1 hz1 hz2 H locs hP hD hS ls hl
      refine lv_iload_n X.1 X.2.1 dX1_startCycles_2 rfl (lv_at hl 0 rfl) ?_
      refine lv_aload_n X.1 X.2.1 dX1_startCycles_3 rfl (lv_at hl 2 rfl) ?_
      refine (c_sh_B g a k n B T).callV (rest := [.int (nI i)]) X dX1_startCycles_4 q360 tX6_blockTotal hK (hP.sub [3] rfl) 0 6 rfl rfl rfl hl ⟨⟨Nat.le_of_ble_eq_true rfl, Nat.le_of_ble_eq_true rfl⟩, Nat.le_of_ble_eq_true rfl, Nat.le_of_ble_eq_true rfl⟩ rfl rfl (Nat.le_of_ble_eq_true rfl) ?_
      refine z_icmp_ge (tgt := 50) X dX1_startCycles_7 (by decide) (nI_toInt (by omega)) (nI_toInt (by omega)) (fun c7 => ?_) (fun c7 => ?_)
      · exact MuV.ret X hr hlk hK hS dX1_startCycles_50 (su1, cy1) (hP.sub [0, 1, 2, 3] rfl) (hD.sub [0, 1, 2, 3] (by decide) rfl) (by rw [show B = i by omega]; exact ⟨hz1, hz2⟩)
      · exfalso; omega
    | succ r ih2 =>
      intro i su1 cy1 h1 hz1 hz2 H locs hP hD hS ls hl
      refine lv_iload_n X.1 X.2.1 dX1_startCycles_2 rfl (lv_at hl 0 rfl) ?_
      refine lv_aload_n X.1 X.2.1 dX1_startCycles_3 rfl (lv_at hl 2 rfl) ?_
      refine (c_sh_B g a k n B T).callV (rest := [.int (nI i)]) X dX1_startCycles_4 q360 tX6_blockTotal hK (hP.sub [3] rfl) 0 6 rfl rfl rfl hl ⟨⟨Nat.le_of_ble_eq_true rfl, Nat.le_of_ble_eq_true rfl⟩, Nat.le_of_ble_eq_true rfl, Nat.le_of_ble_eq_true rfl⟩ rfl rfl (Nat.le_of_ble_eq_true rfl) ?_
      refine z_icmp_ge (tgt := 50) X dX1_startCycles_7 (by decide) (nI_toInt (by omega)) (nI_toInt (by omega)) (fun c7 => ?_) (fun c7 => ?_)
      · exfalso; omega
      · refine lv_iload_n X.1 X.2.1 dX1_startCycles_10 rfl (lv_at hl 0 rfl) ?_
        refine (c_slot g i (by omega)).callS (rest := []) X dX1_startCycles_11 q438 tX1_isSlot hK (hP.sub [] rfl) hl ⟨⟨Nat.le_of_ble_eq_true rfl, Nat.le_of_ble_eq_true rfl⟩, Nat.le_of_ble_eq_true rfl, Nat.le_of_ble_eq_true rfl⟩ rfl rfl (Nat.le_of_ble_eq_true rfl) ?_
        refine b_if_eq (tgt := 44) X dX1_startCycles_14 (by decide) (fun c14 => ?_) (fun c14 => ?_)
        · exfalso; cases c14
        · refine lv_aload_n X.1 X.2.1 dX1_startCycles_17 rfl (lv_at hl 1 rfl) ?_
          refine va_get (D := g.1) (ci := 1) (v := .ref sb) (C := RX1) (T := TX1) (N := 3) X.1 X.2.1 X.2.2.2.2 iwX1 X.2.2.2.1 hK hP 0 rfl rfl 1 (by decide) (X.2.2.2.2 _ q144) (fun _ h9 => h9) rfl dX1_startCycles_18 ?_
          refine lv_iload_n X.1 X.2.1 dX1_startCycles_21 rfl (lv_at hl 0 rfl) ?_
          refine lv_aload_n X.1 X.2.1 dX1_startCycles_22 rfl (lv_at hl 2 rfl) ?_
          refine lv_iload_n X.1 X.2.1 dX1_startCycles_23 rfl (lv_at hl 0 rfl) ?_
          refine lv_aload_n X.1 X.2.1 dX1_startCycles_24 rfl (lv_at hl 2 rfl) ?_
          refine lv_iload_n X.1 X.2.1 dX1_startCycles_25 rfl (lv_at hl 0 rfl) ?_
          refine (c_first g a k n B T i (by assumption) (by omega)).callV (rest := [.int (nI i), .ref a, .int (nI i), .ref sb]) X dX1_startCycles_26 q410 tX6_firstLetter hK (hP.sub [3] rfl) 0 6 rfl rfl rfl hl ⟨⟨Nat.le_of_ble_eq_true rfl, Nat.le_of_ble_eq_true rfl⟩, Nat.le_of_ble_eq_true rfl, Nat.le_of_ble_eq_true rfl⟩ rfl rfl (Nat.le_of_ble_eq_true rfl) ?_
          refine (c_moved g a k n B T i (i / T) (by assumption) (by omega)).callV (rest := [.int (nI i), .ref sb]) X dX1_startCycles_29 q414 tX6_moved hK (hP.sub [3] rfl) 0 6 rfl rfl rfl hl ⟨⟨Nat.le_of_ble_eq_true rfl, Nat.le_of_ble_eq_true rfl⟩, Nat.le_of_ble_eq_true rfl, Nat.le_of_ble_eq_true rfl⟩ rfl rfl (Nat.le_of_ble_eq_true rfl) ?_
          refine n_iast X hK hP hD hS 1 0 rfl rfl (by omega) (by decide) dX1_startCycles_32 (fun H locs hP hD hS => ?_)
          have hP : PP g [(o, .inr (1, [.ref fo, .ref sb, .ref cb])), (sb, .inl (g.2.1, 256, .inl (upd su1 i (nI (i % T * k + (i / T)))))), (cb, .inl (g.2.1, 256, .inl cy1)), (a, .inr (6, [.int (nI k), .int (nI n), .int (nI B), .int (nI T)]))] H := hP
          have hD : va_D A [(o, .inr (1, [.ref fo, .ref sb, .ref cb])), (sb, .inl (g.2.1, 256, .inl (upd su1 i (nI (i % T * k + (i / T)))))), (cb, .inl (g.2.1, 256, .inl cy1)), (a, .inr (6, [.int (nI k), .int (nI n), .int (nI B), .int (nI T)]))] := hD
          refine lv_aload_n X.1 X.2.1 dX1_startCycles_33 rfl (lv_at hl 1 rfl) ?_
          refine va_get (D := g.1) (ci := 1) (v := .ref cb) (C := RX1) (T := TX1) (N := 3) X.1 X.2.1 X.2.2.2.2 iwX1 X.2.2.2.1 hK hP 0 rfl rfl 2 (by decide) (X.2.2.2.2 _ q145) (fun _ h9 => h9) rfl dX1_startCycles_34 ?_
          refine lv_iload_n X.1 X.2.1 dX1_startCycles_37 rfl (lv_at hl 0 rfl) ?_
          refine lv_aload_n X.1 X.2.1 dX1_startCycles_38 rfl (lv_at hl 2 rfl) ?_
          refine lv_iload_n X.1 X.2.1 dX1_startCycles_39 rfl (lv_at hl 0 rfl) ?_
          refine (c_least g a k n B T i (by assumption) (by omega)).callV (rest := [.int (nI i), .ref cb]) X dX1_startCycles_40 q441 tX6_leastRotation hK (hP.sub [3] rfl) 0 6 rfl rfl rfl hl ⟨⟨Nat.le_of_ble_eq_true rfl, Nat.le_of_ble_eq_true rfl⟩, Nat.le_of_ble_eq_true rfl, Nat.le_of_ble_eq_true rfl⟩ rfl rfl (Nat.le_of_ble_eq_true rfl) ?_
          refine n_iast X hK hP hD hS 2 0 rfl rfl (by omega) (by decide) dX1_startCycles_43 (fun H locs hP hD hS => ?_)
          have hP : PP g [(o, .inr (1, [.ref fo, .ref sb, .ref cb])), (sb, .inl (g.2.1, 256, .inl (upd su1 i (nI (i % T * k + (i / T)))))), (cb, .inl (g.2.1, 256, .inl (upd cy1 i (nI (lrN k T n i))))), (a, .inr (6, [.int (nI k), .int (nI n), .int (nI B), .int (nI T)]))] H := hP
          have hD : va_D A [(o, .inr (1, [.ref fo, .ref sb, .ref cb])), (sb, .inl (g.2.1, 256, .inl (upd su1 i (nI (i % T * k + (i / T)))))), (cb, .inl (g.2.1, 256, .inl (upd cy1 i (nI (lrN k T n i))))), (a, .inr (6, [.int (nI k), .int (nI n), .int (nI B), .int (nI T)]))] := hD
          refine lv_iinc (v := (nI (i + 1))) (lv' := [(2, .int (nI (i + 1))), (0, .ref o), (1, .ref a)]) X.1 X.2.1 dX1_startCycles_44 hl (k := 0) rfl (nI_inc _) (by decide) rfl (fun ls hl => ?_)
          refine lv_goto (tgt := 2) X.1 X.2.1 dX1_startCycles_47 (by decide) ?_
          exact ih2 (i + 1) (upd su1 i (nI (i % T * k + (i / T)))) (upd cy1 i (nI (lrN k T n i))) (by omega) (rb_start hz1) (rb_start hz2) _ _ (hP.sub [0, 1, 2, 3] rfl) (hD.sub [0, 1, 2, 3] (by decide) rfl) hS ls (lv_sub hl [0, 1, 2] rfl)
  exact L2 B 0 su cy (by omega) (fun j hj => absurd hj (Nat.not_lt_zero j)) (fun j hj => absurd hj (Nat.not_lt_zero j)) _ _ (hP.sub [0, 1, 2, 3] rfl) (hD.sub [0, 1, 2, 3] (by decide) rfl) hS ls (lv_sub hl [0, 1, 2] rfl)

set_option maxHeartbeats 4000000 in
set_option maxRecDepth 100000 in
theorem c_bu_jo (g : G5) (o : Nat) (fo : Nat) (sb : Nat) (cb : Nat) (su : Nat → Int32) (cy : Nat → Int32) (a : Nat) (k : Nat) (n : Nat) (B : Nat) (T : Nat) (w : Nat) (wb : Nat) (s : List Nat) (f : Nat → Int32) (p : Nat) (hc : shp k n B T) (hf : rep f s) (hs : s.length + B ≤ 256) (hp : p < T) : MuV (S := (Nat → Int32) × (Nat → Int32) × (Nat → Int32)) yX1_buildJoined cX1_buildJoined 8 none 3 68 g [.ref o, .ref a, .int (nI p), .ref w] [(o, .inr (1, [.ref fo, .ref sb, .ref cb])), (sb, .inl (g.2.1, 256, .inl su)), (cb, .inl (g.2.1, 256, .inl cy)), (a, .inr (6, [.int (nI k), .int (nI n), .int (nI B), .int (nI T)])), (w, .inr (9, [.ref wb, .int (nI s.length)])), (wb, .inl (g.2.1, 256, .inl f))] (fun u => rep u.2.2 (s ++ joL k T n B p)) (fun u => [(o, .inr (1, [.ref fo, .ref sb, .ref cb])), (sb, .inl (g.2.1, 256, .inl u.1)), (cb, .inl (g.2.1, 256, .inl u.2.1)), (a, .inr (6, [.int (nI k), .int (nI n), .int (nI B), .int (nI T)])), (w, .inr (9, [.ref wb, .int (nI ((s ++ joL k T n B p).length))])), (wb, .inl (g.2.1, 256, .inl u.2.2))]) := by
  refine MuV.of (by decide +kernel) (Nat.le_of_ble_eq_true rfl) ?_
  intro p_ l_ e_ S_ m_ args below meth co X hr hlk hP hK A hA hD hS ls hl
  have X : CallFix p_ m_ co cX1_buildJoined 8 S_ args lw_all RX1 := X
  have hl : lv_has ls 8 [(0, .ref o), (1, .ref a), (2, .int (nI p)), (3, .ref w)] := hl
  obtain ⟨hk2, hk4, hn1, hn6, hB, hT, hBT, hT2⟩ := hc.f
  have hB0 : 0 < B := by rw [hBT]; exact Nat.mul_pos (by omega) (by omega)
  refine lv_aload_n X.1 X.2.1 dX1_buildJoined_0 rfl (lv_at hl 0 rfl) ?_
  refine lv_aload_n X.1 X.2.1 dX1_buildJoined_1 rfl (lv_at hl 1 rfl) ?_
  refine (c_bu_cyc g o fo sb cb su cy a k n B T (by assumption)).callV (rest := []) (wr := [(w, .inr (9, [.ref wb, .int (nI s.length)])), (wb, .inl (g.2.1, 256, .inl f))]) X dX1_buildJoined_2 q434 tX1_startCycles hK hP hD hS hA [0, 1, 2, 3] [4, 5] (by decide) rfl rfl (by decide) (by decide) 0 1 rfl rfl rfl hl ⟨⟨Nat.le_of_ble_eq_true rfl, Nat.le_of_ble_eq_true rfl⟩, Nat.le_of_ble_eq_true rfl, Nat.le_of_ble_eq_true rfl⟩ rfl rfl (Nat.le_of_ble_eq_true rfl) (fun u2 H locs hw2 hP hD hS => ?_)
  obtain ⟨su1_2, cy1_2⟩ := u2
  have hP : PP g [(w, .inr (9, [.ref wb, .int (nI s.length)])), (wb, .inl (g.2.1, 256, .inl f)), (o, .inr (1, [.ref fo, .ref sb, .ref cb])), (sb, .inl (g.2.1, 256, .inl su1_2)), (cb, .inl (g.2.1, 256, .inl cy1_2)), (a, .inr (6, [.int (nI k), .int (nI n), .int (nI B), .int (nI T)]))] H := hP
  have hD : va_D A [(w, .inr (9, [.ref wb, .int (nI s.length)])), (wb, .inl (g.2.1, 256, .inl f)), (o, .inr (1, [.ref fo, .ref sb, .ref cb])), (sb, .inl (g.2.1, 256, .inl su1_2)), (cb, .inl (g.2.1, 256, .inl cy1_2)), (a, .inr (6, [.int (nI k), .int (nI n), .int (nI B), .int (nI T)]))] := hD
  try dsimp only at hw2
  refine lv_aload_n X.1 X.2.1 dX1_buildJoined_5 rfl (lv_at hl 1 rfl) ?_
  refine (c_sh_T g a k n B T).callV (rest := []) X dX1_buildJoined_6 q448 tX6_tailTotal hK (hP.sub [5] rfl) 0 6 rfl rfl rfl hl ⟨⟨Nat.le_of_ble_eq_true rfl, Nat.le_of_ble_eq_true rfl⟩, Nat.le_of_ble_eq_true rfl, Nat.le_of_ble_eq_true rfl⟩ rfl rfl (Nat.le_of_ble_eq_true rfl) ?_
  refine lv_istore (lv' := [(4, .int (nI T)), (0, .ref o), (1, .ref a), (2, .int (nI p)), (3, .ref w)]) X.1 X.2.1 dX1_buildJoined_9 hl (by decide) rfl (fun ls hl => ?_)
  refine lv_iconst (v := (nI 0)) X.1 X.2.1 dX1_buildJoined_11 (by decide) ?_
  refine lv_istore (lv' := [(5, .int (nI 0)), (4, .int (nI T)), (0, .ref o), (1, .ref a), (2, .int (nI p)), (3, .ref w)]) X.1 X.2.1 dX1_buildJoined_12 hl (by decide) rfl (fun ls hl => ?_)
  have L14 : ∀ (r : Nat) (i : Nat) (st : (Nat → Nat) × (Nat → Nat)) (su1 : Nat → Int32) (cy1 : Nat → Int32) (h1 : i + r = T) (hj : jOut k T p r i st = joS k T n p) (hsu : rb B su1 st.1) (hcy : rb B cy1 st.2) (hsi : ∀ i, i < B → st.1 i < B) (hla : ∀ i, i < B → st.2 i < B) (H : Heap) (locs : List Loc) (hP : PP g [(o, .inr (1, [.ref fo, .ref sb, .ref cb])), (sb, .inl (g.2.1, 256, .inl su1)), (cb, .inl (g.2.1, 256, .inl cy1)), (a, .inr (6, [.int (nI k), .int (nI n), .int (nI B), .int (nI T)])), (w, .inr (9, [.ref wb, .int (nI s.length)])), (wb, .inl (g.2.1, 256, .inl f))] H) (hD : va_D A [(o, .inr (1, [.ref fo, .ref sb, .ref cb])), (sb, .inl (g.2.1, 256, .inl su1)), (cb, .inl (g.2.1, 256, .inl cy1)), (a, .inr (6, [.int (nI k), .int (nI n), .int (nI B), .int (nI T)])), (w, .inr (9, [.ref wb, .int (nI s.length)])), (wb, .inl (g.2.1, 256, .inl f))]) (hS : va_S A S_.heap H locs) (ls : Array Slot) (hl : lv_has ls 8 [(5, .int (nI i)), (4, .int (nI T)), (0, .ref o), (1, .ref a), (2, .int (nI p)), (3, .ref w)]), W p_ l_ e_ { frames := 3, cells := 0, slots := 0, locals := 68 } S_ m_ args below meth co H locs 0 0 (MQ below (va_Qv (S := (Nat → Int32) × (Nat → Int32) × (Nat → Int32)) (fun u => rep u.2.2 (s ++ joL k T n B p)) (MuB g A (fun u => [(o, .inr (1, [.ref fo, .ref sb, .ref cb])), (sb, .inl (g.2.1, 256, .inl u.1)), (cb, .inl (g.2.1, 256, .inl u.2.1)), (a, .inr (6, [.int (nI k), .int (nI n), .int (nI B), .int (nI T)])), (w, .inr (9, [.ref wb, .int (nI ((s ++ joL k T n B p).length))])), (wb, .inl (g.2.1, 256, .inl u.2.2))])) A) args S_ 0 0 A) (F0 m_ 14 ls []) := by
    intro r
    induction r with
    | zero =>
      intro i st su1 cy1 h1 hj hsu hcy hsi hla H locs hP hD hS ls hl
      have e8 : st = joS k T n p := hj
      refine lv_iload X.1 X.2.1 dX1_buildJoined_14 (lv_at hl 0 rfl) ?_
      refine lv_iload X.1 X.2.1 dX1_buildJoined_16 (lv_at hl 1 rfl) ?_
      refine z_icmp_ge (tgt := 94) X dX1_buildJoined_18 (by decide) (nI_toInt (by omega)) (nI_toInt (by omega)) (fun c18 => ?_) (fun c18 => ?_)
      · refine lv_iconst (v := (nI 0)) X.1 X.2.1 dX1_buildJoined_94 (by decide) ?_
        refine lv_istore (lv' := [(5, .int (nI 0)), (4, .int (nI T)), (0, .ref o), (1, .ref a), (2, .int (nI p)), (3, .ref w)]) X.1 X.2.1 dX1_buildJoined_95 hl (by decide) rfl (fun ls hl => ?_)
        refine lv_iconst (v := (nI 0)) X.1 X.2.1 dX1_buildJoined_97 (by decide) ?_
        refine lv_istore (lv' := [(6, .int (nI 0)), (5, .int (nI 0)), (4, .int (nI T)), (0, .ref o), (1, .ref a), (2, .int (nI p)), (3, .ref w)]) X.1 X.2.1 dX1_buildJoined_98 hl (by decide) rfl (fun ls hl => ?_)
        have L100 : ∀ (r : Nat) (b : Nat) (i : Nat) (s1 : List Nat) (f1 : Nat → Int32) (h3 : i + r = B) (hb : b < B) (hq : s1 ++ outL T st.1 r b = s ++ joL k T n B p) (hf1 : rep f1 s1) (hl1 : s1.length + r ≤ 256) (H : Heap) (locs : List Loc) (hP : PP g [(o, .inr (1, [.ref fo, .ref sb, .ref cb])), (sb, .inl (g.2.1, 256, .inl su1)), (cb, .inl (g.2.1, 256, .inl cy1)), (a, .inr (6, [.int (nI k), .int (nI n), .int (nI B), .int (nI T)])), (w, .inr (9, [.ref wb, .int (nI s1.length)])), (wb, .inl (g.2.1, 256, .inl f1))] H) (hD : va_D A [(o, .inr (1, [.ref fo, .ref sb, .ref cb])), (sb, .inl (g.2.1, 256, .inl su1)), (cb, .inl (g.2.1, 256, .inl cy1)), (a, .inr (6, [.int (nI k), .int (nI n), .int (nI B), .int (nI T)])), (w, .inr (9, [.ref wb, .int (nI s1.length)])), (wb, .inl (g.2.1, 256, .inl f1))]) (hS : va_S A S_.heap H locs) (ls : Array Slot) (hl : lv_has ls 8 [(6, .int (nI i)), (5, .int (nI b)), (4, .int (nI T)), (0, .ref o), (1, .ref a), (2, .int (nI p)), (3, .ref w)]), W p_ l_ e_ { frames := 3, cells := 0, slots := 0, locals := 68 } S_ m_ args below meth co H locs 0 0 (MQ below (va_Qv (S := (Nat → Int32) × (Nat → Int32) × (Nat → Int32)) (fun u => rep u.2.2 (s ++ joL k T n B p)) (MuB g A (fun u => [(o, .inr (1, [.ref fo, .ref sb, .ref cb])), (sb, .inl (g.2.1, 256, .inl u.1)), (cb, .inl (g.2.1, 256, .inl u.2.1)), (a, .inr (6, [.int (nI k), .int (nI n), .int (nI B), .int (nI T)])), (w, .inr (9, [.ref wb, .int (nI ((s ++ joL k T n B p).length))])), (wb, .inl (g.2.1, 256, .inl u.2.2))])) A) args S_ 0 0 A) (F0 m_ 100 ls []) := by
          intro r
          induction r with
          | zero =>
            intro b i s1 f1 h3 hb hq hf1 hl1 H locs hP hD hS ls hl
            have e9 : s1 = s ++ joL k T n B p := by simpa [outL] using hq
            refine lv_iload X.1 X.2.1 dX1_buildJoined_100 (lv_at hl 0 rfl) ?_
            refine lv_aload_n X.1 X.2.1 dX1_buildJoined_102 rfl (lv_at hl 4 rfl) ?_
            refine (c_sh_B g a k n B T).callV (rest := [.int (nI i)]) X dX1_buildJoined_103 q360 tX6_blockTotal hK (hP.sub [3] rfl) 0 6 rfl rfl rfl hl ⟨⟨Nat.le_of_ble_eq_true rfl, Nat.le_of_ble_eq_true rfl⟩, Nat.le_of_ble_eq_true rfl, Nat.le_of_ble_eq_true rfl⟩ rfl rfl (Nat.le_of_ble_eq_true rfl) ?_
            refine z_icmp_ge (tgt := 146) X dX1_buildJoined_106 (by decide) (nI_toInt (by omega)) (nI_toInt (by omega)) (fun c106 => ?_) (fun c106 => ?_)
            · have hP : PP g [(o, .inr (1, [.ref fo, .ref sb, .ref cb])), (sb, .inl (g.2.1, 256, .inl su1)), (cb, .inl (g.2.1, 256, .inl cy1)), (a, .inr (6, [.int (nI k), .int (nI n), .int (nI B), .int (nI T)])), (w, .inr (9, [.ref wb, .int (nI ((s ++ joL k T n B p).length))])), (wb, .inl (g.2.1, 256, .inl f1))] H := by rw [← e9]; exact hP
              have hD : va_D A [(o, .inr (1, [.ref fo, .ref sb, .ref cb])), (sb, .inl (g.2.1, 256, .inl su1)), (cb, .inl (g.2.1, 256, .inl cy1)), (a, .inr (6, [.int (nI k), .int (nI n), .int (nI B), .int (nI T)])), (w, .inr (9, [.ref wb, .int (nI ((s ++ joL k T n B p).length))])), (wb, .inl (g.2.1, 256, .inl f1))] := by rw [← e9]; exact hD
              exact MuV.ret X hr hlk hK hS dX1_buildJoined_146 (su1, cy1, f1) (hP.sub [0, 1, 2, 3, 4, 5] rfl) (hD.sub [0, 1, 2, 3, 4, 5] (by decide) rfl) (rep_eq hf1 e9)
            · exfalso; omega
          | succ r ih100 =>
            intro b i s1 f1 h3 hb hq hf1 hl1 H locs hP hD hS ls hl
            refine lv_iload X.1 X.2.1 dX1_buildJoined_100 (lv_at hl 0 rfl) ?_
            refine lv_aload_n X.1 X.2.1 dX1_buildJoined_102 rfl (lv_at hl 4 rfl) ?_
            refine (c_sh_B g a k n B T).callV (rest := [.int (nI i)]) X dX1_buildJoined_103 q360 tX6_blockTotal hK (hP.sub [3] rfl) 0 6 rfl rfl rfl hl ⟨⟨Nat.le_of_ble_eq_true rfl, Nat.le_of_ble_eq_true rfl⟩, Nat.le_of_ble_eq_true rfl, Nat.le_of_ble_eq_true rfl⟩ rfl rfl (Nat.le_of_ble_eq_true rfl) ?_
            refine z_icmp_ge (tgt := 146) X dX1_buildJoined_106 (by decide) (nI_toInt (by omega)) (nI_toInt (by omega)) (fun c106 => ?_) (fun c106 => ?_)
            · exfalso; omega
            · refine lv_aload_n X.1 X.2.1 dX1_buildJoined_109 rfl (lv_at hl 6 rfl) ?_
              refine lv_aload_n X.1 X.2.1 dX1_buildJoined_110 rfl (lv_at hl 4 rfl) ?_
              refine lv_iload X.1 X.2.1 dX1_buildJoined_111 (lv_at hl 1 rfl) ?_
              refine (c_first g a k n B T b (by assumption) (by omega)).callV (rest := [.ref w]) X dX1_buildJoined_113 q410 tX6_firstLetter hK (hP.sub [3] rfl) 0 6 rfl rfl rfl hl ⟨⟨Nat.le_of_ble_eq_true rfl, Nat.le_of_ble_eq_true rfl⟩, Nat.le_of_ble_eq_true rfl, Nat.le_of_ble_eq_true rfl⟩ rfl rfl (Nat.le_of_ble_eq_true rfl) ?_
              refine (c_Word_add g w wb s1 f1 (b / T) (by omega) (by assumption)).callV (rest := []) (wr := [(o, .inr (1, [.ref fo, .ref sb, .ref cb])), (sb, .inl (g.2.1, 256, .inl su1)), (cb, .inl (g.2.1, 256, .inl cy1)), (a, .inr (6, [.int (nI k), .int (nI n), .int (nI B), .int (nI T)]))]) X dX1_buildJoined_116 q378 tX10_add hK hP hD hS hA [4, 5] [0, 1, 2, 3] (by decide) rfl rfl (by decide) (by decide) 0 9 rfl rfl rfl hl ⟨⟨Nat.le_of_ble_eq_true rfl, Nat.le_of_ble_eq_true rfl⟩, Nat.le_of_ble_eq_true rfl, Nat.le_of_ble_eq_true rfl⟩ rfl rfl (Nat.le_of_ble_eq_true rfl) (fun u116 H locs hw116 hP hD hS => ?_)
              obtain ⟨f1_116, rfl⟩ : ∃ z, z = u116 := ⟨_, rfl⟩
              have hP : PP g [(o, .inr (1, [.ref fo, .ref sb, .ref cb])), (sb, .inl (g.2.1, 256, .inl su1)), (cb, .inl (g.2.1, 256, .inl cy1)), (a, .inr (6, [.int (nI k), .int (nI n), .int (nI B), .int (nI T)])), (w, .inr (9, [.ref wb, .int (nI ((s1 ++ [(b / T)]).length))])), (wb, .inl (g.2.1, 256, .inl f1_116))] H := hP
              have hD : va_D A [(o, .inr (1, [.ref fo, .ref sb, .ref cb])), (sb, .inl (g.2.1, 256, .inl su1)), (cb, .inl (g.2.1, 256, .inl cy1)), (a, .inr (6, [.int (nI k), .int (nI n), .int (nI B), .int (nI T)])), (w, .inr (9, [.ref wb, .int (nI ((s1 ++ [(b / T)]).length))])), (wb, .inl (g.2.1, 256, .inl f1_116))] := hD
              try dsimp only at hw116
              refine lv_iload X.1 X.2.1 dX1_buildJoined_119 (lv_at hl 1 rfl) ?_
              refine (c_slot g b (by omega)).callS (rest := []) X dX1_buildJoined_121 q438 tX1_isSlot hK (hP.sub [] rfl) hl ⟨⟨Nat.le_of_ble_eq_true rfl, Nat.le_of_ble_eq_true rfl⟩, Nat.le_of_ble_eq_true rfl, Nat.le_of_ble_eq_true rfl⟩ rfl rfl (Nat.le_of_ble_eq_true rfl) ?_
              refine b_if_eq (tgt := 137) X dX1_buildJoined_124 (by decide) (fun c124 => ?_) (fun c124 => ?_)
              · exfalso; cases c124
              · refine lv_aload_n X.1 X.2.1 dX1_buildJoined_127 rfl (lv_at hl 3 rfl) ?_
                refine va_get (D := g.1) (ci := 1) (v := .ref sb) (C := RX1) (T := TX1) (N := 3) X.1 X.2.1 X.2.2.2.2 iwX1 X.2.2.2.1 hK hP 0 rfl rfl 1 (by decide) (X.2.2.2.2 _ q144) (fun _ h9 => h9) rfl dX1_buildJoined_128 ?_
                refine lv_iload X.1 X.2.1 dX1_buildJoined_131 (lv_at hl 1 rfl) ?_
                refine n_iald X hK hP 1 0 rfl rfl (by omega) (by decide) dX1_buildJoined_133 ?_
                have hsb := hsi b hb
                refine tp_i (y := (nI (st.1 b))) (hsu b hb) ?_
                refine lv_goto (tgt := 138) X.1 X.2.1 dX1_buildJoined_134 (by decide) ?_
                refine lv_istore (lv' := [(5, .int (nI (st.1 b))), (6, .int (nI i)), (4, .int (nI T)), (0, .ref o), (1, .ref a), (2, .int (nI p)), (3, .ref w)]) X.1 X.2.1 dX1_buildJoined_138 hl (by decide) rfl (fun ls hl => ?_)
                refine lv_iinc (v := (nI (i + 1))) (lv' := [(6, .int (nI (i + 1))), (5, .int (nI (st.1 b))), (4, .int (nI T)), (0, .ref o), (1, .ref a), (2, .int (nI p)), (3, .ref w)]) X.1 X.2.1 dX1_buildJoined_140 hl (k := 1) rfl (nI_inc _) (by decide) rfl (fun ls hl => ?_)
                refine lv_goto (tgt := 100) X.1 X.2.1 dX1_buildJoined_143 (by decide) ?_
                exact ih100 (st.1 b) (i + 1) (s1 ++ [b / T]) f1_116 (by omega) (hsb) (by rw [outL] at hq; simpa using hq) (hw116) (by simp; omega) _ _ (hP.sub [0, 1, 2, 3, 4, 5] rfl) (hD.sub [0, 1, 2, 3, 4, 5] (by decide) rfl) hS ls (lv_sub hl [0, 1, 2, 3, 4, 5, 6] rfl)
        exact L100 B 0 0 s f (by omega) (by omega) (by rw [e8]; rfl) (hf) (by omega) _ _ (hP.sub [0, 1, 2, 3, 4, 5] rfl) (hD.sub [0, 1, 2, 3, 4, 5] (by decide) rfl) hS ls (lv_sub hl [0, 1, 2, 3, 4, 5, 6] rfl)
      · exfalso; omega
    | succ r ih14 =>
      intro i st su1 cy1 h1 hj hsu hcy hsi hla H locs hP hD hS ls hl
      refine lv_iload X.1 X.2.1 dX1_buildJoined_14 (lv_at hl 0 rfl) ?_
      refine lv_iload X.1 X.2.1 dX1_buildJoined_16 (lv_at hl 1 rfl) ?_
      refine z_icmp_ge (tgt := 94) X dX1_buildJoined_18 (by decide) (nI_toInt (by omega)) (nI_toInt (by omega)) (fun c18 => ?_) (fun c18 => ?_)
      · exfalso; omega
      · refine lv_iload_n X.1 X.2.1 dX1_buildJoined_21 rfl (lv_at hl 4 rfl) ?_
        refine lv_iload X.1 X.2.1 dX1_buildJoined_22 (lv_at hl 0 rfl) ?_
        refine n_add X dX1_buildJoined_24 ?_
        refine lv_iload X.1 X.2.1 dX1_buildJoined_25 (lv_at hl 1 rfl) ?_
        refine z_icmp_ge (tgt := 37) X dX1_buildJoined_27 (by decide) (nI_toInt (by omega)) (nI_toInt (by omega)) (fun c27 => ?_) (fun c27 => ?_)
        · refine lv_iload_n X.1 X.2.1 dX1_buildJoined_37 rfl (lv_at hl 4 rfl) ?_
          refine lv_iload X.1 X.2.1 dX1_buildJoined_38 (lv_at hl 0 rfl) ?_
          refine n_add X dX1_buildJoined_40 ?_
          refine lv_iload X.1 X.2.1 dX1_buildJoined_41 (lv_at hl 1 rfl) ?_
          refine n_sub X dX1_buildJoined_43 (by omega) ?_
          refine tp_i (y := (nI ((p + i) % T))) (by congr 1; exact md_wrap hp (by omega) (by omega)) ?_
          refine lv_istore (lv' := [(6, .int (nI ((p + i) % T))), (5, .int (nI i)), (4, .int (nI T)), (0, .ref o), (1, .ref a), (2, .int (nI p)), (3, .ref w)]) X.1 X.2.1 dX1_buildJoined_44 hl (by decide) rfl (fun ls hl => ?_)
          have hut := md_lt hc (p + i)
          refine lv_iconst (v := (nI 0)) X.1 X.2.1 dX1_buildJoined_46 (by decide) ?_
          refine lv_istore (lv' := [(7, .int (nI 0)), (6, .int (nI ((p + i) % T))), (5, .int (nI i)), (4, .int (nI T)), (0, .ref o), (1, .ref a), (2, .int (nI p)), (3, .ref w)]) X.1 X.2.1 dX1_buildJoined_47 hl (by decide) rfl (fun ls hl => ?_)
          have L49 : ∀ (v : Nat) (x : Nat) (st1 : (Nat → Nat) × (Nat → Nat)) (su2 : Nat → Int32) (cy2 : Nat → Int32) (h2 : x + v + 1 = k) (hj1 : jOut k T p r (i + 1) (jIn T ((p + i) % T) v x st1) = joS k T n p) (hsu1 : rb B su2 st1.1) (hcy1 : rb B cy2 st1.2) (hsi1 : ∀ i, i < B → st1.1 i < B) (hla1 : ∀ i, i < B → st1.2 i < B) (H : Heap) (locs : List Loc) (hP : PP g [(o, .inr (1, [.ref fo, .ref sb, .ref cb])), (sb, .inl (g.2.1, 256, .inl su2)), (cb, .inl (g.2.1, 256, .inl cy2)), (a, .inr (6, [.int (nI k), .int (nI n), .int (nI B), .int (nI T)])), (w, .inr (9, [.ref wb, .int (nI s.length)])), (wb, .inl (g.2.1, 256, .inl f))] H) (hD : va_D A [(o, .inr (1, [.ref fo, .ref sb, .ref cb])), (sb, .inl (g.2.1, 256, .inl su2)), (cb, .inl (g.2.1, 256, .inl cy2)), (a, .inr (6, [.int (nI k), .int (nI n), .int (nI B), .int (nI T)])), (w, .inr (9, [.ref wb, .int (nI s.length)])), (wb, .inl (g.2.1, 256, .inl f))]) (hS : va_S A S_.heap H locs) (ls : Array Slot) (hl : lv_has ls 8 [(7, .int (nI x)), (6, .int (nI ((p + i) % T))), (5, .int (nI i)), (4, .int (nI T)), (0, .ref o), (1, .ref a), (2, .int (nI p)), (3, .ref w)]), W p_ l_ e_ { frames := 3, cells := 0, slots := 0, locals := 68 } S_ m_ args below meth co H locs 0 0 (MQ below (va_Qv (S := (Nat → Int32) × (Nat → Int32) × (Nat → Int32)) (fun u => rep u.2.2 (s ++ joL k T n B p)) (MuB g A (fun u => [(o, .inr (1, [.ref fo, .ref sb, .ref cb])), (sb, .inl (g.2.1, 256, .inl u.1)), (cb, .inl (g.2.1, 256, .inl u.2.1)), (a, .inr (6, [.int (nI k), .int (nI n), .int (nI B), .int (nI T)])), (w, .inr (9, [.ref wb, .int (nI ((s ++ joL k T n B p).length))])), (wb, .inl (g.2.1, 256, .inl u.2.2))])) A) args S_ 0 0 A) (F0 m_ 49 ls []) := by
            intro v
            induction v with
            | zero =>
              intro x st1 su2 cy2 h2 hj1 hsu1 hcy1 hsi1 hla1 H locs hP hD hS ls hl
              refine lv_iload X.1 X.2.1 dX1_buildJoined_49 (lv_at hl 0 rfl) ?_
              refine lv_iconst (v := (nI 1)) X.1 X.2.1 dX1_buildJoined_51 (by decide) ?_
              refine n_add X dX1_buildJoined_52 ?_
              refine lv_aload_n X.1 X.2.1 dX1_buildJoined_53 rfl (lv_at hl 5 rfl) ?_
              refine (c_sh_k g a k n B T).callV (rest := [.int (nI (x + 1))]) X dX1_buildJoined_54 q365 tX6_letterTotal hK (hP.sub [3] rfl) 0 6 rfl rfl rfl hl ⟨⟨Nat.le_of_ble_eq_true rfl, Nat.le_of_ble_eq_true rfl⟩, Nat.le_of_ble_eq_true rfl, Nat.le_of_ble_eq_true rfl⟩ rfl rfl (Nat.le_of_ble_eq_true rfl) ?_
              refine z_icmp_ge (tgt := 88) X dX1_buildJoined_57 (by decide) (nI_toInt (by omega)) (nI_toInt (by omega)) (fun c57 => ?_) (fun c57 => ?_)
              · refine lv_iinc (v := (nI (i + 1))) (lv' := [(5, .int (nI (i + 1))), (7, .int (nI x)), (6, .int (nI ((p + i) % T))), (4, .int (nI T)), (0, .ref o), (1, .ref a), (2, .int (nI p)), (3, .ref w)]) X.1 X.2.1 dX1_buildJoined_88 hl (k := 2) rfl (nI_inc _) (by decide) rfl (fun ls hl => ?_)
                refine lv_goto (tgt := 14) X.1 X.2.1 dX1_buildJoined_91 (by decide) ?_
                exact ih14 (i + 1) st1 su2 cy2 (by omega) (hj1) (hsu1) (hcy1) (hsi1) (hla1) _ _ (hP.sub [0, 1, 2, 3, 4, 5] rfl) (hD.sub [0, 1, 2, 3, 4, 5] (by decide) rfl) hS ls (lv_sub hl [0, 3, 4, 5, 6, 7] rfl)
              · exfalso; omega
            | succ v ih49 =>
              intro x st1 su2 cy2 h2 hj1 hsu1 hcy1 hsi1 hla1 H locs hP hD hS ls hl
              refine lv_iload X.1 X.2.1 dX1_buildJoined_49 (lv_at hl 0 rfl) ?_
              refine lv_iconst (v := (nI 1)) X.1 X.2.1 dX1_buildJoined_51 (by decide) ?_
              refine n_add X dX1_buildJoined_52 ?_
              refine lv_aload_n X.1 X.2.1 dX1_buildJoined_53 rfl (lv_at hl 5 rfl) ?_
              refine (c_sh_k g a k n B T).callV (rest := [.int (nI (x + 1))]) X dX1_buildJoined_54 q365 tX6_letterTotal hK (hP.sub [3] rfl) 0 6 rfl rfl rfl hl ⟨⟨Nat.le_of_ble_eq_true rfl, Nat.le_of_ble_eq_true rfl⟩, Nat.le_of_ble_eq_true rfl, Nat.le_of_ble_eq_true rfl⟩ rfl rfl (Nat.le_of_ble_eq_true rfl) ?_
              refine z_icmp_ge (tgt := 88) X dX1_buildJoined_57 (by decide) (nI_toInt (by omega)) (nI_toInt (by omega)) (fun c57 => ?_) (fun c57 => ?_)
              · exfalso; omega
              · refine lv_aload_n X.1 X.2.1 dX1_buildJoined_60 rfl (lv_at hl 4 rfl) ?_
                refine lv_aload_n X.1 X.2.1 dX1_buildJoined_61 rfl (lv_at hl 5 rfl) ?_
                refine lv_iload X.1 X.2.1 dX1_buildJoined_62 (lv_at hl 0 rfl) ?_
                refine lv_iload X.1 X.2.1 dX1_buildJoined_64 (lv_at hl 1 rfl) ?_
                refine (c_headed g a k n B T x ((p + i) % T)).callV (rest := [.ref o]) X dX1_buildJoined_66 q449 tX6_headed hK (hP.sub [3] rfl) 0 6 rfl rfl rfl hl ⟨⟨Nat.le_of_ble_eq_true rfl, Nat.le_of_ble_eq_true rfl⟩, Nat.le_of_ble_eq_true rfl, Nat.le_of_ble_eq_true rfl⟩ rfl rfl (Nat.le_of_ble_eq_true rfl) ?_
                refine lv_aload_n X.1 X.2.1 dX1_buildJoined_69 rfl (lv_at hl 5 rfl) ?_
                refine lv_iload X.1 X.2.1 dX1_buildJoined_70 (lv_at hl 0 rfl) ?_
                refine lv_iconst (v := (nI 1)) X.1 X.2.1 dX1_buildJoined_72 (by decide) ?_
                refine n_add X dX1_buildJoined_73 ?_
                refine lv_iload X.1 X.2.1 dX1_buildJoined_74 (lv_at hl 1 rfl) ?_
                refine (c_headed g a k n B T (x + 1) ((p + i) % T)).callV (rest := [.int (nI (x * T + ((p + i) % T))), .ref o]) X dX1_buildJoined_76 q449 tX6_headed hK (hP.sub [3] rfl) 0 6 rfl rfl rfl hl ⟨⟨Nat.le_of_ble_eq_true rfl, Nat.le_of_ble_eq_true rfl⟩, Nat.le_of_ble_eq_true rfl, Nat.le_of_ble_eq_true rfl⟩ rfl rfl (Nat.le_of_ble_eq_true rfl) ?_
                have hx1 := hd_lt hc (x := x) (u := (p + i) % T) (by omega) hut
                have hx2 := hd_lt hc (x := x + 1) (u := (p + i) % T) (by omega) hut
                refine (c_bu_join g o fo sb cb su2 cy2 B st1.1 st1.2 (x * T + ((p + i) % T)) ((x + 1) * T + ((p + i) % T)) (by omega) (hsu1) (hcy1) (hla1) (hsi1) (by omega) (by omega)).callV (rest := []) (wr := [(a, .inr (6, [.int (nI k), .int (nI n), .int (nI B), .int (nI T)])), (w, .inr (9, [.ref wb, .int (nI s.length)])), (wb, .inl (g.2.1, 256, .inl f))]) X dX1_buildJoined_79 q453 tX1_join hK hP hD hS hA [0, 1, 2] [3, 4, 5] (by decide) rfl rfl (by decide) (by decide) 0 1 rfl rfl rfl hl ⟨⟨Nat.le_of_ble_eq_true rfl, Nat.le_of_ble_eq_true rfl⟩, Nat.le_of_ble_eq_true rfl, Nat.le_of_ble_eq_true rfl⟩ rfl rfl (Nat.le_of_ble_eq_true rfl) (fun u79 H locs hw79 hP hD hS => ?_)
                obtain ⟨su1_79, cy1_79⟩ := u79
                have hP : PP g [(a, .inr (6, [.int (nI k), .int (nI n), .int (nI B), .int (nI T)])), (w, .inr (9, [.ref wb, .int (nI s.length)])), (wb, .inl (g.2.1, 256, .inl f)), (o, .inr (1, [.ref fo, .ref sb, .ref cb])), (sb, .inl (g.2.1, 256, .inl su1_79)), (cb, .inl (g.2.1, 256, .inl cy1_79))] H := hP
                have hD : va_D A [(a, .inr (6, [.int (nI k), .int (nI n), .int (nI B), .int (nI T)])), (w, .inr (9, [.ref wb, .int (nI s.length)])), (wb, .inl (g.2.1, 256, .inl f)), (o, .inr (1, [.ref fo, .ref sb, .ref cb])), (sb, .inl (g.2.1, 256, .inl su1_79)), (cb, .inl (g.2.1, 256, .inl cy1_79))] := hD
                try dsimp only at hw79
                refine lv_iinc (v := (nI (x + 1))) (lv' := [(7, .int (nI (x + 1))), (6, .int (nI ((p + i) % T))), (5, .int (nI i)), (4, .int (nI T)), (0, .ref o), (1, .ref a), (2, .int (nI p)), (3, .ref w)]) X.1 X.2.1 dX1_buildJoined_82 hl (k := 0) rfl (nI_inc _) (by decide) rfl (fun ls hl => ?_)
                refine lv_goto (tgt := 49) X.1 X.2.1 dX1_buildJoined_85 (by decide) ?_
                exact ih49 (x + 1) (jC st1 (x * T + (p + i) % T) ((x + 1) * T + (p + i) % T)) su1_79 cy1_79 (by omega) (by rw [jIn] at hj1; exact hj1) (hw79.1) (hw79.2) (jC_lt hsi1 hx1 hx2) (jC_lt2 hla1 hx1) _ _ (hP.sub [3, 4, 5, 0, 1, 2] rfl) (hD.sub [3, 4, 5, 0, 1, 2] (by decide) rfl) hS ls (lv_sub hl [0, 1, 2, 3, 4, 5, 6, 7] rfl)
          exact L49 (k - 1) 0 st su1 cy1 (by omega) (by rw [jOut] at hj; exact hj) (hsu) (hcy) (hsi) (hla) _ _ (hP.sub [0, 1, 2, 3, 4, 5] rfl) (hD.sub [0, 1, 2, 3, 4, 5] (by decide) rfl) hS ls (lv_sub hl [0, 1, 2, 3, 4, 5, 6, 7] rfl)
        · refine lv_iload_n X.1 X.2.1 dX1_buildJoined_30 rfl (lv_at hl 4 rfl) ?_
          refine lv_iload X.1 X.2.1 dX1_buildJoined_31 (lv_at hl 0 rfl) ?_
          refine n_add X dX1_buildJoined_33 ?_
          refine lv_goto (tgt := 44) X.1 X.2.1 dX1_buildJoined_34 (by decide) ?_
          refine tp_i (y := (nI ((p + i) % T))) (by congr 1; exact md_wrap hp (by omega) (by omega)) ?_
          refine lv_istore (lv' := [(6, .int (nI ((p + i) % T))), (5, .int (nI i)), (4, .int (nI T)), (0, .ref o), (1, .ref a), (2, .int (nI p)), (3, .ref w)]) X.1 X.2.1 dX1_buildJoined_44 hl (by decide) rfl (fun ls hl => ?_)
          have hut := md_lt hc (p + i)
          refine lv_iconst (v := (nI 0)) X.1 X.2.1 dX1_buildJoined_46 (by decide) ?_
          refine lv_istore (lv' := [(7, .int (nI 0)), (6, .int (nI ((p + i) % T))), (5, .int (nI i)), (4, .int (nI T)), (0, .ref o), (1, .ref a), (2, .int (nI p)), (3, .ref w)]) X.1 X.2.1 dX1_buildJoined_47 hl (by decide) rfl (fun ls hl => ?_)
          have L49 : ∀ (v : Nat) (x : Nat) (st1 : (Nat → Nat) × (Nat → Nat)) (su2 : Nat → Int32) (cy2 : Nat → Int32) (h2 : x + v + 1 = k) (hj1 : jOut k T p r (i + 1) (jIn T ((p + i) % T) v x st1) = joS k T n p) (hsu1 : rb B su2 st1.1) (hcy1 : rb B cy2 st1.2) (hsi1 : ∀ i, i < B → st1.1 i < B) (hla1 : ∀ i, i < B → st1.2 i < B) (H : Heap) (locs : List Loc) (hP : PP g [(o, .inr (1, [.ref fo, .ref sb, .ref cb])), (sb, .inl (g.2.1, 256, .inl su2)), (cb, .inl (g.2.1, 256, .inl cy2)), (a, .inr (6, [.int (nI k), .int (nI n), .int (nI B), .int (nI T)])), (w, .inr (9, [.ref wb, .int (nI s.length)])), (wb, .inl (g.2.1, 256, .inl f))] H) (hD : va_D A [(o, .inr (1, [.ref fo, .ref sb, .ref cb])), (sb, .inl (g.2.1, 256, .inl su2)), (cb, .inl (g.2.1, 256, .inl cy2)), (a, .inr (6, [.int (nI k), .int (nI n), .int (nI B), .int (nI T)])), (w, .inr (9, [.ref wb, .int (nI s.length)])), (wb, .inl (g.2.1, 256, .inl f))]) (hS : va_S A S_.heap H locs) (ls : Array Slot) (hl : lv_has ls 8 [(7, .int (nI x)), (6, .int (nI ((p + i) % T))), (5, .int (nI i)), (4, .int (nI T)), (0, .ref o), (1, .ref a), (2, .int (nI p)), (3, .ref w)]), W p_ l_ e_ { frames := 3, cells := 0, slots := 0, locals := 68 } S_ m_ args below meth co H locs 0 0 (MQ below (va_Qv (S := (Nat → Int32) × (Nat → Int32) × (Nat → Int32)) (fun u => rep u.2.2 (s ++ joL k T n B p)) (MuB g A (fun u => [(o, .inr (1, [.ref fo, .ref sb, .ref cb])), (sb, .inl (g.2.1, 256, .inl u.1)), (cb, .inl (g.2.1, 256, .inl u.2.1)), (a, .inr (6, [.int (nI k), .int (nI n), .int (nI B), .int (nI T)])), (w, .inr (9, [.ref wb, .int (nI ((s ++ joL k T n B p).length))])), (wb, .inl (g.2.1, 256, .inl u.2.2))])) A) args S_ 0 0 A) (F0 m_ 49 ls []) := by
            intro v
            induction v with
            | zero =>
              intro x st1 su2 cy2 h2 hj1 hsu1 hcy1 hsi1 hla1 H locs hP hD hS ls hl
              refine lv_iload X.1 X.2.1 dX1_buildJoined_49 (lv_at hl 0 rfl) ?_
              refine lv_iconst (v := (nI 1)) X.1 X.2.1 dX1_buildJoined_51 (by decide) ?_
              refine n_add X dX1_buildJoined_52 ?_
              refine lv_aload_n X.1 X.2.1 dX1_buildJoined_53 rfl (lv_at hl 5 rfl) ?_
              refine (c_sh_k g a k n B T).callV (rest := [.int (nI (x + 1))]) X dX1_buildJoined_54 q365 tX6_letterTotal hK (hP.sub [3] rfl) 0 6 rfl rfl rfl hl ⟨⟨Nat.le_of_ble_eq_true rfl, Nat.le_of_ble_eq_true rfl⟩, Nat.le_of_ble_eq_true rfl, Nat.le_of_ble_eq_true rfl⟩ rfl rfl (Nat.le_of_ble_eq_true rfl) ?_
              refine z_icmp_ge (tgt := 88) X dX1_buildJoined_57 (by decide) (nI_toInt (by omega)) (nI_toInt (by omega)) (fun c57 => ?_) (fun c57 => ?_)
              · refine lv_iinc (v := (nI (i + 1))) (lv' := [(5, .int (nI (i + 1))), (7, .int (nI x)), (6, .int (nI ((p + i) % T))), (4, .int (nI T)), (0, .ref o), (1, .ref a), (2, .int (nI p)), (3, .ref w)]) X.1 X.2.1 dX1_buildJoined_88 hl (k := 2) rfl (nI_inc _) (by decide) rfl (fun ls hl => ?_)
                refine lv_goto (tgt := 14) X.1 X.2.1 dX1_buildJoined_91 (by decide) ?_
                exact ih14 (i + 1) st1 su2 cy2 (by omega) (hj1) (hsu1) (hcy1) (hsi1) (hla1) _ _ (hP.sub [0, 1, 2, 3, 4, 5] rfl) (hD.sub [0, 1, 2, 3, 4, 5] (by decide) rfl) hS ls (lv_sub hl [0, 3, 4, 5, 6, 7] rfl)
              · exfalso; omega
            | succ v ih49 =>
              intro x st1 su2 cy2 h2 hj1 hsu1 hcy1 hsi1 hla1 H locs hP hD hS ls hl
              refine lv_iload X.1 X.2.1 dX1_buildJoined_49 (lv_at hl 0 rfl) ?_
              refine lv_iconst (v := (nI 1)) X.1 X.2.1 dX1_buildJoined_51 (by decide) ?_
              refine n_add X dX1_buildJoined_52 ?_
              refine lv_aload_n X.1 X.2.1 dX1_buildJoined_53 rfl (lv_at hl 5 rfl) ?_
              refine (c_sh_k g a k n B T).callV (rest := [.int (nI (x + 1))]) X dX1_buildJoined_54 q365 tX6_letterTotal hK (hP.sub [3] rfl) 0 6 rfl rfl rfl hl ⟨⟨Nat.le_of_ble_eq_true rfl, Nat.le_of_ble_eq_true rfl⟩, Nat.le_of_ble_eq_true rfl, Nat.le_of_ble_eq_true rfl⟩ rfl rfl (Nat.le_of_ble_eq_true rfl) ?_
              refine z_icmp_ge (tgt := 88) X dX1_buildJoined_57 (by decide) (nI_toInt (by omega)) (nI_toInt (by omega)) (fun c57 => ?_) (fun c57 => ?_)
              · exfalso; omega
              · refine lv_aload_n X.1 X.2.1 dX1_buildJoined_60 rfl (lv_at hl 4 rfl) ?_
                refine lv_aload_n X.1 X.2.1 dX1_buildJoined_61 rfl (lv_at hl 5 rfl) ?_
                refine lv_iload X.1 X.2.1 dX1_buildJoined_62 (lv_at hl 0 rfl) ?_
                refine lv_iload X.1 X.2.1 dX1_buildJoined_64 (lv_at hl 1 rfl) ?_
                refine (c_headed g a k n B T x ((p + i) % T)).callV (rest := [.ref o]) X dX1_buildJoined_66 q449 tX6_headed hK (hP.sub [3] rfl) 0 6 rfl rfl rfl hl ⟨⟨Nat.le_of_ble_eq_true rfl, Nat.le_of_ble_eq_true rfl⟩, Nat.le_of_ble_eq_true rfl, Nat.le_of_ble_eq_true rfl⟩ rfl rfl (Nat.le_of_ble_eq_true rfl) ?_
                refine lv_aload_n X.1 X.2.1 dX1_buildJoined_69 rfl (lv_at hl 5 rfl) ?_
                refine lv_iload X.1 X.2.1 dX1_buildJoined_70 (lv_at hl 0 rfl) ?_
                refine lv_iconst (v := (nI 1)) X.1 X.2.1 dX1_buildJoined_72 (by decide) ?_
                refine n_add X dX1_buildJoined_73 ?_
                refine lv_iload X.1 X.2.1 dX1_buildJoined_74 (lv_at hl 1 rfl) ?_
                refine (c_headed g a k n B T (x + 1) ((p + i) % T)).callV (rest := [.int (nI (x * T + ((p + i) % T))), .ref o]) X dX1_buildJoined_76 q449 tX6_headed hK (hP.sub [3] rfl) 0 6 rfl rfl rfl hl ⟨⟨Nat.le_of_ble_eq_true rfl, Nat.le_of_ble_eq_true rfl⟩, Nat.le_of_ble_eq_true rfl, Nat.le_of_ble_eq_true rfl⟩ rfl rfl (Nat.le_of_ble_eq_true rfl) ?_
                have hx1 := hd_lt hc (x := x) (u := (p + i) % T) (by omega) hut
                have hx2 := hd_lt hc (x := x + 1) (u := (p + i) % T) (by omega) hut
                refine (c_bu_join g o fo sb cb su2 cy2 B st1.1 st1.2 (x * T + ((p + i) % T)) ((x + 1) * T + ((p + i) % T)) (by omega) (hsu1) (hcy1) (hla1) (hsi1) (by omega) (by omega)).callV (rest := []) (wr := [(a, .inr (6, [.int (nI k), .int (nI n), .int (nI B), .int (nI T)])), (w, .inr (9, [.ref wb, .int (nI s.length)])), (wb, .inl (g.2.1, 256, .inl f))]) X dX1_buildJoined_79 q453 tX1_join hK hP hD hS hA [0, 1, 2] [3, 4, 5] (by decide) rfl rfl (by decide) (by decide) 0 1 rfl rfl rfl hl ⟨⟨Nat.le_of_ble_eq_true rfl, Nat.le_of_ble_eq_true rfl⟩, Nat.le_of_ble_eq_true rfl, Nat.le_of_ble_eq_true rfl⟩ rfl rfl (Nat.le_of_ble_eq_true rfl) (fun u79 H locs hw79 hP hD hS => ?_)
                obtain ⟨su1_79, cy1_79⟩ := u79
                have hP : PP g [(a, .inr (6, [.int (nI k), .int (nI n), .int (nI B), .int (nI T)])), (w, .inr (9, [.ref wb, .int (nI s.length)])), (wb, .inl (g.2.1, 256, .inl f)), (o, .inr (1, [.ref fo, .ref sb, .ref cb])), (sb, .inl (g.2.1, 256, .inl su1_79)), (cb, .inl (g.2.1, 256, .inl cy1_79))] H := hP
                have hD : va_D A [(a, .inr (6, [.int (nI k), .int (nI n), .int (nI B), .int (nI T)])), (w, .inr (9, [.ref wb, .int (nI s.length)])), (wb, .inl (g.2.1, 256, .inl f)), (o, .inr (1, [.ref fo, .ref sb, .ref cb])), (sb, .inl (g.2.1, 256, .inl su1_79)), (cb, .inl (g.2.1, 256, .inl cy1_79))] := hD
                try dsimp only at hw79
                refine lv_iinc (v := (nI (x + 1))) (lv' := [(7, .int (nI (x + 1))), (6, .int (nI ((p + i) % T))), (5, .int (nI i)), (4, .int (nI T)), (0, .ref o), (1, .ref a), (2, .int (nI p)), (3, .ref w)]) X.1 X.2.1 dX1_buildJoined_82 hl (k := 0) rfl (nI_inc _) (by decide) rfl (fun ls hl => ?_)
                refine lv_goto (tgt := 49) X.1 X.2.1 dX1_buildJoined_85 (by decide) ?_
                exact ih49 (x + 1) (jC st1 (x * T + (p + i) % T) ((x + 1) * T + (p + i) % T)) su1_79 cy1_79 (by omega) (by rw [jIn] at hj1; exact hj1) (hw79.1) (hw79.2) (jC_lt hsi1 hx1 hx2) (jC_lt2 hla1 hx1) _ _ (hP.sub [3, 4, 5, 0, 1, 2] rfl) (hD.sub [3, 4, 5, 0, 1, 2] (by decide) rfl) hS ls (lv_sub hl [0, 1, 2, 3, 4, 5, 6, 7] rfl)
          exact L49 (k - 1) 0 st su1 cy1 (by omega) (by rw [jOut] at hj; exact hj) (hsu) (hcy) (hsi) (hla) _ _ (hP.sub [0, 1, 2, 3, 4, 5] rfl) (hD.sub [0, 1, 2, 3, 4, 5] (by decide) rfl) hS ls (lv_sub hl [0, 1, 2, 3, 4, 5, 6, 7] rfl)
  exact L14 T 0 (turnN k T, lrN k T n) su1_2 cy1_2 (by omega) (rfl) (hw2.1) (hw2.2) (fun i hi => turn_lt hc hi) (fun i hi => lr_lt hi) _ _ (hP.sub [2, 3, 4, 5, 0, 1] rfl) (hD.sub [2, 3, 4, 5, 0, 1] (by decide) rfl) hS ls (lv_sub hl [0, 1, 2, 3, 4, 5] rfl)
