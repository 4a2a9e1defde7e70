set_option maxHeartbeats 4000000 in
set_option maxRecDepth 100000 in
theorem c_sh_k (g : G5) (a : Nat) (k : Nat) (n : Nat) (B : Nat) (T : Nat) : PuI yX6_letterTotal cX6_letterTotal 1 (some .int) 0 0 g [.ref a] [(a, .inr (6, [.int (nI k), .int (nI n), .int (nI B), .int (nI T)]))] (nI k) := by
  refine PuI.of (by decide +kernel) (Nat.le_of_ble_eq_true rfl) ?_
  intro p_ l_ e_ S_ m_ args below meth co X hr hlk hP hK ls hl
  have X : CallFix p_ m_ co cX6_letterTotal 1 S_ args lw_all RX6 := X
  have hl : lv_has ls 1 [(0, .ref a)] := hl
  refine lv_aload_n X.1 X.2.1 dX6_letterTotal_0 rfl (lv_at hl 0 rfl) ?_
  refine va_get (D := g.1) (ci := 6) (v := .int (nI k)) (C := RX6) (T := TX6) (N := 4) X.1 X.2.1 X.2.2.2.2 iwX6 X.2.2.2.1 hK hP 0 rfl rfl 0 (by decide) (X.2.2.2.2 _ q87) (fun _ h9 => h9) rfl dX6_letterTotal_1 ?_
  exact PuI.ret X hr hlk dX6_letterTotal_4 (nI_nar _) (rfl)

set_option maxHeartbeats 4000000 in
set_option maxRecDepth 100000 in
theorem c_sh_n (g : G5) (a : Nat) (k : Nat) (n : Nat) (B : Nat) (T : Nat) : PuI yX6_blockSize cX6_blockSize 1 (some .int) 0 0 g [.ref a] [(a, .inr (6, [.int (nI k), .int (nI n), .int (nI B), .int (nI T)]))] (nI n) := by
  refine PuI.of (by decide +kernel) (Nat.le_of_ble_eq_true rfl) ?_
  intro p_ l_ e_ S_ m_ args below meth co X hr hlk hP hK ls hl
  have X : CallFix p_ m_ co cX6_blockSize 1 S_ args lw_all RX6 := X
  have hl : lv_has ls 1 [(0, .ref a)] := hl
  refine lv_aload_n X.1 X.2.1 dX6_blockSize_0 rfl (lv_at hl 0 rfl) ?_
  refine va_get (D := g.1) (ci := 6) (v := .int (nI n)) (C := RX6) (T := TX6) (N := 4) X.1 X.2.1 X.2.2.2.2 iwX6 X.2.2.2.1 hK hP 0 rfl rfl 1 (by decide) (X.2.2.2.2 _ q88) (fun _ h9 => h9) rfl dX6_blockSize_1 ?_
  exact PuI.ret X hr hlk dX6_blockSize_4 (nI_nar _) (rfl)

set_option maxHeartbeats 4000000 in
set_option maxRecDepth 100000 in
theorem c_sh_B (g : G5) (a : Nat) (k : Nat) (n : Nat) (B : Nat) (T : Nat) : PuI yX6_blockTotal cX6_blockTotal 1 (some .int) 0 0 g [.ref a] [(a, .inr (6, [.int (nI k), .int (nI n), .int (nI B), .int (nI T)]))] (nI B) := by
  refine PuI.of (by decide +kernel) (Nat.le_of_ble_eq_true rfl) ?_
  intro p_ l_ e_ S_ m_ args below meth co X hr hlk hP hK ls hl
  have X : CallFix p_ m_ co cX6_blockTotal 1 S_ args lw_all RX6 := X
  have hl : lv_has ls 1 [(0, .ref a)] := hl
  refine lv_aload_n X.1 X.2.1 dX6_blockTotal_0 rfl (lv_at hl 0 rfl) ?_
  refine va_get (D := g.1) (ci := 6) (v := .int (nI B)) (C := RX6) (T := TX6) (N := 4) X.1 X.2.1 X.2.2.2.2 iwX6 X.2.2.2.1 hK hP 0 rfl rfl 2 (by decide) (X.2.2.2.2 _ q89) (fun _ h9 => h9) rfl dX6_blockTotal_1 ?_
  exact PuI.ret X hr hlk dX6_blockTotal_4 (nI_nar _) (rfl)

set_option maxHeartbeats 4000000 in
set_option maxRecDepth 100000 in
theorem c_sh_T (g : G5) (a : Nat) (k : Nat) (n : Nat) (B : Nat) (T : Nat) : PuI yX6_tailTotal cX6_tailTotal 1 (some .int) 0 0 g [.ref a] [(a, .inr (6, [.int (nI k), .int (nI n), .int (nI B), .int (nI T)]))] (nI T) := by
  refine PuI.of (by decide +kernel) (Nat.le_of_ble_eq_true rfl) ?_
  intro p_ l_ e_ S_ m_ args below meth co X hr hlk hP hK ls hl
  have X : CallFix p_ m_ co cX6_tailTotal 1 S_ args lw_all RX6 := X
  have hl : lv_has ls 1 [(0, .ref a)] := hl
  refine lv_aload_n X.1 X.2.1 dX6_tailTotal_0 rfl (lv_at hl 0 rfl) ?_
  refine va_get (D := g.1) (ci := 6) (v := .int (nI T)) (C := RX6) (T := TX6) (N := 4) X.1 X.2.1 X.2.2.2.2 iwX6 X.2.2.2.1 hK hP 0 rfl rfl 3 (by decide) (X.2.2.2.2 _ q90) (fun _ h9 => h9) rfl dX6_tailTotal_1 ?_
  exact PuI.ret X hr hlk dX6_tailTotal_4 (nI_nar _) (rfl)

set_option maxHeartbeats 4000000 in
set_option maxRecDepth 100000 in
theorem c_power (g : G5) (b : Nat) (e : Nat) (he : e < 2 ^ 31) : PuI yX6_power cX6_power 4 (some .int) 0 0 g [.int (nI b), .int (nI e)] [] (nI (b ^ e)) := by
  refine PuI.of (by decide +kernel) (Nat.le_of_ble_eq_true rfl) ?_
  intro p_ l_ e_ S_ m_ args below meth co X hr hlk hP hK ls hl
  have X : CallFix p_ m_ co cX6_power 4 S_ args lw_all RX6 := X
  have hl : lv_has ls 4 [(0, .int (nI b)), (1, .int (nI e))] := hl
  refine lv_iconst (v := (nI 1)) X.1 X.2.1 dX6_power_0 (by decide) ?_
  refine lv_istore_n (lv' := [(2, .int (nI 1)), (0, .int (nI b)), (1, .int (nI e))]) X.1 X.2.1 dX6_power_1 rfl hl (by decide) rfl (fun ls hl => ?_)
  refine lv_iconst (v := (nI 0)) X.1 X.2.1 dX6_power_2 (by decide) ?_
  refine lv_istore_n (lv' := [(3, .int (nI 0)), (2, .int (nI 1)), (0, .int (nI b)), (1, .int (nI e))]) X.1 X.2.1 dX6_power_3 rfl hl (by decide) rfl (fun ls hl => ?_)
  have L4 : ∀ (r : Nat) (v : Nat) (i : Nat) (h1 : i + r = e) (hq : v * b ^ r = b ^ e) (ls : Array Slot) (hl : lv_has ls 4 [(3, .int (nI i)), (2, .int (nI v)), (0, .int (nI b)), (1, .int (nI e))]), W p_ l_ e_ { frames := 0, cells := 0, slots := 0, locals := 0 } S_ m_ args below meth co S_.heap [] 0 0 (MQ below (vp_Si (fun r => r = (nI (b ^ e)))) args S_ 0 0 (fun _ => False)) (F0 m_ 4 ls []) := by
    intro r
    induction r with
    | zero =>
      intro v i h1 hq ls hl
      refine lv_iload_n X.1 X.2.1 dX6_power_4 rfl (lv_at hl 0 rfl) ?_
      refine lv_iload_n X.1 X.2.1 dX6_power_5 rfl (lv_at hl 3 rfl) ?_
      refine z_icmp_ge (tgt := 19) X dX6_power_6 (by decide) (nI_toInt (by omega)) (nI_toInt (by omega)) (fun c6 => ?_) (fun c6 => ?_)
      · refine lv_iload_n X.1 X.2.1 dX6_power_19 rfl (lv_at hl 1 rfl) ?_
        exact PuI.ret X hr hlk dX6_power_20 (nI_nar _) (by rw [← hq]; simp)
      · exfalso; omega
    | succ r ih4 =>
      intro v i h1 hq ls hl
      refine lv_iload_n X.1 X.2.1 dX6_power_4 rfl (lv_at hl 0 rfl) ?_
      refine lv_iload_n X.1 X.2.1 dX6_power_5 rfl (lv_at hl 3 rfl) ?_
      refine z_icmp_ge (tgt := 19) X dX6_power_6 (by decide) (nI_toInt (by omega)) (nI_toInt (by omega)) (fun c6 => ?_) (fun c6 => ?_)
      · exfalso; omega
      · refine lv_iload_n X.1 X.2.1 dX6_power_9 rfl (lv_at hl 1 rfl) ?_
        refine lv_iload_n X.1 X.2.1 dX6_power_10 rfl (lv_at hl 2 rfl) ?_
        refine n_mul X dX6_power_11 ?_
        refine lv_istore_n (lv' := [(2, .int (nI (v * b))), (3, .int (nI i)), (0, .int (nI b)), (1, .int (nI e))]) X.1 X.2.1 dX6_power_12 rfl hl (by decide) rfl (fun ls hl => ?_)
        refine lv_iinc (v := (nI (i + 1))) (lv' := [(3, .int (nI (i + 1))), (2, .int (nI (v * b))), (0, .int (nI b)), (1, .int (nI e))]) X.1 X.2.1 dX6_power_13 hl (k := 1) rfl (nI_inc _) (by decide) rfl (fun ls hl => ?_)
        refine lv_goto (tgt := 4) X.1 X.2.1 dX6_power_16 (by decide) ?_
        exact ih4 (v * b) (i + 1) (by omega) (by rw [← hq, Nat.pow_succ, Nat.mul_assoc, Nat.mul_comm b]) ls (lv_sub hl [0, 1, 2, 3] rfl)
  exact L4 e 1 0 (by omega) (by simp) ls (lv_sub hl [0, 1, 2, 3] rfl)

set_option maxHeartbeats 4000000 in
set_option maxRecDepth 100000 in
theorem c_isPossible (g : G5) (x : Int32) (y : Int32) : PuI yX6_isPossible cX6_isPossible 2 (some .boolean) 1 23 g [.int x, .int y] [] (bI (possB x y)) := by
  refine PuI.of (by decide +kernel) (Nat.le_of_ble_eq_true rfl) ?_
  intro p_ l_ e_ S_ m_ args below meth co X hr hlk hP hK ls hl
  have X : CallFix p_ m_ co cX6_isPossible 2 S_ args lw_all RX6 := X
  have hl : lv_has ls 2 [(0, .int x), (1, .int y)] := hl
  refine lv_iload_n X.1 X.2.1 dX6_isPossible_0 rfl (lv_at hl 0 rfl) ?_
  refine lv_iconst (v := (nI 2)) X.1 X.2.1 dX6_isPossible_1 (by decide) ?_
  refine z_icmp_lt (tgt := 21) X dX6_isPossible_2 (by decide) rfl (nI_toInt (by omega)) (fun c2 => ?_) (fun c2 => ?_)
  · refine lv_iconst (v := (nI 0)) X.1 X.2.1 dX6_isPossible_21 (by decide) ?_
    exact PuI.ret X hr hlk dX6_isPossible_22 (bI_nar _) (bf (by unfold possB; exact decide_eq_false (by omega)))
  · refine lv_iload_n X.1 X.2.1 dX6_isPossible_5 rfl (lv_at hl 0 rfl) ?_
    refine lv_iconst (v := (nI 4)) X.1 X.2.1 dX6_isPossible_6 (by decide) ?_
    refine z_icmp_gt (tgt := 21) X dX6_isPossible_7 (by decide) rfl (nI_toInt (by omega)) (fun c7 => ?_) (fun c7 => ?_)
    · refine lv_iconst (v := (nI 0)) X.1 X.2.1 dX6_isPossible_21 (by decide) ?_
      exact PuI.ret X hr hlk dX6_isPossible_22 (bI_nar _) (bf (by unfold possB; exact decide_eq_false (by omega)))
    · refine lv_iload_n X.1 X.2.1 dX6_isPossible_10 rfl (lv_at hl 1 rfl) ?_
      refine lv_iconst (v := (nI 1)) X.1 X.2.1 dX6_isPossible_11 (by decide) ?_
      refine z_icmp_lt (tgt := 21) X dX6_isPossible_12 (by decide) rfl (nI_toInt (by omega)) (fun c12 => ?_) (fun c12 => ?_)
      · refine lv_iconst (v := (nI 0)) X.1 X.2.1 dX6_isPossible_21 (by decide) ?_
        exact PuI.ret X hr hlk dX6_isPossible_22 (bI_nar _) (bf (by unfold possB; exact decide_eq_false (by omega)))
      · refine lv_iload_n X.1 X.2.1 dX6_isPossible_15 rfl (lv_at hl 1 rfl) ?_
        refine lv_bipush (v := (nI 6)) X.1 X.2.1 dX6_isPossible_16 (by decide) ?_
        refine z_icmp_le (tgt := 23) X dX6_isPossible_18 (by decide) rfl (nI_toInt (by omega)) (fun c18 => ?_) (fun c18 => ?_)
        · obtain ⟨j1, hj1, rfl⟩ := z_nat (x := x) (by omega)
          obtain ⟨j2, hj2, rfl⟩ := z_nat (x := y) (by omega)
          simp only [nI_toInt hj1, nI_toInt hj2] at c2 c7 c12 c18
          have hp := pow_small (a := j1) (b := j2) (by omega) (by omega)
          have e9 : possB (nI j1) (nI j2) = decide (j1 ^ j2 ≤ 256) := by unfold possB; rw [nI_toInt hj1, nI_toInt hj2]; exact decide_eq_decide.mpr ⟨fun q => q.2.2.2.2, fun q => ⟨by omega, by omega, by omega, by omega, q⟩⟩
          refine lv_iload_n X.1 X.2.1 dX6_isPossible_23 rfl (lv_at hl 0 rfl) ?_
          refine lv_iload_n X.1 X.2.1 dX6_isPossible_24 rfl (lv_at hl 1 rfl) ?_
          refine (c_power g j1 j2 (by omega)).callS (rest := []) X dX6_isPossible_25 q277 tX6_power hK (hP.sub [] rfl) hl ⟨⟨Nat.le_of_ble_eq_true rfl, Nat.le_of_ble_eq_true rfl⟩, Nat.le_of_ble_eq_true rfl, Nat.le_of_ble_eq_true rfl⟩ rfl rfl (Nat.le_of_ble_eq_true rfl) ?_
          refine lv_sipush (v := (nI 256)) X.1 X.2.1 dX6_isPossible_28 (by decide) ?_
          refine z_icmp_gt (tgt := 38) X dX6_isPossible_31 (by decide) (nI_toInt (by omega)) (nI_toInt (by omega)) (fun c31 => ?_) (fun c31 => ?_)
          · refine lv_iconst (v := (nI 0)) X.1 X.2.1 dX6_isPossible_38 (by decide) ?_
            exact PuI.ret X hr hlk dX6_isPossible_39 (bI_nar _) (by rw [e9]; first | exact bt (decide_eq_true (by omega)) | exact bf (decide_eq_false (by omega)))
          · refine lv_iconst (v := (nI 1)) X.1 X.2.1 dX6_isPossible_34 (by decide) ?_
            refine lv_goto (tgt := 39) X.1 X.2.1 dX6_isPossible_35 (by decide) ?_
            exact PuI.ret X hr hlk dX6_isPossible_39 (bI_nar _) (by rw [e9]; first | exact bt (decide_eq_true (by omega)) | exact bf (decide_eq_false (by omega)))
        · refine lv_iconst (v := (nI 0)) X.1 X.2.1 dX6_isPossible_21 (by decide) ?_
          exact PuI.ret X hr hlk dX6_isPossible_22 (bI_nar _) (bf (by unfold possB; exact decide_eq_false (by omega)))

set_option maxHeartbeats 4000000 in
set_option maxRecDepth 100000 in
theorem c_change (g : G5) (a : Nat) (k : Nat) (n : Nat) (B : Nat) (T : Nat) (k1 : Nat) (n1 : Nat) (B1 : Nat) (T1 : Nat) (hc1 : shp k1 n1 B1 T1) : MuV (S := Unit) yX6_change cX6_change 3 none 1 23 g [.ref a, .int (nI k1), .int (nI n1)] [(a, .inr (6, [.int (nI k), .int (nI n), .int (nI B), .int (nI T)]))] (fun _ => True) (fun _ => [(a, .inr (6, [.int (nI k1), .int (nI n1), .int (nI B1), .int (nI T1)]))]) := by
  refine MuV.of (by decide +kernel) (Nat.le_of_ble_eq_true rfl) ?_
  intro p_ l_ e_ S_ m_ args below meth co X hr hlk hP hK A hA hD hS ls hl
  have X : CallFix p_ m_ co cX6_change 3 S_ args lw_all RX6 := X
  have hl : lv_has ls 3 [(0, .ref a), (1, .int (nI k1)), (2, .int (nI n1))] := hl
  obtain ⟨hk2, hk4, hn1, hn6, hB, hT, hBT, hT2⟩ := hc1.f
  refine lv_aload_n X.1 X.2.1 dX6_change_0 rfl (lv_at hl 0 rfl) ?_
  refine lv_iload_n X.1 X.2.1 dX6_change_1 rfl (lv_at hl 1 rfl) ?_
  refine va_put (D := g.1) (ci := 6) (v := .int (nI k1)) (ty := .int) (C := RX6) (T := TX6) (N := 4) X.1 X.2.1 X.2.2.2.2 iwX6 tyX6 tyX6_ok nmX6 X.2.2.2.1 hK hP hD hS 0 rfl rfl 0 (by decide) (X.2.2.2.2 _ q87) (fun _ h9 => h9) rfl (by decide +kernel) rfl rfl (Nat.le_of_ble_eq_true rfl) dX6_change_2 (fun H locs hP hD hS => ?_)
  have hP : PP g [(a, .inr (6, [.int (nI k1), .int (nI n), .int (nI B), .int (nI T)]))] H := hP
  have hD : va_D A [(a, .inr (6, [.int (nI k1), .int (nI n), .int (nI B), .int (nI T)]))] := hD
  refine lv_aload_n X.1 X.2.1 dX6_change_5 rfl (lv_at hl 0 rfl) ?_
  refine lv_iload_n X.1 X.2.1 dX6_change_6 rfl (lv_at hl 2 rfl) ?_
  refine va_put (D := g.1) (ci := 6) (v := .int (nI n1)) (ty := .int) (C := RX6) (T := TX6) (N := 4) X.1 X.2.1 X.2.2.2.2 iwX6 tyX6 tyX6_ok nmX6 X.2.2.2.1 hK hP hD hS 0 rfl rfl 1 (by decide) (X.2.2.2.2 _ q88) (fun _ h9 => h9) rfl (by decide +kernel) rfl rfl (Nat.le_of_ble_eq_true rfl) dX6_change_7 (fun H locs hP hD hS => ?_)
  have hP : PP g [(a, .inr (6, [.int (nI k1), .int (nI n1), .int (nI B), .int (nI T)]))] H := hP
  have hD : va_D A [(a, .inr (6, [.int (nI k1), .int (nI n1), .int (nI B), .int (nI T)]))] := hD
  refine lv_aload_n X.1 X.2.1 dX6_change_10 rfl (lv_at hl 0 rfl) ?_
  refine lv_iload_n X.1 X.2.1 dX6_change_11 rfl (lv_at hl 1 rfl) ?_
  refine lv_iload_n X.1 X.2.1 dX6_change_12 rfl (lv_at hl 2 rfl) ?_
  refine (c_power g k1 n1 (by omega)).callS (rest := [.ref a]) X dX6_change_13 q277 tX6_power hK (hP.sub [] rfl) hl ⟨⟨Nat.le_of_ble_eq_true rfl, Nat.le_of_ble_eq_true rfl⟩, Nat.le_of_ble_eq_true rfl, Nat.le_of_ble_eq_true rfl⟩ rfl rfl (Nat.le_of_ble_eq_true rfl) ?_
  refine tp_i (y := (nI B1)) (by rw [hc1.2.1]) ?_
  refine va_put (D := g.1) (ci := 6) (v := .int (nI B1)) (ty := .int) (C := RX6) (T := TX6) (N := 4) X.1 X.2.1 X.2.2.2.2 iwX6 tyX6 tyX6_ok nmX6 X.2.2.2.1 hK hP hD hS 0 rfl rfl 2 (by decide) (X.2.2.2.2 _ q89) (fun _ h9 => h9) rfl (by decide +kernel) rfl rfl (Nat.le_of_ble_eq_true rfl) dX6_change_16 (fun H locs hP hD hS => ?_)
  have hP : PP g [(a, .inr (6, [.int (nI k1), .int (nI n1), .int (nI B1), .int (nI T)]))] H := hP
  have hD : va_D A [(a, .inr (6, [.int (nI k1), .int (nI n1), .int (nI B1), .int (nI T)]))] := hD
  refine lv_aload_n X.1 X.2.1 dX6_change_19 rfl (lv_at hl 0 rfl) ?_
  refine lv_iload_n X.1 X.2.1 dX6_change_20 rfl (lv_at hl 1 rfl) ?_
  refine lv_iload_n X.1 X.2.1 dX6_change_21 rfl (lv_at hl 2 rfl) ?_
  refine lv_iconst (v := (nI 1)) X.1 X.2.1 dX6_change_22 (by decide) ?_
  refine n_sub X dX6_change_23 (by omega) ?_
  refine (c_power g k1 (n1 - 1) (by omega)).callS (rest := [.ref a]) X dX6_change_24 q277 tX6_power hK (hP.sub [] rfl) hl ⟨⟨Nat.le_of_ble_eq_true rfl, Nat.le_of_ble_eq_true rfl⟩, Nat.le_of_ble_eq_true rfl, Nat.le_of_ble_eq_true rfl⟩ rfl rfl (Nat.le_of_ble_eq_true rfl) ?_
  refine tp_i (y := (nI T1)) (by rw [hc1.2.2]) ?_
  refine va_put (D := g.1) (ci := 6) (v := .int (nI T1)) (ty := .int) (C := RX6) (T := TX6) (N := 4) X.1 X.2.1 X.2.2.2.2 iwX6 tyX6 tyX6_ok nmX6 X.2.2.2.1 hK hP hD hS 0 rfl rfl 3 (by decide) (X.2.2.2.2 _ q90) (fun _ h9 => h9) rfl (by decide +kernel) rfl rfl (Nat.le_of_ble_eq_true rfl) dX6_change_27 (fun H locs hP hD hS => ?_)
  have hP : PP g [(a, .inr (6, [.int (nI k1), .int (nI n1), .int (nI B1), .int (nI T1)]))] H := hP
  have hD : va_D A [(a, .inr (6, [.int (nI k1), .int (nI n1), .int (nI B1), .int (nI T1)]))] := hD
  exact MuV.ret X hr hlk hK hS dX6_change_30 () (hP.sub [0] rfl) (hD.sub [0] (by decide) rfl) (trivial)

set_option maxHeartbeats 4000000 in
set_option maxRecDepth 100000 in
theorem c_isLetter (g : G5) (a : Nat) (k : Nat) (n : Nat) (B : Nat) (T : Nat) (x : Int32) (hc : shp k n B T) : PuI yX6_isLetter cX6_isLetter 2 (some .boolean) 0 0 g [.ref a, .int x] [(a, .inr (6, [.int (nI k), .int (nI n), .int (nI B), .int (nI T)]))] (bI (hasB x k)) := by
  refine PuI.of (by decide +kernel) (Nat.le_of_ble_eq_true rfl) ?_
  intro p_ l_ e_ S_ m_ args below meth co X hr hlk hP hK ls hl
  have X : CallFix p_ m_ co cX6_isLetter 2 S_ args lw_all RX6 := X
  have hl : lv_has ls 2 [(0, .ref a), (1, .int x)] := hl
  obtain ⟨hk2, hk4, hn1, hn6, hB, hT, hBT, hT2⟩ := hc.f
  refine lv_iload_n X.1 X.2.1 dX6_isLetter_0 rfl (lv_at hl 1 rfl) ?_
  refine z_if_lt (tgt := 16) X dX6_isLetter_1 (by decide) rfl (fun c1 => ?_) (fun c1 => ?_)
  · refine lv_iconst (v := (nI 0)) X.1 X.2.1 dX6_isLetter_16 (by decide) ?_
    exact PuI.ret X hr hlk dX6_isLetter_17 (bI_nar _) (by first | exact bt (by unfold hasB; exact decide_eq_true (by omega)) | exact bf (by unfold hasB; exact decide_eq_false (by omega)))
  · refine lv_iload_n X.1 X.2.1 dX6_isLetter_4 rfl (lv_at hl 1 rfl) ?_
    refine lv_aload_n X.1 X.2.1 dX6_isLetter_5 rfl (lv_at hl 0 rfl) ?_
    refine va_get (D := g.1) (ci := 6) (v := .int (nI k)) (C := RX6) (T := TX6) (N := 4) X.1 X.2.1 X.2.2.2.2 iwX6 X.2.2.2.1 hK hP 0 rfl rfl 0 (by decide) (X.2.2.2.2 _ q87) (fun _ h9 => h9) rfl dX6_isLetter_6 ?_
    refine z_icmp_ge (tgt := 16) X dX6_isLetter_9 (by decide) rfl (nI_toInt (by omega)) (fun c9 => ?_) (fun c9 => ?_)
    · refine lv_iconst (v := (nI 0)) X.1 X.2.1 dX6_isLetter_16 (by decide) ?_
      exact PuI.ret X hr hlk dX6_isLetter_17 (bI_nar _) (by first | exact bt (by unfold hasB; exact decide_eq_true (by omega)) | exact bf (by unfold hasB; exact decide_eq_false (by omega)))
    · refine lv_iconst (v := (nI 1)) X.1 X.2.1 dX6_isLetter_12 (by decide) ?_
      refine lv_goto (tgt := 17) X.1 X.2.1 dX6_isLetter_13 (by decide) ?_
      exact PuI.ret X hr hlk dX6_isLetter_17 (bI_nar _) (by first | exact bt (by unfold hasB; exact decide_eq_true (by omega)) | exact bf (by unfold hasB; exact decide_eq_false (by omega)))

set_option maxHeartbeats 4000000 in
set_option maxRecDepth 100000 in
theorem c_isBlock (g : G5) (a : Nat) (k : Nat) (n : Nat) (B : Nat) (T : Nat) (x : Int32) (hc : shp k n B T) : PuI yX6_isBlock cX6_isBlock 2 (some .boolean) 0 0 g [.ref a, .int x] [(a, .inr (6, [.int (nI k), .int (nI n), .int (nI B), .int (nI T)]))] (bI (hasB x B)) := by
  refine PuI.of (by decide +kernel) (Nat.le_of_ble_eq_true rfl) ?_
  intro p_ l_ e_ S_ m_ args below meth co X hr hlk hP hK ls hl
  have X : CallFix p_ m_ co cX6_isBlock 2 S_ args lw_all RX6 := X
  have hl : lv_has ls 2 [(0, .ref a), (1, .int x)] := hl
  obtain ⟨hk2, hk4, hn1, hn6, hB, hT, hBT, hT2⟩ := hc.f
  refine lv_iload_n X.1 X.2.1 dX6_isBlock_0 rfl (lv_at hl 1 rfl) ?_
  refine z_if_lt (tgt := 16) X dX6_isBlock_1 (by decide) rfl (fun c1 => ?_) (fun c1 => ?_)
  · refine lv_iconst (v := (nI 0)) X.1 X.2.1 dX6_isBlock_16 (by decide) ?_
    exact PuI.ret X hr hlk dX6_isBlock_17 (bI_nar _) (by first | exact bt (by unfold hasB; exact decide_eq_true (by omega)) | exact bf (by unfold hasB; exact decide_eq_false (by omega)))
  · refine lv_iload_n X.1 X.2.1 dX6_isBlock_4 rfl (lv_at hl 1 rfl) ?_
    refine lv_aload_n X.1 X.2.1 dX6_isBlock_5 rfl (lv_at hl 0 rfl) ?_
    refine va_get (D := g.1) (ci := 6) (v := .int (nI B)) (C := RX6) (T := TX6) (N := 4) X.1 X.2.1 X.2.2.2.2 iwX6 X.2.2.2.1 hK hP 0 rfl rfl 2 (by decide) (X.2.2.2.2 _ q89) (fun _ h9 => h9) rfl dX6_isBlock_6 ?_
    refine z_icmp_ge (tgt := 16) X dX6_isBlock_9 (by decide) rfl (nI_toInt (by omega)) (fun c9 => ?_) (fun c9 => ?_)
    · refine lv_iconst (v := (nI 0)) X.1 X.2.1 dX6_isBlock_16 (by decide) ?_
      exact PuI.ret X hr hlk dX6_isBlock_17 (bI_nar _) (by first | exact bt (by unfold hasB; exact decide_eq_true (by omega)) | exact bf (by unfold hasB; exact decide_eq_false (by omega)))
    · refine lv_iconst (v := (nI 1)) X.1 X.2.1 dX6_isBlock_12 (by decide) ?_
      refine lv_goto (tgt := 17) X.1 X.2.1 dX6_isBlock_13 (by decide) ?_
      exact PuI.ret X hr hlk dX6_isBlock_17 (bI_nar _) (by first | exact bt (by unfold hasB; exact decide_eq_true (by omega)) | exact bf (by unfold hasB; exact decide_eq_false (by omega)))

set_option maxHeartbeats 4000000 in
set_option maxRecDepth 100000 in
theorem c_codeAt (g : G5) (a : Nat) (k : Nat) (n : Nat) (B : Nat) (T : Nat) (w : Nat) (wb : Nat) (s : List Nat) (f : Nat → Int32) (j : Nat) (hc : shp k n B T) (hs : s.length ≤ 256) (hf : rep f s) (h0 : 0 < s.length) (hj : j < 1000) : PuI yX6_codeAt cX6_codeAt 5 (some .int) 2 43 g [.ref a, .ref w, .int (nI j)] [(a, .inr (6, [.int (nI k), .int (nI n), .int (nI B), .int (nI T)])), (w, .inr (9, [.ref wb, .int (nI s.length)])), (wb, .inl (g.2.1, 256, .inl f))] (nI (codeN k n s j)) := by
  refine PuI.of (by decide +kernel) (Nat.le_of_ble_eq_true rfl) ?_
  intro p_ l_ e_ S_ m_ args below meth co X hr hlk hP hK ls hl
  have X : CallFix p_ m_ co cX6_codeAt 5 S_ args lw_all RX6 := X
  have hl : lv_has ls 5 [(0, .ref a), (1, .ref w), (2, .int (nI j))] := hl
  obtain ⟨hk2, hk4, hn1, hn6, hB, hT, hBT, hT2⟩ := hc.f
  refine lv_iconst (v := (nI 0)) X.1 X.2.1 dX6_codeAt_0 (by decide) ?_
  refine lv_istore_n (lv' := [(3, .int (nI 0)), (0, .ref a), (1, .ref w), (2, .int (nI j))]) X.1 X.2.1 dX6_codeAt_1 rfl hl (by decide) rfl (fun ls hl => ?_)
  refine lv_iconst (v := (nI 0)) X.1 X.2.1 dX6_codeAt_2 (by decide) ?_
  refine lv_istore (lv' := [(4, .int (nI 0)), (3, .int (nI 0)), (0, .ref a), (1, .ref w), (2, .int (nI j))]) X.1 X.2.1 dX6_codeAt_3 hl (by decide) rfl (fun ls hl => ?_)
  have L5 : ∀ (r : Nat) (v : Nat) (i : Nat) (h1 : i + r = n) (hq : codeL k s r (j + i) v = codeN k n s j) (ls : Array Slot) (hl : lv_has ls 5 [(4, .int (nI i)), (3, .int (nI v)), (0, .ref a), (1, .ref w), (2, .int (nI j))]), W p_ l_ e_ { frames := 2, cells := 0, slots := 0, locals := 43 } S_ m_ args below meth co S_.heap [] 0 0 (MQ below (vp_Si (fun r => r = (nI (codeN k n s j)))) args S_ 0 0 (fun _ => False)) (F0 m_ 5 ls []) := by
    intro r
    induction r with
    | zero =>
      intro v i h1 hq ls hl
      refine lv_iload X.1 X.2.1 dX6_codeAt_5 (lv_at hl 0 rfl) ?_
      refine lv_aload_n X.1 X.2.1 dX6_codeAt_7 rfl (lv_at hl 2 rfl) ?_
      refine va_get (D := g.1) (ci := 6) (v := .int (nI n)) (C := RX6) (T := TX6) (N := 4) X.1 X.2.1 X.2.2.2.2 iwX6 X.2.2.2.1 hK hP 0 rfl rfl 1 (by decide) (X.2.2.2.2 _ q88) (fun _ h9 => h9) rfl dX6_codeAt_8 ?_
      refine z_icmp_ge (tgt := 36) X dX6_codeAt_11 (by decide) (nI_toInt (by omega)) (nI_toInt (by omega)) (fun c11 => ?_) (fun c11 => ?_)
      · refine lv_iload_n X.1 X.2.1 dX6_codeAt_36 rfl (lv_at hl 1 rfl) ?_
        exact PuI.ret X hr hlk dX6_codeAt_37 (nI_nar _) (by rw [← hq]; rfl)
      · exfalso; omega
    | succ r ih5 =>
      intro v i h1 hq ls hl
      refine lv_iload X.1 X.2.1 dX6_codeAt_5 (lv_at hl 0 rfl) ?_
      refine lv_aload_n X.1 X.2.1 dX6_codeAt_7 rfl (lv_at hl 2 rfl) ?_
      refine va_get (D := g.1) (ci := 6) (v := .int (nI n)) (C := RX6) (T := TX6) (N := 4) X.1 X.2.1 X.2.2.2.2 iwX6 X.2.2.2.1 hK hP 0 rfl rfl 1 (by decide) (X.2.2.2.2 _ q88) (fun _ h9 => h9) rfl dX6_codeAt_8 ?_
      refine z_icmp_ge (tgt := 36) X dX6_codeAt_11 (by decide) (nI_toInt (by omega)) (nI_toInt (by omega)) (fun c11 => ?_) (fun c11 => ?_)
      · exfalso; omega
      · refine lv_iload_n X.1 X.2.1 dX6_codeAt_14 rfl (lv_at hl 1 rfl) ?_
        refine lv_aload_n X.1 X.2.1 dX6_codeAt_15 rfl (lv_at hl 2 rfl) ?_
        refine va_get (D := g.1) (ci := 6) (v := .int (nI k)) (C := RX6) (T := TX6) (N := 4) X.1 X.2.1 X.2.2.2.2 iwX6 X.2.2.2.1 hK hP 0 rfl rfl 0 (by decide) (X.2.2.2.2 _ q87) (fun _ h9 => h9) rfl dX6_codeAt_16 ?_
        refine n_mul X dX6_codeAt_19 ?_
        refine lv_aload_n X.1 X.2.1 dX6_codeAt_20 rfl (lv_at hl 3 rfl) ?_
        refine lv_iload_n X.1 X.2.1 dX6_codeAt_21 rfl (lv_at hl 4 rfl) ?_
        refine lv_iload X.1 X.2.1 dX6_codeAt_22 (lv_at hl 0 rfl) ?_
        refine n_add X dX6_codeAt_24 ?_
        refine (c_Word_arN g w wb s f (j + i) (by omega) (by assumption) (by omega) (by omega)).callV (rest := [.int (nI (v * k))]) X dX6_codeAt_25 q670 tX10_around hK (hP.sub [1, 2] rfl) 0 9 rfl rfl rfl hl ⟨⟨Nat.le_of_ble_eq_true rfl, Nat.le_of_ble_eq_true rfl⟩, Nat.le_of_ble_eq_true rfl, Nat.le_of_ble_eq_true rfl⟩ rfl rfl (Nat.le_of_ble_eq_true rfl) ?_
        refine n_add X dX6_codeAt_28 ?_
        refine lv_istore_n (lv' := [(3, .int (nI (v * k + (s.getD ((j + i) % s.length) 0)))), (4, .int (nI i)), (0, .ref a), (1, .ref w), (2, .int (nI j))]) X.1 X.2.1 dX6_codeAt_29 rfl hl (by decide) rfl (fun ls hl => ?_)
        refine lv_iinc (v := (nI (i + 1))) (lv' := [(4, .int (nI (i + 1))), (3, .int (nI (v * k + (s.getD ((j + i) % s.length) 0)))), (0, .ref a), (1, .ref w), (2, .int (nI j))]) X.1 X.2.1 dX6_codeAt_30 hl (k := 1) rfl (nI_inc _) (by decide) rfl (fun ls hl => ?_)
        refine lv_goto (tgt := 5) X.1 X.2.1 dX6_codeAt_33 (by decide) ?_
        exact ih5 (v * k + (s.getD ((j + i) % s.length) 0)) (i + 1) (by omega) (by rw [codeL] at hq; exact hq) ls (lv_sub hl [0, 1, 2, 3, 4] rfl)
  exact L5 n 0 0 (by omega) (rfl) ls (lv_sub hl [0, 1, 2, 3, 4] rfl)

set_option maxHeartbeats 4000000 in
set_option maxRecDepth 100000 in
theorem c_first (g : G5) (a : Nat) (k : Nat) (n : Nat) (B : Nat) (T : Nat) (b : Nat) (hc : shp k n B T) (hb : b < 2 ^ 31) : PuI yX6_firstLetter cX6_firstLetter 2 (some .int) 0 0 g [.ref a, .int (nI b)] [(a, .inr (6, [.int (nI k), .int (nI n), .int (nI B), .int (nI T)]))] (nI (b / T)) := by
  refine PuI.of (by decide +kernel) (Nat.le_of_ble_eq_true rfl) ?_
  intro p_ l_ e_ S_ m_ args below meth co X hr hlk hP hK ls hl
  have X : CallFix p_ m_ co cX6_firstLetter 2 S_ args lw_all RX6 := X
  have hl : lv_has ls 2 [(0, .ref a), (1, .int (nI b))] := hl
  obtain ⟨hk2, hk4, hn1, hn6, hB, hT, hBT, hT2⟩ := hc.f
  refine lv_aload_n X.1 X.2.1 dX6_firstLetter_0 rfl (lv_at hl 0 rfl) ?_
  refine va_get (D := g.1) (ci := 6) (v := .int (nI T)) (C := RX6) (T := TX6) (N := 4) X.1 X.2.1 X.2.2.2.2 iwX6 X.2.2.2.1 hK hP 0 rfl rfl 3 (by decide) (X.2.2.2.2 _ q90) (fun _ h9 => h9) rfl dX6_firstLetter_1 ?_
  refine lv_iconst (v := (nI 1)) X.1 X.2.1 dX6_firstLetter_4 (by decide) ?_
  refine z_icmp_ge (tgt := 12) X dX6_firstLetter_5 (by decide) (nI_toInt (by omega)) (nI_toInt (by omega)) (fun c5 => ?_) (fun c5 => ?_)
  · refine lv_iload_n X.1 X.2.1 dX6_firstLetter_12 rfl (lv_at hl 1 rfl) ?_
    refine lv_aload_n X.1 X.2.1 dX6_firstLetter_13 rfl (lv_at hl 0 rfl) ?_
    refine va_get (D := g.1) (ci := 6) (v := .int (nI T)) (C := RX6) (T := TX6) (N := 4) X.1 X.2.1 X.2.2.2.2 iwX6 X.2.2.2.1 hK hP 0 rfl rfl 3 (by decide) (X.2.2.2.2 _ q90) (fun _ h9 => h9) rfl dX6_firstLetter_14 ?_
    refine n_div X dX6_firstLetter_17 (by omega) (by omega) (by omega) ?_
    exact PuI.ret X hr hlk dX6_firstLetter_18 (nI_nar _) (rfl)
  · exfalso; omega

set_option maxHeartbeats 4000000 in
set_option maxRecDepth 100000 in
theorem c_tail (g : G5) (a : Nat) (k : Nat) (n : Nat) (B : Nat) (T : Nat) (b : Nat) (hc : shp k n B T) (hb : b < 2 ^ 31) : PuI yX6_tail cX6_tail 2 (some .int) 0 0 g [.ref a, .int (nI b)] [(a, .inr (6, [.int (nI k), .int (nI n), .int (nI B), .int (nI T)]))] (nI (b % T)) := by
  refine PuI.of (by decide +kernel) (Nat.le_of_ble_eq_true rfl) ?_
  intro p_ l_ e_ S_ m_ args below meth co X hr hlk hP hK ls hl
  have X : CallFix p_ m_ co cX6_tail 2 S_ args lw_all RX6 := X
  have hl : lv_has ls 2 [(0, .ref a), (1, .int (nI b))] := hl
  obtain ⟨hk2, hk4, hn1, hn6, hB, hT, hBT, hT2⟩ := hc.f
  refine lv_aload_n X.1 X.2.1 dX6_tail_0 rfl (lv_at hl 0 rfl) ?_
  refine va_get (D := g.1) (ci := 6) (v := .int (nI T)) (C := RX6) (T := TX6) (N := 4) X.1 X.2.1 X.2.2.2.2 iwX6 X.2.2.2.1 hK hP 0 rfl rfl 3 (by decide) (X.2.2.2.2 _ q90) (fun _ h9 => h9) rfl dX6_tail_1 ?_
  refine lv_iconst (v := (nI 1)) X.1 X.2.1 dX6_tail_4 (by decide) ?_
  refine z_icmp_ge (tgt := 12) X dX6_tail_5 (by decide) (nI_toInt (by omega)) (nI_toInt (by omega)) (fun c5 => ?_) (fun c5 => ?_)
  · refine lv_iload_n X.1 X.2.1 dX6_tail_12 rfl (lv_at hl 1 rfl) ?_
    refine lv_aload_n X.1 X.2.1 dX6_tail_13 rfl (lv_at hl 0 rfl) ?_
    refine va_get (D := g.1) (ci := 6) (v := .int (nI T)) (C := RX6) (T := TX6) (N := 4) X.1 X.2.1 X.2.2.2.2 iwX6 X.2.2.2.1 hK hP 0 rfl rfl 3 (by decide) (X.2.2.2.2 _ q90) (fun _ h9 => h9) rfl dX6_tail_14 ?_
    refine n_rem X dX6_tail_17 (by omega) (by omega) (by omega) ?_
    exact PuI.ret X hr hlk dX6_tail_18 (nI_nar _) (rfl)
  · exfalso; omega

set_option maxHeartbeats 4000000 in
set_option maxRecDepth 100000 in
theorem c_headed (g : G5) (a : Nat) (k : Nat) (n : Nat) (B : Nat) (T : Nat) (x : Nat) (u : Nat) : PuI yX6_headed cX6_headed 3 (some .int) 0 0 g [.ref a, .int (nI x), .int (nI u)] [(a, .inr (6, [.int (nI k), .int (nI n), .int (nI B), .int (nI T)]))] (nI (x * T + u)) := by
  refine PuI.of (by decide +kernel) (Nat.le_of_ble_eq_true rfl) ?_
  intro p_ l_ e_ S_ m_ args below meth co X hr hlk hP hK ls hl
  have X : CallFix p_ m_ co cX6_headed 3 S_ args lw_all RX6 := X
  have hl : lv_has ls 3 [(0, .ref a), (1, .int (nI x)), (2, .int (nI u))] := hl
  refine lv_iload_n X.1 X.2.1 dX6_headed_0 rfl (lv_at hl 1 rfl) ?_
  refine lv_aload_n X.1 X.2.1 dX6_headed_1 rfl (lv_at hl 0 rfl) ?_
  refine va_get (D := g.1) (ci := 6) (v := .int (nI T)) (C := RX6) (T := TX6) (N := 4) X.1 X.2.1 X.2.2.2.2 iwX6 X.2.2.2.1 hK hP 0 rfl rfl 3 (by decide) (X.2.2.2.2 _ q90) (fun _ h9 => h9) rfl dX6_headed_2 ?_
  refine n_mul X dX6_headed_5 ?_
  refine lv_iload_n X.1 X.2.1 dX6_headed_6 rfl (lv_at hl 2 rfl) ?_
  refine n_add X dX6_headed_7 ?_
  exact PuI.ret X hr hlk dX6_headed_8 (nI_nar _) (rfl)

set_option maxHeartbeats 4000000 in
set_option maxRecDepth 100000 in
theorem c_ended (g : G5) (a : Nat) (k : Nat) (n : Nat) (B : Nat) (T : Nat) (u : Nat) (x : Nat) : PuI yX6_ended cX6_ended 3 (some .int) 0 0 g [.ref a, .int (nI u), .int (nI x)] [(a, .inr (6, [.int (nI k), .int (nI n), .int (nI B), .int (nI T)]))] (nI (u * k + x)) := by
  refine PuI.of (by decide +kernel) (Nat.le_of_ble_eq_true rfl) ?_
  intro p_ l_ e_ S_ m_ args below meth co X hr hlk hP hK ls hl
  have X : CallFix p_ m_ co cX6_ended 3 S_ args lw_all RX6 := X
  have hl : lv_has ls 3 [(0, .ref a), (1, .int (nI u)), (2, .int (nI x))] := hl
  refine lv_iload_n X.1 X.2.1 dX6_ended_0 rfl (lv_at hl 1 rfl) ?_
  refine lv_aload_n X.1 X.2.1 dX6_ended_1 rfl (lv_at hl 0 rfl) ?_
  refine va_get (D := g.1) (ci := 6) (v := .int (nI k)) (C := RX6) (T := TX6) (N := 4) X.1 X.2.1 X.2.2.2.2 iwX6 X.2.2.2.1 hK hP 0 rfl rfl 0 (by decide) (X.2.2.2.2 _ q87) (fun _ h9 => h9) rfl dX6_ended_2 ?_
  refine n_mul X dX6_ended_5 ?_
  refine lv_iload_n X.1 X.2.1 dX6_ended_6 rfl (lv_at hl 2 rfl) ?_
  refine n_add X dX6_ended_7 ?_
  exact PuI.ret X hr hlk dX6_ended_8 (nI_nar _) (rfl)

set_option maxHeartbeats 4000000 in
set_option maxRecDepth 100000 in
theorem c_moved (g : G5) (a : Nat) (k : Nat) (n : Nat) (B : Nat) (T : Nat) (b : Nat) (x : Nat) (hc : shp k n B T) (hb : b < 2 ^ 31) : PuI yX6_moved cX6_moved 3 (some .int) 1 22 g [.ref a, .int (nI b), .int (nI x)] [(a, .inr (6, [.int (nI k), .int (nI n), .int (nI B), .int (nI T)]))] (nI (b % T * k + x)) := by
  refine PuI.of (by decide +kernel) (Nat.le_of_ble_eq_true rfl) ?_
  intro p_ l_ e_ S_ m_ args below meth co X hr hlk hP hK ls hl
  have X : CallFix p_ m_ co cX6_moved 3 S_ args lw_all RX6 := X
  have hl : lv_has ls 3 [(0, .ref a), (1, .int (nI b)), (2, .int (nI x))] := hl
  refine lv_aload_n X.1 X.2.1 dX6_moved_0 rfl (lv_at hl 0 rfl) ?_
  refine lv_aload_n X.1 X.2.1 dX6_moved_1 rfl (lv_at hl 0 rfl) ?_
  refine lv_iload_n X.1 X.2.1 dX6_moved_2 rfl (lv_at hl 1 rfl) ?_
  refine (c_tail g a k n B T b (by assumption) (by omega)).callV (rest := [.ref a]) X dX6_moved_3 q418 tX6_tail hK (hP.sub [0] rfl) 0 6 rfl rfl rfl hl ⟨⟨Nat.le_of_ble_eq_true rfl, Nat.le_of_ble_eq_true rfl⟩, Nat.le_of_ble_eq_true rfl, Nat.le_of_ble_eq_true rfl⟩ rfl rfl (Nat.le_of_ble_eq_true rfl) ?_
  refine lv_iload_n X.1 X.2.1 dX6_moved_6 rfl (lv_at hl 2 rfl) ?_
  refine (c_ended g a k n B T (b % T) x).callV (rest := []) X dX6_moved_7 q419 tX6_ended hK (hP.sub [0] rfl) 0 6 rfl rfl rfl hl ⟨⟨Nat.le_of_ble_eq_true rfl, Nat.le_of_ble_eq_true rfl⟩, Nat.le_of_ble_eq_true rfl, Nat.le_of_ble_eq_true rfl⟩ rfl rfl (Nat.le_of_ble_eq_true rfl) ?_
  exact PuI.ret X hr hlk dX6_moved_10 (nI_nar _) (rfl)

set_option maxHeartbeats 4000000 in
set_option maxRecDepth 100000 in
theorem c_turned (g : G5) (a : Nat) (k : Nat) (n : Nat) (B : Nat) (T : Nat) (b : Nat) (t : Nat) (hb : b < 2 ^ 31) (ht : 0 < t) (ht2 : t < 2 ^ 31) : PuI yX6_turned cX6_turned 3 (some .int) 0 0 g [.ref a, .int (nI b), .int (nI t)] [(a, .inr (6, [.int (nI k), .int (nI n), .int (nI B), .int (nI T)]))] (nI (turnN k t b)) := by
  refine PuI.of (by decide +kernel) (Nat.le_of_ble_eq_true rfl) ?_
  intro p_ l_ e_ S_ m_ args below meth co X hr hlk hP hK ls hl
  have X : CallFix p_ m_ co cX6_turned 3 S_ args lw_all RX6 := X
  have hl : lv_has ls 3 [(0, .ref a), (1, .int (nI b)), (2, .int (nI t))] := hl
  refine lv_iload_n X.1 X.2.1 dX6_turned_0 rfl (lv_at hl 2 rfl) ?_
  refine lv_iconst (v := (nI 1)) X.1 X.2.1 dX6_turned_1 (by decide) ?_
  refine z_icmp_ge (tgt := 9) X dX6_turned_2 (by decide) (nI_toInt (by omega)) (nI_toInt (by omega)) (fun c2 => ?_) (fun c2 => ?_)
  · refine lv_iload_n X.1 X.2.1 dX6_turned_9 rfl (lv_at hl 1 rfl) ?_
    refine lv_iload_n X.1 X.2.1 dX6_turned_10 rfl (lv_at hl 2 rfl) ?_
    refine n_rem X dX6_turned_11 (by omega) (by omega) (by omega) ?_
    refine lv_aload_n X.1 X.2.1 dX6_turned_12 rfl (lv_at hl 0 rfl) ?_
    refine va_get (D := g.1) (ci := 6) (v := .int (nI k)) (C := RX6) (T := TX6) (N := 4) X.1 X.2.1 X.2.2.2.2 iwX6 X.2.2.2.1 hK hP 0 rfl rfl 0 (by decide) (X.2.2.2.2 _ q87) (fun _ h9 => h9) rfl dX6_turned_13 ?_
    refine n_mul X dX6_turned_16 ?_
    refine lv_iload_n X.1 X.2.1 dX6_turned_17 rfl (lv_at hl 1 rfl) ?_
    refine lv_iload_n X.1 X.2.1 dX6_turned_18 rfl (lv_at hl 2 rfl) ?_
    refine n_div X dX6_turned_19 (by omega) (by omega) (by omega) ?_
    refine n_add X dX6_turned_20 ?_
    exact PuI.ret X hr hlk dX6_turned_21 (nI_nar _) (rfl)
  · exfalso; omega

set_option maxHeartbeats 4000000 in
set_option maxRecDepth 100000 in
theorem c_isLeast (g : G5) (a : Nat) (k : Nat) (n : Nat) (B : Nat) (T : Nat) (b : Nat) (hc : shp k n B T) (hb : b < B) : PuI yX6_isLeastRotation cX6_isLeastRotation 4 (some .boolean) 1 22 g [.ref a, .int (nI b)] [(a, .inr (6, [.int (nI k), .int (nI n), .int (nI B), .int (nI T)]))] (bI (leastB k T n b)) := by
  refine PuI.of (by decide +kernel) (Nat.le_of_ble_eq_true rfl) ?_
  intro p_ l_ e_ S_ m_ args below meth co X hr hlk hP hK ls hl
  have X : CallFix p_ m_ co cX6_isLeastRotation 4 S_ args lw_all RX6 := X
  have hl : lv_has ls 4 [(0, .ref a), (1, .int (nI b))] := hl
  obtain ⟨hk2, hk4, hn1, hn6, hB, hT, hBT, hT2⟩ := hc.f
  refine lv_iload_n X.1 X.2.1 dX6_isLeastRotation_0 rfl (lv_at hl 1 rfl) ?_
  refine lv_istore_n (lv' := [(2, .int (nI b)), (0, .ref a), (1, .int (nI b))]) X.1 X.2.1 dX6_isLeastRotation_1 rfl hl (by decide) rfl (fun ls hl => ?_)
  refine lv_iconst (v := (nI 1)) X.1 X.2.1 dX6_isLeastRotation_2 (by decide) ?_
  refine lv_istore_n (lv' := [(3, .int (nI 1)), (2, .int (nI b)), (0, .ref a), (1, .int (nI b))]) X.1 X.2.1 dX6_isLeastRotation_3 rfl hl (by decide) rfl (fun ls hl => ?_)
  have L4 : ∀ (r : Nat) (t : Nat) (i : Nat) (h1 : i + r = n) (h2 : t < B) (hq : leastL k T b r t = leastB k T n b) (ls : Array Slot) (hl : lv_has ls 4 [(3, .int (nI i)), (2, .int (nI t)), (0, .ref a), (1, .int (nI b))]), W p_ l_ e_ { frames := 1, cells := 0, slots := 0, locals := 22 } S_ m_ args below meth co S_.heap [] 0 0 (MQ below (vp_Si (fun r => r = (bI (leastB k T n b)))) args S_ 0 0 (fun _ => False)) (F0 m_ 4 ls []) := by
    intro r
    induction r with
    | zero =>
      intro t i h1 h2 hq ls hl
      refine lv_iload_n X.1 X.2.1 dX6_isLeastRotation_4 rfl (lv_at hl 0 rfl) ?_
      refine lv_aload_n X.1 X.2.1 dX6_isLeastRotation_5 rfl (lv_at hl 2 rfl) ?_
      refine va_get (D := g.1) (ci := 6) (v := .int (nI n)) (C := RX6) (T := TX6) (N := 4) X.1 X.2.1 X.2.2.2.2 iwX6 X.2.2.2.1 hK hP 0 rfl rfl 1 (by decide) (X.2.2.2.2 _ q88) (fun _ h9 => h9) rfl dX6_isLeastRotation_6 ?_
      refine z_icmp_ge (tgt := 35) X dX6_isLeastRotation_9 (by decide) (nI_toInt (by omega)) (nI_toInt (by omega)) (fun c9 => ?_) (fun c9 => ?_)
      · refine lv_iconst (v := (nI 1)) X.1 X.2.1 dX6_isLeastRotation_35 (by decide) ?_
        exact PuI.ret X hr hlk dX6_isLeastRotation_36 (bI_nar _) (by rw [← hq]; rfl)
      · exfalso; omega
    | succ r ih4 =>
      intro t i h1 h2 hq ls hl
      refine lv_iload_n X.1 X.2.1 dX6_isLeastRotation_4 rfl (lv_at hl 0 rfl) ?_
      refine lv_aload_n X.1 X.2.1 dX6_isLeastRotation_5 rfl (lv_at hl 2 rfl) ?_
      refine va_get (D := g.1) (ci := 6) (v := .int (nI n)) (C := RX6) (T := TX6) (N := 4) X.1 X.2.1 X.2.2.2.2 iwX6 X.2.2.2.1 hK hP 0 rfl rfl 1 (by decide) (X.2.2.2.2 _ q88) (fun _ h9 => h9) rfl dX6_isLeastRotation_6 ?_
      refine z_icmp_ge (tgt := 35) X dX6_isLeastRotation_9 (by decide) (nI_toInt (by omega)) (nI_toInt (by omega)) (fun c9 => ?_) (fun c9 => ?_)
      · exfalso; omega
      · refine lv_aload_n X.1 X.2.1 dX6_isLeastRotation_12 rfl (lv_at hl 2 rfl) ?_
        refine lv_iload_n X.1 X.2.1 dX6_isLeastRotation_13 rfl (lv_at hl 1 rfl) ?_
        refine lv_aload_n X.1 X.2.1 dX6_isLeastRotation_14 rfl (lv_at hl 2 rfl) ?_
        refine va_get (D := g.1) (ci := 6) (v := .int (nI T)) (C := RX6) (T := TX6) (N := 4) X.1 X.2.1 X.2.2.2.2 iwX6 X.2.2.2.1 hK hP 0 rfl rfl 3 (by decide) (X.2.2.2.2 _ q90) (fun _ h9 => h9) rfl dX6_isLeastRotation_15 ?_
        refine (c_turned g a k n B T t T (by omega) (by omega) (by omega)).callV (rest := []) X dX6_isLeastRotation_18 q398 tX6_turned hK (hP.sub [0] rfl) 0 6 rfl rfl rfl hl ⟨⟨Nat.le_of_ble_eq_true rfl, Nat.le_of_ble_eq_true rfl⟩, Nat.le_of_ble_eq_true rfl, Nat.le_of_ble_eq_true rfl⟩ rfl rfl (Nat.le_of_ble_eq_true rfl) ?_
        have hF := turn_lt hc (w := t) (by omega)
        refine lv_istore_n (lv' := [(2, .int (nI (turnN k T t))), (3, .int (nI i)), (0, .ref a), (1, .int (nI b))]) X.1 X.2.1 dX6_isLeastRotation_21 rfl hl (by decide) rfl (fun ls hl => ?_)
        refine lv_iload_n X.1 X.2.1 dX6_isLeastRotation_22 rfl (lv_at hl 0 rfl) ?_
        refine lv_iload_n X.1 X.2.1 dX6_isLeastRotation_23 rfl (lv_at hl 3 rfl) ?_
        refine z_icmp_ge (tgt := 29) X dX6_isLeastRotation_24 (by decide) (nI_toInt (by omega)) (nI_toInt (by omega)) (fun c24 => ?_) (fun c24 => ?_)
        · refine lv_iinc (v := (nI (i + 1))) (lv' := [(3, .int (nI (i + 1))), (2, .int (nI (turnN k T t))), (0, .ref a), (1, .int (nI b))]) X.1 X.2.1 dX6_isLeastRotation_29 hl (k := 1) rfl (nI_inc _) (by decide) rfl (fun ls hl => ?_)
          refine lv_goto (tgt := 4) X.1 X.2.1 dX6_isLeastRotation_32 (by decide) ?_
          exact ih4 (turnN k T t) (i + 1) (by omega) (by omega) (by rw [leastL, if_neg (by omega)] at hq; exact hq) ls (lv_sub hl [0, 1, 2, 3] rfl)
        · refine lv_iconst (v := (nI 0)) X.1 X.2.1 dX6_isLeastRotation_27 (by decide) ?_
          exact PuI.ret X hr hlk dX6_isLeastRotation_28 (bI_nar _) (by rw [leastL, if_pos (by omega)] at hq; rw [← hq]; rfl)
  exact L4 (n - 1) b 1 (by omega) (by omega) (rfl) ls (lv_sub hl [0, 1, 2, 3] rfl)

set_option maxHeartbeats 4000000 in
set_option maxRecDepth 100000 in
theorem c_minN (g : G5) (x : Nat) (y : Nat) (hx : x < 2 ^ 31) (hy : y < 2 ^ 31) : PuI yJ9_min_7cf53 cJ9_min_7cf53 2 (some .int) 0 0 g [.int (nI x), .int (nI y)] [] (nI (min x y)) := by
  refine PuI.ofF (by decide +kernel) (Nat.le_of_ble_eq_true rfl) ?_
  intro p_ l_ e_ S_ m_ args below meth co X hr hlk hP hK ls hl
  have X : CallFix p_ m_ co cJ9_min_7cf53 2 S_ args lw_all RJ9 := X
  have hl : lv_has ls 2 [(0, .int (nI x)), (1, .int (nI y))] := hl
  refine lv_iload_n X.1 X.2.1 dJ9_min_7cf53_0 rfl (lv_at hl 0 rfl) ?_
  refine lv_iload_n X.1 X.2.1 dJ9_min_7cf53_1 rfl (lv_at hl 1 rfl) ?_
  refine z_icmp_gt (tgt := 9) X dJ9_min_7cf53_2 (by decide) (nI_toInt (by omega)) (nI_toInt (by omega)) (fun c2 => ?_) (fun c2 => ?_)
  · refine lv_iload_n X.1 X.2.1 dJ9_min_7cf53_9 rfl (lv_at hl 1 rfl) ?_
    exact PuI.ret X hr hlk dJ9_min_7cf53_10 (nI_nar _) (by congr 1; omega)
  · refine lv_iload_n X.1 X.2.1 dJ9_min_7cf53_5 rfl (lv_at hl 0 rfl) ?_
    refine lv_goto (tgt := 10) X.1 X.2.1 dJ9_min_7cf53_6 (by decide) ?_
    exact PuI.ret X hr hlk dJ9_min_7cf53_10 (nI_nar _) (by congr 1; omega)

set_option maxHeartbeats 4000000 in
set_option maxRecDepth 100000 in
theorem c_minI (g : G5) (x : Int) (y : Int) (hx : -2147483648 ≤ x ∧ x < 2147483648) (hy : -2147483648 ≤ y ∧ y < 2147483648) : PuI yJ9_min_7cf53 cJ9_min_7cf53 2 (some .int) 0 0 g [.int (iI x), .int (iI y)] [] (iI (min x y)) := by
  refine PuI.ofF (by decide +kernel) (Nat.le_of_ble_eq_true rfl) ?_
  intro p_ l_ e_ S_ m_ args below meth co X hr hlk hP hK ls hl
  have X : CallFix p_ m_ co cJ9_min_7cf53 2 S_ args lw_all RJ9 := X
  have hl : lv_has ls 2 [(0, .int (iI x)), (1, .int (iI y))] := hl
  refine lv_iload_n X.1 X.2.1 dJ9_min_7cf53_0 rfl (lv_at hl 0 rfl) ?_
  refine lv_iload_n X.1 X.2.1 dJ9_min_7cf53_1 rfl (lv_at hl 1 rfl) ?_
  refine z_icmp_gt (tgt := 9) X dJ9_min_7cf53_2 (by decide) (iI_toInt (by omega) (by omega)) (iI_toInt (by omega) (by omega)) (fun c2 => ?_) (fun c2 => ?_)
  · refine lv_iload_n X.1 X.2.1 dJ9_min_7cf53_9 rfl (lv_at hl 1 rfl) ?_
    exact PuI.ret X hr hlk dJ9_min_7cf53_10 (nI_nar _) (by congr 1; omega)
  · refine lv_iload_n X.1 X.2.1 dJ9_min_7cf53_5 rfl (lv_at hl 0 rfl) ?_
    refine lv_goto (tgt := 10) X.1 X.2.1 dJ9_min_7cf53_6 (by decide) ?_
    exact PuI.ret X hr hlk dJ9_min_7cf53_10 (nI_nar _) (by congr 1; omega)

set_option maxHeartbeats 4000000 in
set_option maxRecDepth 100000 in
theorem c_maxN (g : G5) (x : Nat) (y : Nat) (hx : x < 2 ^ 31) (hy : y < 2 ^ 31) : PuI yJ9_max_7cf53 cJ9_max_7cf53 2 (some .int) 0 0 g [.int (nI x), .int (nI y)] [] (nI (max x y)) := by
  refine PuI.ofF (by decide +kernel) (Nat.le_of_ble_eq_true rfl) ?_
  intro p_ l_ e_ S_ m_ args below meth co X hr hlk hP hK ls hl
  have X : CallFix p_ m_ co cJ9_max_7cf53 2 S_ args lw_all RJ9 := X
  have hl : lv_has ls 2 [(0, .int (nI x)), (1, .int (nI y))] := hl
  refine lv_iload_n X.1 X.2.1 dJ9_max_7cf53_0 rfl (lv_at hl 0 rfl) ?_
  refine lv_iload_n X.1 X.2.1 dJ9_max_7cf53_1 rfl (lv_at hl 1 rfl) ?_
  refine z_icmp_lt (tgt := 9) X dJ9_max_7cf53_2 (by decide) (nI_toInt (by omega)) (nI_toInt (by omega)) (fun c2 => ?_) (fun c2 => ?_)
  · refine lv_iload_n X.1 X.2.1 dJ9_max_7cf53_9 rfl (lv_at hl 1 rfl) ?_
    exact PuI.ret X hr hlk dJ9_max_7cf53_10 (nI_nar _) (by congr 1; omega)
  · refine lv_iload_n X.1 X.2.1 dJ9_max_7cf53_5 rfl (lv_at hl 0 rfl) ?_
    refine lv_goto (tgt := 10) X.1 X.2.1 dJ9_max_7cf53_6 (by decide) ?_
    exact PuI.ret X hr hlk dJ9_max_7cf53_10 (nI_nar _) (by congr 1; omega)

set_option maxHeartbeats 4000000 in
set_option maxRecDepth 100000 in
theorem c_maxI (g : G5) (x : Int) (y : Int) (hx : -2147483648 ≤ x ∧ x < 2147483648) (hy : -2147483648 ≤ y ∧ y < 2147483648) : PuI yJ9_max_7cf53 cJ9_max_7cf53 2 (some .int) 0 0 g [.int (iI x), .int (iI y)] [] (iI (max x y)) := by
  refine PuI.ofF (by decide +kernel) (Nat.le_of_ble_eq_true rfl) ?_
  intro p_ l_ e_ S_ m_ args below meth co X hr hlk hP hK ls hl
  have X : CallFix p_ m_ co cJ9_max_7cf53 2 S_ args lw_all RJ9 := X
  have hl : lv_has ls 2 [(0, .int (iI x)), (1, .int (iI y))] := hl
  refine lv_iload_n X.1 X.2.1 dJ9_max_7cf53_0 rfl (lv_at hl 0 rfl) ?_
  refine lv_iload_n X.1 X.2.1 dJ9_max_7cf53_1 rfl (lv_at hl 1 rfl) ?_
  refine z_icmp_lt (tgt := 9) X dJ9_max_7cf53_2 (by decide) (iI_toInt (by omega) (by omega)) (iI_toInt (by omega) (by omega)) (fun c2 => ?_) (fun c2 => ?_)
  · refine lv_iload_n X.1 X.2.1 dJ9_max_7cf53_9 rfl (lv_at hl 1 rfl) ?_
    exact PuI.ret X hr hlk dJ9_max_7cf53_10 (nI_nar _) (by congr 1; omega)
  · refine lv_iload_n X.1 X.2.1 dJ9_max_7cf53_5 rfl (lv_at hl 0 rfl) ?_
    refine lv_goto (tgt := 10) X.1 X.2.1 dJ9_max_7cf53_6 (by decide) ?_
    exact PuI.ret X hr hlk dJ9_max_7cf53_10 (nI_nar _) (by congr 1; omega)

set_option maxHeartbeats 4000000 in
set_option maxRecDepth 100000 in
theorem c_least (g : G5) (a : Nat) (k : Nat) (n : Nat) (B : Nat) (T : Nat) (b : Nat) (hc : shp k n B T) (hb : b < B) : PuI yX6_leastRotation cX6_leastRotation 5 (some .int) 1 22 g [.ref a, .int (nI b)] [(a, .inr (6, [.int (nI k), .int (nI n), .int (nI B), .int (nI T)]))] (nI (lrN k T n b)) := by
  refine PuI.of (by decide +kernel) (Nat.le_of_ble_eq_true rfl) ?_
  intro p_ l_ e_ S_ m_ args below meth co X hr hlk hP hK ls hl
  have X : CallFix p_ m_ co cX6_leastRotation 5 S_ args lw_all RX6 := X
  have hl : lv_has ls 5 [(0, .ref a), (1, .int (nI b))] := hl
  obtain ⟨hk2, hk4, hn1, hn6, hB, hT, hBT, hT2⟩ := hc.f
  refine lv_iload_n X.1 X.2.1 dX6_leastRotation_0 rfl (lv_at hl 1 rfl) ?_
  refine lv_istore_n (lv' := [(2, .int (nI b)), (0, .ref a), (1, .int (nI b))]) X.1 X.2.1 dX6_leastRotation_1 rfl hl (by decide) rfl (fun ls hl => ?_)
  refine lv_iload_n X.1 X.2.1 dX6_leastRotation_2 rfl (lv_at hl 2 rfl) ?_
  refine lv_istore_n (lv' := [(3, .int (nI b)), (2, .int (nI b)), (0, .ref a), (1, .int (nI b))]) X.1 X.2.1 dX6_leastRotation_3 rfl hl (by decide) rfl (fun ls hl => ?_)
  refine lv_iconst (v := (nI 1)) X.1 X.2.1 dX6_leastRotation_4 (by decide) ?_
  refine lv_istore (lv' := [(4, .int (nI 1)), (3, .int (nI b)), (2, .int (nI b)), (0, .ref a), (1, .int (nI b))]) X.1 X.2.1 dX6_leastRotation_5 hl (by decide) rfl (fun ls hl => ?_)
  have L7 : ∀ (r : Nat) (m : Nat) (t : Nat) (i : Nat) (h1 : i + r = n) (h2 : t < B) (h3 : m < B) (hq : lrL k T r m t = lrN k T n b) (ls : Array Slot) (hl : lv_has ls 5 [(4, .int (nI i)), (3, .int (nI t)), (2, .int (nI m)), (0, .ref a), (1, .int (nI b))]), W p_ l_ e_ { frames := 1, cells := 0, slots := 0, locals := 22 } S_ m_ args below meth co S_.heap [] 0 0 (MQ below (vp_Si (fun r => r = (nI (lrN k T n b)))) args S_ 0 0 (fun _ => False)) (F0 m_ 7 ls []) := by
    intro r
    induction r with
    | zero =>
      intro m t i h1 h2 h3 hq ls hl
      refine lv_iload X.1 X.2.1 dX6_leastRotation_7 (lv_at hl 0 rfl) ?_
      refine lv_aload_n X.1 X.2.1 dX6_leastRotation_9 rfl (lv_at hl 3 rfl) ?_
      refine va_get (D := g.1) (ci := 6) (v := .int (nI n)) (C := RX6) (T := TX6) (N := 4) X.1 X.2.1 X.2.2.2.2 iwX6 X.2.2.2.1 hK hP 0 rfl rfl 1 (by decide) (X.2.2.2.2 _ q88) (fun _ h9 => h9) rfl dX6_leastRotation_10 ?_
      refine z_icmp_ge (tgt := 38) X dX6_leastRotation_13 (by decide) (nI_toInt (by omega)) (nI_toInt (by omega)) (fun c13 => ?_) (fun c13 => ?_)
      · refine lv_iload_n X.1 X.2.1 dX6_leastRotation_38 rfl (lv_at hl 2 rfl) ?_
        exact PuI.ret X hr hlk dX6_leastRotation_39 (nI_nar _) (by rw [← hq]; rfl)
      · exfalso; omega
    | succ r ih7 =>
      intro m t i h1 h2 h3 hq ls hl
      refine lv_iload X.1 X.2.1 dX6_leastRotation_7 (lv_at hl 0 rfl) ?_
      refine lv_aload_n X.1 X.2.1 dX6_leastRotation_9 rfl (lv_at hl 3 rfl) ?_
      refine va_get (D := g.1) (ci := 6) (v := .int (nI n)) (C := RX6) (T := TX6) (N := 4) X.1 X.2.1 X.2.2.2.2 iwX6 X.2.2.2.1 hK hP 0 rfl rfl 1 (by decide) (X.2.2.2.2 _ q88) (fun _ h9 => h9) rfl dX6_leastRotation_10 ?_
      refine z_icmp_ge (tgt := 38) X dX6_leastRotation_13 (by decide) (nI_toInt (by omega)) (nI_toInt (by omega)) (fun c13 => ?_) (fun c13 => ?_)
      · exfalso; omega
      · refine lv_aload_n X.1 X.2.1 dX6_leastRotation_16 rfl (lv_at hl 3 rfl) ?_
        refine lv_iload_n X.1 X.2.1 dX6_leastRotation_17 rfl (lv_at hl 1 rfl) ?_
        refine lv_aload_n X.1 X.2.1 dX6_leastRotation_18 rfl (lv_at hl 3 rfl) ?_
        refine va_get (D := g.1) (ci := 6) (v := .int (nI T)) (C := RX6) (T := TX6) (N := 4) X.1 X.2.1 X.2.2.2.2 iwX6 X.2.2.2.1 hK hP 0 rfl rfl 3 (by decide) (X.2.2.2.2 _ q90) (fun _ h9 => h9) rfl dX6_leastRotation_19 ?_
        refine (c_turned g a k n B T t T (by omega) (by omega) (by omega)).callV (rest := []) X dX6_leastRotation_22 q398 tX6_turned hK (hP.sub [0] rfl) 0 6 rfl rfl rfl hl ⟨⟨Nat.le_of_ble_eq_true rfl, Nat.le_of_ble_eq_true rfl⟩, Nat.le_of_ble_eq_true rfl, Nat.le_of_ble_eq_true rfl⟩ rfl rfl (Nat.le_of_ble_eq_true rfl) ?_
        have hF := turn_lt hc (w := t) (by omega)
        refine lv_istore_n (lv' := [(3, .int (nI (turnN k T t))), (4, .int (nI i)), (2, .int (nI m)), (0, .ref a), (1, .int (nI b))]) X.1 X.2.1 dX6_leastRotation_25 rfl hl (by decide) rfl (fun ls hl => ?_)
        refine lv_iload_n X.1 X.2.1 dX6_leastRotation_26 rfl (lv_at hl 2 rfl) ?_
        refine lv_iload_n X.1 X.2.1 dX6_leastRotation_27 rfl (lv_at hl 0 rfl) ?_
        refine (c_minN g m (turnN k T t) (by omega) (by omega)).callS (rest := []) X dX6_leastRotation_28 q445 tJ9_min_7cf53 hK (hP.sub [] rfl) hl ⟨⟨Nat.le_of_ble_eq_true rfl, Nat.le_of_ble_eq_true rfl⟩, Nat.le_of_ble_eq_true rfl, Nat.le_of_ble_eq_true rfl⟩ rfl rfl (Nat.le_of_ble_eq_true rfl) ?_
        refine lv_istore_n (lv' := [(2, .int (nI (min m (turnN k T t)))), (3, .int (nI (turnN k T t))), (4, .int (nI i)), (0, .ref a), (1, .int (nI b))]) X.1 X.2.1 dX6_leastRotation_31 rfl hl (by decide) rfl (fun ls hl => ?_)
        refine lv_iinc (v := (nI (i + 1))) (lv' := [(4, .int (nI (i + 1))), (2, .int (nI (min m (turnN k T t)))), (3, .int (nI (turnN k T t))), (0, .ref a), (1, .int (nI b))]) X.1 X.2.1 dX6_leastRotation_32 hl (k := 2) rfl (nI_inc _) (by decide) rfl (fun ls hl => ?_)
        refine lv_goto (tgt := 7) X.1 X.2.1 dX6_leastRotation_35 (by decide) ?_
        exact ih7 (min m (turnN k T t)) (turnN k T t) (i + 1) (by omega) (by omega) (by omega) (by rw [lrL] at hq; exact hq) ls (lv_sub hl [0, 2, 1, 3, 4] rfl)
  exact L7 (n - 1) b b 1 (by omega) (by omega) (by omega) (rfl) ls (lv_sub hl [0, 1, 2, 3, 4] rfl)

set_option maxHeartbeats 4000000 in
set_option maxRecDepth 100000 in
theorem c_rotTot (g : G5) (a : Nat) (k : Nat) (n : Nat) (B : Nat) (T : Nat) (b : Nat) (hc : shp k n B T) (hb : b < B) : PuI yX6_rotationTotal cX6_rotationTotal 4 (some .int) 1 22 g [.ref a, .int (nI b)] [(a, .inr (6, [.int (nI k), .int (nI n), .int (nI B), .int (nI T)]))] (nI (rtN k T n b)) := by
  refine PuI.of (by decide +kernel) (Nat.le_of_ble_eq_true rfl) ?_
  intro p_ l_ e_ S_ m_ args below meth co X hr hlk hP hK ls hl
  have X : CallFix p_ m_ co cX6_rotationTotal 4 S_ args lw_all RX6 := X
  have hl : lv_has ls 4 [(0, .ref a), (1, .int (nI b))] := hl
  obtain ⟨hk2, hk4, hn1, hn6, hB, hT, hBT, hT2⟩ := hc.f
  refine lv_iload_n X.1 X.2.1 dX6_rotationTotal_0 rfl (lv_at hl 1 rfl) ?_
  refine lv_istore_n (lv' := [(2, .int (nI b)), (0, .ref a), (1, .int (nI b))]) X.1 X.2.1 dX6_rotationTotal_1 rfl hl (by decide) rfl (fun ls hl => ?_)
  refine lv_iconst (v := (nI 1)) X.1 X.2.1 dX6_rotationTotal_2 (by decide) ?_
  refine lv_istore_n (lv' := [(3, .int (nI 1)), (2, .int (nI b)), (0, .ref a), (1, .int (nI b))]) X.1 X.2.1 dX6_rotationTotal_3 rfl hl (by decide) rfl (fun ls hl => ?_)
  have L4 : ∀ (r : Nat) (t : Nat) (i : Nat) (h1 : i + r = n) (h2 : t < B) (hq : rtL k T n b r t i = rtN k T n b) (ls : Array Slot) (hl : lv_has ls 4 [(3, .int (nI i)), (2, .int (nI t)), (0, .ref a), (1, .int (nI b))]), W p_ l_ e_ { frames := 1, cells := 0, slots := 0, locals := 22 } S_ m_ args below meth co S_.heap [] 0 0 (MQ below (vp_Si (fun r => r = (nI (rtN k T n b)))) args S_ 0 0 (fun _ => False)) (F0 m_ 4 ls []) := by
    intro r
    induction r with
    | zero =>
      intro t i h1 h2 hq ls hl
      refine lv_iload_n X.1 X.2.1 dX6_rotationTotal_4 rfl (lv_at hl 0 rfl) ?_
      refine lv_aload_n X.1 X.2.1 dX6_rotationTotal_5 rfl (lv_at hl 2 rfl) ?_
      refine va_get (D := g.1) (ci := 6) (v := .int (nI n)) (C := RX6) (T := TX6) (N := 4) X.1 X.2.1 X.2.2.2.2 iwX6 X.2.2.2.1 hK hP 0 rfl rfl 1 (by decide) (X.2.2.2.2 _ q88) (fun _ h9 => h9) rfl dX6_rotationTotal_6 ?_
      refine z_icmp_ge (tgt := 35) X dX6_rotationTotal_9 (by decide) (nI_toInt (by omega)) (nI_toInt (by omega)) (fun c9 => ?_) (fun c9 => ?_)
      · refine lv_aload_n X.1 X.2.1 dX6_rotationTotal_35 rfl (lv_at hl 2 rfl) ?_
        refine va_get (D := g.1) (ci := 6) (v := .int (nI n)) (C := RX6) (T := TX6) (N := 4) X.1 X.2.1 X.2.2.2.2 iwX6 X.2.2.2.1 hK hP 0 rfl rfl 1 (by decide) (X.2.2.2.2 _ q88) (fun _ h9 => h9) rfl dX6_rotationTotal_36 ?_
        exact PuI.ret X hr hlk dX6_rotationTotal_39 (nI_nar _) (by rw [← hq]; rfl)
      · exfalso; omega
    | succ r ih4 =>
      intro t i h1 h2 hq ls hl
      refine lv_iload_n X.1 X.2.1 dX6_rotationTotal_4 rfl (lv_at hl 0 rfl) ?_
      refine lv_aload_n X.1 X.2.1 dX6_rotationTotal_5 rfl (lv_at hl 2 rfl) ?_
      refine va_get (D := g.1) (ci := 6) (v := .int (nI n)) (C := RX6) (T := TX6) (N := 4) X.1 X.2.1 X.2.2.2.2 iwX6 X.2.2.2.1 hK hP 0 rfl rfl 1 (by decide) (X.2.2.2.2 _ q88) (fun _ h9 => h9) rfl dX6_rotationTotal_6 ?_
      refine z_icmp_ge (tgt := 35) X dX6_rotationTotal_9 (by decide) (nI_toInt (by omega)) (nI_toInt (by omega)) (fun c9 => ?_) (fun c9 => ?_)
      · exfalso; omega
      · refine lv_aload_n X.1 X.2.1 dX6_rotationTotal_12 rfl (lv_at hl 2 rfl) ?_
        refine lv_iload_n X.1 X.2.1 dX6_rotationTotal_13 rfl (lv_at hl 1 rfl) ?_
        refine lv_aload_n X.1 X.2.1 dX6_rotationTotal_14 rfl (lv_at hl 2 rfl) ?_
        refine va_get (D := g.1) (ci := 6) (v := .int (nI T)) (C := RX6) (T := TX6) (N := 4) X.1 X.2.1 X.2.2.2.2 iwX6 X.2.2.2.1 hK hP 0 rfl rfl 3 (by decide) (X.2.2.2.2 _ q90) (fun _ h9 => h9) rfl dX6_rotationTotal_15 ?_
        refine (c_turned g a k n B T t T (by omega) (by omega) (by omega)).callV (rest := []) X dX6_rotationTotal_18 q398 tX6_turned hK (hP.sub [0] rfl) 0 6 rfl rfl rfl hl ⟨⟨Nat.le_of_ble_eq_true rfl, Nat.le_of_ble_eq_true rfl⟩, Nat.le_of_ble_eq_true rfl, Nat.le_of_ble_eq_true rfl⟩ rfl rfl (Nat.le_of_ble_eq_true rfl) ?_
        have hF := turn_lt hc (w := t) (by omega)
        refine lv_istore_n (lv' := [(2, .int (nI (turnN k T t))), (3, .int (nI i)), (0, .ref a), (1, .int (nI b))]) X.1 X.2.1 dX6_rotationTotal_21 rfl hl (by decide) rfl (fun ls hl => ?_)
        refine lv_iload_n X.1 X.2.1 dX6_rotationTotal_22 rfl (lv_at hl 0 rfl) ?_
        refine lv_iload_n X.1 X.2.1 dX6_rotationTotal_23 rfl (lv_at hl 3 rfl) ?_
        refine z_icmp_ne (tgt := 29) X dX6_rotationTotal_24 (by decide) (nI_toInt (by omega)) (nI_toInt (by omega)) (fun c24 => ?_) (fun c24 => ?_)
        · refine lv_iinc (v := (nI (i + 1))) (lv' := [(3, .int (nI (i + 1))), (2, .int (nI (turnN k T t))), (0, .ref a), (1, .int (nI b))]) X.1 X.2.1 dX6_rotationTotal_29 hl (k := 1) rfl (nI_inc _) (by decide) rfl (fun ls hl => ?_)
          refine lv_goto (tgt := 4) X.1 X.2.1 dX6_rotationTotal_32 (by decide) ?_
          exact ih4 (turnN k T t) (i + 1) (by omega) (by omega) (by rw [rtL, if_neg (by omega)] at hq; exact hq) ls (lv_sub hl [0, 1, 2, 3] rfl)
        · refine lv_iload_n X.1 X.2.1 dX6_rotationTotal_27 rfl (lv_at hl 1 rfl) ?_
          exact PuI.ret X hr hlk dX6_rotationTotal_28 (nI_nar _) (by rw [rtL, if_pos (by omega)] at hq; rw [← hq])
  exact L4 (n - 1) b 1 (by omega) (by omega) (rfl) ls (lv_sub hl [0, 1, 2, 3] rfl)

set_option maxHeartbeats 4000000 in
set_option maxRecDepth 100000 in
theorem c_succ (g : G5) (a : Nat) (k : Nat) (n : Nat) (B : Nat) (T : Nat) (b : Nat) (hc : shp k n B T) (hb : b < B) : PuI yX6_successor cX6_successor 5 (some .int) 2 45 g [.ref a, .int (nI b)] [(a, .inr (6, [.int (nI k), .int (nI n), .int (nI B), .int (nI T)]))] (nI (sucN k T n b)) := by
  refine PuI.of (by decide +kernel) (Nat.le_of_ble_eq_true rfl) ?_
  intro p_ l_ e_ S_ m_ args below meth co X hr hlk hP hK ls hl
  have X : CallFix p_ m_ co cX6_successor 5 S_ args lw_all RX6 := X
  have hl : lv_has ls 5 [(0, .ref a), (1, .int (nI b))] := hl
  obtain ⟨hk2, hk4, hn1, hn6, hB, hT, hBT, hT2⟩ := hc.f
  have hF1 := dv_lt hc hb
  have hF2 := md_lt hc b
  refine lv_aload_n X.1 X.2.1 dX6_successor_0 rfl (lv_at hl 0 rfl) ?_
  refine lv_iload_n X.1 X.2.1 dX6_successor_1 rfl (lv_at hl 1 rfl) ?_
  refine (c_first g a k n B T b (by assumption) (by omega)).callV (rest := []) X dX6_successor_2 q428 tX6_firstLetter hK (hP.sub [0] rfl) 0 6 rfl rfl rfl hl ⟨⟨Nat.le_of_ble_eq_true rfl, Nat.le_of_ble_eq_true rfl⟩, Nat.le_of_ble_eq_true rfl, Nat.le_of_ble_eq_true rfl⟩ rfl rfl (Nat.le_of_ble_eq_true rfl) ?_
  refine lv_istore_n (lv' := [(2, .int (nI (b / T))), (0, .ref a), (1, .int (nI b))]) X.1 X.2.1 dX6_successor_5 rfl hl (by decide) rfl (fun ls hl => ?_)
  refine lv_aload_n X.1 X.2.1 dX6_successor_6 rfl (lv_at hl 1 rfl) ?_
  refine lv_iload_n X.1 X.2.1 dX6_successor_7 rfl (lv_at hl 2 rfl) ?_
  refine (c_tail g a k n B T b (by assumption) (by omega)).callV (rest := []) X dX6_successor_8 q418 tX6_tail hK (hP.sub [0] rfl) 0 6 rfl rfl rfl hl ⟨⟨Nat.le_of_ble_eq_true rfl, Nat.le_of_ble_eq_true rfl⟩, Nat.le_of_ble_eq_true rfl, Nat.le_of_ble_eq_true rfl⟩ rfl rfl (Nat.le_of_ble_eq_true rfl) ?_
  refine lv_istore_n (lv' := [(3, .int (nI (b % T))), (2, .int (nI (b / T))), (0, .ref a), (1, .int (nI b))]) X.1 X.2.1 dX6_successor_11 rfl hl (by decide) rfl (fun ls hl => ?_)
  refine lv_iconst (v := (nI 1)) X.1 X.2.1 dX6_successor_12 (by decide) ?_
  refine lv_istore (lv' := [(4, .int (nI 1)), (3, .int (nI (b % T))), (2, .int (nI (b / T))), (0, .ref a), (1, .int (nI b))]) X.1 X.2.1 dX6_successor_13 hl (by decide) rfl (fun ls hl => ?_)
  have L15 : ∀ (r : Nat) (t : Nat) (h1 : t + r = k) (ht : 1 ≤ t) (hq : sucL k T n (b % T) r t = sucT k T n (b % T)) (ls : Array Slot) (hl : lv_has ls 5 [(4, .int (nI t)), (3, .int (nI (b % T))), (2, .int (nI (b / T))), (0, .ref a), (1, .int (nI b))]), W p_ l_ e_ { frames := 2, cells := 0, slots := 0, locals := 45 } S_ m_ args below meth co S_.heap [] 0 0 (MQ below (vp_Si (fun r => r = (nI (sucN k T n b)))) args S_ 0 0 (fun _ => False)) (F0 m_ 15 ls []) := by
    intro r
    induction r with
    | zero =>
      intro t h1 ht hq ls hl
      have e9 : sucT k T n (b % T) = t := by rw [← hq]; rfl
      refine lv_iload X.1 X.2.1 dX6_successor_15 (lv_at hl 0 rfl) ?_
      refine lv_aload_n X.1 X.2.1 dX6_successor_17 rfl (lv_at hl 3 rfl) ?_
      refine va_get (D := g.1) (ci := 6) (v := .int (nI k)) (C := RX6) (T := TX6) (N := 4) X.1 X.2.1 X.2.2.2.2 iwX6 X.2.2.2.1 hK hP 0 rfl rfl 0 (by decide) (X.2.2.2.2 _ q87) (fun _ h9 => h9) rfl dX6_successor_18 ?_
      refine z_icmp_ge (tgt := 44) X dX6_successor_21 (by decide) (nI_toInt (by omega)) (nI_toInt (by omega)) (fun c21 => ?_) (fun c21 => ?_)
      · refine lv_iload X.1 X.2.1 dX6_successor_44 (lv_at hl 0 rfl) ?_
        refine lv_aload_n X.1 X.2.1 dX6_successor_46 rfl (lv_at hl 3 rfl) ?_
        refine va_get (D := g.1) (ci := 6) (v := .int (nI k)) (C := RX6) (T := TX6) (N := 4) X.1 X.2.1 X.2.2.2.2 iwX6 X.2.2.2.1 hK hP 0 rfl rfl 0 (by decide) (X.2.2.2.2 _ q87) (fun _ h9 => h9) rfl dX6_successor_47 ?_
        refine z_icmp_eq (tgt := 61) X dX6_successor_50 (by decide) (nI_toInt (by omega)) (nI_toInt (by omega)) (fun c50 => ?_) (fun c50 => ?_)
        · refine lv_iload_n X.1 X.2.1 dX6_successor_61 rfl (lv_at hl 2 rfl) ?_
          exact PuI.ret X hr hlk dX6_successor_62 (nI_nar _) (by first | (exfalso; omega) | skip; unfold sucN; rw [e9]; first | rw [if_pos (by omega)] | (rw [if_neg (by omega)]; first | rw [if_pos (by omega)] | rw [if_neg (by omega)]))
        · refine lv_iload_n X.1 X.2.1 dX6_successor_53 rfl (lv_at hl 2 rfl) ?_
          refine lv_iload X.1 X.2.1 dX6_successor_54 (lv_at hl 0 rfl) ?_
          refine lv_iconst (v := (nI 1)) X.1 X.2.1 dX6_successor_56 (by decide) ?_
          refine n_sub X dX6_successor_57 (by omega) ?_
          refine z_icmp_ge (tgt := 63) X dX6_successor_58 (by decide) (nI_toInt (by omega)) (nI_toInt (by omega)) (fun c58 => ?_) (fun c58 => ?_)
          · refine lv_iload_n X.1 X.2.1 dX6_successor_63 rfl (lv_at hl 2 rfl) ?_
            refine lv_aload_n X.1 X.2.1 dX6_successor_64 rfl (lv_at hl 3 rfl) ?_
            refine va_get (D := g.1) (ci := 6) (v := .int (nI k)) (C := RX6) (T := TX6) (N := 4) X.1 X.2.1 X.2.2.2.2 iwX6 X.2.2.2.1 hK hP 0 rfl rfl 0 (by decide) (X.2.2.2.2 _ q87) (fun _ h9 => h9) rfl dX6_successor_65 ?_
            refine lv_iconst (v := (nI 1)) X.1 X.2.1 dX6_successor_68 (by decide) ?_
            refine n_sub X dX6_successor_69 (by omega) ?_
            refine z_icmp_ne (tgt := 80) X dX6_successor_70 (by decide) (nI_toInt (by omega)) (nI_toInt (by omega)) (fun c70 => ?_) (fun c70 => ?_)
            · refine lv_iload_n X.1 X.2.1 dX6_successor_80 rfl (lv_at hl 2 rfl) ?_
              refine lv_iconst (v := (nI 1)) X.1 X.2.1 dX6_successor_81 (by decide) ?_
              refine n_add X dX6_successor_82 ?_
              exact PuI.ret X hr hlk dX6_successor_83 (nI_nar _) (by first | (exfalso; omega) | skip; unfold sucN; rw [e9]; first | rw [if_pos (by omega)] | (rw [if_neg (by omega)]; first | rw [if_pos (by omega)] | rw [if_neg (by omega)]))
            · refine lv_iload X.1 X.2.1 dX6_successor_73 (lv_at hl 0 rfl) ?_
              refine lv_iconst (v := (nI 1)) X.1 X.2.1 dX6_successor_75 (by decide) ?_
              refine n_sub X dX6_successor_76 (by omega) ?_
              refine lv_goto (tgt := 83) X.1 X.2.1 dX6_successor_77 (by decide) ?_
              exact PuI.ret X hr hlk dX6_successor_83 (nI_nar _) (by first | (exfalso; omega) | skip; unfold sucN; rw [e9]; first | rw [if_pos (by omega)] | (rw [if_neg (by omega)]; first | rw [if_pos (by omega)] | rw [if_neg (by omega)]))
          · refine lv_iload_n X.1 X.2.1 dX6_successor_61 rfl (lv_at hl 2 rfl) ?_
            exact PuI.ret X hr hlk dX6_successor_62 (nI_nar _) (by first | (exfalso; omega) | skip; unfold sucN; rw [e9]; first | rw [if_pos (by omega)] | (rw [if_neg (by omega)]; first | rw [if_pos (by omega)] | rw [if_neg (by omega)]))
      · exfalso; omega
    | succ r ih15 =>
      intro t h1 ht hq ls hl
      refine lv_iload X.1 X.2.1 dX6_successor_15 (lv_at hl 0 rfl) ?_
      refine lv_aload_n X.1 X.2.1 dX6_successor_17 rfl (lv_at hl 3 rfl) ?_
      refine va_get (D := g.1) (ci := 6) (v := .int (nI k)) (C := RX6) (T := TX6) (N := 4) X.1 X.2.1 X.2.2.2.2 iwX6 X.2.2.2.1 hK hP 0 rfl rfl 0 (by decide) (X.2.2.2.2 _ q87) (fun _ h9 => h9) rfl dX6_successor_18 ?_
      refine z_icmp_ge (tgt := 44) X dX6_successor_21 (by decide) (nI_toInt (by omega)) (nI_toInt (by omega)) (fun c21 => ?_) (fun c21 => ?_)
      · exfalso; omega
      · refine lv_aload_n X.1 X.2.1 dX6_successor_24 rfl (lv_at hl 3 rfl) ?_
        refine lv_aload_n X.1 X.2.1 dX6_successor_25 rfl (lv_at hl 3 rfl) ?_
        refine lv_iload_n X.1 X.2.1 dX6_successor_26 rfl (lv_at hl 1 rfl) ?_
        refine lv_iload X.1 X.2.1 dX6_successor_27 (lv_at hl 0 rfl) ?_
        refine (c_ended g a k n B T (b % T) t).callV (rest := [.ref a]) X dX6_successor_29 q419 tX6_ended hK (hP.sub [0] rfl) 0 6 rfl rfl rfl hl ⟨⟨Nat.le_of_ble_eq_true rfl, Nat.le_of_ble_eq_true rfl⟩, Nat.le_of_ble_eq_true rfl, Nat.le_of_ble_eq_true rfl⟩ rfl rfl (Nat.le_of_ble_eq_true rfl) ?_
        have hF3 := suc_ended hc hF2 (t := t) (by omega)
        refine (c_isLeast g a k n B T ((b % T) * k + t) (by assumption) (by omega)).callV (rest := []) X dX6_successor_32 q429 tX6_isLeastRotation hK (hP.sub [0] rfl) 0 6 rfl rfl rfl hl ⟨⟨Nat.le_of_ble_eq_true rfl, Nat.le_of_ble_eq_true rfl⟩, Nat.le_of_ble_eq_true rfl, Nat.le_of_ble_eq_true rfl⟩ rfl rfl (Nat.le_of_ble_eq_true rfl) ?_
        refine b_if_ne (tgt := 44) X dX6_successor_35 (by decide) (fun c35 => ?_) (fun c35 => ?_)
        · have e9 : sucT k T n (b % T) = t := by rw [← hq, sucL, c35]; rfl
          refine lv_iload X.1 X.2.1 dX6_successor_44 (lv_at hl 0 rfl) ?_
          refine lv_aload_n X.1 X.2.1 dX6_successor_46 rfl (lv_at hl 3 rfl) ?_
          refine va_get (D := g.1) (ci := 6) (v := .int (nI k)) (C := RX6) (T := TX6) (N := 4) X.1 X.2.1 X.2.2.2.2 iwX6 X.2.2.2.1 hK hP 0 rfl rfl 0 (by decide) (X.2.2.2.2 _ q87) (fun _ h9 => h9) rfl dX6_successor_47 ?_
          refine z_icmp_eq (tgt := 61) X dX6_successor_50 (by decide) (nI_toInt (by omega)) (nI_toInt (by omega)) (fun c50 => ?_) (fun c50 => ?_)
          · refine lv_iload_n X.1 X.2.1 dX6_successor_61 rfl (lv_at hl 2 rfl) ?_
            exact PuI.ret X hr hlk dX6_successor_62 (nI_nar _) (by first | (exfalso; omega) | skip; unfold sucN; rw [e9]; first | rw [if_pos (by omega)] | (rw [if_neg (by omega)]; first | rw [if_pos (by omega)] | rw [if_neg (by omega)]))
          · refine lv_iload_n X.1 X.2.1 dX6_successor_53 rfl (lv_at hl 2 rfl) ?_
            refine lv_iload X.1 X.2.1 dX6_successor_54 (lv_at hl 0 rfl) ?_
            refine lv_iconst (v := (nI 1)) X.1 X.2.1 dX6_successor_56 (by decide) ?_
            refine n_sub X dX6_successor_57 (by omega) ?_
            refine z_icmp_ge (tgt := 63) X dX6_successor_58 (by decide) (nI_toInt (by omega)) (nI_toInt (by omega)) (fun c58 => ?_) (fun c58 => ?_)
            · refine lv_iload_n X.1 X.2.1 dX6_successor_63 rfl (lv_at hl 2 rfl) ?_
              refine lv_aload_n X.1 X.2.1 dX6_successor_64 rfl (lv_at hl 3 rfl) ?_
              refine va_get (D := g.1) (ci := 6) (v := .int (nI k)) (C := RX6) (T := TX6) (N := 4) X.1 X.2.1 X.2.2.2.2 iwX6 X.2.2.2.1 hK hP 0 rfl rfl 0 (by decide) (X.2.2.2.2 _ q87) (fun _ h9 => h9) rfl dX6_successor_65 ?_
              refine lv_iconst (v := (nI 1)) X.1 X.2.1 dX6_successor_68 (by decide) ?_
              refine n_sub X dX6_successor_69 (by omega) ?_
              refine z_icmp_ne (tgt := 80) X dX6_successor_70 (by decide) (nI_toInt (by omega)) (nI_toInt (by omega)) (fun c70 => ?_) (fun c70 => ?_)
              · refine lv_iload_n X.1 X.2.1 dX6_successor_80 rfl (lv_at hl 2 rfl) ?_
                refine lv_iconst (v := (nI 1)) X.1 X.2.1 dX6_successor_81 (by decide) ?_
                refine n_add X dX6_successor_82 ?_
                exact PuI.ret X hr hlk dX6_successor_83 (nI_nar _) (by first | (exfalso; omega) | skip; unfold sucN; rw [e9]; first | rw [if_pos (by omega)] | (rw [if_neg (by omega)]; first | rw [if_pos (by omega)] | rw [if_neg (by omega)]))
              · refine lv_iload X.1 X.2.1 dX6_successor_73 (lv_at hl 0 rfl) ?_
                refine lv_iconst (v := (nI 1)) X.1 X.2.1 dX6_successor_75 (by decide) ?_
                refine n_sub X dX6_successor_76 (by omega) ?_
                refine lv_goto (tgt := 83) X.1 X.2.1 dX6_successor_77 (by decide) ?_
                exact PuI.ret X hr hlk dX6_successor_83 (nI_nar _) (by first | (exfalso; omega) | skip; unfold sucN; rw [e9]; first | rw [if_pos (by omega)] | (rw [if_neg (by omega)]; first | rw [if_pos (by omega)] | rw [if_neg (by omega)]))
            · refine lv_iload_n X.1 X.2.1 dX6_successor_61 rfl (lv_at hl 2 rfl) ?_
              exact PuI.ret X hr hlk dX6_successor_62 (nI_nar _) (by first | (exfalso; omega) | skip; unfold sucN; rw [e9]; first | rw [if_pos (by omega)] | (rw [if_neg (by omega)]; first | rw [if_pos (by omega)] | rw [if_neg (by omega)]))
        · refine lv_iinc (v := (nI (t + 1))) (lv' := [(4, .int (nI (t + 1))), (3, .int (nI (b % T))), (2, .int (nI (b / T))), (0, .ref a), (1, .int (nI b))]) X.1 X.2.1 dX6_successor_38 hl (k := 0) rfl (nI_inc _) (by decide) rfl (fun ls hl => ?_)
          refine lv_goto (tgt := 15) X.1 X.2.1 dX6_successor_41 (by decide) ?_
          exact ih15 (t + 1) (by omega) (by omega) (by rw [sucL, c35] at hq; exact hq) ls (lv_sub hl [0, 1, 2, 3, 4] rfl)
  exact L15 (k - 1) 1 (by omega) (by omega) (rfl) ls (lv_sub hl [0, 1, 2, 3, 4] rfl)

set_option maxHeartbeats 4000000 in
set_option maxRecDepth 100000 in
theorem c_neckAt (g : G5) (a : Nat) (k : Nat) (n : Nat) (B : Nat) (T : Nat) (x : Int32) (hc : shp k n B T) : PuI yX6_necklaceAt cX6_necklaceAt 4 (some .int) 2 45 g [.ref a, .int x] [(a, .inr (6, [.int (nI k), .int (nI n), .int (nI B), .int (nI T)]))] (nthL (leastB k T n) x.toInt B 0 0) := by
  refine PuI.of (by decide +kernel) (Nat.le_of_ble_eq_true rfl) ?_
  intro p_ l_ e_ S_ m_ args below meth co X hr hlk hP hK ls hl
  have X : CallFix p_ m_ co cX6_necklaceAt 4 S_ args lw_all RX6 := X
  have hl : lv_has ls 4 [(0, .ref a), (1, .int x)] := hl
  obtain ⟨hk2, hk4, hn1, hn6, hB, hT, hBT, hT2⟩ := hc.f
  refine lv_iconst (v := (nI 0)) X.1 X.2.1 dX6_necklaceAt_0 (by decide) ?_
  refine lv_istore_n (lv' := [(2, .int (nI 0)), (0, .ref a), (1, .int x)]) X.1 X.2.1 dX6_necklaceAt_1 rfl hl (by decide) rfl (fun ls hl => ?_)
  refine lv_iconst (v := (nI 0)) X.1 X.2.1 dX6_necklaceAt_2 (by decide) ?_
  refine lv_istore_n (lv' := [(3, .int (nI 0)), (2, .int (nI 0)), (0, .ref a), (1, .int x)]) X.1 X.2.1 dX6_necklaceAt_3 rfl hl (by decide) rfl (fun ls hl => ?_)
  have L4 : ∀ (r : Nat) (v : Nat) (b : Nat) (h1 : b + r = B) (h2 : v ≤ b) (hq : nthL (leastB k T n) x.toInt r b v = nthL (leastB k T n) x.toInt B 0 0) (ls : Array Slot) (hl : lv_has ls 4 [(3, .int (nI b)), (2, .int (nI v)), (0, .ref a), (1, .int x)]), W p_ l_ e_ { frames := 2, cells := 0, slots := 0, locals := 45 } S_ m_ args below meth co S_.heap [] 0 0 (MQ below (vp_Si (fun r => r = (nthL (leastB k T n) x.toInt B 0 0))) args S_ 0 0 (fun _ => False)) (F0 m_ 4 ls []) := by
    intro r
    induction r with
    | zero =>
      intro v b h1 h2 hq ls hl
      refine lv_iload_n X.1 X.2.1 dX6_necklaceAt_4 rfl (lv_at hl 0 rfl) ?_
      refine lv_aload_n X.1 X.2.1 dX6_necklaceAt_5 rfl (lv_at hl 2 rfl) ?_
      refine va_get (D := g.1) (ci := 6) (v := .int (nI B)) (C := RX6) (T := TX6) (N := 4) X.1 X.2.1 X.2.2.2.2 iwX6 X.2.2.2.1 hK hP 0 rfl rfl 2 (by decide) (X.2.2.2.2 _ q89) (fun _ h9 => h9) rfl dX6_necklaceAt_6 ?_
      refine z_icmp_ge (tgt := 36) X dX6_necklaceAt_9 (by decide) (nI_toInt (by omega)) (nI_toInt (by omega)) (fun c9 => ?_) (fun c9 => ?_)
      · refine lv_bipush (v := (-2)) X.1 X.2.1 dX6_necklaceAt_36 (by decide) ?_
        exact PuI.ret X hr hlk dX6_necklaceAt_38 (nI_nar _) (by rw [← hq]; rfl)
      · exfalso; omega
    | succ r ih4 =>
      intro v b h1 h2 hq ls hl
      refine lv_iload_n X.1 X.2.1 dX6_necklaceAt_4 rfl (lv_at hl 0 rfl) ?_
      refine lv_aload_n X.1 X.2.1 dX6_necklaceAt_5 rfl (lv_at hl 2 rfl) ?_
      refine va_get (D := g.1) (ci := 6) (v := .int (nI B)) (C := RX6) (T := TX6) (N := 4) X.1 X.2.1 X.2.2.2.2 iwX6 X.2.2.2.1 hK hP 0 rfl rfl 2 (by decide) (X.2.2.2.2 _ q89) (fun _ h9 => h9) rfl dX6_necklaceAt_6 ?_
      refine z_icmp_ge (tgt := 36) X dX6_necklaceAt_9 (by decide) (nI_toInt (by omega)) (nI_toInt (by omega)) (fun c9 => ?_) (fun c9 => ?_)
      · exfalso; omega
      · refine lv_aload_n X.1 X.2.1 dX6_necklaceAt_12 rfl (lv_at hl 2 rfl) ?_
        refine lv_iload_n X.1 X.2.1 dX6_necklaceAt_13 rfl (lv_at hl 0 rfl) ?_
        refine (c_isLeast g a k n B T b (by assumption) (by omega)).callV (rest := []) X dX6_necklaceAt_14 q429 tX6_isLeastRotation hK (hP.sub [0] rfl) 0 6 rfl rfl rfl hl ⟨⟨Nat.le_of_ble_eq_true rfl, Nat.le_of_ble_eq_true rfl⟩, Nat.le_of_ble_eq_true rfl, Nat.le_of_ble_eq_true rfl⟩ rfl rfl (Nat.le_of_ble_eq_true rfl) ?_
        refine b_if_eq (tgt := 30) X dX6_necklaceAt_17 (by decide) (fun c17 => ?_) (fun c17 => ?_)
        · refine lv_iinc (v := (nI (b + 1))) (lv' := [(3, .int (nI (b + 1))), (2, .int (nI v)), (0, .ref a), (1, .int x)]) X.1 X.2.1 dX6_necklaceAt_30 hl (k := 0) rfl (nI_inc _) (by decide) rfl (fun ls hl => ?_)
          refine lv_goto (tgt := 4) X.1 X.2.1 dX6_necklaceAt_33 (by decide) ?_
          exact ih4 v (b + 1) (by omega) (by omega) (by rw [nthL, c17] at hq; first | exact hq | (rw [if_pos rfl, if_neg c22] at hq; exact hq)) ls (lv_sub hl [0, 1, 2, 3] rfl)
        · refine lv_iload_n X.1 X.2.1 dX6_necklaceAt_20 rfl (lv_at hl 1 rfl) ?_
          refine lv_iload_n X.1 X.2.1 dX6_necklaceAt_21 rfl (lv_at hl 3 rfl) ?_
          refine z_icmp_ne (tgt := 27) X dX6_necklaceAt_22 (by decide) (nI_toInt (by omega)) rfl (fun c22 => ?_) (fun c22 => ?_)
          · refine lv_iinc (v := (nI (v + 1))) (lv' := [(2, .int (nI (v + 1))), (3, .int (nI b)), (0, .ref a), (1, .int x)]) X.1 X.2.1 dX6_necklaceAt_27 hl (k := 1) rfl (nI_inc _) (by decide) rfl (fun ls hl => ?_)
            refine lv_iinc (v := (nI (b + 1))) (lv' := [(3, .int (nI (b + 1))), (2, .int (nI (v + 1))), (0, .ref a), (1, .int x)]) X.1 X.2.1 dX6_necklaceAt_30 hl (k := 1) rfl (nI_inc _) (by decide) rfl (fun ls hl => ?_)
            refine lv_goto (tgt := 4) X.1 X.2.1 dX6_necklaceAt_33 (by decide) ?_
            exact ih4 (v + 1) (b + 1) (by omega) (by omega) (by rw [nthL, c17] at hq; first | exact hq | (rw [if_pos rfl, if_neg c22] at hq; exact hq)) ls (lv_sub hl [0, 1, 2, 3] rfl)
          · refine lv_iload_n X.1 X.2.1 dX6_necklaceAt_25 rfl (lv_at hl 0 rfl) ?_
            exact PuI.ret X hr hlk dX6_necklaceAt_26 (nI_nar _) (by rw [nthL, c17, if_pos rfl, if_pos c22] at hq; exact hq)
  exact L4 B 0 0 (by omega) (by omega) (rfl) ls (lv_sub hl [0, 1, 2, 3] rfl)

set_option maxHeartbeats 4000000 in
set_option maxRecDepth 100000 in
theorem c_isLynLen (g : G5) (a : Nat) (k : Nat) (n : Nat) (B : Nat) (T : Nat) (x : Int32) (hc : shp k n B T) : PuI yX6_isLyndonLength cX6_isLyndonLength 2 (some .boolean) 0 0 g [.ref a, .int x] [(a, .inr (6, [.int (nI k), .int (nI n), .int (nI B), .int (nI T)]))] (bI (decide (1 ≤ x.toInt ∧ x.toInt ≤ (n : Int)))) := by
  refine PuI.of (by decide +kernel) (Nat.le_of_ble_eq_true rfl) ?_
  intro p_ l_ e_ S_ m_ args below meth co X hr hlk hP hK ls hl
  have X : CallFix p_ m_ co cX6_isLyndonLength 2 S_ args lw_all RX6 := X
  have hl : lv_has ls 2 [(0, .ref a), (1, .int x)] := hl
  obtain ⟨hk2, hk4, hn1, hn6, hB, hT, hBT, hT2⟩ := hc.f
  refine lv_iload_n X.1 X.2.1 dX6_isLyndonLength_0 rfl (lv_at hl 1 rfl) ?_
  refine lv_iconst (v := (nI 1)) X.1 X.2.1 dX6_isLyndonLength_1 (by decide) ?_
  refine z_icmp_lt (tgt := 17) X dX6_isLyndonLength_2 (by decide) rfl (nI_toInt (by omega)) (fun c2 => ?_) (fun c2 => ?_)
  · refine lv_iconst (v := (nI 0)) X.1 X.2.1 dX6_isLyndonLength_17 (by decide) ?_
    exact PuI.ret X hr hlk dX6_isLyndonLength_18 (bI_nar _) (by first | exact bt (by exact decide_eq_true (by omega)) | exact bf (by exact decide_eq_false (by omega)))
  · refine lv_iload_n X.1 X.2.1 dX6_isLyndonLength_5 rfl (lv_at hl 1 rfl) ?_
    refine lv_aload_n X.1 X.2.1 dX6_isLyndonLength_6 rfl (lv_at hl 0 rfl) ?_
    refine va_get (D := g.1) (ci := 6) (v := .int (nI n)) (C := RX6) (T := TX6) (N := 4) X.1 X.2.1 X.2.2.2.2 iwX6 X.2.2.2.1 hK hP 0 rfl rfl 1 (by decide) (X.2.2.2.2 _ q88) (fun _ h9 => h9) rfl dX6_isLyndonLength_7 ?_
    refine z_icmp_gt (tgt := 17) X dX6_isLyndonLength_10 (by decide) rfl (nI_toInt (by omega)) (fun c10 => ?_) (fun c10 => ?_)
    · refine lv_iconst (v := (nI 0)) X.1 X.2.1 dX6_isLyndonLength_17 (by decide) ?_
      exact PuI.ret X hr hlk dX6_isLyndonLength_18 (bI_nar _) (by first | exact bt (by exact decide_eq_true (by omega)) | exact bf (by exact decide_eq_false (by omega)))
    · refine lv_iconst (v := (nI 1)) X.1 X.2.1 dX6_isLyndonLength_13 (by decide) ?_
      refine lv_goto (tgt := 18) X.1 X.2.1 dX6_isLyndonLength_14 (by decide) ?_
      exact PuI.ret X hr hlk dX6_isLyndonLength_18 (bI_nar _) (by first | exact bt (by exact decide_eq_true (by omega)) | exact bf (by exact decide_eq_false (by omega)))

set_option maxHeartbeats 4000000 in
set_option maxRecDepth 100000 in
theorem c_isLyn (g : G5) (a : Nat) (k : Nat) (n : Nat) (B : Nat) (T : Nat) (b : Nat) (m : Nat) (hc : shp k n B T) (h1m : 1 ≤ m) (hmn : m ≤ n) (hb : b < k ^ m) : PuI yX6_isLyndon cX6_isLyndon 6 (some .boolean) 1 23 g [.ref a, .int (nI b), .int (nI m)] [(a, .inr (6, [.int (nI k), .int (nI n), .int (nI B), .int (nI T)]))] (bI (lynB k m b)) := by
  refine PuI.of (by decide +kernel) (Nat.le_of_ble_eq_true rfl) ?_
  intro p_ l_ e_ S_ m_ args below meth co X hr hlk hP hK ls hl
  have X : CallFix p_ m_ co cX6_isLyndon 6 S_ args lw_all RX6 := X
  have hl : lv_has ls 6 [(0, .ref a), (1, .int (nI b)), (2, .int (nI m))] := hl
  obtain ⟨hk2, hk4, hn1, hn6, hB, hT, hBT, hT2⟩ := hc.f
  have hs := shp_sub hc h1m hmn
  obtain ⟨_, _, _, _, hB2, hT3, _, hT4⟩ := hs.f
  refine lv_aload_n X.1 X.2.1 dX6_isLyndon_0 rfl (lv_at hl 0 rfl) ?_
  refine va_get (D := g.1) (ci := 6) (v := .int (nI k)) (C := RX6) (T := TX6) (N := 4) X.1 X.2.1 X.2.2.2.2 iwX6 X.2.2.2.1 hK hP 0 rfl rfl 0 (by decide) (X.2.2.2.2 _ q87) (fun _ h9 => h9) rfl dX6_isLyndon_1 ?_
  refine lv_iload_n X.1 X.2.1 dX6_isLyndon_4 rfl (lv_at hl 2 rfl) ?_
  refine lv_iconst (v := (nI 1)) X.1 X.2.1 dX6_isLyndon_5 (by decide) ?_
  refine n_sub X dX6_isLyndon_6 (by omega) ?_
  refine (c_power g k (m - 1) (by omega)).callS (rest := []) X dX6_isLyndon_7 q277 tX6_power hK (hP.sub [] rfl) hl ⟨⟨Nat.le_of_ble_eq_true rfl, Nat.le_of_ble_eq_true rfl⟩, Nat.le_of_ble_eq_true rfl, Nat.le_of_ble_eq_true rfl⟩ rfl rfl (Nat.le_of_ble_eq_true rfl) ?_
  refine lv_istore_n (lv' := [(3, .int (nI (k ^ (m - 1)))), (0, .ref a), (1, .int (nI b)), (2, .int (nI m))]) X.1 X.2.1 dX6_isLyndon_10 rfl hl (by decide) rfl (fun ls hl => ?_)
  refine lv_iload_n X.1 X.2.1 dX6_isLyndon_11 rfl (lv_at hl 2 rfl) ?_
  refine lv_istore (lv' := [(4, .int (nI b)), (3, .int (nI (k ^ (m - 1)))), (0, .ref a), (1, .int (nI b)), (2, .int (nI m))]) X.1 X.2.1 dX6_isLyndon_12 hl (by decide) rfl (fun ls hl => ?_)
  refine lv_iconst (v := (nI 1)) X.1 X.2.1 dX6_isLyndon_14 (by decide) ?_
  refine lv_istore (lv' := [(5, .int (nI 1)), (4, .int (nI b)), (3, .int (nI (k ^ (m - 1)))), (0, .ref a), (1, .int (nI b)), (2, .int (nI m))]) X.1 X.2.1 dX6_isLyndon_15 hl (by decide) rfl (fun ls hl => ?_)
  have L17 : ∀ (r : Nat) (t : Nat) (i : Nat) (h1 : i + r = m) (h2 : t < k ^ m) (hq : lynL k (k ^ (m - 1)) b r t = lynB k m b) (ls : Array Slot) (hl : lv_has ls 6 [(5, .int (nI i)), (4, .int (nI t)), (3, .int (nI (k ^ (m - 1)))), (0, .ref a), (1, .int (nI b)), (2, .int (nI m))]), W p_ l_ e_ { frames := 1, cells := 0, slots := 0, locals := 23 } S_ m_ args below meth co S_.heap [] 0 0 (MQ below (vp_Si (fun r => r = (bI (lynB k m b)))) args S_ 0 0 (fun _ => False)) (F0 m_ 17 ls []) := by
    intro r
    induction r with
    | zero =>
      intro t i h1 h2 hq ls hl
      refine lv_iload X.1 X.2.1 dX6_isLyndon_17 (lv_at hl 0 rfl) ?_
      refine lv_iload_n X.1 X.2.1 dX6_isLyndon_19 rfl (lv_at hl 5 rfl) ?_
      refine z_icmp_ge (tgt := 46) X dX6_isLyndon_20 (by decide) (nI_toInt (by omega)) (nI_toInt (by omega)) (fun c20 => ?_) (fun c20 => ?_)
      · refine lv_iconst (v := (nI 1)) X.1 X.2.1 dX6_isLyndon_46 (by decide) ?_
        exact PuI.ret X hr hlk dX6_isLyndon_47 (bI_nar _) (by rw [← hq]; rfl)
      · exfalso; omega
    | succ r ih17 =>
      intro t i h1 h2 hq ls hl
      refine lv_iload X.1 X.2.1 dX6_isLyndon_17 (lv_at hl 0 rfl) ?_
      refine lv_iload_n X.1 X.2.1 dX6_isLyndon_19 rfl (lv_at hl 5 rfl) ?_
      refine z_icmp_ge (tgt := 46) X dX6_isLyndon_20 (by decide) (nI_toInt (by omega)) (nI_toInt (by omega)) (fun c20 => ?_) (fun c20 => ?_)
      · exfalso; omega
      · refine lv_aload_n X.1 X.2.1 dX6_isLyndon_23 rfl (lv_at hl 3 rfl) ?_
        refine lv_iload X.1 X.2.1 dX6_isLyndon_24 (lv_at hl 1 rfl) ?_
        refine lv_iload_n X.1 X.2.1 dX6_isLyndon_26 rfl (lv_at hl 2 rfl) ?_
        refine (c_turned g a k n B T t (k ^ (m - 1)) (by omega) (by omega) (by omega)).callV (rest := []) X dX6_isLyndon_27 q398 tX6_turned hK (hP.sub [0] rfl) 0 6 rfl rfl rfl hl ⟨⟨Nat.le_of_ble_eq_true rfl, Nat.le_of_ble_eq_true rfl⟩, Nat.le_of_ble_eq_true rfl, Nat.le_of_ble_eq_true rfl⟩ rfl rfl (Nat.le_of_ble_eq_true rfl) ?_
        have hF := turn_lt hs (w := t) (by omega)
        refine lv_istore (lv' := [(4, .int (nI (turnN k (k ^ (m - 1)) t))), (5, .int (nI i)), (3, .int (nI (k ^ (m - 1)))), (0, .ref a), (1, .int (nI b)), (2, .int (nI m))]) X.1 X.2.1 dX6_isLyndon_30 hl (by decide) rfl (fun ls hl => ?_)
        refine lv_iload X.1 X.2.1 dX6_isLyndon_32 (lv_at hl 0 rfl) ?_
        refine lv_iload_n X.1 X.2.1 dX6_isLyndon_34 rfl (lv_at hl 4 rfl) ?_
        refine z_icmp_gt (tgt := 40) X dX6_isLyndon_35 (by decide) (nI_toInt (by omega)) (nI_toInt (by omega)) (fun c35 => ?_) (fun c35 => ?_)
        · refine lv_iinc (v := (nI (i + 1))) (lv' := [(5, .int (nI (i + 1))), (4, .int (nI (turnN k (k ^ (m - 1)) t))), (3, .int (nI (k ^ (m - 1)))), (0, .ref a), (1, .int (nI b)), (2, .int (nI m))]) X.1 X.2.1 dX6_isLyndon_40 hl (k := 1) rfl (nI_inc _) (by decide) rfl (fun ls hl => ?_)
          refine lv_goto (tgt := 17) X.1 X.2.1 dX6_isLyndon_43 (by decide) ?_
          exact ih17 (turnN k (k ^ (m - 1)) t) (i + 1) (by omega) (by omega) (by rw [lynL, if_pos (by omega)] at hq; exact hq) ls (lv_sub hl [0, 1, 2, 3, 4, 5] rfl)
        · refine lv_iconst (v := (nI 0)) X.1 X.2.1 dX6_isLyndon_38 (by decide) ?_
          exact PuI.ret X hr hlk dX6_isLyndon_39 (bI_nar _) (by rw [lynL, if_neg (by omega)] at hq; rw [← hq]; rfl)
  exact L17 (m - 1) b 1 (by omega) (by omega) (rfl) ls (lv_sub hl [0, 1, 2, 3, 4, 5] rfl)

set_option maxHeartbeats 4000000 in
set_option maxRecDepth 100000 in
theorem c_lynTot (g : G5) (a : Nat) (k : Nat) (n : Nat) (B : Nat) (T : Nat) (m : Nat) (hc : shp k n B T) (h1m : 1 ≤ m) (hmn : m ≤ n) : PuI yX6_lyndonTotal cX6_lyndonTotal 5 (some .int) 2 48 g [.ref a, .int (nI m)] [(a, .inr (6, [.int (nI k), .int (nI n), .int (nI B), .int (nI T)]))] (nI (cntL (lynB k m) (k ^ m) 0 0)) := by
  refine PuI.of (by decide +kernel) (Nat.le_of_ble_eq_true rfl) ?_
  intro p_ l_ e_ S_ m_ args below meth co X hr hlk hP hK ls hl
  have X : CallFix p_ m_ co cX6_lyndonTotal 5 S_ args lw_all RX6 := X
  have hl : lv_has ls 5 [(0, .ref a), (1, .int (nI m))] := hl
  obtain ⟨hk2, hk4, hn1, hn6, hB, hT, hBT, hT2⟩ := hc.f
  have hs := shp_sub hc h1m hmn
  obtain ⟨_, _, _, _, hB2, hT3, _, hT4⟩ := hs.f
  refine lv_aload_n X.1 X.2.1 dX6_lyndonTotal_0 rfl (lv_at hl 0 rfl) ?_
  refine va_get (D := g.1) (ci := 6) (v := .int (nI k)) (C := RX6) (T := TX6) (N := 4) X.1 X.2.1 X.2.2.2.2 iwX6 X.2.2.2.1 hK hP 0 rfl rfl 0 (by decide) (X.2.2.2.2 _ q87) (fun _ h9 => h9) rfl dX6_lyndonTotal_1 ?_
  refine lv_iload_n X.1 X.2.1 dX6_lyndonTotal_4 rfl (lv_at hl 1 rfl) ?_
  refine (c_power g k m (by omega)).callS (rest := []) X dX6_lyndonTotal_5 q277 tX6_power hK (hP.sub [] rfl) hl ⟨⟨Nat.le_of_ble_eq_true rfl, Nat.le_of_ble_eq_true rfl⟩, Nat.le_of_ble_eq_true rfl, Nat.le_of_ble_eq_true rfl⟩ rfl rfl (Nat.le_of_ble_eq_true rfl) ?_
  refine lv_istore_n (lv' := [(2, .int (nI (k ^ m))), (0, .ref a), (1, .int (nI m))]) X.1 X.2.1 dX6_lyndonTotal_8 rfl hl (by decide) rfl (fun ls hl => ?_)
  refine lv_iconst (v := (nI 0)) X.1 X.2.1 dX6_lyndonTotal_9 (by decide) ?_
  refine lv_istore_n (lv' := [(3, .int (nI 0)), (2, .int (nI (k ^ m))), (0, .ref a), (1, .int (nI m))]) X.1 X.2.1 dX6_lyndonTotal_10 rfl hl (by decide) rfl (fun ls hl => ?_)
  refine lv_iconst (v := (nI 0)) X.1 X.2.1 dX6_lyndonTotal_11 (by decide) ?_
  refine lv_istore (lv' := [(4, .int (nI 0)), (3, .int (nI 0)), (2, .int (nI (k ^ m))), (0, .ref a), (1, .int (nI m))]) X.1 X.2.1 dX6_lyndonTotal_12 hl (by decide) rfl (fun ls hl => ?_)
  have L14 : ∀ (r : Nat) (v : Nat) (b : Nat) (h1 : b + r = k ^ m) (hq : cntL (lynB k m) r b v = cntL (lynB k m) (k ^ m) 0 0) (ls : Array Slot) (hl : lv_has ls 5 [(4, .int (nI b)), (3, .int (nI v)), (2, .int (nI (k ^ m))), (0, .ref a), (1, .int (nI m))]), W p_ l_ e_ { frames := 2, cells := 0, slots := 0, locals := 48 } S_ m_ args below meth co S_.heap [] 0 0 (MQ below (vp_Si (fun r => r = (nI (cntL (lynB k m) (k ^ m) 0 0)))) args S_ 0 0 (fun _ => False)) (F0 m_ 14 ls []) := by
    intro r
    induction r with
    | zero =>
      intro v b h1 hq ls hl
      refine lv_iload X.1 X.2.1 dX6_lyndonTotal_14 (lv_at hl 0 rfl) ?_
      refine lv_iload_n X.1 X.2.1 dX6_lyndonTotal_16 rfl (lv_at hl 2 rfl) ?_
      refine z_icmp_ge (tgt := 39) X dX6_lyndonTotal_17 (by decide) (nI_toInt (by omega)) (nI_toInt (by omega)) (fun c17 => ?_) (fun c17 => ?_)
      · refine lv_iload_n X.1 X.2.1 dX6_lyndonTotal_39 rfl (lv_at hl 1 rfl) ?_
        exact PuI.ret X hr hlk dX6_lyndonTotal_40 (nI_nar _) (by rw [← hq]; rfl)
      · exfalso; omega
    | succ r ih14 =>
      intro v b h1 hq ls hl
      refine lv_iload X.1 X.2.1 dX6_lyndonTotal_14 (lv_at hl 0 rfl) ?_
      refine lv_iload_n X.1 X.2.1 dX6_lyndonTotal_16 rfl (lv_at hl 2 rfl) ?_
      refine z_icmp_ge (tgt := 39) X dX6_lyndonTotal_17 (by decide) (nI_toInt (by omega)) (nI_toInt (by omega)) (fun c17 => ?_) (fun c17 => ?_)
      · exfalso; omega
      · refine lv_aload_n X.1 X.2.1 dX6_lyndonTotal_20 rfl (lv_at hl 3 rfl) ?_
        refine lv_iload X.1 X.2.1 dX6_lyndonTotal_21 (lv_at hl 0 rfl) ?_
        refine lv_iload_n X.1 X.2.1 dX6_lyndonTotal_23 rfl (lv_at hl 4 rfl) ?_
        refine (c_isLyn g a k n B T b m (by assumption) (by omega) (by omega) (by omega)).callV (rest := []) X dX6_lyndonTotal_24 q792 tX6_isLyndon hK (hP.sub [0] rfl) 0 6 rfl rfl rfl hl ⟨⟨Nat.le_of_ble_eq_true rfl, Nat.le_of_ble_eq_true rfl⟩, Nat.le_of_ble_eq_true rfl, Nat.le_of_ble_eq_true rfl⟩ rfl rfl (Nat.le_of_ble_eq_true rfl) ?_
        refine b_if_eq (tgt := 33) X dX6_lyndonTotal_27 (by decide) (fun c27 => ?_) (fun c27 => ?_)
        · refine lv_iinc (v := (nI (b + 1))) (lv' := [(4, .int (nI (b + 1))), (3, .int (nI v)), (2, .int (nI (k ^ m))), (0, .ref a), (1, .int (nI m))]) X.1 X.2.1 dX6_lyndonTotal_33 hl (k := 0) rfl (nI_inc _) (by decide) rfl (fun ls hl => ?_)
          refine lv_goto (tgt := 14) X.1 X.2.1 dX6_lyndonTotal_36 (by decide) ?_
          exact ih14 v (b + 1) (by omega) (by rw [cntL, c27] at hq; exact hq) ls (lv_sub hl [0, 1, 2, 3, 4] rfl)
        · refine lv_iinc (v := (nI (v + 1))) (lv' := [(3, .int (nI (v + 1))), (4, .int (nI b)), (2, .int (nI (k ^ m))), (0, .ref a), (1, .int (nI m))]) X.1 X.2.1 dX6_lyndonTotal_30 hl (k := 1) rfl (nI_inc _) (by decide) rfl (fun ls hl => ?_)
          refine lv_iinc (v := (nI (b + 1))) (lv' := [(4, .int (nI (b + 1))), (3, .int (nI (v + 1))), (2, .int (nI (k ^ m))), (0, .ref a), (1, .int (nI m))]) X.1 X.2.1 dX6_lyndonTotal_33 hl (k := 1) rfl (nI_inc _) (by decide) rfl (fun ls hl => ?_)
          refine lv_goto (tgt := 14) X.1 X.2.1 dX6_lyndonTotal_36 (by decide) ?_
          exact ih14 (v + 1) (b + 1) (by omega) (by rw [cntL, c27] at hq; exact hq) ls (lv_sub hl [0, 1, 2, 3, 4] rfl)
  exact L14 (k ^ m) 0 0 (by omega) (rfl) ls (lv_sub hl [0, 1, 2, 3, 4] rfl)

set_option maxHeartbeats 4000000 in
set_option maxRecDepth 100000 in
theorem c_lynAt (g : G5) (a : Nat) (k : Nat) (n : Nat) (B : Nat) (T : Nat) (m : Nat) (x : Int32) (hc : shp k n B T) (h1m : 1 ≤ m) (hmn : m ≤ n) : PuI yX6_lyndonAt cX6_lyndonAt 6 (some .int) 2 48 g [.ref a, .int (nI m), .int x] [(a, .inr (6, [.int (nI k), .int (nI n), .int (nI B), .int (nI T)]))] (nthL (lynB k m) x.toInt (k ^ m) 0 0) := by
  refine PuI.of (by decide +kernel) (Nat.le_of_ble_eq_true rfl) ?_
  intro p_ l_ e_ S_ m_ args below meth co X hr hlk hP hK ls hl
  have X : CallFix p_ m_ co cX6_lyndonAt 6 S_ args lw_all RX6 := X
  have hl : lv_has ls 6 [(0, .ref a), (1, .int (nI m)), (2, .int x)] := hl
  obtain ⟨hk2, hk4, hn1, hn6, hB, hT, hBT, hT2⟩ := hc.f
  have hs := shp_sub hc h1m hmn
  obtain ⟨_, _, _, _, hB2, hT3, _, hT4⟩ := hs.f
  refine lv_aload_n X.1 X.2.1 dX6_lyndonAt_0 rfl (lv_at hl 0 rfl) ?_
  refine va_get (D := g.1) (ci := 6) (v := .int (nI k)) (C := RX6) (T := TX6) (N := 4) X.1 X.2.1 X.2.2.2.2 iwX6 X.2.2.2.1 hK hP 0 rfl rfl 0 (by decide) (X.2.2.2.2 _ q87) (fun _ h9 => h9) rfl dX6_lyndonAt_1 ?_
  refine lv_iload_n X.1 X.2.1 dX6_lyndonAt_4 rfl (lv_at hl 1 rfl) ?_
  refine (c_power g k m (by omega)).callS (rest := []) X dX6_lyndonAt_5 q277 tX6_power hK (hP.sub [] rfl) hl ⟨⟨Nat.le_of_ble_eq_true rfl, Nat.le_of_ble_eq_true rfl⟩, Nat.le_of_ble_eq_true rfl, Nat.le_of_ble_eq_true rfl⟩ rfl rfl (Nat.le_of_ble_eq_true rfl) ?_
  refine lv_istore_n (lv' := [(3, .int (nI (k ^ m))), (0, .ref a), (1, .int (nI m)), (2, .int x)]) X.1 X.2.1 dX6_lyndonAt_8 rfl hl (by decide) rfl (fun ls hl => ?_)
  refine lv_iconst (v := (nI 0)) X.1 X.2.1 dX6_lyndonAt_9 (by decide) ?_
  refine lv_istore (lv' := [(4, .int (nI 0)), (3, .int (nI (k ^ m))), (0, .ref a), (1, .int (nI m)), (2, .int x)]) X.1 X.2.1 dX6_lyndonAt_10 hl (by decide) rfl (fun ls hl => ?_)
  refine lv_iconst (v := (nI 0)) X.1 X.2.1 dX6_lyndonAt_12 (by decide) ?_
  refine lv_istore (lv' := [(5, .int (nI 0)), (4, .int (nI 0)), (3, .int (nI (k ^ m))), (0, .ref a), (1, .int (nI m)), (2, .int x)]) X.1 X.2.1 dX6_lyndonAt_13 hl (by decide) rfl (fun ls hl => ?_)
  have L15 : ∀ (r : Nat) (v : Nat) (b : Nat) (h1 : b + r = k ^ m) (h2 : v ≤ b) (hq : nthL (lynB k m) x.toInt r b v = nthL (lynB k m) x.toInt (k ^ m) 0 0) (ls : Array Slot) (hl : lv_has ls 6 [(5, .int (nI b)), (4, .int (nI v)), (3, .int (nI (k ^ m))), (0, .ref a), (1, .int (nI m)), (2, .int x)]), W p_ l_ e_ { frames := 2, cells := 0, slots := 0, locals := 48 } S_ m_ args below meth co S_.heap [] 0 0 (MQ below (vp_Si (fun r => r = (nthL (lynB k m) x.toInt (k ^ m) 0 0))) args S_ 0 0 (fun _ => False)) (F0 m_ 15 ls []) := by
    intro r
    induction r with
    | zero =>
      intro v b h1 h2 hq ls hl
      refine lv_iload X.1 X.2.1 dX6_lyndonAt_15 (lv_at hl 0 rfl) ?_
      refine lv_iload_n X.1 X.2.1 dX6_lyndonAt_17 rfl (lv_at hl 2 rfl) ?_
      refine z_icmp_ge (tgt := 49) X dX6_lyndonAt_18 (by decide) (nI_toInt (by omega)) (nI_toInt (by omega)) (fun c18 => ?_) (fun c18 => ?_)
      · refine lv_bipush (v := (-2)) X.1 X.2.1 dX6_lyndonAt_49 (by decide) ?_
        exact PuI.ret X hr hlk dX6_lyndonAt_51 (nI_nar _) (by rw [← hq]; rfl)
      · exfalso; omega
    | succ r ih15 =>
      intro v b h1 h2 hq ls hl
      refine lv_iload X.1 X.2.1 dX6_lyndonAt_15 (lv_at hl 0 rfl) ?_
      refine lv_iload_n X.1 X.2.1 dX6_lyndonAt_17 rfl (lv_at hl 2 rfl) ?_
      refine z_icmp_ge (tgt := 49) X dX6_lyndonAt_18 (by decide) (nI_toInt (by omega)) (nI_toInt (by omega)) (fun c18 => ?_) (fun c18 => ?_)
      · exfalso; omega
      · refine lv_aload_n X.1 X.2.1 dX6_lyndonAt_21 rfl (lv_at hl 3 rfl) ?_
        refine lv_iload X.1 X.2.1 dX6_lyndonAt_22 (lv_at hl 0 rfl) ?_
        refine lv_iload_n X.1 X.2.1 dX6_lyndonAt_24 rfl (lv_at hl 4 rfl) ?_
        refine (c_isLyn g a k n B T b m (by assumption) (by omega) (by omega) (by omega)).callV (rest := []) X dX6_lyndonAt_25 q792 tX6_isLyndon hK (hP.sub [0] rfl) 0 6 rfl rfl rfl hl ⟨⟨Nat.le_of_ble_eq_true rfl, Nat.le_of_ble_eq_true rfl⟩, Nat.le_of_ble_eq_true rfl, Nat.le_of_ble_eq_true rfl⟩ rfl rfl (Nat.le_of_ble_eq_true rfl) ?_
        refine b_if_eq (tgt := 43) X dX6_lyndonAt_28 (by decide) (fun c28 => ?_) (fun c28 => ?_)
        · refine lv_iinc (v := (nI (b + 1))) (lv' := [(5, .int (nI (b + 1))), (4, .int (nI v)), (3, .int (nI (k ^ m))), (0, .ref a), (1, .int (nI m)), (2, .int x)]) X.1 X.2.1 dX6_lyndonAt_43 hl (k := 0) rfl (nI_inc _) (by decide) rfl (fun ls hl => ?_)
          refine lv_goto (tgt := 15) X.1 X.2.1 dX6_lyndonAt_46 (by decide) ?_
          exact ih15 v (b + 1) (by omega) (by omega) (by rw [nthL, c28] at hq; first | exact hq | (rw [if_pos rfl, if_neg c34] at hq; exact hq)) ls (lv_sub hl [0, 1, 2, 3, 4, 5] rfl)
        · refine lv_iload X.1 X.2.1 dX6_lyndonAt_31 (lv_at hl 1 rfl) ?_
          refine lv_iload_n X.1 X.2.1 dX6_lyndonAt_33 rfl (lv_at hl 5 rfl) ?_
          refine z_icmp_ne (tgt := 40) X dX6_lyndonAt_34 (by decide) (nI_toInt (by omega)) rfl (fun c34 => ?_) (fun c34 => ?_)
          · refine lv_iinc (v := (nI (v + 1))) (lv' := [(4, .int (nI (v + 1))), (5, .int (nI b)), (3, .int (nI (k ^ m))), (0, .ref a), (1, .int (nI m)), (2, .int x)]) X.1 X.2.1 dX6_lyndonAt_40 hl (k := 1) rfl (nI_inc _) (by decide) rfl (fun ls hl => ?_)
            refine lv_iinc (v := (nI (b + 1))) (lv' := [(5, .int (nI (b + 1))), (4, .int (nI (v + 1))), (3, .int (nI (k ^ m))), (0, .ref a), (1, .int (nI m)), (2, .int x)]) X.1 X.2.1 dX6_lyndonAt_43 hl (k := 1) rfl (nI_inc _) (by decide) rfl (fun ls hl => ?_)
            refine lv_goto (tgt := 15) X.1 X.2.1 dX6_lyndonAt_46 (by decide) ?_
            exact ih15 (v + 1) (b + 1) (by omega) (by omega) (by rw [nthL, c28] at hq; first | exact hq | (rw [if_pos rfl, if_neg c34] at hq; exact hq)) ls (lv_sub hl [0, 1, 2, 3, 4, 5] rfl)
          · refine lv_iload X.1 X.2.1 dX6_lyndonAt_37 (lv_at hl 0 rfl) ?_
            exact PuI.ret X hr hlk dX6_lyndonAt_39 (nI_nar _) (by rw [nthL, c28, if_pos rfl, if_pos c34] at hq; exact hq)
  exact L15 (k ^ m) 0 0 (by omega) (by omega) (rfl) ls (lv_sub hl [0, 1, 2, 3, 4, 5] rfl)

set_option maxHeartbeats 4000000 in
set_option maxRecDepth 100000 in
theorem c_fact (g : G5) (m : Nat) (hm : 1 ≤ m) (hm4 : m ≤ 4) : PuI yX6_factorial cX6_factorial 3 (some .int) 0 0 g [.int (nI m)] [] (nI (facN m)) := by
  refine PuI.of (by decide +kernel) (Nat.le_of_ble_eq_true rfl) ?_
  intro p_ l_ e_ S_ m_ args below meth co X hr hlk hP hK ls hl
  have X : CallFix p_ m_ co cX6_factorial 3 S_ args lw_all RX6 := X
  have hl : lv_has ls 3 [(0, .int (nI m))] := hl
  refine lv_iconst (v := (nI 1)) X.1 X.2.1 dX6_factorial_0 (by decide) ?_
  refine lv_istore_n (lv' := [(1, .int (nI 1)), (0, .int (nI m))]) X.1 X.2.1 dX6_factorial_1 rfl hl (by decide) rfl (fun ls hl => ?_)
  refine lv_iconst (v := (nI 2)) X.1 X.2.1 dX6_factorial_2 (by decide) ?_
  refine lv_istore_n (lv' := [(2, .int (nI 2)), (1, .int (nI 1)), (0, .int (nI m))]) X.1 X.2.1 dX6_factorial_3 rfl hl (by decide) rfl (fun ls hl => ?_)
  have L4 : ∀ (r : Nat) (v : Nat) (i : Nat) (h1 : i + r = m + 1) (h3 : 1 ≤ i) (hq : v = facN (i - 1)) (ls : Array Slot) (hl : lv_has ls 3 [(2, .int (nI i)), (1, .int (nI v)), (0, .int (nI m))]), W p_ l_ e_ { frames := 0, cells := 0, slots := 0, locals := 0 } S_ m_ args below meth co S_.heap [] 0 0 (MQ below (vp_Si (fun r => r = (nI (facN m)))) args S_ 0 0 (fun _ => False)) (F0 m_ 4 ls []) := by
    intro r
    induction r with
    | zero =>
      intro v i h1 h3 hq ls hl
      refine lv_iload_n X.1 X.2.1 dX6_factorial_4 rfl (lv_at hl 0 rfl) ?_
      refine lv_iload_n X.1 X.2.1 dX6_factorial_5 rfl (lv_at hl 2 rfl) ?_
      refine z_icmp_gt (tgt := 19) X dX6_factorial_6 (by decide) (nI_toInt (by omega)) (nI_toInt (by omega)) (fun c6 => ?_) (fun c6 => ?_)
      · refine lv_iload_n X.1 X.2.1 dX6_factorial_19 rfl (lv_at hl 1 rfl) ?_
        exact PuI.ret X hr hlk dX6_factorial_20 (nI_nar _) (by rw [hq, show i - 1 = m by omega])
      · exfalso; omega
    | succ r ih4 =>
      intro v i h1 h3 hq ls hl
      refine lv_iload_n X.1 X.2.1 dX6_factorial_4 rfl (lv_at hl 0 rfl) ?_
      refine lv_iload_n X.1 X.2.1 dX6_factorial_5 rfl (lv_at hl 2 rfl) ?_
      refine z_icmp_gt (tgt := 19) X dX6_factorial_6 (by decide) (nI_toInt (by omega)) (nI_toInt (by omega)) (fun c6 => ?_) (fun c6 => ?_)
      · exfalso; omega
      · refine lv_iload_n X.1 X.2.1 dX6_factorial_9 rfl (lv_at hl 1 rfl) ?_
        refine lv_iload_n X.1 X.2.1 dX6_factorial_10 rfl (lv_at hl 0 rfl) ?_
        refine n_mul X dX6_factorial_11 ?_
        refine lv_istore_n (lv' := [(1, .int (nI (v * i))), (2, .int (nI i)), (0, .int (nI m))]) X.1 X.2.1 dX6_factorial_12 rfl hl (by decide) rfl (fun ls hl => ?_)
        refine lv_iinc (v := (nI (i + 1))) (lv' := [(2, .int (nI (i + 1))), (1, .int (nI (v * i))), (0, .int (nI m))]) X.1 X.2.1 dX6_factorial_13 hl (k := 1) rfl (nI_inc _) (by decide) rfl (fun ls hl => ?_)
        refine lv_goto (tgt := 4) X.1 X.2.1 dX6_factorial_16 (by decide) ?_
        exact ih4 (v * i) (i + 1) (by omega) (by omega) (by rw [hq]; obtain ⟨j, rfl⟩ : ∃ j, i = j + 1 := ⟨i - 1, by omega⟩; simp [facN, Nat.mul_comm]) ls (lv_sub hl [0, 1, 2] rfl)
  exact L4 (m - 1) 1 2 (by omega) (by omega) (rfl) ls (lv_sub hl [0, 1, 2] rfl)
