set_option maxHeartbeats 4000000 in
set_option maxRecDepth 100000 in
theorem c_fmod (g : G5) (x : Int32) (y : Nat) (hy : 0 < y) (hy2 : y < 2 ^ 31) : PuI yJ9_floorMod_7cf53 cJ9_floorMod_7cf53 3 (some .int) 0 0 g [.int x, .int (nI y)] [] (iI (x.toInt % (y : Int))) := by
  refine PuI.ofF (by decide +kernel) (Nat.le_of_ble_eq_true rfl) ?_
  intro p_ l_ e_ S_ m_ args below meth co X hr hlk hP hK ls hl
  have X : CallFix p_ m_ co cJ9_floorMod_7cf53 3 S_ args lw_all RJ9 := X
  have hl : lv_has ls 3 [(0, .int x), (1, .int (nI y))] := hl
  refine lv_iload_n X.1 X.2.1 dJ9_floorMod_7cf53_0 rfl (lv_at hl 0 rfl) ?_
  refine lv_iload_n X.1 X.2.1 dJ9_floorMod_7cf53_1 rfl (lv_at hl 1 rfl) ?_
  refine lv_irem X.1 X.2.1 dJ9_floorMod_7cf53_2 (by exact nI_ne0 hy hy2) ?_
  refine lv_istore_n (lv' := [(2, .int (x - x / (nI y) * (nI y))), (0, .int x), (1, .int (nI y))]) X.1 X.2.1 dJ9_floorMod_7cf53_3 rfl hl (by decide) rfl (fun ls hl => ?_)
  refine lv_iload_n X.1 X.2.1 dJ9_floorMod_7cf53_4 rfl (lv_at hl 1 rfl) ?_
  refine lv_iload_n X.1 X.2.1 dJ9_floorMod_7cf53_5 rfl (lv_at hl 2 rfl) ?_
  refine lv_ixor X.1 X.2.1 dJ9_floorMod_7cf53_6 ?_
  have hq := fm_xor x hy2
  refine z_if_ge (tgt := 18) X dJ9_floorMod_7cf53_7 (by decide) rfl (fun c7 => ?_) (fun c7 => ?_)
  · refine lv_iload_n X.1 X.2.1 dJ9_floorMod_7cf53_18 rfl (lv_at hl 0 rfl) ?_
    exact PuI.ret X hr hlk dJ9_floorMod_7cf53_19 (nI_nar _) (by first | exact fm_b hy hy2 c11 | exact fm_a hy hy2 (by omega))
  · refine lv_iload_n X.1 X.2.1 dJ9_floorMod_7cf53_10 rfl (lv_at hl 0 rfl) ?_
    refine z_if_eq (tgt := 18) X dJ9_floorMod_7cf53_11 (by decide) rfl (fun c11 => ?_) (fun c11 => ?_)
    · refine lv_iload_n X.1 X.2.1 dJ9_floorMod_7cf53_18 rfl (lv_at hl 0 rfl) ?_
      exact PuI.ret X hr hlk dJ9_floorMod_7cf53_19 (nI_nar _) (by first | exact fm_b hy hy2 c11 | exact fm_a hy hy2 (by omega))
    · refine lv_iload_n X.1 X.2.1 dJ9_floorMod_7cf53_14 rfl (lv_at hl 0 rfl) ?_
      refine lv_iload_n X.1 X.2.1 dJ9_floorMod_7cf53_15 rfl (lv_at hl 2 rfl) ?_
      refine lv_iadd X.1 X.2.1 dJ9_floorMod_7cf53_16 ?_
      exact PuI.ret X hr hlk dJ9_floorMod_7cf53_17 (nI_nar _) (fm_c hy hy2 (by omega) c11)

set_option maxHeartbeats 4000000 in
set_option maxRecDepth 100000 in
theorem c_Word_size (g : G5) (a : Nat) (b : Nat) (s : List Nat) (f : Nat → Int32) : PuI yX10_size cX10_size 1 (some .int) 0 0 g [.ref a] [(a, .inr (9, [.ref b, .int (nI s.length)])), (b, .inl (g.2.1, 256, .inl f))] (nI s.length) := by
  refine PuI.of (by decide +kernel) (Nat.le_of_ble_eq_true rfl) ?_
  intro p_ l_ e_ S_ m_ args below meth co X hr hlk hP hK ls hl
  have X : CallFix p_ m_ co cX10_size 1 S_ args lw_all RX10 := X
  have hl : lv_has ls 1 [(0, .ref a)] := hl
  refine lv_aload_n X.1 X.2.1 dX10_size_0 rfl (lv_at hl 0 rfl) ?_
  refine va_get (D := g.1) (ci := 9) (v := .int (nI s.length)) (C := RX10) (T := TX10) (N := 2) X.1 X.2.1 X.2.2.2.2 iwX10 X.2.2.2.1 hK hP 0 rfl rfl 1 (by decide) (X.2.2.2.2 _ q107) (fun _ h9 => h9) rfl dX10_size_1 ?_
  exact PuI.ret X hr hlk dX10_size_4 (nI_nar _) (rfl)

set_option maxHeartbeats 4000000 in
set_option maxRecDepth 100000 in
theorem c_Word_isFull (g : G5) (a : Nat) (b : Nat) (s : List Nat) (f : Nat → Int32) (hs : s.length ≤ 256) : PuI yX10_isFull cX10_isFull 1 (some .boolean) 0 0 g [.ref a] [(a, .inr (9, [.ref b, .int (nI s.length)])), (b, .inl (g.2.1, 256, .inl f))] (bI (decide (256 ≤ s.length))) := by
  refine PuI.of (by decide +kernel) (Nat.le_of_ble_eq_true rfl) ?_
  intro p_ l_ e_ S_ m_ args below meth co X hr hlk hP hK ls hl
  have X : CallFix p_ m_ co cX10_isFull 1 S_ args lw_all RX10 := X
  have hl : lv_has ls 1 [(0, .ref a)] := hl
  refine lv_aload_n X.1 X.2.1 dX10_isFull_0 rfl (lv_at hl 0 rfl) ?_
  refine va_get (D := g.1) (ci := 9) (v := .int (nI s.length)) (C := RX10) (T := TX10) (N := 2) X.1 X.2.1 X.2.2.2.2 iwX10 X.2.2.2.1 hK hP 0 rfl rfl 1 (by decide) (X.2.2.2.2 _ q107) (fun _ h9 => h9) rfl dX10_isFull_1 ?_
  refine lv_sipush (v := (nI 256)) X.1 X.2.1 dX10_isFull_4 (by decide) ?_
  refine z_icmp_lt (tgt := 14) X dX10_isFull_7 (by decide) (nI_toInt (by omega)) (nI_toInt (by omega)) (fun c7 => ?_) (fun c7 => ?_)
  · refine lv_iconst (v := (nI 0)) X.1 X.2.1 dX10_isFull_14 (by decide) ?_
    exact PuI.ret X hr hlk dX10_isFull_15 (bI_nar _) (by first | exact bt (by exact decide_eq_true (by omega)) | exact bf (by exact decide_eq_false (by omega)))
  · refine lv_iconst (v := (nI 1)) X.1 X.2.1 dX10_isFull_10 (by decide) ?_
    refine lv_goto (tgt := 15) X.1 X.2.1 dX10_isFull_11 (by decide) ?_
    exact PuI.ret X hr hlk dX10_isFull_15 (bI_nar _) (by first | exact bt (by exact decide_eq_true (by omega)) | exact bf (by exact decide_eq_false (by omega)))

set_option maxHeartbeats 4000000 in
set_option maxRecDepth 100000 in
theorem c_Word_has (g : G5) (a : Nat) (b : Nat) (s : List Nat) (f : Nat → Int32) (x : Int32) (hs : s.length ≤ 256) : PuI yX10_has cX10_has 2 (some .boolean) 0 0 g [.ref a, .int x] [(a, .inr (9, [.ref b, .int (nI s.length)])), (b, .inl (g.2.1, 256, .inl f))] (bI (hasB x s.length)) := by
  refine PuI.of (by decide +kernel) (Nat.le_of_ble_eq_true rfl) ?_
  intro p_ l_ e_ S_ m_ args below meth co X hr hlk hP hK ls hl
  have X : CallFix p_ m_ co cX10_has 2 S_ args lw_all RX10 := X
  have hl : lv_has ls 2 [(0, .ref a), (1, .int x)] := hl
  refine lv_iload_n X.1 X.2.1 dX10_has_0 rfl (lv_at hl 1 rfl) ?_
  refine z_if_lt (tgt := 16) X dX10_has_1 (by decide) rfl (fun c1 => ?_) (fun c1 => ?_)
  · refine lv_iconst (v := (nI 0)) X.1 X.2.1 dX10_has_16 (by decide) ?_
    exact PuI.ret X hr hlk dX10_has_17 (bI_nar _) (by first | exact bt (by unfold hasB; exact decide_eq_true (by omega)) | exact bf (by unfold hasB; exact decide_eq_false (by omega)))
  · refine lv_iload_n X.1 X.2.1 dX10_has_4 rfl (lv_at hl 1 rfl) ?_
    refine lv_aload_n X.1 X.2.1 dX10_has_5 rfl (lv_at hl 0 rfl) ?_
    refine va_get (D := g.1) (ci := 9) (v := .int (nI s.length)) (C := RX10) (T := TX10) (N := 2) X.1 X.2.1 X.2.2.2.2 iwX10 X.2.2.2.1 hK hP 0 rfl rfl 1 (by decide) (X.2.2.2.2 _ q107) (fun _ h9 => h9) rfl dX10_has_6 ?_
    refine z_icmp_ge (tgt := 16) X dX10_has_9 (by decide) rfl (nI_toInt (by omega)) (fun c9 => ?_) (fun c9 => ?_)
    · refine lv_iconst (v := (nI 0)) X.1 X.2.1 dX10_has_16 (by decide) ?_
      exact PuI.ret X hr hlk dX10_has_17 (bI_nar _) (by first | exact bt (by unfold hasB; exact decide_eq_true (by omega)) | exact bf (by unfold hasB; exact decide_eq_false (by omega)))
    · refine lv_iconst (v := (nI 1)) X.1 X.2.1 dX10_has_12 (by decide) ?_
      refine lv_goto (tgt := 17) X.1 X.2.1 dX10_has_13 (by decide) ?_
      exact PuI.ret X hr hlk dX10_has_17 (bI_nar _) (by first | exact bt (by unfold hasB; exact decide_eq_true (by omega)) | exact bf (by unfold hasB; exact decide_eq_false (by omega)))

set_option maxHeartbeats 4000000 in
set_option maxRecDepth 100000 in
theorem c_Word_at (g : G5) (a : Nat) (b : Nat) (s : List Nat) (f : Nat → Int32) (x : Int32) (hs : s.length ≤ 256) (hf : rep f s) : PuI yX10_at cX10_at 2 (some .int) 1 21 g [.ref a, .int x] [(a, .inr (9, [.ref b, .int (nI s.length)])), (b, .inl (g.2.1, 256, .inl f))] (atI s x) := by
  refine PuI.of (by decide +kernel) (Nat.le_of_ble_eq_true rfl) ?_
  intro p_ l_ e_ S_ m_ args below meth co X hr hlk hP hK ls hl
  have X : CallFix p_ m_ co cX10_at 2 S_ args lw_all RX10 := X
  have hl : lv_has ls 2 [(0, .ref a), (1, .int x)] := hl
  refine lv_aload_n X.1 X.2.1 dX10_at_0 rfl (lv_at hl 0 rfl) ?_
  refine lv_iload_n X.1 X.2.1 dX10_at_1 rfl (lv_at hl 1 rfl) ?_
  refine (c_Word_has g a b s f x (by omega)).callV (rest := []) X dX10_at_2 q336 tX10_has hK (hP.sub [0, 1] rfl) 0 9 rfl rfl rfl hl ⟨⟨Nat.le_of_ble_eq_true rfl, Nat.le_of_ble_eq_true rfl⟩, Nat.le_of_ble_eq_true rfl, Nat.le_of_ble_eq_true rfl⟩ rfl rfl (Nat.le_of_ble_eq_true rfl) ?_
  refine b_if_eq (tgt := 17) X dX10_at_5 (by decide) (fun c5 => ?_) (fun c5 => ?_)
  · have e9 : atI s x = (-2) := by unfold atI; rw [c5]; rfl
    refine lv_bipush (v := (-2)) X.1 X.2.1 dX10_at_17 (by decide) ?_
    exact PuI.ret X hr hlk dX10_at_19 (nI_nar _) (by first | exact (atI_N hj (by omega)).symm | exact e9.symm)
  · obtain ⟨j, hj, rfl⟩ := hasB_t c5
    refine lv_aload_n X.1 X.2.1 dX10_at_8 rfl (lv_at hl 0 rfl) ?_
    refine va_get (D := g.1) (ci := 9) (v := .ref b) (C := RX10) (T := TX10) (N := 2) X.1 X.2.1 X.2.2.2.2 iwX10 X.2.2.2.1 hK hP 0 rfl rfl 0 (by decide) (X.2.2.2.2 _ q106) (fun _ h9 => h9) rfl dX10_at_9 ?_
    refine lv_iload_n X.1 X.2.1 dX10_at_12 rfl (lv_at hl 1 rfl) ?_
    refine n_iald X hK hP 1 0 rfl rfl (by omega) (by decide) dX10_at_13 ?_
    refine tp_i (y := (nI (s.getD j 0))) (hf j hj) ?_
    refine lv_goto (tgt := 19) X.1 X.2.1 dX10_at_14 (by decide) ?_
    exact PuI.ret X hr hlk dX10_at_19 (nI_nar _) (by first | exact (atI_N hj (by omega)).symm | exact e9.symm)

theorem c_Word_atN (g : G5) (a : Nat) (b : Nat) (s : List Nat) (f : Nat → Int32) (j : Nat) (hs : s.length ≤ 256) (hf : rep f s) (hj : j < s.length) : PuI yX10_at cX10_at 2 (some .int) 1 21 g [.ref a, .int (nI j)] [(a, .inr (9, [.ref b, .int (nI s.length)])), (b, .inl (g.2.1, 256, .inl f))] (nI (s.getD j 0)) := by
  rw [← atI_N hj (by omega)]; exact c_Word_at g a b s f (nI j) hs hf

set_option maxHeartbeats 4000000 in
set_option maxRecDepth 100000 in
theorem c_Word_ar (g : G5) (a : Nat) (b : Nat) (s : List Nat) (f : Nat → Int32) (x : Int32) (hs : s.length ≤ 256) (hf : rep f s) : PuI yX10_around cX10_around 2 (some .int) 1 22 g [.ref a, .int x] [(a, .inr (9, [.ref b, .int (nI s.length)])), (b, .inl (g.2.1, 256, .inl f))] (arI s x) := by
  refine PuI.of (by decide +kernel) (Nat.le_of_ble_eq_true rfl) ?_
  intro p_ l_ e_ S_ m_ args below meth co X hr hlk hP hK ls hl
  have X : CallFix p_ m_ co cX10_around 2 S_ args lw_all RX10 := X
  have hl : lv_has ls 2 [(0, .ref a), (1, .int x)] := hl
  refine lv_aload_n X.1 X.2.1 dX10_around_0 rfl (lv_at hl 0 rfl) ?_
  refine va_get (D := g.1) (ci := 9) (v := .int (nI s.length)) (C := RX10) (T := TX10) (N := 2) X.1 X.2.1 X.2.2.2.2 iwX10 X.2.2.2.1 hK hP 0 rfl rfl 1 (by decide) (X.2.2.2.2 _ q107) (fun _ h9 => h9) rfl dX10_around_1 ?_
  refine lv_iconst (v := (nI 1)) X.1 X.2.1 dX10_around_4 (by decide) ?_
  refine z_icmp_ge (tgt := 13) X dX10_around_5 (by decide) (nI_toInt (by omega)) (nI_toInt (by omega)) (fun c5 => ?_) (fun c5 => ?_)
  · refine lv_aload_n X.1 X.2.1 dX10_around_13 rfl (lv_at hl 0 rfl) ?_
    refine va_get (D := g.1) (ci := 9) (v := .ref b) (C := RX10) (T := TX10) (N := 2) X.1 X.2.1 X.2.2.2.2 iwX10 X.2.2.2.1 hK hP 0 rfl rfl 0 (by decide) (X.2.2.2.2 _ q106) (fun _ h9 => h9) rfl dX10_around_14 ?_
    refine lv_iload_n X.1 X.2.1 dX10_around_17 rfl (lv_at hl 1 rfl) ?_
    refine lv_aload_n X.1 X.2.1 dX10_around_18 rfl (lv_at hl 0 rfl) ?_
    refine va_get (D := g.1) (ci := 9) (v := .int (nI s.length)) (C := RX10) (T := TX10) (N := 2) X.1 X.2.1 X.2.2.2.2 iwX10 X.2.2.2.1 hK hP 0 rfl rfl 1 (by decide) (X.2.2.2.2 _ q107) (fun _ h9 => h9) rfl dX10_around_19 ?_
    refine (c_fmod g x s.length (by omega) (by omega)).callS (rest := [.ref b]) X dX10_around_22 q628 tJ9_floorMod_7cf53 hK (hP.sub [] rfl) hl ⟨⟨Nat.le_of_ble_eq_true rfl, Nat.le_of_ble_eq_true rfl⟩, Nat.le_of_ble_eq_true rfl, Nat.le_of_ble_eq_true rfl⟩ rfl rfl (Nat.le_of_ble_eq_true rfl) ?_
    have h8 := fm_lt (x := x.toInt) (n := s.length) (by omega)
    refine tp_i (y := (nI ((x.toInt % (s.length : Int)).toNat))) (fm_N (by omega)) ?_
    refine n_iald X hK hP 1 0 rfl rfl (by omega) (by decide) dX10_around_25 ?_
    exact PuI.ret X hr hlk dX10_around_26 (nI_nar _) (by unfold arI; first | rw [if_pos (by omega)] | (rw [if_neg (by omega)]; exact hf _ h8))
  · refine lv_bipush (v := (-2)) X.1 X.2.1 dX10_around_8 (by decide) ?_
    refine lv_goto (tgt := 26) X.1 X.2.1 dX10_around_10 (by decide) ?_
    exact PuI.ret X hr hlk dX10_around_26 (nI_nar _) (by unfold arI; first | rw [if_pos (by omega)] | (rw [if_neg (by omega)]; exact hf _ h8))

theorem c_Word_arN (g : G5) (a : Nat) (b : Nat) (s : List Nat) (f : Nat → Int32) (j : Nat) (hs : s.length ≤ 256) (hf : rep f s) (h0 : 0 < s.length) (hj : j < 2 ^ 31) : PuI yX10_around cX10_around 2 (some .int) 1 22 g [.ref a, .int (nI j)] [(a, .inr (9, [.ref b, .int (nI s.length)])), (b, .inl (g.2.1, 256, .inl f))] (nI (s.getD (j % s.length) 0)) := by
  rw [← arI_N h0 hj]; exact c_Word_ar g a b s f (nI j) hs hf

set_option maxHeartbeats 4000000 in
set_option maxRecDepth 100000 in
theorem c_Word_clear (g : G5) (a : Nat) (b : Nat) (s : List Nat) (f : Nat → Int32) : MuV (S := Nat → Int32) yX10_clear cX10_clear 1 none 0 0 g [.ref a] [(a, .inr (9, [.ref b, .int (nI s.length)])), (b, .inl (g.2.1, 256, .inl f))] (fun f1 => f1 = f ∧ rep f1 []) (fun f1 => [(a, .inr (9, [.ref b, .int (nI (([] : List Nat).length))])), (b, .inl (g.2.1, 256, .inl f1))]) := by
  refine MuV.of (by decide +kernel) (Nat.le_of_ble_eq_true rfl) ?_
  intro p_ l_ e_ S_ m_ args below meth co X hr hlk hP hK A hA hD hS ls hl
  have X : CallFix p_ m_ co cX10_clear 1 S_ args lw_all RX10 := X
  have hl : lv_has ls 1 [(0, .ref a)] := hl
  refine lv_aload_n X.1 X.2.1 dX10_clear_0 rfl (lv_at hl 0 rfl) ?_
  refine lv_iconst (v := (nI 0)) X.1 X.2.1 dX10_clear_1 (by decide) ?_
  refine va_put (D := g.1) (ci := 9) (v := .int (nI 0)) (ty := .int) (C := RX10) (T := TX10) (N := 2) X.1 X.2.1 X.2.2.2.2 iwX10 tyX10 tyX10_ok nmX10 X.2.2.2.1 hK hP hD hS 0 rfl rfl 1 (by decide) (X.2.2.2.2 _ q107) (fun _ h9 => h9) rfl (by decide +kernel) rfl rfl (Nat.le_of_ble_eq_true rfl) dX10_clear_2 (fun H locs hP hD hS => ?_)
  have hP : PP g [(a, .inr (9, [.ref b, .int (nI 0)])), (b, .inl (g.2.1, 256, .inl f))] H := hP
  have hD : va_D A [(a, .inr (9, [.ref b, .int (nI 0)])), (b, .inl (g.2.1, 256, .inl f))] := hD
  exact MuV.ret X hr hlk hK hS dX10_clear_5 f (hP.sub [0, 1] rfl) (hD.sub [0, 1] (by decide) rfl) (⟨rfl, rep_nil⟩)

set_option maxHeartbeats 4000000 in
set_option maxRecDepth 100000 in
theorem c_Word_add (g : G5) (a : Nat) (b : Nat) (s : List Nat) (f : Nat → Int32) (x : Nat) (hs : s.length < 256) (hf : rep f s) : MuV (S := Nat → Int32) yX10_add cX10_add 2 none 1 20 g [.ref a, .int (nI x)] [(a, .inr (9, [.ref b, .int (nI s.length)])), (b, .inl (g.2.1, 256, .inl f))] (fun f1 => rep f1 (s ++ [x])) (fun f1 => [(a, .inr (9, [.ref b, .int (nI ((s ++ [x]).length))])), (b, .inl (g.2.1, 256, .inl f1))]) := by
  refine MuV.of (by decide +kernel) (Nat.le_of_ble_eq_true rfl) ?_
  intro p_ l_ e_ S_ m_ args below meth co X hr hlk hP hK A hA hD hS ls hl
  have X : CallFix p_ m_ co cX10_add 2 S_ args lw_all RX10 := X
  have hl : lv_has ls 2 [(0, .ref a), (1, .int (nI x))] := hl
  refine lv_aload_n X.1 X.2.1 dX10_add_0 rfl (lv_at hl 0 rfl) ?_
  refine (c_Word_isFull g a b s f (by omega)).callV (rest := []) X dX10_add_1 q382 tX10_isFull hK (hP.sub [0, 1] rfl) 0 9 rfl rfl rfl hl ⟨⟨Nat.le_of_ble_eq_true rfl, Nat.le_of_ble_eq_true rfl⟩, Nat.le_of_ble_eq_true rfl, Nat.le_of_ble_eq_true rfl⟩ rfl rfl (Nat.le_of_ble_eq_true rfl) ?_
  refine b_if_ne (tgt := 27) X dX10_add_4 (by decide) (fun c4 => ?_) (fun c4 => ?_)
  · exfalso; simp at c4; omega
  · refine lv_aload_n X.1 X.2.1 dX10_add_7 rfl (lv_at hl 0 rfl) ?_
    refine va_get (D := g.1) (ci := 9) (v := .ref b) (C := RX10) (T := TX10) (N := 2) X.1 X.2.1 X.2.2.2.2 iwX10 X.2.2.2.1 hK hP 0 rfl rfl 0 (by decide) (X.2.2.2.2 _ q106) (fun _ h9 => h9) rfl dX10_add_8 ?_
    refine lv_aload_n X.1 X.2.1 dX10_add_11 rfl (lv_at hl 0 rfl) ?_
    refine va_get (D := g.1) (ci := 9) (v := .int (nI s.length)) (C := RX10) (T := TX10) (N := 2) X.1 X.2.1 X.2.2.2.2 iwX10 X.2.2.2.1 hK hP 0 rfl rfl 1 (by decide) (X.2.2.2.2 _ q107) (fun _ h9 => h9) rfl dX10_add_12 ?_
    refine lv_iload_n X.1 X.2.1 dX10_add_15 rfl (lv_at hl 1 rfl) ?_
    refine n_iast X hK hP hD hS 1 0 rfl rfl (by omega) (by decide) dX10_add_16 (fun H locs hP hD hS => ?_)
    have hP : PP g [(a, .inr (9, [.ref b, .int (nI s.length)])), (b, .inl (g.2.1, 256, .inl (upd f s.length (nI x))))] H := hP
    have hD : va_D A [(a, .inr (9, [.ref b, .int (nI s.length)])), (b, .inl (g.2.1, 256, .inl (upd f s.length (nI x))))] := hD
    refine lv_aload_n X.1 X.2.1 dX10_add_17 rfl (lv_at hl 0 rfl) ?_
    refine lv_dup X.1 X.2.1 dX10_add_18 rfl ?_
    refine va_get (D := g.1) (ci := 9) (v := .int (nI s.length)) (C := RX10) (T := TX10) (N := 2) X.1 X.2.1 X.2.2.2.2 iwX10 X.2.2.2.1 hK hP 0 rfl rfl 1 (by decide) (X.2.2.2.2 _ q107) (fun _ h9 => h9) rfl dX10_add_19 ?_
    refine lv_iconst (v := (nI 1)) X.1 X.2.1 dX10_add_22 (by decide) ?_
    refine n_add X dX10_add_23 ?_
    refine tp_i (y := (nI ((s ++ [x]).length))) (by simp) ?_
    refine va_put (D := g.1) (ci := 9) (v := .int (nI ((s ++ [x]).length))) (ty := .int) (C := RX10) (T := TX10) (N := 2) X.1 X.2.1 X.2.2.2.2 iwX10 tyX10 tyX10_ok nmX10 X.2.2.2.1 hK hP hD hS 0 rfl rfl 1 (by decide) (X.2.2.2.2 _ q107) (fun _ h9 => h9) rfl (by decide +kernel) rfl rfl (Nat.le_of_ble_eq_true rfl) dX10_add_24 (fun H locs hP hD hS => ?_)
    have hP : PP g [(a, .inr (9, [.ref b, .int (nI ((s ++ [x]).length))])), (b, .inl (g.2.1, 256, .inl (upd f s.length (nI x))))] H := hP
    have hD : va_D A [(a, .inr (9, [.ref b, .int (nI ((s ++ [x]).length))])), (b, .inl (g.2.1, 256, .inl (upd f s.length (nI x))))] := hD
    exact MuV.ret X hr hlk hK hS dX10_add_27 (upd f s.length (nI x)) (hP.sub [0, 1] rfl) (hD.sub [0, 1] (by decide) rfl) (rep_add hf x)

set_option maxHeartbeats 4000000 in
set_option maxRecDepth 100000 in
theorem c_Word_put (g : G5) (a : Nat) (b : Nat) (s : List Nat) (f : Nat → Int32) (j : Nat) (x : Nat) (hs : s.length ≤ 256) (hf : rep f s) (hj : j < s.length) : MuV (S := Nat → Int32) yX10_put cX10_put 3 none 1 21 g [.ref a, .int (nI j), .int (nI x)] [(a, .inr (9, [.ref b, .int (nI s.length)])), (b, .inl (g.2.1, 256, .inl f))] (fun f1 => rep f1 (s.set j x)) (fun f1 => [(a, .inr (9, [.ref b, .int (nI ((s.set j x).length))])), (b, .inl (g.2.1, 256, .inl f1))]) := by
  refine MuV.of (by decide +kernel) (Nat.le_of_ble_eq_true rfl) ?_
  intro p_ l_ e_ S_ m_ args below meth co X hr hlk hP hK A hA hD hS ls hl
  have X : CallFix p_ m_ co cX10_put 3 S_ args lw_all RX10 := X
  have hl : lv_has ls 3 [(0, .ref a), (1, .int (nI j)), (2, .int (nI x))] := hl
  refine lv_aload_n X.1 X.2.1 dX10_put_0 rfl (lv_at hl 0 rfl) ?_
  refine lv_iload_n X.1 X.2.1 dX10_put_1 rfl (lv_at hl 1 rfl) ?_
  refine (c_Word_has g a b s f (nI j) (by omega)).callV (rest := []) X dX10_put_2 q336 tX10_has hK (hP.sub [0, 1] rfl) 0 9 rfl rfl rfl hl ⟨⟨Nat.le_of_ble_eq_true rfl, Nat.le_of_ble_eq_true rfl⟩, Nat.le_of_ble_eq_true rfl, Nat.le_of_ble_eq_true rfl⟩ rfl rfl (Nat.le_of_ble_eq_true rfl) ?_
  have e9 : hasB (nI j) s.length = true := by rw [hasB_N (by omega)]; exact decide_eq_true hj
  refine b_if_eq (tgt := 15) X dX10_put_5 (by decide) (fun c5 => ?_) (fun c5 => ?_)
  · exfalso; rw [e9] at c5; cases c5
  · refine lv_aload_n X.1 X.2.1 dX10_put_8 rfl (lv_at hl 0 rfl) ?_
    refine va_get (D := g.1) (ci := 9) (v := .ref b) (C := RX10) (T := TX10) (N := 2) X.1 X.2.1 X.2.2.2.2 iwX10 X.2.2.2.1 hK hP 0 rfl rfl 0 (by decide) (X.2.2.2.2 _ q106) (fun _ h9 => h9) rfl dX10_put_9 ?_
    refine lv_iload_n X.1 X.2.1 dX10_put_12 rfl (lv_at hl 1 rfl) ?_
    refine lv_iload_n X.1 X.2.1 dX10_put_13 rfl (lv_at hl 2 rfl) ?_
    refine n_iast X hK hP hD hS 1 0 rfl rfl (by omega) (by decide) dX10_put_14 (fun H locs hP hD hS => ?_)
    have hP : PP g [(a, .inr (9, [.ref b, .int (nI s.length)])), (b, .inl (g.2.1, 256, .inl (upd f j (nI x))))] H := hP
    have hD : va_D A [(a, .inr (9, [.ref b, .int (nI s.length)])), (b, .inl (g.2.1, 256, .inl (upd f j (nI x))))] := hD
    have hP : PP g [(a, .inr (9, [.ref b, .int (nI ((s.set j x).length))])), (b, .inl (g.2.1, 256, .inl (upd f j (nI x))))] H := by rw [List.length_set]; exact hP
    have hD : va_D A [(a, .inr (9, [.ref b, .int (nI ((s.set j x).length))])), (b, .inl (g.2.1, 256, .inl (upd f j (nI x))))] := by rw [List.length_set]; exact hD
    exact MuV.ret X hr hlk hK hS dX10_put_15 (upd f j (nI x)) (hP.sub [0, 1] rfl) (hD.sub [0, 1] (by decide) rfl) (rep_set hf j x)

set_option maxHeartbeats 4000000 in
set_option maxRecDepth 100000 in
theorem c_Word_copyFrom (g : G5) (a : Nat) (b : Nat) (s : List Nat) (f : Nat → Int32) (r : Nat) (nr : Nat) (h : Nat → Int32) (i : Nat) (z : List Nat) (hz : z.length ≤ 256) (hr : i + z.length ≤ nr) (hr2 : nr < 2 ^ 31) (hh : ∀ t, t < z.length → h (i + t) = nI (z.getD t 0)) : MuV (S := Nat → Int32) yX10_copyFrom cX10_copyFrom 4 none 1 40 g [.ref a, .ref r, .int (nI i), .int (nI z.length)] [(a, .inr (9, [.ref b, .int (nI s.length)])), (b, .inl (g.2.1, 256, .inl f)), (r, .inl (g.2.1, nr, .inl h))] (fun f1 => rep f1 z) (fun f1 => [(a, .inr (9, [.ref b, .int (nI z.length)])), (b, .inl (g.2.1, 256, .inl f1)), (r, .inl (g.2.1, nr, .inl h))]) := by
  refine MuV.of (by decide +kernel) (Nat.le_of_ble_eq_true rfl) ?_
  intro p_ l_ e_ S_ m_ args below meth co X hr hlk hP hK A hA hD hS ls hl
  have X : CallFix p_ m_ co cX10_copyFrom 4 S_ args lw_all RX10 := X
  have hl : lv_has ls 4 [(0, .ref a), (1, .ref r), (2, .int (nI i)), (3, .int (nI z.length))] := hl
  refine lv_iload_n X.1 X.2.1 dX10_copyFrom_0 rfl (lv_at hl 3 rfl) ?_
  refine z_if_lt (tgt := 39) X dX10_copyFrom_1 (by decide) (nI_toInt (by omega)) (fun c1 => ?_) (fun c1 => ?_)
  · exfalso; omega
  · refine lv_iload_n X.1 X.2.1 dX10_copyFrom_4 rfl (lv_at hl 3 rfl) ?_
    refine lv_sipush (v := (nI 256)) X.1 X.2.1 dX10_copyFrom_5 (by decide) ?_
    refine z_icmp_gt (tgt := 39) X dX10_copyFrom_8 (by decide) (nI_toInt (by omega)) (nI_toInt (by omega)) (fun c8 => ?_) (fun c8 => ?_)
    · exfalso; omega
    · refine lv_iload_n X.1 X.2.1 dX10_copyFrom_11 rfl (lv_at hl 2 rfl) ?_
      refine z_if_lt (tgt := 39) X dX10_copyFrom_12 (by decide) (nI_toInt (by omega)) (fun c12 => ?_) (fun c12 => ?_)
      · exfalso; omega
      · refine lv_iload_n X.1 X.2.1 dX10_copyFrom_15 rfl (lv_at hl 2 rfl) ?_
        refine lv_aload_n X.1 X.2.1 dX10_copyFrom_16 rfl (lv_at hl 1 rfl) ?_
        refine va_alen X.1 X.2.1 hK hP 2 0 rfl rfl (v := nI nr) rfl dX10_copyFrom_17 ?_
        refine lv_iload_n X.1 X.2.1 dX10_copyFrom_18 rfl (lv_at hl 3 rfl) ?_
        refine n_sub X dX10_copyFrom_19 (by omega) ?_
        refine z_icmp_gt (tgt := 39) X dX10_copyFrom_20 (by decide) (nI_toInt (by omega)) (nI_toInt (by omega)) (fun c20 => ?_) (fun c20 => ?_)
        · exfalso; omega
        · refine lv_aload_n X.1 X.2.1 dX10_copyFrom_23 rfl (lv_at hl 1 rfl) ?_
          refine lv_iload_n X.1 X.2.1 dX10_copyFrom_24 rfl (lv_at hl 2 rfl) ?_
          refine lv_aload_n X.1 X.2.1 dX10_copyFrom_25 rfl (lv_at hl 0 rfl) ?_
          refine va_get (D := g.1) (ci := 9) (v := .ref b) (C := RX10) (T := TX10) (N := 2) X.1 X.2.1 X.2.2.2.2 iwX10 X.2.2.2.1 hK hP 0 rfl rfl 0 (by decide) (X.2.2.2.2 _ q106) (fun _ h9 => h9) rfl dX10_copyFrom_26 ?_
          refine lv_iconst (v := (nI 0)) X.1 X.2.1 dX10_copyFrom_29 (by decide) ?_
          refine lv_iload_n X.1 X.2.1 dX10_copyFrom_30 rfl (lv_at hl 3 rfl) ?_
          refine n_copy (rest := []) X q476 q478 q477 q66 hl.1 hK hP hD hS 2 1 rfl rfl (by omega) (by omega) (by omega) (by omega) (Nat.le_of_ble_eq_true rfl) (by decide) dX10_copyFrom_31 (fun H locs hP hD hS => ?_)
          have hP : PP g [(a, .inr (9, [.ref b, .int (nI s.length)])), (b, .inl (g.2.1, 256, .inl (va_cpy h f i 0 z.length))), (r, .inl (g.2.1, nr, .inl h))] H := hP
          have hD : va_D A [(a, .inr (9, [.ref b, .int (nI s.length)])), (b, .inl (g.2.1, 256, .inl (va_cpy h f i 0 z.length))), (r, .inl (g.2.1, nr, .inl h))] := hD
          refine lv_aload_n X.1 X.2.1 dX10_copyFrom_34 rfl (lv_at hl 0 rfl) ?_
          refine lv_iload_n X.1 X.2.1 dX10_copyFrom_35 rfl (lv_at hl 3 rfl) ?_
          refine va_put (D := g.1) (ci := 9) (v := .int (nI z.length)) (ty := .int) (C := RX10) (T := TX10) (N := 2) X.1 X.2.1 X.2.2.2.2 iwX10 tyX10 tyX10_ok nmX10 X.2.2.2.1 hK hP hD hS 0 rfl rfl 1 (by decide) (X.2.2.2.2 _ q107) (fun _ h9 => h9) rfl (by decide +kernel) rfl rfl (Nat.le_of_ble_eq_true rfl) dX10_copyFrom_36 (fun H locs hP hD hS => ?_)
          have hP : PP g [(a, .inr (9, [.ref b, .int (nI z.length)])), (b, .inl (g.2.1, 256, .inl (va_cpy h f i 0 z.length))), (r, .inl (g.2.1, nr, .inl h))] H := hP
          have hD : va_D A [(a, .inr (9, [.ref b, .int (nI z.length)])), (b, .inl (g.2.1, 256, .inl (va_cpy h f i 0 z.length))), (r, .inl (g.2.1, nr, .inl h))] := hD
          exact MuV.ret X hr hlk hK hS dX10_copyFrom_39 (va_cpy h f i 0 z.length) (hP.sub [0, 1, 2] rfl) (hD.sub [0, 1, 2] (by decide) rfl) (fun j hj => by rw [pk_cpy_in (by omega) (by omega)]; simpa using hh j hj)

set_option maxHeartbeats 4000000 in
set_option maxRecDepth 100000 in
theorem c_Word_become (g : G5) (a : Nat) (b : Nat) (s : List Nat) (f : Nat → Int32) (a2 : Nat) (b2 : Nat) (z : List Nat) (f2 : Nat → Int32) (hz : z.length ≤ 256) (hf2 : rep f2 z) : MuV (S := Nat → Int32) yX10_become cX10_become 2 none 2 63 g [.ref a, .ref a2] [(a, .inr (9, [.ref b, .int (nI s.length)])), (b, .inl (g.2.1, 256, .inl f)), (a2, .inr (9, [.ref b2, .int (nI z.length)])), (b2, .inl (g.2.1, 256, .inl f2))] (fun f1 => rep f1 z) (fun f1 => [(a, .inr (9, [.ref b, .int (nI z.length)])), (b, .inl (g.2.1, 256, .inl f1)), (a2, .inr (9, [.ref b2, .int (nI z.length)])), (b2, .inl (g.2.1, 256, .inl f2))]) := by
  refine MuV.of (by decide +kernel) (Nat.le_of_ble_eq_true rfl) ?_
  intro p_ l_ e_ S_ m_ args below meth co X hr hlk hP hK A hA hD hS ls hl
  have X : CallFix p_ m_ co cX10_become 2 S_ args lw_all RX10 := X
  have hl : lv_has ls 2 [(0, .ref a), (1, .ref a2)] := hl
  refine lv_aload_n X.1 X.2.1 dX10_become_0 rfl (lv_at hl 0 rfl) ?_
  refine lv_aload_n X.1 X.2.1 dX10_become_1 rfl (lv_at hl 1 rfl) ?_
  refine va_get (D := g.1) (ci := 9) (v := .ref b2) (C := RX10) (T := TX10) (N := 2) X.1 X.2.1 X.2.2.2.2 iwX10 X.2.2.2.1 hK hP 2 rfl rfl 0 (by decide) (X.2.2.2.2 _ q106) (fun _ h9 => h9) rfl dX10_become_2 ?_
  refine lv_iconst (v := (nI 0)) X.1 X.2.1 dX10_become_5 (by decide) ?_
  refine lv_aload_n X.1 X.2.1 dX10_become_6 rfl (lv_at hl 1 rfl) ?_
  refine va_get (D := g.1) (ci := 9) (v := .int (nI z.length)) (C := RX10) (T := TX10) (N := 2) X.1 X.2.1 X.2.2.2.2 iwX10 X.2.2.2.1 hK hP 2 rfl rfl 1 (by decide) (X.2.2.2.2 _ q107) (fun _ h9 => h9) rfl dX10_become_7 ?_
  refine (c_Word_copyFrom g a b s f b2 256 f2 0 z (by omega) (by omega) (by decide) (by intro t ht; rw [Nat.zero_add]; exact hf2 t ht)).callV (rest := []) (wr := [(a2, .inr (9, [.ref b2, .int (nI z.length)]))]) X dX10_become_10 q485 tX10_copyFrom hK hP hD hS hA [0, 1, 3] [2] (by decide) rfl rfl (by decide) (by decide) 0 9 rfl rfl rfl hl ⟨⟨Nat.le_of_ble_eq_true rfl, Nat.le_of_ble_eq_true rfl⟩, Nat.le_of_ble_eq_true rfl, Nat.le_of_ble_eq_true rfl⟩ rfl rfl (Nat.le_of_ble_eq_true rfl) (fun u10 H locs hw10 hP hD hS => ?_)
  obtain ⟨f1_10, rfl⟩ : ∃ z, z = u10 := ⟨_, rfl⟩
  have hP : PP g [(a2, .inr (9, [.ref b2, .int (nI z.length)])), (a, .inr (9, [.ref b, .int (nI z.length)])), (b, .inl (g.2.1, 256, .inl f1_10)), (b2, .inl (g.2.1, 256, .inl f2))] H := hP
  have hD : va_D A [(a2, .inr (9, [.ref b2, .int (nI z.length)])), (a, .inr (9, [.ref b, .int (nI z.length)])), (b, .inl (g.2.1, 256, .inl f1_10)), (b2, .inl (g.2.1, 256, .inl f2))] := hD
  exact MuV.ret X hr hlk hK hS dX10_become_13 f1_10 (hP.sub [1, 2, 0, 3] rfl) (hD.sub [1, 2, 0, 3] (by decide) rfl) (hw10)

set_option maxHeartbeats 4000000 in
set_option maxRecDepth 100000 in
theorem c_Word_copyTo (g : G5) (a : Nat) (b : Nat) (s : List Nat) (f : Nat → Int32) (r : Nat) (nr : Nat) (h : Nat → Int32) (i : Nat) (hs : s.length ≤ 256) (hr : i + s.length ≤ nr) (hr2 : nr < 2 ^ 31) : MuV (S := Nat → Int32) yX10_copyTo cX10_copyTo 3 none 1 40 g [.ref a, .ref r, .int (nI i)] [(a, .inr (9, [.ref b, .int (nI s.length)])), (b, .inl (g.2.1, 256, .inl f)), (r, .inl (g.2.1, nr, .inl h))] (fun h1 => h1 = va_cpy f h 0 i s.length) (fun h1 => [(a, .inr (9, [.ref b, .int (nI s.length)])), (b, .inl (g.2.1, 256, .inl f)), (r, .inl (g.2.1, nr, .inl h1))]) := by
  refine MuV.of (by decide +kernel) (Nat.le_of_ble_eq_true rfl) ?_
  intro p_ l_ e_ S_ m_ args below meth co X hr hlk hP hK A hA hD hS ls hl
  have X : CallFix p_ m_ co cX10_copyTo 3 S_ args lw_all RX10 := X
  have hl : lv_has ls 3 [(0, .ref a), (1, .ref r), (2, .int (nI i))] := hl
  refine lv_iload_n X.1 X.2.1 dX10_copyTo_0 rfl (lv_at hl 2 rfl) ?_
  refine z_if_lt (tgt := 29) X dX10_copyTo_1 (by decide) (nI_toInt (by omega)) (fun c1 => ?_) (fun c1 => ?_)
  · exfalso; omega
  · refine lv_iload_n X.1 X.2.1 dX10_copyTo_4 rfl (lv_at hl 2 rfl) ?_
    refine lv_aload_n X.1 X.2.1 dX10_copyTo_5 rfl (lv_at hl 1 rfl) ?_
    refine va_alen X.1 X.2.1 hK hP 2 0 rfl rfl (v := nI nr) rfl dX10_copyTo_6 ?_
    refine lv_aload_n X.1 X.2.1 dX10_copyTo_7 rfl (lv_at hl 0 rfl) ?_
    refine va_get (D := g.1) (ci := 9) (v := .int (nI s.length)) (C := RX10) (T := TX10) (N := 2) X.1 X.2.1 X.2.2.2.2 iwX10 X.2.2.2.1 hK hP 0 rfl rfl 1 (by decide) (X.2.2.2.2 _ q107) (fun _ h9 => h9) rfl dX10_copyTo_8 ?_
    refine n_sub X dX10_copyTo_11 (by omega) ?_
    refine z_icmp_gt (tgt := 29) X dX10_copyTo_12 (by decide) (nI_toInt (by omega)) (nI_toInt (by omega)) (fun c12 => ?_) (fun c12 => ?_)
    · exfalso; omega
    · refine lv_aload_n X.1 X.2.1 dX10_copyTo_15 rfl (lv_at hl 0 rfl) ?_
      refine va_get (D := g.1) (ci := 9) (v := .ref b) (C := RX10) (T := TX10) (N := 2) X.1 X.2.1 X.2.2.2.2 iwX10 X.2.2.2.1 hK hP 0 rfl rfl 0 (by decide) (X.2.2.2.2 _ q106) (fun _ h9 => h9) rfl dX10_copyTo_16 ?_
      refine lv_iconst (v := (nI 0)) X.1 X.2.1 dX10_copyTo_19 (by decide) ?_
      refine lv_aload_n X.1 X.2.1 dX10_copyTo_20 rfl (lv_at hl 1 rfl) ?_
      refine lv_iload_n X.1 X.2.1 dX10_copyTo_21 rfl (lv_at hl 2 rfl) ?_
      refine lv_aload_n X.1 X.2.1 dX10_copyTo_22 rfl (lv_at hl 0 rfl) ?_
      refine va_get (D := g.1) (ci := 9) (v := .int (nI s.length)) (C := RX10) (T := TX10) (N := 2) X.1 X.2.1 X.2.2.2.2 iwX10 X.2.2.2.1 hK hP 0 rfl rfl 1 (by decide) (X.2.2.2.2 _ q107) (fun _ h9 => h9) rfl dX10_copyTo_23 ?_
      refine n_copy (rest := []) X q476 q478 q477 q66 hl.1 hK hP hD hS 1 2 rfl rfl (by omega) (by omega) (by omega) (by omega) (Nat.le_of_ble_eq_true rfl) (by decide) dX10_copyTo_26 (fun H locs hP hD hS => ?_)
      have hP : PP g [(a, .inr (9, [.ref b, .int (nI s.length)])), (b, .inl (g.2.1, 256, .inl f)), (r, .inl (g.2.1, nr, .inl (va_cpy f h 0 i s.length)))] H := hP
      have hD : va_D A [(a, .inr (9, [.ref b, .int (nI s.length)])), (b, .inl (g.2.1, 256, .inl f)), (r, .inl (g.2.1, nr, .inl (va_cpy f h 0 i s.length)))] := hD
      exact MuV.ret X hr hlk hK hS dX10_copyTo_29 (va_cpy f h 0 i s.length) (hP.sub [0, 1, 2] rfl) (hD.sub [0, 1, 2] (by decide) rfl) (rfl)

set_option maxHeartbeats 4000000 in
set_option maxRecDepth 100000 in
theorem c_Word_same (g : G5) (a : Nat) (b : Nat) (s : List Nat) (f : Nat → Int32) (a2 : Nat) (b2 : Nat) (z : List Nat) (f2 : Nat → Int32) (hs : s.length ≤ 256) (hf : rep f s) (hz : z.length ≤ 256) (hf2 : rep f2 z) (hb : bd s) (hb2 : bd z) : PuI yX10_isSame cX10_isSame 3 (some .boolean) 0 0 g [.ref a, .ref a2] [(a, .inr (9, [.ref b, .int (nI s.length)])), (b, .inl (g.2.1, 256, .inl f)), (a2, .inr (9, [.ref b2, .int (nI z.length)])), (b2, .inl (g.2.1, 256, .inl f2))] (bI (sameB s z)) := by
  refine PuI.of (by decide +kernel) (Nat.le_of_ble_eq_true rfl) ?_
  intro p_ l_ e_ S_ m_ args below meth co X hr hlk hP hK ls hl
  have X : CallFix p_ m_ co cX10_isSame 3 S_ args lw_all RX10 := X
  have hl : lv_has ls 3 [(0, .ref a), (1, .ref a2)] := hl
  refine lv_aload_n X.1 X.2.1 dX10_isSame_0 rfl (lv_at hl 0 rfl) ?_
  refine va_get (D := g.1) (ci := 9) (v := .int (nI s.length)) (C := RX10) (T := TX10) (N := 2) X.1 X.2.1 X.2.2.2.2 iwX10 X.2.2.2.1 hK hP 0 rfl rfl 1 (by decide) (X.2.2.2.2 _ q107) (fun _ h9 => h9) rfl dX10_isSame_1 ?_
  refine lv_aload_n X.1 X.2.1 dX10_isSame_4 rfl (lv_at hl 1 rfl) ?_
  refine va_get (D := g.1) (ci := 9) (v := .int (nI z.length)) (C := RX10) (T := TX10) (N := 2) X.1 X.2.1 X.2.2.2.2 iwX10 X.2.2.2.1 hK hP 2 rfl rfl 1 (by decide) (X.2.2.2.2 _ q107) (fun _ h9 => h9) rfl dX10_isSame_5 ?_
  refine z_icmp_eq (tgt := 13) X dX10_isSame_8 (by decide) (nI_toInt (by omega)) (nI_toInt (by omega)) (fun c8 => ?_) (fun c8 => ?_)
  · refine lv_iconst (v := (nI 0)) X.1 X.2.1 dX10_isSame_13 (by decide) ?_
    refine lv_istore_n (lv' := [(2, .int (nI 0)), (0, .ref a), (1, .ref a2)]) X.1 X.2.1 dX10_isSame_14 rfl hl (by decide) rfl (fun ls hl => ?_)
    have L15 : ∀ (r : Nat) (t : Nat) (h1 : t + r = s.length) (hq : sameL s z r t = sameB s z) (ls : Array Slot) (hl : lv_has ls 3 [(2, .int (nI t)), (0, .ref a), (1, .ref a2)]), W p_ l_ e_ { frames := 0, cells := 0, slots := 0, locals := 0 } S_ m_ args below meth co S_.heap [] 0 0 (MQ below (vp_Si (fun r => r = (bI (sameB s z)))) args S_ 0 0 (fun _ => False)) (F0 m_ 15 ls []) := by
      intro r
      induction r with
      | zero =>
        intro t h1 hq ls hl
        refine lv_iload_n X.1 X.2.1 dX10_isSame_15 rfl (lv_at hl 0 rfl) ?_
        refine lv_aload_n X.1 X.2.1 dX10_isSame_16 rfl (lv_at hl 1 rfl) ?_
        refine va_get (D := g.1) (ci := 9) (v := .int (nI s.length)) (C := RX10) (T := TX10) (N := 2) X.1 X.2.1 X.2.2.2.2 iwX10 X.2.2.2.1 hK hP 0 rfl rfl 1 (by decide) (X.2.2.2.2 _ q107) (fun _ h9 => h9) rfl dX10_isSame_17 ?_
        refine z_icmp_ge (tgt := 46) X dX10_isSame_20 (by decide) (nI_toInt (by omega)) (nI_toInt (by omega)) (fun c20 => ?_) (fun c20 => ?_)
        · refine lv_iconst (v := (nI 1)) X.1 X.2.1 dX10_isSame_46 (by decide) ?_
          exact PuI.ret X hr hlk dX10_isSame_47 (bI_nar _) (by rw [← hq]; rfl)
        · exfalso; omega
      | succ r ih15 =>
        intro t h1 hq ls hl
        refine lv_iload_n X.1 X.2.1 dX10_isSame_15 rfl (lv_at hl 0 rfl) ?_
        refine lv_aload_n X.1 X.2.1 dX10_isSame_16 rfl (lv_at hl 1 rfl) ?_
        refine va_get (D := g.1) (ci := 9) (v := .int (nI s.length)) (C := RX10) (T := TX10) (N := 2) X.1 X.2.1 X.2.2.2.2 iwX10 X.2.2.2.1 hK hP 0 rfl rfl 1 (by decide) (X.2.2.2.2 _ q107) (fun _ h9 => h9) rfl dX10_isSame_17 ?_
        refine z_icmp_ge (tgt := 46) X dX10_isSame_20 (by decide) (nI_toInt (by omega)) (nI_toInt (by omega)) (fun c20 => ?_) (fun c20 => ?_)
        · exfalso; omega
        · refine lv_aload_n X.1 X.2.1 dX10_isSame_23 rfl (lv_at hl 1 rfl) ?_
          refine va_get (D := g.1) (ci := 9) (v := .ref b) (C := RX10) (T := TX10) (N := 2) X.1 X.2.1 X.2.2.2.2 iwX10 X.2.2.2.1 hK hP 0 rfl rfl 0 (by decide) (X.2.2.2.2 _ q106) (fun _ h9 => h9) rfl dX10_isSame_24 ?_
          refine lv_iload_n X.1 X.2.1 dX10_isSame_27 rfl (lv_at hl 0 rfl) ?_
          refine n_iald X hK hP 1 0 rfl rfl (by omega) (by decide) dX10_isSame_28 ?_
          refine tp_i (y := (nI (s.getD t 0))) (hf t (by omega)) ?_
          refine lv_aload_n X.1 X.2.1 dX10_isSame_29 rfl (lv_at hl 2 rfl) ?_
          refine va_get (D := g.1) (ci := 9) (v := .ref b2) (C := RX10) (T := TX10) (N := 2) X.1 X.2.1 X.2.2.2.2 iwX10 X.2.2.2.1 hK hP 2 rfl rfl 0 (by decide) (X.2.2.2.2 _ q106) (fun _ h9 => h9) rfl dX10_isSame_30 ?_
          refine lv_iload_n X.1 X.2.1 dX10_isSame_33 rfl (lv_at hl 0 rfl) ?_
          refine n_iald X hK hP 3 0 rfl rfl (by omega) (by decide) dX10_isSame_34 ?_
          have e1 := bd_at hb t
          have e2 := bd_at hb2 t
          refine tp_i (y := (nI (z.getD t 0))) (hf2 t (by omega)) ?_
          refine z_icmp_eq (tgt := 40) X dX10_isSame_35 (by decide) (nI_toInt (by omega)) (nI_toInt (by omega)) (fun c35 => ?_) (fun c35 => ?_)
          · refine lv_iinc (v := (nI (t + 1))) (lv' := [(2, .int (nI (t + 1))), (0, .ref a), (1, .ref a2)]) X.1 X.2.1 dX10_isSame_40 hl (k := 0) rfl (nI_inc _) (by decide) rfl (fun ls hl => ?_)
            refine lv_goto (tgt := 15) X.1 X.2.1 dX10_isSame_43 (by decide) ?_
            exact ih15 (t + 1) (by omega) (by rw [sameL, if_pos (by omega)] at hq; exact hq) ls (lv_sub hl [0, 1, 2] rfl)
          · refine lv_iconst (v := (nI 0)) X.1 X.2.1 dX10_isSame_38 (by decide) ?_
            exact PuI.ret X hr hlk dX10_isSame_39 (bI_nar _) (by rw [sameL, if_neg (by omega)] at hq; rw [← hq]; rfl)
    exact L15 s.length 0 (by omega) (by unfold sameB; rw [if_pos (by omega)]) ls (lv_sub hl [0, 1, 2] rfl)
  · refine lv_iconst (v := (nI 0)) X.1 X.2.1 dX10_isSame_11 (by decide) ?_
    exact PuI.ret X hr hlk dX10_isSame_12 (bI_nar _) (by unfold sameB; rw [if_neg (by omega)]; rfl)

set_option maxHeartbeats 4000000 in
set_option maxRecDepth 100000 in
theorem c_Word_repeats (g : G5) (a : Nat) (b : Nat) (s : List Nat) (f : Nat → Int32) (i : Nat) (j : Nat) (c : Nat) (hs : s.length ≤ 256) (hf : rep f s) (hb : bd s) (h0 : 0 < s.length ∨ c = 0) (hi : i < 1000) (hj : j < 1000) (hc : c ≤ 256) : PuI yX10_repeats cX10_repeats 5 (some .boolean) 2 43 g [.ref a, .int (nI i), .int (nI j), .int (nI c)] [(a, .inr (9, [.ref b, .int (nI s.length)])), (b, .inl (g.2.1, 256, .inl f))] (bI (repB s i j c)) := by
  refine PuI.of (by decide +kernel) (Nat.le_of_ble_eq_true rfl) ?_
  intro p_ l_ e_ S_ m_ args below meth co X hr hlk hP hK ls hl
  have X : CallFix p_ m_ co cX10_repeats 5 S_ args lw_all RX10 := X
  have hl : lv_has ls 5 [(0, .ref a), (1, .int (nI i)), (2, .int (nI j)), (3, .int (nI c))] := hl
  refine lv_iconst (v := (nI 0)) X.1 X.2.1 dX10_repeats_0 (by decide) ?_
  refine lv_istore (lv' := [(4, .int (nI 0)), (0, .ref a), (1, .int (nI i)), (2, .int (nI j)), (3, .int (nI c))]) X.1 X.2.1 dX10_repeats_1 hl (by decide) rfl (fun ls hl => ?_)
  have L3 : ∀ (r : Nat) (t : Nat) (h1 : t + r = c) (hq : repL s i j r t = repB s i j c) (ls : Array Slot) (hl : lv_has ls 5 [(4, .int (nI t)), (0, .ref a), (1, .int (nI i)), (2, .int (nI j)), (3, .int (nI c))]), W p_ l_ e_ { frames := 2, cells := 0, slots := 0, locals := 43 } S_ m_ args below meth co S_.heap [] 0 0 (MQ below (vp_Si (fun r => r = (bI (repB s i j c)))) args S_ 0 0 (fun _ => False)) (F0 m_ 3 ls []) := by
    intro r
    induction r with
    | zero =>
      intro t h1 hq ls hl
      refine lv_iload X.1 X.2.1 dX10_repeats_3 (lv_at hl 0 rfl) ?_
      refine lv_iload_n X.1 X.2.1 dX10_repeats_5 rfl (lv_at hl 4 rfl) ?_
      refine z_icmp_ge (tgt := 36) X dX10_repeats_6 (by decide) (nI_toInt (by omega)) (nI_toInt (by omega)) (fun c6 => ?_) (fun c6 => ?_)
      · refine lv_iconst (v := (nI 1)) X.1 X.2.1 dX10_repeats_36 (by decide) ?_
        exact PuI.ret X hr hlk dX10_repeats_37 (bI_nar _) (by rw [← hq]; rfl)
      · exfalso; omega
    | succ r ih3 =>
      intro t h1 hq ls hl
      refine lv_iload X.1 X.2.1 dX10_repeats_3 (lv_at hl 0 rfl) ?_
      refine lv_iload_n X.1 X.2.1 dX10_repeats_5 rfl (lv_at hl 4 rfl) ?_
      refine z_icmp_ge (tgt := 36) X dX10_repeats_6 (by decide) (nI_toInt (by omega)) (nI_toInt (by omega)) (fun c6 => ?_) (fun c6 => ?_)
      · exfalso; omega
      · refine lv_aload_n X.1 X.2.1 dX10_repeats_9 rfl (lv_at hl 1 rfl) ?_
        refine lv_iload_n X.1 X.2.1 dX10_repeats_10 rfl (lv_at hl 2 rfl) ?_
        refine lv_iload X.1 X.2.1 dX10_repeats_11 (lv_at hl 0 rfl) ?_
        refine n_add X dX10_repeats_13 ?_
        refine (c_Word_arN g a b s f (i + t) (by omega) (by assumption) (by omega) (by omega)).callV (rest := []) X dX10_repeats_14 q624 tX10_around hK (hP.sub [0, 1] rfl) 0 9 rfl rfl rfl hl ⟨⟨Nat.le_of_ble_eq_true rfl, Nat.le_of_ble_eq_true rfl⟩, Nat.le_of_ble_eq_true rfl, Nat.le_of_ble_eq_true rfl⟩ rfl rfl (Nat.le_of_ble_eq_true rfl) ?_
        refine lv_aload_n X.1 X.2.1 dX10_repeats_17 rfl (lv_at hl 1 rfl) ?_
        refine lv_iload_n X.1 X.2.1 dX10_repeats_18 rfl (lv_at hl 3 rfl) ?_
        refine lv_iload X.1 X.2.1 dX10_repeats_19 (lv_at hl 0 rfl) ?_
        refine n_add X dX10_repeats_21 ?_
        refine (c_Word_arN g a b s f (j + t) (by omega) (by assumption) (by omega) (by omega)).callV (rest := [.int (nI (s.getD ((i + t) % s.length) 0))]) X dX10_repeats_22 q624 tX10_around hK (hP.sub [0, 1] rfl) 0 9 rfl rfl rfl hl ⟨⟨Nat.le_of_ble_eq_true rfl, Nat.le_of_ble_eq_true rfl⟩, Nat.le_of_ble_eq_true rfl, Nat.le_of_ble_eq_true rfl⟩ rfl rfl (Nat.le_of_ble_eq_true rfl) ?_
        have e1 := bd_at hb ((i + t) % s.length)
        have e2 := bd_at hb ((j + t) % s.length)
        refine z_icmp_eq (tgt := 30) X dX10_repeats_25 (by decide) (nI_toInt (by omega)) (nI_toInt (by omega)) (fun c25 => ?_) (fun c25 => ?_)
        · refine lv_iinc (v := (nI (t + 1))) (lv' := [(4, .int (nI (t + 1))), (0, .ref a), (1, .int (nI i)), (2, .int (nI j)), (3, .int (nI c))]) X.1 X.2.1 dX10_repeats_30 hl (k := 0) rfl (nI_inc _) (by decide) rfl (fun ls hl => ?_)
          refine lv_goto (tgt := 3) X.1 X.2.1 dX10_repeats_33 (by decide) ?_
          exact ih3 (t + 1) (by omega) (by rw [repL, if_pos (by omega)] at hq; exact hq) ls (lv_sub hl [0, 1, 2, 3, 4] rfl)
        · refine lv_iconst (v := (nI 0)) X.1 X.2.1 dX10_repeats_28 (by decide) ?_
          exact PuI.ret X hr hlk dX10_repeats_29 (bI_nar _) (by rw [repL, if_neg (by omega)] at hq; rw [← hq]; rfl)
  exact L3 c 0 (by omega) (rfl) ls (lv_sub hl [0, 1, 2, 3, 4] rfl)

set_option maxHeartbeats 4000000 in
set_option maxRecDepth 100000 in
theorem c_Word_isConst (g : G5) (a : Nat) (b : Nat) (s : List Nat) (f : Nat → Int32) (hs : s.length ≤ 256) (hf : rep f s) (hb : bd s) : PuI yX10_isConstant cX10_isConstant 1 (some .boolean) 3 67 g [.ref a] [(a, .inr (9, [.ref b, .int (nI s.length)])), (b, .inl (g.2.1, 256, .inl f))] (bI (repB s 0 1 s.length)) := by
  refine PuI.of (by decide +kernel) (Nat.le_of_ble_eq_true rfl) ?_
  intro p_ l_ e_ S_ m_ args below meth co X hr hlk hP hK ls hl
  have X : CallFix p_ m_ co cX10_isConstant 1 S_ args lw_all RX10 := X
  have hl : lv_has ls 1 [(0, .ref a)] := hl
  refine lv_aload_n X.1 X.2.1 dX10_isConstant_0 rfl (lv_at hl 0 rfl) ?_
  refine lv_iconst (v := (nI 0)) X.1 X.2.1 dX10_isConstant_1 (by decide) ?_
  refine lv_iconst (v := (nI 1)) X.1 X.2.1 dX10_isConstant_2 (by decide) ?_
  refine lv_aload_n X.1 X.2.1 dX10_isConstant_3 rfl (lv_at hl 0 rfl) ?_
  refine va_get (D := g.1) (ci := 9) (v := .int (nI s.length)) (C := RX10) (T := TX10) (N := 2) X.1 X.2.1 X.2.2.2.2 iwX10 X.2.2.2.1 hK hP 0 rfl rfl 1 (by decide) (X.2.2.2.2 _ q107) (fun _ h9 => h9) rfl dX10_isConstant_4 ?_
  refine (c_Word_repeats g a b s f 0 1 s.length (by omega) (by assumption) (by assumption) (by omega) (by omega) (by omega) (by omega)).callV (rest := []) X dX10_isConstant_7 q870 tX10_repeats hK (hP.sub [0, 1] rfl) 0 9 rfl rfl rfl hl ⟨⟨Nat.le_of_ble_eq_true rfl, Nat.le_of_ble_eq_true rfl⟩, Nat.le_of_ble_eq_true rfl, Nat.le_of_ble_eq_true rfl⟩ rfl rfl (Nat.le_of_ble_eq_true rfl) ?_
  exact PuI.ret X hr hlk dX10_isConstant_10 (bI_nar _) (rfl)

set_option maxHeartbeats 4000000 in
set_option maxRecDepth 100000 in
theorem c_Word_addPart (g : G5) (a : Nat) (b : Nat) (s : List Nat) (f : Nat → Int32) (a2 : Nat) (b2 : Nat) (z : List Nat) (f2 : Nat → Int32) (i : Nat) (c : Nat) (hf : rep f s) (hz : z.length ≤ 256) (hf2 : rep f2 z) (h0 : 0 < z.length ∨ c = 0) (hi : i < 1000) (hc : s.length + c ≤ 256) : MuV (S := Nat → Int32) yX10_addPart cX10_addPart 5 none 2 43 g [.ref a, .ref a2, .int (nI i), .int (nI c)] [(a, .inr (9, [.ref b, .int (nI s.length)])), (b, .inl (g.2.1, 256, .inl f)), (a2, .inr (9, [.ref b2, .int (nI z.length)])), (b2, .inl (g.2.1, 256, .inl f2))] (fun f1 => rep f1 (s ++ partL z i c 0)) (fun f1 => [(a, .inr (9, [.ref b, .int (nI ((s ++ partL z i c 0).length))])), (b, .inl (g.2.1, 256, .inl f1)), (a2, .inr (9, [.ref b2, .int (nI z.length)])), (b2, .inl (g.2.1, 256, .inl f2))]) := by
  refine MuV.of (by decide +kernel) (Nat.le_of_ble_eq_true rfl) ?_
  intro p_ l_ e_ S_ m_ args below meth co X hr hlk hP hK A hA hD hS ls hl
  have X : CallFix p_ m_ co cX10_addPart 5 S_ args lw_all RX10 := X
  have hl : lv_has ls 5 [(0, .ref a), (1, .ref a2), (2, .int (nI i)), (3, .int (nI c))] := hl
  refine lv_iconst (v := (nI 0)) X.1 X.2.1 dX10_addPart_0 (by decide) ?_
  refine lv_istore (lv' := [(4, .int (nI 0)), (0, .ref a), (1, .ref a2), (2, .int (nI i)), (3, .int (nI c))]) X.1 X.2.1 dX10_addPart_1 hl (by decide) rfl (fun ls hl => ?_)
  have L3 : ∀ (r : Nat) (t : Nat) (s1 : List Nat) (f1 : Nat → Int32) (h1 : t + r = c) (hq : s1 ++ partL z i r t = s ++ partL z i c 0) (hf1 : rep f1 s1) (h2 : s1.length + r ≤ 256) (H : Heap) (locs : List Loc) (hP : PP g [(a, .inr (9, [.ref b, .int (nI s1.length)])), (b, .inl (g.2.1, 256, .inl f1)), (a2, .inr (9, [.ref b2, .int (nI z.length)])), (b2, .inl (g.2.1, 256, .inl f2))] H) (hD : va_D A [(a, .inr (9, [.ref b, .int (nI s1.length)])), (b, .inl (g.2.1, 256, .inl f1)), (a2, .inr (9, [.ref b2, .int (nI z.length)])), (b2, .inl (g.2.1, 256, .inl f2))]) (hS : va_S A S_.heap H locs) (ls : Array Slot) (hl : lv_has ls 5 [(4, .int (nI t)), (0, .ref a), (1, .ref a2), (2, .int (nI i)), (3, .int (nI c))]), W p_ l_ e_ { frames := 2, cells := 0, slots := 0, locals := 43 } S_ m_ args below meth co H locs 0 0 (MQ below (va_Qv (S := Nat → Int32) (fun f1 => rep f1 (s ++ partL z i c 0)) (MuB g A (fun f1 => [(a, .inr (9, [.ref b, .int (nI ((s ++ partL z i c 0).length))])), (b, .inl (g.2.1, 256, .inl f1)), (a2, .inr (9, [.ref b2, .int (nI z.length)])), (b2, .inl (g.2.1, 256, .inl f2))])) A) args S_ 0 0 A) (F0 m_ 3 ls []) := by
    intro r
    induction r with
    | zero =>
      intro t s1 f1 h1 hq hf1 h2 H locs hP hD hS ls hl
      have e9 : s1 = s ++ partL z i c 0 := by simpa [partL] using hq
      refine lv_iload X.1 X.2.1 dX10_addPart_3 (lv_at hl 0 rfl) ?_
      refine lv_iload_n X.1 X.2.1 dX10_addPart_5 rfl (lv_at hl 4 rfl) ?_
      refine z_icmp_ge (tgt := 27) X dX10_addPart_6 (by decide) (nI_toInt (by omega)) (nI_toInt (by omega)) (fun c6 => ?_) (fun c6 => ?_)
      · have hP : PP g [(a, .inr (9, [.ref b, .int (nI ((s ++ partL z i c 0).length))])), (b, .inl (g.2.1, 256, .inl f1)), (a2, .inr (9, [.ref b2, .int (nI z.length)])), (b2, .inl (g.2.1, 256, .inl f2))] H := by rw [← e9]; exact hP
        have hD : va_D A [(a, .inr (9, [.ref b, .int (nI ((s ++ partL z i c 0).length))])), (b, .inl (g.2.1, 256, .inl f1)), (a2, .inr (9, [.ref b2, .int (nI z.length)])), (b2, .inl (g.2.1, 256, .inl f2))] := by rw [← e9]; exact hD
        exact MuV.ret X hr hlk hK hS dX10_addPart_27 f1 (hP.sub [0, 1, 2, 3] rfl) (hD.sub [0, 1, 2, 3] (by decide) rfl) (rep_eq hf1 e9)
      · exfalso; omega
    | succ r ih3 =>
      intro t s1 f1 h1 hq hf1 h2 H locs hP hD hS ls hl
      refine lv_iload X.1 X.2.1 dX10_addPart_3 (lv_at hl 0 rfl) ?_
      refine lv_iload_n X.1 X.2.1 dX10_addPart_5 rfl (lv_at hl 4 rfl) ?_
      refine z_icmp_ge (tgt := 27) X dX10_addPart_6 (by decide) (nI_toInt (by omega)) (nI_toInt (by omega)) (fun c6 => ?_) (fun c6 => ?_)
      · exfalso; omega
      · refine lv_aload_n X.1 X.2.1 dX10_addPart_9 rfl (lv_at hl 1 rfl) ?_
        refine lv_aload_n X.1 X.2.1 dX10_addPart_10 rfl (lv_at hl 2 rfl) ?_
        refine lv_iload_n X.1 X.2.1 dX10_addPart_11 rfl (lv_at hl 3 rfl) ?_
        refine lv_iload X.1 X.2.1 dX10_addPart_12 (lv_at hl 0 rfl) ?_
        refine n_add X dX10_addPart_14 ?_
        refine (c_Word_arN g a2 b2 z f2 (i + t) (by omega) (by assumption) (by omega) (by omega)).callV (rest := [.ref a]) X dX10_addPart_15 q624 tX10_around hK (hP.sub [2, 3] rfl) 0 9 rfl rfl rfl hl ⟨⟨Nat.le_of_ble_eq_true rfl, Nat.le_of_ble_eq_true rfl⟩, Nat.le_of_ble_eq_true rfl, Nat.le_of_ble_eq_true rfl⟩ rfl rfl (Nat.le_of_ble_eq_true rfl) ?_
        refine (c_Word_add g a b s1 f1 (z.getD ((i + t) % z.length) 0) (by omega) (by assumption)).callV (rest := []) (wr := [(a2, .inr (9, [.ref b2, .int (nI z.length)])), (b2, .inl (g.2.1, 256, .inl f2))]) X dX10_addPart_18 q629 tX10_add hK hP hD hS hA [0, 1] [2, 3] (by decide) rfl rfl (by decide) (by decide) 0 9 rfl rfl rfl hl ⟨⟨Nat.le_of_ble_eq_true rfl, Nat.le_of_ble_eq_true rfl⟩, Nat.le_of_ble_eq_true rfl, Nat.le_of_ble_eq_true rfl⟩ rfl rfl (Nat.le_of_ble_eq_true rfl) (fun u18 H locs hw18 hP hD hS => ?_)
        obtain ⟨f1_18, rfl⟩ : ∃ z, z = u18 := ⟨_, rfl⟩
        have hP : PP g [(a2, .inr (9, [.ref b2, .int (nI z.length)])), (b2, .inl (g.2.1, 256, .inl f2)), (a, .inr (9, [.ref b, .int (nI ((s1 ++ [(z.getD ((i + t) % z.length) 0)]).length))])), (b, .inl (g.2.1, 256, .inl f1_18))] H := hP
        have hD : va_D A [(a2, .inr (9, [.ref b2, .int (nI z.length)])), (b2, .inl (g.2.1, 256, .inl f2)), (a, .inr (9, [.ref b, .int (nI ((s1 ++ [(z.getD ((i + t) % z.length) 0)]).length))])), (b, .inl (g.2.1, 256, .inl f1_18))] := hD
        refine lv_iinc (v := (nI (t + 1))) (lv' := [(4, .int (nI (t + 1))), (0, .ref a), (1, .ref a2), (2, .int (nI i)), (3, .int (nI c))]) X.1 X.2.1 dX10_addPart_21 hl (k := 0) rfl (nI_inc _) (by decide) rfl (fun ls hl => ?_)
        refine lv_goto (tgt := 3) X.1 X.2.1 dX10_addPart_24 (by decide) ?_
        exact ih3 (t + 1) (s1 ++ [z.getD ((i + t) % z.length) 0]) f1_18 (by omega) (by rw [partL] at hq; simpa using hq) (hw18) (by simp; omega) _ _ (hP.sub [2, 3, 0, 1] rfl) (hD.sub [2, 3, 0, 1] (by decide) rfl) hS ls (lv_sub hl [0, 1, 2, 3, 4] rfl)
  exact L3 c 0 s f (by omega) (rfl) (hf) (by omega) _ _ (hP.sub [0, 1, 2, 3] rfl) (hD.sub [0, 1, 2, 3] (by decide) rfl) hS ls (lv_sub hl [0, 1, 2, 3, 4] rfl)
