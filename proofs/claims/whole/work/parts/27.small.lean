set_option maxHeartbeats 4000000 in
set_option maxRecDepth 100000 in
theorem c_pt_size (g : G5) (a : Nat) (b : Nat) (p : List Int) (f : Nat → Int32) : PuI yX5_size cX5_size 1 (some .int) 0 0 g [.ref a] [(a, .inr (5, [.ref b, .int (nI p.length)])), (b, .inl (g.2.1, 8, .inl f))] (nI p.length) := by
  refine PuI.of (by decide +kernel) (Nat.le_of_ble_eq_true rfl) ?_
  intro p_ l_ e_ S_ m_ args below meth co X hr hlk hP hK ls hl
  have X : CallFix p_ m_ co cX5_size 1 S_ args lw_all RX5 := X
  have hl : lv_has ls 1 [(0, .ref a)] := hl
  refine lv_aload_n X.1 X.2.1 dX5_size_0 rfl (lv_at hl 0 rfl) ?_
  refine va_get (D := g.1) (ci := 5) (v := .int (nI p.length)) (C := RX5) (T := TX5) (N := 2) X.1 X.2.1 X.2.2.2.2 iwX5 X.2.2.2.1 hK hP 0 rfl rfl 1 (by decide) (X.2.2.2.2 _ q174) (fun _ h9 => h9) rfl dX5_size_1 ?_
  exact PuI.ret X hr hlk dX5_size_4 (nI_nar _) (rfl)

set_option maxHeartbeats 4000000 in
set_option maxRecDepth 100000 in
theorem c_pt_full (g : G5) (a : Nat) (b : Nat) (p : List Int) (f : Nat → Int32) (hp : p.length ≤ 8) : PuI yX5_isFull cX5_isFull 1 (some .boolean) 0 0 g [.ref a] [(a, .inr (5, [.ref b, .int (nI p.length)])), (b, .inl (g.2.1, 8, .inl f))] (bI (decide (8 ≤ p.length))) := by
  refine PuI.of (by decide +kernel) (Nat.le_of_ble_eq_true rfl) ?_
  intro p_ l_ e_ S_ m_ args below meth co X hr hlk hP hK ls hl
  have X : CallFix p_ m_ co cX5_isFull 1 S_ args lw_all RX5 := X
  have hl : lv_has ls 1 [(0, .ref a)] := hl
  refine lv_aload_n X.1 X.2.1 dX5_isFull_0 rfl (lv_at hl 0 rfl) ?_
  refine va_get (D := g.1) (ci := 5) (v := .int (nI p.length)) (C := RX5) (T := TX5) (N := 2) X.1 X.2.1 X.2.2.2.2 iwX5 X.2.2.2.1 hK hP 0 rfl rfl 1 (by decide) (X.2.2.2.2 _ q174) (fun _ h9 => h9) rfl dX5_isFull_1 ?_
  refine lv_bipush (v := (nI 8)) X.1 X.2.1 dX5_isFull_4 (by decide) ?_
  refine z_icmp_lt (tgt := 13) X dX5_isFull_6 (by decide) (nI_toInt (by omega)) (nI_toInt (by omega)) (fun c6 => ?_) (fun c6 => ?_)
  · refine lv_iconst (v := (nI 0)) X.1 X.2.1 dX5_isFull_13 (by decide) ?_
    exact PuI.ret X hr hlk dX5_isFull_14 (bI_nar _) (by first | exact bt (by exact decide_eq_true (by omega)) | exact bf (by exact decide_eq_false (by omega)))
  · refine lv_iconst (v := (nI 1)) X.1 X.2.1 dX5_isFull_9 (by decide) ?_
    refine lv_goto (tgt := 14) X.1 X.2.1 dX5_isFull_10 (by decide) ?_
    exact PuI.ret X hr hlk dX5_isFull_14 (bI_nar _) (by first | exact bt (by exact decide_eq_true (by omega)) | exact bf (by exact decide_eq_false (by omega)))

set_option maxHeartbeats 4000000 in
set_option maxRecDepth 100000 in
theorem c_pt_clear (g : G5) (a : Nat) (b : Nat) (p : List Int) (f : Nat → Int32) : MuV (S := Nat → Int32) yX5_clear cX5_clear 1 none 0 0 g [.ref a] [(a, .inr (5, [.ref b, .int (nI p.length)])), (b, .inl (g.2.1, 8, .inl f))] (fun f1 => repZ f1 []) (fun f1 => [(a, .inr (5, [.ref b, .int (nI (([] : List Int).length))])), (b, .inl (g.2.1, 8, .inl f1))]) := by
  refine MuV.of (by decide +kernel) (Nat.le_of_ble_eq_true rfl) ?_
  intro p_ l_ e_ S_ m_ args below meth co X hr hlk hP hK A hA hD hS ls hl
  have X : CallFix p_ m_ co cX5_clear 1 S_ args lw_all RX5 := X
  have hl : lv_has ls 1 [(0, .ref a)] := hl
  refine lv_aload_n X.1 X.2.1 dX5_clear_0 rfl (lv_at hl 0 rfl) ?_
  refine lv_iconst (v := (nI 0)) X.1 X.2.1 dX5_clear_1 (by decide) ?_
  refine va_put (D := g.1) (ci := 5) (v := .int (nI 0)) (ty := .int) (C := RX5) (T := TX5) (N := 2) X.1 X.2.1 X.2.2.2.2 iwX5 tyX5 tyX5_ok nmX5 X.2.2.2.1 hK hP hD hS 0 rfl rfl 1 (by decide) (X.2.2.2.2 _ q174) (fun _ h9 => h9) rfl (by decide +kernel) rfl rfl (Nat.le_of_ble_eq_true rfl) dX5_clear_2 (fun H locs hP hD hS => ?_)
  have hP : PP g [(a, .inr (5, [.ref b, .int (nI 0)])), (b, .inl (g.2.1, 8, .inl f))] H := hP
  have hD : va_D A [(a, .inr (5, [.ref b, .int (nI 0)])), (b, .inl (g.2.1, 8, .inl f))] := hD
  exact MuV.ret X hr hlk hK hS dX5_clear_5 f (hP.sub [0, 1] rfl) (hD.sub [0, 1] (by decide) rfl) (repZ_nil)

set_option maxHeartbeats 4000000 in
set_option maxRecDepth 100000 in
theorem c_pt_add (g : G5) (a : Nat) (b : Nat) (p : List Int) (f : Nat → Int32) (x : Int32) (hp : p.length < 8) (hf : repZ f p) : MuV (S := Nat → Int32) yX5_add cX5_add 2 none 1 20 g [.ref a, .int x] [(a, .inr (5, [.ref b, .int (nI p.length)])), (b, .inl (g.2.1, 8, .inl f))] (fun f1 => repZ f1 (p ++ [x.toInt])) (fun f1 => [(a, .inr (5, [.ref b, .int (nI ((p ++ [x.toInt]).length))])), (b, .inl (g.2.1, 8, .inl f1))]) := by
  refine MuV.of (by decide +kernel) (Nat.le_of_ble_eq_true rfl) ?_
  intro p_ l_ e_ S_ m_ args below meth co X hr hlk hP hK A hA hD hS ls hl
  have X : CallFix p_ m_ co cX5_add 2 S_ args lw_all RX5 := X
  have hl : lv_has ls 2 [(0, .ref a), (1, .int x)] := hl
  refine lv_aload_n X.1 X.2.1 dX5_add_0 rfl (lv_at hl 0 rfl) ?_
  refine (c_pt_full g a b p f (by omega)).callV (rest := []) X dX5_add_1 q816 tX5_isFull hK (hP.sub [0, 1] rfl) 0 5 rfl rfl rfl hl ⟨⟨Nat.le_of_ble_eq_true rfl, Nat.le_of_ble_eq_true rfl⟩, Nat.le_of_ble_eq_true rfl, Nat.le_of_ble_eq_true rfl⟩ rfl rfl (Nat.le_of_ble_eq_true rfl) ?_
  refine b_if_ne (tgt := 27) X dX5_add_4 (by decide) (fun c4 => ?_) (fun c4 => ?_)
  · exfalso; simp at c4; omega
  · refine lv_aload_n X.1 X.2.1 dX5_add_7 rfl (lv_at hl 0 rfl) ?_
    refine va_get (D := g.1) (ci := 5) (v := .ref b) (C := RX5) (T := TX5) (N := 2) X.1 X.2.1 X.2.2.2.2 iwX5 X.2.2.2.1 hK hP 0 rfl rfl 0 (by decide) (X.2.2.2.2 _ q173) (fun _ h9 => h9) rfl dX5_add_8 ?_
    refine lv_aload_n X.1 X.2.1 dX5_add_11 rfl (lv_at hl 0 rfl) ?_
    refine va_get (D := g.1) (ci := 5) (v := .int (nI p.length)) (C := RX5) (T := TX5) (N := 2) X.1 X.2.1 X.2.2.2.2 iwX5 X.2.2.2.1 hK hP 0 rfl rfl 1 (by decide) (X.2.2.2.2 _ q174) (fun _ h9 => h9) rfl dX5_add_12 ?_
    refine lv_iload_n X.1 X.2.1 dX5_add_15 rfl (lv_at hl 1 rfl) ?_
    refine n_iast X hK hP hD hS 1 0 rfl rfl (by omega) (by decide) dX5_add_16 (fun H locs hP hD hS => ?_)
    have hP : PP g [(a, .inr (5, [.ref b, .int (nI p.length)])), (b, .inl (g.2.1, 8, .inl (upd f p.length x)))] H := hP
    have hD : va_D A [(a, .inr (5, [.ref b, .int (nI p.length)])), (b, .inl (g.2.1, 8, .inl (upd f p.length x)))] := hD
    refine lv_aload_n X.1 X.2.1 dX5_add_17 rfl (lv_at hl 0 rfl) ?_
    refine lv_dup X.1 X.2.1 dX5_add_18 rfl ?_
    refine va_get (D := g.1) (ci := 5) (v := .int (nI p.length)) (C := RX5) (T := TX5) (N := 2) X.1 X.2.1 X.2.2.2.2 iwX5 X.2.2.2.1 hK hP 0 rfl rfl 1 (by decide) (X.2.2.2.2 _ q174) (fun _ h9 => h9) rfl dX5_add_19 ?_
    refine lv_iconst (v := (nI 1)) X.1 X.2.1 dX5_add_22 (by decide) ?_
    refine n_add X dX5_add_23 ?_
    refine tp_i (y := (nI ((p ++ [x.toInt]).length))) (by simp) ?_
    refine va_put (D := g.1) (ci := 5) (v := .int (nI ((p ++ [x.toInt]).length))) (ty := .int) (C := RX5) (T := TX5) (N := 2) X.1 X.2.1 X.2.2.2.2 iwX5 tyX5 tyX5_ok nmX5 X.2.2.2.1 hK hP hD hS 0 rfl rfl 1 (by decide) (X.2.2.2.2 _ q174) (fun _ h9 => h9) rfl (by decide +kernel) rfl rfl (Nat.le_of_ble_eq_true rfl) dX5_add_24 (fun H locs hP hD hS => ?_)
    have hP : PP g [(a, .inr (5, [.ref b, .int (nI ((p ++ [x.toInt]).length))])), (b, .inl (g.2.1, 8, .inl (upd f p.length x)))] H := hP
    have hD : va_D A [(a, .inr (5, [.ref b, .int (nI ((p ++ [x.toInt]).length))])), (b, .inl (g.2.1, 8, .inl (upd f p.length x)))] := hD
    exact MuV.ret X hr hlk hK hS dX5_add_27 (upd f p.length x) (hP.sub [0, 1] rfl) (hD.sub [0, 1] (by decide) rfl) (repZ_add hf x)

set_option maxHeartbeats 4000000 in
set_option maxRecDepth 100000 in
theorem c_pt_match (g : G5) (a : Nat) (b : Nat) (p : List Int) (f : Nat → Int32) (w : Nat) (wb : Nat) (s : List Nat) (fw : Nat → Int32) (j : Nat) (hp : p.length ≤ 8) (hf : repZ f p) (ho : okp p) (hs : s.length ≤ 256) (hfw : rep fw s) (hb : bd s) (h0 : 0 < s.length) (hj : j < 1000) : PuI yX5_isMatch cX5_isMatch 4 (some .boolean) 2 43 g [.ref a, .ref w, .int (nI j)] [(a, .inr (5, [.ref b, .int (nI p.length)])), (b, .inl (g.2.1, 8, .inl f)), (w, .inr (9, [.ref wb, .int (nI s.length)])), (wb, .inl (g.2.1, 256, .inl fw))] (bI (patB s p j)) := by
  refine PuI.of (by decide +kernel) (Nat.le_of_ble_eq_true rfl) ?_
  intro p_ l_ e_ S_ m_ args below meth co X hr hlk hP hK ls hl
  have X : CallFix p_ m_ co cX5_isMatch 4 S_ args lw_all RX5 := X
  have hl : lv_has ls 4 [(0, .ref a), (1, .ref w), (2, .int (nI j))] := hl
  refine lv_iconst (v := (nI 0)) X.1 X.2.1 dX5_isMatch_0 (by decide) ?_
  refine lv_istore_n (lv' := [(3, .int (nI 0)), (0, .ref a), (1, .ref w), (2, .int (nI j))]) X.1 X.2.1 dX5_isMatch_1 rfl hl (by decide) rfl (fun ls hl => ?_)
  have L2 : ∀ (r : Nat) (i : Nat) (h1 : i + r = p.length) (hq : patL s p j r i = patB s p j) (ls : Array Slot) (hl : lv_has ls 4 [(3, .int (nI i)), (0, .ref a), (1, .ref w), (2, .int (nI j))]), W p_ l_ e_ { frames := 2, cells := 0, slots := 0, locals := 43 } S_ m_ args below meth co S_.heap [] 0 0 (MQ below (vp_Si (fun r => r = (bI (patB s p j)))) args S_ 0 0 (fun _ => False)) (F0 m_ 2 ls []) := by
    intro r
    induction r with
    | zero =>
      intro i h1 hq ls hl
      refine lv_iload_n X.1 X.2.1 dX5_isMatch_2 rfl (lv_at hl 0 rfl) ?_
      refine lv_aload_n X.1 X.2.1 dX5_isMatch_3 rfl (lv_at hl 1 rfl) ?_
      refine va_get (D := g.1) (ci := 5) (v := .int (nI p.length)) (C := RX5) (T := TX5) (N := 2) X.1 X.2.1 X.2.2.2.2 iwX5 X.2.2.2.1 hK hP 0 rfl rfl 1 (by decide) (X.2.2.2.2 _ q174) (fun _ h9 => h9) rfl dX5_isMatch_4 ?_
      refine z_icmp_ge (tgt := 44) X dX5_isMatch_7 (by decide) (nI_toInt (by omega)) (nI_toInt (by omega)) (fun c7 => ?_) (fun c7 => ?_)
      · refine lv_iconst (v := (nI 1)) X.1 X.2.1 dX5_isMatch_44 (by decide) ?_
        exact PuI.ret X hr hlk dX5_isMatch_45 (bI_nar _) (by rw [← hq]; rfl)
      · exfalso; omega
    | succ r ih2 =>
      intro i h1 hq ls hl
      refine lv_iload_n X.1 X.2.1 dX5_isMatch_2 rfl (lv_at hl 0 rfl) ?_
      refine lv_aload_n X.1 X.2.1 dX5_isMatch_3 rfl (lv_at hl 1 rfl) ?_
      refine va_get (D := g.1) (ci := 5) (v := .int (nI p.length)) (C := RX5) (T := TX5) (N := 2) X.1 X.2.1 X.2.2.2.2 iwX5 X.2.2.2.1 hK hP 0 rfl rfl 1 (by decide) (X.2.2.2.2 _ q174) (fun _ h9 => h9) rfl dX5_isMatch_4 ?_
      refine z_icmp_ge (tgt := 44) X dX5_isMatch_7 (by decide) (nI_toInt (by omega)) (nI_toInt (by omega)) (fun c7 => ?_) (fun c7 => ?_)
      · exfalso; omega
      · refine lv_aload_n X.1 X.2.1 dX5_isMatch_10 rfl (lv_at hl 1 rfl) ?_
        refine va_get (D := g.1) (ci := 5) (v := .ref b) (C := RX5) (T := TX5) (N := 2) X.1 X.2.1 X.2.2.2.2 iwX5 X.2.2.2.1 hK hP 0 rfl rfl 0 (by decide) (X.2.2.2.2 _ q173) (fun _ h9 => h9) rfl dX5_isMatch_11 ?_
        refine lv_iload_n X.1 X.2.1 dX5_isMatch_14 rfl (lv_at hl 0 rfl) ?_
        refine n_iald X hK hP 1 0 rfl rfl (by omega) (by decide) dX5_isMatch_15 ?_
        have hoi := ho i
        refine tp_i (y := (iI (p.getD i 0))) (hf i (by omega)) ?_
        refine lv_iconst (v := (-1)) X.1 X.2.1 dX5_isMatch_16 (by decide) ?_
        refine z_icmp_eq (tgt := 38) X dX5_isMatch_17 (by decide) (iI_toInt (by omega) (by omega)) (show Int32.toInt ((-1)) = (-1) from rfl) (fun c17 => ?_) (fun c17 => ?_)
        · refine lv_iinc (v := (nI (i + 1))) (lv' := [(3, .int (nI (i + 1))), (0, .ref a), (1, .ref w), (2, .int (nI j))]) X.1 X.2.1 dX5_isMatch_38 hl (k := 0) rfl (nI_inc _) (by decide) rfl (fun ls hl => ?_)
          refine lv_goto (tgt := 2) X.1 X.2.1 dX5_isMatch_41 (by decide) ?_
          exact ih2 (i + 1) (by omega) (by rw [patL, if_pos (by omega)] at hq; exact hq) ls (lv_sub hl [0, 1, 2, 3] rfl)
        · refine lv_aload_n X.1 X.2.1 dX5_isMatch_20 rfl (lv_at hl 1 rfl) ?_
          refine va_get (D := g.1) (ci := 5) (v := .ref b) (C := RX5) (T := TX5) (N := 2) X.1 X.2.1 X.2.2.2.2 iwX5 X.2.2.2.1 hK hP 0 rfl rfl 0 (by decide) (X.2.2.2.2 _ q173) (fun _ h9 => h9) rfl dX5_isMatch_21 ?_
          refine lv_iload_n X.1 X.2.1 dX5_isMatch_24 rfl (lv_at hl 0 rfl) ?_
          refine n_iald X hK hP 1 0 rfl rfl (by omega) (by decide) dX5_isMatch_25 ?_
          refine tp_i (y := (iI (p.getD i 0))) (hf i (by omega)) ?_
          refine lv_aload_n X.1 X.2.1 dX5_isMatch_26 rfl (lv_at hl 2 rfl) ?_
          refine lv_iload_n X.1 X.2.1 dX5_isMatch_27 rfl (lv_at hl 3 rfl) ?_
          refine lv_iload_n X.1 X.2.1 dX5_isMatch_28 rfl (lv_at hl 0 rfl) ?_
          refine n_add X dX5_isMatch_29 ?_
          refine (c_Word_arN g w wb s fw (j + i) (by omega) (by assumption) (by omega) (by omega)).callV (rest := [.int (iI (p.getD i 0))]) X dX5_isMatch_30 q838 tX10_around hK (hP.sub [2, 3] rfl) 0 9 rfl rfl rfl hl ⟨⟨Nat.le_of_ble_eq_true rfl, Nat.le_of_ble_eq_true rfl⟩, Nat.le_of_ble_eq_true rfl, Nat.le_of_ble_eq_true rfl⟩ rfl rfl (Nat.le_of_ble_eq_true rfl) ?_
          have e1 := bd_at hb ((j + i) % s.length)
          refine z_icmp_eq (tgt := 38) X dX5_isMatch_33 (by decide) (iI_toInt (by omega) (by omega)) (nI_toInt (by omega)) (fun c33 => ?_) (fun c33 => ?_)
          · refine lv_iinc (v := (nI (i + 1))) (lv' := [(3, .int (nI (i + 1))), (0, .ref a), (1, .ref w), (2, .int (nI j))]) X.1 X.2.1 dX5_isMatch_38 hl (k := 0) rfl (nI_inc _) (by decide) rfl (fun ls hl => ?_)
            refine lv_goto (tgt := 2) X.1 X.2.1 dX5_isMatch_41 (by decide) ?_
            exact ih2 (i + 1) (by omega) (by rw [patL, if_pos (by omega)] at hq; exact hq) ls (lv_sub hl [0, 1, 2, 3] rfl)
          · refine lv_iconst (v := (nI 0)) X.1 X.2.1 dX5_isMatch_36 (by decide) ?_
            exact PuI.ret X hr hlk dX5_isMatch_37 (bI_nar _) (by rw [patL, if_neg (by omega)] at hq; rw [← hq]; rfl)
  exact L2 p.length 0 (by omega) (rfl) ls (lv_sub hl [0, 1, 2, 3] rfl)

set_option maxHeartbeats 4000000 in
set_option maxRecDepth 100000 in
theorem c_pt_total (g : G5) (a : Nat) (b : Nat) (p : List Int) (f : Nat → Int32) (w : Nat) (wb : Nat) (s : List Nat) (fw : Nat → Int32) (hp : p.length ≤ 8) (hf : repZ f p) (ho : okp p) (hs : s.length ≤ 256) (hfw : rep fw s) (hb : bd s) : PuI yX5_matchTotal cX5_matchTotal 4 (some .int) 3 66 g [.ref a, .ref w] [(a, .inr (5, [.ref b, .int (nI p.length)])), (b, .inl (g.2.1, 8, .inl f)), (w, .inr (9, [.ref wb, .int (nI s.length)])), (wb, .inl (g.2.1, 256, .inl fw))] (nI (cntL (patB s p) s.length 0 0)) := by
  refine PuI.of (by decide +kernel) (Nat.le_of_ble_eq_true rfl) ?_
  intro p_ l_ e_ S_ m_ args below meth co X hr hlk hP hK ls hl
  have X : CallFix p_ m_ co cX5_matchTotal 4 S_ args lw_all RX5 := X
  have hl : lv_has ls 4 [(0, .ref a), (1, .ref w)] := hl
  refine lv_iconst (v := (nI 0)) X.1 X.2.1 dX5_matchTotal_0 (by decide) ?_
  refine lv_istore_n (lv' := [(2, .int (nI 0)), (0, .ref a), (1, .ref w)]) X.1 X.2.1 dX5_matchTotal_1 rfl hl (by decide) rfl (fun ls hl => ?_)
  refine lv_iconst (v := (nI 0)) X.1 X.2.1 dX5_matchTotal_2 (by decide) ?_
  refine lv_istore_n (lv' := [(3, .int (nI 0)), (2, .int (nI 0)), (0, .ref a), (1, .ref w)]) X.1 X.2.1 dX5_matchTotal_3 rfl hl (by decide) rfl (fun ls hl => ?_)
  have L4 : ∀ (r : Nat) (v : Nat) (i : Nat) (h1 : i + r = s.length) (hq : cntL (patB s p) r i v = cntL (patB s p) s.length 0 0) (ls : Array Slot) (hl : lv_has ls 4 [(3, .int (nI i)), (2, .int (nI v)), (0, .ref a), (1, .ref w)]), W p_ l_ e_ { frames := 3, cells := 0, slots := 0, locals := 66 } S_ m_ args below meth co S_.heap [] 0 0 (MQ below (vp_Si (fun r => r = (nI (cntL (patB s p) s.length 0 0)))) args S_ 0 0 (fun _ => False)) (F0 m_ 4 ls []) := by
    intro r
    induction r with
    | zero =>
      intro v i h1 hq ls hl
      refine lv_iload_n X.1 X.2.1 dX5_matchTotal_4 rfl (lv_at hl 0 rfl) ?_
      refine lv_aload_n X.1 X.2.1 dX5_matchTotal_5 rfl (lv_at hl 3 rfl) ?_
      refine (c_Word_size g w wb s fw).callV (rest := [.int (nI i)]) X dX5_matchTotal_6 q833 tX10_size hK (hP.sub [2, 3] rfl) 0 9 rfl rfl rfl hl ⟨⟨Nat.le_of_ble_eq_true rfl, Nat.le_of_ble_eq_true rfl⟩, Nat.le_of_ble_eq_true rfl, Nat.le_of_ble_eq_true rfl⟩ rfl rfl (Nat.le_of_ble_eq_true rfl) ?_
      refine z_icmp_ge (tgt := 30) X dX5_matchTotal_9 (by decide) (nI_toInt (by omega)) (nI_toInt (by omega)) (fun c9 => ?_) (fun c9 => ?_)
      · refine lv_iload_n X.1 X.2.1 dX5_matchTotal_30 rfl (lv_at hl 1 rfl) ?_
        exact PuI.ret X hr hlk dX5_matchTotal_31 (nI_nar _) (by rw [← hq]; rfl)
      · exfalso; omega
    | succ r ih4 =>
      intro v i h1 hq ls hl
      refine lv_iload_n X.1 X.2.1 dX5_matchTotal_4 rfl (lv_at hl 0 rfl) ?_
      refine lv_aload_n X.1 X.2.1 dX5_matchTotal_5 rfl (lv_at hl 3 rfl) ?_
      refine (c_Word_size g w wb s fw).callV (rest := [.int (nI i)]) X dX5_matchTotal_6 q833 tX10_size hK (hP.sub [2, 3] rfl) 0 9 rfl rfl rfl hl ⟨⟨Nat.le_of_ble_eq_true rfl, Nat.le_of_ble_eq_true rfl⟩, Nat.le_of_ble_eq_true rfl, Nat.le_of_ble_eq_true rfl⟩ rfl rfl (Nat.le_of_ble_eq_true rfl) ?_
      refine z_icmp_ge (tgt := 30) X dX5_matchTotal_9 (by decide) (nI_toInt (by omega)) (nI_toInt (by omega)) (fun c9 => ?_) (fun c9 => ?_)
      · exfalso; omega
      · refine lv_aload_n X.1 X.2.1 dX5_matchTotal_12 rfl (lv_at hl 2 rfl) ?_
        refine lv_aload_n X.1 X.2.1 dX5_matchTotal_13 rfl (lv_at hl 3 rfl) ?_
        refine lv_iload_n X.1 X.2.1 dX5_matchTotal_14 rfl (lv_at hl 0 rfl) ?_
        refine (c_pt_match g a b p f w wb s fw i (by omega) (by assumption) (by assumption) (by omega) (by assumption) (by assumption) (by omega) (by omega)).callV (rest := []) X dX5_matchTotal_15 q834 tX5_isMatch hK (hP.sub [0, 1, 2, 3] rfl) 0 5 rfl rfl rfl hl ⟨⟨Nat.le_of_ble_eq_true rfl, Nat.le_of_ble_eq_true rfl⟩, Nat.le_of_ble_eq_true rfl, Nat.le_of_ble_eq_true rfl⟩ rfl rfl (Nat.le_of_ble_eq_true rfl) ?_
        refine b_if_eq (tgt := 24) X dX5_matchTotal_18 (by decide) (fun c18 => ?_) (fun c18 => ?_)
        · refine lv_iinc (v := (nI (i + 1))) (lv' := [(3, .int (nI (i + 1))), (2, .int (nI v)), (0, .ref a), (1, .ref w)]) X.1 X.2.1 dX5_matchTotal_24 hl (k := 0) rfl (nI_inc _) (by decide) rfl (fun ls hl => ?_)
          refine lv_goto (tgt := 4) X.1 X.2.1 dX5_matchTotal_27 (by decide) ?_
          exact ih4 v (i + 1) (by omega) (by rw [cntL, c18] at hq; exact hq) ls (lv_sub hl [0, 1, 2, 3] rfl)
        · refine lv_iinc (v := (nI (v + 1))) (lv' := [(2, .int (nI (v + 1))), (3, .int (nI i)), (0, .ref a), (1, .ref w)]) X.1 X.2.1 dX5_matchTotal_21 hl (k := 1) rfl (nI_inc _) (by decide) rfl (fun ls hl => ?_)
          refine lv_iinc (v := (nI (i + 1))) (lv' := [(3, .int (nI (i + 1))), (2, .int (nI (v + 1))), (0, .ref a), (1, .ref w)]) X.1 X.2.1 dX5_matchTotal_24 hl (k := 1) rfl (nI_inc _) (by decide) rfl (fun ls hl => ?_)
          refine lv_goto (tgt := 4) X.1 X.2.1 dX5_matchTotal_27 (by decide) ?_
          exact ih4 (v + 1) (i + 1) (by omega) (by rw [cntL, c18] at hq; exact hq) ls (lv_sub hl [0, 1, 2, 3] rfl)
  exact L4 s.length 0 0 (by omega) (rfl) ls (lv_sub hl [0, 1, 2, 3] rfl)

set_option maxHeartbeats 4000000 in
set_option maxRecDepth 100000 in
theorem c_pt_place (g : G5) (a : Nat) (b : Nat) (p : List Int) (f : Nat → Int32) (w : Nat) (wb : Nat) (s : List Nat) (fw : Nat → Int32) (x : Int32) (hp : p.length ≤ 8) (hf : repZ f p) (ho : okp p) (hs : s.length ≤ 256) (hfw : rep fw s) (hb : bd s) : PuI yX5_matchPlace cX5_matchPlace 5 (some .int) 3 66 g [.ref a, .ref w, .int x] [(a, .inr (5, [.ref b, .int (nI p.length)])), (b, .inl (g.2.1, 8, .inl f)), (w, .inr (9, [.ref wb, .int (nI s.length)])), (wb, .inl (g.2.1, 256, .inl fw))] (nthL (patB s p) x.toInt s.length 0 0) := by
  refine PuI.of (by decide +kernel) (Nat.le_of_ble_eq_true rfl) ?_
  intro p_ l_ e_ S_ m_ args below meth co X hr hlk hP hK ls hl
  have X : CallFix p_ m_ co cX5_matchPlace 5 S_ args lw_all RX5 := X
  have hl : lv_has ls 5 [(0, .ref a), (1, .ref w), (2, .int x)] := hl
  refine lv_iconst (v := (nI 0)) X.1 X.2.1 dX5_matchPlace_0 (by decide) ?_
  refine lv_istore_n (lv' := [(3, .int (nI 0)), (0, .ref a), (1, .ref w), (2, .int x)]) X.1 X.2.1 dX5_matchPlace_1 rfl hl (by decide) rfl (fun ls hl => ?_)
  refine lv_iconst (v := (nI 0)) X.1 X.2.1 dX5_matchPlace_2 (by decide) ?_
  refine lv_istore (lv' := [(4, .int (nI 0)), (3, .int (nI 0)), (0, .ref a), (1, .ref w), (2, .int x)]) X.1 X.2.1 dX5_matchPlace_3 hl (by decide) rfl (fun ls hl => ?_)
  have L5 : ∀ (r : Nat) (v : Nat) (i : Nat) (h1 : i + r = s.length) (h2 : v ≤ i) (hq : nthL (patB s p) x.toInt r i v = nthL (patB s p) x.toInt s.length 0 0) (ls : Array Slot) (hl : lv_has ls 5 [(4, .int (nI i)), (3, .int (nI v)), (0, .ref a), (1, .ref w), (2, .int x)]), W p_ l_ e_ { frames := 3, cells := 0, slots := 0, locals := 66 } S_ m_ args below meth co S_.heap [] 0 0 (MQ below (vp_Si (fun r => r = (nthL (patB s p) x.toInt s.length 0 0))) args S_ 0 0 (fun _ => False)) (F0 m_ 5 ls []) := by
    intro r
    induction r with
    | zero =>
      intro v i h1 h2 hq ls hl
      refine lv_iload X.1 X.2.1 dX5_matchPlace_5 (lv_at hl 0 rfl) ?_
      refine lv_aload_n X.1 X.2.1 dX5_matchPlace_7 rfl (lv_at hl 3 rfl) ?_
      refine (c_Word_size g w wb s fw).callV (rest := [.int (nI i)]) X dX5_matchPlace_8 q833 tX10_size hK (hP.sub [2, 3] rfl) 0 9 rfl rfl rfl hl ⟨⟨Nat.le_of_ble_eq_true rfl, Nat.le_of_ble_eq_true rfl⟩, Nat.le_of_ble_eq_true rfl, Nat.le_of_ble_eq_true rfl⟩ rfl rfl (Nat.le_of_ble_eq_true rfl) ?_
      refine z_icmp_ge (tgt := 41) X dX5_matchPlace_11 (by decide) (nI_toInt (by omega)) (nI_toInt (by omega)) (fun c11 => ?_) (fun c11 => ?_)
      · refine lv_bipush (v := (-2)) X.1 X.2.1 dX5_matchPlace_41 (by decide) ?_
        exact PuI.ret X hr hlk dX5_matchPlace_43 (nI_nar _) (by rw [← hq]; rfl)
      · exfalso; omega
    | succ r ih5 =>
      intro v i h1 h2 hq ls hl
      refine lv_iload X.1 X.2.1 dX5_matchPlace_5 (lv_at hl 0 rfl) ?_
      refine lv_aload_n X.1 X.2.1 dX5_matchPlace_7 rfl (lv_at hl 3 rfl) ?_
      refine (c_Word_size g w wb s fw).callV (rest := [.int (nI i)]) X dX5_matchPlace_8 q833 tX10_size hK (hP.sub [2, 3] rfl) 0 9 rfl rfl rfl hl ⟨⟨Nat.le_of_ble_eq_true rfl, Nat.le_of_ble_eq_true rfl⟩, Nat.le_of_ble_eq_true rfl, Nat.le_of_ble_eq_true rfl⟩ rfl rfl (Nat.le_of_ble_eq_true rfl) ?_
      refine z_icmp_ge (tgt := 41) X dX5_matchPlace_11 (by decide) (nI_toInt (by omega)) (nI_toInt (by omega)) (fun c11 => ?_) (fun c11 => ?_)
      · exfalso; omega
      · refine lv_aload_n X.1 X.2.1 dX5_matchPlace_14 rfl (lv_at hl 2 rfl) ?_
        refine lv_aload_n X.1 X.2.1 dX5_matchPlace_15 rfl (lv_at hl 3 rfl) ?_
        refine lv_iload X.1 X.2.1 dX5_matchPlace_16 (lv_at hl 0 rfl) ?_
        refine (c_pt_match g a b p f w wb s fw i (by omega) (by assumption) (by assumption) (by omega) (by assumption) (by assumption) (by omega) (by omega)).callV (rest := []) X dX5_matchPlace_18 q834 tX5_isMatch hK (hP.sub [0, 1, 2, 3] rfl) 0 5 rfl rfl rfl hl ⟨⟨Nat.le_of_ble_eq_true rfl, Nat.le_of_ble_eq_true rfl⟩, Nat.le_of_ble_eq_true rfl, Nat.le_of_ble_eq_true rfl⟩ rfl rfl (Nat.le_of_ble_eq_true rfl) ?_
        refine b_if_eq (tgt := 35) X dX5_matchPlace_21 (by decide) (fun c21 => ?_) (fun c21 => ?_)
        · refine lv_iinc (v := (nI (i + 1))) (lv' := [(4, .int (nI (i + 1))), (3, .int (nI v)), (0, .ref a), (1, .ref w), (2, .int x)]) X.1 X.2.1 dX5_matchPlace_35 hl (k := 0) rfl (nI_inc _) (by decide) rfl (fun ls hl => ?_)
          refine lv_goto (tgt := 5) X.1 X.2.1 dX5_matchPlace_38 (by decide) ?_
          exact ih5 v (i + 1) (by omega) (by omega) (by rw [nthL, c21] at hq; first | exact hq | (rw [if_pos rfl, if_neg c26] at hq; exact hq)) ls (lv_sub hl [0, 1, 2, 3, 4] rfl)
        · refine lv_iload_n X.1 X.2.1 dX5_matchPlace_24 rfl (lv_at hl 1 rfl) ?_
          refine lv_iload_n X.1 X.2.1 dX5_matchPlace_25 rfl (lv_at hl 4 rfl) ?_
          refine z_icmp_ne (tgt := 32) X dX5_matchPlace_26 (by decide) (nI_toInt (by omega)) rfl (fun c26 => ?_) (fun c26 => ?_)
          · refine lv_iinc (v := (nI (v + 1))) (lv' := [(3, .int (nI (v + 1))), (4, .int (nI i)), (0, .ref a), (1, .ref w), (2, .int x)]) X.1 X.2.1 dX5_matchPlace_32 hl (k := 1) rfl (nI_inc _) (by decide) rfl (fun ls hl => ?_)
            refine lv_iinc (v := (nI (i + 1))) (lv' := [(4, .int (nI (i + 1))), (3, .int (nI (v + 1))), (0, .ref a), (1, .ref w), (2, .int x)]) X.1 X.2.1 dX5_matchPlace_35 hl (k := 1) rfl (nI_inc _) (by decide) rfl (fun ls hl => ?_)
            refine lv_goto (tgt := 5) X.1 X.2.1 dX5_matchPlace_38 (by decide) ?_
            exact ih5 (v + 1) (i + 1) (by omega) (by omega) (by rw [nthL, c21] at hq; first | exact hq | (rw [if_pos rfl, if_neg c26] at hq; exact hq)) ls (lv_sub hl [0, 1, 2, 3, 4] rfl)
          · refine lv_iload X.1 X.2.1 dX5_matchPlace_29 (lv_at hl 0 rfl) ?_
            exact PuI.ret X hr hlk dX5_matchPlace_31 (nI_nar _) (by rw [nthL, c21, if_pos rfl, if_pos c26] at hq; exact hq)
  exact L5 s.length 0 0 (by omega) (by omega) (rfl) ls (lv_sub hl [0, 1, 2, 3, 4] rfl)

set_option maxHeartbeats 4000000 in
set_option maxRecDepth 100000 in
theorem c_cm_sign (g : G5) (x : Int32) : PuI yX2_isSign cX2_isSign 1 (some .boolean) 0 0 g [.int x] [] (bI (decide (33 ≤ x.toInt ∧ x.toInt ≤ 126))) := by
  refine PuI.of (by decide +kernel) (Nat.le_of_ble_eq_true rfl) ?_
  intro p_ l_ e_ S_ m_ args below meth co X hr hlk hP hK ls hl
  have X : CallFix p_ m_ co cX2_isSign 1 S_ args lw_all RX2 := X
  have hl : lv_has ls 1 [(0, .int x)] := hl
  refine lv_iload_n X.1 X.2.1 dX2_isSign_0 rfl (lv_at hl 0 rfl) ?_
  refine lv_bipush (v := (nI 33)) X.1 X.2.1 dX2_isSign_1 (by decide) ?_
  refine z_icmp_lt (tgt := 16) X dX2_isSign_3 (by decide) rfl (nI_toInt (by omega)) (fun c3 => ?_) (fun c3 => ?_)
  · refine lv_iconst (v := (nI 0)) X.1 X.2.1 dX2_isSign_16 (by decide) ?_
    exact PuI.ret X hr hlk dX2_isSign_17 (bI_nar _) (by first | exact bt (by exact decide_eq_true (by omega)) | exact bf (by exact decide_eq_false (by omega)))
  · refine lv_iload_n X.1 X.2.1 dX2_isSign_6 rfl (lv_at hl 0 rfl) ?_
    refine lv_bipush (v := (nI 126)) X.1 X.2.1 dX2_isSign_7 (by decide) ?_
    refine z_icmp_gt (tgt := 16) X dX2_isSign_9 (by decide) rfl (nI_toInt (by omega)) (fun c9 => ?_) (fun c9 => ?_)
    · refine lv_iconst (v := (nI 0)) X.1 X.2.1 dX2_isSign_16 (by decide) ?_
      exact PuI.ret X hr hlk dX2_isSign_17 (bI_nar _) (by first | exact bt (by exact decide_eq_true (by omega)) | exact bf (by exact decide_eq_false (by omega)))
    · refine lv_iconst (v := (nI 1)) X.1 X.2.1 dX2_isSign_12 (by decide) ?_
      refine lv_goto (tgt := 17) X.1 X.2.1 dX2_isSign_13 (by decide) ?_
      exact PuI.ret X hr hlk dX2_isSign_17 (bI_nar _) (by first | exact bt (by exact decide_eq_true (by omega)) | exact bf (by exact decide_eq_false (by omega)))

set_option maxHeartbeats 4000000 in
set_option maxRecDepth 100000 in
theorem c_cm_size (g : G5) (a : Nat) (b : Nat) (c : List Nat) (f : Nat → Int32) : PuI yX2_size cX2_size 1 (some .int) 0 0 g [.ref a] [(a, .inr (2, [.ref b, .int (nI c.length)])), (b, .inl (g.2.2.2, 20, .inl f))] (nI c.length) := by
  refine PuI.of (by decide +kernel) (Nat.le_of_ble_eq_true rfl) ?_
  intro p_ l_ e_ S_ m_ args below meth co X hr hlk hP hK ls hl
  have X : CallFix p_ m_ co cX2_size 1 S_ args lw_all RX2 := X
  have hl : lv_has ls 1 [(0, .ref a)] := hl
  refine lv_aload_n X.1 X.2.1 dX2_size_0 rfl (lv_at hl 0 rfl) ?_
  refine va_get (D := g.1) (ci := 2) (v := .int (nI c.length)) (C := RX2) (T := TX2) (N := 2) X.1 X.2.1 X.2.2.2.2 iwX2 X.2.2.2.1 hK hP 0 rfl rfl 1 (by decide) (X.2.2.2.2 _ q160) (fun _ h9 => h9) rfl dX2_size_1 ?_
  exact PuI.ret X hr hlk dX2_size_4 (nI_nar _) (rfl)

set_option maxHeartbeats 4000000 in
set_option maxRecDepth 100000 in
theorem c_cm_full (g : G5) (a : Nat) (b : Nat) (c : List Nat) (f : Nat → Int32) (hc : c.length ≤ 20) : PuI yX2_isFull cX2_isFull 1 (some .boolean) 0 0 g [.ref a] [(a, .inr (2, [.ref b, .int (nI c.length)])), (b, .inl (g.2.2.2, 20, .inl f))] (bI (decide (20 ≤ c.length))) := by
  refine PuI.of (by decide +kernel) (Nat.le_of_ble_eq_true rfl) ?_
  intro p_ l_ e_ S_ m_ args below meth co X hr hlk hP hK ls hl
  have X : CallFix p_ m_ co cX2_isFull 1 S_ args lw_all RX2 := X
  have hl : lv_has ls 1 [(0, .ref a)] := hl
  refine lv_aload_n X.1 X.2.1 dX2_isFull_0 rfl (lv_at hl 0 rfl) ?_
  refine va_get (D := g.1) (ci := 2) (v := .int (nI c.length)) (C := RX2) (T := TX2) (N := 2) X.1 X.2.1 X.2.2.2.2 iwX2 X.2.2.2.1 hK hP 0 rfl rfl 1 (by decide) (X.2.2.2.2 _ q160) (fun _ h9 => h9) rfl dX2_isFull_1 ?_
  refine lv_bipush (v := (nI 20)) X.1 X.2.1 dX2_isFull_4 (by decide) ?_
  refine z_icmp_lt (tgt := 13) X dX2_isFull_6 (by decide) (nI_toInt (by omega)) (nI_toInt (by omega)) (fun c6 => ?_) (fun c6 => ?_)
  · refine lv_iconst (v := (nI 0)) X.1 X.2.1 dX2_isFull_13 (by decide) ?_
    exact PuI.ret X hr hlk dX2_isFull_14 (bI_nar _) (by first | exact bt (by exact decide_eq_true (by omega)) | exact bf (by exact decide_eq_false (by omega)))
  · refine lv_iconst (v := (nI 1)) X.1 X.2.1 dX2_isFull_9 (by decide) ?_
    refine lv_goto (tgt := 14) X.1 X.2.1 dX2_isFull_10 (by decide) ?_
    exact PuI.ret X hr hlk dX2_isFull_14 (bI_nar _) (by first | exact bt (by exact decide_eq_true (by omega)) | exact bf (by exact decide_eq_false (by omega)))

set_option maxHeartbeats 4000000 in
set_option maxRecDepth 100000 in
theorem c_cm_clear (g : G5) (a : Nat) (b : Nat) (c : List Nat) (f : Nat → Int32) : MuV (S := Nat → Int32) yX2_clear cX2_clear 1 none 0 0 g [.ref a] [(a, .inr (2, [.ref b, .int (nI c.length)])), (b, .inl (g.2.2.2, 20, .inl f))] (fun f1 => rep f1 []) (fun f1 => [(a, .inr (2, [.ref b, .int (nI (([] : List Nat).length))])), (b, .inl (g.2.2.2, 20, .inl f1))]) := by
  refine MuV.of (by decide +kernel) (Nat.le_of_ble_eq_true rfl) ?_
  intro p_ l_ e_ S_ m_ args below meth co X hr hlk hP hK A hA hD hS ls hl
  have X : CallFix p_ m_ co cX2_clear 1 S_ args lw_all RX2 := X
  have hl : lv_has ls 1 [(0, .ref a)] := hl
  refine lv_aload_n X.1 X.2.1 dX2_clear_0 rfl (lv_at hl 0 rfl) ?_
  refine lv_iconst (v := (nI 0)) X.1 X.2.1 dX2_clear_1 (by decide) ?_
  refine va_put (D := g.1) (ci := 2) (v := .int (nI 0)) (ty := .int) (C := RX2) (T := TX2) (N := 2) X.1 X.2.1 X.2.2.2.2 iwX2 tyX2 tyX2_ok nmX2 X.2.2.2.1 hK hP hD hS 0 rfl rfl 1 (by decide) (X.2.2.2.2 _ q160) (fun _ h9 => h9) rfl (by decide +kernel) rfl rfl (Nat.le_of_ble_eq_true rfl) dX2_clear_2 (fun H locs hP hD hS => ?_)
  have hP : PP g [(a, .inr (2, [.ref b, .int (nI 0)])), (b, .inl (g.2.2.2, 20, .inl f))] H := hP
  have hD : va_D A [(a, .inr (2, [.ref b, .int (nI 0)])), (b, .inl (g.2.2.2, 20, .inl f))] := hD
  exact MuV.ret X hr hlk hK hS dX2_clear_5 f (hP.sub [0, 1] rfl) (hD.sub [0, 1] (by decide) rfl) (rep_nil)

set_option maxHeartbeats 4000000 in
set_option maxRecDepth 100000 in
theorem c_cm_add (g : G5) (a : Nat) (b : Nat) (c : List Nat) (f : Nat → Int32) (x : Nat) (hc : c.length < 20) (hf : rep f c) (hx : x < 127) : MuV (S := Nat → Int32) yX2_add cX2_add 2 none 1 20 g [.ref a, .int (nI x)] [(a, .inr (2, [.ref b, .int (nI c.length)])), (b, .inl (g.2.2.2, 20, .inl f))] (fun f1 => rep f1 (c ++ [x])) (fun f1 => [(a, .inr (2, [.ref b, .int (nI ((c ++ [x]).length))])), (b, .inl (g.2.2.2, 20, .inl f1))]) := by
  refine MuV.of (by decide +kernel) (Nat.le_of_ble_eq_true rfl) ?_
  intro p_ l_ e_ S_ m_ args below meth co X hr hlk hP hK A hA hD hS ls hl
  have X : CallFix p_ m_ co cX2_add 2 S_ args lw_all RX2 := X
  have hl : lv_has ls 2 [(0, .ref a), (1, .int (nI x))] := hl
  refine lv_aload_n X.1 X.2.1 dX2_add_0 rfl (lv_at hl 0 rfl) ?_
  refine (c_cm_full g a b c f (by omega)).callV (rest := []) X dX2_add_1 q504 tX2_isFull hK (hP.sub [0, 1] rfl) 0 2 rfl rfl rfl hl ⟨⟨Nat.le_of_ble_eq_true rfl, Nat.le_of_ble_eq_true rfl⟩, Nat.le_of_ble_eq_true rfl, Nat.le_of_ble_eq_true rfl⟩ rfl rfl (Nat.le_of_ble_eq_true rfl) ?_
  refine b_if_ne (tgt := 28) X dX2_add_4 (by decide) (fun c4 => ?_) (fun c4 => ?_)
  · exfalso; simp at c4; omega
  · refine lv_aload_n X.1 X.2.1 dX2_add_7 rfl (lv_at hl 0 rfl) ?_
    refine va_get (D := g.1) (ci := 2) (v := .ref b) (C := RX2) (T := TX2) (N := 2) X.1 X.2.1 X.2.2.2.2 iwX2 X.2.2.2.1 hK hP 0 rfl rfl 0 (by decide) (X.2.2.2.2 _ q159) (fun _ h9 => h9) rfl dX2_add_8 ?_
    refine lv_aload_n X.1 X.2.1 dX2_add_11 rfl (lv_at hl 0 rfl) ?_
    refine va_get (D := g.1) (ci := 2) (v := .int (nI c.length)) (C := RX2) (T := TX2) (N := 2) X.1 X.2.1 X.2.2.2.2 iwX2 X.2.2.2.1 hK hP 0 rfl rfl 1 (by decide) (X.2.2.2.2 _ q160) (fun _ h9 => h9) rfl dX2_add_12 ?_
    refine lv_iload_n X.1 X.2.1 dX2_add_15 rfl (lv_at hl 1 rfl) ?_
    refine lv_i2c X.1 X.2.1 dX2_add_16 rfl ?_
    refine tp_i (y := (nI x)) (ch_N (by omega)) ?_
    refine n_cast X hK hP hD hS 1 2 rfl rfl (by omega) (by decide) (ch_V (by omega)) dX2_add_17 (fun H locs hP hD hS => ?_)
    have hP : PP g [(a, .inr (2, [.ref b, .int (nI c.length)])), (b, .inl (g.2.2.2, 20, .inl (upd f c.length (nI x))))] H := hP
    have hD : va_D A [(a, .inr (2, [.ref b, .int (nI c.length)])), (b, .inl (g.2.2.2, 20, .inl (upd f c.length (nI x))))] := hD
    refine lv_aload_n X.1 X.2.1 dX2_add_18 rfl (lv_at hl 0 rfl) ?_
    refine lv_dup X.1 X.2.1 dX2_add_19 rfl ?_
    refine va_get (D := g.1) (ci := 2) (v := .int (nI c.length)) (C := RX2) (T := TX2) (N := 2) X.1 X.2.1 X.2.2.2.2 iwX2 X.2.2.2.1 hK hP 0 rfl rfl 1 (by decide) (X.2.2.2.2 _ q160) (fun _ h9 => h9) rfl dX2_add_20 ?_
    refine lv_iconst (v := (nI 1)) X.1 X.2.1 dX2_add_23 (by decide) ?_
    refine n_add X dX2_add_24 ?_
    refine tp_i (y := (nI ((c ++ [x]).length))) (by simp) ?_
    refine va_put (D := g.1) (ci := 2) (v := .int (nI ((c ++ [x]).length))) (ty := .int) (C := RX2) (T := TX2) (N := 2) X.1 X.2.1 X.2.2.2.2 iwX2 tyX2 tyX2_ok nmX2 X.2.2.2.1 hK hP hD hS 0 rfl rfl 1 (by decide) (X.2.2.2.2 _ q160) (fun _ h9 => h9) rfl (by decide +kernel) rfl rfl (Nat.le_of_ble_eq_true rfl) dX2_add_25 (fun H locs hP hD hS => ?_)
    have hP : PP g [(a, .inr (2, [.ref b, .int (nI ((c ++ [x]).length))])), (b, .inl (g.2.2.2, 20, .inl (upd f c.length (nI x))))] H := hP
    have hD : va_D A [(a, .inr (2, [.ref b, .int (nI ((c ++ [x]).length))])), (b, .inl (g.2.2.2, 20, .inl (upd f c.length (nI x))))] := hD
    exact MuV.ret X hr hlk hK hS dX2_add_28 (upd f c.length (nI x)) (hP.sub [0, 1] rfl) (hD.sub [0, 1] (by decide) rfl) (rep_add hf x)

set_option maxHeartbeats 4000000 in
set_option maxRecDepth 100000 in
theorem c_cm_end (g : G5) (a : Nat) (b : Nat) (c : List Nat) (f : Nat → Int32) (hc : c.length ≤ 20) (hf : rep f c) (hb : bch c) : PuI yX2_nameEnd cX2_nameEnd 2 (some .int) 0 0 g [.ref a] [(a, .inr (2, [.ref b, .int (nI c.length)])), (b, .inl (g.2.2.2, 20, .inl f))] (nI (ceN c)) := by
  refine PuI.of (by decide +kernel) (Nat.le_of_ble_eq_true rfl) ?_
  intro p_ l_ e_ S_ m_ args below meth co X hr hlk hP hK ls hl
  have X : CallFix p_ m_ co cX2_nameEnd 2 S_ args lw_all RX2 := X
  have hl : lv_has ls 2 [(0, .ref a)] := hl
  refine lv_iconst (v := (nI 0)) X.1 X.2.1 dX2_nameEnd_0 (by decide) ?_
  refine lv_istore_n (lv' := [(1, .int (nI 0)), (0, .ref a)]) X.1 X.2.1 dX2_nameEnd_1 rfl hl (by decide) rfl (fun ls hl => ?_)
  have L2 : ∀ (r : Nat) (i : Nat) (h1 : i + r = c.length) (hq : (firstL (isCol c) r i).getD c.length = ceN c) (ls : Array Slot) (hl : lv_has ls 2 [(1, .int (nI i)), (0, .ref a)]), W p_ l_ e_ { frames := 0, cells := 0, slots := 0, locals := 0 } S_ m_ args below meth co S_.heap [] 0 0 (MQ below (vp_Si (fun r => r = (nI (ceN c)))) args S_ 0 0 (fun _ => False)) (F0 m_ 2 ls []) := by
    intro r
    induction r with
    | zero =>
      intro i h1 hq ls hl
      refine lv_iload_n X.1 X.2.1 dX2_nameEnd_2 rfl (lv_at hl 0 rfl) ?_
      refine lv_aload_n X.1 X.2.1 dX2_nameEnd_3 rfl (lv_at hl 1 rfl) ?_
      refine va_get (D := g.1) (ci := 2) (v := .int (nI c.length)) (C := RX2) (T := TX2) (N := 2) X.1 X.2.1 X.2.2.2.2 iwX2 X.2.2.2.1 hK hP 0 rfl rfl 1 (by decide) (X.2.2.2.2 _ q160) (fun _ h9 => h9) rfl dX2_nameEnd_4 ?_
      refine z_icmp_ge (tgt := 29) X dX2_nameEnd_7 (by decide) (nI_toInt (by omega)) (nI_toInt (by omega)) (fun c7 => ?_) (fun c7 => ?_)
      · refine lv_aload_n X.1 X.2.1 dX2_nameEnd_29 rfl (lv_at hl 1 rfl) ?_
        refine va_get (D := g.1) (ci := 2) (v := .int (nI c.length)) (C := RX2) (T := TX2) (N := 2) X.1 X.2.1 X.2.2.2.2 iwX2 X.2.2.2.1 hK hP 0 rfl rfl 1 (by decide) (X.2.2.2.2 _ q160) (fun _ h9 => h9) rfl dX2_nameEnd_30 ?_
        exact PuI.ret X hr hlk dX2_nameEnd_33 (nI_nar _) (by rw [← hq]; rfl)
      · exfalso; omega
    | succ r ih2 =>
      intro i h1 hq ls hl
      refine lv_iload_n X.1 X.2.1 dX2_nameEnd_2 rfl (lv_at hl 0 rfl) ?_
      refine lv_aload_n X.1 X.2.1 dX2_nameEnd_3 rfl (lv_at hl 1 rfl) ?_
      refine va_get (D := g.1) (ci := 2) (v := .int (nI c.length)) (C := RX2) (T := TX2) (N := 2) X.1 X.2.1 X.2.2.2.2 iwX2 X.2.2.2.1 hK hP 0 rfl rfl 1 (by decide) (X.2.2.2.2 _ q160) (fun _ h9 => h9) rfl dX2_nameEnd_4 ?_
      refine z_icmp_ge (tgt := 29) X dX2_nameEnd_7 (by decide) (nI_toInt (by omega)) (nI_toInt (by omega)) (fun c7 => ?_) (fun c7 => ?_)
      · exfalso; omega
      · refine lv_aload_n X.1 X.2.1 dX2_nameEnd_10 rfl (lv_at hl 1 rfl) ?_
        refine va_get (D := g.1) (ci := 2) (v := .ref b) (C := RX2) (T := TX2) (N := 2) X.1 X.2.1 X.2.2.2.2 iwX2 X.2.2.2.1 hK hP 0 rfl rfl 0 (by decide) (X.2.2.2.2 _ q159) (fun _ h9 => h9) rfl dX2_nameEnd_11 ?_
        refine lv_iload_n X.1 X.2.1 dX2_nameEnd_14 rfl (lv_at hl 0 rfl) ?_
        refine n_cald X hK hP 1 2 rfl rfl (by omega) (by decide) dX2_nameEnd_15 ?_
        have hbi := hb i
        refine tp_i (y := (nI (c.getD i 0))) (hf i (by omega)) ?_
        refine lv_bipush (v := (nI 58)) X.1 X.2.1 dX2_nameEnd_16 (by decide) ?_
        refine z_icmp_ne (tgt := 23) X dX2_nameEnd_18 (by decide) (nI_toInt (by omega)) (nI_toInt (by omega)) (fun c18 => ?_) (fun c18 => ?_)
        · refine lv_iinc (v := (nI (i + 1))) (lv' := [(1, .int (nI (i + 1))), (0, .ref a)]) X.1 X.2.1 dX2_nameEnd_23 hl (k := 0) rfl (nI_inc _) (by decide) rfl (fun ls hl => ?_)
          refine lv_goto (tgt := 2) X.1 X.2.1 dX2_nameEnd_26 (by decide) ?_
          exact ih2 (i + 1) (by omega) (by rw [firstL, isCol, decide_eq_false (by omega)] at hq; exact hq) ls (lv_sub hl [0, 1] rfl)
        · refine lv_iload_n X.1 X.2.1 dX2_nameEnd_21 rfl (lv_at hl 0 rfl) ?_
          exact PuI.ret X hr hlk dX2_nameEnd_22 (nI_nar _) (by rw [firstL, isCol, decide_eq_true (by omega)] at hq; rw [← hq]; rfl)
  exact L2 c.length 0 (by omega) (rfl) ls (lv_sub hl [0, 1] rfl)

set_option maxHeartbeats 4000000 in
set_option maxRecDepth 100000 in
theorem c_cm_num (g : G5) (a : Nat) (b : Nat) (c : List Nat) (f : Nat → Int32) (j : Nat) (hc : c.length ≤ 20) (hf : rep f c) (hb : bch c) (hj : j ≤ c.length) (hj3 : c.length ≤ j + 3) : PuI yX2_number cX2_number 5 (some .int) 0 0 g [.ref a, .int (nI j)] [(a, .inr (2, [.ref b, .int (nI c.length)])), (b, .inl (g.2.2.2, 20, .inl f))] (nmL c (c.length - j) j 0) := by
  refine PuI.of (by decide +kernel) (Nat.le_of_ble_eq_true rfl) ?_
  intro p_ l_ e_ S_ m_ args below meth co X hr hlk hP hK ls hl
  have X : CallFix p_ m_ co cX2_number 5 S_ args lw_all RX2 := X
  have hl : lv_has ls 5 [(0, .ref a), (1, .int (nI j))] := hl
  refine lv_iconst (v := (nI 0)) X.1 X.2.1 dX2_number_0 (by decide) ?_
  refine lv_istore_n (lv' := [(2, .int (nI 0)), (0, .ref a), (1, .int (nI j))]) X.1 X.2.1 dX2_number_1 rfl hl (by decide) rfl (fun ls hl => ?_)
  refine lv_iload_n X.1 X.2.1 dX2_number_2 rfl (lv_at hl 2 rfl) ?_
  refine lv_istore_n (lv' := [(3, .int (nI j)), (2, .int (nI 0)), (0, .ref a), (1, .int (nI j))]) X.1 X.2.1 dX2_number_3 rfl hl (by decide) rfl (fun ls hl => ?_)
  have L4 : ∀ (r : Nat) (v : Nat) (i : Nat) (h1 : i + r = c.length) (hq : nmL c r i v = nmL c (c.length - j) j 0) (ls : Array Slot) (hl : lv_has ls 5 [(3, .int (nI i)), (2, .int (nI v)), (0, .ref a), (1, .int (nI j))]), W p_ l_ e_ { frames := 0, cells := 0, slots := 0, locals := 0 } S_ m_ args below meth co S_.heap [] 0 0 (MQ below (vp_Si (fun r => r = (nmL c (c.length - j) j 0))) args S_ 0 0 (fun _ => False)) (F0 m_ 4 ls []) := by
    intro r
    induction r with
    | zero =>
      intro v i h1 hq ls hl
      refine lv_iload_n X.1 X.2.1 dX2_number_4 rfl (lv_at hl 0 rfl) ?_
      refine lv_aload_n X.1 X.2.1 dX2_number_5 rfl (lv_at hl 2 rfl) ?_
      refine va_get (D := g.1) (ci := 2) (v := .int (nI c.length)) (C := RX2) (T := TX2) (N := 2) X.1 X.2.1 X.2.2.2.2 iwX2 X.2.2.2.1 hK hP 0 rfl rfl 1 (by decide) (X.2.2.2.2 _ q160) (fun _ h9 => h9) rfl dX2_number_6 ?_
      refine z_icmp_ge (tgt := 51) X dX2_number_9 (by decide) (nI_toInt (by omega)) (nI_toInt (by omega)) (fun c9 => ?_) (fun c9 => ?_)
      · refine lv_iload_n X.1 X.2.1 dX2_number_51 rfl (lv_at hl 1 rfl) ?_
        exact PuI.ret X hr hlk dX2_number_52 (nI_nar _) (by rw [← hq]; rfl)
      · exfalso; omega
    | succ r ih4 =>
      intro v i h1 hq ls hl
      refine lv_iload_n X.1 X.2.1 dX2_number_4 rfl (lv_at hl 0 rfl) ?_
      refine lv_aload_n X.1 X.2.1 dX2_number_5 rfl (lv_at hl 2 rfl) ?_
      refine va_get (D := g.1) (ci := 2) (v := .int (nI c.length)) (C := RX2) (T := TX2) (N := 2) X.1 X.2.1 X.2.2.2.2 iwX2 X.2.2.2.1 hK hP 0 rfl rfl 1 (by decide) (X.2.2.2.2 _ q160) (fun _ h9 => h9) rfl dX2_number_6 ?_
      refine z_icmp_ge (tgt := 51) X dX2_number_9 (by decide) (nI_toInt (by omega)) (nI_toInt (by omega)) (fun c9 => ?_) (fun c9 => ?_)
      · exfalso; omega
      · refine lv_aload_n X.1 X.2.1 dX2_number_12 rfl (lv_at hl 2 rfl) ?_
        refine va_get (D := g.1) (ci := 2) (v := .ref b) (C := RX2) (T := TX2) (N := 2) X.1 X.2.1 X.2.2.2.2 iwX2 X.2.2.2.1 hK hP 0 rfl rfl 0 (by decide) (X.2.2.2.2 _ q159) (fun _ h9 => h9) rfl dX2_number_13 ?_
        refine lv_iload_n X.1 X.2.1 dX2_number_16 rfl (lv_at hl 0 rfl) ?_
        refine n_cald X hK hP 1 2 rfl rfl (by omega) (by decide) dX2_number_17 ?_
        have hbi := hb i
        refine tp_i (y := (nI (c.getD i 0))) (hf i (by omega)) ?_
        refine lv_bipush (v := (nI 48)) X.1 X.2.1 dX2_number_18 (by decide) ?_
        refine lv_isub X.1 X.2.1 dX2_number_20 ?_
        refine tp_i (y := (iI (((c.getD i 0 : Nat) : Int) - ((48 : Nat) : Int)))) (by first | rw [iI_sub] | rw [nI_iI, nI_iI, iI_sub] | rw [nI_iI, iI_sub]) ?_
        refine lv_istore (lv' := [(4, .int (iI (((c.getD i 0 : Nat) : Int) - ((48 : Nat) : Int)))), (3, .int (nI i)), (2, .int (nI v)), (0, .ref a), (1, .int (nI j))]) X.1 X.2.1 dX2_number_21 hl (by decide) rfl (fun ls hl => ?_)
        refine lv_iload X.1 X.2.1 dX2_number_23 (lv_at hl 0 rfl) ?_
        refine z_if_lt (tgt := 35) X dX2_number_25 (by decide) (iI_toInt (by omega) (by omega)) (fun c25 => ?_) (fun c25 => ?_)
        · refine lv_iconst (v := (-1)) X.1 X.2.1 dX2_number_35 (by decide) ?_
          exact PuI.ret X hr hlk dX2_number_36 (nI_nar _) (by rw [nmL, if_neg (by omega)] at hq; exact hq)
        · refine lv_iload X.1 X.2.1 dX2_number_28 (lv_at hl 0 rfl) ?_
          refine lv_bipush (v := (nI 9)) X.1 X.2.1 dX2_number_30 (by decide) ?_
          refine z_icmp_le (tgt := 37) X dX2_number_32 (by decide) (iI_toInt (by omega) (by omega)) (nI_toInt (by omega)) (fun c32 => ?_) (fun c32 => ?_)
          · refine lv_iload_n X.1 X.2.1 dX2_number_37 rfl (lv_at hl 2 rfl) ?_
            refine lv_bipush (v := (nI 10)) X.1 X.2.1 dX2_number_38 (by decide) ?_
            refine n_mul X dX2_number_40 ?_
            refine lv_iload X.1 X.2.1 dX2_number_41 (lv_at hl 0 rfl) ?_
            refine lv_iadd X.1 X.2.1 dX2_number_43 ?_
            refine tp_i (y := (iI (((v * 10 : Nat) : Int) + (((c.getD i 0 : Nat) : Int) - ((48 : Nat) : Int))))) (by first | rw [iI_add] | rw [nI_iI, nI_iI, iI_add] | rw [nI_iI, iI_add]) ?_
            refine tp_i (y := (nI (v * 10 + (c.getD i 0 - 48)))) (by rw [nI_iI]; congr 1; omega) ?_
            refine lv_istore_n (lv' := [(2, .int (nI (v * 10 + (c.getD i 0 - 48)))), (4, .int (iI (((c.getD i 0 : Nat) : Int) - ((48 : Nat) : Int)))), (3, .int (nI i)), (0, .ref a), (1, .int (nI j))]) X.1 X.2.1 dX2_number_44 rfl hl (by decide) rfl (fun ls hl => ?_)
            refine lv_iinc (v := (nI (i + 1))) (lv' := [(3, .int (nI (i + 1))), (2, .int (nI (v * 10 + (c.getD i 0 - 48)))), (4, .int (iI (((c.getD i 0 : Nat) : Int) - ((48 : Nat) : Int)))), (0, .ref a), (1, .int (nI j))]) X.1 X.2.1 dX2_number_45 hl (k := 2) rfl (nI_inc _) (by decide) rfl (fun ls hl => ?_)
            refine lv_goto (tgt := 4) X.1 X.2.1 dX2_number_48 (by decide) ?_
            exact ih4 (v * 10 + (c.getD i 0 - 48)) (i + 1) (by omega) (by rw [nmL, if_pos (by omega)] at hq; exact hq) ls (lv_sub hl [0, 1, 3, 4] rfl)
          · refine lv_iconst (v := (-1)) X.1 X.2.1 dX2_number_35 (by decide) ?_
            exact PuI.ret X hr hlk dX2_number_36 (nI_nar _) (by rw [nmL, if_neg (by omega)] at hq; exact hq)
  exact L4 (c.length - j) 0 j (by omega) (rfl) ls (lv_sub hl [0, 1, 2, 3] rfl)

set_option maxHeartbeats 4000000 in
set_option maxRecDepth 100000 in
theorem c_cm_par (g : G5) (a : Nat) (b : Nat) (c : List Nat) (f : Nat → Int32) (hc : c.length ≤ 20) (hf : rep f c) (hb : bch c) : PuI yX2_parameter cX2_parameter 3 (some .int) 1 24 g [.ref a] [(a, .inr (2, [.ref b, .int (nI c.length)])), (b, .inl (g.2.2.2, 20, .inl f))] (paI c) := by
  refine PuI.of (by decide +kernel) (Nat.le_of_ble_eq_true rfl) ?_
  intro p_ l_ e_ S_ m_ args below meth co X hr hlk hP hK ls hl
  have X : CallFix p_ m_ co cX2_parameter 3 S_ args lw_all RX2 := X
  have hl : lv_has ls 3 [(0, .ref a)] := hl
  have hce := ceN_le c
  refine lv_aload_n X.1 X.2.1 dX2_parameter_0 rfl (lv_at hl 0 rfl) ?_
  refine (c_cm_end g a b c f (by omega) (by assumption) (by assumption)).callV (rest := []) X dX2_parameter_1 q528 tX2_nameEnd hK (hP.sub [0, 1] rfl) 0 2 rfl rfl rfl hl ⟨⟨Nat.le_of_ble_eq_true rfl, Nat.le_of_ble_eq_true rfl⟩, Nat.le_of_ble_eq_true rfl, Nat.le_of_ble_eq_true rfl⟩ rfl rfl (Nat.le_of_ble_eq_true rfl) ?_
  refine lv_istore_n (lv' := [(1, .int (nI (ceN c))), (0, .ref a)]) X.1 X.2.1 dX2_parameter_4 rfl hl (by decide) rfl (fun ls hl => ?_)
  refine lv_iload_n X.1 X.2.1 dX2_parameter_5 rfl (lv_at hl 0 rfl) ?_
  refine lv_aload_n X.1 X.2.1 dX2_parameter_6 rfl (lv_at hl 1 rfl) ?_
  refine va_get (D := g.1) (ci := 2) (v := .int (nI c.length)) (C := RX2) (T := TX2) (N := 2) X.1 X.2.1 X.2.2.2.2 iwX2 X.2.2.2.1 hK hP 0 rfl rfl 1 (by decide) (X.2.2.2.2 _ q160) (fun _ h9 => h9) rfl dX2_parameter_7 ?_
  refine z_icmp_ne (tgt := 15) X dX2_parameter_10 (by decide) (nI_toInt (by omega)) (nI_toInt (by omega)) (fun c10 => ?_) (fun c10 => ?_)
  · refine lv_aload_n X.1 X.2.1 dX2_parameter_15 rfl (lv_at hl 1 rfl) ?_
    refine va_get (D := g.1) (ci := 2) (v := .int (nI c.length)) (C := RX2) (T := TX2) (N := 2) X.1 X.2.1 X.2.2.2.2 iwX2 X.2.2.2.1 hK hP 0 rfl rfl 1 (by decide) (X.2.2.2.2 _ q160) (fun _ h9 => h9) rfl dX2_parameter_16 ?_
    refine lv_iload_n X.1 X.2.1 dX2_parameter_19 rfl (lv_at hl 0 rfl) ?_
    refine n_sub X dX2_parameter_20 (by omega) ?_
    refine lv_iconst (v := (nI 1)) X.1 X.2.1 dX2_parameter_21 (by decide) ?_
    refine n_sub X dX2_parameter_22 (by omega) ?_
    refine lv_istore_n (lv' := [(2, .int (nI ((c.length - (ceN c)) - 1))), (1, .int (nI (ceN c))), (0, .ref a)]) X.1 X.2.1 dX2_parameter_23 rfl hl (by decide) rfl (fun ls hl => ?_)
    refine lv_iload_n X.1 X.2.1 dX2_parameter_24 rfl (lv_at hl 0 rfl) ?_
    refine lv_iconst (v := (nI 1)) X.1 X.2.1 dX2_parameter_25 (by decide) ?_
    refine z_icmp_lt (tgt := 34) X dX2_parameter_26 (by decide) (nI_toInt (by omega)) (nI_toInt (by omega)) (fun c26 => ?_) (fun c26 => ?_)
    · refine lv_iconst (v := (-1)) X.1 X.2.1 dX2_parameter_34 (by decide) ?_
      refine lv_goto (tgt := 45) X.1 X.2.1 dX2_parameter_35 (by decide) ?_
      exact PuI.ret X hr hlk dX2_parameter_45 (nI_nar _) (by unfold paI; rw [if_neg (by omega)]; first | (rw [if_pos (by omega)]; done) | (rw [if_neg (by omega)]; done))
    · refine lv_iload_n X.1 X.2.1 dX2_parameter_29 rfl (lv_at hl 0 rfl) ?_
      refine lv_iconst (v := (nI 3)) X.1 X.2.1 dX2_parameter_30 (by decide) ?_
      refine z_icmp_le (tgt := 38) X dX2_parameter_31 (by decide) (nI_toInt (by omega)) (nI_toInt (by omega)) (fun c31 => ?_) (fun c31 => ?_)
      · refine lv_aload_n X.1 X.2.1 dX2_parameter_38 rfl (lv_at hl 2 rfl) ?_
        refine lv_iload_n X.1 X.2.1 dX2_parameter_39 rfl (lv_at hl 1 rfl) ?_
        refine lv_iconst (v := (nI 1)) X.1 X.2.1 dX2_parameter_40 (by decide) ?_
        refine n_add X dX2_parameter_41 ?_
        refine (c_cm_num g a b c f (ceN c + 1) (by omega) (by assumption) (by assumption) (by omega) (by omega)).callV (rest := []) X dX2_parameter_42 q584 tX2_number hK (hP.sub [0, 1] rfl) 0 2 rfl rfl rfl hl ⟨⟨Nat.le_of_ble_eq_true rfl, Nat.le_of_ble_eq_true rfl⟩, Nat.le_of_ble_eq_true rfl, Nat.le_of_ble_eq_true rfl⟩ rfl rfl (Nat.le_of_ble_eq_true rfl) ?_
        exact PuI.ret X hr hlk dX2_parameter_45 (nI_nar _) (by unfold paI; rw [if_neg (by omega)]; first | (rw [if_pos (by omega)]; done) | (rw [if_neg (by omega)]; done))
      · refine lv_iconst (v := (-1)) X.1 X.2.1 dX2_parameter_34 (by decide) ?_
        refine lv_goto (tgt := 45) X.1 X.2.1 dX2_parameter_35 (by decide) ?_
        exact PuI.ret X hr hlk dX2_parameter_45 (nI_nar _) (by unfold paI; rw [if_neg (by omega)]; first | (rw [if_pos (by omega)]; done) | (rw [if_neg (by omega)]; done))
  · refine lv_iconst (v := (nI 0)) X.1 X.2.1 dX2_parameter_13 (by decide) ?_
    exact PuI.ret X hr hlk dX2_parameter_14 (nI_nar _) (by unfold paI; rw [if_pos (by omega)]; rfl)

set_option maxHeartbeats 4000000 in
set_option maxRecDepth 100000 in
theorem c_tb_type (g : G5) (x : Int32) : PuI yX9_isType cX9_isType 1 (some .boolean) 0 0 g [.int x] [] (bI (decide (x.toInt = 0 ∨ x.toInt = 1))) := by
  refine PuI.of (by decide +kernel) (Nat.le_of_ble_eq_true rfl) ?_
  intro p_ l_ e_ S_ m_ args below meth co X hr hlk hP hK ls hl
  have X : CallFix p_ m_ co cX9_isType 1 S_ args lw_all RX9 := X
  have hl : lv_has ls 1 [(0, .int x)] := hl
  refine lv_iload_n X.1 X.2.1 dX9_isType_0 rfl (lv_at hl 0 rfl) ?_
  refine z_if_eq (tgt := 9) X dX9_isType_1 (by decide) rfl (fun c1 => ?_) (fun c1 => ?_)
  · refine lv_iconst (v := (nI 1)) X.1 X.2.1 dX9_isType_9 (by decide) ?_
    refine lv_goto (tgt := 14) X.1 X.2.1 dX9_isType_10 (by decide) ?_
    exact PuI.ret X hr hlk dX9_isType_14 (bI_nar _) (by first | exact bt (by exact decide_eq_true (by omega)) | exact bf (by exact decide_eq_false (by omega)))
  · refine lv_iload_n X.1 X.2.1 dX9_isType_4 rfl (lv_at hl 0 rfl) ?_
    refine lv_iconst (v := (nI 1)) X.1 X.2.1 dX9_isType_5 (by decide) ?_
    refine z_icmp_ne (tgt := 13) X dX9_isType_6 (by decide) rfl (nI_toInt (by omega)) (fun c6 => ?_) (fun c6 => ?_)
    · refine lv_iconst (v := (nI 0)) X.1 X.2.1 dX9_isType_13 (by decide) ?_
      exact PuI.ret X hr hlk dX9_isType_14 (bI_nar _) (by first | exact bt (by exact decide_eq_true (by omega)) | exact bf (by exact decide_eq_false (by omega)))
    · refine lv_iconst (v := (nI 1)) X.1 X.2.1 dX9_isType_9 (by decide) ?_
      refine lv_goto (tgt := 14) X.1 X.2.1 dX9_isType_10 (by decide) ?_
      exact PuI.ret X hr hlk dX9_isType_14 (bI_nar _) (by first | exact bt (by exact decide_eq_true (by omega)) | exact bf (by exact decide_eq_false (by omega)))

set_option maxHeartbeats 4000000 in
set_option maxRecDepth 100000 in
theorem c_tb_miss (g : G5) (a : Nat) (b : Nat) (ty : Int) (v : List Int32) (f : Nat → Int32) (hty : -1 ≤ ty ∧ ty ≤ 1) : PuI yX9_isMissing cX9_isMissing 1 (some .boolean) 0 0 g [.ref a] [(a, .inr (8, [.ref b, .int (iI ty), .int (nI v.length)])), (b, .inl (g.2.1, 256, .inl f))] (bI (decide (ty = -1))) := by
  refine PuI.of (by decide +kernel) (Nat.le_of_ble_eq_true rfl) ?_
  intro p_ l_ e_ S_ m_ args below meth co X hr hlk hP hK ls hl
  have X : CallFix p_ m_ co cX9_isMissing 1 S_ args lw_all RX9 := X
  have hl : lv_has ls 1 [(0, .ref a)] := hl
  refine lv_aload_n X.1 X.2.1 dX9_isMissing_0 rfl (lv_at hl 0 rfl) ?_
  refine va_get (D := g.1) (ci := 8) (v := .int (iI ty)) (C := RX9) (T := TX9) (N := 3) X.1 X.2.1 X.2.2.2.2 iwX9 X.2.2.2.1 hK hP 0 rfl rfl 1 (by decide) (X.2.2.2.2 _ q227) (fun _ h9 => h9) rfl dX9_isMissing_1 ?_
  refine lv_iconst (v := (-1)) X.1 X.2.1 dX9_isMissing_4 (by decide) ?_
  refine z_icmp_ne (tgt := 12) X dX9_isMissing_5 (by decide) (iI_toInt (by omega) (by omega)) (show Int32.toInt ((-1)) = (-1) from rfl) (fun c5 => ?_) (fun c5 => ?_)
  · refine lv_iconst (v := (nI 0)) X.1 X.2.1 dX9_isMissing_12 (by decide) ?_
    exact PuI.ret X hr hlk dX9_isMissing_13 (bI_nar _) (by first | exact bt (by exact decide_eq_true (by omega)) | exact bf (by exact decide_eq_false (by omega)))
  · refine lv_iconst (v := (nI 1)) X.1 X.2.1 dX9_isMissing_8 (by decide) ?_
    refine lv_goto (tgt := 13) X.1 X.2.1 dX9_isMissing_9 (by decide) ?_
    exact PuI.ret X hr hlk dX9_isMissing_13 (bI_nar _) (by first | exact bt (by exact decide_eq_true (by omega)) | exact bf (by exact decide_eq_false (by omega)))

set_option maxHeartbeats 4000000 in
set_option maxRecDepth 100000 in
theorem c_tb_of (g : G5) (a : Nat) (b : Nat) (ty : Int) (v : List Int32) (f : Nat → Int32) (x : Int32) (hty : -1 ≤ ty ∧ ty ≤ 1) : PuI yX9_isOfType cX9_isOfType 2 (some .boolean) 0 0 g [.ref a, .int x] [(a, .inr (8, [.ref b, .int (iI ty), .int (nI v.length)])), (b, .inl (g.2.1, 256, .inl f))] (bI (decide (ty = x.toInt))) := by
  refine PuI.of (by decide +kernel) (Nat.le_of_ble_eq_true rfl) ?_
  intro p_ l_ e_ S_ m_ args below meth co X hr hlk hP hK ls hl
  have X : CallFix p_ m_ co cX9_isOfType 2 S_ args lw_all RX9 := X
  have hl : lv_has ls 2 [(0, .ref a), (1, .int x)] := hl
  refine lv_aload_n X.1 X.2.1 dX9_isOfType_0 rfl (lv_at hl 0 rfl) ?_
  refine va_get (D := g.1) (ci := 8) (v := .int (iI ty)) (C := RX9) (T := TX9) (N := 3) X.1 X.2.1 X.2.2.2.2 iwX9 X.2.2.2.1 hK hP 0 rfl rfl 1 (by decide) (X.2.2.2.2 _ q227) (fun _ h9 => h9) rfl dX9_isOfType_1 ?_
  refine lv_iload_n X.1 X.2.1 dX9_isOfType_4 rfl (lv_at hl 1 rfl) ?_
  refine z_icmp_ne (tgt := 12) X dX9_isOfType_5 (by decide) (iI_toInt (by omega) (by omega)) rfl (fun c5 => ?_) (fun c5 => ?_)
  · refine lv_iconst (v := (nI 0)) X.1 X.2.1 dX9_isOfType_12 (by decide) ?_
    exact PuI.ret X hr hlk dX9_isOfType_13 (bI_nar _) (by first | exact bt (by exact decide_eq_true (by omega)) | exact bf (by exact decide_eq_false (by omega)))
  · refine lv_iconst (v := (nI 1)) X.1 X.2.1 dX9_isOfType_8 (by decide) ?_
    refine lv_goto (tgt := 13) X.1 X.2.1 dX9_isOfType_9 (by decide) ?_
    exact PuI.ret X hr hlk dX9_isOfType_13 (bI_nar _) (by first | exact bt (by exact decide_eq_true (by omega)) | exact bf (by exact decide_eq_false (by omega)))

set_option maxHeartbeats 4000000 in
set_option maxRecDepth 100000 in
theorem c_tb_size (g : G5) (a : Nat) (b : Nat) (ty : Int) (v : List Int32) (f : Nat → Int32) : PuI yX9_size cX9_size 1 (some .int) 0 0 g [.ref a] [(a, .inr (8, [.ref b, .int (iI ty), .int (nI v.length)])), (b, .inl (g.2.1, 256, .inl f))] (nI v.length) := by
  refine PuI.of (by decide +kernel) (Nat.le_of_ble_eq_true rfl) ?_
  intro p_ l_ e_ S_ m_ args below meth co X hr hlk hP hK ls hl
  have X : CallFix p_ m_ co cX9_size 1 S_ args lw_all RX9 := X
  have hl : lv_has ls 1 [(0, .ref a)] := hl
  refine lv_aload_n X.1 X.2.1 dX9_size_0 rfl (lv_at hl 0 rfl) ?_
  refine va_get (D := g.1) (ci := 8) (v := .int (nI v.length)) (C := RX9) (T := TX9) (N := 3) X.1 X.2.1 X.2.2.2.2 iwX9 X.2.2.2.1 hK hP 0 rfl rfl 2 (by decide) (X.2.2.2.2 _ q228) (fun _ h9 => h9) rfl dX9_size_1 ?_
  exact PuI.ret X hr hlk dX9_size_4 (nI_nar _) (rfl)

set_option maxHeartbeats 4000000 in
set_option maxRecDepth 100000 in
theorem c_tb_has (g : G5) (a : Nat) (b : Nat) (ty : Int) (v : List Int32) (f : Nat → Int32) (x : Int32) (hv : v.length ≤ 256) : PuI yX9_has cX9_has 2 (some .boolean) 0 0 g [.ref a, .int x] [(a, .inr (8, [.ref b, .int (iI ty), .int (nI v.length)])), (b, .inl (g.2.1, 256, .inl f))] (bI (hasB x v.length)) := by
  refine PuI.of (by decide +kernel) (Nat.le_of_ble_eq_true rfl) ?_
  intro p_ l_ e_ S_ m_ args below meth co X hr hlk hP hK ls hl
  have X : CallFix p_ m_ co cX9_has 2 S_ args lw_all RX9 := X
  have hl : lv_has ls 2 [(0, .ref a), (1, .int x)] := hl
  refine lv_iload_n X.1 X.2.1 dX9_has_0 rfl (lv_at hl 1 rfl) ?_
  refine z_if_lt (tgt := 16) X dX9_has_1 (by decide) rfl (fun c1 => ?_) (fun c1 => ?_)
  · refine lv_iconst (v := (nI 0)) X.1 X.2.1 dX9_has_16 (by decide) ?_
    exact PuI.ret X hr hlk dX9_has_17 (bI_nar _) (by first | exact bt (by unfold hasB; exact decide_eq_true (by omega)) | exact bf (by unfold hasB; exact decide_eq_false (by omega)))
  · refine lv_iload_n X.1 X.2.1 dX9_has_4 rfl (lv_at hl 1 rfl) ?_
    refine lv_aload_n X.1 X.2.1 dX9_has_5 rfl (lv_at hl 0 rfl) ?_
    refine va_get (D := g.1) (ci := 8) (v := .int (nI v.length)) (C := RX9) (T := TX9) (N := 3) X.1 X.2.1 X.2.2.2.2 iwX9 X.2.2.2.1 hK hP 0 rfl rfl 2 (by decide) (X.2.2.2.2 _ q228) (fun _ h9 => h9) rfl dX9_has_6 ?_
    refine z_icmp_ge (tgt := 16) X dX9_has_9 (by decide) rfl (nI_toInt (by omega)) (fun c9 => ?_) (fun c9 => ?_)
    · refine lv_iconst (v := (nI 0)) X.1 X.2.1 dX9_has_16 (by decide) ?_
      exact PuI.ret X hr hlk dX9_has_17 (bI_nar _) (by first | exact bt (by unfold hasB; exact decide_eq_true (by omega)) | exact bf (by unfold hasB; exact decide_eq_false (by omega)))
    · refine lv_iconst (v := (nI 1)) X.1 X.2.1 dX9_has_12 (by decide) ?_
      refine lv_goto (tgt := 17) X.1 X.2.1 dX9_has_13 (by decide) ?_
      exact PuI.ret X hr hlk dX9_has_17 (bI_nar _) (by first | exact bt (by unfold hasB; exact decide_eq_true (by omega)) | exact bf (by unfold hasB; exact decide_eq_false (by omega)))

set_option maxHeartbeats 4000000 in
set_option maxRecDepth 100000 in
theorem c_tb_at (g : G5) (a : Nat) (b : Nat) (ty : Int) (v : List Int32) (f : Nat → Int32) (j : Nat) (hv : v.length ≤ 256) (hf : repT f v) (hj : j < v.length) : PuI yX9_at cX9_at 2 (some .int) 1 21 g [.ref a, .int (nI j)] [(a, .inr (8, [.ref b, .int (iI ty), .int (nI v.length)])), (b, .inl (g.2.1, 256, .inl f))] (v.getD j 0) := by
  refine PuI.of (by decide +kernel) (Nat.le_of_ble_eq_true rfl) ?_
  intro p_ l_ e_ S_ m_ args below meth co X hr hlk hP hK ls hl
  have X : CallFix p_ m_ co cX9_at 2 S_ args lw_all RX9 := X
  have hl : lv_has ls 2 [(0, .ref a), (1, .int (nI j))] := hl
  refine lv_aload_n X.1 X.2.1 dX9_at_0 rfl (lv_at hl 0 rfl) ?_
  refine lv_iload_n X.1 X.2.1 dX9_at_1 rfl (lv_at hl 1 rfl) ?_
  refine (c_tb_has g a b ty v f (nI j) (by omega)).callV (rest := []) X dX9_at_2 q985 tX9_has hK (hP.sub [0, 1] rfl) 0 8 rfl rfl rfl hl ⟨⟨Nat.le_of_ble_eq_true rfl, Nat.le_of_ble_eq_true rfl⟩, Nat.le_of_ble_eq_true rfl, Nat.le_of_ble_eq_true rfl⟩ rfl rfl (Nat.le_of_ble_eq_true rfl) ?_
  have e9 : hasB (nI j) v.length = true := by rw [hasB_N (by omega)]; exact decide_eq_true hj
  refine b_if_eq (tgt := 17) X dX9_at_5 (by decide) (fun c5 => ?_) (fun c5 => ?_)
  · exfalso; rw [e9] at c5; cases c5
  · refine lv_aload_n X.1 X.2.1 dX9_at_8 rfl (lv_at hl 0 rfl) ?_
    refine va_get (D := g.1) (ci := 8) (v := .ref b) (C := RX9) (T := TX9) (N := 3) X.1 X.2.1 X.2.2.2.2 iwX9 X.2.2.2.1 hK hP 0 rfl rfl 0 (by decide) (X.2.2.2.2 _ q226) (fun _ h9 => h9) rfl dX9_at_9 ?_
    refine lv_iload_n X.1 X.2.1 dX9_at_12 rfl (lv_at hl 1 rfl) ?_
    refine n_iald X hK hP 1 0 rfl rfl (by omega) (by decide) dX9_at_13 ?_
    refine lv_goto (tgt := 19) X.1 X.2.1 dX9_at_14 (by decide) ?_
    exact PuI.ret X hr hlk dX9_at_19 (nI_nar _) (hf j hj)

set_option maxHeartbeats 4000000 in
set_option maxRecDepth 100000 in
theorem c_tb_put (g : G5) (a : Nat) (b : Nat) (ty : Int) (v : List Int32) (f : Nat → Int32) (j : Nat) (x : Int32) (hv : v.length ≤ 256) (hf : repT f v) (hty : -1 ≤ ty ∧ ty ≤ 1) (hj : j < v.length) : MuV (S := Nat → Int32) yX9_put cX9_put 3 none 1 21 g [.ref a, .int (nI j), .int x] [(a, .inr (8, [.ref b, .int (iI ty), .int (nI v.length)])), (b, .inl (g.2.1, 256, .inl f))] (fun f1 => repT f1 (v.set j (narT ty x))) (fun f1 => [(a, .inr (8, [.ref b, .int (iI ty), .int (nI ((v.set j (narT ty x)).length))])), (b, .inl (g.2.1, 256, .inl f1))]) := by
  refine MuV.of (by decide +kernel) (Nat.le_of_ble_eq_true rfl) ?_
  intro p_ l_ e_ S_ m_ args below meth co X hr hlk hP hK A hA hD hS ls hl
  have X : CallFix p_ m_ co cX9_put 3 S_ args lw_all RX9 := X
  have hl : lv_has ls 3 [(0, .ref a), (1, .int (nI j)), (2, .int x)] := hl
  refine lv_aload_n X.1 X.2.1 dX9_put_0 rfl (lv_at hl 0 rfl) ?_
  refine lv_iload_n X.1 X.2.1 dX9_put_1 rfl (lv_at hl 1 rfl) ?_
  refine (c_tb_has g a b ty v f (nI j) (by omega)).callV (rest := []) X dX9_put_2 q985 tX9_has hK (hP.sub [0, 1] rfl) 0 8 rfl rfl rfl hl ⟨⟨Nat.le_of_ble_eq_true rfl, Nat.le_of_ble_eq_true rfl⟩, Nat.le_of_ble_eq_true rfl, Nat.le_of_ble_eq_true rfl⟩ rfl rfl (Nat.le_of_ble_eq_true rfl) ?_
  have e9 : hasB (nI j) v.length = true := by rw [hasB_N (by omega)]; exact decide_eq_true hj
  refine b_if_eq (tgt := 28) X dX9_put_5 (by decide) (fun c5 => ?_) (fun c5 => ?_)
  · exfalso; rw [e9] at c5; cases c5
  · refine lv_aload_n X.1 X.2.1 dX9_put_8 rfl (lv_at hl 0 rfl) ?_
    refine va_get (D := g.1) (ci := 8) (v := .ref b) (C := RX9) (T := TX9) (N := 3) X.1 X.2.1 X.2.2.2.2 iwX9 X.2.2.2.1 hK hP 0 rfl rfl 0 (by decide) (X.2.2.2.2 _ q226) (fun _ h9 => h9) rfl dX9_put_9 ?_
    refine lv_iload_n X.1 X.2.1 dX9_put_12 rfl (lv_at hl 1 rfl) ?_
    refine lv_aload_n X.1 X.2.1 dX9_put_13 rfl (lv_at hl 0 rfl) ?_
    refine va_get (D := g.1) (ci := 8) (v := .int (iI ty)) (C := RX9) (T := TX9) (N := 3) X.1 X.2.1 X.2.2.2.2 iwX9 X.2.2.2.1 hK hP 0 rfl rfl 1 (by decide) (X.2.2.2.2 _ q227) (fun _ h9 => h9) rfl dX9_put_14 ?_
    refine z_if_ne (tgt := 25) X dX9_put_17 (by decide) (iI_toInt (by omega) (by omega)) (fun c17 => ?_) (fun c17 => ?_)
    · refine lv_iload_n X.1 X.2.1 dX9_put_25 rfl (lv_at hl 2 rfl) ?_
      refine lv_i2c X.1 X.2.1 dX9_put_26 rfl ?_
      refine tp_i (y := (narT ty x)) (by unfold narT; first | rw [if_pos (by omega)] | rw [if_neg (by omega)]) ?_
      refine n_iast X hK hP hD hS 1 0 rfl rfl (by omega) (by decide) dX9_put_27 (fun H locs hP hD hS => ?_)
      have hP : PP g [(a, .inr (8, [.ref b, .int (iI ty), .int (nI v.length)])), (b, .inl (g.2.1, 256, .inl (upd f j (narT ty x))))] H := hP
      have hD : va_D A [(a, .inr (8, [.ref b, .int (iI ty), .int (nI v.length)])), (b, .inl (g.2.1, 256, .inl (upd f j (narT ty x))))] := hD
      have hP : PP g [(a, .inr (8, [.ref b, .int (iI ty), .int (nI ((v.set j (narT ty x)).length))])), (b, .inl (g.2.1, 256, .inl (upd f j (narT ty x))))] H := by rw [List.length_set]; exact hP
      have hD : va_D A [(a, .inr (8, [.ref b, .int (iI ty), .int (nI ((v.set j (narT ty x)).length))])), (b, .inl (g.2.1, 256, .inl (upd f j (narT ty x))))] := by rw [List.length_set]; exact hD
      exact MuV.ret X hr hlk hK hS dX9_put_28 (upd f j (narT ty x)) (hP.sub [0, 1] rfl) (hD.sub [0, 1] (by decide) rfl) (repT_set hf j _)
    · refine lv_iload_n X.1 X.2.1 dX9_put_20 rfl (lv_at hl 2 rfl) ?_
      refine lv_i2b X.1 X.2.1 dX9_put_21 rfl ?_
      refine lv_goto (tgt := 27) X.1 X.2.1 dX9_put_22 (by decide) ?_
      refine tp_i (y := (narT ty x)) (by unfold narT; first | rw [if_pos (by omega)] | rw [if_neg (by omega)]) ?_
      refine n_iast X hK hP hD hS 1 0 rfl rfl (by omega) (by decide) dX9_put_27 (fun H locs hP hD hS => ?_)
      have hP : PP g [(a, .inr (8, [.ref b, .int (iI ty), .int (nI v.length)])), (b, .inl (g.2.1, 256, .inl (upd f j (narT ty x))))] H := hP
      have hD : va_D A [(a, .inr (8, [.ref b, .int (iI ty), .int (nI v.length)])), (b, .inl (g.2.1, 256, .inl (upd f j (narT ty x))))] := hD
      have hP : PP g [(a, .inr (8, [.ref b, .int (iI ty), .int (nI ((v.set j (narT ty x)).length))])), (b, .inl (g.2.1, 256, .inl (upd f j (narT ty x))))] H := by rw [List.length_set]; exact hP
      have hD : va_D A [(a, .inr (8, [.ref b, .int (iI ty), .int (nI ((v.set j (narT ty x)).length))])), (b, .inl (g.2.1, 256, .inl (upd f j (narT ty x))))] := by rw [List.length_set]; exact hD
      exact MuV.ret X hr hlk hK hS dX9_put_28 (upd f j (narT ty x)) (hP.sub [0, 1] rfl) (hD.sub [0, 1] (by decide) rfl) (repT_set hf j _)

set_option maxHeartbeats 4000000 in
set_option maxRecDepth 100000 in
theorem c_tb_create (g : G5) (a : Nat) (b : Nat) (ty : Int) (v : List Int32) (f : Nat → Int32) (t : Nat) (n : Nat) (hn : n ≤ 256) : MuV (S := Nat → Int32) yX9_create cX9_create 4 none 1 21 g [.ref a, .int (nI t), .int (nI n)] [(a, .inr (8, [.ref b, .int (iI ty), .int (nI v.length)])), (b, .inl (g.2.1, 256, .inl f))] (fun f1 => repT f1 (List.replicate n 0)) (fun f1 => [(a, .inr (8, [.ref b, .int (iI ((t : Nat) : Int)), .int (nI ((List.replicate n (0 : Int32)).length))])), (b, .inl (g.2.1, 256, .inl f1))]) := by
  refine MuV.of (by decide +kernel) (Nat.le_of_ble_eq_true rfl) ?_
  intro p_ l_ e_ S_ m_ args below meth co X hr hlk hP hK A hA hD hS ls hl
  have X : CallFix p_ m_ co cX9_create 4 S_ args lw_all RX9 := X
  have hl : lv_has ls 4 [(0, .ref a), (1, .int (nI t)), (2, .int (nI n))] := hl
  refine lv_aload_n X.1 X.2.1 dX9_create_0 rfl (lv_at hl 0 rfl) ?_
  refine lv_iload_n X.1 X.2.1 dX9_create_1 rfl (lv_at hl 1 rfl) ?_
  refine tp_i (y := (iI ((t : Nat) : Int))) (nI_iI t) ?_
  refine va_put (D := g.1) (ci := 8) (v := .int (iI ((t : Nat) : Int))) (ty := .int) (C := RX9) (T := TX9) (N := 3) X.1 X.2.1 X.2.2.2.2 iwX9 tyX9 tyX9_ok nmX9 X.2.2.2.1 hK hP hD hS 0 rfl rfl 1 (by decide) (X.2.2.2.2 _ q227) (fun _ h9 => h9) rfl (by decide +kernel) rfl rfl (Nat.le_of_ble_eq_true rfl) dX9_create_2 (fun H locs hP hD hS => ?_)
  have hP : PP g [(a, .inr (8, [.ref b, .int (iI ((t : Nat) : Int)), .int (nI v.length)])), (b, .inl (g.2.1, 256, .inl f))] H := hP
  have hD : va_D A [(a, .inr (8, [.ref b, .int (iI ((t : Nat) : Int)), .int (nI v.length)])), (b, .inl (g.2.1, 256, .inl f))] := hD
  refine lv_aload_n X.1 X.2.1 dX9_create_5 rfl (lv_at hl 0 rfl) ?_
  refine lv_iconst (v := (nI 0)) X.1 X.2.1 dX9_create_6 (by decide) ?_
  refine lv_iload_n X.1 X.2.1 dX9_create_7 rfl (lv_at hl 2 rfl) ?_
  refine lv_sipush (v := (nI 256)) X.1 X.2.1 dX9_create_8 (by decide) ?_
  refine (c_minN g n 256 (by omega) (by omega)).callS (rest := [.int (nI 0), .ref a]) X dX9_create_11 q967 tJ9_min_7cf53 hK (hP.sub [] rfl) hl ⟨⟨Nat.le_of_ble_eq_true rfl, Nat.le_of_ble_eq_true rfl⟩, Nat.le_of_ble_eq_true rfl, Nat.le_of_ble_eq_true rfl⟩ rfl rfl (Nat.le_of_ble_eq_true rfl) ?_
  refine (c_maxN g 0 (min n 256) (by omega) (by omega)).callS (rest := [.ref a]) X dX9_create_14 q968 tJ9_max_7cf53 hK (hP.sub [] rfl) hl ⟨⟨Nat.le_of_ble_eq_true rfl, Nat.le_of_ble_eq_true rfl⟩, Nat.le_of_ble_eq_true rfl, Nat.le_of_ble_eq_true rfl⟩ rfl rfl (Nat.le_of_ble_eq_true rfl) ?_
  have hrl : (List.replicate n (0 : Int32)).length = n := List.length_replicate
  refine tp_i (y := (nI ((List.replicate n (0 : Int32)).length))) (by rw [List.length_replicate]; congr 1; omega) ?_
  refine va_put (D := g.1) (ci := 8) (v := .int (nI ((List.replicate n (0 : Int32)).length))) (ty := .int) (C := RX9) (T := TX9) (N := 3) X.1 X.2.1 X.2.2.2.2 iwX9 tyX9 tyX9_ok nmX9 X.2.2.2.1 hK hP hD hS 0 rfl rfl 2 (by decide) (X.2.2.2.2 _ q228) (fun _ h9 => h9) rfl (by decide +kernel) rfl rfl (Nat.le_of_ble_eq_true rfl) dX9_create_17 (fun H locs hP hD hS => ?_)
  have hP : PP g [(a, .inr (8, [.ref b, .int (iI ((t : Nat) : Int)), .int (nI ((List.replicate n (0 : Int32)).length))])), (b, .inl (g.2.1, 256, .inl f))] H := hP
  have hD : va_D A [(a, .inr (8, [.ref b, .int (iI ((t : Nat) : Int)), .int (nI ((List.replicate n (0 : Int32)).length))])), (b, .inl (g.2.1, 256, .inl f))] := hD
  refine lv_iconst (v := (nI 0)) X.1 X.2.1 dX9_create_20 (by decide) ?_
  refine lv_istore_n (lv' := [(3, .int (nI 0)), (0, .ref a), (1, .int (nI t)), (2, .int (nI n))]) X.1 X.2.1 dX9_create_21 rfl hl (by decide) rfl (fun ls hl => ?_)
  have L22 : ∀ (r : Nat) (i : Nat) (f1 : Nat → Int32) (h1 : i + r = n) (hz : ∀ j, j < i → f1 j = nI 0) (H : Heap) (locs : List Loc) (hP : PP g [(a, .inr (8, [.ref b, .int (iI ((t : Nat) : Int)), .int (nI ((List.replicate n (0 : Int32)).length))])), (b, .inl (g.2.1, 256, .inl f1))] H) (hD : va_D A [(a, .inr (8, [.ref b, .int (iI ((t : Nat) : Int)), .int (nI ((List.replicate n (0 : Int32)).length))])), (b, .inl (g.2.1, 256, .inl f1))]) (hS : va_S A S_.heap H locs) (ls : Array Slot) (hl : lv_has ls 4 [(3, .int (nI i)), (0, .ref a), (1, .int (nI t)), (2, .int (nI n))]), W p_ l_ e_ { frames := 1, cells := 0, slots := 0, locals := 21 } S_ m_ args below meth co H locs 0 0 (MQ below (va_Qv (S := Nat → Int32) (fun f1 => repT f1 (List.replicate n 0)) (MuB g A (fun f1 => [(a, .inr (8, [.ref b, .int (iI ((t : Nat) : Int)), .int (nI ((List.replicate n (0 : Int32)).length))])), (b, .inl (g.2.1, 256, .inl f1))])) A) args S_ 0 0 A) (F0 m_ 22 ls []) := by
    intro r
    induction r with
    | zero =>
      intro i f1 h1 hz H locs hP hD hS ls hl
      refine lv_iload_n X.1 X.2.1 dX9_create_22 rfl (lv_at hl 0 rfl) ?_
      refine lv_aload_n X.1 X.2.1 dX9_create_23 rfl (lv_at hl 1 rfl) ?_
      refine va_get (D := g.1) (ci := 8) (v := .int (nI ((List.replicate n (0 : Int32)).length))) (C := RX9) (T := TX9) (N := 3) X.1 X.2.1 X.2.2.2.2 iwX9 X.2.2.2.1 hK hP 0 rfl rfl 2 (by decide) (X.2.2.2.2 _ q228) (fun _ h9 => h9) rfl dX9_create_24 ?_
      refine z_icmp_ge (tgt := 43) X dX9_create_27 (by decide) (nI_toInt (by omega)) (nI_toInt (by omega)) (fun c27 => ?_) (fun c27 => ?_)
      · exact MuV.ret X hr hlk hK hS dX9_create_43 f1 (hP.sub [0, 1] rfl) (hD.sub [0, 1] (by decide) rfl) (repT_zero (fun i hi => hz i (by omega)))
      · exfalso; omega
    | succ r ih22 =>
      intro i f1 h1 hz H locs hP hD hS ls hl
      refine lv_iload_n X.1 X.2.1 dX9_create_22 rfl (lv_at hl 0 rfl) ?_
      refine lv_aload_n X.1 X.2.1 dX9_create_23 rfl (lv_at hl 1 rfl) ?_
      refine va_get (D := g.1) (ci := 8) (v := .int (nI ((List.replicate n (0 : Int32)).length))) (C := RX9) (T := TX9) (N := 3) X.1 X.2.1 X.2.2.2.2 iwX9 X.2.2.2.1 hK hP 0 rfl rfl 2 (by decide) (X.2.2.2.2 _ q228) (fun _ h9 => h9) rfl dX9_create_24 ?_
      refine z_icmp_ge (tgt := 43) X dX9_create_27 (by decide) (nI_toInt (by omega)) (nI_toInt (by omega)) (fun c27 => ?_) (fun c27 => ?_)
      · exfalso; omega
      · refine lv_aload_n X.1 X.2.1 dX9_create_30 rfl (lv_at hl 1 rfl) ?_
        refine va_get (D := g.1) (ci := 8) (v := .ref b) (C := RX9) (T := TX9) (N := 3) X.1 X.2.1 X.2.2.2.2 iwX9 X.2.2.2.1 hK hP 0 rfl rfl 0 (by decide) (X.2.2.2.2 _ q226) (fun _ h9 => h9) rfl dX9_create_31 ?_
        refine lv_iload_n X.1 X.2.1 dX9_create_34 rfl (lv_at hl 0 rfl) ?_
        refine lv_iconst (v := (nI 0)) X.1 X.2.1 dX9_create_35 (by decide) ?_
        refine n_iast X hK hP hD hS 1 0 rfl rfl (by omega) (by decide) dX9_create_36 (fun H locs hP hD hS => ?_)
        have hP : PP g [(a, .inr (8, [.ref b, .int (iI ((t : Nat) : Int)), .int (nI ((List.replicate n (0 : Int32)).length))])), (b, .inl (g.2.1, 256, .inl (upd f1 i (nI 0))))] H := hP
        have hD : va_D A [(a, .inr (8, [.ref b, .int (iI ((t : Nat) : Int)), .int (nI ((List.replicate n (0 : Int32)).length))])), (b, .inl (g.2.1, 256, .inl (upd f1 i (nI 0))))] := hD
        refine lv_iinc (v := (nI (i + 1))) (lv' := [(3, .int (nI (i + 1))), (0, .ref a), (1, .int (nI t)), (2, .int (nI n))]) X.1 X.2.1 dX9_create_37 hl (k := 0) rfl (nI_inc _) (by decide) rfl (fun ls hl => ?_)
        refine lv_goto (tgt := 22) X.1 X.2.1 dX9_create_40 (by decide) ?_
        exact ih22 (i + 1) (upd f1 i (nI 0)) (by omega) (fun j hj => by unfold upd; split <;> first | rfl | exact hz j (by omega)) _ _ (hP.sub [0, 1] rfl) (hD.sub [0, 1] (by decide) rfl) hS ls (lv_sub hl [0, 1, 2, 3] rfl)
  exact L22 n 0 f (by omega) (fun j hj => absurd hj (Nat.not_lt_zero j)) _ _ (hP.sub [0, 1] rfl) (hD.sub [0, 1] (by decide) rfl) hS ls (lv_sub hl [0, 1, 2, 3] rfl)

set_option maxHeartbeats 4000000 in
set_option maxRecDepth 100000 in
theorem c_tb_base (g : G5) (a : Nat) (b : Nat) (ty : Int) (v : List Int32) (f : Nat → Int32) (hty : -1 ≤ ty ∧ ty ≤ 1) : PuI yX9_letterBase cX9_letterBase 1 (some .int) 0 0 g [.ref a] [(a, .inr (8, [.ref b, .int (iI ty), .int (nI v.length)])), (b, .inl (g.2.1, 256, .inl f))] (nI (if ty = 1 then 97 else 0)) := by
  refine PuI.of (by decide +kernel) (Nat.le_of_ble_eq_true rfl) ?_
  intro p_ l_ e_ S_ m_ args below meth co X hr hlk hP hK ls hl
  have X : CallFix p_ m_ co cX9_letterBase 1 S_ args lw_all RX9 := X
  have hl : lv_has ls 1 [(0, .ref a)] := hl
  refine lv_aload_n X.1 X.2.1 dX9_letterBase_0 rfl (lv_at hl 0 rfl) ?_
  refine va_get (D := g.1) (ci := 8) (v := .int (iI ty)) (C := RX9) (T := TX9) (N := 3) X.1 X.2.1 X.2.2.2.2 iwX9 X.2.2.2.1 hK hP 0 rfl rfl 1 (by decide) (X.2.2.2.2 _ q227) (fun _ h9 => h9) rfl dX9_letterBase_1 ?_
  refine lv_iconst (v := (nI 1)) X.1 X.2.1 dX9_letterBase_4 (by decide) ?_
  refine z_icmp_ne (tgt := 13) X dX9_letterBase_5 (by decide) (iI_toInt (by omega) (by omega)) (nI_toInt (by omega)) (fun c5 => ?_) (fun c5 => ?_)
  · refine lv_iconst (v := (nI 0)) X.1 X.2.1 dX9_letterBase_13 (by decide) ?_
    exact PuI.ret X hr hlk dX9_letterBase_14 (nI_nar _) (by first | rw [if_pos (by omega)] | rw [if_neg (by omega)])
  · refine lv_bipush (v := (nI 97)) X.1 X.2.1 dX9_letterBase_8 (by decide) ?_
    refine lv_goto (tgt := 14) X.1 X.2.1 dX9_letterBase_10 (by decide) ?_
    exact PuI.ret X hr hlk dX9_letterBase_14 (nI_nar _) (by first | rw [if_pos (by omega)] | rw [if_neg (by omega)])

set_option maxHeartbeats 4000000 in
set_option maxRecDepth 100000 in
theorem c_hi_row (g : G5) (x : Int) (hx : -100 ≤ x ∧ x < 100) : PuI yX3_isRow cX3_isRow 1 (some .boolean) 0 0 g [.int (iI x)] [] (bI (decide (0 ≤ x ∧ x < 6))) := by
  refine PuI.of (by decide +kernel) (Nat.le_of_ble_eq_true rfl) ?_
  intro p_ l_ e_ S_ m_ args below meth co X hr hlk hP hK ls hl
  have X : CallFix p_ m_ co cX3_isRow 1 S_ args lw_all RX3 := X
  have hl : lv_has ls 1 [(0, .int (iI x))] := hl
  refine lv_iload_n X.1 X.2.1 dX3_isRow_0 rfl (lv_at hl 0 rfl) ?_
  refine z_if_lt (tgt := 14) X dX3_isRow_1 (by decide) (iI_toInt (by omega) (by omega)) (fun c1 => ?_) (fun c1 => ?_)
  · refine lv_iconst (v := (nI 0)) X.1 X.2.1 dX3_isRow_14 (by decide) ?_
    exact PuI.ret X hr hlk dX3_isRow_15 (bI_nar _) (by first | exact bt (by exact decide_eq_true (by omega)) | exact bf (by exact decide_eq_false (by omega)))
  · refine lv_iload_n X.1 X.2.1 dX3_isRow_4 rfl (lv_at hl 0 rfl) ?_
    refine lv_bipush (v := (nI 6)) X.1 X.2.1 dX3_isRow_5 (by decide) ?_
    refine z_icmp_ge (tgt := 14) X dX3_isRow_7 (by decide) (iI_toInt (by omega) (by omega)) (nI_toInt (by omega)) (fun c7 => ?_) (fun c7 => ?_)
    · refine lv_iconst (v := (nI 0)) X.1 X.2.1 dX3_isRow_14 (by decide) ?_
      exact PuI.ret X hr hlk dX3_isRow_15 (bI_nar _) (by first | exact bt (by exact decide_eq_true (by omega)) | exact bf (by exact decide_eq_false (by omega)))
    · refine lv_iconst (v := (nI 1)) X.1 X.2.1 dX3_isRow_10 (by decide) ?_
      refine lv_goto (tgt := 15) X.1 X.2.1 dX3_isRow_11 (by decide) ?_
      exact PuI.ret X hr hlk dX3_isRow_15 (bI_nar _) (by first | exact bt (by exact decide_eq_true (by omega)) | exact bf (by exact decide_eq_false (by omega)))

theorem c_hi_rowN (g : G5) (x : Nat) (hx : x < 100) : PuI yX3_isRow cX3_isRow 1 (some .boolean) 0 0 g [.int (nI x)] [] (bI (decide (x < 6))) := by
  have h := c_hi_row g (x : Int) (by omega); rw [← nI_iI] at h; have e : decide (0 ≤ (x : Int) ∧ (x : Int) < 6) = decide (x < 6) := decide_eq_decide.mpr (by omega); rw [e] at h; exact h

set_option maxHeartbeats 4000000 in
set_option maxRecDepth 100000 in
theorem c_hi_size (g : G5) (a : Nat) (rb : Nat) (sb : Nat) (nx : Nat) (h : List (List Nat)) (fr : Nat → Int32) (fz : Nat → Int32) : PuI yX3_size cX3_size 1 (some .int) 0 0 g [.ref a] [(a, .inr (3, [.ref rb, .ref sb, .int (nI nx), .int (nI h.length)])), (rb, .inl (g.2.1, 1536, .inl fr)), (sb, .inl (g.2.1, 6, .inl fz))] (nI h.length) := by
  refine PuI.of (by decide +kernel) (Nat.le_of_ble_eq_true rfl) ?_
  intro p_ l_ e_ S_ m_ args below meth co X hr hlk hP hK ls hl
  have X : CallFix p_ m_ co cX3_size 1 S_ args lw_all RX3 := X
  have hl : lv_has ls 1 [(0, .ref a)] := hl
  refine lv_aload_n X.1 X.2.1 dX3_size_0 rfl (lv_at hl 0 rfl) ?_
  refine va_get (D := g.1) (ci := 3) (v := .int (nI h.length)) (C := RX3) (T := TX3) (N := 4) X.1 X.2.1 X.2.2.2.2 iwX3 X.2.2.2.1 hK hP 0 rfl rfl 3 (by decide) (X.2.2.2.2 _ q189) (fun _ h9 => h9) rfl dX3_size_1 ?_
  exact PuI.ret X hr hlk dX3_size_4 (nI_nar _) (rfl)

set_option maxHeartbeats 4000000 in
set_option maxRecDepth 100000 in
theorem c_hi_clear (g : G5) (a : Nat) (rb : Nat) (sb : Nat) (nx : Nat) (h : List (List Nat)) (fr : Nat → Int32) (fz : Nat → Int32) : MuV (S := Unit) yX3_clear cX3_clear 1 none 0 0 g [.ref a] [(a, .inr (3, [.ref rb, .ref sb, .int (nI nx), .int (nI h.length)])), (rb, .inl (g.2.1, 1536, .inl fr)), (sb, .inl (g.2.1, 6, .inl fz))] (fun _ => True) (fun _ => [(a, .inr (3, [.ref rb, .ref sb, .int (nI nx), .int (nI (([] : List (List Nat)).length))])), (rb, .inl (g.2.1, 1536, .inl fr)), (sb, .inl (g.2.1, 6, .inl fz))]) := by
  refine MuV.of (by decide +kernel) (Nat.le_of_ble_eq_true rfl) ?_
  intro p_ l_ e_ S_ m_ args below meth co X hr hlk hP hK A hA hD hS ls hl
  have X : CallFix p_ m_ co cX3_clear 1 S_ args lw_all RX3 := X
  have hl : lv_has ls 1 [(0, .ref a)] := hl
  refine lv_aload_n X.1 X.2.1 dX3_clear_0 rfl (lv_at hl 0 rfl) ?_
  refine lv_iconst (v := (nI 0)) X.1 X.2.1 dX3_clear_1 (by decide) ?_
  refine va_put (D := g.1) (ci := 3) (v := .int (nI 0)) (ty := .int) (C := RX3) (T := TX3) (N := 4) X.1 X.2.1 X.2.2.2.2 iwX3 tyX3 tyX3_ok nmX3 X.2.2.2.1 hK hP hD hS 0 rfl rfl 3 (by decide) (X.2.2.2.2 _ q189) (fun _ h9 => h9) rfl (by decide +kernel) rfl rfl (Nat.le_of_ble_eq_true rfl) dX3_clear_2 (fun H locs hP hD hS => ?_)
  have hP : PP g [(a, .inr (3, [.ref rb, .ref sb, .int (nI nx), .int (nI 0)])), (rb, .inl (g.2.1, 1536, .inl fr)), (sb, .inl (g.2.1, 6, .inl fz))] H := hP
  have hD : va_D A [(a, .inr (3, [.ref rb, .ref sb, .int (nI nx), .int (nI 0)])), (rb, .inl (g.2.1, 1536, .inl fr)), (sb, .inl (g.2.1, 6, .inl fz))] := hD
  exact MuV.ret X hr hlk hK hS dX3_clear_5 () (hP.sub [0, 1, 2] rfl) (hD.sub [0, 1, 2] (by decide) rfl) (trivial)

set_option maxHeartbeats 4000000 in
set_option maxRecDepth 100000 in
theorem c_hi_rem (g : G5) (a : Nat) (rb : Nat) (sb : Nat) (nx : Nat) (h : List (List Nat)) (fr : Nat → Int32) (fz : Nat → Int32) (w : Nat) (wb : Nat) (s : List Nat) (f : Nat → Int32) (hs : s.length ≤ 256) (hf : rep f s) (hh : hrep nx fr fz h) : MuV (S := (Nat → Int32) × (Nat → Int32)) yX3_remember cX3_remember 2 none 2 62 g [.ref a, .ref w] [(a, .inr (3, [.ref rb, .ref sb, .int (nI nx), .int (nI h.length)])), (rb, .inl (g.2.1, 1536, .inl fr)), (sb, .inl (g.2.1, 6, .inl fz)), (w, .inr (9, [.ref wb, .int (nI s.length)])), (wb, .inl (g.2.1, 256, .inl f))] (fun u => hrep ((nx + 1) % 6) u.1 u.2 ((s :: h).take 6)) (fun u => [(a, .inr (3, [.ref rb, .ref sb, .int (nI ((nx + 1) % 6)), .int (nI (((s :: h).take 6).length))])), (rb, .inl (g.2.1, 1536, .inl u.1)), (sb, .inl (g.2.1, 6, .inl u.2)), (w, .inr (9, [.ref wb, .int (nI s.length)])), (wb, .inl (g.2.1, 256, .inl f))]) := by
  refine MuV.of (by decide +kernel) (Nat.le_of_ble_eq_true rfl) ?_
  intro p_ l_ e_ S_ m_ args below meth co X hr hlk hP hK A hA hD hS ls hl
  have X : CallFix p_ m_ co cX3_remember 2 S_ args lw_all RX3 := X
  have hl : lv_has ls 2 [(0, .ref a), (1, .ref w)] := hl
  have hnx := hh.1
  have hhl := hh.2.1
  refine lv_aload_n X.1 X.2.1 dX3_remember_0 rfl (lv_at hl 0 rfl) ?_
  refine va_get (D := g.1) (ci := 3) (v := .int (nI nx)) (C := RX3) (T := TX3) (N := 4) X.1 X.2.1 X.2.2.2.2 iwX3 X.2.2.2.1 hK hP 0 rfl rfl 2 (by decide) (X.2.2.2.2 _ q188) (fun _ h9 => h9) rfl dX3_remember_1 ?_
  refine (c_hi_rowN g nx (by omega)).callS (rest := []) X dX3_remember_4 q469 tX3_isRow hK (hP.sub [] rfl) hl ⟨⟨Nat.le_of_ble_eq_true rfl, Nat.le_of_ble_eq_true rfl⟩, Nat.le_of_ble_eq_true rfl, Nat.le_of_ble_eq_true rfl⟩ rfl rfl (Nat.le_of_ble_eq_true rfl) ?_
  refine b_if_eq (tgt := 39) X dX3_remember_7 (by decide) (fun c7 => ?_) (fun c7 => ?_)
  · exfalso; simp at c7; omega
  · refine lv_aload_n X.1 X.2.1 dX3_remember_10 rfl (lv_at hl 1 rfl) ?_
    refine lv_aload_n X.1 X.2.1 dX3_remember_11 rfl (lv_at hl 0 rfl) ?_
    refine va_get (D := g.1) (ci := 3) (v := .ref rb) (C := RX3) (T := TX3) (N := 4) X.1 X.2.1 X.2.2.2.2 iwX3 X.2.2.2.1 hK hP 0 rfl rfl 0 (by decide) (X.2.2.2.2 _ q186) (fun _ h9 => h9) rfl dX3_remember_12 ?_
    refine lv_aload_n X.1 X.2.1 dX3_remember_15 rfl (lv_at hl 0 rfl) ?_
    refine va_get (D := g.1) (ci := 3) (v := .int (nI nx)) (C := RX3) (T := TX3) (N := 4) X.1 X.2.1 X.2.2.2.2 iwX3 X.2.2.2.1 hK hP 0 rfl rfl 2 (by decide) (X.2.2.2.2 _ q188) (fun _ h9 => h9) rfl dX3_remember_16 ?_
    refine lv_sipush (v := (nI 256)) X.1 X.2.1 dX3_remember_19 (by decide) ?_
    refine n_mul X dX3_remember_22 ?_
    refine (c_Word_copyTo g w wb s f rb 1536 fr (nx * 256) (by omega) (by omega) (by decide)).callV (rest := []) (wr := [(a, .inr (3, [.ref rb, .ref sb, .int (nI nx), .int (nI h.length)])), (sb, .inl (g.2.1, 6, .inl fz))]) X dX3_remember_23 q472 tX10_copyTo hK hP hD hS hA [3, 4, 1] [0, 2] (by decide) rfl rfl (by decide) (by decide) 0 9 rfl rfl rfl hl ⟨⟨Nat.le_of_ble_eq_true rfl, Nat.le_of_ble_eq_true rfl⟩, Nat.le_of_ble_eq_true rfl, Nat.le_of_ble_eq_true rfl⟩ rfl rfl (Nat.le_of_ble_eq_true rfl) (fun u23 H locs hw23 hP hD hS => ?_)
    obtain ⟨h1_23, rfl⟩ : ∃ z, z = u23 := ⟨_, rfl⟩
    have hP : PP g [(a, .inr (3, [.ref rb, .ref sb, .int (nI nx), .int (nI h.length)])), (sb, .inl (g.2.1, 6, .inl fz)), (w, .inr (9, [.ref wb, .int (nI s.length)])), (wb, .inl (g.2.1, 256, .inl f)), (rb, .inl (g.2.1, 1536, .inl h1_23))] H := hP
    have hD : va_D A [(a, .inr (3, [.ref rb, .ref sb, .int (nI nx), .int (nI h.length)])), (sb, .inl (g.2.1, 6, .inl fz)), (w, .inr (9, [.ref wb, .int (nI s.length)])), (wb, .inl (g.2.1, 256, .inl f)), (rb, .inl (g.2.1, 1536, .inl h1_23))] := hD
    try dsimp only at hw23
    refine lv_aload_n X.1 X.2.1 dX3_remember_26 rfl (lv_at hl 0 rfl) ?_
    refine va_get (D := g.1) (ci := 3) (v := .ref sb) (C := RX3) (T := TX3) (N := 4) X.1 X.2.1 X.2.2.2.2 iwX3 X.2.2.2.1 hK hP 0 rfl rfl 1 (by decide) (X.2.2.2.2 _ q187) (fun _ h9 => h9) rfl dX3_remember_27 ?_
    refine lv_aload_n X.1 X.2.1 dX3_remember_30 rfl (lv_at hl 0 rfl) ?_
    refine va_get (D := g.1) (ci := 3) (v := .int (nI nx)) (C := RX3) (T := TX3) (N := 4) X.1 X.2.1 X.2.2.2.2 iwX3 X.2.2.2.1 hK hP 0 rfl rfl 2 (by decide) (X.2.2.2.2 _ q188) (fun _ h9 => h9) rfl dX3_remember_31 ?_
    refine lv_aload_n X.1 X.2.1 dX3_remember_34 rfl (lv_at hl 1 rfl) ?_
    refine (c_Word_size g w wb s f).callV (rest := [.int (nI nx), .ref sb]) X dX3_remember_35 q479 tX10_size hK (hP.sub [2, 3] rfl) 0 9 rfl rfl rfl hl ⟨⟨Nat.le_of_ble_eq_true rfl, Nat.le_of_ble_eq_true rfl⟩, Nat.le_of_ble_eq_true rfl, Nat.le_of_ble_eq_true rfl⟩ rfl rfl (Nat.le_of_ble_eq_true rfl) ?_
    have e38 := hw23
    refine n_iast X hK hP hD hS 1 0 rfl rfl (by omega) (by decide) dX3_remember_38 (fun H locs hP hD hS => ?_)
    have hP : PP g [(a, .inr (3, [.ref rb, .ref sb, .int (nI nx), .int (nI h.length)])), (sb, .inl (g.2.1, 6, .inl (upd fz nx (nI s.length)))), (w, .inr (9, [.ref wb, .int (nI s.length)])), (wb, .inl (g.2.1, 256, .inl f)), (rb, .inl (g.2.1, 1536, .inl h1_23))] H := hP
    have hD : va_D A [(a, .inr (3, [.ref rb, .ref sb, .int (nI nx), .int (nI h.length)])), (sb, .inl (g.2.1, 6, .inl (upd fz nx (nI s.length)))), (w, .inr (9, [.ref wb, .int (nI s.length)])), (wb, .inl (g.2.1, 256, .inl f)), (rb, .inl (g.2.1, 1536, .inl h1_23))] := hD
    refine lv_aload_n X.1 X.2.1 dX3_remember_39 rfl (lv_at hl 0 rfl) ?_
    refine lv_aload_n X.1 X.2.1 dX3_remember_40 rfl (lv_at hl 0 rfl) ?_
    refine va_get (D := g.1) (ci := 3) (v := .int (nI nx)) (C := RX3) (T := TX3) (N := 4) X.1 X.2.1 X.2.2.2.2 iwX3 X.2.2.2.1 hK hP 0 rfl rfl 2 (by decide) (X.2.2.2.2 _ q188) (fun _ h9 => h9) rfl dX3_remember_41 ?_
    refine lv_iconst (v := (nI 1)) X.1 X.2.1 dX3_remember_44 (by decide) ?_
    refine n_add X dX3_remember_45 ?_
    refine (c_hi_rowN g (nx + 1) (by omega)).callS (rest := [.ref a]) X dX3_remember_46 q469 tX3_isRow hK (hP.sub [] rfl) hl ⟨⟨Nat.le_of_ble_eq_true rfl, Nat.le_of_ble_eq_true rfl⟩, Nat.le_of_ble_eq_true rfl, Nat.le_of_ble_eq_true rfl⟩ rfl rfl (Nat.le_of_ble_eq_true rfl) ?_
    refine b_if_eq (tgt := 61) X dX3_remember_49 (by decide) (fun c49 => ?_) (fun c49 => ?_)
    · refine lv_iconst (v := (nI 0)) X.1 X.2.1 dX3_remember_61 (by decide) ?_
      refine tp_i (y := (nI ((nx + 1) % 6))) (by congr 1; first | (simp at c49; omega) | omega) ?_
      refine va_put (D := g.1) (ci := 3) (v := .int (nI ((nx + 1) % 6))) (ty := .int) (C := RX3) (T := TX3) (N := 4) X.1 X.2.1 X.2.2.2.2 iwX3 tyX3 tyX3_ok nmX3 X.2.2.2.1 hK hP hD hS 0 rfl rfl 2 (by decide) (X.2.2.2.2 _ q188) (fun _ h9 => h9) rfl (by decide +kernel) rfl rfl (Nat.le_of_ble_eq_true rfl) dX3_remember_62 (fun H locs hP hD hS => ?_)
      have hP : PP g [(a, .inr (3, [.ref rb, .ref sb, .int (nI ((nx + 1) % 6)), .int (nI h.length)])), (sb, .inl (g.2.1, 6, .inl (upd fz nx (nI s.length)))), (w, .inr (9, [.ref wb, .int (nI s.length)])), (wb, .inl (g.2.1, 256, .inl f)), (rb, .inl (g.2.1, 1536, .inl h1_23))] H := hP
      have hD : va_D A [(a, .inr (3, [.ref rb, .ref sb, .int (nI ((nx + 1) % 6)), .int (nI h.length)])), (sb, .inl (g.2.1, 6, .inl (upd fz nx (nI s.length)))), (w, .inr (9, [.ref wb, .int (nI s.length)])), (wb, .inl (g.2.1, 256, .inl f)), (rb, .inl (g.2.1, 1536, .inl h1_23))] := hD
      refine lv_aload_n X.1 X.2.1 dX3_remember_65 rfl (lv_at hl 0 rfl) ?_
      refine lv_aload_n X.1 X.2.1 dX3_remember_66 rfl (lv_at hl 0 rfl) ?_
      refine va_get (D := g.1) (ci := 3) (v := .int (nI h.length)) (C := RX3) (T := TX3) (N := 4) X.1 X.2.1 X.2.2.2.2 iwX3 X.2.2.2.1 hK hP 0 rfl rfl 3 (by decide) (X.2.2.2.2 _ q189) (fun _ h9 => h9) rfl dX3_remember_67 ?_
      refine lv_iconst (v := (nI 1)) X.1 X.2.1 dX3_remember_70 (by decide) ?_
      refine n_add X dX3_remember_71 ?_
      refine lv_bipush (v := (nI 6)) X.1 X.2.1 dX3_remember_72 (by decide) ?_
      refine (c_minN g (h.length + 1) 6 (by omega) (by omega)).callS (rest := [.ref a]) X dX3_remember_74 q480 tJ9_min_7cf53 hK (hP.sub [] rfl) hl ⟨⟨Nat.le_of_ble_eq_true rfl, Nat.le_of_ble_eq_true rfl⟩, Nat.le_of_ble_eq_true rfl, Nat.le_of_ble_eq_true rfl⟩ rfl rfl (Nat.le_of_ble_eq_true rfl) ?_
      refine tp_i (y := (nI (((s :: h).take 6).length))) (by congr 1; rw [List.length_take, List.length_cons]; omega) ?_
      refine va_put (D := g.1) (ci := 3) (v := .int (nI (((s :: h).take 6).length))) (ty := .int) (C := RX3) (T := TX3) (N := 4) X.1 X.2.1 X.2.2.2.2 iwX3 tyX3 tyX3_ok nmX3 X.2.2.2.1 hK hP hD hS 0 rfl rfl 3 (by decide) (X.2.2.2.2 _ q189) (fun _ h9 => h9) rfl (by decide +kernel) rfl rfl (Nat.le_of_ble_eq_true rfl) dX3_remember_77 (fun H locs hP hD hS => ?_)
      have hP : PP g [(a, .inr (3, [.ref rb, .ref sb, .int (nI ((nx + 1) % 6)), .int (nI (((s :: h).take 6).length))])), (sb, .inl (g.2.1, 6, .inl (upd fz nx (nI s.length)))), (w, .inr (9, [.ref wb, .int (nI s.length)])), (wb, .inl (g.2.1, 256, .inl f)), (rb, .inl (g.2.1, 1536, .inl h1_23))] H := hP
      have hD : va_D A [(a, .inr (3, [.ref rb, .ref sb, .int (nI ((nx + 1) % 6)), .int (nI (((s :: h).take 6).length))])), (sb, .inl (g.2.1, 6, .inl (upd fz nx (nI s.length)))), (w, .inr (9, [.ref wb, .int (nI s.length)])), (wb, .inl (g.2.1, 256, .inl f)), (rb, .inl (g.2.1, 1536, .inl h1_23))] := hD
      subst e38
      exact MuV.ret X hr hlk hK hS dX3_remember_80 (va_cpy f fr 0 (nx * 256) s.length, upd fz nx (nI s.length)) (hP.sub [0, 4, 1, 2, 3] rfl) (hD.sub [0, 4, 1, 2, 3] (by decide) rfl) (hrep_add hh hf hs rfl)
    · refine lv_aload_n X.1 X.2.1 dX3_remember_52 rfl (lv_at hl 0 rfl) ?_
      refine va_get (D := g.1) (ci := 3) (v := .int (nI nx)) (C := RX3) (T := TX3) (N := 4) X.1 X.2.1 X.2.2.2.2 iwX3 X.2.2.2.1 hK hP 0 rfl rfl 2 (by decide) (X.2.2.2.2 _ q188) (fun _ h9 => h9) rfl dX3_remember_53 ?_
      refine lv_iconst (v := (nI 1)) X.1 X.2.1 dX3_remember_56 (by decide) ?_
      refine n_add X dX3_remember_57 ?_
      refine lv_goto (tgt := 62) X.1 X.2.1 dX3_remember_58 (by decide) ?_
      refine tp_i (y := (nI ((nx + 1) % 6))) (by congr 1; first | (simp at c49; omega) | omega) ?_
      refine va_put (D := g.1) (ci := 3) (v := .int (nI ((nx + 1) % 6))) (ty := .int) (C := RX3) (T := TX3) (N := 4) X.1 X.2.1 X.2.2.2.2 iwX3 tyX3 tyX3_ok nmX3 X.2.2.2.1 hK hP hD hS 0 rfl rfl 2 (by decide) (X.2.2.2.2 _ q188) (fun _ h9 => h9) rfl (by decide +kernel) rfl rfl (Nat.le_of_ble_eq_true rfl) dX3_remember_62 (fun H locs hP hD hS => ?_)
      have hP : PP g [(a, .inr (3, [.ref rb, .ref sb, .int (nI ((nx + 1) % 6)), .int (nI h.length)])), (sb, .inl (g.2.1, 6, .inl (upd fz nx (nI s.length)))), (w, .inr (9, [.ref wb, .int (nI s.length)])), (wb, .inl (g.2.1, 256, .inl f)), (rb, .inl (g.2.1, 1536, .inl h1_23))] H := hP
      have hD : va_D A [(a, .inr (3, [.ref rb, .ref sb, .int (nI ((nx + 1) % 6)), .int (nI h.length)])), (sb, .inl (g.2.1, 6, .inl (upd fz nx (nI s.length)))), (w, .inr (9, [.ref wb, .int (nI s.length)])), (wb, .inl (g.2.1, 256, .inl f)), (rb, .inl (g.2.1, 1536, .inl h1_23))] := hD
      refine lv_aload_n X.1 X.2.1 dX3_remember_65 rfl (lv_at hl 0 rfl) ?_
      refine lv_aload_n X.1 X.2.1 dX3_remember_66 rfl (lv_at hl 0 rfl) ?_
      refine va_get (D := g.1) (ci := 3) (v := .int (nI h.length)) (C := RX3) (T := TX3) (N := 4) X.1 X.2.1 X.2.2.2.2 iwX3 X.2.2.2.1 hK hP 0 rfl rfl 3 (by decide) (X.2.2.2.2 _ q189) (fun _ h9 => h9) rfl dX3_remember_67 ?_
      refine lv_iconst (v := (nI 1)) X.1 X.2.1 dX3_remember_70 (by decide) ?_
      refine n_add X dX3_remember_71 ?_
      refine lv_bipush (v := (nI 6)) X.1 X.2.1 dX3_remember_72 (by decide) ?_
      refine (c_minN g (h.length + 1) 6 (by omega) (by omega)).callS (rest := [.ref a]) X dX3_remember_74 q480 tJ9_min_7cf53 hK (hP.sub [] rfl) hl ⟨⟨Nat.le_of_ble_eq_true rfl, Nat.le_of_ble_eq_true rfl⟩, Nat.le_of_ble_eq_true rfl, Nat.le_of_ble_eq_true rfl⟩ rfl rfl (Nat.le_of_ble_eq_true rfl) ?_
      refine tp_i (y := (nI (((s :: h).take 6).length))) (by congr 1; rw [List.length_take, List.length_cons]; omega) ?_
      refine va_put (D := g.1) (ci := 3) (v := .int (nI (((s :: h).take 6).length))) (ty := .int) (C := RX3) (T := TX3) (N := 4) X.1 X.2.1 X.2.2.2.2 iwX3 tyX3 tyX3_ok nmX3 X.2.2.2.1 hK hP hD hS 0 rfl rfl 3 (by decide) (X.2.2.2.2 _ q189) (fun _ h9 => h9) rfl (by decide +kernel) rfl rfl (Nat.le_of_ble_eq_true rfl) dX3_remember_77 (fun H locs hP hD hS => ?_)
      have hP : PP g [(a, .inr (3, [.ref rb, .ref sb, .int (nI ((nx + 1) % 6)), .int (nI (((s :: h).take 6).length))])), (sb, .inl (g.2.1, 6, .inl (upd fz nx (nI s.length)))), (w, .inr (9, [.ref wb, .int (nI s.length)])), (wb, .inl (g.2.1, 256, .inl f)), (rb, .inl (g.2.1, 1536, .inl h1_23))] H := hP
      have hD : va_D A [(a, .inr (3, [.ref rb, .ref sb, .int (nI ((nx + 1) % 6)), .int (nI (((s :: h).take 6).length))])), (sb, .inl (g.2.1, 6, .inl (upd fz nx (nI s.length)))), (w, .inr (9, [.ref wb, .int (nI s.length)])), (wb, .inl (g.2.1, 256, .inl f)), (rb, .inl (g.2.1, 1536, .inl h1_23))] := hD
      subst e38
      exact MuV.ret X hr hlk hK hS dX3_remember_80 (va_cpy f fr 0 (nx * 256) s.length, upd fz nx (nI s.length)) (hP.sub [0, 4, 1, 2, 3] rfl) (hD.sub [0, 4, 1, 2, 3] (by decide) rfl) (hrep_add hh hf hs rfl)

set_option maxHeartbeats 4000000 in
set_option maxRecDepth 100000 in
theorem c_hi_back (g : G5) (a : Nat) (rb : Nat) (sb : Nat) (nx : Nat) (h : List (List Nat)) (fr : Nat → Int32) (fz : Nat → Int32) (w : Nat) (wb : Nat) (s : List Nat) (f : Nat → Int32) (z : List Nat) (h2 : List (List Nat)) (hs : s.length ≤ 256) (hh : hrep nx fr fz h) (hz : h = z :: h2) : MuV (S := Nat → Int32) yX3_bringBack cX3_bringBack 2 none 2 63 g [.ref a, .ref w] [(a, .inr (3, [.ref rb, .ref sb, .int (nI nx), .int (nI h.length)])), (rb, .inl (g.2.1, 1536, .inl fr)), (sb, .inl (g.2.1, 6, .inl fz)), (w, .inr (9, [.ref wb, .int (nI s.length)])), (wb, .inl (g.2.1, 256, .inl f))] (fun f1 => rep f1 z ∧ hrep ((nx + 5) % 6) fr fz h2) (fun f1 => [(a, .inr (3, [.ref rb, .ref sb, .int (nI ((nx + 5) % 6)), .int (nI h2.length)])), (rb, .inl (g.2.1, 1536, .inl fr)), (sb, .inl (g.2.1, 6, .inl fz)), (w, .inr (9, [.ref wb, .int (nI z.length)])), (wb, .inl (g.2.1, 256, .inl f1))]) := by
  refine MuV.of (by decide +kernel) (Nat.le_of_ble_eq_true rfl) ?_
  intro p_ l_ e_ S_ m_ args below meth co X hr hlk hP hK A hA hD hS ls hl
  have X : CallFix p_ m_ co cX3_bringBack 2 S_ args lw_all RX3 := X
  have hl : lv_has ls 2 [(0, .ref a), (1, .ref w)] := hl
  have hlen : h.length = h2.length + 1 := by rw [hz]; rfl
  have hnx := hh.1
  have hhl := hh.2.1
  have hh0 := hh.2.2 0 (by omega)
  rw [hz] at hh0
  simp only [List.getD_cons_zero, Nat.sub_zero] at hh0
  obtain ⟨hz1, hz2, hz3⟩ := hh0
  refine lv_aload_n X.1 X.2.1 dX3_bringBack_0 rfl (lv_at hl 0 rfl) ?_
  refine va_get (D := g.1) (ci := 3) (v := .int (nI h.length)) (C := RX3) (T := TX3) (N := 4) X.1 X.2.1 X.2.2.2.2 iwX3 X.2.2.2.1 hK hP 0 rfl rfl 3 (by decide) (X.2.2.2.2 _ q189) (fun _ h9 => h9) rfl dX3_bringBack_1 ?_
  refine lv_iconst (v := (nI 1)) X.1 X.2.1 dX3_bringBack_4 (by decide) ?_
  refine z_icmp_ge (tgt := 9) X dX3_bringBack_5 (by decide) (nI_toInt (by omega)) (nI_toInt (by omega)) (fun c5 => ?_) (fun c5 => ?_)
  · refine lv_aload_n X.1 X.2.1 dX3_bringBack_9 rfl (lv_at hl 0 rfl) ?_
    refine lv_aload_n X.1 X.2.1 dX3_bringBack_10 rfl (lv_at hl 0 rfl) ?_
    refine va_get (D := g.1) (ci := 3) (v := .int (nI nx)) (C := RX3) (T := TX3) (N := 4) X.1 X.2.1 X.2.2.2.2 iwX3 X.2.2.2.1 hK hP 0 rfl rfl 2 (by decide) (X.2.2.2.2 _ q188) (fun _ h9 => h9) rfl dX3_bringBack_11 ?_
    refine lv_iconst (v := (nI 1)) X.1 X.2.1 dX3_bringBack_14 (by decide) ?_
    refine lv_isub X.1 X.2.1 dX3_bringBack_15 ?_
    refine tp_i (y := (iI (((nx : Nat) : Int) - ((1 : Nat) : Int)))) (by first | rw [iI_sub] | rw [nI_iI, nI_iI, iI_sub] | rw [nI_iI, iI_sub]) ?_
    refine (c_hi_row g (((nx : Nat) : Int) - ((1 : Nat) : Int)) (by omega)).callS (rest := [.ref a]) X dX3_bringBack_16 q469 tX3_isRow hK (hP.sub [] rfl) hl ⟨⟨Nat.le_of_ble_eq_true rfl, Nat.le_of_ble_eq_true rfl⟩, Nat.le_of_ble_eq_true rfl, Nat.le_of_ble_eq_true rfl⟩ rfl rfl (Nat.le_of_ble_eq_true rfl) ?_
    refine b_if_eq (tgt := 31) X dX3_bringBack_19 (by decide) (fun c19 => ?_) (fun c19 => ?_)
    · refine lv_iconst (v := (nI 5)) X.1 X.2.1 dX3_bringBack_31 (by decide) ?_
      refine tp_i (y := (nI ((nx + 5) % 6))) (by first | (rw [nI_iI]; congr 1; simp at c19; omega) | (congr 1; simp at c19; omega)) ?_
      refine va_put (D := g.1) (ci := 3) (v := .int (nI ((nx + 5) % 6))) (ty := .int) (C := RX3) (T := TX3) (N := 4) X.1 X.2.1 X.2.2.2.2 iwX3 tyX3 tyX3_ok nmX3 X.2.2.2.1 hK hP hD hS 0 rfl rfl 2 (by decide) (X.2.2.2.2 _ q188) (fun _ h9 => h9) rfl (by decide +kernel) rfl rfl (Nat.le_of_ble_eq_true rfl) dX3_bringBack_32 (fun H locs hP hD hS => ?_)
      have hP : PP g [(a, .inr (3, [.ref rb, .ref sb, .int (nI ((nx + 5) % 6)), .int (nI h.length)])), (rb, .inl (g.2.1, 1536, .inl fr)), (sb, .inl (g.2.1, 6, .inl fz)), (w, .inr (9, [.ref wb, .int (nI s.length)])), (wb, .inl (g.2.1, 256, .inl f))] H := hP
      have hD : va_D A [(a, .inr (3, [.ref rb, .ref sb, .int (nI ((nx + 5) % 6)), .int (nI h.length)])), (rb, .inl (g.2.1, 1536, .inl fr)), (sb, .inl (g.2.1, 6, .inl fz)), (w, .inr (9, [.ref wb, .int (nI s.length)])), (wb, .inl (g.2.1, 256, .inl f))] := hD
      refine lv_aload_n X.1 X.2.1 dX3_bringBack_35 rfl (lv_at hl 0 rfl) ?_
      refine lv_dup X.1 X.2.1 dX3_bringBack_36 rfl ?_
      refine va_get (D := g.1) (ci := 3) (v := .int (nI h.length)) (C := RX3) (T := TX3) (N := 4) X.1 X.2.1 X.2.2.2.2 iwX3 X.2.2.2.1 hK hP 0 rfl rfl 3 (by decide) (X.2.2.2.2 _ q189) (fun _ h9 => h9) rfl dX3_bringBack_37 ?_
      refine lv_iconst (v := (nI 1)) X.1 X.2.1 dX3_bringBack_40 (by decide) ?_
      refine n_sub X dX3_bringBack_41 (by omega) ?_
      refine tp_i (y := (nI h2.length)) (by congr 1; omega) ?_
      refine va_put (D := g.1) (ci := 3) (v := .int (nI h2.length)) (ty := .int) (C := RX3) (T := TX3) (N := 4) X.1 X.2.1 X.2.2.2.2 iwX3 tyX3 tyX3_ok nmX3 X.2.2.2.1 hK hP hD hS 0 rfl rfl 3 (by decide) (X.2.2.2.2 _ q189) (fun _ h9 => h9) rfl (by decide +kernel) rfl rfl (Nat.le_of_ble_eq_true rfl) dX3_bringBack_42 (fun H locs hP hD hS => ?_)
      have hP : PP g [(a, .inr (3, [.ref rb, .ref sb, .int (nI ((nx + 5) % 6)), .int (nI h2.length)])), (rb, .inl (g.2.1, 1536, .inl fr)), (sb, .inl (g.2.1, 6, .inl fz)), (w, .inr (9, [.ref wb, .int (nI s.length)])), (wb, .inl (g.2.1, 256, .inl f))] H := hP
      have hD : va_D A [(a, .inr (3, [.ref rb, .ref sb, .int (nI ((nx + 5) % 6)), .int (nI h2.length)])), (rb, .inl (g.2.1, 1536, .inl fr)), (sb, .inl (g.2.1, 6, .inl fz)), (w, .inr (9, [.ref wb, .int (nI s.length)])), (wb, .inl (g.2.1, 256, .inl f))] := hD
      refine lv_aload_n X.1 X.2.1 dX3_bringBack_45 rfl (lv_at hl 0 rfl) ?_
      refine va_get (D := g.1) (ci := 3) (v := .int (nI ((nx + 5) % 6))) (C := RX3) (T := TX3) (N := 4) X.1 X.2.1 X.2.2.2.2 iwX3 X.2.2.2.1 hK hP 0 rfl rfl 2 (by decide) (X.2.2.2.2 _ q188) (fun _ h9 => h9) rfl dX3_bringBack_46 ?_
      refine (c_hi_rowN g ((nx + 5) % 6) (by omega)).callS (rest := []) X dX3_bringBack_49 q469 tX3_isRow hK (hP.sub [] rfl) hl ⟨⟨Nat.le_of_ble_eq_true rfl, Nat.le_of_ble_eq_true rfl⟩, Nat.le_of_ble_eq_true rfl, Nat.le_of_ble_eq_true rfl⟩ rfl rfl (Nat.le_of_ble_eq_true rfl) ?_
      refine b_if_eq (tgt := 80) X dX3_bringBack_52 (by decide) (fun c52 => ?_) (fun c52 => ?_)
      · exfalso; simp at c52; omega
      · refine lv_aload_n X.1 X.2.1 dX3_bringBack_55 rfl (lv_at hl 1 rfl) ?_
        refine lv_aload_n X.1 X.2.1 dX3_bringBack_56 rfl (lv_at hl 0 rfl) ?_
        refine va_get (D := g.1) (ci := 3) (v := .ref rb) (C := RX3) (T := TX3) (N := 4) X.1 X.2.1 X.2.2.2.2 iwX3 X.2.2.2.1 hK hP 0 rfl rfl 0 (by decide) (X.2.2.2.2 _ q186) (fun _ h9 => h9) rfl dX3_bringBack_57 ?_
        refine lv_aload_n X.1 X.2.1 dX3_bringBack_60 rfl (lv_at hl 0 rfl) ?_
        refine va_get (D := g.1) (ci := 3) (v := .int (nI ((nx + 5) % 6))) (C := RX3) (T := TX3) (N := 4) X.1 X.2.1 X.2.2.2.2 iwX3 X.2.2.2.1 hK hP 0 rfl rfl 2 (by decide) (X.2.2.2.2 _ q188) (fun _ h9 => h9) rfl dX3_bringBack_61 ?_
        refine lv_sipush (v := (nI 256)) X.1 X.2.1 dX3_bringBack_64 (by decide) ?_
        refine n_mul X dX3_bringBack_67 ?_
        refine lv_aload_n X.1 X.2.1 dX3_bringBack_68 rfl (lv_at hl 0 rfl) ?_
        refine va_get (D := g.1) (ci := 3) (v := .ref sb) (C := RX3) (T := TX3) (N := 4) X.1 X.2.1 X.2.2.2.2 iwX3 X.2.2.2.1 hK hP 0 rfl rfl 1 (by decide) (X.2.2.2.2 _ q187) (fun _ h9 => h9) rfl dX3_bringBack_69 ?_
        refine lv_aload_n X.1 X.2.1 dX3_bringBack_72 rfl (lv_at hl 0 rfl) ?_
        refine va_get (D := g.1) (ci := 3) (v := .int (nI ((nx + 5) % 6))) (C := RX3) (T := TX3) (N := 4) X.1 X.2.1 X.2.2.2.2 iwX3 X.2.2.2.1 hK hP 0 rfl rfl 2 (by decide) (X.2.2.2.2 _ q188) (fun _ h9 => h9) rfl dX3_bringBack_73 ?_
        refine n_iald X hK hP 2 0 rfl rfl (by omega) (by decide) dX3_bringBack_76 ?_
        refine tp_i (y := (nI z.length)) (hz2) ?_
        refine (c_Word_copyFrom g w wb s f rb 1536 fr (((nx + 5) % 6) * 256) z (by omega) (by omega) (by decide) (hz3)).callV (rest := []) (wr := [(a, .inr (3, [.ref rb, .ref sb, .int (nI ((nx + 5) % 6)), .int (nI h2.length)])), (sb, .inl (g.2.1, 6, .inl fz))]) X dX3_bringBack_77 q920 tX10_copyFrom hK hP hD hS hA [3, 4, 1] [0, 2] (by decide) rfl rfl (by decide) (by decide) 0 9 rfl rfl rfl hl ⟨⟨Nat.le_of_ble_eq_true rfl, Nat.le_of_ble_eq_true rfl⟩, Nat.le_of_ble_eq_true rfl, Nat.le_of_ble_eq_true rfl⟩ rfl rfl (Nat.le_of_ble_eq_true rfl) (fun u77 H locs hw77 hP hD hS => ?_)
        obtain ⟨f1_77, rfl⟩ : ∃ z, z = u77 := ⟨_, rfl⟩
        have hP : PP g [(a, .inr (3, [.ref rb, .ref sb, .int (nI ((nx + 5) % 6)), .int (nI h2.length)])), (sb, .inl (g.2.1, 6, .inl fz)), (w, .inr (9, [.ref wb, .int (nI z.length)])), (wb, .inl (g.2.1, 256, .inl f1_77)), (rb, .inl (g.2.1, 1536, .inl fr))] H := hP
        have hD : va_D A [(a, .inr (3, [.ref rb, .ref sb, .int (nI ((nx + 5) % 6)), .int (nI h2.length)])), (sb, .inl (g.2.1, 6, .inl fz)), (w, .inr (9, [.ref wb, .int (nI z.length)])), (wb, .inl (g.2.1, 256, .inl f1_77)), (rb, .inl (g.2.1, 1536, .inl fr))] := hD
        try dsimp only at hw77
        exact MuV.ret X hr hlk hK hS dX3_bringBack_80 f1_77 (hP.sub [0, 4, 1, 2, 3] rfl) (hD.sub [0, 4, 1, 2, 3] (by decide) rfl) (⟨hw77, hrep_pop (hz ▸ hh) rfl⟩)
    · refine lv_aload_n X.1 X.2.1 dX3_bringBack_22 rfl (lv_at hl 0 rfl) ?_
      refine va_get (D := g.1) (ci := 3) (v := .int (nI nx)) (C := RX3) (T := TX3) (N := 4) X.1 X.2.1 X.2.2.2.2 iwX3 X.2.2.2.1 hK hP 0 rfl rfl 2 (by decide) (X.2.2.2.2 _ q188) (fun _ h9 => h9) rfl dX3_bringBack_23 ?_
      refine lv_iconst (v := (nI 1)) X.1 X.2.1 dX3_bringBack_26 (by decide) ?_
      refine lv_isub X.1 X.2.1 dX3_bringBack_27 ?_
      refine tp_i (y := (iI (((nx : Nat) : Int) - ((1 : Nat) : Int)))) (by first | rw [iI_sub] | rw [nI_iI, nI_iI, iI_sub] | rw [nI_iI, iI_sub]) ?_
      refine lv_goto (tgt := 32) X.1 X.2.1 dX3_bringBack_28 (by decide) ?_
      refine tp_i (y := (nI ((nx + 5) % 6))) (by first | (rw [nI_iI]; congr 1; simp at c19; omega) | (congr 1; simp at c19; omega)) ?_
      refine va_put (D := g.1) (ci := 3) (v := .int (nI ((nx + 5) % 6))) (ty := .int) (C := RX3) (T := TX3) (N := 4) X.1 X.2.1 X.2.2.2.2 iwX3 tyX3 tyX3_ok nmX3 X.2.2.2.1 hK hP hD hS 0 rfl rfl 2 (by decide) (X.2.2.2.2 _ q188) (fun _ h9 => h9) rfl (by decide +kernel) rfl rfl (Nat.le_of_ble_eq_true rfl) dX3_bringBack_32 (fun H locs hP hD hS => ?_)
      have hP : PP g [(a, .inr (3, [.ref rb, .ref sb, .int (nI ((nx + 5) % 6)), .int (nI h.length)])), (rb, .inl (g.2.1, 1536, .inl fr)), (sb, .inl (g.2.1, 6, .inl fz)), (w, .inr (9, [.ref wb, .int (nI s.length)])), (wb, .inl (g.2.1, 256, .inl f))] H := hP
      have hD : va_D A [(a, .inr (3, [.ref rb, .ref sb, .int (nI ((nx + 5) % 6)), .int (nI h.length)])), (rb, .inl (g.2.1, 1536, .inl fr)), (sb, .inl (g.2.1, 6, .inl fz)), (w, .inr (9, [.ref wb, .int (nI s.length)])), (wb, .inl (g.2.1, 256, .inl f))] := hD
      refine lv_aload_n X.1 X.2.1 dX3_bringBack_35 rfl (lv_at hl 0 rfl) ?_
      refine lv_dup X.1 X.2.1 dX3_bringBack_36 rfl ?_
      refine va_get (D := g.1) (ci := 3) (v := .int (nI h.length)) (C := RX3) (T := TX3) (N := 4) X.1 X.2.1 X.2.2.2.2 iwX3 X.2.2.2.1 hK hP 0 rfl rfl 3 (by decide) (X.2.2.2.2 _ q189) (fun _ h9 => h9) rfl dX3_bringBack_37 ?_
      refine lv_iconst (v := (nI 1)) X.1 X.2.1 dX3_bringBack_40 (by decide) ?_
      refine n_sub X dX3_bringBack_41 (by omega) ?_
      refine tp_i (y := (nI h2.length)) (by congr 1; omega) ?_
      refine va_put (D := g.1) (ci := 3) (v := .int (nI h2.length)) (ty := .int) (C := RX3) (T := TX3) (N := 4) X.1 X.2.1 X.2.2.2.2 iwX3 tyX3 tyX3_ok nmX3 X.2.2.2.1 hK hP hD hS 0 rfl rfl 3 (by decide) (X.2.2.2.2 _ q189) (fun _ h9 => h9) rfl (by decide +kernel) rfl rfl (Nat.le_of_ble_eq_true rfl) dX3_bringBack_42 (fun H locs hP hD hS => ?_)
      have hP : PP g [(a, .inr (3, [.ref rb, .ref sb, .int (nI ((nx + 5) % 6)), .int (nI h2.length)])), (rb, .inl (g.2.1, 1536, .inl fr)), (sb, .inl (g.2.1, 6, .inl fz)), (w, .inr (9, [.ref wb, .int (nI s.length)])), (wb, .inl (g.2.1, 256, .inl f))] H := hP
      have hD : va_D A [(a, .inr (3, [.ref rb, .ref sb, .int (nI ((nx + 5) % 6)), .int (nI h2.length)])), (rb, .inl (g.2.1, 1536, .inl fr)), (sb, .inl (g.2.1, 6, .inl fz)), (w, .inr (9, [.ref wb, .int (nI s.length)])), (wb, .inl (g.2.1, 256, .inl f))] := hD
      refine lv_aload_n X.1 X.2.1 dX3_bringBack_45 rfl (lv_at hl 0 rfl) ?_
      refine va_get (D := g.1) (ci := 3) (v := .int (nI ((nx + 5) % 6))) (C := RX3) (T := TX3) (N := 4) X.1 X.2.1 X.2.2.2.2 iwX3 X.2.2.2.1 hK hP 0 rfl rfl 2 (by decide) (X.2.2.2.2 _ q188) (fun _ h9 => h9) rfl dX3_bringBack_46 ?_
      refine (c_hi_rowN g ((nx + 5) % 6) (by omega)).callS (rest := []) X dX3_bringBack_49 q469 tX3_isRow hK (hP.sub [] rfl) hl ⟨⟨Nat.le_of_ble_eq_true rfl, Nat.le_of_ble_eq_true rfl⟩, Nat.le_of_ble_eq_true rfl, Nat.le_of_ble_eq_true rfl⟩ rfl rfl (Nat.le_of_ble_eq_true rfl) ?_
      refine b_if_eq (tgt := 80) X dX3_bringBack_52 (by decide) (fun c52 => ?_) (fun c52 => ?_)
      · exfalso; simp at c52; omega
      · refine lv_aload_n X.1 X.2.1 dX3_bringBack_55 rfl (lv_at hl 1 rfl) ?_
        refine lv_aload_n X.1 X.2.1 dX3_bringBack_56 rfl (lv_at hl 0 rfl) ?_
        refine va_get (D := g.1) (ci := 3) (v := .ref rb) (C := RX3) (T := TX3) (N := 4) X.1 X.2.1 X.2.2.2.2 iwX3 X.2.2.2.1 hK hP 0 rfl rfl 0 (by decide) (X.2.2.2.2 _ q186) (fun _ h9 => h9) rfl dX3_bringBack_57 ?_
        refine lv_aload_n X.1 X.2.1 dX3_bringBack_60 rfl (lv_at hl 0 rfl) ?_
        refine va_get (D := g.1) (ci := 3) (v := .int (nI ((nx + 5) % 6))) (C := RX3) (T := TX3) (N := 4) X.1 X.2.1 X.2.2.2.2 iwX3 X.2.2.2.1 hK hP 0 rfl rfl 2 (by decide) (X.2.2.2.2 _ q188) (fun _ h9 => h9) rfl dX3_bringBack_61 ?_
        refine lv_sipush (v := (nI 256)) X.1 X.2.1 dX3_bringBack_64 (by decide) ?_
        refine n_mul X dX3_bringBack_67 ?_
        refine lv_aload_n X.1 X.2.1 dX3_bringBack_68 rfl (lv_at hl 0 rfl) ?_
        refine va_get (D := g.1) (ci := 3) (v := .ref sb) (C := RX3) (T := TX3) (N := 4) X.1 X.2.1 X.2.2.2.2 iwX3 X.2.2.2.1 hK hP 0 rfl rfl 1 (by decide) (X.2.2.2.2 _ q187) (fun _ h9 => h9) rfl dX3_bringBack_69 ?_
        refine lv_aload_n X.1 X.2.1 dX3_bringBack_72 rfl (lv_at hl 0 rfl) ?_
        refine va_get (D := g.1) (ci := 3) (v := .int (nI ((nx + 5) % 6))) (C := RX3) (T := TX3) (N := 4) X.1 X.2.1 X.2.2.2.2 iwX3 X.2.2.2.1 hK hP 0 rfl rfl 2 (by decide) (X.2.2.2.2 _ q188) (fun _ h9 => h9) rfl dX3_bringBack_73 ?_
        refine n_iald X hK hP 2 0 rfl rfl (by omega) (by decide) dX3_bringBack_76 ?_
        refine tp_i (y := (nI z.length)) (hz2) ?_
        refine (c_Word_copyFrom g w wb s f rb 1536 fr (((nx + 5) % 6) * 256) z (by omega) (by omega) (by decide) (hz3)).callV (rest := []) (wr := [(a, .inr (3, [.ref rb, .ref sb, .int (nI ((nx + 5) % 6)), .int (nI h2.length)])), (sb, .inl (g.2.1, 6, .inl fz))]) X dX3_bringBack_77 q920 tX10_copyFrom hK hP hD hS hA [3, 4, 1] [0, 2] (by decide) rfl rfl (by decide) (by decide) 0 9 rfl rfl rfl hl ⟨⟨Nat.le_of_ble_eq_true rfl, Nat.le_of_ble_eq_true rfl⟩, Nat.le_of_ble_eq_true rfl, Nat.le_of_ble_eq_true rfl⟩ rfl rfl (Nat.le_of_ble_eq_true rfl) (fun u77 H locs hw77 hP hD hS => ?_)
        obtain ⟨f1_77, rfl⟩ : ∃ z, z = u77 := ⟨_, rfl⟩
        have hP : PP g [(a, .inr (3, [.ref rb, .ref sb, .int (nI ((nx + 5) % 6)), .int (nI h2.length)])), (sb, .inl (g.2.1, 6, .inl fz)), (w, .inr (9, [.ref wb, .int (nI z.length)])), (wb, .inl (g.2.1, 256, .inl f1_77)), (rb, .inl (g.2.1, 1536, .inl fr))] H := hP
        have hD : va_D A [(a, .inr (3, [.ref rb, .ref sb, .int (nI ((nx + 5) % 6)), .int (nI h2.length)])), (sb, .inl (g.2.1, 6, .inl fz)), (w, .inr (9, [.ref wb, .int (nI z.length)])), (wb, .inl (g.2.1, 256, .inl f1_77)), (rb, .inl (g.2.1, 1536, .inl fr))] := hD
        try dsimp only at hw77
        exact MuV.ret X hr hlk hK hS dX3_bringBack_80 f1_77 (hP.sub [0, 4, 1, 2, 3] rfl) (hD.sub [0, 4, 1, 2, 3] (by decide) rfl) (⟨hw77, hrep_pop (hz ▸ hh) rfl⟩)
  · exfalso; omega

set_option maxHeartbeats 4000000 in
set_option maxRecDepth 100000 in
theorem c_sn_taken (g : G5) (a : Nat) (wa : Nat) (wb : Nat) (k0 : Nat) (n0 : Nat) (tk : Bool) (s0 : List Nat) (f0 : Nat → Int32) : PuI yX7_isTaken cX7_isTaken 1 (some .boolean) 0 0 g [.ref a] [(a, .inr (7, [.ref wa, .int (nI k0), .int (nI n0), .int (bI tk)])), (wa, .inr (9, [.ref wb, .int (nI s0.length)])), (wb, .inl (g.2.1, 256, .inl f0))] (bI tk) := by
  refine PuI.of (by decide +kernel) (Nat.le_of_ble_eq_true rfl) ?_
  intro p_ l_ e_ S_ m_ args below meth co X hr hlk hP hK ls hl
  have X : CallFix p_ m_ co cX7_isTaken 1 S_ args lw_all RX7 := X
  have hl : lv_has ls 1 [(0, .ref a)] := hl
  refine lv_aload_n X.1 X.2.1 dX7_isTaken_0 rfl (lv_at hl 0 rfl) ?_
  refine va_get (D := g.1) (ci := 7) (v := .int (bI tk)) (C := RX7) (T := TX7) (N := 4) X.1 X.2.1 X.2.2.2.2 iwX7 X.2.2.2.1 hK hP 0 rfl rfl 3 (by decide) (X.2.2.2.2 _ q210) (fun _ h9 => h9) rfl dX7_isTaken_1 ?_
  exact PuI.ret X hr hlk dX7_isTaken_4 (bI_nar _) (rfl)

set_option maxHeartbeats 4000000 in
set_option maxRecDepth 100000 in
theorem c_sn_take (g : G5) (a : Nat) (wa : Nat) (wb : Nat) (k0 : Nat) (n0 : Nat) (tk : Bool) (s0 : List Nat) (f0 : Nat → Int32) (sa : Nat) (k : Nat) (n : Nat) (B : Nat) (T : Nat) (qa : Nat) (qb : Nat) (s : List Nat) (f : Nat → Int32) (hs : s.length ≤ 256) (hf : rep f s) : MuV (S := Nat → Int32) yX7_take cX7_take 3 none 3 84 g [.ref a, .ref sa, .ref qa] [(a, .inr (7, [.ref wa, .int (nI k0), .int (nI n0), .int (bI tk)])), (wa, .inr (9, [.ref wb, .int (nI s0.length)])), (wb, .inl (g.2.1, 256, .inl f0)), (sa, .inr (6, [.int (nI k), .int (nI n), .int (nI B), .int (nI T)])), (qa, .inr (9, [.ref qb, .int (nI s.length)])), (qb, .inl (g.2.1, 256, .inl f))] (fun f1 => rep f1 s) (fun f1 => [(a, .inr (7, [.ref wa, .int (nI k), .int (nI n), .int (bI true)])), (wa, .inr (9, [.ref wb, .int (nI s.length)])), (wb, .inl (g.2.1, 256, .inl f1)), (sa, .inr (6, [.int (nI k), .int (nI n), .int (nI B), .int (nI T)])), (qa, .inr (9, [.ref qb, .int (nI s.length)])), (qb, .inl (g.2.1, 256, .inl f))]) := by
  refine MuV.of (by decide +kernel) (Nat.le_of_ble_eq_true rfl) ?_
  intro p_ l_ e_ S_ m_ args below meth co X hr hlk hP hK A hA hD hS ls hl
  have X : CallFix p_ m_ co cX7_take 3 S_ args lw_all RX7 := X
  have hl : lv_has ls 3 [(0, .ref a), (1, .ref sa), (2, .ref qa)] := hl
  refine lv_aload_n X.1 X.2.1 dX7_take_0 rfl (lv_at hl 0 rfl) ?_
  refine lv_aload_n X.1 X.2.1 dX7_take_1 rfl (lv_at hl 1 rfl) ?_
  refine (c_sh_k g sa k n B T).callV (rest := [.ref a]) X dX7_take_2 q933 tX6_letterTotal hK (hP.sub [3] rfl) 0 6 rfl rfl rfl hl ⟨⟨Nat.le_of_ble_eq_true rfl, Nat.le_of_ble_eq_true rfl⟩, Nat.le_of_ble_eq_true rfl, Nat.le_of_ble_eq_true rfl⟩ rfl rfl (Nat.le_of_ble_eq_true rfl) ?_
  refine va_put (D := g.1) (ci := 7) (v := .int (nI k)) (ty := .int) (C := RX7) (T := TX7) (N := 4) X.1 X.2.1 X.2.2.2.2 iwX7 tyX7 tyX7_ok nmX7 X.2.2.2.1 hK hP hD hS 0 rfl rfl 1 (by decide) (X.2.2.2.2 _ q208) (fun _ h9 => h9) rfl (by decide +kernel) rfl rfl (Nat.le_of_ble_eq_true rfl) dX7_take_5 (fun H locs hP hD hS => ?_)
  have hP : PP g [(a, .inr (7, [.ref wa, .int (nI k), .int (nI n0), .int (bI tk)])), (wa, .inr (9, [.ref wb, .int (nI s0.length)])), (wb, .inl (g.2.1, 256, .inl f0)), (sa, .inr (6, [.int (nI k), .int (nI n), .int (nI B), .int (nI T)])), (qa, .inr (9, [.ref qb, .int (nI s.length)])), (qb, .inl (g.2.1, 256, .inl f))] H := hP
  have hD : va_D A [(a, .inr (7, [.ref wa, .int (nI k), .int (nI n0), .int (bI tk)])), (wa, .inr (9, [.ref wb, .int (nI s0.length)])), (wb, .inl (g.2.1, 256, .inl f0)), (sa, .inr (6, [.int (nI k), .int (nI n), .int (nI B), .int (nI T)])), (qa, .inr (9, [.ref qb, .int (nI s.length)])), (qb, .inl (g.2.1, 256, .inl f))] := hD
  refine lv_aload_n X.1 X.2.1 dX7_take_8 rfl (lv_at hl 0 rfl) ?_
  refine lv_aload_n X.1 X.2.1 dX7_take_9 rfl (lv_at hl 1 rfl) ?_
  refine (c_sh_n g sa k n B T).callV (rest := [.ref a]) X dX7_take_10 q934 tX6_blockSize hK (hP.sub [3] rfl) 0 6 rfl rfl rfl hl ⟨⟨Nat.le_of_ble_eq_true rfl, Nat.le_of_ble_eq_true rfl⟩, Nat.le_of_ble_eq_true rfl, Nat.le_of_ble_eq_true rfl⟩ rfl rfl (Nat.le_of_ble_eq_true rfl) ?_
  refine va_put (D := g.1) (ci := 7) (v := .int (nI n)) (ty := .int) (C := RX7) (T := TX7) (N := 4) X.1 X.2.1 X.2.2.2.2 iwX7 tyX7 tyX7_ok nmX7 X.2.2.2.1 hK hP hD hS 0 rfl rfl 2 (by decide) (X.2.2.2.2 _ q209) (fun _ h9 => h9) rfl (by decide +kernel) rfl rfl (Nat.le_of_ble_eq_true rfl) dX7_take_13 (fun H locs hP hD hS => ?_)
  have hP : PP g [(a, .inr (7, [.ref wa, .int (nI k), .int (nI n), .int (bI tk)])), (wa, .inr (9, [.ref wb, .int (nI s0.length)])), (wb, .inl (g.2.1, 256, .inl f0)), (sa, .inr (6, [.int (nI k), .int (nI n), .int (nI B), .int (nI T)])), (qa, .inr (9, [.ref qb, .int (nI s.length)])), (qb, .inl (g.2.1, 256, .inl f))] H := hP
  have hD : va_D A [(a, .inr (7, [.ref wa, .int (nI k), .int (nI n), .int (bI tk)])), (wa, .inr (9, [.ref wb, .int (nI s0.length)])), (wb, .inl (g.2.1, 256, .inl f0)), (sa, .inr (6, [.int (nI k), .int (nI n), .int (nI B), .int (nI T)])), (qa, .inr (9, [.ref qb, .int (nI s.length)])), (qb, .inl (g.2.1, 256, .inl f))] := hD
  refine lv_aload_n X.1 X.2.1 dX7_take_16 rfl (lv_at hl 0 rfl) ?_
  refine va_get (D := g.1) (ci := 7) (v := .ref wa) (C := RX7) (T := TX7) (N := 4) X.1 X.2.1 X.2.2.2.2 iwX7 X.2.2.2.1 hK hP 0 rfl rfl 0 (by decide) (X.2.2.2.2 _ q207) (fun _ h9 => h9) rfl dX7_take_17 ?_
  refine lv_aload_n X.1 X.2.1 dX7_take_20 rfl (lv_at hl 2 rfl) ?_
  refine (c_Word_become g wa wb s0 f0 qa qb s f (by omega) (by assumption)).callV (rest := []) (wr := [(a, .inr (7, [.ref wa, .int (nI k), .int (nI n), .int (bI tk)])), (sa, .inr (6, [.int (nI k), .int (nI n), .int (nI B), .int (nI T)]))]) X dX7_take_21 q935 tX10_become hK hP hD hS hA [1, 2, 4, 5] [0, 3] (by decide) rfl rfl (by decide) (by decide) 0 9 rfl rfl rfl hl ⟨⟨Nat.le_of_ble_eq_true rfl, Nat.le_of_ble_eq_true rfl⟩, Nat.le_of_ble_eq_true rfl, Nat.le_of_ble_eq_true rfl⟩ rfl rfl (Nat.le_of_ble_eq_true rfl) (fun u21 H locs hw21 hP hD hS => ?_)
  obtain ⟨f1_21, rfl⟩ : ∃ z, z = u21 := ⟨_, rfl⟩
  have hP : PP g [(a, .inr (7, [.ref wa, .int (nI k), .int (nI n), .int (bI tk)])), (sa, .inr (6, [.int (nI k), .int (nI n), .int (nI B), .int (nI T)])), (wa, .inr (9, [.ref wb, .int (nI s.length)])), (wb, .inl (g.2.1, 256, .inl f1_21)), (qa, .inr (9, [.ref qb, .int (nI s.length)])), (qb, .inl (g.2.1, 256, .inl f))] H := hP
  have hD : va_D A [(a, .inr (7, [.ref wa, .int (nI k), .int (nI n), .int (bI tk)])), (sa, .inr (6, [.int (nI k), .int (nI n), .int (nI B), .int (nI T)])), (wa, .inr (9, [.ref wb, .int (nI s.length)])), (wb, .inl (g.2.1, 256, .inl f1_21)), (qa, .inr (9, [.ref qb, .int (nI s.length)])), (qb, .inl (g.2.1, 256, .inl f))] := hD
  try dsimp only at hw21
  refine lv_aload_n X.1 X.2.1 dX7_take_24 rfl (lv_at hl 0 rfl) ?_
  refine lv_iconst (v := (nI 1)) X.1 X.2.1 dX7_take_25 (by decide) ?_
  refine tp_i (y := (bI true)) (rfl) ?_
  refine va_put (D := g.1) (ci := 7) (v := .int (bI true)) (ty := .boolean) (C := RX7) (T := TX7) (N := 4) X.1 X.2.1 X.2.2.2.2 iwX7 tyX7 tyX7_ok nmX7 X.2.2.2.1 hK hP hD hS 0 rfl rfl 3 (by decide) (X.2.2.2.2 _ q210) (fun _ h9 => h9) rfl (by decide +kernel) rfl rfl (Nat.le_of_ble_eq_true rfl) dX7_take_26 (fun H locs hP hD hS => ?_)
  have hP : PP g [(a, .inr (7, [.ref wa, .int (nI k), .int (nI n), .int (bI true)])), (sa, .inr (6, [.int (nI k), .int (nI n), .int (nI B), .int (nI T)])), (wa, .inr (9, [.ref wb, .int (nI s.length)])), (wb, .inl (g.2.1, 256, .inl f1_21)), (qa, .inr (9, [.ref qb, .int (nI s.length)])), (qb, .inl (g.2.1, 256, .inl f))] H := hP
  have hD : va_D A [(a, .inr (7, [.ref wa, .int (nI k), .int (nI n), .int (bI true)])), (sa, .inr (6, [.int (nI k), .int (nI n), .int (nI B), .int (nI T)])), (wa, .inr (9, [.ref wb, .int (nI s.length)])), (wb, .inl (g.2.1, 256, .inl f1_21)), (qa, .inr (9, [.ref qb, .int (nI s.length)])), (qb, .inl (g.2.1, 256, .inl f))] := hD
  exact MuV.ret X hr hlk hK hS dX7_take_29 f1_21 (hP.sub [0, 2, 3, 1, 4, 5] rfl) (hD.sub [0, 2, 3, 1, 4, 5] (by decide) rfl) (hw21)

set_option maxHeartbeats 4000000 in
set_option maxRecDepth 100000 in
theorem c_sn_give (g : G5) (a : Nat) (wa : Nat) (wb : Nat) (k0 : Nat) (n0 : Nat) (tk : Bool) (s0 : List Nat) (f0 : Nat → Int32) (sa : Nat) (k : Nat) (n : Nat) (B : Nat) (T : Nat) (qa : Nat) (qb : Nat) (s : List Nat) (f : Nat → Int32) (B0 : Nat) (T0 : Nat) (hc0 : shp k0 n0 B0 T0) (hs0 : s0.length ≤ 256) (hf0 : rep f0 s0) : MuV (S := Nat → Int32) yX7_giveBack cX7_giveBack 3 none 3 84 g [.ref a, .ref sa, .ref qa] [(a, .inr (7, [.ref wa, .int (nI k0), .int (nI n0), .int (bI tk)])), (wa, .inr (9, [.ref wb, .int (nI s0.length)])), (wb, .inl (g.2.1, 256, .inl f0)), (sa, .inr (6, [.int (nI k), .int (nI n), .int (nI B), .int (nI T)])), (qa, .inr (9, [.ref qb, .int (nI s.length)])), (qb, .inl (g.2.1, 256, .inl f))] (fun f1 => rep f1 s0) (fun f1 => [(a, .inr (7, [.ref wa, .int (nI k0), .int (nI n0), .int (bI tk)])), (wa, .inr (9, [.ref wb, .int (nI s0.length)])), (wb, .inl (g.2.1, 256, .inl f0)), (sa, .inr (6, [.int (nI k0), .int (nI n0), .int (nI B0), .int (nI T0)])), (qa, .inr (9, [.ref qb, .int (nI s0.length)])), (qb, .inl (g.2.1, 256, .inl f1))]) := by
  refine MuV.of (by decide +kernel) (Nat.le_of_ble_eq_true rfl) ?_
  intro p_ l_ e_ S_ m_ args below meth co X hr hlk hP hK A hA hD hS ls hl
  have X : CallFix p_ m_ co cX7_giveBack 3 S_ args lw_all RX7 := X
  have hl : lv_has ls 3 [(0, .ref a), (1, .ref sa), (2, .ref qa)] := hl
  refine lv_aload_n X.1 X.2.1 dX7_giveBack_0 rfl (lv_at hl 1 rfl) ?_
  refine lv_aload_n X.1 X.2.1 dX7_giveBack_1 rfl (lv_at hl 0 rfl) ?_
  refine va_get (D := g.1) (ci := 7) (v := .int (nI k0)) (C := RX7) (T := TX7) (N := 4) X.1 X.2.1 X.2.2.2.2 iwX7 X.2.2.2.1 hK hP 0 rfl rfl 1 (by decide) (X.2.2.2.2 _ q208) (fun _ h9 => h9) rfl dX7_giveBack_2 ?_
  refine lv_aload_n X.1 X.2.1 dX7_giveBack_5 rfl (lv_at hl 0 rfl) ?_
  refine va_get (D := g.1) (ci := 7) (v := .int (nI n0)) (C := RX7) (T := TX7) (N := 4) X.1 X.2.1 X.2.2.2.2 iwX7 X.2.2.2.1 hK hP 0 rfl rfl 2 (by decide) (X.2.2.2.2 _ q209) (fun _ h9 => h9) rfl dX7_giveBack_6 ?_
  refine (c_change g sa k n B T k0 n0 B0 T0 (by assumption)).callV (rest := []) (wr := [(a, .inr (7, [.ref wa, .int (nI k0), .int (nI n0), .int (bI tk)])), (wa, .inr (9, [.ref wb, .int (nI s0.length)])), (wb, .inl (g.2.1, 256, .inl f0)), (qa, .inr (9, [.ref qb, .int (nI s.length)])), (qb, .inl (g.2.1, 256, .inl f))]) X dX7_giveBack_9 q948 tX6_change hK hP hD hS hA [3] [0, 1, 2, 4, 5] (by decide) rfl rfl (by decide) (by decide) 0 6 rfl rfl rfl hl ⟨⟨Nat.le_of_ble_eq_true rfl, Nat.le_of_ble_eq_true rfl⟩, Nat.le_of_ble_eq_true rfl, Nat.le_of_ble_eq_true rfl⟩ rfl rfl (Nat.le_of_ble_eq_true rfl) (fun u9 H locs hw9 hP hD hS => ?_)
  have hP : PP g [(a, .inr (7, [.ref wa, .int (nI k0), .int (nI n0), .int (bI tk)])), (wa, .inr (9, [.ref wb, .int (nI s0.length)])), (wb, .inl (g.2.1, 256, .inl f0)), (qa, .inr (9, [.ref qb, .int (nI s.length)])), (qb, .inl (g.2.1, 256, .inl f)), (sa, .inr (6, [.int (nI k0), .int (nI n0), .int (nI B0), .int (nI T0)]))] H := hP
  have hD : va_D A [(a, .inr (7, [.ref wa, .int (nI k0), .int (nI n0), .int (bI tk)])), (wa, .inr (9, [.ref wb, .int (nI s0.length)])), (wb, .inl (g.2.1, 256, .inl f0)), (qa, .inr (9, [.ref qb, .int (nI s.length)])), (qb, .inl (g.2.1, 256, .inl f)), (sa, .inr (6, [.int (nI k0), .int (nI n0), .int (nI B0), .int (nI T0)]))] := hD
  try dsimp only at hw9
  refine lv_aload_n X.1 X.2.1 dX7_giveBack_12 rfl (lv_at hl 2 rfl) ?_
  refine lv_aload_n X.1 X.2.1 dX7_giveBack_13 rfl (lv_at hl 0 rfl) ?_
  refine va_get (D := g.1) (ci := 7) (v := .ref wa) (C := RX7) (T := TX7) (N := 4) X.1 X.2.1 X.2.2.2.2 iwX7 X.2.2.2.1 hK hP 0 rfl rfl 0 (by decide) (X.2.2.2.2 _ q207) (fun _ h9 => h9) rfl dX7_giveBack_14 ?_
  refine (c_Word_become g qa qb s f wa wb s0 f0 (by omega) (by assumption)).callV (rest := []) (wr := [(a, .inr (7, [.ref wa, .int (nI k0), .int (nI n0), .int (bI tk)])), (sa, .inr (6, [.int (nI k0), .int (nI n0), .int (nI B0), .int (nI T0)]))]) X dX7_giveBack_17 q935 tX10_become hK hP hD hS hA [3, 4, 1, 2] [0, 5] (by decide) rfl rfl (by decide) (by decide) 0 9 rfl rfl rfl hl ⟨⟨Nat.le_of_ble_eq_true rfl, Nat.le_of_ble_eq_true rfl⟩, Nat.le_of_ble_eq_true rfl, Nat.le_of_ble_eq_true rfl⟩ rfl rfl (Nat.le_of_ble_eq_true rfl) (fun u17 H locs hw17 hP hD hS => ?_)
  obtain ⟨f1_17, rfl⟩ : ∃ z, z = u17 := ⟨_, rfl⟩
  have hP : PP g [(a, .inr (7, [.ref wa, .int (nI k0), .int (nI n0), .int (bI tk)])), (sa, .inr (6, [.int (nI k0), .int (nI n0), .int (nI B0), .int (nI T0)])), (qa, .inr (9, [.ref qb, .int (nI s0.length)])), (qb, .inl (g.2.1, 256, .inl f1_17)), (wa, .inr (9, [.ref wb, .int (nI s0.length)])), (wb, .inl (g.2.1, 256, .inl f0))] H := hP
  have hD : va_D A [(a, .inr (7, [.ref wa, .int (nI k0), .int (nI n0), .int (bI tk)])), (sa, .inr (6, [.int (nI k0), .int (nI n0), .int (nI B0), .int (nI T0)])), (qa, .inr (9, [.ref qb, .int (nI s0.length)])), (qb, .inl (g.2.1, 256, .inl f1_17)), (wa, .inr (9, [.ref wb, .int (nI s0.length)])), (wb, .inl (g.2.1, 256, .inl f0))] := hD
  try dsimp only at hw17
  exact MuV.ret X hr hlk hK hS dX7_giveBack_20 f1_17 (hP.sub [0, 4, 5, 1, 2, 3] rfl) (hD.sub [0, 4, 5, 1, 2, 3] (by decide) rfl) (hw17)
