set_option maxHeartbeats 4000000 in
set_option maxRecDepth 100000 in
theorem c_bits0 (g : G5) : PuL yX8_bitsOf cX8_bitsOf 9 (some .long) 0 0 g [.double FP.dconst0] [] FP.dconst0.toInt64 := by
  refine PuL.of (by decide +kernel) (Nat.le_of_ble_eq_true rfl) ?_
  intro p_ l_ e_ S_ m_ args below meth co X hr hlk hP hK ls hl
  have X : CallFix p_ m_ co cX8_bitsOf 9 S_ args lw_all RX8 := X
  have hl : lv_has ls 9 [(0, .double FP.dconst0)] := hl
  refine lv_dload_n X.1 X.2.1 dX8_bitsOf_0 rfl (lv_at hl 0 rfl) ?_
  refine lv_dconst0 X.1 X.2.1 dX8_bitsOf_1 ?_
  refine lv_dcmp X.1 X.2.1 dX8_bitsOf_2 ?_
  refine tp_i (y := (nI 0)) (cv_eq .l dv_0 dv_0 rfl) ?_
  refine z_if_ne (tgt := 8) X dX8_bitsOf_3 (by decide) (nI_toInt (by omega)) (fun c3 => ?_) (fun c3 => ?_)
  · exfalso; omega
  · refine lv_lconst (v := lN 0) X.1 X.2.1 dX8_bitsOf_6 (by decide) ?_
    exact PuL.ret X hr hlk dX8_bitsOf_7 (rfl)

set_option maxHeartbeats 4000000 in
set_option maxRecDepth 100000 in
theorem c_bitsP (g : G5) (x : UInt64) (c : Nat) (n : Nat) (hd : dfin x false c (-52 - (n : Int))) (hc : 2 ^ 52 ≤ c) (hn : n ≤ 141) : PuL yX8_bitsOf cX8_bitsOf 9 (some .long) 0 0 g [.double x] [] x.toInt64 := by
  refine PuL.of (by decide +kernel) (Nat.le_of_ble_eq_true rfl) ?_
  intro p_ l_ e_ S_ m_ args below meth co X hr hlk hP hK ls hl
  have X : CallFix p_ m_ co cX8_bitsOf 9 S_ args lw_all RX8 := X
  have hl : lv_has ls 9 [(0, .double x)] := hl
  refine lv_dload_n X.1 X.2.1 dX8_bitsOf_0 rfl (lv_at hl 0 rfl) ?_
  refine lv_dconst0 X.1 X.2.1 dX8_bitsOf_1 ?_
  refine lv_dcmp X.1 X.2.1 dX8_bitsOf_2 ?_
  refine tp_i (y := (nI 1)) (fin_pos .l hd hc) ?_
  refine z_if_ne (tgt := 8) X dX8_bitsOf_3 (by decide) (nI_toInt (by omega)) (fun c3 => ?_) (fun c3 => ?_)
  · refine lv_dload_n X.1 X.2.1 dX8_bitsOf_8 rfl (lv_at hl 0 rfl) ?_
    refine lv_dconst0 X.1 X.2.1 dX8_bitsOf_9 ?_
    refine lv_dcmp X.1 X.2.1 dX8_bitsOf_10 ?_
    refine tp_i (y := (nI 1)) (fin_pos .g hd hc) ?_
    refine z_if_ge (tgt := 19) X dX8_bitsOf_11 (by decide) (nI_toInt (by omega)) (fun c11 => ?_) (fun c11 => ?_)
    · refine lv_dload_n X.1 X.2.1 dX8_bitsOf_19 rfl (lv_at hl 0 rfl) ?_
      refine lv_dstore_n (lv' := [(2, .double x), (0, .double x)]) X.1 X.2.1 dX8_bitsOf_20 rfl hl (by decide) rfl (fun ls hl => ?_)
      refine lv_iconst (v := (nI 0)) X.1 X.2.1 dX8_bitsOf_21 (by decide) ?_
      refine tp_i (y := (iI (((n : Nat) : Int) - (n : Int)))) (by rw [Int.sub_self]; rfl) ?_
      refine lv_istore (lv' := [(4, .int (iI (((n : Nat) : Int) - (n : Int)))), (2, .double x), (0, .double x)]) X.1 X.2.1 dX8_bitsOf_22 hl (by decide) rfl (fun ls hl => ?_)
      have L24 : ∀ (r : Nat) (y : UInt64) (hrn : r ≤ n) (hy : dfin y false c (-52 - (r : Int))) (ls : Array Slot) (hl : lv_has ls 9 [(4, .int (iI (((r : Nat) : Int) - (n : Int)))), (2, .double y), (0, .double x)]), W p_ l_ e_ { frames := 0, cells := 0, slots := 0, locals := 0 } S_ m_ args below meth co S_.heap [] 0 0 (MQ below (vp_Sl (fun r => r = x.toInt64)) args S_ 0 0 (fun _ => False)) (F0 m_ 24 ls []) := by
        intro r
        induction r with
        | zero =>
          intro y hrn hy ls hl
          have hv := one_le hy hc
          refine lv_dload_n X.1 X.2.1 dX8_bitsOf_24 rfl (lv_at hl 1 rfl) ?_
          refine lv_dconst1 X.1 X.2.1 dX8_bitsOf_25 ?_
          refine lv_dcmp X.1 X.2.1 dX8_bitsOf_26 ?_
          refine z_if_ge (tgt := 50) X dX8_bitsOf_27 (by decide) rfl (fun c27 => ?_) (fun c27 => ?_)
          · refine lv_dload_n X.1 X.2.1 dX8_bitsOf_50 rfl (lv_at hl 2 rfl) ?_
            refine lv_dconst0 X.1 X.2.1 dX8_bitsOf_51 ?_
            refine lv_dcmp X.1 X.2.1 dX8_bitsOf_52 ?_
            refine tp_i (y := (nI 1)) (fin_pos .g hd hc) ?_
            refine z_if_ge (tgt := 62) X dX8_bitsOf_53 (by decide) (nI_toInt (by omega)) (fun c53 => ?_) (fun c53 => ?_)
            · refine lv_lconst (v := lN 0) X.1 X.2.1 dX8_bitsOf_62 (by decide) ?_
              refine lv_lstore (lv' := [(5, .long (lN 0)), (4, .int (iI (((0 : Nat) : Int) - (n : Int)))), (2, .double y), (0, .double x)]) X.1 X.2.1 dX8_bitsOf_63 hl (by decide) rfl (fun ls hl => ?_)
              refine lv_dload_n X.1 X.2.1 dX8_bitsOf_65 rfl (lv_at hl 2 rfl) ?_
              refine lv_dconst1 X.1 X.2.1 dX8_bitsOf_66 ?_
              refine lv_dsub X.1 X.2.1 dX8_bitsOf_67 ((tl_1 hy hc).num) ?_
              refine lv_ldc2d (v := (4841369599423283200)) X.1 X.2.1 X.2.2.2.1 (X.2.2.2.2 _ q907) dX8_bitsOf_68 ?_
              refine lv_dmul X.1 X.2.1 dX8_bitsOf_71 ((tl_2 hy hc).num) ?_
              refine lv_d2l X.1 X.2.1 dX8_bitsOf_72 ?_
              refine lv_lstore (lv' := [(7, .long (FP.d2l (FP.dmul (FP.dsub y FP.dconst1) (4841369599423283200)))), (5, .long (lN 0)), (4, .int (iI (((0 : Nat) : Int) - (n : Int)))), (2, .double y), (0, .double x)]) X.1 X.2.1 dX8_bitsOf_73 hl (by decide) rfl (fun ls hl => ?_)
              refine lv_lload X.1 X.2.1 dX8_bitsOf_75 (lv_at hl 1 rfl) ?_
              refine lv_iload X.1 X.2.1 dX8_bitsOf_77 (lv_at hl 2 rfl) ?_
              refine lv_sipush (v := (nI 1023)) X.1 X.2.1 dX8_bitsOf_79 (by decide) ?_
              refine lv_iadd X.1 X.2.1 dX8_bitsOf_82 ?_
              refine tp_i (y := (iI ((((0 : Nat) : Int) - (n : Int)) + ((1023 : Nat) : Int)))) (by first | rw [iI_add] | rw [nI_iI, nI_iI, iI_add] | rw [nI_iI, iI_add]) ?_
              refine tp_i (y := (nI (1023 - n))) (by rw [nI_iI]; congr 1; omega) ?_
              refine lv_i2l (v := lN (1023 - n)) X.1 X.2.1 dX8_bitsOf_83 (nI_l (by omega)) ?_
              refine lv_bipush (v := (nI 52)) X.1 X.2.1 dX8_bitsOf_84 (by decide) ?_
              refine lv_lshl X.1 X.2.1 dX8_bitsOf_86 rfl ?_
              refine tp_l (y := (lN (2 ^ 52 * (1023 - n)))) (shl_n52 (by omega)) ?_
              refine lv_lor X.1 X.2.1 dX8_bitsOf_87 ?_
              refine lv_lload X.1 X.2.1 dX8_bitsOf_88 (lv_at hl 0 rfl) ?_
              refine lv_lor X.1 X.2.1 dX8_bitsOf_90 ?_
              exact PuL.ret X hr hlk dX8_bitsOf_91 (bits_P hd hc hn hy)
            · exfalso; omega
          · exfalso; omega
        | succ r ih24 =>
          intro y hrn hy ls hl
          have hv := one_gt hy
          refine lv_dload_n X.1 X.2.1 dX8_bitsOf_24 rfl (lv_at hl 1 rfl) ?_
          refine lv_dconst1 X.1 X.2.1 dX8_bitsOf_25 ?_
          refine lv_dcmp X.1 X.2.1 dX8_bitsOf_26 ?_
          refine z_if_ge (tgt := 50) X dX8_bitsOf_27 (by decide) rfl (fun c27 => ?_) (fun c27 => ?_)
          · exfalso; omega
          · refine lv_iload X.1 X.2.1 dX8_bitsOf_30 (lv_at hl 0 rfl) ?_
            refine lv_sipush (v := (-1022)) X.1 X.2.1 dX8_bitsOf_32 (by decide) ?_
            refine z_icmp_le (tgt := 50) X dX8_bitsOf_35 (by decide) (iI_toInt (by omega) (by omega)) (show Int32.toInt ((-1022)) = (-1022) from rfl) (fun c35 => ?_) (fun c35 => ?_)
            · exfalso; omega
            · refine lv_dload_n X.1 X.2.1 dX8_bitsOf_38 rfl (lv_at hl 1 rfl) ?_
              refine lv_ldc2d (v := (4611686018427387904)) X.1 X.2.1 X.2.2.2.1 (X.2.2.2.2 _ q905) dX8_bitsOf_39 ?_
              refine lv_dmul X.1 X.2.1 dX8_bitsOf_42 (fp_num (tw_step hy hc (by omega))) ?_
              refine lv_dstore_n (lv' := [(2, .double (FP.dmul y (4611686018427387904))), (4, .int (iI ((((r + 1) : Nat) : Int) - (n : Int)))), (0, .double x)]) X.1 X.2.1 dX8_bitsOf_43 rfl hl (by decide) rfl (fun ls hl => ?_)
              refine lv_iinc (v := (iI (((r : Nat) : Int) - (n : Int)))) (lv' := [(4, .int (iI (((r : Nat) : Int) - (n : Int)))), (2, .double (FP.dmul y (4611686018427387904))), (0, .double x)]) X.1 X.2.1 dX8_bitsOf_44 hl (k := 1) rfl (iI_inc _ _ _ (by omega)) (by decide) rfl (fun ls hl => ?_)
              refine lv_goto (tgt := 24) X.1 X.2.1 dX8_bitsOf_47 (by decide) ?_
              exact ih24 (FP.dmul y (4611686018427387904)) (by omega) (tw_step hy hc (by omega)) ls (lv_sub hl [0, 1, 2] rfl)
      exact L24 n x (by omega) (hd) ls (lv_sub hl [0, 1, 2] rfl)
    · exfalso; omega
  · exfalso; omega

set_option maxHeartbeats 4000000 in
set_option maxRecDepth 100000 in
theorem c_bitsM (g : G5) (x : UInt64) (c : Nat) (n : Nat) (hd : dfin x true c (-52 - (n : Int))) (hc : 2 ^ 52 ≤ c) (hn : n ≤ 141) : PuL yX8_bitsOf cX8_bitsOf 9 (some .long) 0 0 g [.double x] [] x.toInt64 := by
  refine PuL.of (by decide +kernel) (Nat.le_of_ble_eq_true rfl) ?_
  intro p_ l_ e_ S_ m_ args below meth co X hr hlk hP hK ls hl
  have X : CallFix p_ m_ co cX8_bitsOf 9 S_ args lw_all RX8 := X
  have hl : lv_has ls 9 [(0, .double x)] := hl
  refine lv_dload_n X.1 X.2.1 dX8_bitsOf_0 rfl (lv_at hl 0 rfl) ?_
  refine lv_dconst0 X.1 X.2.1 dX8_bitsOf_1 ?_
  refine lv_dcmp X.1 X.2.1 dX8_bitsOf_2 ?_
  refine tp_i (y := (-1)) (fin_neg .l hd hc) ?_
  refine z_if_ne (tgt := 8) X dX8_bitsOf_3 (by decide) (show Int32.toInt ((-1)) = (-1) from rfl) (fun c3 => ?_) (fun c3 => ?_)
  · refine lv_dload_n X.1 X.2.1 dX8_bitsOf_8 rfl (lv_at hl 0 rfl) ?_
    refine lv_dconst0 X.1 X.2.1 dX8_bitsOf_9 ?_
    refine lv_dcmp X.1 X.2.1 dX8_bitsOf_10 ?_
    refine tp_i (y := (-1)) (fin_neg .g hd hc) ?_
    refine z_if_ge (tgt := 19) X dX8_bitsOf_11 (by decide) (show Int32.toInt ((-1)) = (-1) from rfl) (fun c11 => ?_) (fun c11 => ?_)
    · exfalso; omega
    · refine lv_dload_n X.1 X.2.1 dX8_bitsOf_14 rfl (lv_at hl 0 rfl) ?_
      refine lv_dneg X.1 X.2.1 dX8_bitsOf_15 ?_
      refine lv_goto (tgt := 20) X.1 X.2.1 dX8_bitsOf_16 (by decide) ?_
      refine lv_dstore_n (lv' := [(2, .double (FP.dneg x)), (0, .double x)]) X.1 X.2.1 dX8_bitsOf_20 rfl hl (by decide) rfl (fun ls hl => ?_)
      refine lv_iconst (v := (nI 0)) X.1 X.2.1 dX8_bitsOf_21 (by decide) ?_
      refine tp_i (y := (iI (((n : Nat) : Int) - (n : Int)))) (by rw [Int.sub_self]; rfl) ?_
      refine lv_istore (lv' := [(4, .int (iI (((n : Nat) : Int) - (n : Int)))), (2, .double (FP.dneg x)), (0, .double x)]) X.1 X.2.1 dX8_bitsOf_22 hl (by decide) rfl (fun ls hl => ?_)
      have L24 : ∀ (r : Nat) (y : UInt64) (hrn : r ≤ n) (hy : dfin y false c (-52 - (r : Int))) (ls : Array Slot) (hl : lv_has ls 9 [(4, .int (iI (((r : Nat) : Int) - (n : Int)))), (2, .double y), (0, .double x)]), W p_ l_ e_ { frames := 0, cells := 0, slots := 0, locals := 0 } S_ m_ args below meth co S_.heap [] 0 0 (MQ below (vp_Sl (fun r => r = x.toInt64)) args S_ 0 0 (fun _ => False)) (F0 m_ 24 ls []) := by
        intro r
        induction r with
        | zero =>
          intro y hrn hy ls hl
          have hv := one_le hy hc
          refine lv_dload_n X.1 X.2.1 dX8_bitsOf_24 rfl (lv_at hl 1 rfl) ?_
          refine lv_dconst1 X.1 X.2.1 dX8_bitsOf_25 ?_
          refine lv_dcmp X.1 X.2.1 dX8_bitsOf_26 ?_
          refine z_if_ge (tgt := 50) X dX8_bitsOf_27 (by decide) rfl (fun c27 => ?_) (fun c27 => ?_)
          · refine lv_dload_n X.1 X.2.1 dX8_bitsOf_50 rfl (lv_at hl 2 rfl) ?_
            refine lv_dconst0 X.1 X.2.1 dX8_bitsOf_51 ?_
            refine lv_dcmp X.1 X.2.1 dX8_bitsOf_52 ?_
            refine tp_i (y := (-1)) (fin_neg .g hd hc) ?_
            refine z_if_ge (tgt := 62) X dX8_bitsOf_53 (by decide) (show Int32.toInt ((-1)) = (-1) from rfl) (fun c53 => ?_) (fun c53 => ?_)
            · exfalso; omega
            · refine lv_ldc2 (v := (-9223372036854775808)) X.1 X.2.1 X.2.2.2.1 (X.2.2.2.2 _ q906) dX8_bitsOf_56 ?_
              refine lv_goto (tgt := 63) X.1 X.2.1 dX8_bitsOf_59 (by decide) ?_
              refine lv_lstore (lv' := [(5, .long (-9223372036854775808)), (4, .int (iI (((0 : Nat) : Int) - (n : Int)))), (2, .double y), (0, .double x)]) X.1 X.2.1 dX8_bitsOf_63 hl (by decide) rfl (fun ls hl => ?_)
              refine lv_dload_n X.1 X.2.1 dX8_bitsOf_65 rfl (lv_at hl 2 rfl) ?_
              refine lv_dconst1 X.1 X.2.1 dX8_bitsOf_66 ?_
              refine lv_dsub X.1 X.2.1 dX8_bitsOf_67 ((tl_1 hy hc).num) ?_
              refine lv_ldc2d (v := (4841369599423283200)) X.1 X.2.1 X.2.2.2.1 (X.2.2.2.2 _ q907) dX8_bitsOf_68 ?_
              refine lv_dmul X.1 X.2.1 dX8_bitsOf_71 ((tl_2 hy hc).num) ?_
              refine lv_d2l X.1 X.2.1 dX8_bitsOf_72 ?_
              refine lv_lstore (lv' := [(7, .long (FP.d2l (FP.dmul (FP.dsub y FP.dconst1) (4841369599423283200)))), (5, .long (-9223372036854775808)), (4, .int (iI (((0 : Nat) : Int) - (n : Int)))), (2, .double y), (0, .double x)]) X.1 X.2.1 dX8_bitsOf_73 hl (by decide) rfl (fun ls hl => ?_)
              refine lv_lload X.1 X.2.1 dX8_bitsOf_75 (lv_at hl 1 rfl) ?_
              refine lv_iload X.1 X.2.1 dX8_bitsOf_77 (lv_at hl 2 rfl) ?_
              refine lv_sipush (v := (nI 1023)) X.1 X.2.1 dX8_bitsOf_79 (by decide) ?_
              refine lv_iadd X.1 X.2.1 dX8_bitsOf_82 ?_
              refine tp_i (y := (iI ((((0 : Nat) : Int) - (n : Int)) + ((1023 : Nat) : Int)))) (by first | rw [iI_add] | rw [nI_iI, nI_iI, iI_add] | rw [nI_iI, iI_add]) ?_
              refine tp_i (y := (nI (1023 - n))) (by rw [nI_iI]; congr 1; omega) ?_
              refine lv_i2l (v := lN (1023 - n)) X.1 X.2.1 dX8_bitsOf_83 (nI_l (by omega)) ?_
              refine lv_bipush (v := (nI 52)) X.1 X.2.1 dX8_bitsOf_84 (by decide) ?_
              refine lv_lshl X.1 X.2.1 dX8_bitsOf_86 rfl ?_
              refine tp_l (y := (lN (2 ^ 52 * (1023 - n)))) (shl_n52 (by omega)) ?_
              refine lv_lor X.1 X.2.1 dX8_bitsOf_87 ?_
              refine lv_lload X.1 X.2.1 dX8_bitsOf_88 (lv_at hl 0 rfl) ?_
              refine lv_lor X.1 X.2.1 dX8_bitsOf_90 ?_
              exact PuL.ret X hr hlk dX8_bitsOf_91 (bits_M hd hc hn hy)
          · exfalso; omega
        | succ r ih24 =>
          intro y hrn hy ls hl
          have hv := one_gt hy
          refine lv_dload_n X.1 X.2.1 dX8_bitsOf_24 rfl (lv_at hl 1 rfl) ?_
          refine lv_dconst1 X.1 X.2.1 dX8_bitsOf_25 ?_
          refine lv_dcmp X.1 X.2.1 dX8_bitsOf_26 ?_
          refine z_if_ge (tgt := 50) X dX8_bitsOf_27 (by decide) rfl (fun c27 => ?_) (fun c27 => ?_)
          · exfalso; omega
          · refine lv_iload X.1 X.2.1 dX8_bitsOf_30 (lv_at hl 0 rfl) ?_
            refine lv_sipush (v := (-1022)) X.1 X.2.1 dX8_bitsOf_32 (by decide) ?_
            refine z_icmp_le (tgt := 50) X dX8_bitsOf_35 (by decide) (iI_toInt (by omega) (by omega)) (show Int32.toInt ((-1022)) = (-1022) from rfl) (fun c35 => ?_) (fun c35 => ?_)
            · exfalso; omega
            · refine lv_dload_n X.1 X.2.1 dX8_bitsOf_38 rfl (lv_at hl 1 rfl) ?_
              refine lv_ldc2d (v := (4611686018427387904)) X.1 X.2.1 X.2.2.2.1 (X.2.2.2.2 _ q905) dX8_bitsOf_39 ?_
              refine lv_dmul X.1 X.2.1 dX8_bitsOf_42 (fp_num (tw_step hy hc (by omega))) ?_
              refine lv_dstore_n (lv' := [(2, .double (FP.dmul y (4611686018427387904))), (4, .int (iI ((((r + 1) : Nat) : Int) - (n : Int)))), (0, .double x)]) X.1 X.2.1 dX8_bitsOf_43 rfl hl (by decide) rfl (fun ls hl => ?_)
              refine lv_iinc (v := (iI (((r : Nat) : Int) - (n : Int)))) (lv' := [(4, .int (iI (((r : Nat) : Int) - (n : Int)))), (2, .double (FP.dmul y (4611686018427387904))), (0, .double x)]) X.1 X.2.1 dX8_bitsOf_44 hl (k := 1) rfl (iI_inc _ _ _ (by omega)) (by decide) rfl (fun ls hl => ?_)
              refine lv_goto (tgt := 24) X.1 X.2.1 dX8_bitsOf_47 (by decide) ?_
              exact ih24 (FP.dmul y (4611686018427387904)) (by omega) (tw_step hy hc (by omega)) ls (lv_sub hl [0, 1, 2] rfl)
      exact L24 n (FP.dneg x) (by omega) (fp_neg hd hc) ls (lv_sub hl [0, 1, 2] rfl)
  · exfalso; omega

theorem c_bits (g : G5) (x : UInt64) (hx : acOk x) : PuL yX8_bitsOf cX8_bitsOf 9 (some .long) 0 0 g [.double x] [] x.toInt64 := by
  rcases hx with rfl | ⟨sg, c, q, hd, hc, h1, h2⟩
  · exact c_bits0 g
  · obtain ⟨n, hn⟩ := Int.eq_ofNat_of_zero_le (show 0 ≤ -52 - q by omega)
    rw [show q = -52 - (n : Int) by omega] at hd
    cases sg with
    | false => exact c_bitsP g x c n hd hc (by omega)
    | true => exact c_bitsM g x c n hd hc (by omega)

set_option maxHeartbeats 4000000 in
set_option maxRecDepth 100000 in
theorem c_isNaN (g : G5) (x : UInt64) (hx : acOk x) : PuI yJxe99ae_isNaN_b9ae7 cJxe99ae_isNaN_b9ae7 2 (some .boolean) 0 0 g [.double x] [] (bI false) := by
  refine PuI.ofF (by decide +kernel) (Nat.le_of_ble_eq_true rfl) ?_
  intro p_ l_ e_ S_ m_ args below meth co X hr hlk hP hK ls hl
  have X : CallFix p_ m_ co cJxe99ae_isNaN_b9ae7 2 S_ args lw_all RJxe99ae := X
  have hl : lv_has ls 2 [(0, .double x)] := hl
  refine lv_dload_n X.1 X.2.1 dJxe99ae_isNaN_b9ae7_0 rfl (lv_at hl 0 rfl) ?_
  refine lv_dload_n X.1 X.2.1 dJxe99ae_isNaN_b9ae7_1 rfl (lv_at hl 0 rfl) ?_
  refine lv_dcmp X.1 X.2.1 dJxe99ae_isNaN_b9ae7_2 ?_
  refine tp_i (y := (nI 0)) (hx.self .l) ?_
  refine z_if_eq (tgt := 10) X dJxe99ae_isNaN_b9ae7_3 (by decide) (nI_toInt (by omega)) (fun c3 => ?_) (fun c3 => ?_)
  · refine lv_iconst (v := (nI 0)) X.1 X.2.1 dJxe99ae_isNaN_b9ae7_10 (by decide) ?_
    exact PuI.ret X hr hlk dJxe99ae_isNaN_b9ae7_11 (bI_nar _) (rfl)
  · exfalso; omega

set_option maxHeartbeats 4000000 in
set_option maxRecDepth 100000 in
theorem c_d2lb (g : G5) (x : UInt64) (hx : acOk x) : PuL yJxe99ae_doubleToLongBits_ccdee cJxe99ae_doubleToLongBits_ccdee 2 (some .long) 1 21 g [.double x] [] x.toInt64 := by
  refine PuL.ofF (by decide +kernel) (Nat.le_of_ble_eq_true rfl) ?_
  intro p_ l_ e_ S_ m_ args below meth co X hr hlk hP hK ls hl
  have X : CallFix p_ m_ co cJxe99ae_doubleToLongBits_ccdee 2 S_ args lw_all RJxe99ae := X
  have hl : lv_has ls 2 [(0, .double x)] := hl
  refine lv_dload_n X.1 X.2.1 dJxe99ae_doubleToLongBits_ccdee_0 rfl (lv_at hl 0 rfl) ?_
  refine (c_isNaN g x (by assumption)).callS (rest := []) X dJxe99ae_doubleToLongBits_ccdee_1 q1428 tJxe99ae_isNaN_b9ae7 hK (hP.sub [] rfl) hl ⟨⟨Nat.le_of_ble_eq_true rfl, Nat.le_of_ble_eq_true rfl⟩, Nat.le_of_ble_eq_true rfl, Nat.le_of_ble_eq_true rfl⟩ rfl rfl (Nat.le_of_ble_eq_true rfl) ?_
  refine b_if_ne (tgt := 12) X dJxe99ae_doubleToLongBits_ccdee_4 (by decide) (fun c4 => ?_) (fun c4 => ?_)
  · exfalso; cases c4
  · refine lv_dload_n X.1 X.2.1 dJxe99ae_doubleToLongBits_ccdee_7 rfl (lv_at hl 0 rfl) ?_
    refine vn_d2l X.1 X.2.1 (X.2.2.1.trans hl.1.symm) X.2.2.2.1 (X.2.2.2.2 _ q1431) (X.2.2.2.2 _ q1433) (X.2.2.2.2 _ q1432) (X.2.2.2.2 _ q72) (Nat.le_of_ble_eq_true rfl) (Nat.le_of_ble_eq_true rfl) dJxe99ae_doubleToLongBits_ccdee_8 ?_
    exact PuL.ret X hr hlk dJxe99ae_doubleToLongBits_ccdee_11 (rfl)

set_option maxHeartbeats 4000000 in
set_option maxRecDepth 100000 in
theorem c_st_ac (g : G5) (a : Nat) (b : Nat) (s : List Nat) (f : Nat → Int32) (h : Nat) (p0 : Nat) (q0 : Nat) (hs : s.length ≤ 256) (hf : rep f s) (hb : bd s) (hh : h ≤ 256) (hp0 : p0 < s.length) (hq0 : q0 < s.length) (hpq : s.getD p0 0 ≠ s.getD q0 0) : PuD yX8_autocorrelation cX8_autocorrelation 13 (some .double) 3 64 g [.ref a, .int (nI h)] [(a, .inr (9, [.ref b, .int (nI s.length)])), (b, .inl (g.2.1, 256, .inl f))] (acQ s h) := by
  refine PuD.of (by decide +kernel) (Nat.le_of_ble_eq_true rfl) ?_
  intro p_ l_ e_ S_ m_ args below meth co X hr hlk hP hK ls hl
  have X : CallFix p_ m_ co cX8_autocorrelation 13 S_ args lw_all RX8 := X
  have hl : lv_has ls 13 [(0, .ref a), (1, .int (nI h))] := hl
  obtain ⟨m, hm, m2⟩ := ac_all hb hs hp0 hq0 hpq
  obtain ⟨n1, n2, n3, n4⟩ := ac_num hb hs hp0 hq0 hpq hm m2 h
  have hok := ac_ok hb hs hp0 hq0 hpq h
  have hpos := ac_pos hb hs hp0 hq0 hpq h
  refine lv_aload_n X.1 X.2.1 dX8_autocorrelation_0 rfl (lv_at hl 0 rfl) ?_
  refine (c_Word_size g a b s f).callV (rest := []) X dX8_autocorrelation_1 q872 tX10_size hK (hP.sub [0, 1] rfl) 0 9 rfl rfl rfl hl ⟨⟨Nat.le_of_ble_eq_true rfl, Nat.le_of_ble_eq_true rfl⟩, Nat.le_of_ble_eq_true rfl, Nat.le_of_ble_eq_true rfl⟩ rfl rfl (Nat.le_of_ble_eq_true rfl) ?_
  refine lv_iconst (v := (nI 1)) X.1 X.2.1 dX8_autocorrelation_4 (by decide) ?_
  refine z_icmp_ge (tgt := 10) X dX8_autocorrelation_5 (by decide) (nI_toInt (by omega)) (nI_toInt (by omega)) (fun c5 => ?_) (fun c5 => ?_)
  · refine lv_aload_n X.1 X.2.1 dX8_autocorrelation_10 rfl (lv_at hl 0 rfl) ?_
    refine (c_st_sum g a b s f (by omega) (by assumption) (by assumption)).callS (rest := []) X dX8_autocorrelation_11 q899 tX8_letterSum hK (hP.sub [0, 1] rfl) hl ⟨⟨Nat.le_of_ble_eq_true rfl, Nat.le_of_ble_eq_true rfl⟩, Nat.le_of_ble_eq_true rfl, Nat.le_of_ble_eq_true rfl⟩ rfl rfl (Nat.le_of_ble_eq_true rfl) ?_
    refine lv_i2d X.1 X.2.1 dX8_autocorrelation_14 ?_
    refine lv_aload_n X.1 X.2.1 dX8_autocorrelation_15 rfl (lv_at hl 0 rfl) ?_
    refine (c_Word_size g a b s f).callV (rest := [.double (FP.i2d (nI (smL s s.length 0 0)))]) X dX8_autocorrelation_16 q872 tX10_size hK (hP.sub [0, 1] rfl) 0 9 rfl rfl rfl hl ⟨⟨Nat.le_of_ble_eq_true rfl, Nat.le_of_ble_eq_true rfl⟩, Nat.le_of_ble_eq_true rfl, Nat.le_of_ble_eq_true rfl⟩ rfl rfl (Nat.le_of_ble_eq_true rfl) ?_
    refine lv_i2d X.1 X.2.1 dX8_autocorrelation_19 ?_
    refine lv_ddiv X.1 X.2.1 dX8_autocorrelation_20 (n1) ?_
    refine tp_d (y := (acM s)) (rfl) ?_
    refine lv_dstore_n (lv' := [(2, .double (acM s)), (0, .ref a), (1, .int (nI h))]) X.1 X.2.1 dX8_autocorrelation_21 rfl hl (by decide) rfl (fun ls hl => ?_)
    refine lv_dconst0 X.1 X.2.1 dX8_autocorrelation_22 ?_
    refine lv_dstore (lv' := [(4, .double FP.dconst0), (2, .double (acM s)), (0, .ref a), (1, .int (nI h))]) X.1 X.2.1 dX8_autocorrelation_23 hl (by decide) rfl (fun ls hl => ?_)
    refine lv_dconst0 X.1 X.2.1 dX8_autocorrelation_25 ?_
    refine lv_dstore (lv' := [(6, .double FP.dconst0), (4, .double FP.dconst0), (2, .double (acM s)), (0, .ref a), (1, .int (nI h))]) X.1 X.2.1 dX8_autocorrelation_26 hl (by decide) rfl (fun ls hl => ?_)
    refine lv_iconst (v := (nI 0)) X.1 X.2.1 dX8_autocorrelation_28 (by decide) ?_
    refine lv_istore (lv' := [(8, .int (nI 0)), (6, .double FP.dconst0), (4, .double FP.dconst0), (2, .double (acM s)), (0, .ref a), (1, .int (nI h))]) X.1 X.2.1 dX8_autocorrelation_29 hl (by decide) rfl (fun ls hl => ?_)
    have L31 : ∀ (r : Nat) (i : Nat) (h1 : i + r = s.length) (ls : Array Slot) (hl : lv_has ls 13 [(8, .int (nI i)), (6, .double ((acP s h i).2)), (4, .double ((acP s h i).1)), (2, .double (acM s)), (0, .ref a), (1, .int (nI h))]), W p_ l_ e_ { frames := 3, cells := 0, slots := 0, locals := 64 } S_ m_ args below meth co S_.heap [] 0 0 (MQ below (vp_Sd (fun r => r = (acQ s h))) args S_ 0 0 (fun _ => False)) (F0 m_ 31 ls []) := by
      intro r
      induction r with
      | zero =>
        intro i h1 ls hl
        refine lv_iload X.1 X.2.1 dX8_autocorrelation_31 (lv_at hl 0 rfl) ?_
        refine lv_aload_n X.1 X.2.1 dX8_autocorrelation_33 rfl (lv_at hl 4 rfl) ?_
        refine (c_Word_size g a b s f).callV (rest := [.int (nI i)]) X dX8_autocorrelation_34 q872 tX10_size hK (hP.sub [0, 1] rfl) 0 9 rfl rfl rfl hl ⟨⟨Nat.le_of_ble_eq_true rfl, Nat.le_of_ble_eq_true rfl⟩, Nat.le_of_ble_eq_true rfl, Nat.le_of_ble_eq_true rfl⟩ rfl rfl (Nat.le_of_ble_eq_true rfl) ?_
        refine z_icmp_ge (tgt := 90) X dX8_autocorrelation_37 (by decide) (nI_toInt (by omega)) (nI_toInt (by omega)) (fun c37 => ?_) (fun c37 => ?_)
        · refine lv_dload X.1 X.2.1 dX8_autocorrelation_90 (lv_at hl 1 rfl) ?_
          refine lv_dconst0 X.1 X.2.1 dX8_autocorrelation_92 ?_
          refine lv_dcmp X.1 X.2.1 dX8_autocorrelation_93 ?_
          refine tp_i (y := (nI 1)) (by rw [show i = s.length by omega]; exact hpos) ?_
          refine z_if_le (tgt := 105) X dX8_autocorrelation_94 (by decide) (nI_toInt (by omega)) (fun c94 => ?_) (fun c94 => ?_)
          · exfalso; omega
          · refine lv_dload X.1 X.2.1 dX8_autocorrelation_97 (lv_at hl 2 rfl) ?_
            refine lv_dload X.1 X.2.1 dX8_autocorrelation_99 (lv_at hl 1 rfl) ?_
            refine lv_ddiv X.1 X.2.1 dX8_autocorrelation_101 (by rw [show i = s.length by omega, acQ_P]; exact hok.num) ?_
            refine lv_goto (tgt := 106) X.1 X.2.1 dX8_autocorrelation_102 (by decide) ?_
            exact PuD.ret X hr hlk dX8_autocorrelation_106 (by rw [show i = s.length by omega, acQ_P])
        · exfalso; omega
      | succ r ih31 =>
        intro i h1 ls hl
        refine lv_iload X.1 X.2.1 dX8_autocorrelation_31 (lv_at hl 0 rfl) ?_
        refine lv_aload_n X.1 X.2.1 dX8_autocorrelation_33 rfl (lv_at hl 4 rfl) ?_
        refine (c_Word_size g a b s f).callV (rest := [.int (nI i)]) X dX8_autocorrelation_34 q872 tX10_size hK (hP.sub [0, 1] rfl) 0 9 rfl rfl rfl hl ⟨⟨Nat.le_of_ble_eq_true rfl, Nat.le_of_ble_eq_true rfl⟩, Nat.le_of_ble_eq_true rfl, Nat.le_of_ble_eq_true rfl⟩ rfl rfl (Nat.le_of_ble_eq_true rfl) ?_
        refine z_icmp_ge (tgt := 90) X dX8_autocorrelation_37 (by decide) (nI_toInt (by omega)) (nI_toInt (by omega)) (fun c37 => ?_) (fun c37 => ?_)
        · exfalso; omega
        · refine lv_aload_n X.1 X.2.1 dX8_autocorrelation_40 rfl (lv_at hl 4 rfl) ?_
          refine lv_iload X.1 X.2.1 dX8_autocorrelation_41 (lv_at hl 0 rfl) ?_
          refine (c_Word_atN g a b s f i (by omega) (by assumption) (by omega)).callV (rest := []) X dX8_autocorrelation_43 q871 tX10_at hK (hP.sub [0, 1] rfl) 0 9 rfl rfl rfl hl ⟨⟨Nat.le_of_ble_eq_true rfl, Nat.le_of_ble_eq_true rfl⟩, Nat.le_of_ble_eq_true rfl, Nat.le_of_ble_eq_true rfl⟩ rfl rfl (Nat.le_of_ble_eq_true rfl) ?_
          refine lv_i2d X.1 X.2.1 dX8_autocorrelation_46 ?_
          refine lv_dload_n X.1 X.2.1 dX8_autocorrelation_47 rfl (lv_at hl 3 rfl) ?_
          refine lv_dsub X.1 X.2.1 dX8_autocorrelation_48 (n2 i) ?_
          refine tp_d (y := (acX s i)) (rfl) ?_
          refine lv_dstore (lv' := [(9, .double (acX s i)), (8, .int (nI i)), (6, .double ((acP s h i).2)), (4, .double ((acP s h i).1)), (2, .double (acM s)), (0, .ref a), (1, .int (nI h))]) X.1 X.2.1 dX8_autocorrelation_49 hl (by decide) rfl (fun ls hl => ?_)
          refine lv_aload_n X.1 X.2.1 dX8_autocorrelation_51 rfl (lv_at hl 5 rfl) ?_
          refine lv_iload X.1 X.2.1 dX8_autocorrelation_52 (lv_at hl 1 rfl) ?_
          refine lv_iload_n X.1 X.2.1 dX8_autocorrelation_54 rfl (lv_at hl 6 rfl) ?_
          refine n_add X dX8_autocorrelation_55 ?_
          refine (c_Word_arN g a b s f (i + h) (by omega) (by assumption) (by omega) (by omega)).callV (rest := []) X dX8_autocorrelation_56 q873 tX10_around hK (hP.sub [0, 1] rfl) 0 9 rfl rfl rfl hl ⟨⟨Nat.le_of_ble_eq_true rfl, Nat.le_of_ble_eq_true rfl⟩, Nat.le_of_ble_eq_true rfl, Nat.le_of_ble_eq_true rfl⟩ rfl rfl (Nat.le_of_ble_eq_true rfl) ?_
          refine lv_i2d X.1 X.2.1 dX8_autocorrelation_59 ?_
          refine lv_dload_n X.1 X.2.1 dX8_autocorrelation_60 rfl (lv_at hl 4 rfl) ?_
          refine lv_dsub X.1 X.2.1 dX8_autocorrelation_61 (n2 _) ?_
          refine tp_d (y := (acX s ((i + h) % s.length))) (rfl) ?_
          refine lv_dstore (lv' := [(11, .double (acX s ((i + h) % s.length))), (9, .double (acX s i)), (8, .int (nI i)), (6, .double ((acP s h i).2)), (4, .double ((acP s h i).1)), (2, .double (acM s)), (0, .ref a), (1, .int (nI h))]) X.1 X.2.1 dX8_autocorrelation_62 hl (by decide) rfl (fun ls hl => ?_)
          refine lv_dload X.1 X.2.1 dX8_autocorrelation_64 (lv_at hl 4 rfl) ?_
          refine lv_dload X.1 X.2.1 dX8_autocorrelation_66 (lv_at hl 1 rfl) ?_
          refine lv_dload X.1 X.2.1 dX8_autocorrelation_68 (lv_at hl 0 rfl) ?_
          refine lv_dmul X.1 X.2.1 dX8_autocorrelation_70 (n3 _ _) ?_
          refine lv_dadd X.1 X.2.1 dX8_autocorrelation_71 ((n4 i (by omega)).1) ?_
          refine tp_d (y := ((acP s h (i + 1)).1)) (rfl) ?_
          refine lv_dstore (lv' := [(4, .double ((acP s h (i + 1)).1)), (11, .double (acX s ((i + h) % s.length))), (9, .double (acX s i)), (8, .int (nI i)), (6, .double ((acP s h i).2)), (2, .double (acM s)), (0, .ref a), (1, .int (nI h))]) X.1 X.2.1 dX8_autocorrelation_72 hl (by decide) rfl (fun ls hl => ?_)
          refine lv_dload X.1 X.2.1 dX8_autocorrelation_74 (lv_at hl 4 rfl) ?_
          refine lv_dload X.1 X.2.1 dX8_autocorrelation_76 (lv_at hl 2 rfl) ?_
          refine lv_dload X.1 X.2.1 dX8_autocorrelation_78 (lv_at hl 2 rfl) ?_
          refine lv_dmul X.1 X.2.1 dX8_autocorrelation_80 (n3 _ _) ?_
          refine lv_dadd X.1 X.2.1 dX8_autocorrelation_81 ((n4 i (by omega)).2) ?_
          refine tp_d (y := ((acP s h (i + 1)).2)) (rfl) ?_
          refine lv_dstore (lv' := [(6, .double ((acP s h (i + 1)).2)), (4, .double ((acP s h (i + 1)).1)), (11, .double (acX s ((i + h) % s.length))), (9, .double (acX s i)), (8, .int (nI i)), (2, .double (acM s)), (0, .ref a), (1, .int (nI h))]) X.1 X.2.1 dX8_autocorrelation_82 hl (by decide) rfl (fun ls hl => ?_)
          refine lv_iinc (v := (nI (i + 1))) (lv' := [(8, .int (nI (i + 1))), (6, .double ((acP s h (i + 1)).2)), (4, .double ((acP s h (i + 1)).1)), (11, .double (acX s ((i + h) % s.length))), (9, .double (acX s i)), (2, .double (acM s)), (0, .ref a), (1, .int (nI h))]) X.1 X.2.1 dX8_autocorrelation_84 hl (k := 4) rfl (nI_inc _) (by decide) rfl (fun ls hl => ?_)
          refine lv_goto (tgt := 31) X.1 X.2.1 dX8_autocorrelation_87 (by decide) ?_
          exact ih31 (i + 1) (by omega) ls (lv_sub hl [0, 1, 2, 5, 6, 7] rfl)
    exact L31 s.length 0 (by omega) ls (lv_sub hl [0, 1, 2, 3, 4, 5] rfl)
  · exfalso; omega

set_option maxHeartbeats 4000000 in
set_option maxRecDepth 100000 in
theorem b_autocorrelationBits (g : G5) (b0 : Nat) (sa : Nat) (qa : Nat) (da : Nat) (ka : Nat) (o : Nat) (ca : Nat) (pa : Nat) (ha : Nat) (na : Nat) (ta : Nat) (ua : Nat) (qb : Nat) (s : List Nat) (f : Nat → Int32) (x : Int32) (hs : s.length ≤ 256) (hf : rep f s) (hb : bd s) : PuL yX11_autocorrelationBits cX11_autocorrelationBits 2 (some .long) 4 96 g [.ref b0, .int x] [(b0, .inr (10, [.ref sa, .ref qa, .ref da, .ref ka, .ref o, .ref ca, .ref pa, .ref ha, .ref na, .ref ta, .ref ua])), (qa, .inr (9, [.ref qb, .int (nI s.length)])), (qb, .inl (g.2.1, 256, .inl f))] (a_ac s x) := by
  refine PuL.of (by decide +kernel) (Nat.le_of_ble_eq_true rfl) ?_
  intro p_ l_ e_ S_ m_ args below meth co X hr hlk hP hK ls hl
  have X : CallFix p_ m_ co cX11_autocorrelationBits 2 S_ args lw_all RX11 := X
  have hl : lv_has ls 2 [(0, .ref b0), (1, .int x)] := hl
  refine lv_iload_n X.1 X.2.1 dX11_autocorrelationBits_0 rfl (lv_at hl 1 rfl) ?_
  refine z_if_lt (tgt := 11) X dX11_autocorrelationBits_1 (by decide) rfl (fun c1 => ?_) (fun c1 => ?_)
  · refine lv_ldc2 (v := (-1)) X.1 X.2.1 X.2.2.2.1 (X.2.2.2.2 _ q892) dX11_autocorrelationBits_11 ?_
    exact PuL.ret X hr hlk dX11_autocorrelationBits_14 (by unfold a_ac; rw [if_neg (by omega)])
  · refine lv_iload_n X.1 X.2.1 dX11_autocorrelationBits_4 rfl (lv_at hl 1 rfl) ?_
    refine lv_sipush (v := (nI 256)) X.1 X.2.1 dX11_autocorrelationBits_5 (by decide) ?_
    refine z_icmp_le (tgt := 15) X dX11_autocorrelationBits_8 (by decide) rfl (nI_toInt (by omega)) (fun c8 => ?_) (fun c8 => ?_)
    · obtain ⟨j, hj, rfl⟩ := z_nat (x := x) (by omega)
      have hxi := nI_toInt hj
      refine lv_aload_n X.1 X.2.1 dX11_autocorrelationBits_15 rfl (lv_at hl 0 rfl) ?_
      refine va_get (D := g.1) (ci := 10) (v := .ref qa) (C := RX11) (T := TX11) (N := 11) X.1 X.2.1 X.2.2.2.2 iwX11 X.2.2.2.1 hK hP 0 rfl rfl 1 (by decide) (X.2.2.2.2 _ q237) (fun _ h9 => h9) rfl dX11_autocorrelationBits_16 ?_
      refine (c_Word_size g qa qb s f).callV (rest := []) X dX11_autocorrelationBits_19 q324 tX10_size hK (hP.sub [1, 2] rfl) 0 9 rfl rfl rfl hl ⟨⟨Nat.le_of_ble_eq_true rfl, Nat.le_of_ble_eq_true rfl⟩, Nat.le_of_ble_eq_true rfl, Nat.le_of_ble_eq_true rfl⟩ rfl rfl (Nat.le_of_ble_eq_true rfl) ?_
      refine lv_iconst (v := (nI 1)) X.1 X.2.1 dX11_autocorrelationBits_22 (by decide) ?_
      refine z_icmp_ge (tgt := 30) X dX11_autocorrelationBits_23 (by decide) (nI_toInt (by omega)) (nI_toInt (by omega)) (fun c23 => ?_) (fun c23 => ?_)
      · refine lv_aload_n X.1 X.2.1 dX11_autocorrelationBits_30 rfl (lv_at hl 0 rfl) ?_
        refine va_get (D := g.1) (ci := 10) (v := .ref qa) (C := RX11) (T := TX11) (N := 11) X.1 X.2.1 X.2.2.2.2 iwX11 X.2.2.2.1 hK hP 0 rfl rfl 1 (by decide) (X.2.2.2.2 _ q237) (fun _ h9 => h9) rfl dX11_autocorrelationBits_31 ?_
        refine (c_Word_isConst g qa qb s f (by omega) (by assumption) (by assumption)).callV (rest := []) X dX11_autocorrelationBits_34 q894 tX10_isConstant hK (hP.sub [1, 2] rfl) 0 9 rfl rfl rfl hl ⟨⟨Nat.le_of_ble_eq_true rfl, Nat.le_of_ble_eq_true rfl⟩, Nat.le_of_ble_eq_true rfl, Nat.le_of_ble_eq_true rfl⟩ rfl rfl (Nat.le_of_ble_eq_true rfl) ?_
        refine b_if_eq (tgt := 44) X dX11_autocorrelationBits_37 (by decide) (fun c37 => ?_) (fun c37 => ?_)
        · obtain ⟨p0, q0, hp0, hq0, hpq⟩ := rep_ne c37
          refine lv_aload_n X.1 X.2.1 dX11_autocorrelationBits_44 rfl (lv_at hl 0 rfl) ?_
          refine va_get (D := g.1) (ci := 10) (v := .ref qa) (C := RX11) (T := TX11) (N := 11) X.1 X.2.1 X.2.2.2.2 iwX11 X.2.2.2.1 hK hP 0 rfl rfl 1 (by decide) (X.2.2.2.2 _ q237) (fun _ h9 => h9) rfl dX11_autocorrelationBits_45 ?_
          refine lv_iload_n X.1 X.2.1 dX11_autocorrelationBits_48 rfl (lv_at hl 1 rfl) ?_
          refine (c_st_ac g qa qb s f j p0 q0 (by omega) (by assumption) (by assumption) (by omega) (by assumption) (by assumption) (by assumption)).callS (rest := []) X dX11_autocorrelationBits_49 q896 tX8_autocorrelation hK (hP.sub [1, 2] rfl) hl ⟨⟨Nat.le_of_ble_eq_true rfl, Nat.le_of_ble_eq_true rfl⟩, Nat.le_of_ble_eq_true rfl, Nat.le_of_ble_eq_true rfl⟩ rfl rfl (Nat.le_of_ble_eq_true rfl) ?_
          refine (c_bits g (acQ s j) (ac_ok hb hs hp0 hq0 hpq j)).callS (rest := []) X dX11_autocorrelationBits_52 q902 tX8_bitsOf hK (hP.sub [] rfl) hl ⟨⟨Nat.le_of_ble_eq_true rfl, Nat.le_of_ble_eq_true rfl⟩, Nat.le_of_ble_eq_true rfl, Nat.le_of_ble_eq_true rfl⟩ rfl rfl (Nat.le_of_ble_eq_true rfl) ?_
          exact PuL.ret X hr hlk dX11_autocorrelationBits_55 (by unfold a_ac; rw [if_pos (by omega), if_neg (by omega), c37, xN_N hj]; rfl)
        · refine lv_ldc2 (v := (-8)) X.1 X.2.1 X.2.2.2.1 (X.2.2.2.2 _ q895) dX11_autocorrelationBits_40 ?_
          exact PuL.ret X hr hlk dX11_autocorrelationBits_43 (by unfold a_ac; rw [if_pos (by omega), if_neg (by omega), c37]; rfl)
      · refine lv_ldc2 (v := (-3)) X.1 X.2.1 X.2.2.2.1 (X.2.2.2.2 _ q893) dX11_autocorrelationBits_26 ?_
        exact PuL.ret X hr hlk dX11_autocorrelationBits_29 (by unfold a_ac; rw [if_pos (by omega), if_pos (by omega)])
    · refine lv_ldc2 (v := (-1)) X.1 X.2.1 X.2.2.2.1 (X.2.2.2.2 _ q892) dX11_autocorrelationBits_11 ?_
      exact PuL.ret X hr hlk dX11_autocorrelationBits_14 (by unfold a_ac; rw [if_neg (by omega)])

set_option maxHeartbeats 4000000 in
set_option maxRecDepth 100000 in
theorem m_autocorrelationBits (g : G5) (m0 : Nat) (lt : Nat) (er : Nat) (el : Nat) (cm_ : Nat) (sv : Nat) (md : Nat) (fmm : Nat) (lc : Nat) (lz : Nat) (af : Nat) (pt_ : Nat) (oc : Nat) (ty_ : Nat) (sz_ : Nat) (em : Nat) (k : Nat) (n : Nat) (s : List Nat) (h : List (List Nat)) (c : List Nat) (tk : Bool) (k0 : Nat) (n0 : Nat) (s0 : List Nat) (z : List Nat) (p : List Int) (f : Nat → Int32) (x : Int32) (hs : s.length ≤ 256) (hf : rep f s) (hb : bd s) : PuL yX12_autocorrelationBits cX12_autocorrelationBits 12 (some .long) 2 47 g [.ref m0, .int x] [(m0, .inr (11, [.int (nI k), .int (nI n), .ref lt, .int (nI s.length), .ref er, .ref el, .int (nI h.length), .ref cm_, .int (nI c.length), .int (bI tk), .int (nI k0), .int (nI n0), .ref sv, .int (nI s0.length), .ref md, .int (nI z.length), .ref fmm, .ref lc, .ref lz, .ref af, .ref pt_, .int (nI p.length), .ref oc, .ref ty_, .ref sz_, .ref em])), (lt, .inl (g.2.1, 256, .inl f))] (a_ac s x) := by
  refine PuL.of (by decide +kernel) (Nat.le_of_ble_eq_true rfl) ?_
  intro p_ l_ e_ S_ m_ args below meth co X hr hlk hP hK ls hl
  have X : CallFix p_ m_ co cX12_autocorrelationBits 12 S_ args lw_all RX12 := X
  have hl : lv_has ls 12 [(0, .ref m0), (1, .int x)] := hl
  refine lv_iload_n X.1 X.2.1 dX12_autocorrelationBits_0 rfl (lv_at hl 1 rfl) ?_
  refine lv_iconst (v := (nI 0)) X.1 X.2.1 dX12_autocorrelationBits_1 (by decide) ?_
  refine lv_sipush (v := (nI 256)) X.1 X.2.1 dX12_autocorrelationBits_2 (by decide) ?_
  refine (c_inN g x 0 256 (by omega) (by omega)).callS (rest := []) X dX12_autocorrelationBits_5 q1103 tX12_in hK (hP.sub [] rfl) hl ⟨⟨Nat.le_of_ble_eq_true rfl, Nat.le_of_ble_eq_true rfl⟩, Nat.le_of_ble_eq_true rfl, Nat.le_of_ble_eq_true rfl⟩ rfl rfl (Nat.le_of_ble_eq_true rfl) ?_
  refine b_if_ne (tgt := 15) X dX12_autocorrelationBits_8 (by decide) (fun c8 => ?_) (fun c8 => ?_)
  · have h8 := of_decide_eq_true c8
    obtain ⟨j, hj, rfl⟩ := z_nat (x := x) (by omega)
    have hxi := nI_toInt hj
    refine lv_aload_n X.1 X.2.1 dX12_autocorrelationBits_15 rfl (lv_at hl 0 rfl) ?_
    refine va_get (D := g.1) (ci := 11) (v := .int (nI s.length)) (C := RX12) (T := TX12) (N := 26) X.1 X.2.1 X.2.2.2.2 iwX12 X.2.2.2.1 hK hP 0 rfl rfl 3 (by decide) (X.2.2.2.2 _ q1023) (fun _ h9 => h9) rfl dX12_autocorrelationBits_16 ?_
    refine z_if_ne (tgt := 26) X dX12_autocorrelationBits_19 (by decide) (nI_toInt (by omega)) (fun c19 => ?_) (fun c19 => ?_)
    · refine lv_aload_n X.1 X.2.1 dX12_autocorrelationBits_26 rfl (lv_at hl 0 rfl) ?_
      refine (m_isConstant g m0 lt er el cm_ sv md fmm lc lz af pt_ oc ty_ sz_ em k n s h c tk k0 n0 s0 z p f (by omega) (by assumption) (by assumption)).callV (rest := []) X dX12_autocorrelationBits_27 q1409 tX12_isConstant hK (hP.sub [0, 1] rfl) 0 11 rfl rfl rfl hl ⟨⟨Nat.le_of_ble_eq_true rfl, Nat.le_of_ble_eq_true rfl⟩, Nat.le_of_ble_eq_true rfl, Nat.le_of_ble_eq_true rfl⟩ rfl rfl (Nat.le_of_ble_eq_true rfl) ?_
      refine b_if_eq (tgt := 37) X dX12_autocorrelationBits_30 (by decide) (fun c30 => ?_) (fun c30 => ?_)
      · obtain ⟨p0, q0, hp0, hq0, hpq⟩ := rep_ne c30
        have hsl := smL_le hb s.length 0 0
        obtain ⟨m, hm, m2⟩ := ac_all hb hs hp0 hq0 hpq
        obtain ⟨n1, n2, n3, n4⟩ := ac_num hb hs hp0 hq0 hpq hm m2 j
        have hok := ac_ok hb hs hp0 hq0 hpq j
        refine lv_iconst (v := (nI 0)) X.1 X.2.1 dX12_autocorrelationBits_37 (by decide) ?_
        refine lv_istore_n (lv' := [(2, .int (nI 0)), (0, .ref m0), (1, .int (nI j))]) X.1 X.2.1 dX12_autocorrelationBits_38 rfl hl (by decide) rfl (fun ls hl => ?_)
        refine lv_iconst (v := (nI 0)) X.1 X.2.1 dX12_autocorrelationBits_39 (by decide) ?_
        refine lv_istore_n (lv' := [(3, .int (nI 0)), (2, .int (nI 0)), (0, .ref m0), (1, .int (nI j))]) X.1 X.2.1 dX12_autocorrelationBits_40 rfl hl (by decide) rfl (fun ls hl => ?_)
        have L41 : ∀ (r : Nat) (v : Nat) (i : Nat) (h1 : i + r = s.length) (hq : smL s r i v = smL s s.length 0 0) (ls : Array Slot) (hl : lv_has ls 12 [(3, .int (nI i)), (2, .int (nI v)), (0, .ref m0), (1, .int (nI j))]), W p_ l_ e_ { frames := 2, cells := 0, slots := 0, locals := 47 } S_ m_ args below meth co S_.heap [] 0 0 (MQ below (vp_Sl (fun r => r = (a_ac s (nI j)))) args S_ 0 0 (fun _ => False)) (F0 m_ 41 ls []) := by
          intro r
          induction r with
          | zero =>
            intro v i h1 hq ls hl
            refine lv_iload_n X.1 X.2.1 dX12_autocorrelationBits_41 rfl (lv_at hl 0 rfl) ?_
            refine lv_aload_n X.1 X.2.1 dX12_autocorrelationBits_42 rfl (lv_at hl 2 rfl) ?_
            refine va_get (D := g.1) (ci := 11) (v := .int (nI s.length)) (C := RX12) (T := TX12) (N := 26) X.1 X.2.1 X.2.2.2.2 iwX12 X.2.2.2.1 hK hP 0 rfl rfl 3 (by decide) (X.2.2.2.2 _ q1023) (fun _ h9 => h9) rfl dX12_autocorrelationBits_43 ?_
            refine z_icmp_ge (tgt := 64) X dX12_autocorrelationBits_46 (by decide) (nI_toInt (by omega)) (nI_toInt (by omega)) (fun c46 => ?_) (fun c46 => ?_)
            · refine lv_iload_n X.1 X.2.1 dX12_autocorrelationBits_64 rfl (lv_at hl 1 rfl) ?_
              refine tp_i (y := (nI (smL s s.length 0 0))) (congrArg nI hq) ?_
              refine lv_i2d X.1 X.2.1 dX12_autocorrelationBits_65 ?_
              refine lv_aload_n X.1 X.2.1 dX12_autocorrelationBits_66 rfl (lv_at hl 2 rfl) ?_
              refine va_get (D := g.1) (ci := 11) (v := .int (nI s.length)) (C := RX12) (T := TX12) (N := 26) X.1 X.2.1 X.2.2.2.2 iwX12 X.2.2.2.1 hK hP 0 rfl rfl 3 (by decide) (X.2.2.2.2 _ q1023) (fun _ h9 => h9) rfl dX12_autocorrelationBits_67 ?_
              refine lv_i2d X.1 X.2.1 dX12_autocorrelationBits_70 ?_
              refine lv_ddiv X.1 X.2.1 dX12_autocorrelationBits_71 (n1) ?_
              refine tp_d (y := (acM s)) (rfl) ?_
              refine lv_dstore_n (lv' := [(3, .double (acM s)), (2, .int (nI v)), (0, .ref m0), (1, .int (nI j))]) X.1 X.2.1 dX12_autocorrelationBits_72 rfl hl (by decide) rfl (fun ls hl => ?_)
              refine lv_dconst0 X.1 X.2.1 dX12_autocorrelationBits_73 ?_
              refine lv_dstore (lv' := [(5, .double FP.dconst0), (3, .double (acM s)), (2, .int (nI v)), (0, .ref m0), (1, .int (nI j))]) X.1 X.2.1 dX12_autocorrelationBits_74 hl (by decide) rfl (fun ls hl => ?_)
              refine lv_dconst0 X.1 X.2.1 dX12_autocorrelationBits_76 ?_
              refine lv_dstore (lv' := [(7, .double FP.dconst0), (5, .double FP.dconst0), (3, .double (acM s)), (2, .int (nI v)), (0, .ref m0), (1, .int (nI j))]) X.1 X.2.1 dX12_autocorrelationBits_77 hl (by decide) rfl (fun ls hl => ?_)
              refine lv_iconst (v := (nI 0)) X.1 X.2.1 dX12_autocorrelationBits_79 (by decide) ?_
              refine lv_istore (lv' := [(9, .int (nI 0)), (7, .double FP.dconst0), (5, .double FP.dconst0), (3, .double (acM s)), (2, .int (nI v)), (0, .ref m0), (1, .int (nI j))]) X.1 X.2.1 dX12_autocorrelationBits_80 hl (by decide) rfl (fun ls hl => ?_)
              have L82 : ∀ (r2 : Nat) (i : Nat) (h1 : i + r2 = s.length) (ls : Array Slot) (hl : lv_has ls 12 [(9, .int (nI i)), (7, .double ((acP s j i).2)), (5, .double ((acP s j i).1)), (3, .double (acM s)), (2, .int (nI v)), (0, .ref m0), (1, .int (nI j))]), W p_ l_ e_ { frames := 2, cells := 0, slots := 0, locals := 47 } S_ m_ args below meth co S_.heap [] 0 0 (MQ below (vp_Sl (fun r => r = (a_ac s (nI j)))) args S_ 0 0 (fun _ => False)) (F0 m_ 82 ls []) := by
                intro r2
                induction r2 with
                | zero =>
                  intro i h1 ls hl
                  refine lv_iload X.1 X.2.1 dX12_autocorrelationBits_82 (lv_at hl 0 rfl) ?_
                  refine lv_aload_n X.1 X.2.1 dX12_autocorrelationBits_84 rfl (lv_at hl 5 rfl) ?_
                  refine va_get (D := g.1) (ci := 11) (v := .int (nI s.length)) (C := RX12) (T := TX12) (N := 26) X.1 X.2.1 X.2.2.2.2 iwX12 X.2.2.2.1 hK hP 0 rfl rfl 3 (by decide) (X.2.2.2.2 _ q1023) (fun _ h9 => h9) rfl dX12_autocorrelationBits_85 ?_
                  refine z_icmp_ge (tgt := 139) X dX12_autocorrelationBits_88 (by decide) (nI_toInt (by omega)) (nI_toInt (by omega)) (fun c88 => ?_) (fun c88 => ?_)
                  · refine lv_dload X.1 X.2.1 dX12_autocorrelationBits_139 (lv_at hl 2 rfl) ?_
                    refine lv_dload X.1 X.2.1 dX12_autocorrelationBits_141 (lv_at hl 1 rfl) ?_
                    refine lv_ddiv X.1 X.2.1 dX12_autocorrelationBits_143 (by rw [show i = s.length by omega, acQ_P]; exact hok.num) ?_
                    refine tp_d (y := (acQ s j)) (by rw [show i = s.length by omega, acQ_P]) ?_
                    refine (c_d2lb g (acQ s j) (by assumption)).callS (rest := []) X dX12_autocorrelationBits_144 q1425 tJxe99ae_doubleToLongBits_ccdee hK (hP.sub [] rfl) hl ⟨⟨Nat.le_of_ble_eq_true rfl, Nat.le_of_ble_eq_true rfl⟩, Nat.le_of_ble_eq_true rfl, Nat.le_of_ble_eq_true rfl⟩ rfl rfl (Nat.le_of_ble_eq_true rfl) ?_
                    exact PuL.ret X hr hlk dX12_autocorrelationBits_147 (by unfold a_ac; rw [if_pos (by omega), if_neg (by omega), c30, xN_N hj]; rfl)
                  · exfalso; omega
                | succ r2 ih82 =>
                  intro i h1 ls hl
                  refine lv_iload X.1 X.2.1 dX12_autocorrelationBits_82 (lv_at hl 0 rfl) ?_
                  refine lv_aload_n X.1 X.2.1 dX12_autocorrelationBits_84 rfl (lv_at hl 5 rfl) ?_
                  refine va_get (D := g.1) (ci := 11) (v := .int (nI s.length)) (C := RX12) (T := TX12) (N := 26) X.1 X.2.1 X.2.2.2.2 iwX12 X.2.2.2.1 hK hP 0 rfl rfl 3 (by decide) (X.2.2.2.2 _ q1023) (fun _ h9 => h9) rfl dX12_autocorrelationBits_85 ?_
                  refine z_icmp_ge (tgt := 139) X dX12_autocorrelationBits_88 (by decide) (nI_toInt (by omega)) (nI_toInt (by omega)) (fun c88 => ?_) (fun c88 => ?_)
                  · exfalso; omega
                  · refine lv_aload_n X.1 X.2.1 dX12_autocorrelationBits_91 rfl (lv_at hl 5 rfl) ?_
                    refine va_get (D := g.1) (ci := 11) (v := .ref lt) (C := RX12) (T := TX12) (N := 26) X.1 X.2.1 X.2.2.2.2 iwX12 X.2.2.2.1 hK hP 0 rfl rfl 2 (by decide) (X.2.2.2.2 _ q1022) (fun _ h9 => h9) rfl dX12_autocorrelationBits_92 ?_
                    refine lv_iload X.1 X.2.1 dX12_autocorrelationBits_95 (lv_at hl 0 rfl) ?_
                    refine n_iald X hK hP 1 0 rfl rfl (by omega) (by decide) dX12_autocorrelationBits_97 ?_
                    refine tp_i (y := (nI (s.getD i 0))) (hf i (by omega)) ?_
                    refine lv_i2d X.1 X.2.1 dX12_autocorrelationBits_98 ?_
                    refine lv_dload_n X.1 X.2.1 dX12_autocorrelationBits_99 rfl (lv_at hl 3 rfl) ?_
                    refine lv_dsub X.1 X.2.1 dX12_autocorrelationBits_100 (n2 i) ?_
                    refine tp_d (y := (acX s i)) (rfl) ?_
                    refine lv_dstore (lv' := [(10, .double (acX s i)), (9, .int (nI i)), (7, .double ((acP s j i).2)), (5, .double ((acP s j i).1)), (3, .double (acM s)), (2, .int (nI v)), (0, .ref m0), (1, .int (nI j))]) X.1 X.2.1 dX12_autocorrelationBits_101 hl (by decide) rfl (fun ls hl => ?_)
                    refine lv_dload X.1 X.2.1 dX12_autocorrelationBits_103 (lv_at hl 3 rfl) ?_
                    refine lv_dload X.1 X.2.1 dX12_autocorrelationBits_105 (lv_at hl 0 rfl) ?_
                    refine lv_aload_n X.1 X.2.1 dX12_autocorrelationBits_107 rfl (lv_at hl 6 rfl) ?_
                    refine lv_iload X.1 X.2.1 dX12_autocorrelationBits_108 (lv_at hl 1 rfl) ?_
                    refine lv_iload_n X.1 X.2.1 dX12_autocorrelationBits_110 rfl (lv_at hl 7 rfl) ?_
                    refine n_add X dX12_autocorrelationBits_111 ?_
                    refine lv_i2l (v := lN (i + j)) X.1 X.2.1 dX12_autocorrelationBits_112 (nI_l (by omega)) ?_
                    refine (m_atN g m0 lt er el cm_ sv md fmm lc lz af pt_ oc ty_ sz_ em k n s h c tk k0 n0 s0 z p f (i + j) (by omega) (by assumption) (by omega) (by omega)).callV (rest := [.double (acX s i), .double ((acP s j i).1)]) X dX12_autocorrelationBits_113 q1238 tX12_at hK (hP.sub [0, 1] rfl) 0 11 rfl rfl rfl hl ⟨⟨Nat.le_of_ble_eq_true rfl, Nat.le_of_ble_eq_true rfl⟩, Nat.le_of_ble_eq_true rfl, Nat.le_of_ble_eq_true rfl⟩ rfl rfl (Nat.le_of_ble_eq_true rfl) ?_
                    refine lv_i2d X.1 X.2.1 dX12_autocorrelationBits_116 ?_
                    refine lv_dload_n X.1 X.2.1 dX12_autocorrelationBits_117 rfl (lv_at hl 4 rfl) ?_
                    refine lv_dsub X.1 X.2.1 dX12_autocorrelationBits_118 (n2 _) ?_
                    refine tp_d (y := (acX s ((i + j) % s.length))) (rfl) ?_
                    refine lv_dmul X.1 X.2.1 dX12_autocorrelationBits_119 (n3 _ _) ?_
                    refine lv_dadd X.1 X.2.1 dX12_autocorrelationBits_120 ((n4 i (by omega)).1) ?_
                    refine tp_d (y := ((acP s j (i + 1)).1)) (rfl) ?_
                    refine lv_dstore (lv' := [(5, .double ((acP s j (i + 1)).1)), (10, .double (acX s i)), (9, .int (nI i)), (7, .double ((acP s j i).2)), (3, .double (acM s)), (2, .int (nI v)), (0, .ref m0), (1, .int (nI j))]) X.1 X.2.1 dX12_autocorrelationBits_121 hl (by decide) rfl (fun ls hl => ?_)
                    refine lv_dload X.1 X.2.1 dX12_autocorrelationBits_123 (lv_at hl 3 rfl) ?_
                    refine lv_dload X.1 X.2.1 dX12_autocorrelationBits_125 (lv_at hl 1 rfl) ?_
                    refine lv_dload X.1 X.2.1 dX12_autocorrelationBits_127 (lv_at hl 1 rfl) ?_
                    refine lv_dmul X.1 X.2.1 dX12_autocorrelationBits_129 (n3 _ _) ?_
                    refine lv_dadd X.1 X.2.1 dX12_autocorrelationBits_130 ((n4 i (by omega)).2) ?_
                    refine tp_d (y := ((acP s j (i + 1)).2)) (rfl) ?_
                    refine lv_dstore (lv' := [(7, .double ((acP s j (i + 1)).2)), (5, .double ((acP s j (i + 1)).1)), (10, .double (acX s i)), (9, .int (nI i)), (3, .double (acM s)), (2, .int (nI v)), (0, .ref m0), (1, .int (nI j))]) X.1 X.2.1 dX12_autocorrelationBits_131 hl (by decide) rfl (fun ls hl => ?_)
                    refine lv_iinc (v := (nI (i + 1))) (lv' := [(9, .int (nI (i + 1))), (7, .double ((acP s j (i + 1)).2)), (5, .double ((acP s j (i + 1)).1)), (10, .double (acX s i)), (3, .double (acM s)), (2, .int (nI v)), (0, .ref m0), (1, .int (nI j))]) X.1 X.2.1 dX12_autocorrelationBits_133 hl (k := 3) rfl (nI_inc _) (by decide) rfl (fun ls hl => ?_)
                    refine lv_goto (tgt := 82) X.1 X.2.1 dX12_autocorrelationBits_136 (by decide) ?_
                    exact ih82 (i + 1) (by omega) ls (lv_sub hl [0, 1, 2, 4, 5, 6, 7] rfl)
              exact L82 s.length 0 (by omega) ls (lv_sub hl [0, 1, 2, 3, 4, 5, 6] rfl)
            · exfalso; omega
          | succ r ih41 =>
            intro v i h1 hq ls hl
            refine lv_iload_n X.1 X.2.1 dX12_autocorrelationBits_41 rfl (lv_at hl 0 rfl) ?_
            refine lv_aload_n X.1 X.2.1 dX12_autocorrelationBits_42 rfl (lv_at hl 2 rfl) ?_
            refine va_get (D := g.1) (ci := 11) (v := .int (nI s.length)) (C := RX12) (T := TX12) (N := 26) X.1 X.2.1 X.2.2.2.2 iwX12 X.2.2.2.1 hK hP 0 rfl rfl 3 (by decide) (X.2.2.2.2 _ q1023) (fun _ h9 => h9) rfl dX12_autocorrelationBits_43 ?_
            refine z_icmp_ge (tgt := 64) X dX12_autocorrelationBits_46 (by decide) (nI_toInt (by omega)) (nI_toInt (by omega)) (fun c46 => ?_) (fun c46 => ?_)
            · exfalso; omega
            · refine lv_iload_n X.1 X.2.1 dX12_autocorrelationBits_49 rfl (lv_at hl 1 rfl) ?_
              refine lv_aload_n X.1 X.2.1 dX12_autocorrelationBits_50 rfl (lv_at hl 2 rfl) ?_
              refine va_get (D := g.1) (ci := 11) (v := .ref lt) (C := RX12) (T := TX12) (N := 26) X.1 X.2.1 X.2.2.2.2 iwX12 X.2.2.2.1 hK hP 0 rfl rfl 2 (by decide) (X.2.2.2.2 _ q1022) (fun _ h9 => h9) rfl dX12_autocorrelationBits_51 ?_
              refine lv_iload_n X.1 X.2.1 dX12_autocorrelationBits_54 rfl (lv_at hl 0 rfl) ?_
              refine n_iald X hK hP 1 0 rfl rfl (by omega) (by decide) dX12_autocorrelationBits_55 ?_
              refine tp_i (y := (nI (s.getD i 0))) (hf i (by omega)) ?_
              refine n_add X dX12_autocorrelationBits_56 ?_
              refine lv_istore_n (lv' := [(2, .int (nI (v + (s.getD i 0)))), (3, .int (nI i)), (0, .ref m0), (1, .int (nI j))]) X.1 X.2.1 dX12_autocorrelationBits_57 rfl hl (by decide) rfl (fun ls hl => ?_)
              refine lv_iinc (v := (nI (i + 1))) (lv' := [(3, .int (nI (i + 1))), (2, .int (nI (v + (s.getD i 0)))), (0, .ref m0), (1, .int (nI j))]) X.1 X.2.1 dX12_autocorrelationBits_58 hl (k := 1) rfl (nI_inc _) (by decide) rfl (fun ls hl => ?_)
              refine lv_goto (tgt := 41) X.1 X.2.1 dX12_autocorrelationBits_61 (by decide) ?_
              exact ih41 (v + (s.getD i 0)) (i + 1) (by omega) (by rw [smL] at hq; exact hq) ls (lv_sub hl [0, 1, 2, 3] rfl)
        exact L41 s.length 0 0 (by omega) (rfl) ls (lv_sub hl [0, 1, 2, 3] rfl)
      · refine lv_ldc2 (v := (-8)) X.1 X.2.1 X.2.2.2.1 (X.2.2.2.2 _ q1424) dX12_autocorrelationBits_33 ?_
        exact PuL.ret X hr hlk dX12_autocorrelationBits_36 (by unfold a_ac; rw [if_pos (by omega), if_neg (by omega), c30]; rfl)
    · refine lv_ldc2 (v := (-3)) X.1 X.2.1 X.2.2.2.1 (X.2.2.2.2 _ q1423) dX12_autocorrelationBits_22 ?_
      exact PuL.ret X hr hlk dX12_autocorrelationBits_25 (by unfold a_ac; rw [if_pos (by omega), if_pos (by omega)])
  · have h8 := of_decide_eq_false c8
    refine lv_ldc2 (v := (-1)) X.1 X.2.1 X.2.2.2.1 (X.2.2.2.2 _ q1422) dX12_autocorrelationBits_11 ?_
    exact PuL.ret X hr hlk dX12_autocorrelationBits_14 (by unfold a_ac; rw [if_neg (by omega)])
