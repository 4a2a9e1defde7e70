set_option maxHeartbeats 4000000 in
set_option maxRecDepth 100000 in
theorem m_isSmaller (g : G5) (m0 : Nat) (lt : Nat) (er : Nat) (el : Nat) (cm_ : Nat) (sv : Nat) (md : Nat) (fmm : Nat) (lc : Nat) (lz : Nat) (af : Nat) (pt_ : Nat) (oc : Nat) (ty_ : Nat) (sz_ : Nat) (em : Nat) (k : Nat) (n : Nat) (s : List Nat) (h : List (List Nat)) (c : List Nat) (tk : Bool) (k0 : Nat) (n0 : Nat) (s0 : List Nat) (z : List Nat) (p : List Int) (B : Nat) (T : Nat) (b1 : Nat) (m1 : Nat) (b2 : Nat) (m2 : Nat) (hc : shp k n B T) (h11 : 1 ≤ m1) (h1n : m1 ≤ n) (h21 : 1 ≤ m2) (h2n : m2 ≤ n) (hb1 : b1 < 2 ^ 31) (hb2 : b2 < 2 ^ 31) : PuI yX12_isSmaller cX12_isSmaller 8 (some .boolean) 2 46 g [.ref m0, .int (nI b1), .int (nI m1), .int (nI b2), .int (nI m2)] [(m0, .inr (11, [.int (nI k), .int (nI n), .ref lt, .int (nI s.length), .ref er, .ref el, .int (nI h.length), .ref cm_, .int (nI c.length), .int (bI tk), .int (nI k0), .int (nI n0), .ref sv, .int (nI s0.length), .ref md, .int (nI z.length), .ref fmm, .ref lc, .ref lz, .ref af, .ref pt_, .int (nI p.length), .ref oc, .ref ty_, .ref sz_, .ref em]))] (bI (szB k b1 m1 b2 m2)) := by
  refine PuI.of (by decide +kernel) (Nat.le_of_ble_eq_true rfl) ?_
  intro p_ l_ e_ S_ m_ args below meth co X hr hlk hP hK ls hl
  have X : CallFix p_ m_ co cX12_isSmaller 8 S_ args lw_all RX12 := X
  have hl : lv_has ls 8 [(0, .ref m0), (1, .int (nI b1)), (2, .int (nI m1)), (3, .int (nI b2)), (4, .int (nI m2))] := hl
  obtain ⟨hk2, hk4, hn1, hn6, hB, hT, hBT, hT2⟩ := hc.f
  have hB0 : 0 < B := by rw [hBT]; exact Nat.mul_pos (by omega) (by omega)
  have hs1 := shp_sub hc h11 h1n
  have hs2 := shp_sub hc h21 h2n
  refine lv_iconst (v := (nI 0)) X.1 X.2.1 dX12_isSmaller_0 (by decide) ?_
  refine lv_istore (lv' := [(5, .int (nI 0)), (0, .ref m0), (1, .int (nI b1)), (2, .int (nI m1)), (3, .int (nI b2)), (4, .int (nI m2))]) X.1 X.2.1 dX12_isSmaller_1 hl (by decide) rfl (fun ls hl => ?_)
  have L3 : ∀ (r : Nat) (i : Nat) (h1 : i + r = min m1 m2) (hq : szL k b1 m1 b2 m2 r i = szB k b1 m1 b2 m2) (ls : Array Slot) (hl : lv_has ls 8 [(5, .int (nI i)), (0, .ref m0), (1, .int (nI b1)), (2, .int (nI m1)), (3, .int (nI b2)), (4, .int (nI m2))]), W p_ l_ e_ { frames := 2, cells := 0, slots := 0, locals := 46 } S_ m_ args below meth co S_.heap [] 0 0 (MQ below (vp_Si (fun r => r = (bI (szB k b1 m1 b2 m2)))) args S_ 0 0 (fun _ => False)) (F0 m_ 3 ls []) := by
    intro r
    induction r with
    | zero =>
      intro i h1 hq ls hl
      refine lv_iload X.1 X.2.1 dX12_isSmaller_3 (lv_at hl 0 rfl) ?_
      refine lv_iload_n X.1 X.2.1 dX12_isSmaller_5 rfl (lv_at hl 3 rfl) ?_
      refine z_icmp_ge (tgt := 63) X dX12_isSmaller_6 (by decide) (nI_toInt (by omega)) (nI_toInt (by omega)) (fun c6 => ?_) (fun c6 => ?_)
      · refine lv_iload_n X.1 X.2.1 dX12_isSmaller_63 rfl (lv_at hl 3 rfl) ?_
        refine lv_iload X.1 X.2.1 dX12_isSmaller_64 (lv_at hl 5 rfl) ?_
        refine z_icmp_ge (tgt := 73) X dX12_isSmaller_66 (by decide) (nI_toInt (by omega)) (nI_toInt (by omega)) (fun c66 => ?_) (fun c66 => ?_)
        · refine lv_iconst (v := (nI 0)) X.1 X.2.1 dX12_isSmaller_73 (by decide) ?_
          exact PuI.ret X hr hlk dX12_isSmaller_74 (bI_nar _) (by rw [← hq]; first | exact bt (decide_eq_true (by omega)) | exact bf (decide_eq_false (by omega)))
        · refine lv_iconst (v := (nI 1)) X.1 X.2.1 dX12_isSmaller_69 (by decide) ?_
          refine lv_goto (tgt := 74) X.1 X.2.1 dX12_isSmaller_70 (by decide) ?_
          exact PuI.ret X hr hlk dX12_isSmaller_74 (bI_nar _) (by rw [← hq]; first | exact bt (decide_eq_true (by omega)) | exact bf (decide_eq_false (by omega)))
      · refine lv_iload X.1 X.2.1 dX12_isSmaller_9 (lv_at hl 0 rfl) ?_
        refine lv_iload X.1 X.2.1 dX12_isSmaller_11 (lv_at hl 5 rfl) ?_
        refine z_icmp_ge (tgt := 63) X dX12_isSmaller_13 (by decide) (nI_toInt (by omega)) (nI_toInt (by omega)) (fun c13 => ?_) (fun c13 => ?_)
        · refine lv_iload_n X.1 X.2.1 dX12_isSmaller_63 rfl (lv_at hl 3 rfl) ?_
          refine lv_iload X.1 X.2.1 dX12_isSmaller_64 (lv_at hl 5 rfl) ?_
          refine z_icmp_ge (tgt := 73) X dX12_isSmaller_66 (by decide) (nI_toInt (by omega)) (nI_toInt (by omega)) (fun c66 => ?_) (fun c66 => ?_)
          · refine lv_iconst (v := (nI 0)) X.1 X.2.1 dX12_isSmaller_73 (by decide) ?_
            exact PuI.ret X hr hlk dX12_isSmaller_74 (bI_nar _) (by rw [← hq]; first | exact bt (decide_eq_true (by omega)) | exact bf (decide_eq_false (by omega)))
          · refine lv_iconst (v := (nI 1)) X.1 X.2.1 dX12_isSmaller_69 (by decide) ?_
            refine lv_goto (tgt := 74) X.1 X.2.1 dX12_isSmaller_70 (by decide) ?_
            exact PuI.ret X hr hlk dX12_isSmaller_74 (bI_nar _) (by rw [← hq]; first | exact bt (decide_eq_true (by omega)) | exact bf (decide_eq_false (by omega)))
        · exfalso; omega
    | succ r ih3 =>
      intro i h1 hq ls hl
      refine lv_iload X.1 X.2.1 dX12_isSmaller_3 (lv_at hl 0 rfl) ?_
      refine lv_iload_n X.1 X.2.1 dX12_isSmaller_5 rfl (lv_at hl 3 rfl) ?_
      refine z_icmp_ge (tgt := 63) X dX12_isSmaller_6 (by decide) (nI_toInt (by omega)) (nI_toInt (by omega)) (fun c6 => ?_) (fun c6 => ?_)
      · exfalso; omega
      · refine lv_iload X.1 X.2.1 dX12_isSmaller_9 (lv_at hl 0 rfl) ?_
        refine lv_iload X.1 X.2.1 dX12_isSmaller_11 (lv_at hl 5 rfl) ?_
        refine z_icmp_ge (tgt := 63) X dX12_isSmaller_13 (by decide) (nI_toInt (by omega)) (nI_toInt (by omega)) (fun c13 => ?_) (fun c13 => ?_)
        · exfalso; omega
        · refine lv_aload_n X.1 X.2.1 dX12_isSmaller_16 rfl (lv_at hl 1 rfl) ?_
          refine lv_iload_n X.1 X.2.1 dX12_isSmaller_17 rfl (lv_at hl 2 rfl) ?_
          refine lv_iload_n X.1 X.2.1 dX12_isSmaller_18 rfl (lv_at hl 3 rfl) ?_
          refine lv_iload X.1 X.2.1 dX12_isSmaller_19 (lv_at hl 0 rfl) ?_
          refine (m_letterOf g m0 lt er el cm_ sv md fmm lc lz af pt_ oc ty_ sz_ em k n s h c tk k0 n0 s0 z p m1 (k ^ m1) (k ^ (m1 - 1)) b1 i (hs1) (by omega) (by omega)).callV (rest := []) X dX12_isSmaller_21 q1170 tX12_letterOf hK (hP.sub [0] rfl) 0 11 rfl rfl rfl hl ⟨⟨Nat.le_of_ble_eq_true rfl, Nat.le_of_ble_eq_true rfl⟩, Nat.le_of_ble_eq_true rfl, Nat.le_of_ble_eq_true rfl⟩ rfl rfl (Nat.le_of_ble_eq_true rfl) ?_
          refine lv_istore (lv' := [(6, .int (nI (b1 / k ^ (m1 - 1 - i) % k))), (5, .int (nI i)), (0, .ref m0), (1, .int (nI b1)), (2, .int (nI m1)), (3, .int (nI b2)), (4, .int (nI m2))]) X.1 X.2.1 dX12_isSmaller_24 hl (by decide) rfl (fun ls hl => ?_)
          refine lv_aload_n X.1 X.2.1 dX12_isSmaller_26 rfl (lv_at hl 2 rfl) ?_
          refine lv_iload_n X.1 X.2.1 dX12_isSmaller_27 rfl (lv_at hl 5 rfl) ?_
          refine lv_iload X.1 X.2.1 dX12_isSmaller_28 (lv_at hl 6 rfl) ?_
          refine lv_iload X.1 X.2.1 dX12_isSmaller_30 (lv_at hl 1 rfl) ?_
          refine (m_letterOf g m0 lt er el cm_ sv md fmm lc lz af pt_ oc ty_ sz_ em k n s h c tk k0 n0 s0 z p m2 (k ^ m2) (k ^ (m2 - 1)) b2 i (hs2) (by omega) (by omega)).callV (rest := []) X dX12_isSmaller_32 q1170 tX12_letterOf hK (hP.sub [0] rfl) 0 11 rfl rfl rfl hl ⟨⟨Nat.le_of_ble_eq_true rfl, Nat.le_of_ble_eq_true rfl⟩, Nat.le_of_ble_eq_true rfl, Nat.le_of_ble_eq_true rfl⟩ rfl rfl (Nat.le_of_ble_eq_true rfl) ?_
          refine lv_istore (lv' := [(7, .int (nI (b2 / k ^ (m2 - 1 - i) % k))), (6, .int (nI (b1 / k ^ (m1 - 1 - i) % k))), (5, .int (nI i)), (0, .ref m0), (1, .int (nI b1)), (2, .int (nI m1)), (3, .int (nI b2)), (4, .int (nI m2))]) X.1 X.2.1 dX12_isSmaller_35 hl (by decide) rfl (fun ls hl => ?_)
          refine lv_iload X.1 X.2.1 dX12_isSmaller_37 (lv_at hl 1 rfl) ?_
          refine lv_iload X.1 X.2.1 dX12_isSmaller_39 (lv_at hl 0 rfl) ?_
          have e1 := Nat.mod_lt (b1 / k ^ (m1 - 1 - i)) (show 0 < k by omega)
          have e2 := Nat.mod_lt (b2 / k ^ (m2 - 1 - i)) (show 0 < k by omega)
          refine z_icmp_eq (tgt := 57) X dX12_isSmaller_41 (by decide) (nI_toInt (by omega)) (nI_toInt (by omega)) (fun c41 => ?_) (fun c41 => ?_)
          · refine lv_iinc (v := (nI (i + 1))) (lv' := [(5, .int (nI (i + 1))), (7, .int (nI (b2 / k ^ (m2 - 1 - i) % k))), (6, .int (nI (b1 / k ^ (m1 - 1 - i) % k))), (0, .ref m0), (1, .int (nI b1)), (2, .int (nI m1)), (3, .int (nI b2)), (4, .int (nI m2))]) X.1 X.2.1 dX12_isSmaller_57 hl (k := 2) rfl (nI_inc _) (by decide) rfl (fun ls hl => ?_)
            refine lv_goto (tgt := 3) X.1 X.2.1 dX12_isSmaller_60 (by decide) ?_
            exact ih3 (i + 1) (by omega) (by rw [szL, if_pos (by omega)] at hq; exact hq) ls (lv_sub hl [0, 3, 4, 5, 6, 7] rfl)
          · refine lv_iload X.1 X.2.1 dX12_isSmaller_44 (lv_at hl 1 rfl) ?_
            refine lv_iload X.1 X.2.1 dX12_isSmaller_46 (lv_at hl 0 rfl) ?_
            refine z_icmp_ge (tgt := 55) X dX12_isSmaller_48 (by decide) (nI_toInt (by omega)) (nI_toInt (by omega)) (fun c48 => ?_) (fun c48 => ?_)
            · refine lv_iconst (v := (nI 0)) X.1 X.2.1 dX12_isSmaller_55 (by decide) ?_
              exact PuI.ret X hr hlk dX12_isSmaller_56 (bI_nar _) (by rw [szL, if_neg (by omega)] at hq; rw [← hq]; first | exact bt (decide_eq_true (by omega)) | exact bf (decide_eq_false (by omega)))
            · refine lv_iconst (v := (nI 1)) X.1 X.2.1 dX12_isSmaller_51 (by decide) ?_
              refine lv_goto (tgt := 56) X.1 X.2.1 dX12_isSmaller_52 (by decide) ?_
              exact PuI.ret X hr hlk dX12_isSmaller_56 (bI_nar _) (by rw [szL, if_neg (by omega)] at hq; rw [← hq]; first | exact bt (decide_eq_true (by omega)) | exact bf (decide_eq_false (by omega)))
  exact L3 (min m1 m2) 0 (by omega) (rfl) ls (lv_sub hl [0, 1, 2, 3, 4, 5] rfl)

set_option maxHeartbeats 4000000 in
set_option maxRecDepth 100000 in
theorem m_lyndon (g : G5) (m0 : Nat) (lt : Nat) (er : Nat) (el : Nat) (cm_ : Nat) (sv : Nat) (md : Nat) (fmm : Nat) (lc : Nat) (lz : Nat) (af : Nat) (pt_ : Nat) (oc : Nat) (ty_ : Nat) (sz_ : Nat) (em : Nat) (k : Nat) (n : Nat) (s : List Nat) (h : List (List Nat)) (c : List Nat) (tk : Bool) (k0 : Nat) (n0 : Nat) (s0 : List Nat) (p : List Int) (fm_ : Nat → Int32) (fc_ : Nat → Int32) (fx : Nat → Int32) (B : Nat) (T : Nat) (hc : shp k n B T) : MuV (S := (Nat → Int32) × (Nat → Int32) × (Nat → Int32)) yX12_lyndon cX12_lyndon 5 none 4 93 g [.ref m0] [(m0, .inr (11, [.int (nI k), .int (nI n), .ref lt, .int (nI s.length), .ref er, .ref el, .int (nI h.length), .ref cm_, .int (nI c.length), .int (bI tk), .int (nI k0), .int (nI n0), .ref sv, .int (nI s0.length), .ref md, .int (nI (([] : List Nat).length)), .ref fmm, .ref lc, .ref lz, .ref af, .ref pt_, .int (nI p.length), .ref oc, .ref ty_, .ref sz_, .ref em])), (md, .inl (g.2.1, 256, .inl fm_)), (lc, .inl (g.2.1, 256, .inl fc_)), (lz, .inl (g.2.1, 256, .inl fx))] (fun u => rep u.1 (lyL k T n B 0)) (fun u => [(m0, .inr (11, [.int (nI k), .int (nI n), .ref lt, .int (nI s.length), .ref er, .ref el, .int (nI h.length), .ref cm_, .int (nI c.length), .int (bI tk), .int (nI k0), .int (nI n0), .ref sv, .int (nI s0.length), .ref md, .int (nI ((lyL k T n B 0).length)), .ref fmm, .ref lc, .ref lz, .ref af, .ref pt_, .int (nI p.length), .ref oc, .ref ty_, .ref sz_, .ref em])), (md, .inl (g.2.1, 256, .inl u.1)), (lc, .inl (g.2.1, 256, .inl u.2.1)), (lz, .inl (g.2.1, 256, .inl u.2.2))]) := by
  refine MuV.of (by decide +kernel) (Nat.le_of_ble_eq_true rfl) ?_
  intro p_ l_ e_ S_ m_ args below meth co X hr hlk hP hK A hA hD hS ls hl
  have X : CallFix p_ m_ co cX12_lyndon 5 S_ args lw_all RX12 := X
  have hl : lv_has ls 5 [(0, .ref m0)] := hl
  obtain ⟨hk2, hk4, hn1, hn6, hB, hT, hBT, hT2⟩ := hc.f
  have hB0 : 0 < B := by rw [hBT]; exact Nat.mul_pos (by omega) (by omega)
  obtain ⟨hlo, hl255⟩ := ly_at hc
  have hll := lyL_len hc
  refine lv_iconst (v := (nI 0)) X.1 X.2.1 dX12_lyndon_0 (by decide) ?_
  refine lv_istore_n (lv' := [(1, .int (nI 0)), (0, .ref m0)]) X.1 X.2.1 dX12_lyndon_1 rfl hl (by decide) rfl (fun ls hl => ?_)
  refine lv_iconst (v := (nI 1)) X.1 X.2.1 dX12_lyndon_2 (by decide) ?_
  refine lv_istore_n (lv' := [(2, .int (nI 1)), (1, .int (nI 0)), (0, .ref m0)]) X.1 X.2.1 dX12_lyndon_3 rfl hl (by decide) rfl (fun ls hl => ?_)
  have L4 : ∀ (r : Nat) (m : Nat) (rl : List (Nat × Nat)) (fc1 : Nat → Int32) (fx1 : Nat → Int32) (h1 : m + r = n + 1) (hm1 : 1 ≤ m) (hq : ly2 k n r m rl = lyR k n) (hok : okR k n rl) (hrp : lrp fc1 fx1 rl) (H : Heap) (locs : List Loc) (hP : PP g [(m0, .inr (11, [.int (nI k), .int (nI n), .ref lt, .int (nI s.length), .ref er, .ref el, .int (nI h.length), .ref cm_, .int (nI c.length), .int (bI tk), .int (nI k0), .int (nI n0), .ref sv, .int (nI s0.length), .ref md, .int (nI (([] : List Nat).length)), .ref fmm, .ref lc, .ref lz, .ref af, .ref pt_, .int (nI p.length), .ref oc, .ref ty_, .ref sz_, .ref em])), (md, .inl (g.2.1, 256, .inl fm_)), (lc, .inl (g.2.1, 256, .inl fc1)), (lz, .inl (g.2.1, 256, .inl fx1))] H) (hD : va_D A [(m0, .inr (11, [.int (nI k), .int (nI n), .ref lt, .int (nI s.length), .ref er, .ref el, .int (nI h.length), .ref cm_, .int (nI c.length), .int (bI tk), .int (nI k0), .int (nI n0), .ref sv, .int (nI s0.length), .ref md, .int (nI (([] : List Nat).length)), .ref fmm, .ref lc, .ref lz, .ref af, .ref pt_, .int (nI p.length), .ref oc, .ref ty_, .ref sz_, .ref em])), (md, .inl (g.2.1, 256, .inl fm_)), (lc, .inl (g.2.1, 256, .inl fc1)), (lz, .inl (g.2.1, 256, .inl fx1))]) (hS : va_S A S_.heap H locs) (ls : Array Slot) (hl : lv_has ls 5 [(2, .int (nI m)), (1, .int (nI rl.length)), (0, .ref m0)]), W p_ l_ e_ { frames := 4, cells := 0, slots := 0, locals := 93 } S_ m_ args below meth co H locs 0 0 (MQ below (va_Qv (S := (Nat → Int32) × (Nat → Int32) × (Nat → Int32)) (fun u => rep u.1 (lyL k T n B 0)) (MuB g A (fun u => [(m0, .inr (11, [.int (nI k), .int (nI n), .ref lt, .int (nI s.length), .ref er, .ref el, .int (nI h.length), .ref cm_, .int (nI c.length), .int (bI tk), .int (nI k0), .int (nI n0), .ref sv, .int (nI s0.length), .ref md, .int (nI ((lyL k T n B 0).length)), .ref fmm, .ref lc, .ref lz, .ref af, .ref pt_, .int (nI p.length), .ref oc, .ref ty_, .ref sz_, .ref em])), (md, .inl (g.2.1, 256, .inl u.1)), (lc, .inl (g.2.1, 256, .inl u.2.1)), (lz, .inl (g.2.1, 256, .inl u.2.2))])) A) args S_ 0 0 A) (F0 m_ 4 ls []) := by
    intro r
    induction r with
    | zero =>
      intro m rl fc1 fx1 h1 hm1 hq hok hrp H locs hP hD hS ls hl
      have e8 : rl = lyR k n := hq
      have hrl : rl.length ≤ 255 := by rw [e8]; exact hl255
      refine lv_iload_n X.1 X.2.1 dX12_lyndon_4 rfl (lv_at hl 0 rfl) ?_
      refine lv_aload_n X.1 X.2.1 dX12_lyndon_5 rfl (lv_at hl 2 rfl) ?_
      refine va_get (D := g.1) (ci := 11) (v := .int (nI n)) (C := RX12) (T := TX12) (N := 26) X.1 X.2.1 X.2.2.2.2 iwX12 X.2.2.2.1 hK hP 0 rfl rfl 1 (by decide) (X.2.2.2.2 _ q1021) (fun _ h9 => h9) rfl dX12_lyndon_6 ?_
      refine z_icmp_gt (tgt := 148) X dX12_lyndon_9 (by decide) (nI_toInt (by omega)) (nI_toInt (by omega)) (fun c9 => ?_) (fun c9 => ?_)
      · refine lv_iconst (v := (nI 0)) X.1 X.2.1 dX12_lyndon_148 (by decide) ?_
        refine lv_istore_n (lv' := [(2, .int (nI 0)), (1, .int (nI rl.length)), (0, .ref m0)]) X.1 X.2.1 dX12_lyndon_149 rfl hl (by decide) rfl (fun ls hl => ?_)
        have L150 : ∀ (r : Nat) (i : Nat) (z1 : List Nat) (fm1 : Nat → Int32) (h3 : i + r = rl.length) (hq2 : z1 ++ oL k rl r i = lyL k T n B 0) (hf1 : rep fm1 z1) (H : Heap) (locs : List Loc) (hP : PP g [(m0, .inr (11, [.int (nI k), .int (nI n), .ref lt, .int (nI s.length), .ref er, .ref el, .int (nI h.length), .ref cm_, .int (nI c.length), .int (bI tk), .int (nI k0), .int (nI n0), .ref sv, .int (nI s0.length), .ref md, .int (nI z1.length), .ref fmm, .ref lc, .ref lz, .ref af, .ref pt_, .int (nI p.length), .ref oc, .ref ty_, .ref sz_, .ref em])), (md, .inl (g.2.1, 256, .inl fm1)), (lc, .inl (g.2.1, 256, .inl fc1)), (lz, .inl (g.2.1, 256, .inl fx1))] H) (hD : va_D A [(m0, .inr (11, [.int (nI k), .int (nI n), .ref lt, .int (nI s.length), .ref er, .ref el, .int (nI h.length), .ref cm_, .int (nI c.length), .int (bI tk), .int (nI k0), .int (nI n0), .ref sv, .int (nI s0.length), .ref md, .int (nI z1.length), .ref fmm, .ref lc, .ref lz, .ref af, .ref pt_, .int (nI p.length), .ref oc, .ref ty_, .ref sz_, .ref em])), (md, .inl (g.2.1, 256, .inl fm1)), (lc, .inl (g.2.1, 256, .inl fc1)), (lz, .inl (g.2.1, 256, .inl fx1))]) (hS : va_S A S_.heap H locs) (ls : Array Slot) (hl : lv_has ls 5 [(2, .int (nI i)), (1, .int (nI rl.length)), (0, .ref m0)]), W p_ l_ e_ { frames := 4, cells := 0, slots := 0, locals := 93 } S_ m_ args below meth co H locs 0 0 (MQ below (va_Qv (S := (Nat → Int32) × (Nat → Int32) × (Nat → Int32)) (fun u => rep u.1 (lyL k T n B 0)) (MuB g A (fun u => [(m0, .inr (11, [.int (nI k), .int (nI n), .ref lt, .int (nI s.length), .ref er, .ref el, .int (nI h.length), .ref cm_, .int (nI c.length), .int (bI tk), .int (nI k0), .int (nI n0), .ref sv, .int (nI s0.length), .ref md, .int (nI ((lyL k T n B 0).length)), .ref fmm, .ref lc, .ref lz, .ref af, .ref pt_, .int (nI p.length), .ref oc, .ref ty_, .ref sz_, .ref em])), (md, .inl (g.2.1, 256, .inl u.1)), (lc, .inl (g.2.1, 256, .inl u.2.1)), (lz, .inl (g.2.1, 256, .inl u.2.2))])) A) args S_ 0 0 A) (F0 m_ 150 ls []) := by
          intro r
          induction r with
          | zero =>
            intro i z1 fm1 h3 hq2 hf1 H locs hP hD hS ls hl
            have e9 : z1 = lyL k T n B 0 := by simpa [oL] using hq2
            refine lv_iload_n X.1 X.2.1 dX12_lyndon_150 rfl (lv_at hl 0 rfl) ?_
            refine lv_iload_n X.1 X.2.1 dX12_lyndon_151 rfl (lv_at hl 1 rfl) ?_
            refine z_icmp_ge (tgt := 200) X dX12_lyndon_152 (by decide) (nI_toInt (by omega)) (nI_toInt (by omega)) (fun c152 => ?_) (fun c152 => ?_)
            · have hP : PP g [(m0, .inr (11, [.int (nI k), .int (nI n), .ref lt, .int (nI s.length), .ref er, .ref el, .int (nI h.length), .ref cm_, .int (nI c.length), .int (bI tk), .int (nI k0), .int (nI n0), .ref sv, .int (nI s0.length), .ref md, .int (nI ((lyL k T n B 0).length)), .ref fmm, .ref lc, .ref lz, .ref af, .ref pt_, .int (nI p.length), .ref oc, .ref ty_, .ref sz_, .ref em])), (md, .inl (g.2.1, 256, .inl fm1)), (lc, .inl (g.2.1, 256, .inl fc1)), (lz, .inl (g.2.1, 256, .inl fx1))] H := by rw [← e9]; exact hP
              have hD : va_D A [(m0, .inr (11, [.int (nI k), .int (nI n), .ref lt, .int (nI s.length), .ref er, .ref el, .int (nI h.length), .ref cm_, .int (nI c.length), .int (bI tk), .int (nI k0), .int (nI n0), .ref sv, .int (nI s0.length), .ref md, .int (nI ((lyL k T n B 0).length)), .ref fmm, .ref lc, .ref lz, .ref af, .ref pt_, .int (nI p.length), .ref oc, .ref ty_, .ref sz_, .ref em])), (md, .inl (g.2.1, 256, .inl fm1)), (lc, .inl (g.2.1, 256, .inl fc1)), (lz, .inl (g.2.1, 256, .inl fx1))] := by rw [← e9]; exact hD
              exact MuV.ret X hr hlk hK hS dX12_lyndon_200 (fm1, fc1, fx1) (hP.sub [0, 1, 2, 3] rfl) (hD.sub [0, 1, 2, 3] (by decide) rfl) (rep_eq hf1 e9)
            · exfalso; omega
          | succ r ih150 =>
            intro i z1 fm1 h3 hq2 hf1 H locs hP hD hS ls hl
            have hxi := hrp i (by omega)
            have hoi := hok (rl.length - 1 - i) (by omega)
            have hsi := shp_sub hc hoi.1 hoi.2.1
            have hpi := pow_le hc hoi.2.1
            refine lv_iload_n X.1 X.2.1 dX12_lyndon_150 rfl (lv_at hl 0 rfl) ?_
            refine lv_iload_n X.1 X.2.1 dX12_lyndon_151 rfl (lv_at hl 1 rfl) ?_
            refine z_icmp_ge (tgt := 200) X dX12_lyndon_152 (by decide) (nI_toInt (by omega)) (nI_toInt (by omega)) (fun c152 => ?_) (fun c152 => ?_)
            · exfalso; omega
            · refine lv_iconst (v := (nI 0)) X.1 X.2.1 dX12_lyndon_155 (by decide) ?_
              refine lv_istore_n (lv' := [(3, .int (nI 0)), (2, .int (nI i)), (1, .int (nI rl.length)), (0, .ref m0)]) X.1 X.2.1 dX12_lyndon_156 rfl hl (by decide) rfl (fun ls hl => ?_)
              have L157 : ∀ (v : Nat) (j : Nat) (z2 : List Nat) (fm2 : Nat → Int32) (h4 : j + v = (rl.getD (rl.length - 1 - i) (0, 0)).2) (hq3 : z2 ++ (wL k (rl.getD (rl.length - 1 - i) (0, 0)).1 (rl.getD (rl.length - 1 - i) (0, 0)).2 v j ++ oL k rl r (i + 1)) = lyL k T n B 0) (hf2 : rep fm2 z2) (H : Heap) (locs : List Loc) (hP : PP g [(m0, .inr (11, [.int (nI k), .int (nI n), .ref lt, .int (nI s.length), .ref er, .ref el, .int (nI h.length), .ref cm_, .int (nI c.length), .int (bI tk), .int (nI k0), .int (nI n0), .ref sv, .int (nI s0.length), .ref md, .int (nI z2.length), .ref fmm, .ref lc, .ref lz, .ref af, .ref pt_, .int (nI p.length), .ref oc, .ref ty_, .ref sz_, .ref em])), (md, .inl (g.2.1, 256, .inl fm2)), (lc, .inl (g.2.1, 256, .inl fc1)), (lz, .inl (g.2.1, 256, .inl fx1))] H) (hD : va_D A [(m0, .inr (11, [.int (nI k), .int (nI n), .ref lt, .int (nI s.length), .ref er, .ref el, .int (nI h.length), .ref cm_, .int (nI c.length), .int (bI tk), .int (nI k0), .int (nI n0), .ref sv, .int (nI s0.length), .ref md, .int (nI z2.length), .ref fmm, .ref lc, .ref lz, .ref af, .ref pt_, .int (nI p.length), .ref oc, .ref ty_, .ref sz_, .ref em])), (md, .inl (g.2.1, 256, .inl fm2)), (lc, .inl (g.2.1, 256, .inl fc1)), (lz, .inl (g.2.1, 256, .inl fx1))]) (hS : va_S A S_.heap H locs) (ls : Array Slot) (hl : lv_has ls 5 [(3, .int (nI j)), (2, .int (nI i)), (1, .int (nI rl.length)), (0, .ref m0)]), W p_ l_ e_ { frames := 4, cells := 0, slots := 0, locals := 93 } S_ m_ args below meth co H locs 0 0 (MQ below (va_Qv (S := (Nat → Int32) × (Nat → Int32) × (Nat → Int32)) (fun u => rep u.1 (lyL k T n B 0)) (MuB g A (fun u => [(m0, .inr (11, [.int (nI k), .int (nI n), .ref lt, .int (nI s.length), .ref er, .ref el, .int (nI h.length), .ref cm_, .int (nI c.length), .int (bI tk), .int (nI k0), .int (nI n0), .ref sv, .int (nI s0.length), .ref md, .int (nI ((lyL k T n B 0).length)), .ref fmm, .ref lc, .ref lz, .ref af, .ref pt_, .int (nI p.length), .ref oc, .ref ty_, .ref sz_, .ref em])), (md, .inl (g.2.1, 256, .inl u.1)), (lc, .inl (g.2.1, 256, .inl u.2.1)), (lz, .inl (g.2.1, 256, .inl u.2.2))])) A) args S_ 0 0 A) (F0 m_ 157 ls []) := by
                intro v
                induction v with
                | zero =>
                  intro j z2 fm2 h4 hq3 hf2 H locs hP hD hS ls hl
                  refine lv_iload_n X.1 X.2.1 dX12_lyndon_157 rfl (lv_at hl 0 rfl) ?_
                  refine lv_aload_n X.1 X.2.1 dX12_lyndon_158 rfl (lv_at hl 3 rfl) ?_
                  refine va_get (D := g.1) (ci := 11) (v := .ref lz) (C := RX12) (T := TX12) (N := 26) X.1 X.2.1 X.2.2.2.2 iwX12 X.2.2.2.1 hK hP 0 rfl rfl 18 (by decide) (X.2.2.2.2 _ q1038) (fun _ h9 => h9) rfl dX12_lyndon_159 ?_
                  refine lv_iload_n X.1 X.2.1 dX12_lyndon_162 rfl (lv_at hl 1 rfl) ?_
                  refine n_iald X hK hP 3 0 rfl rfl (by omega) (by decide) dX12_lyndon_163 ?_
                  refine tp_i (y := (nI ((rl.getD (rl.length - 1 - i) (0, 0)).2))) (hxi.2) ?_
                  refine z_icmp_ge (tgt := 194) X dX12_lyndon_164 (by decide) (nI_toInt (by omega)) (nI_toInt (by omega)) (fun c164 => ?_) (fun c164 => ?_)
                  · refine lv_iinc (v := (nI (i + 1))) (lv' := [(2, .int (nI (i + 1))), (3, .int (nI j)), (1, .int (nI rl.length)), (0, .ref m0)]) X.1 X.2.1 dX12_lyndon_194 hl (k := 1) rfl (nI_inc _) (by decide) rfl (fun ls hl => ?_)
                    refine lv_goto (tgt := 150) X.1 X.2.1 dX12_lyndon_197 (by decide) ?_
                    exact ih150 (i + 1) z2 fm2 (by omega) (by simpa [wL] using hq3) (hf2) _ _ (hP.sub [0, 1, 2, 3] rfl) (hD.sub [0, 1, 2, 3] (by decide) rfl) hS ls (lv_sub hl [0, 2, 3] rfl)
                  · exfalso; omega
                | succ v ih157 =>
                  intro j z2 fm2 h4 hq3 hf2 H locs hP hD hS ls hl
                  have hz2 : z2.length < 256 := by rw [wL] at hq3; exact app_lt hq3 (by omega)
                  refine lv_iload_n X.1 X.2.1 dX12_lyndon_157 rfl (lv_at hl 0 rfl) ?_
                  refine lv_aload_n X.1 X.2.1 dX12_lyndon_158 rfl (lv_at hl 3 rfl) ?_
                  refine va_get (D := g.1) (ci := 11) (v := .ref lz) (C := RX12) (T := TX12) (N := 26) X.1 X.2.1 X.2.2.2.2 iwX12 X.2.2.2.1 hK hP 0 rfl rfl 18 (by decide) (X.2.2.2.2 _ q1038) (fun _ h9 => h9) rfl dX12_lyndon_159 ?_
                  refine lv_iload_n X.1 X.2.1 dX12_lyndon_162 rfl (lv_at hl 1 rfl) ?_
                  refine n_iald X hK hP 3 0 rfl rfl (by omega) (by decide) dX12_lyndon_163 ?_
                  refine tp_i (y := (nI ((rl.getD (rl.length - 1 - i) (0, 0)).2))) (hxi.2) ?_
                  refine z_icmp_ge (tgt := 194) X dX12_lyndon_164 (by decide) (nI_toInt (by omega)) (nI_toInt (by omega)) (fun c164 => ?_) (fun c164 => ?_)
                  · exfalso; omega
                  · refine lv_aload_n X.1 X.2.1 dX12_lyndon_167 rfl (lv_at hl 3 rfl) ?_
                    refine lv_aload_n X.1 X.2.1 dX12_lyndon_168 rfl (lv_at hl 3 rfl) ?_
                    refine lv_aload_n X.1 X.2.1 dX12_lyndon_169 rfl (lv_at hl 3 rfl) ?_
                    refine va_get (D := g.1) (ci := 11) (v := .ref lc) (C := RX12) (T := TX12) (N := 26) X.1 X.2.1 X.2.2.2.2 iwX12 X.2.2.2.1 hK hP 0 rfl rfl 17 (by decide) (X.2.2.2.2 _ q1037) (fun _ h9 => h9) rfl dX12_lyndon_170 ?_
                    refine lv_iload_n X.1 X.2.1 dX12_lyndon_173 rfl (lv_at hl 1 rfl) ?_
                    refine n_iald X hK hP 2 0 rfl rfl (by omega) (by decide) dX12_lyndon_174 ?_
                    refine tp_i (y := (nI ((rl.getD (rl.length - 1 - i) (0, 0)).1))) (hxi.1) ?_
                    refine lv_aload_n X.1 X.2.1 dX12_lyndon_175 rfl (lv_at hl 3 rfl) ?_
                    refine va_get (D := g.1) (ci := 11) (v := .ref lz) (C := RX12) (T := TX12) (N := 26) X.1 X.2.1 X.2.2.2.2 iwX12 X.2.2.2.1 hK hP 0 rfl rfl 18 (by decide) (X.2.2.2.2 _ q1038) (fun _ h9 => h9) rfl dX12_lyndon_176 ?_
                    refine lv_iload_n X.1 X.2.1 dX12_lyndon_179 rfl (lv_at hl 1 rfl) ?_
                    refine n_iald X hK hP 3 0 rfl rfl (by omega) (by decide) dX12_lyndon_180 ?_
                    refine tp_i (y := (nI ((rl.getD (rl.length - 1 - i) (0, 0)).2))) (hxi.2) ?_
                    refine lv_iload_n X.1 X.2.1 dX12_lyndon_181 rfl (lv_at hl 0 rfl) ?_
                    refine (m_letterOf g m0 lt er el cm_ sv md fmm lc lz af pt_ oc ty_ sz_ em k n s h c tk k0 n0 s0 z2 p ((rl.getD (rl.length - 1 - i) (0, 0)).2) (k ^ (rl.getD (rl.length - 1 - i) (0, 0)).2) (k ^ ((rl.getD (rl.length - 1 - i) (0, 0)).2 - 1)) ((rl.getD (rl.length - 1 - i) (0, 0)).1) j (hsi) (by omega) (by omega)).callV (rest := [.ref m0]) X dX12_lyndon_182 q1170 tX12_letterOf hK (hP.sub [0] rfl) 0 11 rfl rfl rfl hl ⟨⟨Nat.le_of_ble_eq_true rfl, Nat.le_of_ble_eq_true rfl⟩, Nat.le_of_ble_eq_true rfl, Nat.le_of_ble_eq_true rfl⟩ rfl rfl (Nat.le_of_ble_eq_true rfl) ?_
                    refine (m_make g m0 lt er el cm_ sv md fmm lc lz af pt_ oc ty_ sz_ em k n s h c tk k0 n0 s0 z2 p fm2 (((rl.getD (rl.length - 1 - i) (0, 0)).1) / k ^ (((rl.getD (rl.length - 1 - i) (0, 0)).2) - 1 - j) % k) (hz2) (hf2)).callV (rest := []) (wr := [(lc, .inl (g.2.1, 256, .inl fc1)), (lz, .inl (g.2.1, 256, .inl fx1))]) X dX12_lyndon_185 q1141 tX12_make hK hP hD hS hA [0, 1] [2, 3] (by decide) rfl rfl (by decide) (by decide) 0 11 rfl rfl rfl hl ⟨⟨Nat.le_of_ble_eq_true rfl, Nat.le_of_ble_eq_true rfl⟩, Nat.le_of_ble_eq_true rfl, Nat.le_of_ble_eq_true rfl⟩ rfl rfl (Nat.le_of_ble_eq_true rfl) (fun u185 H locs hw185 hP hD hS => ?_)
                    obtain ⟨fm1_185, rfl⟩ : ∃ z, z = u185 := ⟨_, rfl⟩
                    have hP : PP g [(lc, .inl (g.2.1, 256, .inl fc1)), (lz, .inl (g.2.1, 256, .inl fx1)), (m0, .inr (11, [.int (nI k), .int (nI n), .ref lt, .int (nI s.length), .ref er, .ref el, .int (nI h.length), .ref cm_, .int (nI c.length), .int (bI tk), .int (nI k0), .int (nI n0), .ref sv, .int (nI s0.length), .ref md, .int (nI ((z2 ++ [(((rl.getD (rl.length - 1 - i) (0, 0)).1) / k ^ (((rl.getD (rl.length - 1 - i) (0, 0)).2) - 1 - j) % k)]).length)), .ref fmm, .ref lc, .ref lz, .ref af, .ref pt_, .int (nI p.length), .ref oc, .ref ty_, .ref sz_, .ref em])), (md, .inl (g.2.1, 256, .inl fm1_185))] H := hP
                    have hD : va_D A [(lc, .inl (g.2.1, 256, .inl fc1)), (lz, .inl (g.2.1, 256, .inl fx1)), (m0, .inr (11, [.int (nI k), .int (nI n), .ref lt, .int (nI s.length), .ref er, .ref el, .int (nI h.length), .ref cm_, .int (nI c.length), .int (bI tk), .int (nI k0), .int (nI n0), .ref sv, .int (nI s0.length), .ref md, .int (nI ((z2 ++ [(((rl.getD (rl.length - 1 - i) (0, 0)).1) / k ^ (((rl.getD (rl.length - 1 - i) (0, 0)).2) - 1 - j) % k)]).length)), .ref fmm, .ref lc, .ref lz, .ref af, .ref pt_, .int (nI p.length), .ref oc, .ref ty_, .ref sz_, .ref em])), (md, .inl (g.2.1, 256, .inl fm1_185))] := hD
                    try dsimp only at hw185
                    refine lv_iinc (v := (nI (j + 1))) (lv' := [(3, .int (nI (j + 1))), (2, .int (nI i)), (1, .int (nI rl.length)), (0, .ref m0)]) X.1 X.2.1 dX12_lyndon_188 hl (k := 0) rfl (nI_inc _) (by decide) rfl (fun ls hl => ?_)
                    refine lv_goto (tgt := 157) X.1 X.2.1 dX12_lyndon_191 (by decide) ?_
                    exact ih157 (j + 1) (z2 ++ [(rl.getD (rl.length - 1 - i) (0, 0)).1 / k ^ ((rl.getD (rl.length - 1 - i) (0, 0)).2 - 1 - j) % k]) fm1_185 (by omega) (by rw [wL] at hq3; simpa using hq3) (hw185) _ _ (hP.sub [2, 3, 0, 1] rfl) (hD.sub [2, 3, 0, 1] (by decide) rfl) hS ls (lv_sub hl [0, 1, 2, 3] rfl)
              exact L157 ((rl.getD (rl.length - 1 - i) (0, 0)).2) 0 z1 fm1 (by omega) (by rw [oL] at hq2; exact hq2) (hf1) _ _ (hP.sub [0, 1, 2, 3] rfl) (hD.sub [0, 1, 2, 3] (by decide) rfl) hS ls (lv_sub hl [0, 1, 2, 3] rfl)
        exact L150 rl.length 0 ([] : List Nat) fm_ (by omega) (by rw [← hlo, e8]; rfl) (rep_nil) _ _ (hP.sub [0, 1, 2, 3] rfl) (hD.sub [0, 1, 2, 3] (by decide) rfl) hS ls (lv_sub hl [0, 1, 2] rfl)
      · exfalso; omega
    | succ r ih4 =>
      intro m rl fc1 fx1 h1 hm1 hq hok hrp H locs hP hD hS ls hl
      refine lv_iload_n X.1 X.2.1 dX12_lyndon_4 rfl (lv_at hl 0 rfl) ?_
      refine lv_aload_n X.1 X.2.1 dX12_lyndon_5 rfl (lv_at hl 2 rfl) ?_
      refine va_get (D := g.1) (ci := 11) (v := .int (nI n)) (C := RX12) (T := TX12) (N := 26) X.1 X.2.1 X.2.2.2.2 iwX12 X.2.2.2.1 hK hP 0 rfl rfl 1 (by decide) (X.2.2.2.2 _ q1021) (fun _ h9 => h9) rfl dX12_lyndon_6 ?_
      refine z_icmp_gt (tgt := 148) X dX12_lyndon_9 (by decide) (nI_toInt (by omega)) (nI_toInt (by omega)) (fun c9 => ?_) (fun c9 => ?_)
      · exfalso; omega
      · refine lv_iconst (v := (nI 0)) X.1 X.2.1 dX12_lyndon_12 (by decide) ?_
        refine lv_istore_n (lv' := [(3, .int (nI 0)), (2, .int (nI m)), (1, .int (nI rl.length)), (0, .ref m0)]) X.1 X.2.1 dX12_lyndon_13 rfl hl (by decide) rfl (fun ls hl => ?_)
        have L14 : ∀ (r2 : Nat) (b : Nat) (rl1 : List (Nat × Nat)) (fc2 : Nat → Int32) (fx2 : Nat → Int32) (hd : n % m = 0 → b + r2 = k ^ m ∧ ly2 k n r (m + 1) (ly1 k m r2 b rl1) = lyR k n) (hnd : n % m ≠ 0 → ly2 k n r (m + 1) rl1 = lyR k n) (hok1 : okR k n rl1) (hrp1 : lrp fc2 fx2 rl1) (H : Heap) (locs : List Loc) (hP : PP g [(m0, .inr (11, [.int (nI k), .int (nI n), .ref lt, .int (nI s.length), .ref er, .ref el, .int (nI h.length), .ref cm_, .int (nI c.length), .int (bI tk), .int (nI k0), .int (nI n0), .ref sv, .int (nI s0.length), .ref md, .int (nI (([] : List Nat).length)), .ref fmm, .ref lc, .ref lz, .ref af, .ref pt_, .int (nI p.length), .ref oc, .ref ty_, .ref sz_, .ref em])), (md, .inl (g.2.1, 256, .inl fm_)), (lc, .inl (g.2.1, 256, .inl fc2)), (lz, .inl (g.2.1, 256, .inl fx2))] H) (hD : va_D A [(m0, .inr (11, [.int (nI k), .int (nI n), .ref lt, .int (nI s.length), .ref er, .ref el, .int (nI h.length), .ref cm_, .int (nI c.length), .int (bI tk), .int (nI k0), .int (nI n0), .ref sv, .int (nI s0.length), .ref md, .int (nI (([] : List Nat).length)), .ref fmm, .ref lc, .ref lz, .ref af, .ref pt_, .int (nI p.length), .ref oc, .ref ty_, .ref sz_, .ref em])), (md, .inl (g.2.1, 256, .inl fm_)), (lc, .inl (g.2.1, 256, .inl fc2)), (lz, .inl (g.2.1, 256, .inl fx2))]) (hS : va_S A S_.heap H locs) (ls : Array Slot) (hl : lv_has ls 5 [(3, .int (nI b)), (2, .int (nI m)), (1, .int (nI rl1.length)), (0, .ref m0)]), W p_ l_ e_ { frames := 4, cells := 0, slots := 0, locals := 93 } S_ m_ args below meth co H locs 0 0 (MQ below (va_Qv (S := (Nat → Int32) × (Nat → Int32) × (Nat → Int32)) (fun u => rep u.1 (lyL k T n B 0)) (MuB g A (fun u => [(m0, .inr (11, [.int (nI k), .int (nI n), .ref lt, .int (nI s.length), .ref er, .ref el, .int (nI h.length), .ref cm_, .int (nI c.length), .int (bI tk), .int (nI k0), .int (nI n0), .ref sv, .int (nI s0.length), .ref md, .int (nI ((lyL k T n B 0).length)), .ref fmm, .ref lc, .ref lz, .ref af, .ref pt_, .int (nI p.length), .ref oc, .ref ty_, .ref sz_, .ref em])), (md, .inl (g.2.1, 256, .inl u.1)), (lc, .inl (g.2.1, 256, .inl u.2.1)), (lz, .inl (g.2.1, 256, .inl u.2.2))])) A) args S_ 0 0 A) (F0 m_ 14 ls []) := by
          intro r2
          induction r2 with
          | zero =>
            intro b rl1 fc2 fx2 hd hnd hok1 hrp1 H locs hP hD hS ls hl
            refine lv_aload_n X.1 X.2.1 dX12_lyndon_14 rfl (lv_at hl 3 rfl) ?_
            refine va_get (D := g.1) (ci := 11) (v := .int (nI n)) (C := RX12) (T := TX12) (N := 26) X.1 X.2.1 X.2.2.2.2 iwX12 X.2.2.2.1 hK hP 0 rfl rfl 1 (by decide) (X.2.2.2.2 _ q1021) (fun _ h9 => h9) rfl dX12_lyndon_15 ?_
            refine lv_iload_n X.1 X.2.1 dX12_lyndon_18 rfl (lv_at hl 1 rfl) ?_
            have hmd := Nat.mod_lt n (show 0 < m by omega)
            refine n_rem X dX12_lyndon_19 (by omega) (by omega) (by omega) ?_
            refine z_if_ne (tgt := 142) X dX12_lyndon_20 (by decide) (nI_toInt (by omega)) (fun c20 => ?_) (fun c20 => ?_)
            · have hx := hnd (by omega)
              refine lv_iinc (v := (nI (m + 1))) (lv' := [(2, .int (nI (m + 1))), (3, .int (nI b)), (1, .int (nI rl1.length)), (0, .ref m0)]) X.1 X.2.1 dX12_lyndon_142 hl (k := 1) rfl (nI_inc _) (by decide) rfl (fun ls hl => ?_)
              refine lv_goto (tgt := 4) X.1 X.2.1 dX12_lyndon_145 (by decide) ?_
              exact ih4 (m + 1) rl1 fc2 fx2 (by omega) (by omega) (by first | exact hx | exact hd1.2) (hok1) (hrp1) _ _ (hP.sub [0, 1, 2, 3] rfl) (hD.sub [0, 1, 2, 3] (by decide) rfl) hS ls (lv_sub hl [0, 2, 3] rfl)
            · have hd1 := hd (by omega)
              have hpm := pow_le hc (m := m) (by omega)
              refine lv_iload_n X.1 X.2.1 dX12_lyndon_23 rfl (lv_at hl 0 rfl) ?_
              refine lv_aload_n X.1 X.2.1 dX12_lyndon_24 rfl (lv_at hl 3 rfl) ?_
              refine va_get (D := g.1) (ci := 11) (v := .int (nI k)) (C := RX12) (T := TX12) (N := 26) X.1 X.2.1 X.2.2.2.2 iwX12 X.2.2.2.1 hK hP 0 rfl rfl 0 (by decide) (X.2.2.2.2 _ q1020) (fun _ h9 => h9) rfl dX12_lyndon_25 ?_
              refine lv_iload_n X.1 X.2.1 dX12_lyndon_28 rfl (lv_at hl 1 rfl) ?_
              refine (c_mpower g k m (by omega)).callS (rest := [.int (nI b)]) X dX12_lyndon_29 q1106 tX12_power hK (hP.sub [] rfl) hl ⟨⟨Nat.le_of_ble_eq_true rfl, Nat.le_of_ble_eq_true rfl⟩, Nat.le_of_ble_eq_true rfl, Nat.le_of_ble_eq_true rfl⟩ rfl rfl (Nat.le_of_ble_eq_true rfl) ?_
              refine z_icmp_ge (tgt := 142) X dX12_lyndon_32 (by decide) (nI_toInt (by omega)) (nI_toInt (by omega)) (fun c32 => ?_) (fun c32 => ?_)
              · refine lv_iinc (v := (nI (m + 1))) (lv' := [(2, .int (nI (m + 1))), (3, .int (nI b)), (1, .int (nI rl1.length)), (0, .ref m0)]) X.1 X.2.1 dX12_lyndon_142 hl (k := 1) rfl (nI_inc _) (by decide) rfl (fun ls hl => ?_)
                refine lv_goto (tgt := 4) X.1 X.2.1 dX12_lyndon_145 (by decide) ?_
                exact ih4 (m + 1) rl1 fc2 fx2 (by omega) (by omega) (by first | exact hx | exact hd1.2) (hok1) (hrp1) _ _ (hP.sub [0, 1, 2, 3] rfl) (hD.sub [0, 1, 2, 3] (by decide) rfl) hS ls (lv_sub hl [0, 2, 3] rfl)
              · exfalso; omega
          | succ r2 ih14 =>
            intro b rl1 fc2 fx2 hd hnd hok1 hrp1 H locs hP hD hS ls hl
            refine lv_aload_n X.1 X.2.1 dX12_lyndon_14 rfl (lv_at hl 3 rfl) ?_
            refine va_get (D := g.1) (ci := 11) (v := .int (nI n)) (C := RX12) (T := TX12) (N := 26) X.1 X.2.1 X.2.2.2.2 iwX12 X.2.2.2.1 hK hP 0 rfl rfl 1 (by decide) (X.2.2.2.2 _ q1021) (fun _ h9 => h9) rfl dX12_lyndon_15 ?_
            refine lv_iload_n X.1 X.2.1 dX12_lyndon_18 rfl (lv_at hl 1 rfl) ?_
            have hmd := Nat.mod_lt n (show 0 < m by omega)
            refine n_rem X dX12_lyndon_19 (by omega) (by omega) (by omega) ?_
            refine z_if_ne (tgt := 142) X dX12_lyndon_20 (by decide) (nI_toInt (by omega)) (fun c20 => ?_) (fun c20 => ?_)
            · have hx := hnd (by omega)
              refine lv_iinc (v := (nI (m + 1))) (lv' := [(2, .int (nI (m + 1))), (3, .int (nI b)), (1, .int (nI rl1.length)), (0, .ref m0)]) X.1 X.2.1 dX12_lyndon_142 hl (k := 1) rfl (nI_inc _) (by decide) rfl (fun ls hl => ?_)
              refine lv_goto (tgt := 4) X.1 X.2.1 dX12_lyndon_145 (by decide) ?_
              exact ih4 (m + 1) rl1 fc2 fx2 (by omega) (by omega) (by first | exact hx | exact hd1.2) (hok1) (hrp1) _ _ (hP.sub [0, 1, 2, 3] rfl) (hD.sub [0, 1, 2, 3] (by decide) rfl) hS ls (lv_sub hl [0, 2, 3] rfl)
            · have hd1 := hd (by omega)
              have hpm := pow_le hc (m := m) (by omega)
              refine lv_iload_n X.1 X.2.1 dX12_lyndon_23 rfl (lv_at hl 0 rfl) ?_
              refine lv_aload_n X.1 X.2.1 dX12_lyndon_24 rfl (lv_at hl 3 rfl) ?_
              refine va_get (D := g.1) (ci := 11) (v := .int (nI k)) (C := RX12) (T := TX12) (N := 26) X.1 X.2.1 X.2.2.2.2 iwX12 X.2.2.2.1 hK hP 0 rfl rfl 0 (by decide) (X.2.2.2.2 _ q1020) (fun _ h9 => h9) rfl dX12_lyndon_25 ?_
              refine lv_iload_n X.1 X.2.1 dX12_lyndon_28 rfl (lv_at hl 1 rfl) ?_
              refine (c_mpower g k m (by omega)).callS (rest := [.int (nI b)]) X dX12_lyndon_29 q1106 tX12_power hK (hP.sub [] rfl) hl ⟨⟨Nat.le_of_ble_eq_true rfl, Nat.le_of_ble_eq_true rfl⟩, Nat.le_of_ble_eq_true rfl, Nat.le_of_ble_eq_true rfl⟩ rfl rfl (Nat.le_of_ble_eq_true rfl) ?_
              refine z_icmp_ge (tgt := 142) X dX12_lyndon_32 (by decide) (nI_toInt (by omega)) (nI_toInt (by omega)) (fun c32 => ?_) (fun c32 => ?_)
              · exfalso; omega
              · refine lv_aload_n X.1 X.2.1 dX12_lyndon_35 rfl (lv_at hl 3 rfl) ?_
                refine lv_iload_n X.1 X.2.1 dX12_lyndon_36 rfl (lv_at hl 0 rfl) ?_
                refine lv_iload_n X.1 X.2.1 dX12_lyndon_37 rfl (lv_at hl 1 rfl) ?_
                refine (m_isLyndon g m0 lt er el cm_ sv md fmm lc lz af pt_ oc ty_ sz_ em k n s h c tk k0 n0 s0 ([] : List Nat) p m (k ^ m) (k ^ (m - 1)) b (shp_sub hc hm1 (by omega)) (by omega)).callV (rest := []) X dX12_lyndon_38 q1149 tX12_isLyndon hK (hP.sub [0] rfl) 0 11 rfl rfl rfl hl ⟨⟨Nat.le_of_ble_eq_true rfl, Nat.le_of_ble_eq_true rfl⟩, Nat.le_of_ble_eq_true rfl, Nat.le_of_ble_eq_true rfl⟩ rfl rfl (Nat.le_of_ble_eq_true rfl) ?_
                refine b_if_eq (tgt := 136) X dX12_lyndon_41 (by decide) (fun c41 => ?_) (fun c41 => ?_)
                · refine lv_iinc (v := (nI (b + 1))) (lv' := [(3, .int (nI (b + 1))), (2, .int (nI m)), (1, .int (nI rl1.length)), (0, .ref m0)]) X.1 X.2.1 dX12_lyndon_136 hl (k := 0) rfl (nI_inc _) (by decide) rfl (fun ls hl => ?_)
                  refine lv_goto (tgt := 14) X.1 X.2.1 dX12_lyndon_139 (by decide) ?_
                  exact ih14 (b + 1) rl1 fc2 fx2 (fun h => ⟨by omega, by have h9 := hd1.2; rw [ly1, c41] at h9; first | exact h9 | simpa using h9⟩) (fun h => by omega) (hok1) (hrp1) _ _ (hP.sub [0, 1, 2, 3] rfl) (hD.sub [0, 1, 2, 3] (by decide) rfl) hS ls (lv_sub hl [0, 1, 2, 3] rfl)
                · have h256 : rl1.length < 255 := ly_room c41 hd1.2 hl255
                  refine lv_iload_n X.1 X.2.1 dX12_lyndon_44 rfl (lv_at hl 2 rfl) ?_
                  refine lv_istore (lv' := [(4, .int (nI rl1.length)), (3, .int (nI b)), (2, .int (nI m)), (1, .int (nI rl1.length)), (0, .ref m0)]) X.1 X.2.1 dX12_lyndon_45 hl (by decide) rfl (fun ls hl => ?_)
                  have L47 : ∀ (a : Nat) (fc3 : Nat → Int32) (fx3 : Nat → Int32) (ha : a ≤ rl1.length) (hsz : ∀ j, j < rl1.length - a → szB k b m (rl1.getD j (0, 0)).1 (rl1.getD j (0, 0)).2 = true) (hA : hol a fc3 fx3 rl1) (H : Heap) (locs : List Loc) (hP : PP g [(m0, .inr (11, [.int (nI k), .int (nI n), .ref lt, .int (nI s.length), .ref er, .ref el, .int (nI h.length), .ref cm_, .int (nI c.length), .int (bI tk), .int (nI k0), .int (nI n0), .ref sv, .int (nI s0.length), .ref md, .int (nI (([] : List Nat).length)), .ref fmm, .ref lc, .ref lz, .ref af, .ref pt_, .int (nI p.length), .ref oc, .ref ty_, .ref sz_, .ref em])), (md, .inl (g.2.1, 256, .inl fm_)), (lc, .inl (g.2.1, 256, .inl fc3)), (lz, .inl (g.2.1, 256, .inl fx3))] H) (hD : va_D A [(m0, .inr (11, [.int (nI k), .int (nI n), .ref lt, .int (nI s.length), .ref er, .ref el, .int (nI h.length), .ref cm_, .int (nI c.length), .int (bI tk), .int (nI k0), .int (nI n0), .ref sv, .int (nI s0.length), .ref md, .int (nI (([] : List Nat).length)), .ref fmm, .ref lc, .ref lz, .ref af, .ref pt_, .int (nI p.length), .ref oc, .ref ty_, .ref sz_, .ref em])), (md, .inl (g.2.1, 256, .inl fm_)), (lc, .inl (g.2.1, 256, .inl fc3)), (lz, .inl (g.2.1, 256, .inl fx3))]) (hS : va_S A S_.heap H locs) (ls : Array Slot) (hl : lv_has ls 5 [(4, .int (nI a)), (3, .int (nI b)), (2, .int (nI m)), (1, .int (nI rl1.length)), (0, .ref m0)]), W p_ l_ e_ { frames := 4, cells := 0, slots := 0, locals := 93 } S_ m_ args below meth co H locs 0 0 (MQ below (va_Qv (S := (Nat → Int32) × (Nat → Int32) × (Nat → Int32)) (fun u => rep u.1 (lyL k T n B 0)) (MuB g A (fun u => [(m0, .inr (11, [.int (nI k), .int (nI n), .ref lt, .int (nI s.length), .ref er, .ref el, .int (nI h.length), .ref cm_, .int (nI c.length), .int (bI tk), .int (nI k0), .int (nI n0), .ref sv, .int (nI s0.length), .ref md, .int (nI ((lyL k T n B 0).length)), .ref fmm, .ref lc, .ref lz, .ref af, .ref pt_, .int (nI p.length), .ref oc, .ref ty_, .ref sz_, .ref em])), (md, .inl (g.2.1, 256, .inl u.1)), (lc, .inl (g.2.1, 256, .inl u.2.1)), (lz, .inl (g.2.1, 256, .inl u.2.2))])) A) args S_ 0 0 A) (F0 m_ 47 ls []) := by
                    intro a
                    induction a with
                    | zero =>
                      intro fc3 fx3 ha hsz hA H locs hP hD hS ls hl
                      refine lv_iload X.1 X.2.1 dX12_lyndon_47 (lv_at hl 0 rfl) ?_
                      refine z_if_le (tgt := 117) X dX12_lyndon_49 (by decide) (nI_toInt (by omega)) (fun c49 => ?_) (fun c49 => ?_)
                      · have hne := hol_end (k := k) (b := b) (m := m) hA (by omega) hsz (Or.inl rfl)
                        refine lv_aload_n X.1 X.2.1 dX12_lyndon_117 rfl (lv_at hl 4 rfl) ?_
                        refine va_get (D := g.1) (ci := 11) (v := .ref lc) (C := RX12) (T := TX12) (N := 26) X.1 X.2.1 X.2.2.2.2 iwX12 X.2.2.2.1 hK hP 0 rfl rfl 17 (by decide) (X.2.2.2.2 _ q1037) (fun _ h9 => h9) rfl dX12_lyndon_118 ?_
                        refine lv_iload X.1 X.2.1 dX12_lyndon_121 (lv_at hl 0 rfl) ?_
                        refine lv_iload_n X.1 X.2.1 dX12_lyndon_123 rfl (lv_at hl 1 rfl) ?_
                        refine n_iast X hK hP hD hS 2 0 rfl rfl (by omega) (by decide) dX12_lyndon_124 (fun H locs hP hD hS => ?_)
                        have hP : PP g [(m0, .inr (11, [.int (nI k), .int (nI n), .ref lt, .int (nI s.length), .ref er, .ref el, .int (nI h.length), .ref cm_, .int (nI c.length), .int (bI tk), .int (nI k0), .int (nI n0), .ref sv, .int (nI s0.length), .ref md, .int (nI (([] : List Nat).length)), .ref fmm, .ref lc, .ref lz, .ref af, .ref pt_, .int (nI p.length), .ref oc, .ref ty_, .ref sz_, .ref em])), (md, .inl (g.2.1, 256, .inl fm_)), (lc, .inl (g.2.1, 256, .inl (upd fc3 0 (nI b)))), (lz, .inl (g.2.1, 256, .inl fx3))] H := hP
                        have hD : va_D A [(m0, .inr (11, [.int (nI k), .int (nI n), .ref lt, .int (nI s.length), .ref er, .ref el, .int (nI h.length), .ref cm_, .int (nI c.length), .int (bI tk), .int (nI k0), .int (nI n0), .ref sv, .int (nI s0.length), .ref md, .int (nI (([] : List Nat).length)), .ref fmm, .ref lc, .ref lz, .ref af, .ref pt_, .int (nI p.length), .ref oc, .ref ty_, .ref sz_, .ref em])), (md, .inl (g.2.1, 256, .inl fm_)), (lc, .inl (g.2.1, 256, .inl (upd fc3 0 (nI b)))), (lz, .inl (g.2.1, 256, .inl fx3))] := hD
                        refine lv_aload_n X.1 X.2.1 dX12_lyndon_125 rfl (lv_at hl 4 rfl) ?_
                        refine va_get (D := g.1) (ci := 11) (v := .ref lz) (C := RX12) (T := TX12) (N := 26) X.1 X.2.1 X.2.2.2.2 iwX12 X.2.2.2.1 hK hP 0 rfl rfl 18 (by decide) (X.2.2.2.2 _ q1038) (fun _ h9 => h9) rfl dX12_lyndon_126 ?_
                        refine lv_iload X.1 X.2.1 dX12_lyndon_129 (lv_at hl 0 rfl) ?_
                        refine lv_iload_n X.1 X.2.1 dX12_lyndon_131 rfl (lv_at hl 2 rfl) ?_
                        refine n_iast X hK hP hD hS 3 0 rfl rfl (by omega) (by decide) dX12_lyndon_132 (fun H locs hP hD hS => ?_)
                        have hP : PP g [(m0, .inr (11, [.int (nI k), .int (nI n), .ref lt, .int (nI s.length), .ref er, .ref el, .int (nI h.length), .ref cm_, .int (nI c.length), .int (bI tk), .int (nI k0), .int (nI n0), .ref sv, .int (nI s0.length), .ref md, .int (nI (([] : List Nat).length)), .ref fmm, .ref lc, .ref lz, .ref af, .ref pt_, .int (nI p.length), .ref oc, .ref ty_, .ref sz_, .ref em])), (md, .inl (g.2.1, 256, .inl fm_)), (lc, .inl (g.2.1, 256, .inl (upd fc3 0 (nI b)))), (lz, .inl (g.2.1, 256, .inl (upd fx3 0 (nI m))))] H := hP
                        have hD : va_D A [(m0, .inr (11, [.int (nI k), .int (nI n), .ref lt, .int (nI s.length), .ref er, .ref el, .int (nI h.length), .ref cm_, .int (nI c.length), .int (bI tk), .int (nI k0), .int (nI n0), .ref sv, .int (nI s0.length), .ref md, .int (nI (([] : List Nat).length)), .ref fmm, .ref lc, .ref lz, .ref af, .ref pt_, .int (nI p.length), .ref oc, .ref ty_, .ref sz_, .ref em])), (md, .inl (g.2.1, 256, .inl fm_)), (lc, .inl (g.2.1, 256, .inl (upd fc3 0 (nI b)))), (lz, .inl (g.2.1, 256, .inl (upd fx3 0 (nI m))))] := hD
                        refine lv_iinc (v := (nI ((insR k b m rl1).length))) (lv' := [(1, .int (nI ((insR k b m rl1).length))), (4, .int (nI 0)), (3, .int (nI b)), (2, .int (nI m)), (0, .ref m0)]) X.1 X.2.1 dX12_lyndon_133 hl (k := 3) rfl (by rw [insR_len]; exact nI_inc _) (by decide) rfl (fun ls hl => ?_)
                        refine lv_iinc (v := (nI (b + 1))) (lv' := [(3, .int (nI (b + 1))), (1, .int (nI ((insR k b m rl1).length))), (4, .int (nI 0)), (2, .int (nI m)), (0, .ref m0)]) X.1 X.2.1 dX12_lyndon_136 hl (k := 2) rfl (nI_inc _) (by decide) rfl (fun ls hl => ?_)
                        refine lv_goto (tgt := 14) X.1 X.2.1 dX12_lyndon_139 (by decide) ?_
                        exact ih14 (b + 1) (insR k b m rl1) (upd fc3 0 (nI b)) (upd fx3 0 (nI m)) (fun h => ⟨by omega, by have h9 := hd1.2; rw [ly1, c41] at h9; exact h9⟩) (fun h => by omega) (okR_ins hm1 (by omega) (by omega) hok1) (hne) _ _ (hP.sub [0, 1, 2, 3] rfl) (hD.sub [0, 1, 2, 3] (by decide) rfl) hS ls (lv_sub hl [0, 3, 1, 4] rfl)
                      · exfalso; omega
                    | succ a ih47 =>
                      intro fc3 fx3 ha hsz hA H locs hP hD hS ls hl
                      refine lv_iload X.1 X.2.1 dX12_lyndon_47 (lv_at hl 0 rfl) ?_
                      refine z_if_le (tgt := 117) X dX12_lyndon_49 (by decide) (nI_toInt (by omega)) (fun c49 => ?_) (fun c49 => ?_)
                      · exfalso; omega
                      · refine lv_aload_n X.1 X.2.1 dX12_lyndon_52 rfl (lv_at hl 4 rfl) ?_
                        refine lv_iload_n X.1 X.2.1 dX12_lyndon_53 rfl (lv_at hl 1 rfl) ?_
                        refine lv_iload_n X.1 X.2.1 dX12_lyndon_54 rfl (lv_at hl 2 rfl) ?_
                        refine lv_aload_n X.1 X.2.1 dX12_lyndon_55 rfl (lv_at hl 4 rfl) ?_
                        refine va_get (D := g.1) (ci := 11) (v := .ref lc) (C := RX12) (T := TX12) (N := 26) X.1 X.2.1 X.2.2.2.2 iwX12 X.2.2.2.1 hK hP 0 rfl rfl 17 (by decide) (X.2.2.2.2 _ q1037) (fun _ h9 => h9) rfl dX12_lyndon_56 ?_
                        refine lv_iload X.1 X.2.1 dX12_lyndon_59 (lv_at hl 0 rfl) ?_
                        refine lv_iconst (v := (nI 1)) X.1 X.2.1 dX12_lyndon_61 (by decide) ?_
                        refine n_sub X dX12_lyndon_62 (by omega) ?_
                        refine n_iald X hK hP 2 0 rfl rfl (by omega) (by decide) dX12_lyndon_63 ?_
                        have hoa := hok1 (rl1.length - 1 - a) (by omega)
                        have hpa := pow_le hc hoa.2.1
                        refine tp_i (y := (nI ((rl1.getD (rl1.length - 1 - a) (0, 0)).1))) ((hol_lo hA (by omega)).1) ?_
                        refine lv_aload_n X.1 X.2.1 dX12_lyndon_64 rfl (lv_at hl 4 rfl) ?_
                        refine va_get (D := g.1) (ci := 11) (v := .ref lz) (C := RX12) (T := TX12) (N := 26) X.1 X.2.1 X.2.2.2.2 iwX12 X.2.2.2.1 hK hP 0 rfl rfl 18 (by decide) (X.2.2.2.2 _ q1038) (fun _ h9 => h9) rfl dX12_lyndon_65 ?_
                        refine lv_iload X.1 X.2.1 dX12_lyndon_68 (lv_at hl 0 rfl) ?_
                        refine lv_iconst (v := (nI 1)) X.1 X.2.1 dX12_lyndon_70 (by decide) ?_
                        refine n_sub X dX12_lyndon_71 (by omega) ?_
                        refine n_iald X hK hP 3 0 rfl rfl (by omega) (by decide) dX12_lyndon_72 ?_
                        refine tp_i (y := (nI ((rl1.getD (rl1.length - 1 - a) (0, 0)).2))) ((hol_lo hA (by omega)).2) ?_
                        refine (m_isSmaller g m0 lt er el cm_ sv md fmm lc lz af pt_ oc ty_ sz_ em k n s h c tk k0 n0 s0 ([] : List Nat) p B T b m ((rl1.getD (rl1.length - 1 - a) (0, 0)).1) ((rl1.getD (rl1.length - 1 - a) (0, 0)).2) (by assumption) (by omega) (by omega) (by omega) (by omega) (by omega) (by omega)).callV (rest := []) X dX12_lyndon_73 q1166 tX12_isSmaller hK (hP.sub [0] rfl) 0 11 rfl rfl rfl hl ⟨⟨Nat.le_of_ble_eq_true rfl, Nat.le_of_ble_eq_true rfl⟩, Nat.le_of_ble_eq_true rfl, Nat.le_of_ble_eq_true rfl⟩ rfl rfl (Nat.le_of_ble_eq_true rfl) ?_
                        refine b_if_eq (tgt := 117) X dX12_lyndon_76 (by decide) (fun c76 => ?_) (fun c76 => ?_)
                        · have hne := hol_end (k := k) (b := b) (m := m) hA ha hsz (Or.inr (by rw [show rl1.length - (a + 1) = rl1.length - 1 - a by omega]; exact c76))
                          refine lv_aload_n X.1 X.2.1 dX12_lyndon_117 rfl (lv_at hl 4 rfl) ?_
                          refine va_get (D := g.1) (ci := 11) (v := .ref lc) (C := RX12) (T := TX12) (N := 26) X.1 X.2.1 X.2.2.2.2 iwX12 X.2.2.2.1 hK hP 0 rfl rfl 17 (by decide) (X.2.2.2.2 _ q1037) (fun _ h9 => h9) rfl dX12_lyndon_118 ?_
                          refine lv_iload X.1 X.2.1 dX12_lyndon_121 (lv_at hl 0 rfl) ?_
                          refine lv_iload_n X.1 X.2.1 dX12_lyndon_123 rfl (lv_at hl 1 rfl) ?_
                          refine n_iast X hK hP hD hS 2 0 rfl rfl (by omega) (by decide) dX12_lyndon_124 (fun H locs hP hD hS => ?_)
                          have hP : PP g [(m0, .inr (11, [.int (nI k), .int (nI n), .ref lt, .int (nI s.length), .ref er, .ref el, .int (nI h.length), .ref cm_, .int (nI c.length), .int (bI tk), .int (nI k0), .int (nI n0), .ref sv, .int (nI s0.length), .ref md, .int (nI (([] : List Nat).length)), .ref fmm, .ref lc, .ref lz, .ref af, .ref pt_, .int (nI p.length), .ref oc, .ref ty_, .ref sz_, .ref em])), (md, .inl (g.2.1, 256, .inl fm_)), (lc, .inl (g.2.1, 256, .inl (upd fc3 (a + 1) (nI b)))), (lz, .inl (g.2.1, 256, .inl fx3))] H := hP
                          have hD : va_D A [(m0, .inr (11, [.int (nI k), .int (nI n), .ref lt, .int (nI s.length), .ref er, .ref el, .int (nI h.length), .ref cm_, .int (nI c.length), .int (bI tk), .int (nI k0), .int (nI n0), .ref sv, .int (nI s0.length), .ref md, .int (nI (([] : List Nat).length)), .ref fmm, .ref lc, .ref lz, .ref af, .ref pt_, .int (nI p.length), .ref oc, .ref ty_, .ref sz_, .ref em])), (md, .inl (g.2.1, 256, .inl fm_)), (lc, .inl (g.2.1, 256, .inl (upd fc3 (a + 1) (nI b)))), (lz, .inl (g.2.1, 256, .inl fx3))] := hD
                          refine lv_aload_n X.1 X.2.1 dX12_lyndon_125 rfl (lv_at hl 4 rfl) ?_
                          refine va_get (D := g.1) (ci := 11) (v := .ref lz) (C := RX12) (T := TX12) (N := 26) X.1 X.2.1 X.2.2.2.2 iwX12 X.2.2.2.1 hK hP 0 rfl rfl 18 (by decide) (X.2.2.2.2 _ q1038) (fun _ h9 => h9) rfl dX12_lyndon_126 ?_
                          refine lv_iload X.1 X.2.1 dX12_lyndon_129 (lv_at hl 0 rfl) ?_
                          refine lv_iload_n X.1 X.2.1 dX12_lyndon_131 rfl (lv_at hl 2 rfl) ?_
                          refine n_iast X hK hP hD hS 3 0 rfl rfl (by omega) (by decide) dX12_lyndon_132 (fun H locs hP hD hS => ?_)
                          have hP : PP g [(m0, .inr (11, [.int (nI k), .int (nI n), .ref lt, .int (nI s.length), .ref er, .ref el, .int (nI h.length), .ref cm_, .int (nI c.length), .int (bI tk), .int (nI k0), .int (nI n0), .ref sv, .int (nI s0.length), .ref md, .int (nI (([] : List Nat).length)), .ref fmm, .ref lc, .ref lz, .ref af, .ref pt_, .int (nI p.length), .ref oc, .ref ty_, .ref sz_, .ref em])), (md, .inl (g.2.1, 256, .inl fm_)), (lc, .inl (g.2.1, 256, .inl (upd fc3 (a + 1) (nI b)))), (lz, .inl (g.2.1, 256, .inl (upd fx3 (a + 1) (nI m))))] H := hP
                          have hD : va_D A [(m0, .inr (11, [.int (nI k), .int (nI n), .ref lt, .int (nI s.length), .ref er, .ref el, .int (nI h.length), .ref cm_, .int (nI c.length), .int (bI tk), .int (nI k0), .int (nI n0), .ref sv, .int (nI s0.length), .ref md, .int (nI (([] : List Nat).length)), .ref fmm, .ref lc, .ref lz, .ref af, .ref pt_, .int (nI p.length), .ref oc, .ref ty_, .ref sz_, .ref em])), (md, .inl (g.2.1, 256, .inl fm_)), (lc, .inl (g.2.1, 256, .inl (upd fc3 (a + 1) (nI b)))), (lz, .inl (g.2.1, 256, .inl (upd fx3 (a + 1) (nI m))))] := hD
                          refine lv_iinc (v := (nI ((insR k b m rl1).length))) (lv' := [(1, .int (nI ((insR k b m rl1).length))), (4, .int (nI (a + 1))), (3, .int (nI b)), (2, .int (nI m)), (0, .ref m0)]) X.1 X.2.1 dX12_lyndon_133 hl (k := 3) rfl (by rw [insR_len]; exact nI_inc _) (by decide) rfl (fun ls hl => ?_)
                          refine lv_iinc (v := (nI (b + 1))) (lv' := [(3, .int (nI (b + 1))), (1, .int (nI ((insR k b m rl1).length))), (4, .int (nI (a + 1))), (2, .int (nI m)), (0, .ref m0)]) X.1 X.2.1 dX12_lyndon_136 hl (k := 2) rfl (nI_inc _) (by decide) rfl (fun ls hl => ?_)
                          refine lv_goto (tgt := 14) X.1 X.2.1 dX12_lyndon_139 (by decide) ?_
                          exact ih14 (b + 1) (insR k b m rl1) (upd fc3 (a + 1) (nI b)) (upd fx3 (a + 1) (nI m)) (fun h => ⟨by omega, by have h9 := hd1.2; rw [ly1, c41] at h9; exact h9⟩) (fun h => by omega) (okR_ins hm1 (by omega) (by omega) hok1) (hne) _ _ (hP.sub [0, 1, 2, 3] rfl) (hD.sub [0, 1, 2, 3] (by decide) rfl) hS ls (lv_sub hl [0, 3, 1, 4] rfl)
                        · refine lv_aload_n X.1 X.2.1 dX12_lyndon_79 rfl (lv_at hl 4 rfl) ?_
                          refine va_get (D := g.1) (ci := 11) (v := .ref lc) (C := RX12) (T := TX12) (N := 26) X.1 X.2.1 X.2.2.2.2 iwX12 X.2.2.2.1 hK hP 0 rfl rfl 17 (by decide) (X.2.2.2.2 _ q1037) (fun _ h9 => h9) rfl dX12_lyndon_80 ?_
                          refine lv_iload X.1 X.2.1 dX12_lyndon_83 (lv_at hl 0 rfl) ?_
                          refine lv_aload_n X.1 X.2.1 dX12_lyndon_85 rfl (lv_at hl 4 rfl) ?_
                          refine va_get (D := g.1) (ci := 11) (v := .ref lc) (C := RX12) (T := TX12) (N := 26) X.1 X.2.1 X.2.2.2.2 iwX12 X.2.2.2.1 hK hP 0 rfl rfl 17 (by decide) (X.2.2.2.2 _ q1037) (fun _ h9 => h9) rfl dX12_lyndon_86 ?_
                          refine lv_iload X.1 X.2.1 dX12_lyndon_89 (lv_at hl 0 rfl) ?_
                          refine lv_iconst (v := (nI 1)) X.1 X.2.1 dX12_lyndon_91 (by decide) ?_
                          refine n_sub X dX12_lyndon_92 (by omega) ?_
                          refine n_iald X hK hP 2 0 rfl rfl (by omega) (by decide) dX12_lyndon_93 ?_
                          refine tp_i (y := (nI ((rl1.getD (rl1.length - 1 - a) (0, 0)).1))) ((hol_lo hA (by omega)).1) ?_
                          refine n_iast X hK hP hD hS 2 0 rfl rfl (by omega) (by decide) dX12_lyndon_94 (fun H locs hP hD hS => ?_)
                          have hP : PP g [(m0, .inr (11, [.int (nI k), .int (nI n), .ref lt, .int (nI s.length), .ref er, .ref el, .int (nI h.length), .ref cm_, .int (nI c.length), .int (bI tk), .int (nI k0), .int (nI n0), .ref sv, .int (nI s0.length), .ref md, .int (nI (([] : List Nat).length)), .ref fmm, .ref lc, .ref lz, .ref af, .ref pt_, .int (nI p.length), .ref oc, .ref ty_, .ref sz_, .ref em])), (md, .inl (g.2.1, 256, .inl fm_)), (lc, .inl (g.2.1, 256, .inl (upd fc3 (a + 1) (nI ((rl1.getD (rl1.length - 1 - a) (0, 0)).1))))), (lz, .inl (g.2.1, 256, .inl fx3))] H := hP
                          have hD : va_D A [(m0, .inr (11, [.int (nI k), .int (nI n), .ref lt, .int (nI s.length), .ref er, .ref el, .int (nI h.length), .ref cm_, .int (nI c.length), .int (bI tk), .int (nI k0), .int (nI n0), .ref sv, .int (nI s0.length), .ref md, .int (nI (([] : List Nat).length)), .ref fmm, .ref lc, .ref lz, .ref af, .ref pt_, .int (nI p.length), .ref oc, .ref ty_, .ref sz_, .ref em])), (md, .inl (g.2.1, 256, .inl fm_)), (lc, .inl (g.2.1, 256, .inl (upd fc3 (a + 1) (nI ((rl1.getD (rl1.length - 1 - a) (0, 0)).1))))), (lz, .inl (g.2.1, 256, .inl fx3))] := hD
                          refine lv_aload_n X.1 X.2.1 dX12_lyndon_95 rfl (lv_at hl 4 rfl) ?_
                          refine va_get (D := g.1) (ci := 11) (v := .ref lz) (C := RX12) (T := TX12) (N := 26) X.1 X.2.1 X.2.2.2.2 iwX12 X.2.2.2.1 hK hP 0 rfl rfl 18 (by decide) (X.2.2.2.2 _ q1038) (fun _ h9 => h9) rfl dX12_lyndon_96 ?_
                          refine lv_iload X.1 X.2.1 dX12_lyndon_99 (lv_at hl 0 rfl) ?_
                          refine lv_aload_n X.1 X.2.1 dX12_lyndon_101 rfl (lv_at hl 4 rfl) ?_
                          refine va_get (D := g.1) (ci := 11) (v := .ref lz) (C := RX12) (T := TX12) (N := 26) X.1 X.2.1 X.2.2.2.2 iwX12 X.2.2.2.1 hK hP 0 rfl rfl 18 (by decide) (X.2.2.2.2 _ q1038) (fun _ h9 => h9) rfl dX12_lyndon_102 ?_
                          refine lv_iload X.1 X.2.1 dX12_lyndon_105 (lv_at hl 0 rfl) ?_
                          refine lv_iconst (v := (nI 1)) X.1 X.2.1 dX12_lyndon_107 (by decide) ?_
                          refine n_sub X dX12_lyndon_108 (by omega) ?_
                          refine n_iald X hK hP 3 0 rfl rfl (by omega) (by decide) dX12_lyndon_109 ?_
                          refine tp_i (y := (nI ((rl1.getD (rl1.length - 1 - a) (0, 0)).2))) ((hol_lo hA (by omega)).2) ?_
                          refine n_iast X hK hP hD hS 3 0 rfl rfl (by omega) (by decide) dX12_lyndon_110 (fun H locs hP hD hS => ?_)
                          have hP : PP g [(m0, .inr (11, [.int (nI k), .int (nI n), .ref lt, .int (nI s.length), .ref er, .ref el, .int (nI h.length), .ref cm_, .int (nI c.length), .int (bI tk), .int (nI k0), .int (nI n0), .ref sv, .int (nI s0.length), .ref md, .int (nI (([] : List Nat).length)), .ref fmm, .ref lc, .ref lz, .ref af, .ref pt_, .int (nI p.length), .ref oc, .ref ty_, .ref sz_, .ref em])), (md, .inl (g.2.1, 256, .inl fm_)), (lc, .inl (g.2.1, 256, .inl (upd fc3 (a + 1) (nI ((rl1.getD (rl1.length - 1 - a) (0, 0)).1))))), (lz, .inl (g.2.1, 256, .inl (upd fx3 (a + 1) (nI ((rl1.getD (rl1.length - 1 - a) (0, 0)).2)))))] H := hP
                          have hD : va_D A [(m0, .inr (11, [.int (nI k), .int (nI n), .ref lt, .int (nI s.length), .ref er, .ref el, .int (nI h.length), .ref cm_, .int (nI c.length), .int (bI tk), .int (nI k0), .int (nI n0), .ref sv, .int (nI s0.length), .ref md, .int (nI (([] : List Nat).length)), .ref fmm, .ref lc, .ref lz, .ref af, .ref pt_, .int (nI p.length), .ref oc, .ref ty_, .ref sz_, .ref em])), (md, .inl (g.2.1, 256, .inl fm_)), (lc, .inl (g.2.1, 256, .inl (upd fc3 (a + 1) (nI ((rl1.getD (rl1.length - 1 - a) (0, 0)).1))))), (lz, .inl (g.2.1, 256, .inl (upd fx3 (a + 1) (nI ((rl1.getD (rl1.length - 1 - a) (0, 0)).2)))))] := hD
                          refine lv_iinc (v := (nI ((a + 1) - 1))) (lv' := [(4, .int (nI ((a + 1) - 1))), (3, .int (nI b)), (2, .int (nI m)), (1, .int (nI rl1.length)), (0, .ref m0)]) X.1 X.2.1 dX12_lyndon_111 hl (k := 0) rfl (nI_dec (by omega)) (by decide) rfl (fun ls hl => ?_)
                          refine lv_goto (tgt := 47) X.1 X.2.1 dX12_lyndon_114 (by decide) ?_
                          exact ih47 (upd fc3 (a + 1) (nI ((rl1.getD (rl1.length - 1 - a) (0, 0)).1))) (upd fx3 (a + 1) (nI ((rl1.getD (rl1.length - 1 - a) (0, 0)).2))) (by omega) (fun j hj => by (by_cases e : j = rl1.length - 1 - a) <;> first | (subst e; exact c76) | exact hsz j (by omega)) (hol_s hA (by omega)) _ _ (hP.sub [0, 1, 2, 3] rfl) (hD.sub [0, 1, 2, 3] (by decide) rfl) hS ls (lv_sub hl [0, 1, 2, 3, 4] rfl)
                  exact L47 rl1.length fc2 fx2 (by omega) (fun j hj => by omega) (hol_0 hrp1) _ _ (hP.sub [0, 1, 2, 3] rfl) (hD.sub [0, 1, 2, 3] (by decide) rfl) hS ls (lv_sub hl [0, 1, 2, 3, 4] rfl)
        exact L14 (k ^ m) 0 rl fc1 fx1 (fun h => ⟨by omega, by rw [ly2, if_pos h] at hq; exact hq⟩) (fun h => by rw [ly2, if_neg h] at hq; exact hq) (hok) (hrp) _ _ (hP.sub [0, 1, 2, 3] rfl) (hD.sub [0, 1, 2, 3] (by decide) rfl) hS ls (lv_sub hl [0, 1, 2, 3] rfl)
  exact L4 n 1 ([] : List (Nat × Nat)) fc_ fx (by omega) (by omega) (rfl) (fun j hj => absurd hj (Nat.not_lt_zero j)) (fun j hj => absurd hj (Nat.not_lt_zero j)) _ _ (hP.sub [0, 1, 2, 3] rfl) (hD.sub [0, 1, 2, 3] (by decide) rfl) hS ls (lv_sub hl [0, 1, 2] rfl)
