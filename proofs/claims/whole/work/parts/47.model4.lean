set_option maxHeartbeats 4000000 in
set_option maxRecDepth 100000 in
theorem m_exchange_ok (g : G5) (m0 : Nat) (lt : Nat) (er : Nat) (el : Nat) (cm_ : Nat) (sv : Nat) (md : Nat) (fmm : Nat) (lc : Nat) (lz : Nat) (af : Nat) (pt_ : Nat) (oc : Nat) (ty_ : Nat) (sz_ : Nat) (em : Nat) (k : Nat) (n : Nat) (s : List Nat) (h : List (List Nat)) (c : List Nat) (tk : Bool) (k0 : Nat) (n0 : Nat) (s0 : List Nat) (z : List Nat) (p : List Int) (f : Nat → Int32) (fe : Nat → Int32) (fl : Nat → Int32) (fm_ : Nat → Int32) (B : Nat) (T : Nat) (i1 : Nat) (i2 : Nat) (i3 : Nat) (i4 : Nat) (hc : shp k n B T) (hs : s.length ≤ 256) (hf : rep f s) (hlt : ltk k s) (hh : hrm fe fl h) (h12 : i1 < i2) (h23 : i2 < i3) (h34 : i3 < i4) (h4 : i4 < s.length) (r1 : repB s i1 i3 (n - 1) = true) (r2 : repB s i2 i4 (n - 1) = true) : MuI (S := (Nat → Int32) × (Nat → Int32) × (Nat → Int32) × (Nat → Int32)) yX12_exchange cX12_exchange 7 (some .int) 3 71 g [.ref m0, .int (nI i1), .int (nI i2), .int (nI i3), .int (nI i4)] [(m0, .inr (11, [.int (nI k), .int (nI n), .ref lt, .int (nI s.length), .ref er, .ref el, .int (nI h.length), .ref cm_, .int (nI c.length), .int (bI tk), .int (nI k0), .int (nI n0), .ref sv, .int (nI s0.length), .ref md, .int (nI z.length), .ref fmm, .ref lc, .ref lz, .ref af, .ref pt_, .int (nI p.length), .ref oc, .ref ty_, .ref sz_, .ref em])), (lt, .inl (g.2.1, 256, .inl f)), (er, .inl (g.2.1, 1536, .inl fe)), (el, .inl (g.2.1, 6, .inl fl)), (md, .inl (g.2.1, 256, .inl fm_))] (fun r u => r = (nI (if sameB (excL s i1 i2 i3 i4) s then 0 else 1)) ∧ rep u.1 (excL s i1 i2 i3 i4) ∧ hrm u.2.1 u.2.2.1 ((s :: h).take 6)) (fun u => [(m0, .inr (11, [.int (nI k), .int (nI n), .ref lt, .int (nI ((excL s i1 i2 i3 i4).length)), .ref er, .ref el, .int (nI (((s :: h).take 6).length)), .ref cm_, .int (nI c.length), .int (bI tk), .int (nI k0), .int (nI n0), .ref sv, .int (nI s0.length), .ref md, .int (nI ((excL s i1 i2 i3 i4).length)), .ref fmm, .ref lc, .ref lz, .ref af, .ref pt_, .int (nI p.length), .ref oc, .ref ty_, .ref sz_, .ref em])), (lt, .inl (g.2.1, 256, .inl u.1)), (er, .inl (g.2.1, 1536, .inl u.2.1)), (el, .inl (g.2.1, 6, .inl u.2.2.1)), (md, .inl (g.2.1, 256, .inl u.2.2.2))]) := by
  refine MuI.of (by decide +kernel) (Nat.le_of_ble_eq_true rfl) ?_
  intro p_ l_ e_ S_ m_ args below meth co X hr hlk hP hK A hA hD hS ls hl
  have X : CallFix p_ m_ co cX12_exchange 7 S_ args lw_all RX12 := X
  have hl : lv_has ls 7 [(0, .ref m0), (1, .int (nI i1)), (2, .int (nI i2)), (3, .int (nI i3)), (4, .int (nI i4))] := hl
  obtain ⟨hk2, hk4, hn1, hn6, hB, hT, hBT, hT2⟩ := hc.f
  have hB0 : 0 < B := by rw [hBT]; exact Nat.mul_pos (by omega) (by omega)
  have hbs := hlt.bd hk4
  have p1 : hasB (nI i1) s.length = true := by rw [hasB_N (by omega)]; exact decide_eq_true (by omega)
  have p2 : hasB (nI i2) s.length = true := by rw [hasB_N (by omega)]; exact decide_eq_true (by omega)
  have p3 : hasB (nI i3) s.length = true := by rw [hasB_N (by omega)]; exact decide_eq_true (by omega)
  have p4 : hasB (nI i4) s.length = true := by rw [hasB_N (by omega)]; exact decide_eq_true (by omega)
  have hbz := (ltk_exc hlt (by omega) i1 i2 i3 i4).bd hk4
  have hlz := excL_len h12 h23 h34 h4
  refine lv_aload_n X.1 X.2.1 dX12_exchange_0 rfl (lv_at hl 0 rfl) ?_
  refine lv_iload_n X.1 X.2.1 dX12_exchange_1 rfl (lv_at hl 1 rfl) ?_
  refine (m_isPosition g m0 lt er el cm_ sv md fmm lc lz af pt_ oc ty_ sz_ em k n s h c tk k0 n0 s0 z p (nI i1) (by omega)).callV (rest := []) X dX12_exchange_2 q1129 tX12_isPosition hK (hP.sub [0] rfl) 0 11 rfl rfl rfl hl ⟨⟨Nat.le_of_ble_eq_true rfl, Nat.le_of_ble_eq_true rfl⟩, Nat.le_of_ble_eq_true rfl, Nat.le_of_ble_eq_true rfl⟩ rfl rfl (Nat.le_of_ble_eq_true rfl) ?_
  refine b_if_eq (tgt := 33) X dX12_exchange_5 (by decide) (fun c5 => ?_) (fun c5 => ?_)
  · exfalso; rw [p1] at c5; cases c5
  · refine lv_aload_n X.1 X.2.1 dX12_exchange_8 rfl (lv_at hl 0 rfl) ?_
    refine lv_iload_n X.1 X.2.1 dX12_exchange_9 rfl (lv_at hl 2 rfl) ?_
    refine (m_isPosition g m0 lt er el cm_ sv md fmm lc lz af pt_ oc ty_ sz_ em k n s h c tk k0 n0 s0 z p (nI i2) (by omega)).callV (rest := []) X dX12_exchange_10 q1129 tX12_isPosition hK (hP.sub [0] rfl) 0 11 rfl rfl rfl hl ⟨⟨Nat.le_of_ble_eq_true rfl, Nat.le_of_ble_eq_true rfl⟩, Nat.le_of_ble_eq_true rfl, Nat.le_of_ble_eq_true rfl⟩ rfl rfl (Nat.le_of_ble_eq_true rfl) ?_
    refine b_if_eq (tgt := 33) X dX12_exchange_13 (by decide) (fun c13 => ?_) (fun c13 => ?_)
    · exfalso; rw [p2] at c13; cases c13
    · refine lv_aload_n X.1 X.2.1 dX12_exchange_16 rfl (lv_at hl 0 rfl) ?_
      refine lv_iload_n X.1 X.2.1 dX12_exchange_17 rfl (lv_at hl 3 rfl) ?_
      refine (m_isPosition g m0 lt er el cm_ sv md fmm lc lz af pt_ oc ty_ sz_ em k n s h c tk k0 n0 s0 z p (nI i3) (by omega)).callV (rest := []) X dX12_exchange_18 q1129 tX12_isPosition hK (hP.sub [0] rfl) 0 11 rfl rfl rfl hl ⟨⟨Nat.le_of_ble_eq_true rfl, Nat.le_of_ble_eq_true rfl⟩, Nat.le_of_ble_eq_true rfl, Nat.le_of_ble_eq_true rfl⟩ rfl rfl (Nat.le_of_ble_eq_true rfl) ?_
      refine b_if_eq (tgt := 33) X dX12_exchange_21 (by decide) (fun c21 => ?_) (fun c21 => ?_)
      · exfalso; rw [p3] at c21; cases c21
      · refine lv_aload_n X.1 X.2.1 dX12_exchange_24 rfl (lv_at hl 0 rfl) ?_
        refine lv_iload X.1 X.2.1 dX12_exchange_25 (lv_at hl 4 rfl) ?_
        refine (m_isPosition g m0 lt er el cm_ sv md fmm lc lz af pt_ oc ty_ sz_ em k n s h c tk k0 n0 s0 z p (nI i4) (by omega)).callV (rest := []) X dX12_exchange_27 q1129 tX12_isPosition hK (hP.sub [0] rfl) 0 11 rfl rfl rfl hl ⟨⟨Nat.le_of_ble_eq_true rfl, Nat.le_of_ble_eq_true rfl⟩, Nat.le_of_ble_eq_true rfl, Nat.le_of_ble_eq_true rfl⟩ rfl rfl (Nat.le_of_ble_eq_true rfl) ?_
        refine b_if_ne (tgt := 36) X dX12_exchange_30 (by decide) (fun c30 => ?_) (fun c30 => ?_)
        · refine lv_iload_n X.1 X.2.1 dX12_exchange_36 rfl (lv_at hl 1 rfl) ?_
          refine lv_iload_n X.1 X.2.1 dX12_exchange_37 rfl (lv_at hl 2 rfl) ?_
          refine z_icmp_ge (tgt := 52) X dX12_exchange_38 (by decide) (nI_toInt (by omega)) (nI_toInt (by omega)) (fun c38 => ?_) (fun c38 => ?_)
          · exfalso; omega
          · refine lv_iload_n X.1 X.2.1 dX12_exchange_41 rfl (lv_at hl 2 rfl) ?_
            refine lv_iload_n X.1 X.2.1 dX12_exchange_42 rfl (lv_at hl 3 rfl) ?_
            refine z_icmp_ge (tgt := 52) X dX12_exchange_43 (by decide) (nI_toInt (by omega)) (nI_toInt (by omega)) (fun c43 => ?_) (fun c43 => ?_)
            · exfalso; omega
            · refine lv_iload_n X.1 X.2.1 dX12_exchange_46 rfl (lv_at hl 3 rfl) ?_
              refine lv_iload X.1 X.2.1 dX12_exchange_47 (lv_at hl 4 rfl) ?_
              refine z_icmp_lt (tgt := 54) X dX12_exchange_49 (by decide) (nI_toInt (by omega)) (nI_toInt (by omega)) (fun c49 => ?_) (fun c49 => ?_)
              · refine lv_aload_n X.1 X.2.1 dX12_exchange_54 rfl (lv_at hl 0 rfl) ?_
                refine lv_iload_n X.1 X.2.1 dX12_exchange_55 rfl (lv_at hl 1 rfl) ?_
                refine lv_iload_n X.1 X.2.1 dX12_exchange_56 rfl (lv_at hl 3 rfl) ?_
                refine (m_agree g m0 lt er el cm_ sv md fmm lc lz af pt_ oc ty_ sz_ em k n s h c tk k0 n0 s0 z p f i1 i3 (by omega) (by omega) (by assumption) (hbs) (by omega) (by omega) (by omega)).callV (rest := []) X dX12_exchange_57 q1261 tX12_agree hK (hP.sub [0, 1] rfl) 0 11 rfl rfl rfl hl ⟨⟨Nat.le_of_ble_eq_true rfl, Nat.le_of_ble_eq_true rfl⟩, Nat.le_of_ble_eq_true rfl, Nat.le_of_ble_eq_true rfl⟩ rfl rfl (Nat.le_of_ble_eq_true rfl) ?_
                refine b_if_eq (tgt := 73) X dX12_exchange_60 (by decide) (fun c60 => ?_) (fun c60 => ?_)
                · exfalso; rw [r1] at c60; cases c60
                · refine lv_aload_n X.1 X.2.1 dX12_exchange_63 rfl (lv_at hl 0 rfl) ?_
                  refine lv_iload_n X.1 X.2.1 dX12_exchange_64 rfl (lv_at hl 2 rfl) ?_
                  refine lv_iload X.1 X.2.1 dX12_exchange_65 (lv_at hl 4 rfl) ?_
                  refine (m_agree g m0 lt er el cm_ sv md fmm lc lz af pt_ oc ty_ sz_ em k n s h c tk k0 n0 s0 z p f i2 i4 (by omega) (by omega) (by assumption) (hbs) (by omega) (by omega) (by omega)).callV (rest := []) X dX12_exchange_67 q1261 tX12_agree hK (hP.sub [0, 1] rfl) 0 11 rfl rfl rfl hl ⟨⟨Nat.le_of_ble_eq_true rfl, Nat.le_of_ble_eq_true rfl⟩, Nat.le_of_ble_eq_true rfl, Nat.le_of_ble_eq_true rfl⟩ rfl rfl (Nat.le_of_ble_eq_true rfl) ?_
                  refine b_if_ne (tgt := 76) X dX12_exchange_70 (by decide) (fun c70 => ?_) (fun c70 => ?_)
                  · refine lv_aload_n X.1 X.2.1 dX12_exchange_76 rfl (lv_at hl 0 rfl) ?_
                    refine lv_iconst (v := (nI 0)) X.1 X.2.1 dX12_exchange_77 (by decide) ?_
                    refine va_put (D := g.1) (ci := 11) (v := .int (nI 0)) (ty := .int) (C := RX12) (T := TX12) (N := 26) X.1 X.2.1 X.2.2.2.2 iwX12 tyX12 tyX12_ok nmX12 X.2.2.2.1 hK hP hD hS 0 rfl rfl 15 (by decide) (X.2.2.2.2 _ q1035) (fun _ h9 => h9) rfl (by decide +kernel) rfl rfl (Nat.le_of_ble_eq_true rfl) dX12_exchange_78 (fun H locs hP hD hS => ?_)
                    have hP : PP g [(m0, .inr (11, [.int (nI k), .int (nI n), .ref lt, .int (nI s.length), .ref er, .ref el, .int (nI h.length), .ref cm_, .int (nI c.length), .int (bI tk), .int (nI k0), .int (nI n0), .ref sv, .int (nI s0.length), .ref md, .int (nI 0), .ref fmm, .ref lc, .ref lz, .ref af, .ref pt_, .int (nI p.length), .ref oc, .ref ty_, .ref sz_, .ref em])), (lt, .inl (g.2.1, 256, .inl f)), (er, .inl (g.2.1, 1536, .inl fe)), (el, .inl (g.2.1, 6, .inl fl)), (md, .inl (g.2.1, 256, .inl fm_))] H := hP
                    have hD : va_D A [(m0, .inr (11, [.int (nI k), .int (nI n), .ref lt, .int (nI s.length), .ref er, .ref el, .int (nI h.length), .ref cm_, .int (nI c.length), .int (bI tk), .int (nI k0), .int (nI n0), .ref sv, .int (nI s0.length), .ref md, .int (nI 0), .ref fmm, .ref lc, .ref lz, .ref af, .ref pt_, .int (nI p.length), .ref oc, .ref ty_, .ref sz_, .ref em])), (lt, .inl (g.2.1, 256, .inl f)), (er, .inl (g.2.1, 1536, .inl fe)), (el, .inl (g.2.1, 6, .inl fl)), (md, .inl (g.2.1, 256, .inl fm_))] := hD
                    have hP : PP g [(m0, .inr (11, [.int (nI k), .int (nI n), .ref lt, .int (nI s.length), .ref er, .ref el, .int (nI h.length), .ref cm_, .int (nI c.length), .int (bI tk), .int (nI k0), .int (nI n0), .ref sv, .int (nI s0.length), .ref md, .int (nI (([] : List Nat).length)), .ref fmm, .ref lc, .ref lz, .ref af, .ref pt_, .int (nI p.length), .ref oc, .ref ty_, .ref sz_, .ref em])), (lt, .inl (g.2.1, 256, .inl f)), (er, .inl (g.2.1, 1536, .inl fe)), (el, .inl (g.2.1, 6, .inl fl)), (md, .inl (g.2.1, 256, .inl fm_))] H := by exact hP
                    have hD : va_D A [(m0, .inr (11, [.int (nI k), .int (nI n), .ref lt, .int (nI s.length), .ref er, .ref el, .int (nI h.length), .ref cm_, .int (nI c.length), .int (bI tk), .int (nI k0), .int (nI n0), .ref sv, .int (nI s0.length), .ref md, .int (nI (([] : List Nat).length)), .ref fmm, .ref lc, .ref lz, .ref af, .ref pt_, .int (nI p.length), .ref oc, .ref ty_, .ref sz_, .ref em])), (lt, .inl (g.2.1, 256, .inl f)), (er, .inl (g.2.1, 1536, .inl fe)), (el, .inl (g.2.1, 6, .inl fl)), (md, .inl (g.2.1, 256, .inl fm_))] := by exact hD
                    refine lv_aload_n X.1 X.2.1 dX12_exchange_81 rfl (lv_at hl 0 rfl) ?_
                    refine lv_iconst (v := (nI 0)) X.1 X.2.1 dX12_exchange_82 (by decide) ?_
                    refine lv_iload_n X.1 X.2.1 dX12_exchange_83 rfl (lv_at hl 1 rfl) ?_
                    refine (m_makeFrom g m0 lt er el cm_ sv md fmm lc lz af pt_ oc ty_ sz_ em k n s h c tk k0 n0 s0 ([] : List Nat) p f fm_ 0 i1 (by omega) (by assumption) (rep_nil) (by omega) (by omega) (by simp; omega)).callV (rest := []) (wr := [(er, .inl (g.2.1, 1536, .inl fe)), (el, .inl (g.2.1, 6, .inl fl))]) X dX12_exchange_84 q1273 tX12_makeFrom hK hP hD hS hA [0, 1, 4] [2, 3] (by decide) rfl rfl (by decide) (by decide) 0 11 rfl rfl rfl hl ⟨⟨Nat.le_of_ble_eq_true rfl, Nat.le_of_ble_eq_true rfl⟩, Nat.le_of_ble_eq_true rfl, Nat.le_of_ble_eq_true rfl⟩ rfl rfl (Nat.le_of_ble_eq_true rfl) (fun u84 H locs hw84 hP hD hS => ?_)
                    obtain ⟨fm1_84, rfl⟩ : ∃ z, z = u84 := ⟨_, rfl⟩
                    have hP : PP g [(er, .inl (g.2.1, 1536, .inl fe)), (el, .inl (g.2.1, 6, .inl fl)), (m0, .inr (11, [.int (nI k), .int (nI n), .ref lt, .int (nI s.length), .ref er, .ref el, .int (nI h.length), .ref cm_, .int (nI c.length), .int (bI tk), .int (nI k0), .int (nI n0), .ref sv, .int (nI s0.length), .ref md, .int (nI ((([] : List Nat) ++ partL s 0 (i1 - 0) 0).length)), .ref fmm, .ref lc, .ref lz, .ref af, .ref pt_, .int (nI p.length), .ref oc, .ref ty_, .ref sz_, .ref em])), (lt, .inl (g.2.1, 256, .inl f)), (md, .inl (g.2.1, 256, .inl fm1_84))] H := hP
                    have hD : va_D A [(er, .inl (g.2.1, 1536, .inl fe)), (el, .inl (g.2.1, 6, .inl fl)), (m0, .inr (11, [.int (nI k), .int (nI n), .ref lt, .int (nI s.length), .ref er, .ref el, .int (nI h.length), .ref cm_, .int (nI c.length), .int (bI tk), .int (nI k0), .int (nI n0), .ref sv, .int (nI s0.length), .ref md, .int (nI ((([] : List Nat) ++ partL s 0 (i1 - 0) 0).length)), .ref fmm, .ref lc, .ref lz, .ref af, .ref pt_, .int (nI p.length), .ref oc, .ref ty_, .ref sz_, .ref em])), (lt, .inl (g.2.1, 256, .inl f)), (md, .inl (g.2.1, 256, .inl fm1_84))] := hD
                    try dsimp only at hw84
                    refine lv_aload_n X.1 X.2.1 dX12_exchange_87 rfl (lv_at hl 0 rfl) ?_
                    refine lv_iload_n X.1 X.2.1 dX12_exchange_88 rfl (lv_at hl 3 rfl) ?_
                    refine lv_iload X.1 X.2.1 dX12_exchange_89 (lv_at hl 4 rfl) ?_
                    refine (m_makeFrom g m0 lt er el cm_ sv md fmm lc lz af pt_ oc ty_ sz_ em k n s h c tk k0 n0 s0 (([] : List Nat) ++ partL s 0 (i1 - 0) 0) p f fm1_84 i3 i4 (by omega) (by assumption) (hw84) (by omega) (by omega) (by simp [partL_len]; omega)).callV (rest := []) (wr := [(er, .inl (g.2.1, 1536, .inl fe)), (el, .inl (g.2.1, 6, .inl fl))]) X dX12_exchange_91 q1273 tX12_makeFrom hK hP hD hS hA [2, 3, 4] [0, 1] (by decide) rfl rfl (by decide) (by decide) 0 11 rfl rfl rfl hl ⟨⟨Nat.le_of_ble_eq_true rfl, Nat.le_of_ble_eq_true rfl⟩, Nat.le_of_ble_eq_true rfl, Nat.le_of_ble_eq_true rfl⟩ rfl rfl (Nat.le_of_ble_eq_true rfl) (fun u91 H locs hw91 hP hD hS => ?_)
                    obtain ⟨fm1_91, rfl⟩ : ∃ z, z = u91 := ⟨_, rfl⟩
                    have hP : PP g [(er, .inl (g.2.1, 1536, .inl fe)), (el, .inl (g.2.1, 6, .inl fl)), (m0, .inr (11, [.int (nI k), .int (nI n), .ref lt, .int (nI s.length), .ref er, .ref el, .int (nI h.length), .ref cm_, .int (nI c.length), .int (bI tk), .int (nI k0), .int (nI n0), .ref sv, .int (nI s0.length), .ref md, .int (nI (((([] : List Nat) ++ partL s 0 (i1 - 0) 0) ++ partL s i3 (i4 - i3) 0).length)), .ref fmm, .ref lc, .ref lz, .ref af, .ref pt_, .int (nI p.length), .ref oc, .ref ty_, .ref sz_, .ref em])), (lt, .inl (g.2.1, 256, .inl f)), (md, .inl (g.2.1, 256, .inl fm1_91))] H := hP
                    have hD : va_D A [(er, .inl (g.2.1, 1536, .inl fe)), (el, .inl (g.2.1, 6, .inl fl)), (m0, .inr (11, [.int (nI k), .int (nI n), .ref lt, .int (nI s.length), .ref er, .ref el, .int (nI h.length), .ref cm_, .int (nI c.length), .int (bI tk), .int (nI k0), .int (nI n0), .ref sv, .int (nI s0.length), .ref md, .int (nI (((([] : List Nat) ++ partL s 0 (i1 - 0) 0) ++ partL s i3 (i4 - i3) 0).length)), .ref fmm, .ref lc, .ref lz, .ref af, .ref pt_, .int (nI p.length), .ref oc, .ref ty_, .ref sz_, .ref em])), (lt, .inl (g.2.1, 256, .inl f)), (md, .inl (g.2.1, 256, .inl fm1_91))] := hD
                    try dsimp only at hw91
                    refine lv_aload_n X.1 X.2.1 dX12_exchange_94 rfl (lv_at hl 0 rfl) ?_
                    refine lv_iload_n X.1 X.2.1 dX12_exchange_95 rfl (lv_at hl 2 rfl) ?_
                    refine lv_iload_n X.1 X.2.1 dX12_exchange_96 rfl (lv_at hl 3 rfl) ?_
                    refine (m_makeFrom g m0 lt er el cm_ sv md fmm lc lz af pt_ oc ty_ sz_ em k n s h c tk k0 n0 s0 ((([] : List Nat) ++ partL s 0 (i1 - 0) 0) ++ partL s i3 (i4 - i3) 0) p f fm1_91 i2 i3 (by omega) (by assumption) (hw91) (by omega) (by omega) (by simp [partL_len]; omega)).callV (rest := []) (wr := [(er, .inl (g.2.1, 1536, .inl fe)), (el, .inl (g.2.1, 6, .inl fl))]) X dX12_exchange_97 q1273 tX12_makeFrom hK hP hD hS hA [2, 3, 4] [0, 1] (by decide) rfl rfl (by decide) (by decide) 0 11 rfl rfl rfl hl ⟨⟨Nat.le_of_ble_eq_true rfl, Nat.le_of_ble_eq_true rfl⟩, Nat.le_of_ble_eq_true rfl, Nat.le_of_ble_eq_true rfl⟩ rfl rfl (Nat.le_of_ble_eq_true rfl) (fun u97 H locs hw97 hP hD hS => ?_)
                    obtain ⟨fm1_97, rfl⟩ : ∃ z, z = u97 := ⟨_, rfl⟩
                    have hP : PP g [(er, .inl (g.2.1, 1536, .inl fe)), (el, .inl (g.2.1, 6, .inl fl)), (m0, .inr (11, [.int (nI k), .int (nI n), .ref lt, .int (nI s.length), .ref er, .ref el, .int (nI h.length), .ref cm_, .int (nI c.length), .int (bI tk), .int (nI k0), .int (nI n0), .ref sv, .int (nI s0.length), .ref md, .int (nI ((((([] : List Nat) ++ partL s 0 (i1 - 0) 0) ++ partL s i3 (i4 - i3) 0) ++ partL s i2 (i3 - i2) 0).length)), .ref fmm, .ref lc, .ref lz, .ref af, .ref pt_, .int (nI p.length), .ref oc, .ref ty_, .ref sz_, .ref em])), (lt, .inl (g.2.1, 256, .inl f)), (md, .inl (g.2.1, 256, .inl fm1_97))] H := hP
                    have hD : va_D A [(er, .inl (g.2.1, 1536, .inl fe)), (el, .inl (g.2.1, 6, .inl fl)), (m0, .inr (11, [.int (nI k), .int (nI n), .ref lt, .int (nI s.length), .ref er, .ref el, .int (nI h.length), .ref cm_, .int (nI c.length), .int (bI tk), .int (nI k0), .int (nI n0), .ref sv, .int (nI s0.length), .ref md, .int (nI ((((([] : List Nat) ++ partL s 0 (i1 - 0) 0) ++ partL s i3 (i4 - i3) 0) ++ partL s i2 (i3 - i2) 0).length)), .ref fmm, .ref lc, .ref lz, .ref af, .ref pt_, .int (nI p.length), .ref oc, .ref ty_, .ref sz_, .ref em])), (lt, .inl (g.2.1, 256, .inl f)), (md, .inl (g.2.1, 256, .inl fm1_97))] := hD
                    try dsimp only at hw97
                    refine lv_aload_n X.1 X.2.1 dX12_exchange_100 rfl (lv_at hl 0 rfl) ?_
                    refine lv_iload_n X.1 X.2.1 dX12_exchange_101 rfl (lv_at hl 1 rfl) ?_
                    refine lv_iload_n X.1 X.2.1 dX12_exchange_102 rfl (lv_at hl 2 rfl) ?_
                    refine (m_makeFrom g m0 lt er el cm_ sv md fmm lc lz af pt_ oc ty_ sz_ em k n s h c tk k0 n0 s0 (((([] : List Nat) ++ partL s 0 (i1 - 0) 0) ++ partL s i3 (i4 - i3) 0) ++ partL s i2 (i3 - i2) 0) p f fm1_97 i1 i2 (by omega) (by assumption) (hw97) (by omega) (by omega) (by simp [partL_len]; omega)).callV (rest := []) (wr := [(er, .inl (g.2.1, 1536, .inl fe)), (el, .inl (g.2.1, 6, .inl fl))]) X dX12_exchange_103 q1273 tX12_makeFrom hK hP hD hS hA [2, 3, 4] [0, 1] (by decide) rfl rfl (by decide) (by decide) 0 11 rfl rfl rfl hl ⟨⟨Nat.le_of_ble_eq_true rfl, Nat.le_of_ble_eq_true rfl⟩, Nat.le_of_ble_eq_true rfl, Nat.le_of_ble_eq_true rfl⟩ rfl rfl (Nat.le_of_ble_eq_true rfl) (fun u103 H locs hw103 hP hD hS => ?_)
                    obtain ⟨fm1_103, rfl⟩ : ∃ z, z = u103 := ⟨_, rfl⟩
                    have hP : PP g [(er, .inl (g.2.1, 1536, .inl fe)), (el, .inl (g.2.1, 6, .inl fl)), (m0, .inr (11, [.int (nI k), .int (nI n), .ref lt, .int (nI s.length), .ref er, .ref el, .int (nI h.length), .ref cm_, .int (nI c.length), .int (bI tk), .int (nI k0), .int (nI n0), .ref sv, .int (nI s0.length), .ref md, .int (nI (((((([] : List Nat) ++ partL s 0 (i1 - 0) 0) ++ partL s i3 (i4 - i3) 0) ++ partL s i2 (i3 - i2) 0) ++ partL s i1 (i2 - i1) 0).length)), .ref fmm, .ref lc, .ref lz, .ref af, .ref pt_, .int (nI p.length), .ref oc, .ref ty_, .ref sz_, .ref em])), (lt, .inl (g.2.1, 256, .inl f)), (md, .inl (g.2.1, 256, .inl fm1_103))] H := hP
                    have hD : va_D A [(er, .inl (g.2.1, 1536, .inl fe)), (el, .inl (g.2.1, 6, .inl fl)), (m0, .inr (11, [.int (nI k), .int (nI n), .ref lt, .int (nI s.length), .ref er, .ref el, .int (nI h.length), .ref cm_, .int (nI c.length), .int (bI tk), .int (nI k0), .int (nI n0), .ref sv, .int (nI s0.length), .ref md, .int (nI (((((([] : List Nat) ++ partL s 0 (i1 - 0) 0) ++ partL s i3 (i4 - i3) 0) ++ partL s i2 (i3 - i2) 0) ++ partL s i1 (i2 - i1) 0).length)), .ref fmm, .ref lc, .ref lz, .ref af, .ref pt_, .int (nI p.length), .ref oc, .ref ty_, .ref sz_, .ref em])), (lt, .inl (g.2.1, 256, .inl f)), (md, .inl (g.2.1, 256, .inl fm1_103))] := hD
                    try dsimp only at hw103
                    refine lv_aload_n X.1 X.2.1 dX12_exchange_106 rfl (lv_at hl 0 rfl) ?_
                    refine lv_iload X.1 X.2.1 dX12_exchange_107 (lv_at hl 4 rfl) ?_
                    refine lv_aload_n X.1 X.2.1 dX12_exchange_109 rfl (lv_at hl 0 rfl) ?_
                    refine va_get (D := g.1) (ci := 11) (v := .int (nI s.length)) (C := RX12) (T := TX12) (N := 26) X.1 X.2.1 X.2.2.2.2 iwX12 X.2.2.2.1 hK hP 2 rfl rfl 3 (by decide) (X.2.2.2.2 _ q1023) (fun _ h9 => h9) rfl dX12_exchange_110 ?_
                    refine (m_makeFrom g m0 lt er el cm_ sv md fmm lc lz af pt_ oc ty_ sz_ em k n s h c tk k0 n0 s0 ((((([] : List Nat) ++ partL s 0 (i1 - 0) 0) ++ partL s i3 (i4 - i3) 0) ++ partL s i2 (i3 - i2) 0) ++ partL s i1 (i2 - i1) 0) p f fm1_103 i4 s.length (by omega) (by assumption) (hw103) (by omega) (by omega) (by simp [partL_len]; omega)).callV (rest := []) (wr := [(er, .inl (g.2.1, 1536, .inl fe)), (el, .inl (g.2.1, 6, .inl fl))]) X dX12_exchange_113 q1273 tX12_makeFrom hK hP hD hS hA [2, 3, 4] [0, 1] (by decide) rfl rfl (by decide) (by decide) 0 11 rfl rfl rfl hl ⟨⟨Nat.le_of_ble_eq_true rfl, Nat.le_of_ble_eq_true rfl⟩, Nat.le_of_ble_eq_true rfl, Nat.le_of_ble_eq_true rfl⟩ rfl rfl (Nat.le_of_ble_eq_true rfl) (fun u113 H locs hw113 hP hD hS => ?_)
                    obtain ⟨fm1_113, rfl⟩ : ∃ z, z = u113 := ⟨_, rfl⟩
                    have hP : PP g [(er, .inl (g.2.1, 1536, .inl fe)), (el, .inl (g.2.1, 6, .inl fl)), (m0, .inr (11, [.int (nI k), .int (nI n), .ref lt, .int (nI s.length), .ref er, .ref el, .int (nI h.length), .ref cm_, .int (nI c.length), .int (bI tk), .int (nI k0), .int (nI n0), .ref sv, .int (nI s0.length), .ref md, .int (nI ((((((([] : List Nat) ++ partL s 0 (i1 - 0) 0) ++ partL s i3 (i4 - i3) 0) ++ partL s i2 (i3 - i2) 0) ++ partL s i1 (i2 - i1) 0) ++ partL s i4 (s.length - i4) 0).length)), .ref fmm, .ref lc, .ref lz, .ref af, .ref pt_, .int (nI p.length), .ref oc, .ref ty_, .ref sz_, .ref em])), (lt, .inl (g.2.1, 256, .inl f)), (md, .inl (g.2.1, 256, .inl fm1_113))] H := hP
                    have hD : va_D A [(er, .inl (g.2.1, 1536, .inl fe)), (el, .inl (g.2.1, 6, .inl fl)), (m0, .inr (11, [.int (nI k), .int (nI n), .ref lt, .int (nI s.length), .ref er, .ref el, .int (nI h.length), .ref cm_, .int (nI c.length), .int (bI tk), .int (nI k0), .int (nI n0), .ref sv, .int (nI s0.length), .ref md, .int (nI ((((((([] : List Nat) ++ partL s 0 (i1 - 0) 0) ++ partL s i3 (i4 - i3) 0) ++ partL s i2 (i3 - i2) 0) ++ partL s i1 (i2 - i1) 0) ++ partL s i4 (s.length - i4) 0).length)), .ref fmm, .ref lc, .ref lz, .ref af, .ref pt_, .int (nI p.length), .ref oc, .ref ty_, .ref sz_, .ref em])), (lt, .inl (g.2.1, 256, .inl f)), (md, .inl (g.2.1, 256, .inl fm1_113))] := hD
                    try dsimp only at hw113
                    have hP : PP g [(er, .inl (g.2.1, 1536, .inl fe)), (el, .inl (g.2.1, 6, .inl fl)), (m0, .inr (11, [.int (nI k), .int (nI n), .ref lt, .int (nI s.length), .ref er, .ref el, .int (nI h.length), .ref cm_, .int (nI c.length), .int (bI tk), .int (nI k0), .int (nI n0), .ref sv, .int (nI s0.length), .ref md, .int (nI ((excL s i1 i2 i3 i4).length)), .ref fmm, .ref lc, .ref lz, .ref af, .ref pt_, .int (nI p.length), .ref oc, .ref ty_, .ref sz_, .ref em])), (lt, .inl (g.2.1, 256, .inl f)), (md, .inl (g.2.1, 256, .inl fm1_113))] H := by exact hP
                    have hD : va_D A [(er, .inl (g.2.1, 1536, .inl fe)), (el, .inl (g.2.1, 6, .inl fl)), (m0, .inr (11, [.int (nI k), .int (nI n), .ref lt, .int (nI s.length), .ref er, .ref el, .int (nI h.length), .ref cm_, .int (nI c.length), .int (bI tk), .int (nI k0), .int (nI n0), .ref sv, .int (nI s0.length), .ref md, .int (nI ((excL s i1 i2 i3 i4).length)), .ref fmm, .ref lc, .ref lz, .ref af, .ref pt_, .int (nI p.length), .ref oc, .ref ty_, .ref sz_, .ref em])), (lt, .inl (g.2.1, 256, .inl f)), (md, .inl (g.2.1, 256, .inl fm1_113))] := by exact hD
                    refine lv_iconst (v := (nI 1)) X.1 X.2.1 dX12_exchange_116 (by decide) ?_
                    refine tp_i (y := bI true) rfl ?_
                    refine lv_istore (lv' := [(5, .int (bI true)), (0, .ref m0), (1, .int (nI i1)), (2, .int (nI i2)), (3, .int (nI i3)), (4, .int (nI i4))]) X.1 X.2.1 dX12_exchange_117 hl (by decide) rfl (fun ls hl => ?_)
                    refine lv_iconst (v := (nI 0)) X.1 X.2.1 dX12_exchange_119 (by decide) ?_
                    refine lv_istore (lv' := [(6, .int (nI 0)), (5, .int (bI true)), (0, .ref m0), (1, .int (nI i1)), (2, .int (nI i2)), (3, .int (nI i3)), (4, .int (nI i4))]) X.1 X.2.1 dX12_exchange_120 hl (by decide) rfl (fun ls hl => ?_)
                    have L122 : ∀ (r : Nat) (b : Bool) (i : Nat) (h1 : i + r = s.length) (hsb : (b && sameL (excL s i1 i2 i3 i4) s r i) = sameB (excL s i1 i2 i3 i4) s) (ls : Array Slot) (hl : lv_has ls 7 [(6, .int (nI i)), (5, .int (bI b)), (0, .ref m0), (1, .int (nI i1)), (2, .int (nI i2)), (3, .int (nI i3)), (4, .int (nI i4))]), W p_ l_ e_ { frames := 3, cells := 0, slots := 0, locals := 71 } S_ m_ args below meth co H locs 0 0 (MQ below (va_Qi (S := (Nat → Int32) × (Nat → Int32) × (Nat → Int32) × (Nat → Int32)) (fun r u => r = (nI (if sameB (excL s i1 i2 i3 i4) s then 0 else 1)) ∧ rep u.1 (excL s i1 i2 i3 i4) ∧ hrm u.2.1 u.2.2.1 ((s :: h).take 6)) (MuB g A (fun u => [(m0, .inr (11, [.int (nI k), .int (nI n), .ref lt, .int (nI ((excL s i1 i2 i3 i4).length)), .ref er, .ref el, .int (nI (((s :: h).take 6).length)), .ref cm_, .int (nI c.length), .int (bI tk), .int (nI k0), .int (nI n0), .ref sv, .int (nI s0.length), .ref md, .int (nI ((excL s i1 i2 i3 i4).length)), .ref fmm, .ref lc, .ref lz, .ref af, .ref pt_, .int (nI p.length), .ref oc, .ref ty_, .ref sz_, .ref em])), (lt, .inl (g.2.1, 256, .inl u.1)), (er, .inl (g.2.1, 1536, .inl u.2.1)), (el, .inl (g.2.1, 6, .inl u.2.2.1)), (md, .inl (g.2.1, 256, .inl u.2.2.2))])) A) args S_ 0 0 A) (F0 m_ 122 ls []) := by
                      intro r
                      induction r with
                      | zero =>
                        intro b i h1 hsb ls hl
                        refine lv_iload X.1 X.2.1 dX12_exchange_122 (lv_at hl 0 rfl) ?_
                        refine lv_aload_n X.1 X.2.1 dX12_exchange_124 rfl (lv_at hl 2 rfl) ?_
                        refine va_get (D := g.1) (ci := 11) (v := .int (nI s.length)) (C := RX12) (T := TX12) (N := 26) X.1 X.2.1 X.2.2.2.2 iwX12 X.2.2.2.1 hK hP 2 rfl rfl 3 (by decide) (X.2.2.2.2 _ q1023) (fun _ h9 => h9) rfl dX12_exchange_125 ?_
                        refine z_icmp_ge (tgt := 166) X dX12_exchange_128 (by decide) (nI_toInt (by omega)) (nI_toInt (by omega)) (fun c128 => ?_) (fun c128 => ?_)
                        · refine lv_aload_n X.1 X.2.1 dX12_exchange_166 rfl (lv_at hl 2 rfl) ?_
                          refine (m_edit g m0 lt er el cm_ sv md fmm lc lz af pt_ oc ty_ sz_ em k n s h c tk k0 n0 s0 (excL s i1 i2 i3 i4) p f fe fl fm1_113 (by omega) (by assumption) (by omega) (hw113) (by assumption)).callV (rest := []) (wr := []) X dX12_exchange_167 q1194 tX12_edit hK hP hD hS hA [2, 3, 0, 1, 4] [] (by decide) rfl rfl (by decide) (by decide) 0 11 rfl rfl rfl hl ⟨⟨Nat.le_of_ble_eq_true rfl, Nat.le_of_ble_eq_true rfl⟩, Nat.le_of_ble_eq_true rfl, Nat.le_of_ble_eq_true rfl⟩ rfl rfl (Nat.le_of_ble_eq_true rfl) (fun u167 H locs hw167 hP hD hS => ?_)
                          obtain ⟨f1_167, fe1_167, fl1_167⟩ := u167
                          have hP : PP g [(m0, .inr (11, [.int (nI k), .int (nI n), .ref lt, .int (nI ((excL s i1 i2 i3 i4).length)), .ref er, .ref el, .int (nI (((s :: h).take 6).length)), .ref cm_, .int (nI c.length), .int (bI tk), .int (nI k0), .int (nI n0), .ref sv, .int (nI s0.length), .ref md, .int (nI ((excL s i1 i2 i3 i4).length)), .ref fmm, .ref lc, .ref lz, .ref af, .ref pt_, .int (nI p.length), .ref oc, .ref ty_, .ref sz_, .ref em])), (lt, .inl (g.2.1, 256, .inl f1_167)), (er, .inl (g.2.1, 1536, .inl fe1_167)), (el, .inl (g.2.1, 6, .inl fl1_167)), (md, .inl (g.2.1, 256, .inl fm1_113))] H := hP
                          have hD : va_D A [(m0, .inr (11, [.int (nI k), .int (nI n), .ref lt, .int (nI ((excL s i1 i2 i3 i4).length)), .ref er, .ref el, .int (nI (((s :: h).take 6).length)), .ref cm_, .int (nI c.length), .int (bI tk), .int (nI k0), .int (nI n0), .ref sv, .int (nI s0.length), .ref md, .int (nI ((excL s i1 i2 i3 i4).length)), .ref fmm, .ref lc, .ref lz, .ref af, .ref pt_, .int (nI p.length), .ref oc, .ref ty_, .ref sz_, .ref em])), (lt, .inl (g.2.1, 256, .inl f1_167)), (er, .inl (g.2.1, 1536, .inl fe1_167)), (el, .inl (g.2.1, 6, .inl fl1_167)), (md, .inl (g.2.1, 256, .inl fm1_113))] := hD
                          try dsimp only at hw167
                          refine lv_iload X.1 X.2.1 dX12_exchange_170 (lv_at hl 1 rfl) ?_
                          refine b_if_eq (tgt := 179) X dX12_exchange_172 (by decide) (fun c172 => ?_) (fun c172 => ?_)
                          · refine lv_iconst (v := (nI 1)) X.1 X.2.1 dX12_exchange_179 (by decide) ?_
                            exact MuI.ret X hr hlk hK hS dX12_exchange_180 (nI_nar _) (f1_167, fe1_167, fl1_167, fm1_113) (hP.sub [0, 1, 2, 3, 4] rfl) (hD.sub [0, 1, 2, 3, 4] (by decide) rfl) (⟨by (have e6 : b = sameB (excL s i1 i2 i3 i4) s := by rw [← hsb]; cases b <;> rfl); rw [← e6, c172]; rfl, hw167⟩)
                          · refine lv_iconst (v := (nI 0)) X.1 X.2.1 dX12_exchange_175 (by decide) ?_
                            refine lv_goto (tgt := 180) X.1 X.2.1 dX12_exchange_176 (by decide) ?_
                            exact MuI.ret X hr hlk hK hS dX12_exchange_180 (nI_nar _) (f1_167, fe1_167, fl1_167, fm1_113) (hP.sub [0, 1, 2, 3, 4] rfl) (hD.sub [0, 1, 2, 3, 4] (by decide) rfl) (⟨by (have e6 : b = sameB (excL s i1 i2 i3 i4) s := by rw [← hsb]; cases b <;> rfl); rw [← e6, c172]; rfl, hw167⟩)
                        · exfalso; omega
                      | succ r ih122 =>
                        intro b i h1 hsb ls hl
                        refine lv_iload X.1 X.2.1 dX12_exchange_122 (lv_at hl 0 rfl) ?_
                        refine lv_aload_n X.1 X.2.1 dX12_exchange_124 rfl (lv_at hl 2 rfl) ?_
                        refine va_get (D := g.1) (ci := 11) (v := .int (nI s.length)) (C := RX12) (T := TX12) (N := 26) X.1 X.2.1 X.2.2.2.2 iwX12 X.2.2.2.1 hK hP 2 rfl rfl 3 (by decide) (X.2.2.2.2 _ q1023) (fun _ h9 => h9) rfl dX12_exchange_125 ?_
                        refine z_icmp_ge (tgt := 166) X dX12_exchange_128 (by decide) (nI_toInt (by omega)) (nI_toInt (by omega)) (fun c128 => ?_) (fun c128 => ?_)
                        · exfalso; omega
                        · refine lv_iload X.1 X.2.1 dX12_exchange_131 (lv_at hl 1 rfl) ?_
                          refine b_if_eq (tgt := 157) X dX12_exchange_133 (by decide) (fun c133 => ?_) (fun c133 => ?_)
                          · refine lv_iconst (v := (nI 0)) X.1 X.2.1 dX12_exchange_157 (by decide) ?_
                            refine tp_i (y := bI false) rfl ?_
                            refine lv_istore (lv' := [(5, .int (bI false)), (6, .int (nI i)), (0, .ref m0), (1, .int (nI i1)), (2, .int (nI i2)), (3, .int (nI i3)), (4, .int (nI i4))]) X.1 X.2.1 dX12_exchange_158 hl (by decide) rfl (fun ls hl => ?_)
                            refine lv_iinc (v := (nI (i + 1))) (lv' := [(6, .int (nI (i + 1))), (5, .int (bI false)), (0, .ref m0), (1, .int (nI i1)), (2, .int (nI i2)), (3, .int (nI i3)), (4, .int (nI i4))]) X.1 X.2.1 dX12_exchange_160 hl (k := 1) rfl (nI_inc _) (by decide) rfl (fun ls hl => ?_)
                            refine lv_goto (tgt := 122) X.1 X.2.1 dX12_exchange_163 (by decide) ?_
                            exact ih122 false (i + 1) (by omega) (by first | (rw [c133, sameL, if_pos (by omega)] at hsb; exact hsb) | (rw [c133, sameL, if_neg (by omega)] at hsb; exact hsb) | (rw [c133] at hsb; exact hsb)) ls (lv_sub hl [0, 1, 2, 3, 4, 5, 6] rfl)
                          · refine lv_aload_n X.1 X.2.1 dX12_exchange_136 rfl (lv_at hl 2 rfl) ?_
                            refine va_get (D := g.1) (ci := 11) (v := .ref md) (C := RX12) (T := TX12) (N := 26) X.1 X.2.1 X.2.2.2.2 iwX12 X.2.2.2.1 hK hP 2 rfl rfl 14 (by decide) (X.2.2.2.2 _ q1034) (fun _ h9 => h9) rfl dX12_exchange_137 ?_
                            refine lv_iload X.1 X.2.1 dX12_exchange_140 (lv_at hl 0 rfl) ?_
                            refine n_iald X hK hP 4 0 rfl rfl (by omega) (by decide) dX12_exchange_142 ?_
                            have e3 : i < (excL s i1 i2 i3 i4).length := by omega
                            have e1 := bd_at hbz i
                            have e2 := bd_at hbs i
                            refine tp_i (y := (nI ((excL s i1 i2 i3 i4).getD i 0))) (hw113 i e3) ?_
                            refine lv_aload_n X.1 X.2.1 dX12_exchange_143 rfl (lv_at hl 2 rfl) ?_
                            refine va_get (D := g.1) (ci := 11) (v := .ref lt) (C := RX12) (T := TX12) (N := 26) X.1 X.2.1 X.2.2.2.2 iwX12 X.2.2.2.1 hK hP 2 rfl rfl 2 (by decide) (X.2.2.2.2 _ q1022) (fun _ h9 => h9) rfl dX12_exchange_144 ?_
                            refine lv_iload X.1 X.2.1 dX12_exchange_147 (lv_at hl 0 rfl) ?_
                            refine n_iald X hK hP 3 0 rfl rfl (by omega) (by decide) dX12_exchange_149 ?_
                            refine tp_i (y := (nI (s.getD i 0))) (hf i (by omega)) ?_
                            refine z_icmp_ne (tgt := 157) X dX12_exchange_150 (by decide) (nI_toInt (by omega)) (nI_toInt (by omega)) (fun c150 => ?_) (fun c150 => ?_)
                            · refine lv_iconst (v := (nI 0)) X.1 X.2.1 dX12_exchange_157 (by decide) ?_
                              refine tp_i (y := bI false) rfl ?_
                              refine lv_istore (lv' := [(5, .int (bI false)), (6, .int (nI i)), (0, .ref m0), (1, .int (nI i1)), (2, .int (nI i2)), (3, .int (nI i3)), (4, .int (nI i4))]) X.1 X.2.1 dX12_exchange_158 hl (by decide) rfl (fun ls hl => ?_)
                              refine lv_iinc (v := (nI (i + 1))) (lv' := [(6, .int (nI (i + 1))), (5, .int (bI false)), (0, .ref m0), (1, .int (nI i1)), (2, .int (nI i2)), (3, .int (nI i3)), (4, .int (nI i4))]) X.1 X.2.1 dX12_exchange_160 hl (k := 1) rfl (nI_inc _) (by decide) rfl (fun ls hl => ?_)
                              refine lv_goto (tgt := 122) X.1 X.2.1 dX12_exchange_163 (by decide) ?_
                              exact ih122 false (i + 1) (by omega) (by first | (rw [c133, sameL, if_pos (by omega)] at hsb; exact hsb) | (rw [c133, sameL, if_neg (by omega)] at hsb; exact hsb) | (rw [c133] at hsb; exact hsb)) ls (lv_sub hl [0, 1, 2, 3, 4, 5, 6] rfl)
                            · refine lv_iconst (v := (nI 1)) X.1 X.2.1 dX12_exchange_153 (by decide) ?_
                              refine lv_goto (tgt := 158) X.1 X.2.1 dX12_exchange_154 (by decide) ?_
                              refine tp_i (y := bI true) rfl ?_
                              refine lv_istore (lv' := [(5, .int (bI true)), (6, .int (nI i)), (0, .ref m0), (1, .int (nI i1)), (2, .int (nI i2)), (3, .int (nI i3)), (4, .int (nI i4))]) X.1 X.2.1 dX12_exchange_158 hl (by decide) rfl (fun ls hl => ?_)
                              refine lv_iinc (v := (nI (i + 1))) (lv' := [(6, .int (nI (i + 1))), (5, .int (bI true)), (0, .ref m0), (1, .int (nI i1)), (2, .int (nI i2)), (3, .int (nI i3)), (4, .int (nI i4))]) X.1 X.2.1 dX12_exchange_160 hl (k := 1) rfl (nI_inc _) (by decide) rfl (fun ls hl => ?_)
                              refine lv_goto (tgt := 122) X.1 X.2.1 dX12_exchange_163 (by decide) ?_
                              exact ih122 true (i + 1) (by omega) (by first | (rw [c133, sameL, if_pos (by omega)] at hsb; exact hsb) | (rw [c133, sameL, if_neg (by omega)] at hsb; exact hsb) | (rw [c133] at hsb; exact hsb)) ls (lv_sub hl [0, 1, 2, 3, 4, 5, 6] rfl)
                    exact L122 s.length true 0 (by omega) (by unfold sameB; rw [if_pos hlz, hlz]; rfl) ls (lv_sub hl [0, 1, 2, 3, 4, 5, 6] rfl)
                  · exfalso; rw [r2] at c70; cases c70
              · exfalso; omega
        · exfalso; rw [p4] at c30; cases c30

set_option maxHeartbeats 4000000 in
set_option maxRecDepth 100000 in
theorem m_exchange_no2 (g : G5) (m0 : Nat) (lt : Nat) (er : Nat) (el : Nat) (cm_ : Nat) (sv : Nat) (md : Nat) (fmm : Nat) (lc : Nat) (lz : Nat) (af : Nat) (pt_ : Nat) (oc : Nat) (ty_ : Nat) (sz_ : Nat) (em : Nat) (k : Nat) (n : Nat) (s : List Nat) (h : List (List Nat)) (c : List Nat) (tk : Bool) (k0 : Nat) (n0 : Nat) (s0 : List Nat) (z : List Nat) (p : List Int) (f : Nat → Int32) (B : Nat) (T : Nat) (i1 : Nat) (i2 : Nat) (i3 : Nat) (i4 : Nat) (hc : shp k n B T) (hs : s.length ≤ 256) (hf : rep f s) (hlt : ltk k s) (h12 : i1 < i2) (h23 : i2 < i3) (h34 : i3 < i4) (h4 : i4 < s.length) (hrr : (repB s i1 i3 (n - 1) && repB s i2 i4 (n - 1)) = false) : PuI yX12_exchange cX12_exchange 7 (some .int) 3 71 g [.ref m0, .int (nI i1), .int (nI i2), .int (nI i3), .int (nI i4)] [(m0, .inr (11, [.int (nI k), .int (nI n), .ref lt, .int (nI s.length), .ref er, .ref el, .int (nI h.length), .ref cm_, .int (nI c.length), .int (bI tk), .int (nI k0), .int (nI n0), .ref sv, .int (nI s0.length), .ref md, .int (nI z.length), .ref fmm, .ref lc, .ref lz, .ref af, .ref pt_, .int (nI p.length), .ref oc, .ref ty_, .ref sz_, .ref em])), (lt, .inl (g.2.1, 256, .inl f))] (-5) := by
  refine PuI.of (by decide +kernel) (Nat.le_of_ble_eq_true rfl) ?_
  intro p_ l_ e_ S_ m_ args below meth co X hr hlk hP hK ls hl
  have X : CallFix p_ m_ co cX12_exchange 7 S_ args lw_all RX12 := X
  have hl : lv_has ls 7 [(0, .ref m0), (1, .int (nI i1)), (2, .int (nI i2)), (3, .int (nI i3)), (4, .int (nI i4))] := hl
  obtain ⟨hk2, hk4, hn1, hn6, hB, hT, hBT, hT2⟩ := hc.f
  have hB0 : 0 < B := by rw [hBT]; exact Nat.mul_pos (by omega) (by omega)
  have hbs := hlt.bd hk4
  have p1 : hasB (nI i1) s.length = true := by rw [hasB_N (by omega)]; exact decide_eq_true (by omega)
  have p2 : hasB (nI i2) s.length = true := by rw [hasB_N (by omega)]; exact decide_eq_true (by omega)
  have p3 : hasB (nI i3) s.length = true := by rw [hasB_N (by omega)]; exact decide_eq_true (by omega)
  have p4 : hasB (nI i4) s.length = true := by rw [hasB_N (by omega)]; exact decide_eq_true (by omega)
  refine lv_aload_n X.1 X.2.1 dX12_exchange_0 rfl (lv_at hl 0 rfl) ?_
  refine lv_iload_n X.1 X.2.1 dX12_exchange_1 rfl (lv_at hl 1 rfl) ?_
  refine (m_isPosition g m0 lt er el cm_ sv md fmm lc lz af pt_ oc ty_ sz_ em k n s h c tk k0 n0 s0 z p (nI i1) (by omega)).callV (rest := []) X dX12_exchange_2 q1129 tX12_isPosition hK (hP.sub [0] rfl) 0 11 rfl rfl rfl hl ⟨⟨Nat.le_of_ble_eq_true rfl, Nat.le_of_ble_eq_true rfl⟩, Nat.le_of_ble_eq_true rfl, Nat.le_of_ble_eq_true rfl⟩ rfl rfl (Nat.le_of_ble_eq_true rfl) ?_
  refine b_if_eq (tgt := 33) X dX12_exchange_5 (by decide) (fun c5 => ?_) (fun c5 => ?_)
  · exfalso; rw [p1] at c5; cases c5
  · refine lv_aload_n X.1 X.2.1 dX12_exchange_8 rfl (lv_at hl 0 rfl) ?_
    refine lv_iload_n X.1 X.2.1 dX12_exchange_9 rfl (lv_at hl 2 rfl) ?_
    refine (m_isPosition g m0 lt er el cm_ sv md fmm lc lz af pt_ oc ty_ sz_ em k n s h c tk k0 n0 s0 z p (nI i2) (by omega)).callV (rest := []) X dX12_exchange_10 q1129 tX12_isPosition hK (hP.sub [0] rfl) 0 11 rfl rfl rfl hl ⟨⟨Nat.le_of_ble_eq_true rfl, Nat.le_of_ble_eq_true rfl⟩, Nat.le_of_ble_eq_true rfl, Nat.le_of_ble_eq_true rfl⟩ rfl rfl (Nat.le_of_ble_eq_true rfl) ?_
    refine b_if_eq (tgt := 33) X dX12_exchange_13 (by decide) (fun c13 => ?_) (fun c13 => ?_)
    · exfalso; rw [p2] at c13; cases c13
    · refine lv_aload_n X.1 X.2.1 dX12_exchange_16 rfl (lv_at hl 0 rfl) ?_
      refine lv_iload_n X.1 X.2.1 dX12_exchange_17 rfl (lv_at hl 3 rfl) ?_
      refine (m_isPosition g m0 lt er el cm_ sv md fmm lc lz af pt_ oc ty_ sz_ em k n s h c tk k0 n0 s0 z p (nI i3) (by omega)).callV (rest := []) X dX12_exchange_18 q1129 tX12_isPosition hK (hP.sub [0] rfl) 0 11 rfl rfl rfl hl ⟨⟨Nat.le_of_ble_eq_true rfl, Nat.le_of_ble_eq_true rfl⟩, Nat.le_of_ble_eq_true rfl, Nat.le_of_ble_eq_true rfl⟩ rfl rfl (Nat.le_of_ble_eq_true rfl) ?_
      refine b_if_eq (tgt := 33) X dX12_exchange_21 (by decide) (fun c21 => ?_) (fun c21 => ?_)
      · exfalso; rw [p3] at c21; cases c21
      · refine lv_aload_n X.1 X.2.1 dX12_exchange_24 rfl (lv_at hl 0 rfl) ?_
        refine lv_iload X.1 X.2.1 dX12_exchange_25 (lv_at hl 4 rfl) ?_
        refine (m_isPosition g m0 lt er el cm_ sv md fmm lc lz af pt_ oc ty_ sz_ em k n s h c tk k0 n0 s0 z p (nI i4) (by omega)).callV (rest := []) X dX12_exchange_27 q1129 tX12_isPosition hK (hP.sub [0] rfl) 0 11 rfl rfl rfl hl ⟨⟨Nat.le_of_ble_eq_true rfl, Nat.le_of_ble_eq_true rfl⟩, Nat.le_of_ble_eq_true rfl, Nat.le_of_ble_eq_true rfl⟩ rfl rfl (Nat.le_of_ble_eq_true rfl) ?_
        refine b_if_ne (tgt := 36) X dX12_exchange_30 (by decide) (fun c30 => ?_) (fun c30 => ?_)
        · refine lv_iload_n X.1 X.2.1 dX12_exchange_36 rfl (lv_at hl 1 rfl) ?_
          refine lv_iload_n X.1 X.2.1 dX12_exchange_37 rfl (lv_at hl 2 rfl) ?_
          refine z_icmp_ge (tgt := 52) X dX12_exchange_38 (by decide) (nI_toInt (by omega)) (nI_toInt (by omega)) (fun c38 => ?_) (fun c38 => ?_)
          · exfalso; omega
          · refine lv_iload_n X.1 X.2.1 dX12_exchange_41 rfl (lv_at hl 2 rfl) ?_
            refine lv_iload_n X.1 X.2.1 dX12_exchange_42 rfl (lv_at hl 3 rfl) ?_
            refine z_icmp_ge (tgt := 52) X dX12_exchange_43 (by decide) (nI_toInt (by omega)) (nI_toInt (by omega)) (fun c43 => ?_) (fun c43 => ?_)
            · exfalso; omega
            · refine lv_iload_n X.1 X.2.1 dX12_exchange_46 rfl (lv_at hl 3 rfl) ?_
              refine lv_iload X.1 X.2.1 dX12_exchange_47 (lv_at hl 4 rfl) ?_
              refine z_icmp_lt (tgt := 54) X dX12_exchange_49 (by decide) (nI_toInt (by omega)) (nI_toInt (by omega)) (fun c49 => ?_) (fun c49 => ?_)
              · refine lv_aload_n X.1 X.2.1 dX12_exchange_54 rfl (lv_at hl 0 rfl) ?_
                refine lv_iload_n X.1 X.2.1 dX12_exchange_55 rfl (lv_at hl 1 rfl) ?_
                refine lv_iload_n X.1 X.2.1 dX12_exchange_56 rfl (lv_at hl 3 rfl) ?_
                refine (m_agree g m0 lt er el cm_ sv md fmm lc lz af pt_ oc ty_ sz_ em k n s h c tk k0 n0 s0 z p f i1 i3 (by omega) (by omega) (by assumption) (hbs) (by omega) (by omega) (by omega)).callV (rest := []) X dX12_exchange_57 q1261 tX12_agree hK (hP.sub [0, 1] rfl) 0 11 rfl rfl rfl hl ⟨⟨Nat.le_of_ble_eq_true rfl, Nat.le_of_ble_eq_true rfl⟩, Nat.le_of_ble_eq_true rfl, Nat.le_of_ble_eq_true rfl⟩ rfl rfl (Nat.le_of_ble_eq_true rfl) ?_
                refine b_if_eq (tgt := 73) X dX12_exchange_60 (by decide) (fun c60 => ?_) (fun c60 => ?_)
                · refine lv_bipush (v := (-5)) X.1 X.2.1 dX12_exchange_73 (by decide) ?_
                  exact PuI.ret X hr hlk dX12_exchange_75 (nI_nar _) (rfl)
                · refine lv_aload_n X.1 X.2.1 dX12_exchange_63 rfl (lv_at hl 0 rfl) ?_
                  refine lv_iload_n X.1 X.2.1 dX12_exchange_64 rfl (lv_at hl 2 rfl) ?_
                  refine lv_iload X.1 X.2.1 dX12_exchange_65 (lv_at hl 4 rfl) ?_
                  refine (m_agree g m0 lt er el cm_ sv md fmm lc lz af pt_ oc ty_ sz_ em k n s h c tk k0 n0 s0 z p f i2 i4 (by omega) (by omega) (by assumption) (hbs) (by omega) (by omega) (by omega)).callV (rest := []) X dX12_exchange_67 q1261 tX12_agree hK (hP.sub [0, 1] rfl) 0 11 rfl rfl rfl hl ⟨⟨Nat.le_of_ble_eq_true rfl, Nat.le_of_ble_eq_true rfl⟩, Nat.le_of_ble_eq_true rfl, Nat.le_of_ble_eq_true rfl⟩ rfl rfl (Nat.le_of_ble_eq_true rfl) ?_
                  refine b_if_ne (tgt := 76) X dX12_exchange_70 (by decide) (fun c70 => ?_) (fun c70 => ?_)
                  · exfalso; rw [c60, c70] at hrr; cases hrr
                  · refine lv_bipush (v := (-5)) X.1 X.2.1 dX12_exchange_73 (by decide) ?_
                    exact PuI.ret X hr hlk dX12_exchange_75 (nI_nar _) (rfl)
              · exfalso; omega
        · exfalso; rw [p4] at c30; cases c30

set_option maxHeartbeats 4000000 in
set_option maxRecDepth 100000 in
theorem m_exchange_no1 (g : G5) (m0 : Nat) (lt : Nat) (er : Nat) (el : Nat) (cm_ : Nat) (sv : Nat) (md : Nat) (fmm : Nat) (lc : Nat) (lz : Nat) (af : Nat) (pt_ : Nat) (oc : Nat) (ty_ : Nat) (sz_ : Nat) (em : Nat) (k : Nat) (n : Nat) (s : List Nat) (h : List (List Nat)) (c : List Nat) (tk : Bool) (k0 : Nat) (n0 : Nat) (s0 : List Nat) (z : List Nat) (p : List Int) (B : Nat) (T : Nat) (x1 : Int32) (x2 : Int32) (x3 : Int32) (x4 : Int32) (hc : shp k n B T) (hs : s.length ≤ 256) (hno : (hasB x1 s.length && hasB x2 s.length && hasB x3 s.length && hasB x4 s.length) = false ∨ ¬ (x1.toInt < x2.toInt ∧ x2.toInt < x3.toInt ∧ x3.toInt < x4.toInt)) : PuI yX12_exchange cX12_exchange 7 (some .int) 3 71 g [.ref m0, .int x1, .int x2, .int x3, .int x4] [(m0, .inr (11, [.int (nI k), .int (nI n), .ref lt, .int (nI s.length), .ref er, .ref el, .int (nI h.length), .ref cm_, .int (nI c.length), .int (bI tk), .int (nI k0), .int (nI n0), .ref sv, .int (nI s0.length), .ref md, .int (nI z.length), .ref fmm, .ref lc, .ref lz, .ref af, .ref pt_, .int (nI p.length), .ref oc, .ref ty_, .ref sz_, .ref em]))] (if (hasB x1 s.length && hasB x2 s.length && hasB x3 s.length && hasB x4 s.length) then (-1) else (-2)) := by
  refine PuI.of (by decide +kernel) (Nat.le_of_ble_eq_true rfl) ?_
  intro p_ l_ e_ S_ m_ args below meth co X hr hlk hP hK ls hl
  have X : CallFix p_ m_ co cX12_exchange 7 S_ args lw_all RX12 := X
  have hl : lv_has ls 7 [(0, .ref m0), (1, .int x1), (2, .int x2), (3, .int x3), (4, .int x4)] := hl
  refine lv_aload_n X.1 X.2.1 dX12_exchange_0 rfl (lv_at hl 0 rfl) ?_
  refine lv_iload_n X.1 X.2.1 dX12_exchange_1 rfl (lv_at hl 1 rfl) ?_
  refine (m_isPosition g m0 lt er el cm_ sv md fmm lc lz af pt_ oc ty_ sz_ em k n s h c tk k0 n0 s0 z p x1 (by omega)).callV (rest := []) X dX12_exchange_2 q1129 tX12_isPosition hK (hP.sub [0] rfl) 0 11 rfl rfl rfl hl ⟨⟨Nat.le_of_ble_eq_true rfl, Nat.le_of_ble_eq_true rfl⟩, Nat.le_of_ble_eq_true rfl, Nat.le_of_ble_eq_true rfl⟩ rfl rfl (Nat.le_of_ble_eq_true rfl) ?_
  refine b_if_eq (tgt := 33) X dX12_exchange_5 (by decide) (fun c5 => ?_) (fun c5 => ?_)
  · refine lv_bipush (v := (-2)) X.1 X.2.1 dX12_exchange_33 (by decide) ?_
    exact PuI.ret X hr hlk dX12_exchange_35 (nI_nar _) (by rw [c5]; first | rfl | (rw [c13]; first | rfl | (rw [c21]; first | rfl | (rw [c30]; rfl))))
  · refine lv_aload_n X.1 X.2.1 dX12_exchange_8 rfl (lv_at hl 0 rfl) ?_
    refine lv_iload_n X.1 X.2.1 dX12_exchange_9 rfl (lv_at hl 2 rfl) ?_
    refine (m_isPosition g m0 lt er el cm_ sv md fmm lc lz af pt_ oc ty_ sz_ em k n s h c tk k0 n0 s0 z p x2 (by omega)).callV (rest := []) X dX12_exchange_10 q1129 tX12_isPosition hK (hP.sub [0] rfl) 0 11 rfl rfl rfl hl ⟨⟨Nat.le_of_ble_eq_true rfl, Nat.le_of_ble_eq_true rfl⟩, Nat.le_of_ble_eq_true rfl, Nat.le_of_ble_eq_true rfl⟩ rfl rfl (Nat.le_of_ble_eq_true rfl) ?_
    refine b_if_eq (tgt := 33) X dX12_exchange_13 (by decide) (fun c13 => ?_) (fun c13 => ?_)
    · refine lv_bipush (v := (-2)) X.1 X.2.1 dX12_exchange_33 (by decide) ?_
      exact PuI.ret X hr hlk dX12_exchange_35 (nI_nar _) (by rw [c5]; first | rfl | (rw [c13]; first | rfl | (rw [c21]; first | rfl | (rw [c30]; rfl))))
    · refine lv_aload_n X.1 X.2.1 dX12_exchange_16 rfl (lv_at hl 0 rfl) ?_
      refine lv_iload_n X.1 X.2.1 dX12_exchange_17 rfl (lv_at hl 3 rfl) ?_
      refine (m_isPosition g m0 lt er el cm_ sv md fmm lc lz af pt_ oc ty_ sz_ em k n s h c tk k0 n0 s0 z p x3 (by omega)).callV (rest := []) X dX12_exchange_18 q1129 tX12_isPosition hK (hP.sub [0] rfl) 0 11 rfl rfl rfl hl ⟨⟨Nat.le_of_ble_eq_true rfl, Nat.le_of_ble_eq_true rfl⟩, Nat.le_of_ble_eq_true rfl, Nat.le_of_ble_eq_true rfl⟩ rfl rfl (Nat.le_of_ble_eq_true rfl) ?_
      refine b_if_eq (tgt := 33) X dX12_exchange_21 (by decide) (fun c21 => ?_) (fun c21 => ?_)
      · refine lv_bipush (v := (-2)) X.1 X.2.1 dX12_exchange_33 (by decide) ?_
        exact PuI.ret X hr hlk dX12_exchange_35 (nI_nar _) (by rw [c5]; first | rfl | (rw [c13]; first | rfl | (rw [c21]; first | rfl | (rw [c30]; rfl))))
      · refine lv_aload_n X.1 X.2.1 dX12_exchange_24 rfl (lv_at hl 0 rfl) ?_
        refine lv_iload X.1 X.2.1 dX12_exchange_25 (lv_at hl 4 rfl) ?_
        refine (m_isPosition g m0 lt er el cm_ sv md fmm lc lz af pt_ oc ty_ sz_ em k n s h c tk k0 n0 s0 z p x4 (by omega)).callV (rest := []) X dX12_exchange_27 q1129 tX12_isPosition hK (hP.sub [0] rfl) 0 11 rfl rfl rfl hl ⟨⟨Nat.le_of_ble_eq_true rfl, Nat.le_of_ble_eq_true rfl⟩, Nat.le_of_ble_eq_true rfl, Nat.le_of_ble_eq_true rfl⟩ rfl rfl (Nat.le_of_ble_eq_true rfl) ?_
        refine b_if_ne (tgt := 36) X dX12_exchange_30 (by decide) (fun c30 => ?_) (fun c30 => ?_)
        · refine lv_iload_n X.1 X.2.1 dX12_exchange_36 rfl (lv_at hl 1 rfl) ?_
          refine lv_iload_n X.1 X.2.1 dX12_exchange_37 rfl (lv_at hl 2 rfl) ?_
          refine z_icmp_ge (tgt := 52) X dX12_exchange_38 (by decide) rfl rfl (fun c38 => ?_) (fun c38 => ?_)
          · refine lv_iconst (v := (-1)) X.1 X.2.1 dX12_exchange_52 (by decide) ?_
            exact PuI.ret X hr hlk dX12_exchange_53 (nI_nar _) (by rw [c5, c13, c21, c30]; rfl)
          · refine lv_iload_n X.1 X.2.1 dX12_exchange_41 rfl (lv_at hl 2 rfl) ?_
            refine lv_iload_n X.1 X.2.1 dX12_exchange_42 rfl (lv_at hl 3 rfl) ?_
            refine z_icmp_ge (tgt := 52) X dX12_exchange_43 (by decide) rfl rfl (fun c43 => ?_) (fun c43 => ?_)
            · refine lv_iconst (v := (-1)) X.1 X.2.1 dX12_exchange_52 (by decide) ?_
              exact PuI.ret X hr hlk dX12_exchange_53 (nI_nar _) (by rw [c5, c13, c21, c30]; rfl)
            · refine lv_iload_n X.1 X.2.1 dX12_exchange_46 rfl (lv_at hl 3 rfl) ?_
              refine lv_iload X.1 X.2.1 dX12_exchange_47 (lv_at hl 4 rfl) ?_
              refine z_icmp_lt (tgt := 54) X dX12_exchange_49 (by decide) rfl rfl (fun c49 => ?_) (fun c49 => ?_)
              · exfalso; (rcases hno with h | h) <;> first | (rw [c5, c13, c21, c30] at h; cases h) | omega
              · refine lv_iconst (v := (-1)) X.1 X.2.1 dX12_exchange_52 (by decide) ?_
                exact PuI.ret X hr hlk dX12_exchange_53 (nI_nar _) (by rw [c5, c13, c21, c30]; rfl)
        · refine lv_bipush (v := (-2)) X.1 X.2.1 dX12_exchange_33 (by decide) ?_
          exact PuI.ret X hr hlk dX12_exchange_35 (nI_nar _) (by rw [c5]; first | rfl | (rw [c13]; first | rfl | (rw [c21]; first | rfl | (rw [c30]; rfl))))

set_option maxHeartbeats 4000000 in
set_option maxRecDepth 100000 in
theorem m_configure_ok (g : G5) (m0 : Nat) (lt : Nat) (er : Nat) (el : Nat) (cm_ : Nat) (sv : Nat) (md : Nat) (fmm : Nat) (lc : Nat) (lz : Nat) (af : Nat) (pt_ : Nat) (oc : Nat) (ty_ : Nat) (sz_ : Nat) (em : Nat) (k : Nat) (n : Nat) (s : List Nat) (h : List (List Nat)) (c : List Nat) (tk : Bool) (k0 : Nat) (n0 : Nat) (s0 : List Nat) (z : List Nat) (p : List Int) (k1 : Nat) (n1 : Nat) (B1 : Nat) (T1 : Nat) (hc1 : shp k1 n1 B1 T1) : MuI (S := Unit) yX12_configure cX12_configure 3 (some .int) 2 43 g [.ref m0, .int (nI k1), .int (nI n1)] [(m0, .inr (11, [.int (nI k), .int (nI n), .ref lt, .int (nI s.length), .ref er, .ref el, .int (nI h.length), .ref cm_, .int (nI c.length), .int (bI tk), .int (nI k0), .int (nI n0), .ref sv, .int (nI s0.length), .ref md, .int (nI z.length), .ref fmm, .ref lc, .ref lz, .ref af, .ref pt_, .int (nI p.length), .ref oc, .ref ty_, .ref sz_, .ref em]))] (fun r (_ : Unit) => r = (nI B1) ∧ True) (fun _ => [(m0, .inr (11, [.int (nI k1), .int (nI n1), .ref lt, .int (nI (([] : List Nat).length)), .ref er, .ref el, .int (nI (([] : List (List Nat)).length)), .ref cm_, .int (nI c.length), .int (bI tk), .int (nI k0), .int (nI n0), .ref sv, .int (nI s0.length), .ref md, .int (nI z.length), .ref fmm, .ref lc, .ref lz, .ref af, .ref pt_, .int (nI (([] : List Int).length)), .ref oc, .ref ty_, .ref sz_, .ref em]))]) := by
  refine MuI.of (by decide +kernel) (Nat.le_of_ble_eq_true rfl) ?_
  intro p_ l_ e_ S_ m_ args below meth co X hr hlk hP hK A hA hD hS ls hl
  have X : CallFix p_ m_ co cX12_configure 3 S_ args lw_all RX12 := X
  have hl : lv_has ls 3 [(0, .ref m0), (1, .int (nI k1)), (2, .int (nI n1))] := hl
  obtain ⟨hk2, hk4, hn1, hn6, hB2, hT1, hBT, hT12⟩ := hc1.f
  have hB1 := hc1.2.1
  refine lv_iload_n X.1 X.2.1 dX12_configure_0 rfl (lv_at hl 1 rfl) ?_
  refine lv_iconst (v := (nI 2)) X.1 X.2.1 dX12_configure_1 (by decide) ?_
  refine lv_iconst (v := (nI 4)) X.1 X.2.1 dX12_configure_2 (by decide) ?_
  refine (c_inN g (nI k1) 2 4 (by omega) (by omega)).callS (rest := []) X dX12_configure_3 q1103 tX12_in hK (hP.sub [] rfl) hl ⟨⟨Nat.le_of_ble_eq_true rfl, Nat.le_of_ble_eq_true rfl⟩, Nat.le_of_ble_eq_true rfl, Nat.le_of_ble_eq_true rfl⟩ rfl rfl (Nat.le_of_ble_eq_true rfl) ?_
  refine b_if_eq (tgt := 30) X dX12_configure_6 (by decide) (fun c6 => ?_) (fun c6 => ?_)
  · exfalso; have h6 := of_decide_eq_false c6; rw [nI_toInt (by omega)] at h6; omega
  · refine lv_iload_n X.1 X.2.1 dX12_configure_9 rfl (lv_at hl 2 rfl) ?_
    refine lv_iconst (v := (nI 1)) X.1 X.2.1 dX12_configure_10 (by decide) ?_
    refine lv_bipush (v := (nI 6)) X.1 X.2.1 dX12_configure_11 (by decide) ?_
    refine (c_inN g (nI n1) 1 6 (by omega) (by omega)).callS (rest := []) X dX12_configure_13 q1103 tX12_in hK (hP.sub [] rfl) hl ⟨⟨Nat.le_of_ble_eq_true rfl, Nat.le_of_ble_eq_true rfl⟩, Nat.le_of_ble_eq_true rfl, Nat.le_of_ble_eq_true rfl⟩ rfl rfl (Nat.le_of_ble_eq_true rfl) ?_
    refine b_if_eq (tgt := 30) X dX12_configure_16 (by decide) (fun c16 => ?_) (fun c16 => ?_)
    · exfalso; have h6 := of_decide_eq_false c16; rw [nI_toInt (by omega)] at h6; omega
    · refine lv_iload_n X.1 X.2.1 dX12_configure_19 rfl (lv_at hl 1 rfl) ?_
      refine lv_iload_n X.1 X.2.1 dX12_configure_20 rfl (lv_at hl 2 rfl) ?_
      refine (c_mpower g k1 n1 (by omega)).callS (rest := []) X dX12_configure_21 q1106 tX12_power hK (hP.sub [] rfl) hl ⟨⟨Nat.le_of_ble_eq_true rfl, Nat.le_of_ble_eq_true rfl⟩, Nat.le_of_ble_eq_true rfl, Nat.le_of_ble_eq_true rfl⟩ rfl rfl (Nat.le_of_ble_eq_true rfl) ?_
      refine lv_sipush (v := (nI 256)) X.1 X.2.1 dX12_configure_24 (by decide) ?_
      refine z_icmp_le (tgt := 32) X dX12_configure_27 (by decide) (nI_toInt (by omega)) (nI_toInt (by omega)) (fun c27 => ?_) (fun c27 => ?_)
      · refine lv_aload_n X.1 X.2.1 dX12_configure_32 rfl (lv_at hl 0 rfl) ?_
        refine lv_iload_n X.1 X.2.1 dX12_configure_33 rfl (lv_at hl 1 rfl) ?_
        refine va_put (D := g.1) (ci := 11) (v := .int (nI k1)) (ty := .int) (C := RX12) (T := TX12) (N := 26) X.1 X.2.1 X.2.2.2.2 iwX12 tyX12 tyX12_ok nmX12 X.2.2.2.1 hK hP hD hS 0 rfl rfl 0 (by decide) (X.2.2.2.2 _ q1020) (fun _ h9 => h9) rfl (by decide +kernel) rfl rfl (Nat.le_of_ble_eq_true rfl) dX12_configure_34 (fun H locs hP hD hS => ?_)
        have hP : PP g [(m0, .inr (11, [.int (nI k1), .int (nI n), .ref lt, .int (nI s.length), .ref er, .ref el, .int (nI h.length), .ref cm_, .int (nI c.length), .int (bI tk), .int (nI k0), .int (nI n0), .ref sv, .int (nI s0.length), .ref md, .int (nI z.length), .ref fmm, .ref lc, .ref lz, .ref af, .ref pt_, .int (nI p.length), .ref oc, .ref ty_, .ref sz_, .ref em]))] H := hP
        have hD : va_D A [(m0, .inr (11, [.int (nI k1), .int (nI n), .ref lt, .int (nI s.length), .ref er, .ref el, .int (nI h.length), .ref cm_, .int (nI c.length), .int (bI tk), .int (nI k0), .int (nI n0), .ref sv, .int (nI s0.length), .ref md, .int (nI z.length), .ref fmm, .ref lc, .ref lz, .ref af, .ref pt_, .int (nI p.length), .ref oc, .ref ty_, .ref sz_, .ref em]))] := hD
        refine lv_aload_n X.1 X.2.1 dX12_configure_37 rfl (lv_at hl 0 rfl) ?_
        refine lv_iload_n X.1 X.2.1 dX12_configure_38 rfl (lv_at hl 2 rfl) ?_
        refine va_put (D := g.1) (ci := 11) (v := .int (nI n1)) (ty := .int) (C := RX12) (T := TX12) (N := 26) X.1 X.2.1 X.2.2.2.2 iwX12 tyX12 tyX12_ok nmX12 X.2.2.2.1 hK hP hD hS 0 rfl rfl 1 (by decide) (X.2.2.2.2 _ q1021) (fun _ h9 => h9) rfl (by decide +kernel) rfl rfl (Nat.le_of_ble_eq_true rfl) dX12_configure_39 (fun H locs hP hD hS => ?_)
        have hP : PP g [(m0, .inr (11, [.int (nI k1), .int (nI n1), .ref lt, .int (nI s.length), .ref er, .ref el, .int (nI h.length), .ref cm_, .int (nI c.length), .int (bI tk), .int (nI k0), .int (nI n0), .ref sv, .int (nI s0.length), .ref md, .int (nI z.length), .ref fmm, .ref lc, .ref lz, .ref af, .ref pt_, .int (nI p.length), .ref oc, .ref ty_, .ref sz_, .ref em]))] H := hP
        have hD : va_D A [(m0, .inr (11, [.int (nI k1), .int (nI n1), .ref lt, .int (nI s.length), .ref er, .ref el, .int (nI h.length), .ref cm_, .int (nI c.length), .int (bI tk), .int (nI k0), .int (nI n0), .ref sv, .int (nI s0.length), .ref md, .int (nI z.length), .ref fmm, .ref lc, .ref lz, .ref af, .ref pt_, .int (nI p.length), .ref oc, .ref ty_, .ref sz_, .ref em]))] := hD
        refine lv_aload_n X.1 X.2.1 dX12_configure_42 rfl (lv_at hl 0 rfl) ?_
        refine lv_iconst (v := (nI 0)) X.1 X.2.1 dX12_configure_43 (by decide) ?_
        refine va_put (D := g.1) (ci := 11) (v := .int (nI 0)) (ty := .int) (C := RX12) (T := TX12) (N := 26) X.1 X.2.1 X.2.2.2.2 iwX12 tyX12 tyX12_ok nmX12 X.2.2.2.1 hK hP hD hS 0 rfl rfl 3 (by decide) (X.2.2.2.2 _ q1023) (fun _ h9 => h9) rfl (by decide +kernel) rfl rfl (Nat.le_of_ble_eq_true rfl) dX12_configure_44 (fun H locs hP hD hS => ?_)
        have hP : PP g [(m0, .inr (11, [.int (nI k1), .int (nI n1), .ref lt, .int (nI 0), .ref er, .ref el, .int (nI h.length), .ref cm_, .int (nI c.length), .int (bI tk), .int (nI k0), .int (nI n0), .ref sv, .int (nI s0.length), .ref md, .int (nI z.length), .ref fmm, .ref lc, .ref lz, .ref af, .ref pt_, .int (nI p.length), .ref oc, .ref ty_, .ref sz_, .ref em]))] H := hP
        have hD : va_D A [(m0, .inr (11, [.int (nI k1), .int (nI n1), .ref lt, .int (nI 0), .ref er, .ref el, .int (nI h.length), .ref cm_, .int (nI c.length), .int (bI tk), .int (nI k0), .int (nI n0), .ref sv, .int (nI s0.length), .ref md, .int (nI z.length), .ref fmm, .ref lc, .ref lz, .ref af, .ref pt_, .int (nI p.length), .ref oc, .ref ty_, .ref sz_, .ref em]))] := hD
        refine lv_aload_n X.1 X.2.1 dX12_configure_47 rfl (lv_at hl 0 rfl) ?_
        refine lv_iconst (v := (nI 0)) X.1 X.2.1 dX12_configure_48 (by decide) ?_
        refine va_put (D := g.1) (ci := 11) (v := .int (nI 0)) (ty := .int) (C := RX12) (T := TX12) (N := 26) X.1 X.2.1 X.2.2.2.2 iwX12 tyX12 tyX12_ok nmX12 X.2.2.2.1 hK hP hD hS 0 rfl rfl 6 (by decide) (X.2.2.2.2 _ q1026) (fun _ h9 => h9) rfl (by decide +kernel) rfl rfl (Nat.le_of_ble_eq_true rfl) dX12_configure_49 (fun H locs hP hD hS => ?_)
        have hP : PP g [(m0, .inr (11, [.int (nI k1), .int (nI n1), .ref lt, .int (nI 0), .ref er, .ref el, .int (nI 0), .ref cm_, .int (nI c.length), .int (bI tk), .int (nI k0), .int (nI n0), .ref sv, .int (nI s0.length), .ref md, .int (nI z.length), .ref fmm, .ref lc, .ref lz, .ref af, .ref pt_, .int (nI p.length), .ref oc, .ref ty_, .ref sz_, .ref em]))] H := hP
        have hD : va_D A [(m0, .inr (11, [.int (nI k1), .int (nI n1), .ref lt, .int (nI 0), .ref er, .ref el, .int (nI 0), .ref cm_, .int (nI c.length), .int (bI tk), .int (nI k0), .int (nI n0), .ref sv, .int (nI s0.length), .ref md, .int (nI z.length), .ref fmm, .ref lc, .ref lz, .ref af, .ref pt_, .int (nI p.length), .ref oc, .ref ty_, .ref sz_, .ref em]))] := hD
        refine lv_aload_n X.1 X.2.1 dX12_configure_52 rfl (lv_at hl 0 rfl) ?_
        refine lv_iconst (v := (nI 0)) X.1 X.2.1 dX12_configure_53 (by decide) ?_
        refine va_put (D := g.1) (ci := 11) (v := .int (nI 0)) (ty := .int) (C := RX12) (T := TX12) (N := 26) X.1 X.2.1 X.2.2.2.2 iwX12 tyX12 tyX12_ok nmX12 X.2.2.2.1 hK hP hD hS 0 rfl rfl 21 (by decide) (X.2.2.2.2 _ q1041) (fun _ h9 => h9) rfl (by decide +kernel) rfl rfl (Nat.le_of_ble_eq_true rfl) dX12_configure_54 (fun H locs hP hD hS => ?_)
        have hP : PP g [(m0, .inr (11, [.int (nI k1), .int (nI n1), .ref lt, .int (nI 0), .ref er, .ref el, .int (nI 0), .ref cm_, .int (nI c.length), .int (bI tk), .int (nI k0), .int (nI n0), .ref sv, .int (nI s0.length), .ref md, .int (nI z.length), .ref fmm, .ref lc, .ref lz, .ref af, .ref pt_, .int (nI 0), .ref oc, .ref ty_, .ref sz_, .ref em]))] H := hP
        have hD : va_D A [(m0, .inr (11, [.int (nI k1), .int (nI n1), .ref lt, .int (nI 0), .ref er, .ref el, .int (nI 0), .ref cm_, .int (nI c.length), .int (bI tk), .int (nI k0), .int (nI n0), .ref sv, .int (nI s0.length), .ref md, .int (nI z.length), .ref fmm, .ref lc, .ref lz, .ref af, .ref pt_, .int (nI 0), .ref oc, .ref ty_, .ref sz_, .ref em]))] := hD
        have hP : PP g [(m0, .inr (11, [.int (nI k1), .int (nI n1), .ref lt, .int (nI (([] : List Nat).length)), .ref er, .ref el, .int (nI (([] : List (List Nat)).length)), .ref cm_, .int (nI c.length), .int (bI tk), .int (nI k0), .int (nI n0), .ref sv, .int (nI s0.length), .ref md, .int (nI z.length), .ref fmm, .ref lc, .ref lz, .ref af, .ref pt_, .int (nI (([] : List Int).length)), .ref oc, .ref ty_, .ref sz_, .ref em]))] H := by exact hP
        have hD : va_D A [(m0, .inr (11, [.int (nI k1), .int (nI n1), .ref lt, .int (nI (([] : List Nat).length)), .ref er, .ref el, .int (nI (([] : List (List Nat)).length)), .ref cm_, .int (nI c.length), .int (bI tk), .int (nI k0), .int (nI n0), .ref sv, .int (nI s0.length), .ref md, .int (nI z.length), .ref fmm, .ref lc, .ref lz, .ref af, .ref pt_, .int (nI (([] : List Int).length)), .ref oc, .ref ty_, .ref sz_, .ref em]))] := by exact hD
        refine lv_aload_n X.1 X.2.1 dX12_configure_57 rfl (lv_at hl 0 rfl) ?_
        refine (m_blocks g m0 lt er el cm_ sv md fmm lc lz af pt_ oc ty_ sz_ em k1 n1 ([] : List Nat) ([] : List (List Nat)) c tk k0 n0 s0 z ([] : List Int) B1 T1 (hc1)).callV (rest := []) X dX12_configure_58 q1109 tX12_blocks hK (hP.sub [0] rfl) 0 11 rfl rfl rfl hl ⟨⟨Nat.le_of_ble_eq_true rfl, Nat.le_of_ble_eq_true rfl⟩, Nat.le_of_ble_eq_true rfl, Nat.le_of_ble_eq_true rfl⟩ rfl rfl (Nat.le_of_ble_eq_true rfl) ?_
        exact MuI.ret X hr hlk hK hS dX12_configure_61 (nI_nar _) () (hP.sub [0] rfl) (hD.sub [0] (by decide) rfl) (⟨rfl, trivial⟩)
      · exfalso; omega

set_option maxHeartbeats 4000000 in
set_option maxRecDepth 100000 in
theorem m_configure_no (g : G5) (m0 : Nat) (lt : Nat) (er : Nat) (el : Nat) (cm_ : Nat) (sv : Nat) (md : Nat) (fmm : Nat) (lc : Nat) (lz : Nat) (af : Nat) (pt_ : Nat) (oc : Nat) (ty_ : Nat) (sz_ : Nat) (em : Nat) (k : Nat) (n : Nat) (s : List Nat) (h : List (List Nat)) (c : List Nat) (tk : Bool) (k0 : Nat) (n0 : Nat) (s0 : List Nat) (z : List Nat) (p : List Int) (x : Int32) (y : Int32) (hno : possB x y = false) : PuI yX12_configure cX12_configure 3 (some .int) 2 43 g [.ref m0, .int x, .int y] [(m0, .inr (11, [.int (nI k), .int (nI n), .ref lt, .int (nI s.length), .ref er, .ref el, .int (nI h.length), .ref cm_, .int (nI c.length), .int (bI tk), .int (nI k0), .int (nI n0), .ref sv, .int (nI s0.length), .ref md, .int (nI z.length), .ref fmm, .ref lc, .ref lz, .ref af, .ref pt_, .int (nI p.length), .ref oc, .ref ty_, .ref sz_, .ref em]))] (-1) := by
  refine PuI.of (by decide +kernel) (Nat.le_of_ble_eq_true rfl) ?_
  intro p_ l_ e_ S_ m_ args below meth co X hr hlk hP hK ls hl
  have X : CallFix p_ m_ co cX12_configure 3 S_ args lw_all RX12 := X
  have hl : lv_has ls 3 [(0, .ref m0), (1, .int x), (2, .int y)] := hl
  unfold possB at hno
  have hno := of_decide_eq_false hno
  refine lv_iload_n X.1 X.2.1 dX12_configure_0 rfl (lv_at hl 1 rfl) ?_
  refine lv_iconst (v := (nI 2)) X.1 X.2.1 dX12_configure_1 (by decide) ?_
  refine lv_iconst (v := (nI 4)) X.1 X.2.1 dX12_configure_2 (by decide) ?_
  refine (c_inN g x 2 4 (by omega) (by omega)).callS (rest := []) X dX12_configure_3 q1103 tX12_in hK (hP.sub [] rfl) hl ⟨⟨Nat.le_of_ble_eq_true rfl, Nat.le_of_ble_eq_true rfl⟩, Nat.le_of_ble_eq_true rfl, Nat.le_of_ble_eq_true rfl⟩ rfl rfl (Nat.le_of_ble_eq_true rfl) ?_
  refine b_if_eq (tgt := 30) X dX12_configure_6 (by decide) (fun c6 => ?_) (fun c6 => ?_)
  · refine lv_iconst (v := (-1)) X.1 X.2.1 dX12_configure_30 (by decide) ?_
    exact PuI.ret X hr hlk dX12_configure_31 (nI_nar _) (rfl)
  · have h6 := of_decide_eq_true c6
    obtain ⟨a, ha, rfl⟩ := z_nat (x := x) (by omega)
    rw [nI_toInt ha] at h6 hno
    refine lv_iload_n X.1 X.2.1 dX12_configure_9 rfl (lv_at hl 2 rfl) ?_
    refine lv_iconst (v := (nI 1)) X.1 X.2.1 dX12_configure_10 (by decide) ?_
    refine lv_bipush (v := (nI 6)) X.1 X.2.1 dX12_configure_11 (by decide) ?_
    refine (c_inN g y 1 6 (by omega) (by omega)).callS (rest := []) X dX12_configure_13 q1103 tX12_in hK (hP.sub [] rfl) hl ⟨⟨Nat.le_of_ble_eq_true rfl, Nat.le_of_ble_eq_true rfl⟩, Nat.le_of_ble_eq_true rfl, Nat.le_of_ble_eq_true rfl⟩ rfl rfl (Nat.le_of_ble_eq_true rfl) ?_
    refine b_if_eq (tgt := 30) X dX12_configure_16 (by decide) (fun c16 => ?_) (fun c16 => ?_)
    · refine lv_iconst (v := (-1)) X.1 X.2.1 dX12_configure_30 (by decide) ?_
      exact PuI.ret X hr hlk dX12_configure_31 (nI_nar _) (rfl)
    · have h7 := of_decide_eq_true c16
      obtain ⟨b, hb, rfl⟩ := z_nat (x := y) (by omega)
      rw [nI_toInt hb] at h7 hno
      rw [Int.toNat_natCast, Int.toNat_natCast] at hno
      have hpw := pow_small (a := a) (b := b) (by omega) (by omega)
      refine lv_iload_n X.1 X.2.1 dX12_configure_19 rfl (lv_at hl 1 rfl) ?_
      refine lv_iload_n X.1 X.2.1 dX12_configure_20 rfl (lv_at hl 2 rfl) ?_
      refine (c_mpower g a b (by omega)).callS (rest := []) X dX12_configure_21 q1106 tX12_power hK (hP.sub [] rfl) hl ⟨⟨Nat.le_of_ble_eq_true rfl, Nat.le_of_ble_eq_true rfl⟩, Nat.le_of_ble_eq_true rfl, Nat.le_of_ble_eq_true rfl⟩ rfl rfl (Nat.le_of_ble_eq_true rfl) ?_
      refine lv_sipush (v := (nI 256)) X.1 X.2.1 dX12_configure_24 (by decide) ?_
      refine z_icmp_le (tgt := 32) X dX12_configure_27 (by decide) (nI_toInt (by omega)) (nI_toInt (by omega)) (fun c27 => ?_) (fun c27 => ?_)
      · exfalso; exact hno ⟨by omega, by omega, by omega, by omega, by omega⟩
      · refine lv_iconst (v := (-1)) X.1 X.2.1 dX12_configure_30 (by decide) ?_
        exact PuI.ret X hr hlk dX12_configure_31 (nI_nar _) (rfl)

set_option maxHeartbeats 4000000 in
set_option maxRecDepth 100000 in
theorem m_appendCommand_ok (g : G5) (m0 : Nat) (lt : Nat) (er : Nat) (el : Nat) (cm_ : Nat) (sv : Nat) (md : Nat) (fmm : Nat) (lc : Nat) (lz : Nat) (af : Nat) (pt_ : Nat) (oc : Nat) (ty_ : Nat) (sz_ : Nat) (em : Nat) (k : Nat) (n : Nat) (s : List Nat) (h : List (List Nat)) (c : List Nat) (tk : Bool) (k0 : Nat) (n0 : Nat) (s0 : List Nat) (z : List Nat) (p : List Int) (fc : Nat → Int32) (x : Nat) (hcl : c.length < 20) (hfc : rep fc c) (hx1 : 33 ≤ x) (hx2 : x ≤ 126) : MuI (S := (Nat → Int32)) yX12_appendCommand cX12_appendCommand 2 (some .int) 1 22 g [.ref m0, .int (nI x)] [(m0, .inr (11, [.int (nI k), .int (nI n), .ref lt, .int (nI s.length), .ref er, .ref el, .int (nI h.length), .ref cm_, .int (nI c.length), .int (bI tk), .int (nI k0), .int (nI n0), .ref sv, .int (nI s0.length), .ref md, .int (nI z.length), .ref fmm, .ref lc, .ref lz, .ref af, .ref pt_, .int (nI p.length), .ref oc, .ref ty_, .ref sz_, .ref em])), (cm_, .inl (g.2.1, 20, .inl fc))] (fun r fc1 => r = (nI ((c ++ [x]).length)) ∧ rep fc1 (c ++ [x])) (fun fc1 => [(m0, .inr (11, [.int (nI k), .int (nI n), .ref lt, .int (nI s.length), .ref er, .ref el, .int (nI h.length), .ref cm_, .int (nI ((c ++ [x]).length)), .int (bI tk), .int (nI k0), .int (nI n0), .ref sv, .int (nI s0.length), .ref md, .int (nI z.length), .ref fmm, .ref lc, .ref lz, .ref af, .ref pt_, .int (nI p.length), .ref oc, .ref ty_, .ref sz_, .ref em])), (cm_, .inl (g.2.1, 20, .inl fc1))]) := by
  refine MuI.of (by decide +kernel) (Nat.le_of_ble_eq_true rfl) ?_
  intro p_ l_ e_ S_ m_ args below meth co X hr hlk hP hK A hA hD hS ls hl
  have X : CallFix p_ m_ co cX12_appendCommand 2 S_ args lw_all RX12 := X
  have hl : lv_has ls 2 [(0, .ref m0), (1, .int (nI x))] := hl
  refine lv_iload_n X.1 X.2.1 dX12_appendCommand_0 rfl (lv_at hl 1 rfl) ?_
  refine lv_bipush (v := (nI 33)) X.1 X.2.1 dX12_appendCommand_1 (by decide) ?_
  refine lv_bipush (v := (nI 126)) X.1 X.2.1 dX12_appendCommand_3 (by decide) ?_
  refine (c_inN g (nI x) 33 126 (by omega) (by omega)).callS (rest := []) X dX12_appendCommand_5 q1103 tX12_in hK (hP.sub [] rfl) hl ⟨⟨Nat.le_of_ble_eq_true rfl, Nat.le_of_ble_eq_true rfl⟩, Nat.le_of_ble_eq_true rfl, Nat.le_of_ble_eq_true rfl⟩ rfl rfl (Nat.le_of_ble_eq_true rfl) ?_
  refine b_if_ne (tgt := 13) X dX12_appendCommand_8 (by decide) (fun c8 => ?_) (fun c8 => ?_)
  · refine lv_aload_n X.1 X.2.1 dX12_appendCommand_13 rfl (lv_at hl 0 rfl) ?_
    refine va_get (D := g.1) (ci := 11) (v := .int (nI c.length)) (C := RX12) (T := TX12) (N := 26) X.1 X.2.1 X.2.2.2.2 iwX12 X.2.2.2.1 hK hP 0 rfl rfl 8 (by decide) (X.2.2.2.2 _ q1028) (fun _ h9 => h9) rfl dX12_appendCommand_14 ?_
    refine lv_bipush (v := (nI 20)) X.1 X.2.1 dX12_appendCommand_17 (by decide) ?_
    refine z_icmp_ne (tgt := 25) X dX12_appendCommand_19 (by decide) (nI_toInt (by omega)) (nI_toInt (by omega)) (fun c19 => ?_) (fun c19 => ?_)
    · refine lv_aload_n X.1 X.2.1 dX12_appendCommand_25 rfl (lv_at hl 0 rfl) ?_
      refine va_get (D := g.1) (ci := 11) (v := .ref cm_) (C := RX12) (T := TX12) (N := 26) X.1 X.2.1 X.2.2.2.2 iwX12 X.2.2.2.1 hK hP 0 rfl rfl 7 (by decide) (X.2.2.2.2 _ q1027) (fun _ h9 => h9) rfl dX12_appendCommand_26 ?_
      refine lv_aload_n X.1 X.2.1 dX12_appendCommand_29 rfl (lv_at hl 0 rfl) ?_
      refine va_get (D := g.1) (ci := 11) (v := .int (nI c.length)) (C := RX12) (T := TX12) (N := 26) X.1 X.2.1 X.2.2.2.2 iwX12 X.2.2.2.1 hK hP 0 rfl rfl 8 (by decide) (X.2.2.2.2 _ q1028) (fun _ h9 => h9) rfl dX12_appendCommand_30 ?_
      refine lv_iload_n X.1 X.2.1 dX12_appendCommand_33 rfl (lv_at hl 1 rfl) ?_
      refine n_iast X hK hP hD hS 1 0 rfl rfl (by omega) (by decide) dX12_appendCommand_34 (fun H locs hP hD hS => ?_)
      have hP : PP g [(m0, .inr (11, [.int (nI k), .int (nI n), .ref lt, .int (nI s.length), .ref er, .ref el, .int (nI h.length), .ref cm_, .int (nI c.length), .int (bI tk), .int (nI k0), .int (nI n0), .ref sv, .int (nI s0.length), .ref md, .int (nI z.length), .ref fmm, .ref lc, .ref lz, .ref af, .ref pt_, .int (nI p.length), .ref oc, .ref ty_, .ref sz_, .ref em])), (cm_, .inl (g.2.1, 20, .inl (upd fc c.length (nI x))))] H := hP
      have hD : va_D A [(m0, .inr (11, [.int (nI k), .int (nI n), .ref lt, .int (nI s.length), .ref er, .ref el, .int (nI h.length), .ref cm_, .int (nI c.length), .int (bI tk), .int (nI k0), .int (nI n0), .ref sv, .int (nI s0.length), .ref md, .int (nI z.length), .ref fmm, .ref lc, .ref lz, .ref af, .ref pt_, .int (nI p.length), .ref oc, .ref ty_, .ref sz_, .ref em])), (cm_, .inl (g.2.1, 20, .inl (upd fc c.length (nI x))))] := hD
      refine lv_aload_n X.1 X.2.1 dX12_appendCommand_35 rfl (lv_at hl 0 rfl) ?_
      refine lv_dup X.1 X.2.1 dX12_appendCommand_36 rfl ?_
      refine va_get (D := g.1) (ci := 11) (v := .int (nI c.length)) (C := RX12) (T := TX12) (N := 26) X.1 X.2.1 X.2.2.2.2 iwX12 X.2.2.2.1 hK hP 0 rfl rfl 8 (by decide) (X.2.2.2.2 _ q1028) (fun _ h9 => h9) rfl dX12_appendCommand_37 ?_
      refine lv_iconst (v := (nI 1)) X.1 X.2.1 dX12_appendCommand_40 (by decide) ?_
      refine n_add X dX12_appendCommand_41 ?_
      refine va_put (D := g.1) (ci := 11) (v := .int (nI (c.length + 1))) (ty := .int) (C := RX12) (T := TX12) (N := 26) X.1 X.2.1 X.2.2.2.2 iwX12 tyX12 tyX12_ok nmX12 X.2.2.2.1 hK hP hD hS 0 rfl rfl 8 (by decide) (X.2.2.2.2 _ q1028) (fun _ h9 => h9) rfl (by decide +kernel) rfl rfl (Nat.le_of_ble_eq_true rfl) dX12_appendCommand_42 (fun H locs hP hD hS => ?_)
      have hP : PP g [(m0, .inr (11, [.int (nI k), .int (nI n), .ref lt, .int (nI s.length), .ref er, .ref el, .int (nI h.length), .ref cm_, .int (nI (c.length + 1)), .int (bI tk), .int (nI k0), .int (nI n0), .ref sv, .int (nI s0.length), .ref md, .int (nI z.length), .ref fmm, .ref lc, .ref lz, .ref af, .ref pt_, .int (nI p.length), .ref oc, .ref ty_, .ref sz_, .ref em])), (cm_, .inl (g.2.1, 20, .inl (upd fc c.length (nI x))))] H := hP
      have hD : va_D A [(m0, .inr (11, [.int (nI k), .int (nI n), .ref lt, .int (nI s.length), .ref er, .ref el, .int (nI h.length), .ref cm_, .int (nI (c.length + 1)), .int (bI tk), .int (nI k0), .int (nI n0), .ref sv, .int (nI s0.length), .ref md, .int (nI z.length), .ref fmm, .ref lc, .ref lz, .ref af, .ref pt_, .int (nI p.length), .ref oc, .ref ty_, .ref sz_, .ref em])), (cm_, .inl (g.2.1, 20, .inl (upd fc c.length (nI x))))] := hD
      have hP : PP g [(m0, .inr (11, [.int (nI k), .int (nI n), .ref lt, .int (nI s.length), .ref er, .ref el, .int (nI h.length), .ref cm_, .int (nI ((c ++ [x]).length)), .int (bI tk), .int (nI k0), .int (nI n0), .ref sv, .int (nI s0.length), .ref md, .int (nI z.length), .ref fmm, .ref lc, .ref lz, .ref af, .ref pt_, .int (nI p.length), .ref oc, .ref ty_, .ref sz_, .ref em])), (cm_, .inl (g.2.1, 20, .inl (upd fc c.length (nI x))))] H := by rw [show (c ++ [x]).length = c.length + 1 by simp]; exact hP
      have hD : va_D A [(m0, .inr (11, [.int (nI k), .int (nI n), .ref lt, .int (nI s.length), .ref er, .ref el, .int (nI h.length), .ref cm_, .int (nI ((c ++ [x]).length)), .int (bI tk), .int (nI k0), .int (nI n0), .ref sv, .int (nI s0.length), .ref md, .int (nI z.length), .ref fmm, .ref lc, .ref lz, .ref af, .ref pt_, .int (nI p.length), .ref oc, .ref ty_, .ref sz_, .ref em])), (cm_, .inl (g.2.1, 20, .inl (upd fc c.length (nI x))))] := by rw [show (c ++ [x]).length = c.length + 1 by simp]; exact hD
      refine lv_aload_n X.1 X.2.1 dX12_appendCommand_45 rfl (lv_at hl 0 rfl) ?_
      refine va_get (D := g.1) (ci := 11) (v := .int (nI ((c ++ [x]).length))) (C := RX12) (T := TX12) (N := 26) X.1 X.2.1 X.2.2.2.2 iwX12 X.2.2.2.1 hK hP 0 rfl rfl 8 (by decide) (X.2.2.2.2 _ q1028) (fun _ h9 => h9) rfl dX12_appendCommand_46 ?_
      exact MuI.ret X hr hlk hK hS dX12_appendCommand_49 (nI_nar _) (upd fc c.length (nI x)) (hP.sub [0, 1] rfl) (hD.sub [0, 1] (by decide) rfl) (⟨rfl, rep_add hfc x⟩)
    · exfalso; omega
  · exfalso; have h6 := of_decide_eq_false c8; rw [nI_toInt (by omega)] at h6; omega

set_option maxHeartbeats 4000000 in
set_option maxRecDepth 100000 in
theorem m_appendCommand_no (g : G5) (m0 : Nat) (lt : Nat) (er : Nat) (el : Nat) (cm_ : Nat) (sv : Nat) (md : Nat) (fmm : Nat) (lc : Nat) (lz : Nat) (af : Nat) (pt_ : Nat) (oc : Nat) (ty_ : Nat) (sz_ : Nat) (em : Nat) (k : Nat) (n : Nat) (s : List Nat) (h : List (List Nat)) (c : List Nat) (tk : Bool) (k0 : Nat) (n0 : Nat) (s0 : List Nat) (z : List Nat) (p : List Int) (x : Int32) (hcl : c.length ≤ 20) (hno : ¬ (33 ≤ x.toInt ∧ x.toInt ≤ 126) ∨ c.length = 20) : PuI yX12_appendCommand cX12_appendCommand 2 (some .int) 1 22 g [.ref m0, .int x] [(m0, .inr (11, [.int (nI k), .int (nI n), .ref lt, .int (nI s.length), .ref er, .ref el, .int (nI h.length), .ref cm_, .int (nI c.length), .int (bI tk), .int (nI k0), .int (nI n0), .ref sv, .int (nI s0.length), .ref md, .int (nI z.length), .ref fmm, .ref lc, .ref lz, .ref af, .ref pt_, .int (nI p.length), .ref oc, .ref ty_, .ref sz_, .ref em]))] (if 33 ≤ x.toInt ∧ x.toInt ≤ 126 then (-4) else (-1)) := by
  refine PuI.of (by decide +kernel) (Nat.le_of_ble_eq_true rfl) ?_
  intro p_ l_ e_ S_ m_ args below meth co X hr hlk hP hK ls hl
  have X : CallFix p_ m_ co cX12_appendCommand 2 S_ args lw_all RX12 := X
  have hl : lv_has ls 2 [(0, .ref m0), (1, .int x)] := hl
  refine lv_iload_n X.1 X.2.1 dX12_appendCommand_0 rfl (lv_at hl 1 rfl) ?_
  refine lv_bipush (v := (nI 33)) X.1 X.2.1 dX12_appendCommand_1 (by decide) ?_
  refine lv_bipush (v := (nI 126)) X.1 X.2.1 dX12_appendCommand_3 (by decide) ?_
  refine (c_inN g x 33 126 (by omega) (by omega)).callS (rest := []) X dX12_appendCommand_5 q1103 tX12_in hK (hP.sub [] rfl) hl ⟨⟨Nat.le_of_ble_eq_true rfl, Nat.le_of_ble_eq_true rfl⟩, Nat.le_of_ble_eq_true rfl, Nat.le_of_ble_eq_true rfl⟩ rfl rfl (Nat.le_of_ble_eq_true rfl) ?_
  refine b_if_ne (tgt := 13) X dX12_appendCommand_8 (by decide) (fun c8 => ?_) (fun c8 => ?_)
  · refine lv_aload_n X.1 X.2.1 dX12_appendCommand_13 rfl (lv_at hl 0 rfl) ?_
    refine va_get (D := g.1) (ci := 11) (v := .int (nI c.length)) (C := RX12) (T := TX12) (N := 26) X.1 X.2.1 X.2.2.2.2 iwX12 X.2.2.2.1 hK hP 0 rfl rfl 8 (by decide) (X.2.2.2.2 _ q1028) (fun _ h9 => h9) rfl dX12_appendCommand_14 ?_
    refine lv_bipush (v := (nI 20)) X.1 X.2.1 dX12_appendCommand_17 (by decide) ?_
    have h6 := of_decide_eq_true c8
    refine z_icmp_ne (tgt := 25) X dX12_appendCommand_19 (by decide) (nI_toInt (by omega)) (nI_toInt (by omega)) (fun c19 => ?_) (fun c19 => ?_)
    · exfalso; omega
    · refine lv_bipush (v := (-4)) X.1 X.2.1 dX12_appendCommand_22 (by decide) ?_
      exact PuI.ret X hr hlk dX12_appendCommand_24 (nI_nar _) (by rw [if_pos (by omega)])
  · refine lv_iconst (v := (-1)) X.1 X.2.1 dX12_appendCommand_11 (by decide) ?_
    exact PuI.ret X hr hlk dX12_appendCommand_12 (nI_nar _) (by have h6 := of_decide_eq_false c8; rw [if_neg (by omega)])

set_option maxHeartbeats 4000000 in
set_option maxRecDepth 100000 in
theorem m_appendPattern_ok (g : G5) (m0 : Nat) (lt : Nat) (er : Nat) (el : Nat) (cm_ : Nat) (sv : Nat) (md : Nat) (fmm : Nat) (lc : Nat) (lz : Nat) (af : Nat) (pt_ : Nat) (oc : Nat) (ty_ : Nat) (sz_ : Nat) (em : Nat) (k : Nat) (n : Nat) (s : List Nat) (h : List (List Nat)) (c : List Nat) (tk : Bool) (k0 : Nat) (n0 : Nat) (s0 : List Nat) (z : List Nat) (p : List Int) (fp : Nat → Int32) (B : Nat) (T : Nat) (x : Int32) (hc : shp k n B T) (hp : p.length < 8) (hfp : repZ fp p) (hx : x.toInt = -1 ∨ hasB x k = true) : MuI (S := (Nat → Int32)) yX12_appendPattern cX12_appendPattern 2 (some .int) 2 43 g [.ref m0, .int x] [(m0, .inr (11, [.int (nI k), .int (nI n), .ref lt, .int (nI s.length), .ref er, .ref el, .int (nI h.length), .ref cm_, .int (nI c.length), .int (bI tk), .int (nI k0), .int (nI n0), .ref sv, .int (nI s0.length), .ref md, .int (nI z.length), .ref fmm, .ref lc, .ref lz, .ref af, .ref pt_, .int (nI p.length), .ref oc, .ref ty_, .ref sz_, .ref em])), (pt_, .inl (g.2.1, 8, .inl fp))] (fun r fp1 => r = (nI ((p ++ [x.toInt]).length)) ∧ repZ fp1 (p ++ [x.toInt])) (fun fp1 => [(m0, .inr (11, [.int (nI k), .int (nI n), .ref lt, .int (nI s.length), .ref er, .ref el, .int (nI h.length), .ref cm_, .int (nI c.length), .int (bI tk), .int (nI k0), .int (nI n0), .ref sv, .int (nI s0.length), .ref md, .int (nI z.length), .ref fmm, .ref lc, .ref lz, .ref af, .ref pt_, .int (nI ((p ++ [x.toInt]).length)), .ref oc, .ref ty_, .ref sz_, .ref em])), (pt_, .inl (g.2.1, 8, .inl fp1))]) := by
  refine MuI.of (by decide +kernel) (Nat.le_of_ble_eq_true rfl) ?_
  intro p_ l_ e_ S_ m_ args below meth co X hr hlk hP hK A hA hD hS ls hl
  have X : CallFix p_ m_ co cX12_appendPattern 2 S_ args lw_all RX12 := X
  have hl : lv_has ls 2 [(0, .ref m0), (1, .int x)] := hl
  obtain ⟨hk2, hk4, hn1, hn6, hB, hT, hBT, hT2⟩ := hc.f
  have hB0 : 0 < B := by rw [hBT]; exact Nat.mul_pos (by omega) (by omega)
  refine lv_iload_n X.1 X.2.1 dX12_appendPattern_0 rfl (lv_at hl 1 rfl) ?_
  refine lv_iconst (v := (-1)) X.1 X.2.1 dX12_appendPattern_1 (by decide) ?_
  refine z_icmp_eq (tgt := 15) X dX12_appendPattern_2 (by decide) rfl (show Int32.toInt ((-1)) = (-1) from rfl) (fun c2 => ?_) (fun c2 => ?_)
  · refine lv_aload_n X.1 X.2.1 dX12_appendPattern_15 rfl (lv_at hl 0 rfl) ?_
    refine va_get (D := g.1) (ci := 11) (v := .int (nI p.length)) (C := RX12) (T := TX12) (N := 26) X.1 X.2.1 X.2.2.2.2 iwX12 X.2.2.2.1 hK hP 0 rfl rfl 21 (by decide) (X.2.2.2.2 _ q1041) (fun _ h9 => h9) rfl dX12_appendPattern_16 ?_
    refine lv_bipush (v := (nI 8)) X.1 X.2.1 dX12_appendPattern_19 (by decide) ?_
    refine z_icmp_ne (tgt := 27) X dX12_appendPattern_21 (by decide) (nI_toInt (by omega)) (nI_toInt (by omega)) (fun c21 => ?_) (fun c21 => ?_)
    · refine lv_aload_n X.1 X.2.1 dX12_appendPattern_27 rfl (lv_at hl 0 rfl) ?_
      refine va_get (D := g.1) (ci := 11) (v := .ref pt_) (C := RX12) (T := TX12) (N := 26) X.1 X.2.1 X.2.2.2.2 iwX12 X.2.2.2.1 hK hP 0 rfl rfl 20 (by decide) (X.2.2.2.2 _ q1040) (fun _ h9 => h9) rfl dX12_appendPattern_28 ?_
      refine lv_aload_n X.1 X.2.1 dX12_appendPattern_31 rfl (lv_at hl 0 rfl) ?_
      refine va_get (D := g.1) (ci := 11) (v := .int (nI p.length)) (C := RX12) (T := TX12) (N := 26) X.1 X.2.1 X.2.2.2.2 iwX12 X.2.2.2.1 hK hP 0 rfl rfl 21 (by decide) (X.2.2.2.2 _ q1041) (fun _ h9 => h9) rfl dX12_appendPattern_32 ?_
      refine lv_iload_n X.1 X.2.1 dX12_appendPattern_35 rfl (lv_at hl 1 rfl) ?_
      refine n_iast X hK hP hD hS 1 0 rfl rfl (by omega) (by decide) dX12_appendPattern_36 (fun H locs hP hD hS => ?_)
      have hP : PP g [(m0, .inr (11, [.int (nI k), .int (nI n), .ref lt, .int (nI s.length), .ref er, .ref el, .int (nI h.length), .ref cm_, .int (nI c.length), .int (bI tk), .int (nI k0), .int (nI n0), .ref sv, .int (nI s0.length), .ref md, .int (nI z.length), .ref fmm, .ref lc, .ref lz, .ref af, .ref pt_, .int (nI p.length), .ref oc, .ref ty_, .ref sz_, .ref em])), (pt_, .inl (g.2.1, 8, .inl (upd fp p.length x)))] H := hP
      have hD : va_D A [(m0, .inr (11, [.int (nI k), .int (nI n), .ref lt, .int (nI s.length), .ref er, .ref el, .int (nI h.length), .ref cm_, .int (nI c.length), .int (bI tk), .int (nI k0), .int (nI n0), .ref sv, .int (nI s0.length), .ref md, .int (nI z.length), .ref fmm, .ref lc, .ref lz, .ref af, .ref pt_, .int (nI p.length), .ref oc, .ref ty_, .ref sz_, .ref em])), (pt_, .inl (g.2.1, 8, .inl (upd fp p.length x)))] := hD
      refine lv_aload_n X.1 X.2.1 dX12_appendPattern_37 rfl (lv_at hl 0 rfl) ?_
      refine lv_dup X.1 X.2.1 dX12_appendPattern_38 rfl ?_
      refine va_get (D := g.1) (ci := 11) (v := .int (nI p.length)) (C := RX12) (T := TX12) (N := 26) X.1 X.2.1 X.2.2.2.2 iwX12 X.2.2.2.1 hK hP 0 rfl rfl 21 (by decide) (X.2.2.2.2 _ q1041) (fun _ h9 => h9) rfl dX12_appendPattern_39 ?_
      refine lv_iconst (v := (nI 1)) X.1 X.2.1 dX12_appendPattern_42 (by decide) ?_
      refine n_add X dX12_appendPattern_43 ?_
      refine va_put (D := g.1) (ci := 11) (v := .int (nI (p.length + 1))) (ty := .int) (C := RX12) (T := TX12) (N := 26) X.1 X.2.1 X.2.2.2.2 iwX12 tyX12 tyX12_ok nmX12 X.2.2.2.1 hK hP hD hS 0 rfl rfl 21 (by decide) (X.2.2.2.2 _ q1041) (fun _ h9 => h9) rfl (by decide +kernel) rfl rfl (Nat.le_of_ble_eq_true rfl) dX12_appendPattern_44 (fun H locs hP hD hS => ?_)
      have hP : PP g [(m0, .inr (11, [.int (nI k), .int (nI n), .ref lt, .int (nI s.length), .ref er, .ref el, .int (nI h.length), .ref cm_, .int (nI c.length), .int (bI tk), .int (nI k0), .int (nI n0), .ref sv, .int (nI s0.length), .ref md, .int (nI z.length), .ref fmm, .ref lc, .ref lz, .ref af, .ref pt_, .int (nI (p.length + 1)), .ref oc, .ref ty_, .ref sz_, .ref em])), (pt_, .inl (g.2.1, 8, .inl (upd fp p.length x)))] H := hP
      have hD : va_D A [(m0, .inr (11, [.int (nI k), .int (nI n), .ref lt, .int (nI s.length), .ref er, .ref el, .int (nI h.length), .ref cm_, .int (nI c.length), .int (bI tk), .int (nI k0), .int (nI n0), .ref sv, .int (nI s0.length), .ref md, .int (nI z.length), .ref fmm, .ref lc, .ref lz, .ref af, .ref pt_, .int (nI (p.length + 1)), .ref oc, .ref ty_, .ref sz_, .ref em])), (pt_, .inl (g.2.1, 8, .inl (upd fp p.length x)))] := hD
      have hP : PP g [(m0, .inr (11, [.int (nI k), .int (nI n), .ref lt, .int (nI s.length), .ref er, .ref el, .int (nI h.length), .ref cm_, .int (nI c.length), .int (bI tk), .int (nI k0), .int (nI n0), .ref sv, .int (nI s0.length), .ref md, .int (nI z.length), .ref fmm, .ref lc, .ref lz, .ref af, .ref pt_, .int (nI ((p ++ [x.toInt]).length)), .ref oc, .ref ty_, .ref sz_, .ref em])), (pt_, .inl (g.2.1, 8, .inl (upd fp p.length x)))] H := by rw [show (p ++ [x.toInt]).length = p.length + 1 by simp]; exact hP
      have hD : va_D A [(m0, .inr (11, [.int (nI k), .int (nI n), .ref lt, .int (nI s.length), .ref er, .ref el, .int (nI h.length), .ref cm_, .int (nI c.length), .int (bI tk), .int (nI k0), .int (nI n0), .ref sv, .int (nI s0.length), .ref md, .int (nI z.length), .ref fmm, .ref lc, .ref lz, .ref af, .ref pt_, .int (nI ((p ++ [x.toInt]).length)), .ref oc, .ref ty_, .ref sz_, .ref em])), (pt_, .inl (g.2.1, 8, .inl (upd fp p.length x)))] := by rw [show (p ++ [x.toInt]).length = p.length + 1 by simp]; exact hD
      refine lv_aload_n X.1 X.2.1 dX12_appendPattern_47 rfl (lv_at hl 0 rfl) ?_
      refine va_get (D := g.1) (ci := 11) (v := .int (nI ((p ++ [x.toInt]).length))) (C := RX12) (T := TX12) (N := 26) X.1 X.2.1 X.2.2.2.2 iwX12 X.2.2.2.1 hK hP 0 rfl rfl 21 (by decide) (X.2.2.2.2 _ q1041) (fun _ h9 => h9) rfl dX12_appendPattern_48 ?_
      exact MuI.ret X hr hlk hK hS dX12_appendPattern_51 (nI_nar _) (upd fp p.length x) (hP.sub [0, 1] rfl) (hD.sub [0, 1] (by decide) rfl) (⟨rfl, repZ_add hfp x⟩)
    · exfalso; omega
  · refine lv_aload_n X.1 X.2.1 dX12_appendPattern_5 rfl (lv_at hl 0 rfl) ?_
    refine lv_iload_n X.1 X.2.1 dX12_appendPattern_6 rfl (lv_at hl 1 rfl) ?_
    refine (m_isLetter g m0 lt er el cm_ sv md fmm lc lz af pt_ oc ty_ sz_ em k n s h c tk k0 n0 s0 z p B T x (by assumption)).callV (rest := []) X dX12_appendPattern_7 q1222 tX12_isLetter hK (hP.sub [0] rfl) 0 11 rfl rfl rfl hl ⟨⟨Nat.le_of_ble_eq_true rfl, Nat.le_of_ble_eq_true rfl⟩, Nat.le_of_ble_eq_true rfl, Nat.le_of_ble_eq_true rfl⟩ rfl rfl (Nat.le_of_ble_eq_true rfl) ?_
    refine b_if_ne (tgt := 15) X dX12_appendPattern_10 (by decide) (fun c10 => ?_) (fun c10 => ?_)
    · refine lv_aload_n X.1 X.2.1 dX12_appendPattern_15 rfl (lv_at hl 0 rfl) ?_
      refine va_get (D := g.1) (ci := 11) (v := .int (nI p.length)) (C := RX12) (T := TX12) (N := 26) X.1 X.2.1 X.2.2.2.2 iwX12 X.2.2.2.1 hK hP 0 rfl rfl 21 (by decide) (X.2.2.2.2 _ q1041) (fun _ h9 => h9) rfl dX12_appendPattern_16 ?_
      refine lv_bipush (v := (nI 8)) X.1 X.2.1 dX12_appendPattern_19 (by decide) ?_
      refine z_icmp_ne (tgt := 27) X dX12_appendPattern_21 (by decide) (nI_toInt (by omega)) (nI_toInt (by omega)) (fun c21 => ?_) (fun c21 => ?_)
      · refine lv_aload_n X.1 X.2.1 dX12_appendPattern_27 rfl (lv_at hl 0 rfl) ?_
        refine va_get (D := g.1) (ci := 11) (v := .ref pt_) (C := RX12) (T := TX12) (N := 26) X.1 X.2.1 X.2.2.2.2 iwX12 X.2.2.2.1 hK hP 0 rfl rfl 20 (by decide) (X.2.2.2.2 _ q1040) (fun _ h9 => h9) rfl dX12_appendPattern_28 ?_
        refine lv_aload_n X.1 X.2.1 dX12_appendPattern_31 rfl (lv_at hl 0 rfl) ?_
        refine va_get (D := g.1) (ci := 11) (v := .int (nI p.length)) (C := RX12) (T := TX12) (N := 26) X.1 X.2.1 X.2.2.2.2 iwX12 X.2.2.2.1 hK hP 0 rfl rfl 21 (by decide) (X.2.2.2.2 _ q1041) (fun _ h9 => h9) rfl dX12_appendPattern_32 ?_
        refine lv_iload_n X.1 X.2.1 dX12_appendPattern_35 rfl (lv_at hl 1 rfl) ?_
        refine n_iast X hK hP hD hS 1 0 rfl rfl (by omega) (by decide) dX12_appendPattern_36 (fun H locs hP hD hS => ?_)
        have hP : PP g [(m0, .inr (11, [.int (nI k), .int (nI n), .ref lt, .int (nI s.length), .ref er, .ref el, .int (nI h.length), .ref cm_, .int (nI c.length), .int (bI tk), .int (nI k0), .int (nI n0), .ref sv, .int (nI s0.length), .ref md, .int (nI z.length), .ref fmm, .ref lc, .ref lz, .ref af, .ref pt_, .int (nI p.length), .ref oc, .ref ty_, .ref sz_, .ref em])), (pt_, .inl (g.2.1, 8, .inl (upd fp p.length x)))] H := hP
        have hD : va_D A [(m0, .inr (11, [.int (nI k), .int (nI n), .ref lt, .int (nI s.length), .ref er, .ref el, .int (nI h.length), .ref cm_, .int (nI c.length), .int (bI tk), .int (nI k0), .int (nI n0), .ref sv, .int (nI s0.length), .ref md, .int (nI z.length), .ref fmm, .ref lc, .ref lz, .ref af, .ref pt_, .int (nI p.length), .ref oc, .ref ty_, .ref sz_, .ref em])), (pt_, .inl (g.2.1, 8, .inl (upd fp p.length x)))] := hD
        refine lv_aload_n X.1 X.2.1 dX12_appendPattern_37 rfl (lv_at hl 0 rfl) ?_
        refine lv_dup X.1 X.2.1 dX12_appendPattern_38 rfl ?_
        refine va_get (D := g.1) (ci := 11) (v := .int (nI p.length)) (C := RX12) (T := TX12) (N := 26) X.1 X.2.1 X.2.2.2.2 iwX12 X.2.2.2.1 hK hP 0 rfl rfl 21 (by decide) (X.2.2.2.2 _ q1041) (fun _ h9 => h9) rfl dX12_appendPattern_39 ?_
        refine lv_iconst (v := (nI 1)) X.1 X.2.1 dX12_appendPattern_42 (by decide) ?_
        refine n_add X dX12_appendPattern_43 ?_
        refine va_put (D := g.1) (ci := 11) (v := .int (nI (p.length + 1))) (ty := .int) (C := RX12) (T := TX12) (N := 26) X.1 X.2.1 X.2.2.2.2 iwX12 tyX12 tyX12_ok nmX12 X.2.2.2.1 hK hP hD hS 0 rfl rfl 21 (by decide) (X.2.2.2.2 _ q1041) (fun _ h9 => h9) rfl (by decide +kernel) rfl rfl (Nat.le_of_ble_eq_true rfl) dX12_appendPattern_44 (fun H locs hP hD hS => ?_)
        have hP : PP g [(m0, .inr (11, [.int (nI k), .int (nI n), .ref lt, .int (nI s.length), .ref er, .ref el, .int (nI h.length), .ref cm_, .int (nI c.length), .int (bI tk), .int (nI k0), .int (nI n0), .ref sv, .int (nI s0.length), .ref md, .int (nI z.length), .ref fmm, .ref lc, .ref lz, .ref af, .ref pt_, .int (nI (p.length + 1)), .ref oc, .ref ty_, .ref sz_, .ref em])), (pt_, .inl (g.2.1, 8, .inl (upd fp p.length x)))] H := hP
        have hD : va_D A [(m0, .inr (11, [.int (nI k), .int (nI n), .ref lt, .int (nI s.length), .ref er, .ref el, .int (nI h.length), .ref cm_, .int (nI c.length), .int (bI tk), .int (nI k0), .int (nI n0), .ref sv, .int (nI s0.length), .ref md, .int (nI z.length), .ref fmm, .ref lc, .ref lz, .ref af, .ref pt_, .int (nI (p.length + 1)), .ref oc, .ref ty_, .ref sz_, .ref em])), (pt_, .inl (g.2.1, 8, .inl (upd fp p.length x)))] := hD
        have hP : PP g [(m0, .inr (11, [.int (nI k), .int (nI n), .ref lt, .int (nI s.length), .ref er, .ref el, .int (nI h.length), .ref cm_, .int (nI c.length), .int (bI tk), .int (nI k0), .int (nI n0), .ref sv, .int (nI s0.length), .ref md, .int (nI z.length), .ref fmm, .ref lc, .ref lz, .ref af, .ref pt_, .int (nI ((p ++ [x.toInt]).length)), .ref oc, .ref ty_, .ref sz_, .ref em])), (pt_, .inl (g.2.1, 8, .inl (upd fp p.length x)))] H := by rw [show (p ++ [x.toInt]).length = p.length + 1 by simp]; exact hP
        have hD : va_D A [(m0, .inr (11, [.int (nI k), .int (nI n), .ref lt, .int (nI s.length), .ref er, .ref el, .int (nI h.length), .ref cm_, .int (nI c.length), .int (bI tk), .int (nI k0), .int (nI n0), .ref sv, .int (nI s0.length), .ref md, .int (nI z.length), .ref fmm, .ref lc, .ref lz, .ref af, .ref pt_, .int (nI ((p ++ [x.toInt]).length)), .ref oc, .ref ty_, .ref sz_, .ref em])), (pt_, .inl (g.2.1, 8, .inl (upd fp p.length x)))] := by rw [show (p ++ [x.toInt]).length = p.length + 1 by simp]; exact hD
        refine lv_aload_n X.1 X.2.1 dX12_appendPattern_47 rfl (lv_at hl 0 rfl) ?_
        refine va_get (D := g.1) (ci := 11) (v := .int (nI ((p ++ [x.toInt]).length))) (C := RX12) (T := TX12) (N := 26) X.1 X.2.1 X.2.2.2.2 iwX12 X.2.2.2.1 hK hP 0 rfl rfl 21 (by decide) (X.2.2.2.2 _ q1041) (fun _ h9 => h9) rfl dX12_appendPattern_48 ?_
        exact MuI.ret X hr hlk hK hS dX12_appendPattern_51 (nI_nar _) (upd fp p.length x) (hP.sub [0, 1] rfl) (hD.sub [0, 1] (by decide) rfl) (⟨rfl, repZ_add hfp x⟩)
      · exfalso; omega
    · exfalso; (rcases hx with h | h) <;> first | omega | (rw [h] at c10; cases c10)

set_option maxHeartbeats 4000000 in
set_option maxRecDepth 100000 in
theorem m_appendPattern_no (g : G5) (m0 : Nat) (lt : Nat) (er : Nat) (el : Nat) (cm_ : Nat) (sv : Nat) (md : Nat) (fmm : Nat) (lc : Nat) (lz : Nat) (af : Nat) (pt_ : Nat) (oc : Nat) (ty_ : Nat) (sz_ : Nat) (em : Nat) (k : Nat) (n : Nat) (s : List Nat) (h : List (List Nat)) (c : List Nat) (tk : Bool) (k0 : Nat) (n0 : Nat) (s0 : List Nat) (z : List Nat) (p : List Int) (B : Nat) (T : Nat) (x : Int32) (hc : shp k n B T) (hp : p.length ≤ 8) (hno : ¬ (x.toInt = -1 ∨ hasB x k = true) ∨ p.length = 8) : PuI yX12_appendPattern cX12_appendPattern 2 (some .int) 2 43 g [.ref m0, .int x] [(m0, .inr (11, [.int (nI k), .int (nI n), .ref lt, .int (nI s.length), .ref er, .ref el, .int (nI h.length), .ref cm_, .int (nI c.length), .int (bI tk), .int (nI k0), .int (nI n0), .ref sv, .int (nI s0.length), .ref md, .int (nI z.length), .ref fmm, .ref lc, .ref lz, .ref af, .ref pt_, .int (nI p.length), .ref oc, .ref ty_, .ref sz_, .ref em]))] (if x.toInt = -1 ∨ hasB x k = true then (-4) else (-1)) := by
  refine PuI.of (by decide +kernel) (Nat.le_of_ble_eq_true rfl) ?_
  intro p_ l_ e_ S_ m_ args below meth co X hr hlk hP hK ls hl
  have X : CallFix p_ m_ co cX12_appendPattern 2 S_ args lw_all RX12 := X
  have hl : lv_has ls 2 [(0, .ref m0), (1, .int x)] := hl
  obtain ⟨hk2, hk4, hn1, hn6, hB, hT, hBT, hT2⟩ := hc.f
  have hB0 : 0 < B := by rw [hBT]; exact Nat.mul_pos (by omega) (by omega)
  refine lv_iload_n X.1 X.2.1 dX12_appendPattern_0 rfl (lv_at hl 1 rfl) ?_
  refine lv_iconst (v := (-1)) X.1 X.2.1 dX12_appendPattern_1 (by decide) ?_
  refine z_icmp_eq (tgt := 15) X dX12_appendPattern_2 (by decide) rfl (show Int32.toInt ((-1)) = (-1) from rfl) (fun c2 => ?_) (fun c2 => ?_)
  · refine lv_aload_n X.1 X.2.1 dX12_appendPattern_15 rfl (lv_at hl 0 rfl) ?_
    refine va_get (D := g.1) (ci := 11) (v := .int (nI p.length)) (C := RX12) (T := TX12) (N := 26) X.1 X.2.1 X.2.2.2.2 iwX12 X.2.2.2.1 hK hP 0 rfl rfl 21 (by decide) (X.2.2.2.2 _ q1041) (fun _ h9 => h9) rfl dX12_appendPattern_16 ?_
    refine lv_bipush (v := (nI 8)) X.1 X.2.1 dX12_appendPattern_19 (by decide) ?_
    refine z_icmp_ne (tgt := 27) X dX12_appendPattern_21 (by decide) (nI_toInt (by omega)) (nI_toInt (by omega)) (fun c21 => ?_) (fun c21 => ?_)
    · exfalso; (rcases hno with h | h) <;> first | omega | (exact h (by first | exact Or.inl c2 | exact Or.inr c10))
    · refine lv_bipush (v := (-4)) X.1 X.2.1 dX12_appendPattern_24 (by decide) ?_
      exact PuI.ret X hr hlk dX12_appendPattern_26 (nI_nar _) (by rw [if_pos (by first | exact Or.inl c2 | exact Or.inr c10)])
  · refine lv_aload_n X.1 X.2.1 dX12_appendPattern_5 rfl (lv_at hl 0 rfl) ?_
    refine lv_iload_n X.1 X.2.1 dX12_appendPattern_6 rfl (lv_at hl 1 rfl) ?_
    refine (m_isLetter g m0 lt er el cm_ sv md fmm lc lz af pt_ oc ty_ sz_ em k n s h c tk k0 n0 s0 z p B T x (by assumption)).callV (rest := []) X dX12_appendPattern_7 q1222 tX12_isLetter hK (hP.sub [0] rfl) 0 11 rfl rfl rfl hl ⟨⟨Nat.le_of_ble_eq_true rfl, Nat.le_of_ble_eq_true rfl⟩, Nat.le_of_ble_eq_true rfl, Nat.le_of_ble_eq_true rfl⟩ rfl rfl (Nat.le_of_ble_eq_true rfl) ?_
    refine b_if_ne (tgt := 15) X dX12_appendPattern_10 (by decide) (fun c10 => ?_) (fun c10 => ?_)
    · refine lv_aload_n X.1 X.2.1 dX12_appendPattern_15 rfl (lv_at hl 0 rfl) ?_
      refine va_get (D := g.1) (ci := 11) (v := .int (nI p.length)) (C := RX12) (T := TX12) (N := 26) X.1 X.2.1 X.2.2.2.2 iwX12 X.2.2.2.1 hK hP 0 rfl rfl 21 (by decide) (X.2.2.2.2 _ q1041) (fun _ h9 => h9) rfl dX12_appendPattern_16 ?_
      refine lv_bipush (v := (nI 8)) X.1 X.2.1 dX12_appendPattern_19 (by decide) ?_
      refine z_icmp_ne (tgt := 27) X dX12_appendPattern_21 (by decide) (nI_toInt (by omega)) (nI_toInt (by omega)) (fun c21 => ?_) (fun c21 => ?_)
      · exfalso; (rcases hno with h | h) <;> first | omega | (exact h (by first | exact Or.inl c2 | exact Or.inr c10))
      · refine lv_bipush (v := (-4)) X.1 X.2.1 dX12_appendPattern_24 (by decide) ?_
        exact PuI.ret X hr hlk dX12_appendPattern_26 (nI_nar _) (by rw [if_pos (by first | exact Or.inl c2 | exact Or.inr c10)])
    · refine lv_iconst (v := (-1)) X.1 X.2.1 dX12_appendPattern_13 (by decide) ?_
      exact PuI.ret X hr hlk dX12_appendPattern_14 (nI_nar _) (by rw [if_neg (fun h => h.elim c2 (fun h => by rw [h] at c10; cases c10))])

set_option maxHeartbeats 4000000 in
set_option maxRecDepth 100000 in
theorem m_clearPattern (g : G5) (m0 : Nat) (lt : Nat) (er : Nat) (el : Nat) (cm_ : Nat) (sv : Nat) (md : Nat) (fmm : Nat) (lc : Nat) (lz : Nat) (af : Nat) (pt_ : Nat) (oc : Nat) (ty_ : Nat) (sz_ : Nat) (em : Nat) (k : Nat) (n : Nat) (s : List Nat) (h : List (List Nat)) (c : List Nat) (tk : Bool) (k0 : Nat) (n0 : Nat) (s0 : List Nat) (z : List Nat) (p : List Int) : MuI (S := Unit) yX12_clearPattern cX12_clearPattern 2 (some .int) 0 0 g [.ref m0] [(m0, .inr (11, [.int (nI k), .int (nI n), .ref lt, .int (nI s.length), .ref er, .ref el, .int (nI h.length), .ref cm_, .int (nI c.length), .int (bI tk), .int (nI k0), .int (nI n0), .ref sv, .int (nI s0.length), .ref md, .int (nI z.length), .ref fmm, .ref lc, .ref lz, .ref af, .ref pt_, .int (nI p.length), .ref oc, .ref ty_, .ref sz_, .ref em]))] (fun r (_ : Unit) => r = (nI p.length) ∧ True) (fun _ => [(m0, .inr (11, [.int (nI k), .int (nI n), .ref lt, .int (nI s.length), .ref er, .ref el, .int (nI h.length), .ref cm_, .int (nI c.length), .int (bI tk), .int (nI k0), .int (nI n0), .ref sv, .int (nI s0.length), .ref md, .int (nI z.length), .ref fmm, .ref lc, .ref lz, .ref af, .ref pt_, .int (nI (([] : List Int).length)), .ref oc, .ref ty_, .ref sz_, .ref em]))]) := by
  refine MuI.of (by decide +kernel) (Nat.le_of_ble_eq_true rfl) ?_
  intro p_ l_ e_ S_ m_ args below meth co X hr hlk hP hK A hA hD hS ls hl
  have X : CallFix p_ m_ co cX12_clearPattern 2 S_ args lw_all RX12 := X
  have hl : lv_has ls 2 [(0, .ref m0)] := hl
  refine lv_aload_n X.1 X.2.1 dX12_clearPattern_0 rfl (lv_at hl 0 rfl) ?_
  refine va_get (D := g.1) (ci := 11) (v := .int (nI p.length)) (C := RX12) (T := TX12) (N := 26) X.1 X.2.1 X.2.2.2.2 iwX12 X.2.2.2.1 hK hP 0 rfl rfl 21 (by decide) (X.2.2.2.2 _ q1041) (fun _ h9 => h9) rfl dX12_clearPattern_1 ?_
  refine lv_istore_n (lv' := [(1, .int (nI p.length)), (0, .ref m0)]) X.1 X.2.1 dX12_clearPattern_4 rfl hl (by decide) rfl (fun ls hl => ?_)
  refine lv_aload_n X.1 X.2.1 dX12_clearPattern_5 rfl (lv_at hl 1 rfl) ?_
  refine lv_iconst (v := (nI 0)) X.1 X.2.1 dX12_clearPattern_6 (by decide) ?_
  refine va_put (D := g.1) (ci := 11) (v := .int (nI 0)) (ty := .int) (C := RX12) (T := TX12) (N := 26) X.1 X.2.1 X.2.2.2.2 iwX12 tyX12 tyX12_ok nmX12 X.2.2.2.1 hK hP hD hS 0 rfl rfl 21 (by decide) (X.2.2.2.2 _ q1041) (fun _ h9 => h9) rfl (by decide +kernel) rfl rfl (Nat.le_of_ble_eq_true rfl) dX12_clearPattern_7 (fun H locs hP hD hS => ?_)
  have hP : PP g [(m0, .inr (11, [.int (nI k), .int (nI n), .ref lt, .int (nI s.length), .ref er, .ref el, .int (nI h.length), .ref cm_, .int (nI c.length), .int (bI tk), .int (nI k0), .int (nI n0), .ref sv, .int (nI s0.length), .ref md, .int (nI z.length), .ref fmm, .ref lc, .ref lz, .ref af, .ref pt_, .int (nI 0), .ref oc, .ref ty_, .ref sz_, .ref em]))] H := hP
  have hD : va_D A [(m0, .inr (11, [.int (nI k), .int (nI n), .ref lt, .int (nI s.length), .ref er, .ref el, .int (nI h.length), .ref cm_, .int (nI c.length), .int (bI tk), .int (nI k0), .int (nI n0), .ref sv, .int (nI s0.length), .ref md, .int (nI z.length), .ref fmm, .ref lc, .ref lz, .ref af, .ref pt_, .int (nI 0), .ref oc, .ref ty_, .ref sz_, .ref em]))] := hD
  have hP : PP g [(m0, .inr (11, [.int (nI k), .int (nI n), .ref lt, .int (nI s.length), .ref er, .ref el, .int (nI h.length), .ref cm_, .int (nI c.length), .int (bI tk), .int (nI k0), .int (nI n0), .ref sv, .int (nI s0.length), .ref md, .int (nI z.length), .ref fmm, .ref lc, .ref lz, .ref af, .ref pt_, .int (nI (([] : List Int).length)), .ref oc, .ref ty_, .ref sz_, .ref em]))] H := by exact hP
  have hD : va_D A [(m0, .inr (11, [.int (nI k), .int (nI n), .ref lt, .int (nI s.length), .ref er, .ref el, .int (nI h.length), .ref cm_, .int (nI c.length), .int (bI tk), .int (nI k0), .int (nI n0), .ref sv, .int (nI s0.length), .ref md, .int (nI z.length), .ref fmm, .ref lc, .ref lz, .ref af, .ref pt_, .int (nI (([] : List Int).length)), .ref oc, .ref ty_, .ref sz_, .ref em]))] := by exact hD
  refine lv_iload_n X.1 X.2.1 dX12_clearPattern_10 rfl (lv_at hl 0 rfl) ?_
  exact MuI.ret X hr hlk hK hS dX12_clearPattern_11 (nI_nar _) () (hP.sub [0] rfl) (hD.sub [0] (by decide) rfl) (⟨rfl, trivial⟩)

set_option maxHeartbeats 4000000 in
set_option maxRecDepth 100000 in
theorem m_find (g : G5) (m0 : Nat) (lt : Nat) (er : Nat) (el : Nat) (cm_ : Nat) (sv : Nat) (md : Nat) (fmm : Nat) (lc : Nat) (lz : Nat) (af : Nat) (pt_ : Nat) (oc : Nat) (ty_ : Nat) (sz_ : Nat) (em : Nat) (k : Nat) (n : Nat) (s : List Nat) (h : List (List Nat)) (c : List Nat) (tk : Bool) (k0 : Nat) (n0 : Nat) (s0 : List Nat) (z : List Nat) (p : List Int) (f : Nat → Int32) (q : Nat → Bool) (B : Nat) (T : Nat) (hc : shp k n B T) (hs : s.length ≤ 256) (hf : rep f s) (hlt : ltk k s) : MuV (S := (Nat → Bool)) yX12_findOccurring cX12_findOccurring 2 none 3 70 g [.ref m0] [(m0, .inr (11, [.int (nI k), .int (nI n), .ref lt, .int (nI s.length), .ref er, .ref el, .int (nI h.length), .ref cm_, .int (nI c.length), .int (bI tk), .int (nI k0), .int (nI n0), .ref sv, .int (nI s0.length), .ref md, .int (nI z.length), .ref fmm, .ref lc, .ref lz, .ref af, .ref pt_, .int (nI p.length), .ref oc, .ref ty_, .ref sz_, .ref em])), (lt, .inl (g.2.1, 256, .inl f)), (oc, .inl (g.2.2.1, 256, .inl (mf q)))] (fun q1 => ∀ j, j < B → q1 j = occ k n s j) (fun q1 => [(m0, .inr (11, [.int (nI k), .int (nI n), .ref lt, .int (nI s.length), .ref er, .ref el, .int (nI h.length), .ref cm_, .int (nI c.length), .int (bI tk), .int (nI k0), .int (nI n0), .ref sv, .int (nI s0.length), .ref md, .int (nI z.length), .ref fmm, .ref lc, .ref lz, .ref af, .ref pt_, .int (nI p.length), .ref oc, .ref ty_, .ref sz_, .ref em])), (lt, .inl (g.2.1, 256, .inl f)), (oc, .inl (g.2.2.1, 256, .inl (mf q1)))]) := by
  refine MuV.of (by decide +kernel) (Nat.le_of_ble_eq_true rfl) ?_
  intro p_ l_ e_ S_ m_ args below meth co X hr hlk hP hK A hA hD hS ls hl
  have X : CallFix p_ m_ co cX12_findOccurring 2 S_ args lw_all RX12 := X
  have hl : lv_has ls 2 [(0, .ref m0)] := hl
  obtain ⟨hk2, hk4, hn1, hn6, hB, hT, hBT, hT2⟩ := hc.f
  have hB0 : 0 < B := by rw [hBT]; exact Nat.mul_pos (by omega) (by omega)
  refine lv_iconst (v := (nI 0)) X.1 X.2.1 dX12_findOccurring_0 (by decide) ?_
  refine lv_istore_n (lv' := [(1, .int (nI 0)), (0, .ref m0)]) X.1 X.2.1 dX12_findOccurring_1 rfl hl (by decide) rfl (fun ls hl => ?_)
  have L2 : ∀ (r : Nat) (i : Nat) (q1 : Nat → Bool) (h1 : i + r = B) (hz : ∀ j, j < i → q1 j = false) (H : Heap) (locs : List Loc) (hP : PP g [(m0, .inr (11, [.int (nI k), .int (nI n), .ref lt, .int (nI s.length), .ref er, .ref el, .int (nI h.length), .ref cm_, .int (nI c.length), .int (bI tk), .int (nI k0), .int (nI n0), .ref sv, .int (nI s0.length), .ref md, .int (nI z.length), .ref fmm, .ref lc, .ref lz, .ref af, .ref pt_, .int (nI p.length), .ref oc, .ref ty_, .ref sz_, .ref em])), (lt, .inl (g.2.1, 256, .inl f)), (oc, .inl (g.2.2.1, 256, .inl (mf q1)))] H) (hD : va_D A [(m0, .inr (11, [.int (nI k), .int (nI n), .ref lt, .int (nI s.length), .ref er, .ref el, .int (nI h.length), .ref cm_, .int (nI c.length), .int (bI tk), .int (nI k0), .int (nI n0), .ref sv, .int (nI s0.length), .ref md, .int (nI z.length), .ref fmm, .ref lc, .ref lz, .ref af, .ref pt_, .int (nI p.length), .ref oc, .ref ty_, .ref sz_, .ref em])), (lt, .inl (g.2.1, 256, .inl f)), (oc, .inl (g.2.2.1, 256, .inl (mf q1)))]) (hS : va_S A S_.heap H locs) (ls : Array Slot) (hl : lv_has ls 2 [(1, .int (nI i)), (0, .ref m0)]), W p_ l_ e_ { frames := 3, cells := 0, slots := 0, locals := 70 } S_ m_ args below meth co H locs 0 0 (MQ below (va_Qv (S := (Nat → Bool)) (fun q1 => ∀ j, j < B → q1 j = occ k n s j) (MuB g A (fun q1 => [(m0, .inr (11, [.int (nI k), .int (nI n), .ref lt, .int (nI s.length), .ref er, .ref el, .int (nI h.length), .ref cm_, .int (nI c.length), .int (bI tk), .int (nI k0), .int (nI n0), .ref sv, .int (nI s0.length), .ref md, .int (nI z.length), .ref fmm, .ref lc, .ref lz, .ref af, .ref pt_, .int (nI p.length), .ref oc, .ref ty_, .ref sz_, .ref em])), (lt, .inl (g.2.1, 256, .inl f)), (oc, .inl (g.2.2.1, 256, .inl (mf q1)))])) A) args S_ 0 0 A) (F0 m_ 2 ls []) := by
    intro r
    induction r with
    | zero =>
      intro i q1 h1 hz H locs hP hD hS ls hl
      refine lv_iload_n X.1 X.2.1 dX12_findOccurring_2 rfl (lv_at hl 0 rfl) ?_
      refine lv_aload_n X.1 X.2.1 dX12_findOccurring_3 rfl (lv_at hl 1 rfl) ?_
      refine (m_blocks g m0 lt er el cm_ sv md fmm lc lz af pt_ oc ty_ sz_ em k n s h c tk k0 n0 s0 z p B T (by assumption)).callV (rest := [.int (nI i)]) X dX12_findOccurring_4 q1109 tX12_blocks hK (hP.sub [0] rfl) 0 11 rfl rfl rfl hl ⟨⟨Nat.le_of_ble_eq_true rfl, Nat.le_of_ble_eq_true rfl⟩, Nat.le_of_ble_eq_true rfl, Nat.le_of_ble_eq_true rfl⟩ rfl rfl (Nat.le_of_ble_eq_true rfl) ?_
      refine z_icmp_ge (tgt := 23) X dX12_findOccurring_7 (by decide) (nI_toInt (by omega)) (nI_toInt (by omega)) (fun c7 => ?_) (fun c7 => ?_)
      · refine lv_iconst (v := (nI 0)) X.1 X.2.1 dX12_findOccurring_23 (by decide) ?_
        refine lv_istore_n (lv' := [(1, .int (nI 0)), (0, .ref m0)]) X.1 X.2.1 dX12_findOccurring_24 rfl hl (by decide) rfl (fun ls hl => ?_)
        have L25 : ∀ (r : Nat) (i : Nat) (q2 : Nat → Bool) (h1 : i + r = s.length) (hq : ∀ j, j < B → lkL (codeN k n s) r i q2 j = occ k n s j) (H : Heap) (locs : List Loc) (hP : PP g [(m0, .inr (11, [.int (nI k), .int (nI n), .ref lt, .int (nI s.length), .ref er, .ref el, .int (nI h.length), .ref cm_, .int (nI c.length), .int (bI tk), .int (nI k0), .int (nI n0), .ref sv, .int (nI s0.length), .ref md, .int (nI z.length), .ref fmm, .ref lc, .ref lz, .ref af, .ref pt_, .int (nI p.length), .ref oc, .ref ty_, .ref sz_, .ref em])), (lt, .inl (g.2.1, 256, .inl f)), (oc, .inl (g.2.2.1, 256, .inl (mf q2)))] H) (hD : va_D A [(m0, .inr (11, [.int (nI k), .int (nI n), .ref lt, .int (nI s.length), .ref er, .ref el, .int (nI h.length), .ref cm_, .int (nI c.length), .int (bI tk), .int (nI k0), .int (nI n0), .ref sv, .int (nI s0.length), .ref md, .int (nI z.length), .ref fmm, .ref lc, .ref lz, .ref af, .ref pt_, .int (nI p.length), .ref oc, .ref ty_, .ref sz_, .ref em])), (lt, .inl (g.2.1, 256, .inl f)), (oc, .inl (g.2.2.1, 256, .inl (mf q2)))]) (hS : va_S A S_.heap H locs) (ls : Array Slot) (hl : lv_has ls 2 [(1, .int (nI i)), (0, .ref m0)]), W p_ l_ e_ { frames := 3, cells := 0, slots := 0, locals := 70 } S_ m_ args below meth co H locs 0 0 (MQ below (va_Qv (S := (Nat → Bool)) (fun q1 => ∀ j, j < B → q1 j = occ k n s j) (MuB g A (fun q1 => [(m0, .inr (11, [.int (nI k), .int (nI n), .ref lt, .int (nI s.length), .ref er, .ref el, .int (nI h.length), .ref cm_, .int (nI c.length), .int (bI tk), .int (nI k0), .int (nI n0), .ref sv, .int (nI s0.length), .ref md, .int (nI z.length), .ref fmm, .ref lc, .ref lz, .ref af, .ref pt_, .int (nI p.length), .ref oc, .ref ty_, .ref sz_, .ref em])), (lt, .inl (g.2.1, 256, .inl f)), (oc, .inl (g.2.2.1, 256, .inl (mf q1)))])) A) args S_ 0 0 A) (F0 m_ 25 ls []) := by
          intro r
          induction r with
          | zero =>
            intro i q2 h1 hq H locs hP hD hS ls hl
            refine lv_iload_n X.1 X.2.1 dX12_findOccurring_25 rfl (lv_at hl 0 rfl) ?_
            refine lv_aload_n X.1 X.2.1 dX12_findOccurring_26 rfl (lv_at hl 1 rfl) ?_
            refine va_get (D := g.1) (ci := 11) (v := .int (nI s.length)) (C := RX12) (T := TX12) (N := 26) X.1 X.2.1 X.2.2.2.2 iwX12 X.2.2.2.1 hK hP 0 rfl rfl 3 (by decide) (X.2.2.2.2 _ q1023) (fun _ h9 => h9) rfl dX12_findOccurring_27 ?_
            refine z_icmp_ge (tgt := 50) X dX12_findOccurring_30 (by decide) (nI_toInt (by omega)) (nI_toInt (by omega)) (fun c30 => ?_) (fun c30 => ?_)
            · exact MuV.ret X hr hlk hK hS dX12_findOccurring_50 q2 (hP.sub [0, 1, 2] rfl) (hD.sub [0, 1, 2] (by decide) rfl) (hq)
            · exfalso; omega
          | succ r ih25 =>
            intro i q2 h1 hq H locs hP hD hS ls hl
            refine lv_iload_n X.1 X.2.1 dX12_findOccurring_25 rfl (lv_at hl 0 rfl) ?_
            refine lv_aload_n X.1 X.2.1 dX12_findOccurring_26 rfl (lv_at hl 1 rfl) ?_
            refine va_get (D := g.1) (ci := 11) (v := .int (nI s.length)) (C := RX12) (T := TX12) (N := 26) X.1 X.2.1 X.2.2.2.2 iwX12 X.2.2.2.1 hK hP 0 rfl rfl 3 (by decide) (X.2.2.2.2 _ q1023) (fun _ h9 => h9) rfl dX12_findOccurring_27 ?_
            refine z_icmp_ge (tgt := 50) X dX12_findOccurring_30 (by decide) (nI_toInt (by omega)) (nI_toInt (by omega)) (fun c30 => ?_) (fun c30 => ?_)
            · exfalso; omega
            · refine lv_aload_n X.1 X.2.1 dX12_findOccurring_33 rfl (lv_at hl 1 rfl) ?_
              refine va_get (D := g.1) (ci := 11) (v := .ref oc) (C := RX12) (T := TX12) (N := 26) X.1 X.2.1 X.2.2.2.2 iwX12 X.2.2.2.1 hK hP 0 rfl rfl 22 (by decide) (X.2.2.2.2 _ q1042) (fun _ h9 => h9) rfl dX12_findOccurring_34 ?_
              refine lv_aload_n X.1 X.2.1 dX12_findOccurring_37 rfl (lv_at hl 1 rfl) ?_
              refine lv_iload_n X.1 X.2.1 dX12_findOccurring_38 rfl (lv_at hl 0 rfl) ?_
              refine (m_occurring g m0 lt er el cm_ sv md fmm lc lz af pt_ oc ty_ sz_ em k n s h c tk k0 n0 s0 z p f i (by omega) (by omega) (by assumption) (by omega) (by omega)).callV (rest := [.ref oc]) X dX12_findOccurring_39 q1301 tX12_occurring hK (hP.sub [0, 1] rfl) 0 11 rfl rfl rfl hl ⟨⟨Nat.le_of_ble_eq_true rfl, Nat.le_of_ble_eq_true rfl⟩, Nat.le_of_ble_eq_true rfl, Nat.le_of_ble_eq_true rfl⟩ rfl rfl (Nat.le_of_ble_eq_true rfl) ?_
              have hF := codeN_lt hc hlt i
              refine lv_iconst (v := (nI 1)) X.1 X.2.1 dX12_findOccurring_42 (by decide) ?_
              refine n_zast X hK hP hD hS 2 1 rfl rfl (by omega) (by decide) (rfl) dX12_findOccurring_43 (fun H locs hP hD hS => ?_)
              have hP : PP g [(m0, .inr (11, [.int (nI k), .int (nI n), .ref lt, .int (nI s.length), .ref er, .ref el, .int (nI h.length), .ref cm_, .int (nI c.length), .int (bI tk), .int (nI k0), .int (nI n0), .ref sv, .int (nI s0.length), .ref md, .int (nI z.length), .ref fmm, .ref lc, .ref lz, .ref af, .ref pt_, .int (nI p.length), .ref oc, .ref ty_, .ref sz_, .ref em])), (lt, .inl (g.2.1, 256, .inl f)), (oc, .inl (g.2.2.1, 256, .inl (upd (mf q2) (codeN k n s i) (nI 1))))] H := hP
              have hD : va_D A [(m0, .inr (11, [.int (nI k), .int (nI n), .ref lt, .int (nI s.length), .ref er, .ref el, .int (nI h.length), .ref cm_, .int (nI c.length), .int (bI tk), .int (nI k0), .int (nI n0), .ref sv, .int (nI s0.length), .ref md, .int (nI z.length), .ref fmm, .ref lc, .ref lz, .ref af, .ref pt_, .int (nI p.length), .ref oc, .ref ty_, .ref sz_, .ref em])), (lt, .inl (g.2.1, 256, .inl f)), (oc, .inl (g.2.2.1, 256, .inl (upd (mf q2) (codeN k n s i) (nI 1))))] := hD
              have hP : PP g [(m0, .inr (11, [.int (nI k), .int (nI n), .ref lt, .int (nI s.length), .ref er, .ref el, .int (nI h.length), .ref cm_, .int (nI c.length), .int (bI tk), .int (nI k0), .int (nI n0), .ref sv, .int (nI s0.length), .ref md, .int (nI z.length), .ref fmm, .ref lc, .ref lz, .ref af, .ref pt_, .int (nI p.length), .ref oc, .ref ty_, .ref sz_, .ref em])), (lt, .inl (g.2.1, 256, .inl f)), (oc, .inl (g.2.2.1, 256, .inl (mf (qset q2 (codeN k n s i)))))] H := by rw [← mf_set]; exact hP
              have hD : va_D A [(m0, .inr (11, [.int (nI k), .int (nI n), .ref lt, .int (nI s.length), .ref er, .ref el, .int (nI h.length), .ref cm_, .int (nI c.length), .int (bI tk), .int (nI k0), .int (nI n0), .ref sv, .int (nI s0.length), .ref md, .int (nI z.length), .ref fmm, .ref lc, .ref lz, .ref af, .ref pt_, .int (nI p.length), .ref oc, .ref ty_, .ref sz_, .ref em])), (lt, .inl (g.2.1, 256, .inl f)), (oc, .inl (g.2.2.1, 256, .inl (mf (qset q2 (codeN k n s i)))))] := by rw [← mf_set]; exact hD
              refine lv_iinc (v := (nI (i + 1))) (lv' := [(1, .int (nI (i + 1))), (0, .ref m0)]) X.1 X.2.1 dX12_findOccurring_44 hl (k := 0) rfl (nI_inc _) (by decide) rfl (fun ls hl => ?_)
              refine lv_goto (tgt := 25) X.1 X.2.1 dX12_findOccurring_47 (by decide) ?_
              exact ih25 (i + 1) (qset q2 (codeN k n s i)) (by omega) (hq) _ _ (hP.sub [0, 1, 2] rfl) (hD.sub [0, 1, 2] (by decide) rfl) hS ls (lv_sub hl [0, 1] rfl)
        exact L25 s.length 0 q1 (by omega) (fun j hj => lkL_at _ j _ _ _ _ (hz j (by omega))) _ _ (hP.sub [0, 1, 2] rfl) (hD.sub [0, 1, 2] (by decide) rfl) hS ls (lv_sub hl [0, 1] rfl)
      · exfalso; omega
    | succ r ih2 =>
      intro i q1 h1 hz H locs hP hD hS ls hl
      refine lv_iload_n X.1 X.2.1 dX12_findOccurring_2 rfl (lv_at hl 0 rfl) ?_
      refine lv_aload_n X.1 X.2.1 dX12_findOccurring_3 rfl (lv_at hl 1 rfl) ?_
      refine (m_blocks g m0 lt er el cm_ sv md fmm lc lz af pt_ oc ty_ sz_ em k n s h c tk k0 n0 s0 z p B T (by assumption)).callV (rest := [.int (nI i)]) X dX12_findOccurring_4 q1109 tX12_blocks hK (hP.sub [0] rfl) 0 11 rfl rfl rfl hl ⟨⟨Nat.le_of_ble_eq_true rfl, Nat.le_of_ble_eq_true rfl⟩, Nat.le_of_ble_eq_true rfl, Nat.le_of_ble_eq_true rfl⟩ rfl rfl (Nat.le_of_ble_eq_true rfl) ?_
      refine z_icmp_ge (tgt := 23) X dX12_findOccurring_7 (by decide) (nI_toInt (by omega)) (nI_toInt (by omega)) (fun c7 => ?_) (fun c7 => ?_)
      · exfalso; omega
      · refine lv_aload_n X.1 X.2.1 dX12_findOccurring_10 rfl (lv_at hl 1 rfl) ?_
        refine va_get (D := g.1) (ci := 11) (v := .ref oc) (C := RX12) (T := TX12) (N := 26) X.1 X.2.1 X.2.2.2.2 iwX12 X.2.2.2.1 hK hP 0 rfl rfl 22 (by decide) (X.2.2.2.2 _ q1042) (fun _ h9 => h9) rfl dX12_findOccurring_11 ?_
        refine lv_iload_n X.1 X.2.1 dX12_findOccurring_14 rfl (lv_at hl 0 rfl) ?_
        refine lv_iconst (v := (nI 0)) X.1 X.2.1 dX12_findOccurring_15 (by decide) ?_
        refine n_zast X hK hP hD hS 2 1 rfl rfl (by omega) (by decide) (rfl) dX12_findOccurring_16 (fun H locs hP hD hS => ?_)
        have hP : PP g [(m0, .inr (11, [.int (nI k), .int (nI n), .ref lt, .int (nI s.length), .ref er, .ref el, .int (nI h.length), .ref cm_, .int (nI c.length), .int (bI tk), .int (nI k0), .int (nI n0), .ref sv, .int (nI s0.length), .ref md, .int (nI z.length), .ref fmm, .ref lc, .ref lz, .ref af, .ref pt_, .int (nI p.length), .ref oc, .ref ty_, .ref sz_, .ref em])), (lt, .inl (g.2.1, 256, .inl f)), (oc, .inl (g.2.2.1, 256, .inl (upd (mf q1) i (nI 0))))] H := hP
        have hD : va_D A [(m0, .inr (11, [.int (nI k), .int (nI n), .ref lt, .int (nI s.length), .ref er, .ref el, .int (nI h.length), .ref cm_, .int (nI c.length), .int (bI tk), .int (nI k0), .int (nI n0), .ref sv, .int (nI s0.length), .ref md, .int (nI z.length), .ref fmm, .ref lc, .ref lz, .ref af, .ref pt_, .int (nI p.length), .ref oc, .ref ty_, .ref sz_, .ref em])), (lt, .inl (g.2.1, 256, .inl f)), (oc, .inl (g.2.2.1, 256, .inl (upd (mf q1) i (nI 0))))] := hD
        have hP : PP g [(m0, .inr (11, [.int (nI k), .int (nI n), .ref lt, .int (nI s.length), .ref er, .ref el, .int (nI h.length), .ref cm_, .int (nI c.length), .int (bI tk), .int (nI k0), .int (nI n0), .ref sv, .int (nI s0.length), .ref md, .int (nI z.length), .ref fmm, .ref lc, .ref lz, .ref af, .ref pt_, .int (nI p.length), .ref oc, .ref ty_, .ref sz_, .ref em])), (lt, .inl (g.2.1, 256, .inl f)), (oc, .inl (g.2.2.1, 256, .inl (mf (qclr q1 i))))] H := by rw [← mf_clr]; exact hP
        have hD : va_D A [(m0, .inr (11, [.int (nI k), .int (nI n), .ref lt, .int (nI s.length), .ref er, .ref el, .int (nI h.length), .ref cm_, .int (nI c.length), .int (bI tk), .int (nI k0), .int (nI n0), .ref sv, .int (nI s0.length), .ref md, .int (nI z.length), .ref fmm, .ref lc, .ref lz, .ref af, .ref pt_, .int (nI p.length), .ref oc, .ref ty_, .ref sz_, .ref em])), (lt, .inl (g.2.1, 256, .inl f)), (oc, .inl (g.2.2.1, 256, .inl (mf (qclr q1 i))))] := by rw [← mf_clr]; exact hD
        refine lv_iinc (v := (nI (i + 1))) (lv' := [(1, .int (nI (i + 1))), (0, .ref m0)]) X.1 X.2.1 dX12_findOccurring_17 hl (k := 0) rfl (nI_inc _) (by decide) rfl (fun ls hl => ?_)
        refine lv_goto (tgt := 2) X.1 X.2.1 dX12_findOccurring_20 (by decide) ?_
        exact ih2 (i + 1) (qclr q1 i) (by omega) (fun j hj => by unfold qclr; split <;> first | rfl | exact hz j (by omega)) _ _ (hP.sub [0, 1, 2] rfl) (hD.sub [0, 1, 2] (by decide) rfl) hS ls (lv_sub hl [0, 1] rfl)
  exact L2 B 0 q (by omega) (fun j hj => absurd hj (Nat.not_lt_zero j)) _ _ (hP.sub [0, 1, 2] rfl) (hD.sub [0, 1, 2] (by decide) rfl) hS ls (lv_sub hl [0, 1] rfl)

set_option maxHeartbeats 4000000 in
set_option maxRecDepth 100000 in
theorem m_differentBlocks (g : G5) (m0 : Nat) (lt : Nat) (er : Nat) (el : Nat) (cm_ : Nat) (sv : Nat) (md : Nat) (fmm : Nat) (lc : Nat) (lz : Nat) (af : Nat) (pt_ : Nat) (oc : Nat) (ty_ : Nat) (sz_ : Nat) (em : Nat) (k : Nat) (n : Nat) (s : List Nat) (h : List (List Nat)) (c : List Nat) (tk : Bool) (k0 : Nat) (n0 : Nat) (s0 : List Nat) (z : List Nat) (p : List Int) (f : Nat → Int32) (q : Nat → Bool) (B : Nat) (T : Nat) (hc : shp k n B T) (hs : s.length ≤ 256) (hf : rep f s) (hlt : ltk k s) : MuI (S := (Nat → Bool)) yX12_differentBlocks cX12_differentBlocks 3 (some .int) 4 91 g [.ref m0] [(m0, .inr (11, [.int (nI k), .int (nI n), .ref lt, .int (nI s.length), .ref er, .ref el, .int (nI h.length), .ref cm_, .int (nI c.length), .int (bI tk), .int (nI k0), .int (nI n0), .ref sv, .int (nI s0.length), .ref md, .int (nI z.length), .ref fmm, .ref lc, .ref lz, .ref af, .ref pt_, .int (nI p.length), .ref oc, .ref ty_, .ref sz_, .ref em])), (lt, .inl (g.2.1, 256, .inl f)), (oc, .inl (g.2.2.1, 256, .inl (mf q)))] (fun r q1 => r = (nI (cntL (occ k n s) B 0 0)) ∧ True) (fun q1 => [(m0, .inr (11, [.int (nI k), .int (nI n), .ref lt, .int (nI s.length), .ref er, .ref el, .int (nI h.length), .ref cm_, .int (nI c.length), .int (bI tk), .int (nI k0), .int (nI n0), .ref sv, .int (nI s0.length), .ref md, .int (nI z.length), .ref fmm, .ref lc, .ref lz, .ref af, .ref pt_, .int (nI p.length), .ref oc, .ref ty_, .ref sz_, .ref em])), (lt, .inl (g.2.1, 256, .inl f)), (oc, .inl (g.2.2.1, 256, .inl (mf q1)))]) := by
  refine MuI.of (by decide +kernel) (Nat.le_of_ble_eq_true rfl) ?_
  intro p_ l_ e_ S_ m_ args below meth co X hr hlk hP hK A hA hD hS ls hl
  have X : CallFix p_ m_ co cX12_differentBlocks 3 S_ args lw_all RX12 := X
  have hl : lv_has ls 3 [(0, .ref m0)] := hl
  obtain ⟨hk2, hk4, hn1, hn6, hB, hT, hBT, hT2⟩ := hc.f
  have hB0 : 0 < B := by rw [hBT]; exact Nat.mul_pos (by omega) (by omega)
  refine lv_aload_n X.1 X.2.1 dX12_differentBlocks_0 rfl (lv_at hl 0 rfl) ?_
  refine (m_find g m0 lt er el cm_ sv md fmm lc lz af pt_ oc ty_ sz_ em k n s h c tk k0 n0 s0 z p f q B T (by assumption) (by omega) (by assumption) (by assumption)).callV (rest := []) (wr := []) X dX12_differentBlocks_1 q1346 tX12_findOccurring hK hP hD hS hA [0, 1, 2] [] (by decide) rfl rfl (by decide) (by decide) 0 11 rfl rfl rfl hl ⟨⟨Nat.le_of_ble_eq_true rfl, Nat.le_of_ble_eq_true rfl⟩, Nat.le_of_ble_eq_true rfl, Nat.le_of_ble_eq_true rfl⟩ rfl rfl (Nat.le_of_ble_eq_true rfl) (fun u1 H locs hw1 hP hD hS => ?_)
  obtain ⟨q1_1, rfl⟩ : ∃ z, z = u1 := ⟨_, rfl⟩
  have hP : PP g [(m0, .inr (11, [.int (nI k), .int (nI n), .ref lt, .int (nI s.length), .ref er, .ref el, .int (nI h.length), .ref cm_, .int (nI c.length), .int (bI tk), .int (nI k0), .int (nI n0), .ref sv, .int (nI s0.length), .ref md, .int (nI z.length), .ref fmm, .ref lc, .ref lz, .ref af, .ref pt_, .int (nI p.length), .ref oc, .ref ty_, .ref sz_, .ref em])), (lt, .inl (g.2.1, 256, .inl f)), (oc, .inl (g.2.2.1, 256, .inl (mf q1_1)))] H := hP
  have hD : va_D A [(m0, .inr (11, [.int (nI k), .int (nI n), .ref lt, .int (nI s.length), .ref er, .ref el, .int (nI h.length), .ref cm_, .int (nI c.length), .int (bI tk), .int (nI k0), .int (nI n0), .ref sv, .int (nI s0.length), .ref md, .int (nI z.length), .ref fmm, .ref lc, .ref lz, .ref af, .ref pt_, .int (nI p.length), .ref oc, .ref ty_, .ref sz_, .ref em])), (lt, .inl (g.2.1, 256, .inl f)), (oc, .inl (g.2.2.1, 256, .inl (mf q1_1)))] := hD
  try dsimp only at hw1
  refine lv_iconst (v := (nI 0)) X.1 X.2.1 dX12_differentBlocks_4 (by decide) ?_
  refine lv_istore_n (lv' := [(1, .int (nI 0)), (0, .ref m0)]) X.1 X.2.1 dX12_differentBlocks_5 rfl hl (by decide) rfl (fun ls hl => ?_)
  refine lv_iconst (v := (nI 0)) X.1 X.2.1 dX12_differentBlocks_6 (by decide) ?_
  refine lv_istore_n (lv' := [(2, .int (nI 0)), (1, .int (nI 0)), (0, .ref m0)]) X.1 X.2.1 dX12_differentBlocks_7 rfl hl (by decide) rfl (fun ls hl => ?_)
  have L8 : ∀ (r : Nat) (v : Nat) (i : Nat) (h1 : i + r = B) (hq : cntL (occ k n s) r i v = cntL (occ k n s) B 0 0) (ls : Array Slot) (hl : lv_has ls 3 [(2, .int (nI i)), (1, .int (nI v)), (0, .ref m0)]), W p_ l_ e_ { frames := 4, cells := 0, slots := 0, locals := 91 } S_ m_ args below meth co H locs 0 0 (MQ below (va_Qi (S := (Nat → Bool)) (fun r q1 => r = (nI (cntL (occ k n s) B 0 0)) ∧ True) (MuB g A (fun q1 => [(m0, .inr (11, [.int (nI k), .int (nI n), .ref lt, .int (nI s.length), .ref er, .ref el, .int (nI h.length), .ref cm_, .int (nI c.length), .int (bI tk), .int (nI k0), .int (nI n0), .ref sv, .int (nI s0.length), .ref md, .int (nI z.length), .ref fmm, .ref lc, .ref lz, .ref af, .ref pt_, .int (nI p.length), .ref oc, .ref ty_, .ref sz_, .ref em])), (lt, .inl (g.2.1, 256, .inl f)), (oc, .inl (g.2.2.1, 256, .inl (mf q1)))])) A) args S_ 0 0 A) (F0 m_ 8 ls []) := by
    intro r
    induction r with
    | zero =>
      intro v i h1 hq ls hl
      refine lv_iload_n X.1 X.2.1 dX12_differentBlocks_8 rfl (lv_at hl 0 rfl) ?_
      refine lv_aload_n X.1 X.2.1 dX12_differentBlocks_9 rfl (lv_at hl 2 rfl) ?_
      refine (m_blocks g m0 lt er el cm_ sv md fmm lc lz af pt_ oc ty_ sz_ em k n s h c tk k0 n0 s0 z p B T (by assumption)).callV (rest := [.int (nI i)]) X dX12_differentBlocks_10 q1109 tX12_blocks hK (hP.sub [0] rfl) 0 11 rfl rfl rfl hl ⟨⟨Nat.le_of_ble_eq_true rfl, Nat.le_of_ble_eq_true rfl⟩, Nat.le_of_ble_eq_true rfl, Nat.le_of_ble_eq_true rfl⟩ rfl rfl (Nat.le_of_ble_eq_true rfl) ?_
      refine z_icmp_ge (tgt := 39) X dX12_differentBlocks_13 (by decide) (nI_toInt (by omega)) (nI_toInt (by omega)) (fun c13 => ?_) (fun c13 => ?_)
      · refine lv_iload_n X.1 X.2.1 dX12_differentBlocks_39 rfl (lv_at hl 1 rfl) ?_
        exact MuI.ret X hr hlk hK hS dX12_differentBlocks_40 (nI_nar _) q1_1 (hP.sub [0, 1, 2] rfl) (hD.sub [0, 1, 2] (by decide) rfl) (⟨by rw [← hq]; rfl, trivial⟩)
      · exfalso; omega
    | succ r ih8 =>
      intro v i h1 hq ls hl
      refine lv_iload_n X.1 X.2.1 dX12_differentBlocks_8 rfl (lv_at hl 0 rfl) ?_
      refine lv_aload_n X.1 X.2.1 dX12_differentBlocks_9 rfl (lv_at hl 2 rfl) ?_
      refine (m_blocks g m0 lt er el cm_ sv md fmm lc lz af pt_ oc ty_ sz_ em k n s h c tk k0 n0 s0 z p B T (by assumption)).callV (rest := [.int (nI i)]) X dX12_differentBlocks_10 q1109 tX12_blocks hK (hP.sub [0] rfl) 0 11 rfl rfl rfl hl ⟨⟨Nat.le_of_ble_eq_true rfl, Nat.le_of_ble_eq_true rfl⟩, Nat.le_of_ble_eq_true rfl, Nat.le_of_ble_eq_true rfl⟩ rfl rfl (Nat.le_of_ble_eq_true rfl) ?_
      refine z_icmp_ge (tgt := 39) X dX12_differentBlocks_13 (by decide) (nI_toInt (by omega)) (nI_toInt (by omega)) (fun c13 => ?_) (fun c13 => ?_)
      · exfalso; omega
      · refine lv_iload_n X.1 X.2.1 dX12_differentBlocks_16 rfl (lv_at hl 1 rfl) ?_
        refine lv_aload_n X.1 X.2.1 dX12_differentBlocks_17 rfl (lv_at hl 2 rfl) ?_
        refine va_get (D := g.1) (ci := 11) (v := .ref oc) (C := RX12) (T := TX12) (N := 26) X.1 X.2.1 X.2.2.2.2 iwX12 X.2.2.2.1 hK hP 0 rfl rfl 22 (by decide) (X.2.2.2.2 _ q1042) (fun _ h9 => h9) rfl dX12_differentBlocks_18 ?_
        refine lv_iload_n X.1 X.2.1 dX12_differentBlocks_21 rfl (lv_at hl 0 rfl) ?_
        refine n_zald X hK hP 2 1 rfl rfl (by omega) (by decide) dX12_differentBlocks_22 ?_
        refine tp_i (y := (bI (q1_1 i))) (rfl) ?_
        refine b_if_eq (tgt := 30) X dX12_differentBlocks_23 (by decide) (fun c23 => ?_) (fun c23 => ?_)
        · refine lv_iconst (v := (nI 0)) X.1 X.2.1 dX12_differentBlocks_30 (by decide) ?_
          refine n_add X dX12_differentBlocks_31 ?_
          refine lv_istore_n (lv' := [(1, .int (nI (v + 0))), (2, .int (nI i)), (0, .ref m0)]) X.1 X.2.1 dX12_differentBlocks_32 rfl hl (by decide) rfl (fun ls hl => ?_)
          refine lv_iinc (v := (nI (i + 1))) (lv' := [(2, .int (nI (i + 1))), (1, .int (nI (v + 0))), (0, .ref m0)]) X.1 X.2.1 dX12_differentBlocks_33 hl (k := 1) rfl (nI_inc _) (by decide) rfl (fun ls hl => ?_)
          refine lv_goto (tgt := 8) X.1 X.2.1 dX12_differentBlocks_36 (by decide) ?_
          exact ih8 (v + 0) (i + 1) (by omega) (by rw [cntL, ← hw1 i (by omega), c23] at hq; exact hq) ls (lv_sub hl [0, 1, 2] rfl)
        · refine lv_iconst (v := (nI 1)) X.1 X.2.1 dX12_differentBlocks_26 (by decide) ?_
          refine lv_goto (tgt := 31) X.1 X.2.1 dX12_differentBlocks_27 (by decide) ?_
          refine n_add X dX12_differentBlocks_31 ?_
          refine lv_istore_n (lv' := [(1, .int (nI (v + 1))), (2, .int (nI i)), (0, .ref m0)]) X.1 X.2.1 dX12_differentBlocks_32 rfl hl (by decide) rfl (fun ls hl => ?_)
          refine lv_iinc (v := (nI (i + 1))) (lv' := [(2, .int (nI (i + 1))), (1, .int (nI (v + 1))), (0, .ref m0)]) X.1 X.2.1 dX12_differentBlocks_33 hl (k := 1) rfl (nI_inc _) (by decide) rfl (fun ls hl => ?_)
          refine lv_goto (tgt := 8) X.1 X.2.1 dX12_differentBlocks_36 (by decide) ?_
          exact ih8 (v + 1) (i + 1) (by omega) (by rw [cntL, ← hw1 i (by omega), c23] at hq; exact hq) ls (lv_sub hl [0, 1, 2] rfl)
  exact L8 B 0 0 (by omega) (rfl) ls (lv_sub hl [0, 1, 2] rfl)

set_option maxHeartbeats 4000000 in
set_option maxRecDepth 100000 in
theorem m_missingBlock (g : G5) (m0 : Nat) (lt : Nat) (er : Nat) (el : Nat) (cm_ : Nat) (sv : Nat) (md : Nat) (fmm : Nat) (lc : Nat) (lz : Nat) (af : Nat) (pt_ : Nat) (oc : Nat) (ty_ : Nat) (sz_ : Nat) (em : Nat) (k : Nat) (n : Nat) (s : List Nat) (h : List (List Nat)) (c : List Nat) (tk : Bool) (k0 : Nat) (n0 : Nat) (s0 : List Nat) (z : List Nat) (p : List Int) (f : Nat → Int32) (q : Nat → Bool) (B : Nat) (T : Nat) (x : Int32) (hc : shp k n B T) (hs : s.length ≤ 256) (hf : rep f s) (hlt : ltk k s) : MuI (S := (Nat → Bool)) yX12_missingBlock cX12_missingBlock 4 (some .int) 4 91 g [.ref m0, .int x] [(m0, .inr (11, [.int (nI k), .int (nI n), .ref lt, .int (nI s.length), .ref er, .ref el, .int (nI h.length), .ref cm_, .int (nI c.length), .int (bI tk), .int (nI k0), .int (nI n0), .ref sv, .int (nI s0.length), .ref md, .int (nI z.length), .ref fmm, .ref lc, .ref lz, .ref af, .ref pt_, .int (nI p.length), .ref oc, .ref ty_, .ref sz_, .ref em])), (lt, .inl (g.2.1, 256, .inl f)), (oc, .inl (g.2.2.1, 256, .inl (mf q)))] (fun r q1 => r = (nthL (fun b => !(occ k n s b)) x.toInt B 0 0) ∧ True) (fun q1 => [(m0, .inr (11, [.int (nI k), .int (nI n), .ref lt, .int (nI s.length), .ref er, .ref el, .int (nI h.length), .ref cm_, .int (nI c.length), .int (bI tk), .int (nI k0), .int (nI n0), .ref sv, .int (nI s0.length), .ref md, .int (nI z.length), .ref fmm, .ref lc, .ref lz, .ref af, .ref pt_, .int (nI p.length), .ref oc, .ref ty_, .ref sz_, .ref em])), (lt, .inl (g.2.1, 256, .inl f)), (oc, .inl (g.2.2.1, 256, .inl (mf q1)))]) := by
  refine MuI.of (by decide +kernel) (Nat.le_of_ble_eq_true rfl) ?_
  intro p_ l_ e_ S_ m_ args below meth co X hr hlk hP hK A hA hD hS ls hl
  have X : CallFix p_ m_ co cX12_missingBlock 4 S_ args lw_all RX12 := X
  have hl : lv_has ls 4 [(0, .ref m0), (1, .int x)] := hl
  obtain ⟨hk2, hk4, hn1, hn6, hB, hT, hBT, hT2⟩ := hc.f
  have hB0 : 0 < B := by rw [hBT]; exact Nat.mul_pos (by omega) (by omega)
  have hxr := z_rng x
  refine lv_aload_n X.1 X.2.1 dX12_missingBlock_0 rfl (lv_at hl 0 rfl) ?_
  refine (m_find g m0 lt er el cm_ sv md fmm lc lz af pt_ oc ty_ sz_ em k n s h c tk k0 n0 s0 z p f q B T (by assumption) (by omega) (by assumption) (by assumption)).callV (rest := []) (wr := []) X dX12_missingBlock_1 q1346 tX12_findOccurring hK hP hD hS hA [0, 1, 2] [] (by decide) rfl rfl (by decide) (by decide) 0 11 rfl rfl rfl hl ⟨⟨Nat.le_of_ble_eq_true rfl, Nat.le_of_ble_eq_true rfl⟩, Nat.le_of_ble_eq_true rfl, Nat.le_of_ble_eq_true rfl⟩ rfl rfl (Nat.le_of_ble_eq_true rfl) (fun u1 H locs hw1 hP hD hS => ?_)
  obtain ⟨q1_1, rfl⟩ : ∃ z, z = u1 := ⟨_, rfl⟩
  have hP : PP g [(m0, .inr (11, [.int (nI k), .int (nI n), .ref lt, .int (nI s.length), .ref er, .ref el, .int (nI h.length), .ref cm_, .int (nI c.length), .int (bI tk), .int (nI k0), .int (nI n0), .ref sv, .int (nI s0.length), .ref md, .int (nI z.length), .ref fmm, .ref lc, .ref lz, .ref af, .ref pt_, .int (nI p.length), .ref oc, .ref ty_, .ref sz_, .ref em])), (lt, .inl (g.2.1, 256, .inl f)), (oc, .inl (g.2.2.1, 256, .inl (mf q1_1)))] H := hP
  have hD : va_D A [(m0, .inr (11, [.int (nI k), .int (nI n), .ref lt, .int (nI s.length), .ref er, .ref el, .int (nI h.length), .ref cm_, .int (nI c.length), .int (bI tk), .int (nI k0), .int (nI n0), .ref sv, .int (nI s0.length), .ref md, .int (nI z.length), .ref fmm, .ref lc, .ref lz, .ref af, .ref pt_, .int (nI p.length), .ref oc, .ref ty_, .ref sz_, .ref em])), (lt, .inl (g.2.1, 256, .inl f)), (oc, .inl (g.2.2.1, 256, .inl (mf q1_1)))] := hD
  try dsimp only at hw1
  refine lv_iload_n X.1 X.2.1 dX12_missingBlock_4 rfl (lv_at hl 1 rfl) ?_
  refine tp_i (y := (iI (x.toInt - ((0 : Nat) : Int)))) (z_sub0 _) ?_
  refine lv_istore_n (lv' := [(2, .int (iI (x.toInt - ((0 : Nat) : Int)))), (0, .ref m0), (1, .int x)]) X.1 X.2.1 dX12_missingBlock_5 rfl hl (by decide) rfl (fun ls hl => ?_)
  refine lv_iconst (v := (nI 0)) X.1 X.2.1 dX12_missingBlock_6 (by decide) ?_
  refine lv_istore_n (lv' := [(3, .int (nI 0)), (2, .int (iI (x.toInt - ((0 : Nat) : Int)))), (0, .ref m0), (1, .int x)]) X.1 X.2.1 dX12_missingBlock_7 rfl hl (by decide) rfl (fun ls hl => ?_)
  have L8 : ∀ (r : Nat) (v : Nat) (i : Nat) (h1 : i + r = B) (h2 : v ≤ i) (hv : ((v : Nat) : Int) ≤ x.toInt ∨ v = 0) (hq : nthL (fun b => !(occ k n s b)) x.toInt r i v = nthL (fun b => !(occ k n s b)) x.toInt B 0 0) (ls : Array Slot) (hl : lv_has ls 4 [(3, .int (nI i)), (2, .int (iI (x.toInt - ((v : Nat) : Int)))), (0, .ref m0), (1, .int x)]), W p_ l_ e_ { frames := 4, cells := 0, slots := 0, locals := 91 } S_ m_ args below meth co H locs 0 0 (MQ below (va_Qi (S := (Nat → Bool)) (fun r q1 => r = (nthL (fun b => !(occ k n s b)) x.toInt B 0 0) ∧ True) (MuB g A (fun q1 => [(m0, .inr (11, [.int (nI k), .int (nI n), .ref lt, .int (nI s.length), .ref er, .ref el, .int (nI h.length), .ref cm_, .int (nI c.length), .int (bI tk), .int (nI k0), .int (nI n0), .ref sv, .int (nI s0.length), .ref md, .int (nI z.length), .ref fmm, .ref lc, .ref lz, .ref af, .ref pt_, .int (nI p.length), .ref oc, .ref ty_, .ref sz_, .ref em])), (lt, .inl (g.2.1, 256, .inl f)), (oc, .inl (g.2.2.1, 256, .inl (mf q1)))])) A) args S_ 0 0 A) (F0 m_ 8 ls []) := by
    intro r
    induction r with
    | zero =>
      intro v i h1 h2 hv hq ls hl
      refine lv_iload_n X.1 X.2.1 dX12_missingBlock_8 rfl (lv_at hl 0 rfl) ?_
      refine lv_aload_n X.1 X.2.1 dX12_missingBlock_9 rfl (lv_at hl 2 rfl) ?_
      refine (m_blocks g m0 lt er el cm_ sv md fmm lc lz af pt_ oc ty_ sz_ em k n s h c tk k0 n0 s0 z p B T (by assumption)).callV (rest := [.int (nI i)]) X dX12_missingBlock_10 q1109 tX12_blocks hK (hP.sub [0] rfl) 0 11 rfl rfl rfl hl ⟨⟨Nat.le_of_ble_eq_true rfl, Nat.le_of_ble_eq_true rfl⟩, Nat.le_of_ble_eq_true rfl, Nat.le_of_ble_eq_true rfl⟩ rfl rfl (Nat.le_of_ble_eq_true rfl) ?_
      refine z_icmp_ge (tgt := 44) X dX12_missingBlock_13 (by decide) (nI_toInt (by omega)) (nI_toInt (by omega)) (fun c13 => ?_) (fun c13 => ?_)
      · refine lv_bipush (v := (-2)) X.1 X.2.1 dX12_missingBlock_44 (by decide) ?_
        exact MuI.ret X hr hlk hK hS dX12_missingBlock_46 (nI_nar _) q1_1 (hP.sub [0, 1, 2] rfl) (hD.sub [0, 1, 2] (by decide) rfl) (⟨by first | (rw [nthL_neg (by omega)]; done) | (rw [← hq]; rfl), trivial⟩)
      · exfalso; omega
    | succ r ih8 =>
      intro v i h1 h2 hv hq ls hl
      refine lv_iload_n X.1 X.2.1 dX12_missingBlock_8 rfl (lv_at hl 0 rfl) ?_
      refine lv_aload_n X.1 X.2.1 dX12_missingBlock_9 rfl (lv_at hl 2 rfl) ?_
      refine (m_blocks g m0 lt er el cm_ sv md fmm lc lz af pt_ oc ty_ sz_ em k n s h c tk k0 n0 s0 z p B T (by assumption)).callV (rest := [.int (nI i)]) X dX12_missingBlock_10 q1109 tX12_blocks hK (hP.sub [0] rfl) 0 11 rfl rfl rfl hl ⟨⟨Nat.le_of_ble_eq_true rfl, Nat.le_of_ble_eq_true rfl⟩, Nat.le_of_ble_eq_true rfl, Nat.le_of_ble_eq_true rfl⟩ rfl rfl (Nat.le_of_ble_eq_true rfl) ?_
      refine z_icmp_ge (tgt := 44) X dX12_missingBlock_13 (by decide) (nI_toInt (by omega)) (nI_toInt (by omega)) (fun c13 => ?_) (fun c13 => ?_)
      · exfalso; omega
      · refine lv_iload_n X.1 X.2.1 dX12_missingBlock_16 rfl (lv_at hl 3 rfl) ?_
        refine z_if_lt (tgt := 44) X dX12_missingBlock_17 (by decide) rfl (fun c17 => ?_) (fun c17 => ?_)
        · refine lv_bipush (v := (-2)) X.1 X.2.1 dX12_missingBlock_44 (by decide) ?_
          exact MuI.ret X hr hlk hK hS dX12_missingBlock_46 (nI_nar _) q1_1 (hP.sub [0, 1, 2] rfl) (hD.sub [0, 1, 2] (by decide) rfl) (⟨by first | (rw [nthL_neg (by omega)]; done) | (rw [← hq]; rfl), trivial⟩)
        · refine lv_aload_n X.1 X.2.1 dX12_missingBlock_20 rfl (lv_at hl 2 rfl) ?_
          refine va_get (D := g.1) (ci := 11) (v := .ref oc) (C := RX12) (T := TX12) (N := 26) X.1 X.2.1 X.2.2.2.2 iwX12 X.2.2.2.1 hK hP 0 rfl rfl 22 (by decide) (X.2.2.2.2 _ q1042) (fun _ h9 => h9) rfl dX12_missingBlock_21 ?_
          refine lv_iload_n X.1 X.2.1 dX12_missingBlock_24 rfl (lv_at hl 0 rfl) ?_
          refine n_zald X hK hP 2 1 rfl rfl (by omega) (by decide) dX12_missingBlock_25 ?_
          refine tp_i (y := (bI (q1_1 i))) (rfl) ?_
          refine b_if_ne (tgt := 38) X dX12_missingBlock_26 (by decide) (fun c26 => ?_) (fun c26 => ?_)
          · refine lv_iinc (v := (nI (i + 1))) (lv' := [(3, .int (nI (i + 1))), (2, .int (iI (x.toInt - ((v : Nat) : Int)))), (0, .ref m0), (1, .int x)]) X.1 X.2.1 dX12_missingBlock_38 hl (k := 0) rfl (nI_inc _) (by decide) rfl (fun ls hl => ?_)
            refine lv_goto (tgt := 8) X.1 X.2.1 dX12_missingBlock_41 (by decide) ?_
            exact ih8 v (i + 1) (by omega) (by omega) (by omega) (by rw [nthL, ← hw1 i (by omega), c26] at hq; first | exact hq | (rw [Bool.not_false, if_pos rfl, if_neg (by omega)] at hq; exact hq)) ls (lv_sub hl [0, 1, 2, 3] rfl)
          · refine lv_iload_n X.1 X.2.1 dX12_missingBlock_29 rfl (lv_at hl 1 rfl) ?_
            refine z_if_ne (tgt := 35) X dX12_missingBlock_30 (by decide) (iI_toInt (by omega) (by omega)) (fun c30 => ?_) (fun c30 => ?_)
            · refine lv_iinc (v := (iI (x.toInt - ((v + 1 : Nat) : Int)))) (lv' := [(2, .int (iI (x.toInt - ((v + 1 : Nat) : Int)))), (3, .int (nI i)), (0, .ref m0), (1, .int x)]) X.1 X.2.1 dX12_missingBlock_35 hl (k := 1) rfl (iI_inc _ _ _ (by omega)) (by decide) rfl (fun ls hl => ?_)
              refine lv_iinc (v := (nI (i + 1))) (lv' := [(3, .int (nI (i + 1))), (2, .int (iI (x.toInt - ((v + 1 : Nat) : Int)))), (0, .ref m0), (1, .int x)]) X.1 X.2.1 dX12_missingBlock_38 hl (k := 1) rfl (nI_inc _) (by decide) rfl (fun ls hl => ?_)
              refine lv_goto (tgt := 8) X.1 X.2.1 dX12_missingBlock_41 (by decide) ?_
              exact ih8 (v + 1) (i + 1) (by omega) (by omega) (by omega) (by rw [nthL, ← hw1 i (by omega), c26] at hq; first | exact hq | (rw [Bool.not_false, if_pos rfl, if_neg (by omega)] at hq; exact hq)) ls (lv_sub hl [0, 1, 2, 3] rfl)
            · refine lv_iload_n X.1 X.2.1 dX12_missingBlock_33 rfl (lv_at hl 0 rfl) ?_
              exact MuI.ret X hr hlk hK hS dX12_missingBlock_34 (nI_nar _) q1_1 (hP.sub [0, 1, 2] rfl) (hD.sub [0, 1, 2] (by decide) rfl) (⟨by rw [nthL, ← hw1 i (by omega), c26, Bool.not_false, if_pos rfl, if_pos (by omega)] at hq; exact hq, trivial⟩)
  exact L8 B 0 0 (by omega) (by omega) (by omega) (rfl) ls (lv_sub hl [0, 1, 2, 3] rfl)

set_option maxHeartbeats 4000000 in
set_option maxRecDepth 100000 in
theorem m_isDeBruijn (g : G5) (m0 : Nat) (lt : Nat) (er : Nat) (el : Nat) (cm_ : Nat) (sv : Nat) (md : Nat) (fmm : Nat) (lc : Nat) (lz : Nat) (af : Nat) (pt_ : Nat) (oc : Nat) (ty_ : Nat) (sz_ : Nat) (em : Nat) (k : Nat) (n : Nat) (s : List Nat) (h : List (List Nat)) (c : List Nat) (tk : Bool) (k0 : Nat) (n0 : Nat) (s0 : List Nat) (z : List Nat) (p : List Int) (f : Nat → Int32) (q : Nat → Bool) (B : Nat) (T : Nat) (hc : shp k n B T) (hs : s.length ≤ 256) (hf : rep f s) (hlt : ltk k s) : MuI (S := (Nat → Bool)) yX12_isDeBruijn cX12_isDeBruijn 1 (some .int) 5 113 g [.ref m0] [(m0, .inr (11, [.int (nI k), .int (nI n), .ref lt, .int (nI s.length), .ref er, .ref el, .int (nI h.length), .ref cm_, .int (nI c.length), .int (bI tk), .int (nI k0), .int (nI n0), .ref sv, .int (nI s0.length), .ref md, .int (nI z.length), .ref fmm, .ref lc, .ref lz, .ref af, .ref pt_, .int (nI p.length), .ref oc, .ref ty_, .ref sz_, .ref em])), (lt, .inl (g.2.1, 256, .inl f)), (oc, .inl (g.2.2.1, 256, .inl (mf q)))] (fun r q1 => r = (nI (if s.length = B ∧ cntL (occ k n s) B 0 0 = B then 1 else 0)) ∧ True) (fun q1 => [(m0, .inr (11, [.int (nI k), .int (nI n), .ref lt, .int (nI s.length), .ref er, .ref el, .int (nI h.length), .ref cm_, .int (nI c.length), .int (bI tk), .int (nI k0), .int (nI n0), .ref sv, .int (nI s0.length), .ref md, .int (nI z.length), .ref fmm, .ref lc, .ref lz, .ref af, .ref pt_, .int (nI p.length), .ref oc, .ref ty_, .ref sz_, .ref em])), (lt, .inl (g.2.1, 256, .inl f)), (oc, .inl (g.2.2.1, 256, .inl (mf q1)))]) := by
  refine MuI.of (by decide +kernel) (Nat.le_of_ble_eq_true rfl) ?_
  intro p_ l_ e_ S_ m_ args below meth co X hr hlk hP hK A hA hD hS ls hl
  have X : CallFix p_ m_ co cX12_isDeBruijn 1 S_ args lw_all RX12 := X
  have hl : lv_has ls 1 [(0, .ref m0)] := hl
  obtain ⟨hk2, hk4, hn1, hn6, hB, hT, hBT, hT2⟩ := hc.f
  have hB0 : 0 < B := by rw [hBT]; exact Nat.mul_pos (by omega) (by omega)
  have hcn := cntL_le (occ k n s) B 0 0
  refine lv_aload_n X.1 X.2.1 dX12_isDeBruijn_0 rfl (lv_at hl 0 rfl) ?_
  refine va_get (D := g.1) (ci := 11) (v := .int (nI s.length)) (C := RX12) (T := TX12) (N := 26) X.1 X.2.1 X.2.2.2.2 iwX12 X.2.2.2.1 hK hP 0 rfl rfl 3 (by decide) (X.2.2.2.2 _ q1023) (fun _ h9 => h9) rfl dX12_isDeBruijn_1 ?_
  refine lv_aload_n X.1 X.2.1 dX12_isDeBruijn_4 rfl (lv_at hl 0 rfl) ?_
  refine (m_blocks g m0 lt er el cm_ sv md fmm lc lz af pt_ oc ty_ sz_ em k n s h c tk k0 n0 s0 z p B T (by assumption)).callV (rest := [.int (nI s.length)]) X dX12_isDeBruijn_5 q1109 tX12_blocks hK (hP.sub [0] rfl) 0 11 rfl rfl rfl hl ⟨⟨Nat.le_of_ble_eq_true rfl, Nat.le_of_ble_eq_true rfl⟩, Nat.le_of_ble_eq_true rfl, Nat.le_of_ble_eq_true rfl⟩ rfl rfl (Nat.le_of_ble_eq_true rfl) ?_
  refine z_icmp_ne (tgt := 26) X dX12_isDeBruijn_8 (by decide) (nI_toInt (by omega)) (nI_toInt (by omega)) (fun c8 => ?_) (fun c8 => ?_)
  · refine lv_iconst (v := (nI 0)) X.1 X.2.1 dX12_isDeBruijn_26 (by decide) ?_
    exact MuI.ret X hr hlk hK hS dX12_isDeBruijn_27 (nI_nar _) q (hP.sub [0, 1, 2] rfl) (hD.sub [0, 1, 2] (by decide) rfl) (⟨by first | (rw [if_pos (by omega)]; done) | (rw [if_neg (by omega)]; done), trivial⟩)
  · refine lv_aload_n X.1 X.2.1 dX12_isDeBruijn_11 rfl (lv_at hl 0 rfl) ?_
    refine (m_differentBlocks g m0 lt er el cm_ sv md fmm lc lz af pt_ oc ty_ sz_ em k n s h c tk k0 n0 s0 z p f q B T (by assumption) (by omega) (by assumption) (by assumption)).callV (rest := []) (wr := []) X dX12_isDeBruijn_12 q1362 tX12_differentBlocks hK hP hD hS hA [0, 1, 2] [] (by decide) rfl rfl (by decide) (by decide) 0 11 rfl rfl rfl hl ⟨⟨Nat.le_of_ble_eq_true rfl, Nat.le_of_ble_eq_true rfl⟩, Nat.le_of_ble_eq_true rfl, Nat.le_of_ble_eq_true rfl⟩ rfl rfl (Nat.le_of_ble_eq_true rfl) (fun r12 u12 H locs hw12 hP hD hS => ?_)
    obtain ⟨q1_12, rfl⟩ : ∃ z, z = u12 := ⟨_, rfl⟩
    have hP : PP g [(m0, .inr (11, [.int (nI k), .int (nI n), .ref lt, .int (nI s.length), .ref er, .ref el, .int (nI h.length), .ref cm_, .int (nI c.length), .int (bI tk), .int (nI k0), .int (nI n0), .ref sv, .int (nI s0.length), .ref md, .int (nI z.length), .ref fmm, .ref lc, .ref lz, .ref af, .ref pt_, .int (nI p.length), .ref oc, .ref ty_, .ref sz_, .ref em])), (lt, .inl (g.2.1, 256, .inl f)), (oc, .inl (g.2.2.1, 256, .inl (mf q1_12)))] H := hP
    have hD : va_D A [(m0, .inr (11, [.int (nI k), .int (nI n), .ref lt, .int (nI s.length), .ref er, .ref el, .int (nI h.length), .ref cm_, .int (nI c.length), .int (bI tk), .int (nI k0), .int (nI n0), .ref sv, .int (nI s0.length), .ref md, .int (nI z.length), .ref fmm, .ref lc, .ref lz, .ref af, .ref pt_, .int (nI p.length), .ref oc, .ref ty_, .ref sz_, .ref em])), (lt, .inl (g.2.1, 256, .inl f)), (oc, .inl (g.2.2.1, 256, .inl (mf q1_12)))] := hD
    try dsimp only at hw12
    refine tp_i (y := (nI (cntL (occ k n s) B 0 0))) (hw12.1) ?_
    refine lv_aload_n X.1 X.2.1 dX12_isDeBruijn_15 rfl (lv_at hl 0 rfl) ?_
    refine (m_blocks g m0 lt er el cm_ sv md fmm lc lz af pt_ oc ty_ sz_ em k n s h c tk k0 n0 s0 z p B T (by assumption)).callV (rest := [.int (nI (cntL (occ k n s) B 0 0))]) X dX12_isDeBruijn_16 q1109 tX12_blocks hK (hP.sub [0] rfl) 0 11 rfl rfl rfl hl ⟨⟨Nat.le_of_ble_eq_true rfl, Nat.le_of_ble_eq_true rfl⟩, Nat.le_of_ble_eq_true rfl, Nat.le_of_ble_eq_true rfl⟩ rfl rfl (Nat.le_of_ble_eq_true rfl) ?_
    refine z_icmp_ne (tgt := 26) X dX12_isDeBruijn_19 (by decide) (nI_toInt (by omega)) (nI_toInt (by omega)) (fun c19 => ?_) (fun c19 => ?_)
    · refine lv_iconst (v := (nI 0)) X.1 X.2.1 dX12_isDeBruijn_26 (by decide) ?_
      exact MuI.ret X hr hlk hK hS dX12_isDeBruijn_27 (nI_nar _) q1_12 (hP.sub [0, 1, 2] rfl) (hD.sub [0, 1, 2] (by decide) rfl) (⟨by first | (rw [if_pos (by omega)]; done) | (rw [if_neg (by omega)]; done), trivial⟩)
    · refine lv_iconst (v := (nI 1)) X.1 X.2.1 dX12_isDeBruijn_22 (by decide) ?_
      refine lv_goto (tgt := 27) X.1 X.2.1 dX12_isDeBruijn_23 (by decide) ?_
      exact MuI.ret X hr hlk hK hS dX12_isDeBruijn_27 (nI_nar _) q1_12 (hP.sub [0, 1, 2] rfl) (hD.sub [0, 1, 2] (by decide) rfl) (⟨by first | (rw [if_pos (by omega)]; done) | (rw [if_neg (by omega)]; done), trivial⟩)

set_option maxHeartbeats 4000000 in
set_option maxRecDepth 100000 in
theorem m_firstRepeat (g : G5) (m0 : Nat) (lt : Nat) (er : Nat) (el : Nat) (cm_ : Nat) (sv : Nat) (md : Nat) (fmm : Nat) (lc : Nat) (lz : Nat) (af : Nat) (pt_ : Nat) (oc : Nat) (ty_ : Nat) (sz_ : Nat) (em : Nat) (k : Nat) (n : Nat) (s : List Nat) (h : List (List Nat)) (c : List Nat) (tk : Bool) (k0 : Nat) (n0 : Nat) (s0 : List Nat) (z : List Nat) (p : List Int) (f : Nat → Int32) (B : Nat) (T : Nat) (hc : shp k n B T) (hs : s.length ≤ 256) (hf : rep f s) (hlt : ltk k s) : PuI yX12_firstRepeat cX12_firstRepeat 2 (some .int) 4 92 g [.ref m0] [(m0, .inr (11, [.int (nI k), .int (nI n), .ref lt, .int (nI s.length), .ref er, .ref el, .int (nI h.length), .ref cm_, .int (nI c.length), .int (bI tk), .int (nI k0), .int (nI n0), .ref sv, .int (nI s0.length), .ref md, .int (nI z.length), .ref fmm, .ref lc, .ref lz, .ref af, .ref pt_, .int (nI p.length), .ref oc, .ref ty_, .ref sz_, .ref em])), (lt, .inl (g.2.1, 256, .inl f))] (oI (rpL (codeN k n s) s.length 0 qz)) := by
  refine PuI.of (by decide +kernel) (Nat.le_of_ble_eq_true rfl) ?_
  intro p_ l_ e_ S_ m_ args below meth co X hr hlk hP hK ls hl
  have X : CallFix p_ m_ co cX12_firstRepeat 2 S_ args lw_all RX12 := X
  have hl : lv_has ls 2 [(0, .ref m0)] := hl
  obtain ⟨hk2, hk4, hn1, hn6, hB, hT, hBT, hT2⟩ := hc.f
  have hB0 : 0 < B := by rw [hBT]; exact Nat.mul_pos (by omega) (by omega)
  refine lv_iconst (v := (nI 1)) X.1 X.2.1 dX12_firstRepeat_0 (by decide) ?_
  refine lv_istore_n (lv' := [(1, .int (nI 1)), (0, .ref m0)]) X.1 X.2.1 dX12_firstRepeat_1 rfl hl (by decide) rfl (fun ls hl => ?_)
  have L2 : ∀ (r : Nat) (i : Nat) (q : Nat → Bool) (h1 : i + r = s.length ∨ (s.length = 0 ∧ r = 0 ∧ i = 1)) (hi1 : 1 ≤ i) (hm : mkd (codeN k n s) q i) (hq : rpL (codeN k n s) r i q = rpL (codeN k n s) s.length 0 qz) (ls : Array Slot) (hl : lv_has ls 2 [(1, .int (nI i)), (0, .ref m0)]), W p_ l_ e_ { frames := 4, cells := 0, slots := 0, locals := 92 } S_ m_ args below meth co S_.heap [] 0 0 (MQ below (vp_Si (fun r => r = (oI (rpL (codeN k n s) s.length 0 qz)))) args S_ 0 0 (fun _ => False)) (F0 m_ 2 ls []) := by
    intro r
    induction r with
    | zero =>
      intro i q h1 hi1 hm hq ls hl
      refine lv_iload_n X.1 X.2.1 dX12_firstRepeat_2 rfl (lv_at hl 0 rfl) ?_
      refine lv_aload_n X.1 X.2.1 dX12_firstRepeat_3 rfl (lv_at hl 1 rfl) ?_
      refine va_get (D := g.1) (ci := 11) (v := .int (nI s.length)) (C := RX12) (T := TX12) (N := 26) X.1 X.2.1 X.2.2.2.2 iwX12 X.2.2.2.1 hK hP 0 rfl rfl 3 (by decide) (X.2.2.2.2 _ q1023) (fun _ h9 => h9) rfl dX12_firstRepeat_4 ?_
      refine z_icmp_ge (tgt := 31) X dX12_firstRepeat_7 (by decide) (nI_toInt (by omega)) (nI_toInt (by omega)) (fun c7 => ?_) (fun c7 => ?_)
      · refine lv_bipush (v := (-2)) X.1 X.2.1 dX12_firstRepeat_31 (by decide) ?_
        exact PuI.ret X hr hlk dX12_firstRepeat_33 (nI_nar _) (by rw [← hq]; rfl)
      · exfalso; omega
    | succ r ih2 =>
      intro i q h1 hi1 hm hq ls hl
      refine lv_iload_n X.1 X.2.1 dX12_firstRepeat_2 rfl (lv_at hl 0 rfl) ?_
      refine lv_aload_n X.1 X.2.1 dX12_firstRepeat_3 rfl (lv_at hl 1 rfl) ?_
      refine va_get (D := g.1) (ci := 11) (v := .int (nI s.length)) (C := RX12) (T := TX12) (N := 26) X.1 X.2.1 X.2.2.2.2 iwX12 X.2.2.2.1 hK hP 0 rfl rfl 3 (by decide) (X.2.2.2.2 _ q1023) (fun _ h9 => h9) rfl dX12_firstRepeat_4 ?_
      refine z_icmp_ge (tgt := 31) X dX12_firstRepeat_7 (by decide) (nI_toInt (by omega)) (nI_toInt (by omega)) (fun c7 => ?_) (fun c7 => ?_)
      · exfalso; omega
      · refine lv_aload_n X.1 X.2.1 dX12_firstRepeat_10 rfl (lv_at hl 1 rfl) ?_
        refine lv_aload_n X.1 X.2.1 dX12_firstRepeat_11 rfl (lv_at hl 1 rfl) ?_
        refine lv_iload_n X.1 X.2.1 dX12_firstRepeat_12 rfl (lv_at hl 0 rfl) ?_
        refine (m_occurring g m0 lt er el cm_ sv md fmm lc lz af pt_ oc ty_ sz_ em k n s h c tk k0 n0 s0 z p f i (by omega) (by omega) (by assumption) (by omega) (by omega)).callV (rest := [.ref m0]) X dX12_firstRepeat_13 q1301 tX12_occurring hK (hP.sub [0, 1] rfl) 0 11 rfl rfl rfl hl ⟨⟨Nat.le_of_ble_eq_true rfl, Nat.le_of_ble_eq_true rfl⟩, Nat.le_of_ble_eq_true rfl, Nat.le_of_ble_eq_true rfl⟩ rfl rfl (Nat.le_of_ble_eq_true rfl) ?_
        have hF := codeN_lt hc hlt i
        refine (m_first g m0 lt er el cm_ sv md fmm lc lz af pt_ oc ty_ sz_ em k n s h c tk k0 n0 s0 z p f B T (codeN k n s i) (by assumption) (by omega) (by assumption) (by assumption) (by omega)).callV (rest := []) X dX12_firstRepeat_16 q1313 tX12_first hK (hP.sub [0, 1] rfl) 0 11 rfl rfl rfl hl ⟨⟨Nat.le_of_ble_eq_true rfl, Nat.le_of_ble_eq_true rfl⟩, Nat.le_of_ble_eq_true rfl, Nat.le_of_ble_eq_true rfl⟩ rfl rfl (Nat.le_of_ble_eq_true rfl) ?_
        obtain ⟨t, hti, hx, hct, hmin⟩ := fp_self (k := k) (n := n) (s := s) (i := i) (by omega)
        refine tp_i (y := (nI t)) (by rw [hx]; rfl) ?_
        refine lv_iload_n X.1 X.2.1 dX12_firstRepeat_19 rfl (lv_at hl 0 rfl) ?_
        refine z_icmp_ge (tgt := 25) X dX12_firstRepeat_20 (by decide) (nI_toInt (by omega)) (nI_toInt (by omega)) (fun c20 => ?_) (fun c20 => ?_)
        · refine lv_iinc (v := (nI (i + 1))) (lv' := [(1, .int (nI (i + 1))), (0, .ref m0)]) X.1 X.2.1 dX12_firstRepeat_25 hl (k := 0) rfl (nI_inc _) (by decide) rfl (fun ls hl => ?_)
          refine lv_goto (tgt := 2) X.1 X.2.1 dX12_firstRepeat_28 (by decide) ?_
          exact ih2 (i + 1) (qset q (codeN k n s i)) (by omega) (by omega) (mkd_s hm) (by rw [rpL, if_neg (fun e => by obtain ⟨u, hu, e2⟩ := (hm _).mp e; exact hmin u (by omega) e2)] at hq; exact hq) ls (lv_sub hl [0, 1] rfl)
        · refine lv_iload_n X.1 X.2.1 dX12_firstRepeat_23 rfl (lv_at hl 0 rfl) ?_
          exact PuI.ret X hr hlk dX12_firstRepeat_24 (nI_nar _) (by rw [rpL, if_pos ((hm _).mpr ⟨t, by omega, hct⟩)] at hq; rw [← hq]; rfl)
  exact L2 (s.length - 1) 1 (qset qz (codeN k n s 0)) (by omega) (by omega) (mkd_1 _) (by (rcases Nat.eq_zero_or_pos s.length with h0 | h0) <;> first | exact rp_0 _ h0 | (rw [h0]; rfl)) ls (lv_sub hl [0, 1] rfl)

set_option maxHeartbeats 4000000 in
set_option maxRecDepth 100000 in
theorem m_undo_ok (g : G5) (m0 : Nat) (lt : Nat) (er : Nat) (el : Nat) (cm_ : Nat) (sv : Nat) (md : Nat) (fmm : Nat) (lc : Nat) (lz : Nat) (af : Nat) (pt_ : Nat) (oc : Nat) (ty_ : Nat) (sz_ : Nat) (em : Nat) (k : Nat) (n : Nat) (s : List Nat) (h : List (List Nat)) (c : List Nat) (tk : Bool) (k0 : Nat) (n0 : Nat) (s0 : List Nat) (z : List Nat) (p : List Int) (f : Nat → Int32) (fe : Nat → Int32) (fl : Nat → Int32) (w : List Nat) (h2 : List (List Nat)) (hh : hrm fe fl h) (hw : h = w :: h2) : MuI (S := (Nat → Int32)) yX12_undo cX12_undo 1 (some .int) 1 40 g [.ref m0] [(m0, .inr (11, [.int (nI k), .int (nI n), .ref lt, .int (nI s.length), .ref er, .ref el, .int (nI h.length), .ref cm_, .int (nI c.length), .int (bI tk), .int (nI k0), .int (nI n0), .ref sv, .int (nI s0.length), .ref md, .int (nI z.length), .ref fmm, .ref lc, .ref lz, .ref af, .ref pt_, .int (nI p.length), .ref oc, .ref ty_, .ref sz_, .ref em])), (lt, .inl (g.2.1, 256, .inl f)), (er, .inl (g.2.1, 1536, .inl fe)), (el, .inl (g.2.1, 6, .inl fl))] (fun r f1 => r = (nI w.length) ∧ rep f1 w ∧ hrm fe fl h2) (fun f1 => [(m0, .inr (11, [.int (nI k), .int (nI n), .ref lt, .int (nI w.length), .ref er, .ref el, .int (nI h2.length), .ref cm_, .int (nI c.length), .int (bI tk), .int (nI k0), .int (nI n0), .ref sv, .int (nI s0.length), .ref md, .int (nI z.length), .ref fmm, .ref lc, .ref lz, .ref af, .ref pt_, .int (nI p.length), .ref oc, .ref ty_, .ref sz_, .ref em])), (lt, .inl (g.2.1, 256, .inl f1)), (er, .inl (g.2.1, 1536, .inl fe)), (el, .inl (g.2.1, 6, .inl fl))]) := by
  refine MuI.of (by decide +kernel) (Nat.le_of_ble_eq_true rfl) ?_
  intro p_ l_ e_ S_ m_ args below meth co X hr hlk hP hK A hA hD hS ls hl
  have X : CallFix p_ m_ co cX12_undo 1 S_ args lw_all RX12 := X
  have hl : lv_has ls 1 [(0, .ref m0)] := hl
  have hh7 : hrm fe fl (w :: h2) := hw ▸ hh
  have ht := hrm_top hh7
  have hlen : h.length = h2.length + 1 := by rw [hw]; rfl
  have hh6 := hh.1
  refine lv_aload_n X.1 X.2.1 dX12_undo_0 rfl (lv_at hl 0 rfl) ?_
  refine va_get (D := g.1) (ci := 11) (v := .int (nI h.length)) (C := RX12) (T := TX12) (N := 26) X.1 X.2.1 X.2.2.2.2 iwX12 X.2.2.2.1 hK hP 0 rfl rfl 6 (by decide) (X.2.2.2.2 _ q1026) (fun _ h9 => h9) rfl dX12_undo_1 ?_
  refine z_if_ne (tgt := 10) X dX12_undo_4 (by decide) (nI_toInt (by omega)) (fun c4 => ?_) (fun c4 => ?_)
  · refine lv_aload_n X.1 X.2.1 dX12_undo_10 rfl (lv_at hl 0 rfl) ?_
    refine lv_dup X.1 X.2.1 dX12_undo_11 rfl ?_
    refine va_get (D := g.1) (ci := 11) (v := .int (nI h.length)) (C := RX12) (T := TX12) (N := 26) X.1 X.2.1 X.2.2.2.2 iwX12 X.2.2.2.1 hK hP 0 rfl rfl 6 (by decide) (X.2.2.2.2 _ q1026) (fun _ h9 => h9) rfl dX12_undo_12 ?_
    refine lv_iconst (v := (nI 1)) X.1 X.2.1 dX12_undo_15 (by decide) ?_
    refine n_sub X dX12_undo_16 (by omega) ?_
    refine tp_i (y := (nI h2.length)) (by rw [show h.length - 1 = h2.length by omega]) ?_
    refine va_put (D := g.1) (ci := 11) (v := .int (nI h2.length)) (ty := .int) (C := RX12) (T := TX12) (N := 26) X.1 X.2.1 X.2.2.2.2 iwX12 tyX12 tyX12_ok nmX12 X.2.2.2.1 hK hP hD hS 0 rfl rfl 6 (by decide) (X.2.2.2.2 _ q1026) (fun _ h9 => h9) rfl (by decide +kernel) rfl rfl (Nat.le_of_ble_eq_true rfl) dX12_undo_17 (fun H locs hP hD hS => ?_)
    have hP : PP g [(m0, .inr (11, [.int (nI k), .int (nI n), .ref lt, .int (nI s.length), .ref er, .ref el, .int (nI h2.length), .ref cm_, .int (nI c.length), .int (bI tk), .int (nI k0), .int (nI n0), .ref sv, .int (nI s0.length), .ref md, .int (nI z.length), .ref fmm, .ref lc, .ref lz, .ref af, .ref pt_, .int (nI p.length), .ref oc, .ref ty_, .ref sz_, .ref em])), (lt, .inl (g.2.1, 256, .inl f)), (er, .inl (g.2.1, 1536, .inl fe)), (el, .inl (g.2.1, 6, .inl fl))] H := hP
    have hD : va_D A [(m0, .inr (11, [.int (nI k), .int (nI n), .ref lt, .int (nI s.length), .ref er, .ref el, .int (nI h2.length), .ref cm_, .int (nI c.length), .int (bI tk), .int (nI k0), .int (nI n0), .ref sv, .int (nI s0.length), .ref md, .int (nI z.length), .ref fmm, .ref lc, .ref lz, .ref af, .ref pt_, .int (nI p.length), .ref oc, .ref ty_, .ref sz_, .ref em])), (lt, .inl (g.2.1, 256, .inl f)), (er, .inl (g.2.1, 1536, .inl fe)), (el, .inl (g.2.1, 6, .inl fl))] := hD
    refine lv_aload_n X.1 X.2.1 dX12_undo_20 rfl (lv_at hl 0 rfl) ?_
    refine lv_aload_n X.1 X.2.1 dX12_undo_21 rfl (lv_at hl 0 rfl) ?_
    refine va_get (D := g.1) (ci := 11) (v := .ref el) (C := RX12) (T := TX12) (N := 26) X.1 X.2.1 X.2.2.2.2 iwX12 X.2.2.2.1 hK hP 0 rfl rfl 5 (by decide) (X.2.2.2.2 _ q1025) (fun _ h9 => h9) rfl dX12_undo_22 ?_
    refine lv_aload_n X.1 X.2.1 dX12_undo_25 rfl (lv_at hl 0 rfl) ?_
    refine va_get (D := g.1) (ci := 11) (v := .int (nI h2.length)) (C := RX12) (T := TX12) (N := 26) X.1 X.2.1 X.2.2.2.2 iwX12 X.2.2.2.1 hK hP 0 rfl rfl 6 (by decide) (X.2.2.2.2 _ q1026) (fun _ h9 => h9) rfl dX12_undo_26 ?_
    refine n_iald X hK hP 3 0 rfl rfl (by omega) (by decide) dX12_undo_29 ?_
    refine tp_i (y := (nI w.length)) (ht.2.1) ?_
    refine va_put (D := g.1) (ci := 11) (v := .int (nI w.length)) (ty := .int) (C := RX12) (T := TX12) (N := 26) X.1 X.2.1 X.2.2.2.2 iwX12 tyX12 tyX12_ok nmX12 X.2.2.2.1 hK hP hD hS 0 rfl rfl 3 (by decide) (X.2.2.2.2 _ q1023) (fun _ h9 => h9) rfl (by decide +kernel) rfl rfl (Nat.le_of_ble_eq_true rfl) dX12_undo_30 (fun H locs hP hD hS => ?_)
    have hP : PP g [(m0, .inr (11, [.int (nI k), .int (nI n), .ref lt, .int (nI w.length), .ref er, .ref el, .int (nI h2.length), .ref cm_, .int (nI c.length), .int (bI tk), .int (nI k0), .int (nI n0), .ref sv, .int (nI s0.length), .ref md, .int (nI z.length), .ref fmm, .ref lc, .ref lz, .ref af, .ref pt_, .int (nI p.length), .ref oc, .ref ty_, .ref sz_, .ref em])), (lt, .inl (g.2.1, 256, .inl f)), (er, .inl (g.2.1, 1536, .inl fe)), (el, .inl (g.2.1, 6, .inl fl))] H := hP
    have hD : va_D A [(m0, .inr (11, [.int (nI k), .int (nI n), .ref lt, .int (nI w.length), .ref er, .ref el, .int (nI h2.length), .ref cm_, .int (nI c.length), .int (bI tk), .int (nI k0), .int (nI n0), .ref sv, .int (nI s0.length), .ref md, .int (nI z.length), .ref fmm, .ref lc, .ref lz, .ref af, .ref pt_, .int (nI p.length), .ref oc, .ref ty_, .ref sz_, .ref em])), (lt, .inl (g.2.1, 256, .inl f)), (er, .inl (g.2.1, 1536, .inl fe)), (el, .inl (g.2.1, 6, .inl fl))] := hD
    refine lv_aload_n X.1 X.2.1 dX12_undo_33 rfl (lv_at hl 0 rfl) ?_
    refine va_get (D := g.1) (ci := 11) (v := .ref er) (C := RX12) (T := TX12) (N := 26) X.1 X.2.1 X.2.2.2.2 iwX12 X.2.2.2.1 hK hP 0 rfl rfl 4 (by decide) (X.2.2.2.2 _ q1024) (fun _ h9 => h9) rfl dX12_undo_34 ?_
    refine lv_sipush (v := (nI 256)) X.1 X.2.1 dX12_undo_37 (by decide) ?_
    refine lv_aload_n X.1 X.2.1 dX12_undo_40 rfl (lv_at hl 0 rfl) ?_
    refine va_get (D := g.1) (ci := 11) (v := .int (nI h2.length)) (C := RX12) (T := TX12) (N := 26) X.1 X.2.1 X.2.2.2.2 iwX12 X.2.2.2.1 hK hP 0 rfl rfl 6 (by decide) (X.2.2.2.2 _ q1026) (fun _ h9 => h9) rfl dX12_undo_41 ?_
    refine n_mul X dX12_undo_44 ?_
    refine lv_aload_n X.1 X.2.1 dX12_undo_45 rfl (lv_at hl 0 rfl) ?_
    refine va_get (D := g.1) (ci := 11) (v := .ref lt) (C := RX12) (T := TX12) (N := 26) X.1 X.2.1 X.2.2.2.2 iwX12 X.2.2.2.1 hK hP 0 rfl rfl 2 (by decide) (X.2.2.2.2 _ q1022) (fun _ h9 => h9) rfl dX12_undo_46 ?_
    refine lv_iconst (v := (nI 0)) X.1 X.2.1 dX12_undo_49 (by decide) ?_
    refine lv_aload_n X.1 X.2.1 dX12_undo_50 rfl (lv_at hl 0 rfl) ?_
    refine va_get (D := g.1) (ci := 11) (v := .int (nI w.length)) (C := RX12) (T := TX12) (N := 26) X.1 X.2.1 X.2.2.2.2 iwX12 X.2.2.2.1 hK hP 0 rfl rfl 3 (by decide) (X.2.2.2.2 _ q1023) (fun _ h9 => h9) rfl dX12_undo_51 ?_
    refine n_copy (rest := []) X q1198 q478 q477 q66 hl.1 hK hP hD hS 2 1 rfl rfl (by omega) (by omega) (by omega) (by omega) (Nat.le_of_ble_eq_true rfl) (by decide) dX12_undo_54 (fun H locs hP hD hS => ?_)
    have hP : PP g [(m0, .inr (11, [.int (nI k), .int (nI n), .ref lt, .int (nI w.length), .ref er, .ref el, .int (nI h2.length), .ref cm_, .int (nI c.length), .int (bI tk), .int (nI k0), .int (nI n0), .ref sv, .int (nI s0.length), .ref md, .int (nI z.length), .ref fmm, .ref lc, .ref lz, .ref af, .ref pt_, .int (nI p.length), .ref oc, .ref ty_, .ref sz_, .ref em])), (lt, .inl (g.2.1, 256, .inl (va_cpy fe f (256 * h2.length) 0 w.length))), (er, .inl (g.2.1, 1536, .inl fe)), (el, .inl (g.2.1, 6, .inl fl))] H := hP
    have hD : va_D A [(m0, .inr (11, [.int (nI k), .int (nI n), .ref lt, .int (nI w.length), .ref er, .ref el, .int (nI h2.length), .ref cm_, .int (nI c.length), .int (bI tk), .int (nI k0), .int (nI n0), .ref sv, .int (nI s0.length), .ref md, .int (nI z.length), .ref fmm, .ref lc, .ref lz, .ref af, .ref pt_, .int (nI p.length), .ref oc, .ref ty_, .ref sz_, .ref em])), (lt, .inl (g.2.1, 256, .inl (va_cpy fe f (256 * h2.length) 0 w.length))), (er, .inl (g.2.1, 1536, .inl fe)), (el, .inl (g.2.1, 6, .inl fl))] := hD
    refine lv_aload_n X.1 X.2.1 dX12_undo_57 rfl (lv_at hl 0 rfl) ?_
    refine va_get (D := g.1) (ci := 11) (v := .int (nI w.length)) (C := RX12) (T := TX12) (N := 26) X.1 X.2.1 X.2.2.2.2 iwX12 X.2.2.2.1 hK hP 0 rfl rfl 3 (by decide) (X.2.2.2.2 _ q1023) (fun _ h9 => h9) rfl dX12_undo_58 ?_
    exact MuI.ret X hr hlk hK hS dX12_undo_61 (nI_nar _) (va_cpy fe f (256 * h2.length) 0 w.length) (hP.sub [0, 1, 2, 3] rfl) (hD.sub [0, 1, 2, 3] (by decide) rfl) (⟨rfl, (fun j hj => by rw [pk_cpy_in (by omega) (by omega)]; simpa using ht.2.2 j hj), hrm_pop hh7⟩)
  · exfalso; omega

set_option maxHeartbeats 4000000 in
set_option maxRecDepth 100000 in
theorem m_undo_no (g : G5) (m0 : Nat) (lt : Nat) (er : Nat) (el : Nat) (cm_ : Nat) (sv : Nat) (md : Nat) (fmm : Nat) (lc : Nat) (lz : Nat) (af : Nat) (pt_ : Nat) (oc : Nat) (ty_ : Nat) (sz_ : Nat) (em : Nat) (k : Nat) (n : Nat) (s : List Nat) (h : List (List Nat)) (c : List Nat) (tk : Bool) (k0 : Nat) (n0 : Nat) (s0 : List Nat) (z : List Nat) (p : List Int) (h0 : h.length < 1) : PuI yX12_undo cX12_undo 1 (some .int) 1 40 g [.ref m0] [(m0, .inr (11, [.int (nI k), .int (nI n), .ref lt, .int (nI s.length), .ref er, .ref el, .int (nI h.length), .ref cm_, .int (nI c.length), .int (bI tk), .int (nI k0), .int (nI n0), .ref sv, .int (nI s0.length), .ref md, .int (nI z.length), .ref fmm, .ref lc, .ref lz, .ref af, .ref pt_, .int (nI p.length), .ref oc, .ref ty_, .ref sz_, .ref em]))] (-7) := by
  refine PuI.of (by decide +kernel) (Nat.le_of_ble_eq_true rfl) ?_
  intro p_ l_ e_ S_ m_ args below meth co X hr hlk hP hK ls hl
  have X : CallFix p_ m_ co cX12_undo 1 S_ args lw_all RX12 := X
  have hl : lv_has ls 1 [(0, .ref m0)] := hl
  refine lv_aload_n X.1 X.2.1 dX12_undo_0 rfl (lv_at hl 0 rfl) ?_
  refine va_get (D := g.1) (ci := 11) (v := .int (nI h.length)) (C := RX12) (T := TX12) (N := 26) X.1 X.2.1 X.2.2.2.2 iwX12 X.2.2.2.1 hK hP 0 rfl rfl 6 (by decide) (X.2.2.2.2 _ q1026) (fun _ h9 => h9) rfl dX12_undo_1 ?_
  refine z_if_ne (tgt := 10) X dX12_undo_4 (by decide) (nI_toInt (by omega)) (fun c4 => ?_) (fun c4 => ?_)
  · exfalso; omega
  · refine lv_bipush (v := (-7)) X.1 X.2.1 dX12_undo_7 (by decide) ?_
    exact PuI.ret X hr hlk dX12_undo_9 (nI_nar _) (rfl)

set_option maxHeartbeats 4000000 in
set_option maxRecDepth 100000 in
theorem m_save (g : G5) (m0 : Nat) (lt : Nat) (er : Nat) (el : Nat) (cm_ : Nat) (sv : Nat) (md : Nat) (fmm : Nat) (lc : Nat) (lz : Nat) (af : Nat) (pt_ : Nat) (oc : Nat) (ty_ : Nat) (sz_ : Nat) (em : Nat) (k : Nat) (n : Nat) (s : List Nat) (h : List (List Nat)) (c : List Nat) (tk : Bool) (k0 : Nat) (n0 : Nat) (s0 : List Nat) (z : List Nat) (p : List Int) (f : Nat → Int32) (fs_ : Nat → Int32) (hs : s.length ≤ 256) (hf : rep f s) : MuI (S := (Nat → Int32)) yX12_save cX12_save 1 (some .int) 1 40 g [.ref m0] [(m0, .inr (11, [.int (nI k), .int (nI n), .ref lt, .int (nI s.length), .ref er, .ref el, .int (nI h.length), .ref cm_, .int (nI c.length), .int (bI tk), .int (nI k0), .int (nI n0), .ref sv, .int (nI s0.length), .ref md, .int (nI z.length), .ref fmm, .ref lc, .ref lz, .ref af, .ref pt_, .int (nI p.length), .ref oc, .ref ty_, .ref sz_, .ref em])), (lt, .inl (g.2.1, 256, .inl f)), (sv, .inl (g.2.1, 256, .inl fs_))] (fun r fs1 => r = (nI s.length) ∧ rep fs1 s) (fun fs1 => [(m0, .inr (11, [.int (nI k), .int (nI n), .ref lt, .int (nI s.length), .ref er, .ref el, .int (nI h.length), .ref cm_, .int (nI c.length), .int (bI true), .int (nI k), .int (nI n), .ref sv, .int (nI s.length), .ref md, .int (nI z.length), .ref fmm, .ref lc, .ref lz, .ref af, .ref pt_, .int (nI p.length), .ref oc, .ref ty_, .ref sz_, .ref em])), (lt, .inl (g.2.1, 256, .inl f)), (sv, .inl (g.2.1, 256, .inl fs1))]) := by
  refine MuI.of (by decide +kernel) (Nat.le_of_ble_eq_true rfl) ?_
  intro p_ l_ e_ S_ m_ args below meth co X hr hlk hP hK A hA hD hS ls hl
  have X : CallFix p_ m_ co cX12_save 1 S_ args lw_all RX12 := X
  have hl : lv_has ls 1 [(0, .ref m0)] := hl
  refine lv_aload_n X.1 X.2.1 dX12_save_0 rfl (lv_at hl 0 rfl) ?_
  refine va_get (D := g.1) (ci := 11) (v := .ref lt) (C := RX12) (T := TX12) (N := 26) X.1 X.2.1 X.2.2.2.2 iwX12 X.2.2.2.1 hK hP 0 rfl rfl 2 (by decide) (X.2.2.2.2 _ q1022) (fun _ h9 => h9) rfl dX12_save_1 ?_
  refine lv_iconst (v := (nI 0)) X.1 X.2.1 dX12_save_4 (by decide) ?_
  refine lv_aload_n X.1 X.2.1 dX12_save_5 rfl (lv_at hl 0 rfl) ?_
  refine va_get (D := g.1) (ci := 11) (v := .ref sv) (C := RX12) (T := TX12) (N := 26) X.1 X.2.1 X.2.2.2.2 iwX12 X.2.2.2.1 hK hP 0 rfl rfl 12 (by decide) (X.2.2.2.2 _ q1032) (fun _ h9 => h9) rfl dX12_save_6 ?_
  refine lv_iconst (v := (nI 0)) X.1 X.2.1 dX12_save_9 (by decide) ?_
  refine lv_aload_n X.1 X.2.1 dX12_save_10 rfl (lv_at hl 0 rfl) ?_
  refine va_get (D := g.1) (ci := 11) (v := .int (nI s.length)) (C := RX12) (T := TX12) (N := 26) X.1 X.2.1 X.2.2.2.2 iwX12 X.2.2.2.1 hK hP 0 rfl rfl 3 (by decide) (X.2.2.2.2 _ q1023) (fun _ h9 => h9) rfl dX12_save_11 ?_
  refine n_copy (rest := []) X q1198 q478 q477 q66 hl.1 hK hP hD hS 1 2 rfl rfl (by omega) (by omega) (by omega) (by omega) (Nat.le_of_ble_eq_true rfl) (by decide) dX12_save_14 (fun H locs hP hD hS => ?_)
  have hP : PP g [(m0, .inr (11, [.int (nI k), .int (nI n), .ref lt, .int (nI s.length), .ref er, .ref el, .int (nI h.length), .ref cm_, .int (nI c.length), .int (bI tk), .int (nI k0), .int (nI n0), .ref sv, .int (nI s0.length), .ref md, .int (nI z.length), .ref fmm, .ref lc, .ref lz, .ref af, .ref pt_, .int (nI p.length), .ref oc, .ref ty_, .ref sz_, .ref em])), (lt, .inl (g.2.1, 256, .inl f)), (sv, .inl (g.2.1, 256, .inl (va_cpy f fs_ 0 0 s.length)))] H := hP
  have hD : va_D A [(m0, .inr (11, [.int (nI k), .int (nI n), .ref lt, .int (nI s.length), .ref er, .ref el, .int (nI h.length), .ref cm_, .int (nI c.length), .int (bI tk), .int (nI k0), .int (nI n0), .ref sv, .int (nI s0.length), .ref md, .int (nI z.length), .ref fmm, .ref lc, .ref lz, .ref af, .ref pt_, .int (nI p.length), .ref oc, .ref ty_, .ref sz_, .ref em])), (lt, .inl (g.2.1, 256, .inl f)), (sv, .inl (g.2.1, 256, .inl (va_cpy f fs_ 0 0 s.length)))] := hD
  refine lv_aload_n X.1 X.2.1 dX12_save_17 rfl (lv_at hl 0 rfl) ?_
  refine lv_aload_n X.1 X.2.1 dX12_save_18 rfl (lv_at hl 0 rfl) ?_
  refine va_get (D := g.1) (ci := 11) (v := .int (nI s.length)) (C := RX12) (T := TX12) (N := 26) X.1 X.2.1 X.2.2.2.2 iwX12 X.2.2.2.1 hK hP 0 rfl rfl 3 (by decide) (X.2.2.2.2 _ q1023) (fun _ h9 => h9) rfl dX12_save_19 ?_
  refine va_put (D := g.1) (ci := 11) (v := .int (nI s.length)) (ty := .int) (C := RX12) (T := TX12) (N := 26) X.1 X.2.1 X.2.2.2.2 iwX12 tyX12 tyX12_ok nmX12 X.2.2.2.1 hK hP hD hS 0 rfl rfl 13 (by decide) (X.2.2.2.2 _ q1033) (fun _ h9 => h9) rfl (by decide +kernel) rfl rfl (Nat.le_of_ble_eq_true rfl) dX12_save_22 (fun H locs hP hD hS => ?_)
  have hP : PP g [(m0, .inr (11, [.int (nI k), .int (nI n), .ref lt, .int (nI s.length), .ref er, .ref el, .int (nI h.length), .ref cm_, .int (nI c.length), .int (bI tk), .int (nI k0), .int (nI n0), .ref sv, .int (nI s.length), .ref md, .int (nI z.length), .ref fmm, .ref lc, .ref lz, .ref af, .ref pt_, .int (nI p.length), .ref oc, .ref ty_, .ref sz_, .ref em])), (lt, .inl (g.2.1, 256, .inl f)), (sv, .inl (g.2.1, 256, .inl (va_cpy f fs_ 0 0 s.length)))] H := hP
  have hD : va_D A [(m0, .inr (11, [.int (nI k), .int (nI n), .ref lt, .int (nI s.length), .ref er, .ref el, .int (nI h.length), .ref cm_, .int (nI c.length), .int (bI tk), .int (nI k0), .int (nI n0), .ref sv, .int (nI s.length), .ref md, .int (nI z.length), .ref fmm, .ref lc, .ref lz, .ref af, .ref pt_, .int (nI p.length), .ref oc, .ref ty_, .ref sz_, .ref em])), (lt, .inl (g.2.1, 256, .inl f)), (sv, .inl (g.2.1, 256, .inl (va_cpy f fs_ 0 0 s.length)))] := hD
  refine lv_aload_n X.1 X.2.1 dX12_save_25 rfl (lv_at hl 0 rfl) ?_
  refine lv_aload_n X.1 X.2.1 dX12_save_26 rfl (lv_at hl 0 rfl) ?_
  refine va_get (D := g.1) (ci := 11) (v := .int (nI k)) (C := RX12) (T := TX12) (N := 26) X.1 X.2.1 X.2.2.2.2 iwX12 X.2.2.2.1 hK hP 0 rfl rfl 0 (by decide) (X.2.2.2.2 _ q1020) (fun _ h9 => h9) rfl dX12_save_27 ?_
  refine va_put (D := g.1) (ci := 11) (v := .int (nI k)) (ty := .int) (C := RX12) (T := TX12) (N := 26) X.1 X.2.1 X.2.2.2.2 iwX12 tyX12 tyX12_ok nmX12 X.2.2.2.1 hK hP hD hS 0 rfl rfl 10 (by decide) (X.2.2.2.2 _ q1030) (fun _ h9 => h9) rfl (by decide +kernel) rfl rfl (Nat.le_of_ble_eq_true rfl) dX12_save_30 (fun H locs hP hD hS => ?_)
  have hP : PP g [(m0, .inr (11, [.int (nI k), .int (nI n), .ref lt, .int (nI s.length), .ref er, .ref el, .int (nI h.length), .ref cm_, .int (nI c.length), .int (bI tk), .int (nI k), .int (nI n0), .ref sv, .int (nI s.length), .ref md, .int (nI z.length), .ref fmm, .ref lc, .ref lz, .ref af, .ref pt_, .int (nI p.length), .ref oc, .ref ty_, .ref sz_, .ref em])), (lt, .inl (g.2.1, 256, .inl f)), (sv, .inl (g.2.1, 256, .inl (va_cpy f fs_ 0 0 s.length)))] H := hP
  have hD : va_D A [(m0, .inr (11, [.int (nI k), .int (nI n), .ref lt, .int (nI s.length), .ref er, .ref el, .int (nI h.length), .ref cm_, .int (nI c.length), .int (bI tk), .int (nI k), .int (nI n0), .ref sv, .int (nI s.length), .ref md, .int (nI z.length), .ref fmm, .ref lc, .ref lz, .ref af, .ref pt_, .int (nI p.length), .ref oc, .ref ty_, .ref sz_, .ref em])), (lt, .inl (g.2.1, 256, .inl f)), (sv, .inl (g.2.1, 256, .inl (va_cpy f fs_ 0 0 s.length)))] := hD
  refine lv_aload_n X.1 X.2.1 dX12_save_33 rfl (lv_at hl 0 rfl) ?_
  refine lv_aload_n X.1 X.2.1 dX12_save_34 rfl (lv_at hl 0 rfl) ?_
  refine va_get (D := g.1) (ci := 11) (v := .int (nI n)) (C := RX12) (T := TX12) (N := 26) X.1 X.2.1 X.2.2.2.2 iwX12 X.2.2.2.1 hK hP 0 rfl rfl 1 (by decide) (X.2.2.2.2 _ q1021) (fun _ h9 => h9) rfl dX12_save_35 ?_
  refine va_put (D := g.1) (ci := 11) (v := .int (nI n)) (ty := .int) (C := RX12) (T := TX12) (N := 26) X.1 X.2.1 X.2.2.2.2 iwX12 tyX12 tyX12_ok nmX12 X.2.2.2.1 hK hP hD hS 0 rfl rfl 11 (by decide) (X.2.2.2.2 _ q1031) (fun _ h9 => h9) rfl (by decide +kernel) rfl rfl (Nat.le_of_ble_eq_true rfl) dX12_save_38 (fun H locs hP hD hS => ?_)
  have hP : PP g [(m0, .inr (11, [.int (nI k), .int (nI n), .ref lt, .int (nI s.length), .ref er, .ref el, .int (nI h.length), .ref cm_, .int (nI c.length), .int (bI tk), .int (nI k), .int (nI n), .ref sv, .int (nI s.length), .ref md, .int (nI z.length), .ref fmm, .ref lc, .ref lz, .ref af, .ref pt_, .int (nI p.length), .ref oc, .ref ty_, .ref sz_, .ref em])), (lt, .inl (g.2.1, 256, .inl f)), (sv, .inl (g.2.1, 256, .inl (va_cpy f fs_ 0 0 s.length)))] H := hP
  have hD : va_D A [(m0, .inr (11, [.int (nI k), .int (nI n), .ref lt, .int (nI s.length), .ref er, .ref el, .int (nI h.length), .ref cm_, .int (nI c.length), .int (bI tk), .int (nI k), .int (nI n), .ref sv, .int (nI s.length), .ref md, .int (nI z.length), .ref fmm, .ref lc, .ref lz, .ref af, .ref pt_, .int (nI p.length), .ref oc, .ref ty_, .ref sz_, .ref em])), (lt, .inl (g.2.1, 256, .inl f)), (sv, .inl (g.2.1, 256, .inl (va_cpy f fs_ 0 0 s.length)))] := hD
  refine lv_aload_n X.1 X.2.1 dX12_save_41 rfl (lv_at hl 0 rfl) ?_
  refine lv_iconst (v := (nI 1)) X.1 X.2.1 dX12_save_42 (by decide) ?_
  refine tp_i (y := (bI true)) (rfl) ?_
  refine va_put (D := g.1) (ci := 11) (v := .int (bI true)) (ty := .boolean) (C := RX12) (T := TX12) (N := 26) X.1 X.2.1 X.2.2.2.2 iwX12 tyX12 tyX12_ok nmX12 X.2.2.2.1 hK hP hD hS 0 rfl rfl 9 (by decide) (X.2.2.2.2 _ q1029) (fun _ h9 => h9) rfl (by decide +kernel) rfl rfl (Nat.le_of_ble_eq_true rfl) dX12_save_43 (fun H locs hP hD hS => ?_)
  have hP : PP g [(m0, .inr (11, [.int (nI k), .int (nI n), .ref lt, .int (nI s.length), .ref er, .ref el, .int (nI h.length), .ref cm_, .int (nI c.length), .int (bI true), .int (nI k), .int (nI n), .ref sv, .int (nI s.length), .ref md, .int (nI z.length), .ref fmm, .ref lc, .ref lz, .ref af, .ref pt_, .int (nI p.length), .ref oc, .ref ty_, .ref sz_, .ref em])), (lt, .inl (g.2.1, 256, .inl f)), (sv, .inl (g.2.1, 256, .inl (va_cpy f fs_ 0 0 s.length)))] H := hP
  have hD : va_D A [(m0, .inr (11, [.int (nI k), .int (nI n), .ref lt, .int (nI s.length), .ref er, .ref el, .int (nI h.length), .ref cm_, .int (nI c.length), .int (bI true), .int (nI k), .int (nI n), .ref sv, .int (nI s.length), .ref md, .int (nI z.length), .ref fmm, .ref lc, .ref lz, .ref af, .ref pt_, .int (nI p.length), .ref oc, .ref ty_, .ref sz_, .ref em])), (lt, .inl (g.2.1, 256, .inl f)), (sv, .inl (g.2.1, 256, .inl (va_cpy f fs_ 0 0 s.length)))] := hD
  refine lv_aload_n X.1 X.2.1 dX12_save_46 rfl (lv_at hl 0 rfl) ?_
  refine va_get (D := g.1) (ci := 11) (v := .int (nI s.length)) (C := RX12) (T := TX12) (N := 26) X.1 X.2.1 X.2.2.2.2 iwX12 X.2.2.2.1 hK hP 0 rfl rfl 3 (by decide) (X.2.2.2.2 _ q1023) (fun _ h9 => h9) rfl dX12_save_47 ?_
  exact MuI.ret X hr hlk hK hS dX12_save_50 (nI_nar _) (va_cpy f fs_ 0 0 s.length) (hP.sub [0, 1, 2] rfl) (hD.sub [0, 1, 2] (by decide) rfl) (⟨rfl, cpy_rep hf⟩)

set_option maxHeartbeats 4000000 in
set_option maxRecDepth 100000 in
theorem m_restore_ok (g : G5) (m0 : Nat) (lt : Nat) (er : Nat) (el : Nat) (cm_ : Nat) (sv : Nat) (md : Nat) (fmm : Nat) (lc : Nat) (lz : Nat) (af : Nat) (pt_ : Nat) (oc : Nat) (ty_ : Nat) (sz_ : Nat) (em : Nat) (k : Nat) (n : Nat) (s : List Nat) (h : List (List Nat)) (c : List Nat) (tk : Bool) (k0 : Nat) (n0 : Nat) (s0 : List Nat) (z : List Nat) (p : List Int) (f : Nat → Int32) (fs_ : Nat → Int32) (htk : tk = true) (hs0 : s0.length ≤ 256) (hf0 : rep fs_ s0) : MuI (S := (Nat → Int32)) yX12_restore cX12_restore 1 (some .int) 1 40 g [.ref m0] [(m0, .inr (11, [.int (nI k), .int (nI n), .ref lt, .int (nI s.length), .ref er, .ref el, .int (nI h.length), .ref cm_, .int (nI c.length), .int (bI tk), .int (nI k0), .int (nI n0), .ref sv, .int (nI s0.length), .ref md, .int (nI z.length), .ref fmm, .ref lc, .ref lz, .ref af, .ref pt_, .int (nI p.length), .ref oc, .ref ty_, .ref sz_, .ref em])), (lt, .inl (g.2.1, 256, .inl f)), (sv, .inl (g.2.1, 256, .inl fs_))] (fun r f1 => r = (nI s0.length) ∧ rep f1 s0) (fun f1 => [(m0, .inr (11, [.int (nI k0), .int (nI n0), .ref lt, .int (nI s0.length), .ref er, .ref el, .int (nI (([] : List (List Nat)).length)), .ref cm_, .int (nI c.length), .int (bI tk), .int (nI k0), .int (nI n0), .ref sv, .int (nI s0.length), .ref md, .int (nI z.length), .ref fmm, .ref lc, .ref lz, .ref af, .ref pt_, .int (nI (([] : List Int).length)), .ref oc, .ref ty_, .ref sz_, .ref em])), (lt, .inl (g.2.1, 256, .inl f1)), (sv, .inl (g.2.1, 256, .inl fs_))]) := by
  refine MuI.of (by decide +kernel) (Nat.le_of_ble_eq_true rfl) ?_
  intro p_ l_ e_ S_ m_ args below meth co X hr hlk hP hK A hA hD hS ls hl
  have X : CallFix p_ m_ co cX12_restore 1 S_ args lw_all RX12 := X
  have hl : lv_has ls 1 [(0, .ref m0)] := hl
  refine lv_aload_n X.1 X.2.1 dX12_restore_0 rfl (lv_at hl 0 rfl) ?_
  refine va_get (D := g.1) (ci := 11) (v := .int (bI tk)) (C := RX12) (T := TX12) (N := 26) X.1 X.2.1 X.2.2.2.2 iwX12 X.2.2.2.1 hK hP 0 rfl rfl 9 (by decide) (X.2.2.2.2 _ q1029) (fun _ h9 => h9) rfl dX12_restore_1 ?_
  refine b_if_ne (tgt := 10) X dX12_restore_4 (by decide) (fun c4 => ?_) (fun c4 => ?_)
  · refine lv_aload_n X.1 X.2.1 dX12_restore_10 rfl (lv_at hl 0 rfl) ?_
    refine va_get (D := g.1) (ci := 11) (v := .ref sv) (C := RX12) (T := TX12) (N := 26) X.1 X.2.1 X.2.2.2.2 iwX12 X.2.2.2.1 hK hP 0 rfl rfl 12 (by decide) (X.2.2.2.2 _ q1032) (fun _ h9 => h9) rfl dX12_restore_11 ?_
    refine lv_iconst (v := (nI 0)) X.1 X.2.1 dX12_restore_14 (by decide) ?_
    refine lv_aload_n X.1 X.2.1 dX12_restore_15 rfl (lv_at hl 0 rfl) ?_
    refine va_get (D := g.1) (ci := 11) (v := .ref lt) (C := RX12) (T := TX12) (N := 26) X.1 X.2.1 X.2.2.2.2 iwX12 X.2.2.2.1 hK hP 0 rfl rfl 2 (by decide) (X.2.2.2.2 _ q1022) (fun _ h9 => h9) rfl dX12_restore_16 ?_
    refine lv_iconst (v := (nI 0)) X.1 X.2.1 dX12_restore_19 (by decide) ?_
    refine lv_aload_n X.1 X.2.1 dX12_restore_20 rfl (lv_at hl 0 rfl) ?_
    refine va_get (D := g.1) (ci := 11) (v := .int (nI s0.length)) (C := RX12) (T := TX12) (N := 26) X.1 X.2.1 X.2.2.2.2 iwX12 X.2.2.2.1 hK hP 0 rfl rfl 13 (by decide) (X.2.2.2.2 _ q1033) (fun _ h9 => h9) rfl dX12_restore_21 ?_
    refine n_copy (rest := []) X q1198 q478 q477 q66 hl.1 hK hP hD hS 2 1 rfl rfl (by omega) (by omega) (by omega) (by omega) (Nat.le_of_ble_eq_true rfl) (by decide) dX12_restore_24 (fun H locs hP hD hS => ?_)
    have hP : PP g [(m0, .inr (11, [.int (nI k), .int (nI n), .ref lt, .int (nI s.length), .ref er, .ref el, .int (nI h.length), .ref cm_, .int (nI c.length), .int (bI tk), .int (nI k0), .int (nI n0), .ref sv, .int (nI s0.length), .ref md, .int (nI z.length), .ref fmm, .ref lc, .ref lz, .ref af, .ref pt_, .int (nI p.length), .ref oc, .ref ty_, .ref sz_, .ref em])), (lt, .inl (g.2.1, 256, .inl (va_cpy fs_ f 0 0 s0.length))), (sv, .inl (g.2.1, 256, .inl fs_))] H := hP
    have hD : va_D A [(m0, .inr (11, [.int (nI k), .int (nI n), .ref lt, .int (nI s.length), .ref er, .ref el, .int (nI h.length), .ref cm_, .int (nI c.length), .int (bI tk), .int (nI k0), .int (nI n0), .ref sv, .int (nI s0.length), .ref md, .int (nI z.length), .ref fmm, .ref lc, .ref lz, .ref af, .ref pt_, .int (nI p.length), .ref oc, .ref ty_, .ref sz_, .ref em])), (lt, .inl (g.2.1, 256, .inl (va_cpy fs_ f 0 0 s0.length))), (sv, .inl (g.2.1, 256, .inl fs_))] := hD
    refine lv_aload_n X.1 X.2.1 dX12_restore_27 rfl (lv_at hl 0 rfl) ?_
    refine lv_aload_n X.1 X.2.1 dX12_restore_28 rfl (lv_at hl 0 rfl) ?_
    refine va_get (D := g.1) (ci := 11) (v := .int (nI s0.length)) (C := RX12) (T := TX12) (N := 26) X.1 X.2.1 X.2.2.2.2 iwX12 X.2.2.2.1 hK hP 0 rfl rfl 13 (by decide) (X.2.2.2.2 _ q1033) (fun _ h9 => h9) rfl dX12_restore_29 ?_
    refine va_put (D := g.1) (ci := 11) (v := .int (nI s0.length)) (ty := .int) (C := RX12) (T := TX12) (N := 26) X.1 X.2.1 X.2.2.2.2 iwX12 tyX12 tyX12_ok nmX12 X.2.2.2.1 hK hP hD hS 0 rfl rfl 3 (by decide) (X.2.2.2.2 _ q1023) (fun _ h9 => h9) rfl (by decide +kernel) rfl rfl (Nat.le_of_ble_eq_true rfl) dX12_restore_32 (fun H locs hP hD hS => ?_)
    have hP : PP g [(m0, .inr (11, [.int (nI k), .int (nI n), .ref lt, .int (nI s0.length), .ref er, .ref el, .int (nI h.length), .ref cm_, .int (nI c.length), .int (bI tk), .int (nI k0), .int (nI n0), .ref sv, .int (nI s0.length), .ref md, .int (nI z.length), .ref fmm, .ref lc, .ref lz, .ref af, .ref pt_, .int (nI p.length), .ref oc, .ref ty_, .ref sz_, .ref em])), (lt, .inl (g.2.1, 256, .inl (va_cpy fs_ f 0 0 s0.length))), (sv, .inl (g.2.1, 256, .inl fs_))] H := hP
    have hD : va_D A [(m0, .inr (11, [.int (nI k), .int (nI n), .ref lt, .int (nI s0.length), .ref er, .ref el, .int (nI h.length), .ref cm_, .int (nI c.length), .int (bI tk), .int (nI k0), .int (nI n0), .ref sv, .int (nI s0.length), .ref md, .int (nI z.length), .ref fmm, .ref lc, .ref lz, .ref af, .ref pt_, .int (nI p.length), .ref oc, .ref ty_, .ref sz_, .ref em])), (lt, .inl (g.2.1, 256, .inl (va_cpy fs_ f 0 0 s0.length))), (sv, .inl (g.2.1, 256, .inl fs_))] := hD
    refine lv_aload_n X.1 X.2.1 dX12_restore_35 rfl (lv_at hl 0 rfl) ?_
    refine lv_aload_n X.1 X.2.1 dX12_restore_36 rfl (lv_at hl 0 rfl) ?_
    refine va_get (D := g.1) (ci := 11) (v := .int (nI k0)) (C := RX12) (T := TX12) (N := 26) X.1 X.2.1 X.2.2.2.2 iwX12 X.2.2.2.1 hK hP 0 rfl rfl 10 (by decide) (X.2.2.2.2 _ q1030) (fun _ h9 => h9) rfl dX12_restore_37 ?_
    refine va_put (D := g.1) (ci := 11) (v := .int (nI k0)) (ty := .int) (C := RX12) (T := TX12) (N := 26) X.1 X.2.1 X.2.2.2.2 iwX12 tyX12 tyX12_ok nmX12 X.2.2.2.1 hK hP hD hS 0 rfl rfl 0 (by decide) (X.2.2.2.2 _ q1020) (fun _ h9 => h9) rfl (by decide +kernel) rfl rfl (Nat.le_of_ble_eq_true rfl) dX12_restore_40 (fun H locs hP hD hS => ?_)
    have hP : PP g [(m0, .inr (11, [.int (nI k0), .int (nI n), .ref lt, .int (nI s0.length), .ref er, .ref el, .int (nI h.length), .ref cm_, .int (nI c.length), .int (bI tk), .int (nI k0), .int (nI n0), .ref sv, .int (nI s0.length), .ref md, .int (nI z.length), .ref fmm, .ref lc, .ref lz, .ref af, .ref pt_, .int (nI p.length), .ref oc, .ref ty_, .ref sz_, .ref em])), (lt, .inl (g.2.1, 256, .inl (va_cpy fs_ f 0 0 s0.length))), (sv, .inl (g.2.1, 256, .inl fs_))] H := hP
    have hD : va_D A [(m0, .inr (11, [.int (nI k0), .int (nI n), .ref lt, .int (nI s0.length), .ref er, .ref el, .int (nI h.length), .ref cm_, .int (nI c.length), .int (bI tk), .int (nI k0), .int (nI n0), .ref sv, .int (nI s0.length), .ref md, .int (nI z.length), .ref fmm, .ref lc, .ref lz, .ref af, .ref pt_, .int (nI p.length), .ref oc, .ref ty_, .ref sz_, .ref em])), (lt, .inl (g.2.1, 256, .inl (va_cpy fs_ f 0 0 s0.length))), (sv, .inl (g.2.1, 256, .inl fs_))] := hD
    refine lv_aload_n X.1 X.2.1 dX12_restore_43 rfl (lv_at hl 0 rfl) ?_
    refine lv_aload_n X.1 X.2.1 dX12_restore_44 rfl (lv_at hl 0 rfl) ?_
    refine va_get (D := g.1) (ci := 11) (v := .int (nI n0)) (C := RX12) (T := TX12) (N := 26) X.1 X.2.1 X.2.2.2.2 iwX12 X.2.2.2.1 hK hP 0 rfl rfl 11 (by decide) (X.2.2.2.2 _ q1031) (fun _ h9 => h9) rfl dX12_restore_45 ?_
    refine va_put (D := g.1) (ci := 11) (v := .int (nI n0)) (ty := .int) (C := RX12) (T := TX12) (N := 26) X.1 X.2.1 X.2.2.2.2 iwX12 tyX12 tyX12_ok nmX12 X.2.2.2.1 hK hP hD hS 0 rfl rfl 1 (by decide) (X.2.2.2.2 _ q1021) (fun _ h9 => h9) rfl (by decide +kernel) rfl rfl (Nat.le_of_ble_eq_true rfl) dX12_restore_48 (fun H locs hP hD hS => ?_)
    have hP : PP g [(m0, .inr (11, [.int (nI k0), .int (nI n0), .ref lt, .int (nI s0.length), .ref er, .ref el, .int (nI h.length), .ref cm_, .int (nI c.length), .int (bI tk), .int (nI k0), .int (nI n0), .ref sv, .int (nI s0.length), .ref md, .int (nI z.length), .ref fmm, .ref lc, .ref lz, .ref af, .ref pt_, .int (nI p.length), .ref oc, .ref ty_, .ref sz_, .ref em])), (lt, .inl (g.2.1, 256, .inl (va_cpy fs_ f 0 0 s0.length))), (sv, .inl (g.2.1, 256, .inl fs_))] H := hP
    have hD : va_D A [(m0, .inr (11, [.int (nI k0), .int (nI n0), .ref lt, .int (nI s0.length), .ref er, .ref el, .int (nI h.length), .ref cm_, .int (nI c.length), .int (bI tk), .int (nI k0), .int (nI n0), .ref sv, .int (nI s0.length), .ref md, .int (nI z.length), .ref fmm, .ref lc, .ref lz, .ref af, .ref pt_, .int (nI p.length), .ref oc, .ref ty_, .ref sz_, .ref em])), (lt, .inl (g.2.1, 256, .inl (va_cpy fs_ f 0 0 s0.length))), (sv, .inl (g.2.1, 256, .inl fs_))] := hD
    refine lv_aload_n X.1 X.2.1 dX12_restore_51 rfl (lv_at hl 0 rfl) ?_
    refine lv_iconst (v := (nI 0)) X.1 X.2.1 dX12_restore_52 (by decide) ?_
    refine va_put (D := g.1) (ci := 11) (v := .int (nI 0)) (ty := .int) (C := RX12) (T := TX12) (N := 26) X.1 X.2.1 X.2.2.2.2 iwX12 tyX12 tyX12_ok nmX12 X.2.2.2.1 hK hP hD hS 0 rfl rfl 6 (by decide) (X.2.2.2.2 _ q1026) (fun _ h9 => h9) rfl (by decide +kernel) rfl rfl (Nat.le_of_ble_eq_true rfl) dX12_restore_53 (fun H locs hP hD hS => ?_)
    have hP : PP g [(m0, .inr (11, [.int (nI k0), .int (nI n0), .ref lt, .int (nI s0.length), .ref er, .ref el, .int (nI 0), .ref cm_, .int (nI c.length), .int (bI tk), .int (nI k0), .int (nI n0), .ref sv, .int (nI s0.length), .ref md, .int (nI z.length), .ref fmm, .ref lc, .ref lz, .ref af, .ref pt_, .int (nI p.length), .ref oc, .ref ty_, .ref sz_, .ref em])), (lt, .inl (g.2.1, 256, .inl (va_cpy fs_ f 0 0 s0.length))), (sv, .inl (g.2.1, 256, .inl fs_))] H := hP
    have hD : va_D A [(m0, .inr (11, [.int (nI k0), .int (nI n0), .ref lt, .int (nI s0.length), .ref er, .ref el, .int (nI 0), .ref cm_, .int (nI c.length), .int (bI tk), .int (nI k0), .int (nI n0), .ref sv, .int (nI s0.length), .ref md, .int (nI z.length), .ref fmm, .ref lc, .ref lz, .ref af, .ref pt_, .int (nI p.length), .ref oc, .ref ty_, .ref sz_, .ref em])), (lt, .inl (g.2.1, 256, .inl (va_cpy fs_ f 0 0 s0.length))), (sv, .inl (g.2.1, 256, .inl fs_))] := hD
    refine lv_aload_n X.1 X.2.1 dX12_restore_56 rfl (lv_at hl 0 rfl) ?_
    refine lv_iconst (v := (nI 0)) X.1 X.2.1 dX12_restore_57 (by decide) ?_
    refine va_put (D := g.1) (ci := 11) (v := .int (nI 0)) (ty := .int) (C := RX12) (T := TX12) (N := 26) X.1 X.2.1 X.2.2.2.2 iwX12 tyX12 tyX12_ok nmX12 X.2.2.2.1 hK hP hD hS 0 rfl rfl 21 (by decide) (X.2.2.2.2 _ q1041) (fun _ h9 => h9) rfl (by decide +kernel) rfl rfl (Nat.le_of_ble_eq_true rfl) dX12_restore_58 (fun H locs hP hD hS => ?_)
    have hP : PP g [(m0, .inr (11, [.int (nI k0), .int (nI n0), .ref lt, .int (nI s0.length), .ref er, .ref el, .int (nI 0), .ref cm_, .int (nI c.length), .int (bI tk), .int (nI k0), .int (nI n0), .ref sv, .int (nI s0.length), .ref md, .int (nI z.length), .ref fmm, .ref lc, .ref lz, .ref af, .ref pt_, .int (nI 0), .ref oc, .ref ty_, .ref sz_, .ref em])), (lt, .inl (g.2.1, 256, .inl (va_cpy fs_ f 0 0 s0.length))), (sv, .inl (g.2.1, 256, .inl fs_))] H := hP
    have hD : va_D A [(m0, .inr (11, [.int (nI k0), .int (nI n0), .ref lt, .int (nI s0.length), .ref er, .ref el, .int (nI 0), .ref cm_, .int (nI c.length), .int (bI tk), .int (nI k0), .int (nI n0), .ref sv, .int (nI s0.length), .ref md, .int (nI z.length), .ref fmm, .ref lc, .ref lz, .ref af, .ref pt_, .int (nI 0), .ref oc, .ref ty_, .ref sz_, .ref em])), (lt, .inl (g.2.1, 256, .inl (va_cpy fs_ f 0 0 s0.length))), (sv, .inl (g.2.1, 256, .inl fs_))] := hD
    have hP : PP g [(m0, .inr (11, [.int (nI k0), .int (nI n0), .ref lt, .int (nI s0.length), .ref er, .ref el, .int (nI (([] : List (List Nat)).length)), .ref cm_, .int (nI c.length), .int (bI tk), .int (nI k0), .int (nI n0), .ref sv, .int (nI s0.length), .ref md, .int (nI z.length), .ref fmm, .ref lc, .ref lz, .ref af, .ref pt_, .int (nI (([] : List Int).length)), .ref oc, .ref ty_, .ref sz_, .ref em])), (lt, .inl (g.2.1, 256, .inl (va_cpy fs_ f 0 0 s0.length))), (sv, .inl (g.2.1, 256, .inl fs_))] H := by exact hP
    have hD : va_D A [(m0, .inr (11, [.int (nI k0), .int (nI n0), .ref lt, .int (nI s0.length), .ref er, .ref el, .int (nI (([] : List (List Nat)).length)), .ref cm_, .int (nI c.length), .int (bI tk), .int (nI k0), .int (nI n0), .ref sv, .int (nI s0.length), .ref md, .int (nI z.length), .ref fmm, .ref lc, .ref lz, .ref af, .ref pt_, .int (nI (([] : List Int).length)), .ref oc, .ref ty_, .ref sz_, .ref em])), (lt, .inl (g.2.1, 256, .inl (va_cpy fs_ f 0 0 s0.length))), (sv, .inl (g.2.1, 256, .inl fs_))] := by exact hD
    refine lv_aload_n X.1 X.2.1 dX12_restore_61 rfl (lv_at hl 0 rfl) ?_
    refine va_get (D := g.1) (ci := 11) (v := .int (nI s0.length)) (C := RX12) (T := TX12) (N := 26) X.1 X.2.1 X.2.2.2.2 iwX12 X.2.2.2.1 hK hP 0 rfl rfl 3 (by decide) (X.2.2.2.2 _ q1023) (fun _ h9 => h9) rfl dX12_restore_62 ?_
    exact MuI.ret X hr hlk hK hS dX12_restore_65 (nI_nar _) (va_cpy fs_ f 0 0 s0.length) (hP.sub [0, 1, 2] rfl) (hD.sub [0, 1, 2] (by decide) rfl) (⟨rfl, cpy_rep hf0⟩)
  · exfalso; rw [htk] at c4; cases c4

set_option maxHeartbeats 4000000 in
set_option maxRecDepth 100000 in
theorem m_restore_no (g : G5) (m0 : Nat) (lt : Nat) (er : Nat) (el : Nat) (cm_ : Nat) (sv : Nat) (md : Nat) (fmm : Nat) (lc : Nat) (lz : Nat) (af : Nat) (pt_ : Nat) (oc : Nat) (ty_ : Nat) (sz_ : Nat) (em : Nat) (k : Nat) (n : Nat) (s : List Nat) (h : List (List Nat)) (c : List Nat) (tk : Bool) (k0 : Nat) (n0 : Nat) (s0 : List Nat) (z : List Nat) (p : List Int) (htk : tk = false) : PuI yX12_restore cX12_restore 1 (some .int) 1 40 g [.ref m0] [(m0, .inr (11, [.int (nI k), .int (nI n), .ref lt, .int (nI s.length), .ref er, .ref el, .int (nI h.length), .ref cm_, .int (nI c.length), .int (bI tk), .int (nI k0), .int (nI n0), .ref sv, .int (nI s0.length), .ref md, .int (nI z.length), .ref fmm, .ref lc, .ref lz, .ref af, .ref pt_, .int (nI p.length), .ref oc, .ref ty_, .ref sz_, .ref em]))] (-7) := by
  refine PuI.of (by decide +kernel) (Nat.le_of_ble_eq_true rfl) ?_
  intro p_ l_ e_ S_ m_ args below meth co X hr hlk hP hK ls hl
  have X : CallFix p_ m_ co cX12_restore 1 S_ args lw_all RX12 := X
  have hl : lv_has ls 1 [(0, .ref m0)] := hl
  refine lv_aload_n X.1 X.2.1 dX12_restore_0 rfl (lv_at hl 0 rfl) ?_
  refine va_get (D := g.1) (ci := 11) (v := .int (bI tk)) (C := RX12) (T := TX12) (N := 26) X.1 X.2.1 X.2.2.2.2 iwX12 X.2.2.2.1 hK hP 0 rfl rfl 9 (by decide) (X.2.2.2.2 _ q1029) (fun _ h9 => h9) rfl dX12_restore_1 ?_
  refine b_if_ne (tgt := 10) X dX12_restore_4 (by decide) (fun c4 => ?_) (fun c4 => ?_)
  · exfalso; rw [htk] at c4; cases c4
  · refine lv_bipush (v := (-7)) X.1 X.2.1 dX12_restore_7 (by decide) ?_
    exact PuI.ret X hr hlk dX12_restore_9 (nI_nar _) (rfl)
