set_option maxHeartbeats 4000000 in
set_option maxRecDepth 100000 in
theorem m_construct_ok (g : G5) (m0 : Nat) (lt : Nat) (er : Nat) (el : Nat) (cm_ : Nat) (sv : Nat) (md : Nat) (fmm : Nat) (lc : Nat) (lz : Nat) (af : Nat) (pt_ : Nat) (oc : Nat) (ty_ : Nat) (sz_ : Nat) (em : Nat) (k : Nat) (n : Nat) (s : List Nat) (h : List (List Nat)) (c : List Nat) (tk : Bool) (k0 : Nat) (n0 : Nat) (s0 : List Nat) (z : List Nat) (p : List Int) (f : Nat → Int32) (fe : Nat → Int32) (fl : Nat → Int32) (fm_ : Nat → Int32) (q : Nat → Bool) (fc_ : Nat → Int32) (fx : Nat → Int32) (fa : Nat → Int32) (B : Nat) (T : Nat) (kd : Nat) (y : Int32) (pp : Nat) (hc : shp k n B T) (hs : s.length ≤ 256) (hf : rep f s) (hh : hrm fe fl h) (hk : kd < 4) (hpp : kd = 3 → y = nI pp ∧ pp < T) : MuI (S := (Nat → Int32) × (Nat → Int32) × (Nat → Int32) × (Nat → Int32) × (Nat → Bool) × (Nat → Int32) × (Nat → Int32) × (Nat → Int32)) yX12_construct cX12_construct 3 (some .int) 6 139 g [.ref m0, .int (nI kd), .int y] [(m0, .inr (11, [.int (nI k), .int (nI n), .ref lt, .int (nI s.length), .ref er, .ref el, .int (nI h.length), .ref cm_, .int (nI c.length), .int (bI tk), .int (nI k0), .int (nI n0), .ref sv, .int (nI s0.length), .ref md, .int (nI z.length), .ref fmm, .ref lc, .ref lz, .ref af, .ref pt_, .int (nI p.length), .ref oc, .ref ty_, .ref sz_, .ref em])), (lt, .inl (g.2.1, 256, .inl f)), (er, .inl (g.2.1, 1536, .inl fe)), (el, .inl (g.2.1, 6, .inl fl)), (md, .inl (g.2.1, 256, .inl fm_)), (fmm, .inl (g.2.2.1, 256, .inl (mf q))), (lc, .inl (g.2.1, 256, .inl fc_)), (lz, .inl (g.2.1, 256, .inl fx)), (af, .inl (g.2.1, 256, .inl fa))] (fun r u => r = (nI ((conL k T n B kd pp).length)) ∧ rep u.1 (conL k T n B kd pp) ∧ hrm u.2.1 u.2.2.1 ((s :: h).take 6)) (fun u => [(m0, .inr (11, [.int (nI k), .int (nI n), .ref lt, .int (nI ((conL k T n B kd pp).length)), .ref er, .ref el, .int (nI (((s :: h).take 6).length)), .ref cm_, .int (nI c.length), .int (bI tk), .int (nI k0), .int (nI n0), .ref sv, .int (nI s0.length), .ref md, .int (nI ((conL k T n B kd pp).length)), .ref fmm, .ref lc, .ref lz, .ref af, .ref pt_, .int (nI p.length), .ref oc, .ref ty_, .ref sz_, .ref em])), (lt, .inl (g.2.1, 256, .inl u.1)), (er, .inl (g.2.1, 1536, .inl u.2.1)), (el, .inl (g.2.1, 6, .inl u.2.2.1)), (md, .inl (g.2.1, 256, .inl u.2.2.2.1)), (fmm, .inl (g.2.2.1, 256, .inl (mf u.2.2.2.2.1))), (lc, .inl (g.2.1, 256, .inl u.2.2.2.2.2.1)), (lz, .inl (g.2.1, 256, .inl u.2.2.2.2.2.2.1)), (af, .inl (g.2.1, 256, .inl u.2.2.2.2.2.2.2))]) := by
  refine MuI.of (by decide +kernel) (Nat.le_of_ble_eq_true rfl) ?_
  intro p_ l_ e_ S_ m_ args below meth co X hr hlk hP hK A hA hD hS ls hl
  have X : CallFix p_ m_ co cX12_construct 3 S_ args lw_all RX12 := X
  have hl : lv_has ls 3 [(0, .ref m0), (1, .int (nI kd)), (2, .int y)] := hl
  obtain ⟨hk2, hk4, hn1, hn6, hB, hT, hBT, hT2⟩ := hc.f
  have hB0 : 0 < B := by rw [hBT]; exact Nat.mul_pos (by omega) (by omega)
  rcases (show kd = 0 ∨ kd = 1 ∨ kd = 2 ∨ kd = 3 by omega) with rfl | rfl | rfl | rfl
  · refine lv_iload_n X.1 X.2.1 dX12_construct_0 rfl (lv_at hl 1 rfl) ?_
    refine lv_iconst (v := (nI 0)) X.1 X.2.1 dX12_construct_1 (by decide) ?_
    refine lv_iconst (v := (nI 3)) X.1 X.2.1 dX12_construct_2 (by decide) ?_
    refine (c_inN g (nI 0) 0 3 (by omega) (by omega)).callS (rest := []) X dX12_construct_3 q1103 tX12_in hK (hP.sub [] rfl) hl ⟨⟨Nat.le_of_ble_eq_true rfl, Nat.le_of_ble_eq_true rfl⟩, Nat.le_of_ble_eq_true rfl, Nat.le_of_ble_eq_true rfl⟩ rfl rfl (Nat.le_of_ble_eq_true rfl) ?_
    refine b_if_eq (tgt := 37) X dX12_construct_6 (by decide) (fun c6 => ?_) (fun c6 => ?_)
    · exfalso; have h6 := of_decide_eq_false c6; rw [nI_toInt (by omega)] at h6; omega
    · refine lv_iload_n X.1 X.2.1 dX12_construct_9 rfl (lv_at hl 1 rfl) ?_
      refine lv_iconst (v := (nI 3)) X.1 X.2.1 dX12_construct_10 (by decide) ?_
      refine z_icmp_ne (tgt := 39) X dX12_construct_11 (by decide) (nI_toInt (by omega)) (nI_toInt (by omega)) (fun c11 => ?_) (fun c11 => ?_)
      · refine lv_aload_n X.1 X.2.1 dX12_construct_39 rfl (lv_at hl 0 rfl) ?_
        refine lv_iconst (v := (nI 0)) X.1 X.2.1 dX12_construct_40 (by decide) ?_
        refine va_put (D := g.1) (ci := 11) (v := .int (nI 0)) (ty := .int) (C := RX12) (T := TX12) (N := 26) X.1 X.2.1 X.2.2.2.2 iwX12 tyX12 tyX12_ok nmX12 X.2.2.2.1 hK hP hD hS 0 rfl rfl 15 (by decide) (X.2.2.2.2 _ q1035) (fun _ h9 => h9) rfl (by decide +kernel) rfl rfl (Nat.le_of_ble_eq_true rfl) dX12_construct_41 (fun H locs hP hD hS => ?_)
        have hP : PP g [(m0, .inr (11, [.int (nI k), .int (nI n), .ref lt, .int (nI s.length), .ref er, .ref el, .int (nI h.length), .ref cm_, .int (nI c.length), .int (bI tk), .int (nI k0), .int (nI n0), .ref sv, .int (nI s0.length), .ref md, .int (nI 0), .ref fmm, .ref lc, .ref lz, .ref af, .ref pt_, .int (nI p.length), .ref oc, .ref ty_, .ref sz_, .ref em])), (lt, .inl (g.2.1, 256, .inl f)), (er, .inl (g.2.1, 1536, .inl fe)), (el, .inl (g.2.1, 6, .inl fl)), (md, .inl (g.2.1, 256, .inl fm_)), (fmm, .inl (g.2.2.1, 256, .inl (mf q))), (lc, .inl (g.2.1, 256, .inl fc_)), (lz, .inl (g.2.1, 256, .inl fx)), (af, .inl (g.2.1, 256, .inl fa))] H := hP
        have hD : va_D A [(m0, .inr (11, [.int (nI k), .int (nI n), .ref lt, .int (nI s.length), .ref er, .ref el, .int (nI h.length), .ref cm_, .int (nI c.length), .int (bI tk), .int (nI k0), .int (nI n0), .ref sv, .int (nI s0.length), .ref md, .int (nI 0), .ref fmm, .ref lc, .ref lz, .ref af, .ref pt_, .int (nI p.length), .ref oc, .ref ty_, .ref sz_, .ref em])), (lt, .inl (g.2.1, 256, .inl f)), (er, .inl (g.2.1, 1536, .inl fe)), (el, .inl (g.2.1, 6, .inl fl)), (md, .inl (g.2.1, 256, .inl fm_)), (fmm, .inl (g.2.2.1, 256, .inl (mf q))), (lc, .inl (g.2.1, 256, .inl fc_)), (lz, .inl (g.2.1, 256, .inl fx)), (af, .inl (g.2.1, 256, .inl fa))] := hD
        have hP : PP g [(m0, .inr (11, [.int (nI k), .int (nI n), .ref lt, .int (nI s.length), .ref er, .ref el, .int (nI h.length), .ref cm_, .int (nI c.length), .int (bI tk), .int (nI k0), .int (nI n0), .ref sv, .int (nI s0.length), .ref md, .int (nI (([] : List Nat).length)), .ref fmm, .ref lc, .ref lz, .ref af, .ref pt_, .int (nI p.length), .ref oc, .ref ty_, .ref sz_, .ref em])), (lt, .inl (g.2.1, 256, .inl f)), (er, .inl (g.2.1, 1536, .inl fe)), (el, .inl (g.2.1, 6, .inl fl)), (md, .inl (g.2.1, 256, .inl fm_)), (fmm, .inl (g.2.2.1, 256, .inl (mf q))), (lc, .inl (g.2.1, 256, .inl fc_)), (lz, .inl (g.2.1, 256, .inl fx)), (af, .inl (g.2.1, 256, .inl fa))] H := by exact hP
        have hD : va_D A [(m0, .inr (11, [.int (nI k), .int (nI n), .ref lt, .int (nI s.length), .ref er, .ref el, .int (nI h.length), .ref cm_, .int (nI c.length), .int (bI tk), .int (nI k0), .int (nI n0), .ref sv, .int (nI s0.length), .ref md, .int (nI (([] : List Nat).length)), .ref fmm, .ref lc, .ref lz, .ref af, .ref pt_, .int (nI p.length), .ref oc, .ref ty_, .ref sz_, .ref em])), (lt, .inl (g.2.1, 256, .inl f)), (er, .inl (g.2.1, 1536, .inl fe)), (el, .inl (g.2.1, 6, .inl fl)), (md, .inl (g.2.1, 256, .inl fm_)), (fmm, .inl (g.2.2.1, 256, .inl (mf q))), (lc, .inl (g.2.1, 256, .inl fc_)), (lz, .inl (g.2.1, 256, .inl fx)), (af, .inl (g.2.1, 256, .inl fa))] := by exact hD
        refine lv_iload_n X.1 X.2.1 dX12_construct_44 rfl (lv_at hl 1 rfl) ?_
        refine lv_tableIn (tgt := 72) X.1 X.2.1 dX12_construct_45 (by decide) (by decide) rfl (by decide) ?_
        refine lv_aload_n X.1 X.2.1 dX12_construct_72 rfl (lv_at hl 0 rfl) ?_
        refine (m_greedy g m0 lt er el cm_ sv md fmm lc lz af pt_ oc ty_ sz_ em k n s h c tk k0 n0 s0 p fm_ q B T (by assumption)).callV (rest := []) (wr := [(lt, .inl (g.2.1, 256, .inl f)), (er, .inl (g.2.1, 1536, .inl fe)), (el, .inl (g.2.1, 6, .inl fl)), (lc, .inl (g.2.1, 256, .inl fc_)), (lz, .inl (g.2.1, 256, .inl fx)), (af, .inl (g.2.1, 256, .inl fa))]) X dX12_construct_73 q1137 tX12_greedy hK hP hD hS hA [0, 4, 5] [1, 2, 3, 6, 7, 8] (by decide) rfl rfl (by decide) (by decide) 0 11 rfl rfl rfl hl ⟨⟨Nat.le_of_ble_eq_true rfl, Nat.le_of_ble_eq_true rfl⟩, Nat.le_of_ble_eq_true rfl, Nat.le_of_ble_eq_true rfl⟩ rfl rfl (Nat.le_of_ble_eq_true rfl) (fun u73 H locs hw73 hP hD hS => ?_)
        obtain ⟨fm1_73, q1_73⟩ := u73
        have hP : PP g [(lt, .inl (g.2.1, 256, .inl f)), (er, .inl (g.2.1, 1536, .inl fe)), (el, .inl (g.2.1, 6, .inl fl)), (lc, .inl (g.2.1, 256, .inl fc_)), (lz, .inl (g.2.1, 256, .inl fx)), (af, .inl (g.2.1, 256, .inl fa)), (m0, .inr (11, [.int (nI k), .int (nI n), .ref lt, .int (nI s.length), .ref er, .ref el, .int (nI h.length), .ref cm_, .int (nI c.length), .int (bI tk), .int (nI k0), .int (nI n0), .ref sv, .int (nI s0.length), .ref md, .int (nI ((grL k T B 0 qz).length)), .ref fmm, .ref lc, .ref lz, .ref af, .ref pt_, .int (nI p.length), .ref oc, .ref ty_, .ref sz_, .ref em])), (md, .inl (g.2.1, 256, .inl fm1_73)), (fmm, .inl (g.2.2.1, 256, .inl (mf q1_73)))] H := hP
        have hD : va_D A [(lt, .inl (g.2.1, 256, .inl f)), (er, .inl (g.2.1, 1536, .inl fe)), (el, .inl (g.2.1, 6, .inl fl)), (lc, .inl (g.2.1, 256, .inl fc_)), (lz, .inl (g.2.1, 256, .inl fx)), (af, .inl (g.2.1, 256, .inl fa)), (m0, .inr (11, [.int (nI k), .int (nI n), .ref lt, .int (nI s.length), .ref er, .ref el, .int (nI h.length), .ref cm_, .int (nI c.length), .int (bI tk), .int (nI k0), .int (nI n0), .ref sv, .int (nI s0.length), .ref md, .int (nI ((grL k T B 0 qz).length)), .ref fmm, .ref lc, .ref lz, .ref af, .ref pt_, .int (nI p.length), .ref oc, .ref ty_, .ref sz_, .ref em])), (md, .inl (g.2.1, 256, .inl fm1_73)), (fmm, .inl (g.2.2.1, 256, .inl (mf q1_73)))] := hD
        try dsimp only at hw73
        refine lv_goto (tgt := 98) X.1 X.2.1 dX12_construct_76 (by decide) ?_
        have hP : PP g [(lt, .inl (g.2.1, 256, .inl f)), (er, .inl (g.2.1, 1536, .inl fe)), (el, .inl (g.2.1, 6, .inl fl)), (lc, .inl (g.2.1, 256, .inl fc_)), (lz, .inl (g.2.1, 256, .inl fx)), (af, .inl (g.2.1, 256, .inl fa)), (m0, .inr (11, [.int (nI k), .int (nI n), .ref lt, .int (nI s.length), .ref er, .ref el, .int (nI h.length), .ref cm_, .int (nI c.length), .int (bI tk), .int (nI k0), .int (nI n0), .ref sv, .int (nI s0.length), .ref md, .int (nI ((conL k T n B 0 pp).length)), .ref fmm, .ref lc, .ref lz, .ref af, .ref pt_, .int (nI p.length), .ref oc, .ref ty_, .ref sz_, .ref em])), (md, .inl (g.2.1, 256, .inl fm1_73)), (fmm, .inl (g.2.2.1, 256, .inl (mf q1_73)))] H := by exact hP
        have hD : va_D A [(lt, .inl (g.2.1, 256, .inl f)), (er, .inl (g.2.1, 1536, .inl fe)), (el, .inl (g.2.1, 6, .inl fl)), (lc, .inl (g.2.1, 256, .inl fc_)), (lz, .inl (g.2.1, 256, .inl fx)), (af, .inl (g.2.1, 256, .inl fa)), (m0, .inr (11, [.int (nI k), .int (nI n), .ref lt, .int (nI s.length), .ref er, .ref el, .int (nI h.length), .ref cm_, .int (nI c.length), .int (bI tk), .int (nI k0), .int (nI n0), .ref sv, .int (nI s0.length), .ref md, .int (nI ((conL k T n B 0 pp).length)), .ref fmm, .ref lc, .ref lz, .ref af, .ref pt_, .int (nI p.length), .ref oc, .ref ty_, .ref sz_, .ref em])), (md, .inl (g.2.1, 256, .inl fm1_73)), (fmm, .inl (g.2.2.1, 256, .inl (mf q1_73)))] := by exact hD
        refine lv_aload_n X.1 X.2.1 dX12_construct_98 rfl (lv_at hl 0 rfl) ?_
        refine (m_edit g m0 lt er el cm_ sv md fmm lc lz af pt_ oc ty_ sz_ em k n s h c tk k0 n0 s0 (conL k T n B 0 pp) p f fe fl fm1_73 (by omega) (by assumption) (by have := con_len hc 0 pp; omega) ((show rep _ (conL k T n B 0 pp) from hw73)) (by assumption)).callV (rest := []) (wr := [(lc, .inl (g.2.1, 256, .inl fc_)), (lz, .inl (g.2.1, 256, .inl fx)), (af, .inl (g.2.1, 256, .inl fa)), (fmm, .inl (g.2.2.1, 256, .inl (mf q1_73)))]) X dX12_construct_99 q1194 tX12_edit hK hP hD hS hA [6, 0, 1, 2, 7] [3, 4, 5, 8] (by decide) rfl rfl (by decide) (by decide) 0 11 rfl rfl rfl hl ⟨⟨Nat.le_of_ble_eq_true rfl, Nat.le_of_ble_eq_true rfl⟩, Nat.le_of_ble_eq_true rfl, Nat.le_of_ble_eq_true rfl⟩ rfl rfl (Nat.le_of_ble_eq_true rfl) (fun u99 H locs hw99 hP hD hS => ?_)
        obtain ⟨f1_99, fe1_99, fl1_99⟩ := u99
        have hP : PP g [(lc, .inl (g.2.1, 256, .inl fc_)), (lz, .inl (g.2.1, 256, .inl fx)), (af, .inl (g.2.1, 256, .inl fa)), (fmm, .inl (g.2.2.1, 256, .inl (mf q1_73))), (m0, .inr (11, [.int (nI k), .int (nI n), .ref lt, .int (nI ((conL k T n B 0 pp).length)), .ref er, .ref el, .int (nI (((s :: h).take 6).length)), .ref cm_, .int (nI c.length), .int (bI tk), .int (nI k0), .int (nI n0), .ref sv, .int (nI s0.length), .ref md, .int (nI ((conL k T n B 0 pp).length)), .ref fmm, .ref lc, .ref lz, .ref af, .ref pt_, .int (nI p.length), .ref oc, .ref ty_, .ref sz_, .ref em])), (lt, .inl (g.2.1, 256, .inl f1_99)), (er, .inl (g.2.1, 1536, .inl fe1_99)), (el, .inl (g.2.1, 6, .inl fl1_99)), (md, .inl (g.2.1, 256, .inl fm1_73))] H := hP
        have hD : va_D A [(lc, .inl (g.2.1, 256, .inl fc_)), (lz, .inl (g.2.1, 256, .inl fx)), (af, .inl (g.2.1, 256, .inl fa)), (fmm, .inl (g.2.2.1, 256, .inl (mf q1_73))), (m0, .inr (11, [.int (nI k), .int (nI n), .ref lt, .int (nI ((conL k T n B 0 pp).length)), .ref er, .ref el, .int (nI (((s :: h).take 6).length)), .ref cm_, .int (nI c.length), .int (bI tk), .int (nI k0), .int (nI n0), .ref sv, .int (nI s0.length), .ref md, .int (nI ((conL k T n B 0 pp).length)), .ref fmm, .ref lc, .ref lz, .ref af, .ref pt_, .int (nI p.length), .ref oc, .ref ty_, .ref sz_, .ref em])), (lt, .inl (g.2.1, 256, .inl f1_99)), (er, .inl (g.2.1, 1536, .inl fe1_99)), (el, .inl (g.2.1, 6, .inl fl1_99)), (md, .inl (g.2.1, 256, .inl fm1_73))] := hD
        try dsimp only at hw99
        refine lv_aload_n X.1 X.2.1 dX12_construct_102 rfl (lv_at hl 0 rfl) ?_
        refine va_get (D := g.1) (ci := 11) (v := .int (nI ((conL k T n B 0 pp).length))) (C := RX12) (T := TX12) (N := 26) X.1 X.2.1 X.2.2.2.2 iwX12 X.2.2.2.1 hK hP 4 rfl rfl 3 (by decide) (X.2.2.2.2 _ q1023) (fun _ h9 => h9) rfl dX12_construct_103 ?_
        exact MuI.ret X hr hlk hK hS dX12_construct_106 (nI_nar _) (f1_99, fe1_99, fl1_99, fm1_73, q1_73, fc_, fx, fa) (hP.sub [4, 5, 6, 7, 8, 3, 0, 1, 2] rfl) (hD.sub [4, 5, 6, 7, 8, 3, 0, 1, 2] (by decide) rfl) (⟨rfl, hw99⟩)
      · exfalso; omega
  · refine lv_iload_n X.1 X.2.1 dX12_construct_0 rfl (lv_at hl 1 rfl) ?_
    refine lv_iconst (v := (nI 0)) X.1 X.2.1 dX12_construct_1 (by decide) ?_
    refine lv_iconst (v := (nI 3)) X.1 X.2.1 dX12_construct_2 (by decide) ?_
    refine (c_inN g (nI 1) 0 3 (by omega) (by omega)).callS (rest := []) X dX12_construct_3 q1103 tX12_in hK (hP.sub [] rfl) hl ⟨⟨Nat.le_of_ble_eq_true rfl, Nat.le_of_ble_eq_true rfl⟩, Nat.le_of_ble_eq_true rfl, Nat.le_of_ble_eq_true rfl⟩ rfl rfl (Nat.le_of_ble_eq_true rfl) ?_
    refine b_if_eq (tgt := 37) X dX12_construct_6 (by decide) (fun c6 => ?_) (fun c6 => ?_)
    · exfalso; have h6 := of_decide_eq_false c6; rw [nI_toInt (by omega)] at h6; omega
    · refine lv_iload_n X.1 X.2.1 dX12_construct_9 rfl (lv_at hl 1 rfl) ?_
      refine lv_iconst (v := (nI 3)) X.1 X.2.1 dX12_construct_10 (by decide) ?_
      refine z_icmp_ne (tgt := 39) X dX12_construct_11 (by decide) (nI_toInt (by omega)) (nI_toInt (by omega)) (fun c11 => ?_) (fun c11 => ?_)
      · refine lv_aload_n X.1 X.2.1 dX12_construct_39 rfl (lv_at hl 0 rfl) ?_
        refine lv_iconst (v := (nI 0)) X.1 X.2.1 dX12_construct_40 (by decide) ?_
        refine va_put (D := g.1) (ci := 11) (v := .int (nI 0)) (ty := .int) (C := RX12) (T := TX12) (N := 26) X.1 X.2.1 X.2.2.2.2 iwX12 tyX12 tyX12_ok nmX12 X.2.2.2.1 hK hP hD hS 0 rfl rfl 15 (by decide) (X.2.2.2.2 _ q1035) (fun _ h9 => h9) rfl (by decide +kernel) rfl rfl (Nat.le_of_ble_eq_true rfl) dX12_construct_41 (fun H locs hP hD hS => ?_)
        have hP : PP g [(m0, .inr (11, [.int (nI k), .int (nI n), .ref lt, .int (nI s.length), .ref er, .ref el, .int (nI h.length), .ref cm_, .int (nI c.length), .int (bI tk), .int (nI k0), .int (nI n0), .ref sv, .int (nI s0.length), .ref md, .int (nI 0), .ref fmm, .ref lc, .ref lz, .ref af, .ref pt_, .int (nI p.length), .ref oc, .ref ty_, .ref sz_, .ref em])), (lt, .inl (g.2.1, 256, .inl f)), (er, .inl (g.2.1, 1536, .inl fe)), (el, .inl (g.2.1, 6, .inl fl)), (md, .inl (g.2.1, 256, .inl fm_)), (fmm, .inl (g.2.2.1, 256, .inl (mf q))), (lc, .inl (g.2.1, 256, .inl fc_)), (lz, .inl (g.2.1, 256, .inl fx)), (af, .inl (g.2.1, 256, .inl fa))] H := hP
        have hD : va_D A [(m0, .inr (11, [.int (nI k), .int (nI n), .ref lt, .int (nI s.length), .ref er, .ref el, .int (nI h.length), .ref cm_, .int (nI c.length), .int (bI tk), .int (nI k0), .int (nI n0), .ref sv, .int (nI s0.length), .ref md, .int (nI 0), .ref fmm, .ref lc, .ref lz, .ref af, .ref pt_, .int (nI p.length), .ref oc, .ref ty_, .ref sz_, .ref em])), (lt, .inl (g.2.1, 256, .inl f)), (er, .inl (g.2.1, 1536, .inl fe)), (el, .inl (g.2.1, 6, .inl fl)), (md, .inl (g.2.1, 256, .inl fm_)), (fmm, .inl (g.2.2.1, 256, .inl (mf q))), (lc, .inl (g.2.1, 256, .inl fc_)), (lz, .inl (g.2.1, 256, .inl fx)), (af, .inl (g.2.1, 256, .inl fa))] := hD
        have hP : PP g [(m0, .inr (11, [.int (nI k), .int (nI n), .ref lt, .int (nI s.length), .ref er, .ref el, .int (nI h.length), .ref cm_, .int (nI c.length), .int (bI tk), .int (nI k0), .int (nI n0), .ref sv, .int (nI s0.length), .ref md, .int (nI (([] : List Nat).length)), .ref fmm, .ref lc, .ref lz, .ref af, .ref pt_, .int (nI p.length), .ref oc, .ref ty_, .ref sz_, .ref em])), (lt, .inl (g.2.1, 256, .inl f)), (er, .inl (g.2.1, 1536, .inl fe)), (el, .inl (g.2.1, 6, .inl fl)), (md, .inl (g.2.1, 256, .inl fm_)), (fmm, .inl (g.2.2.1, 256, .inl (mf q))), (lc, .inl (g.2.1, 256, .inl fc_)), (lz, .inl (g.2.1, 256, .inl fx)), (af, .inl (g.2.1, 256, .inl fa))] H := by exact hP
        have hD : va_D A [(m0, .inr (11, [.int (nI k), .int (nI n), .ref lt, .int (nI s.length), .ref er, .ref el, .int (nI h.length), .ref cm_, .int (nI c.length), .int (bI tk), .int (nI k0), .int (nI n0), .ref sv, .int (nI s0.length), .ref md, .int (nI (([] : List Nat).length)), .ref fmm, .ref lc, .ref lz, .ref af, .ref pt_, .int (nI p.length), .ref oc, .ref ty_, .ref sz_, .ref em])), (lt, .inl (g.2.1, 256, .inl f)), (er, .inl (g.2.1, 1536, .inl fe)), (el, .inl (g.2.1, 6, .inl fl)), (md, .inl (g.2.1, 256, .inl fm_)), (fmm, .inl (g.2.2.1, 256, .inl (mf q))), (lc, .inl (g.2.1, 256, .inl fc_)), (lz, .inl (g.2.1, 256, .inl fx)), (af, .inl (g.2.1, 256, .inl fa))] := by exact hD
        refine lv_iload_n X.1 X.2.1 dX12_construct_44 rfl (lv_at hl 1 rfl) ?_
        refine lv_tableIn (tgt := 79) X.1 X.2.1 dX12_construct_45 (by decide) (by decide) rfl (by decide) ?_
        refine lv_aload_n X.1 X.2.1 dX12_construct_79 rfl (lv_at hl 0 rfl) ?_
        refine (m_lyndon g m0 lt er el cm_ sv md fmm lc lz af pt_ oc ty_ sz_ em k n s h c tk k0 n0 s0 p fm_ fc_ fx B T (by assumption)).callV (rest := []) (wr := [(lt, .inl (g.2.1, 256, .inl f)), (er, .inl (g.2.1, 1536, .inl fe)), (el, .inl (g.2.1, 6, .inl fl)), (fmm, .inl (g.2.2.1, 256, .inl (mf q))), (af, .inl (g.2.1, 256, .inl fa))]) X dX12_construct_80 q1145 tX12_lyndon hK hP hD hS hA [0, 4, 6, 7] [1, 2, 3, 5, 8] (by decide) rfl rfl (by decide) (by decide) 0 11 rfl rfl rfl hl ⟨⟨Nat.le_of_ble_eq_true rfl, Nat.le_of_ble_eq_true rfl⟩, Nat.le_of_ble_eq_true rfl, Nat.le_of_ble_eq_true rfl⟩ rfl rfl (Nat.le_of_ble_eq_true rfl) (fun u80 H locs hw80 hP hD hS => ?_)
        obtain ⟨fm1_80, fc1_80, fx1_80⟩ := u80
        have hP : PP g [(lt, .inl (g.2.1, 256, .inl f)), (er, .inl (g.2.1, 1536, .inl fe)), (el, .inl (g.2.1, 6, .inl fl)), (fmm, .inl (g.2.2.1, 256, .inl (mf q))), (af, .inl (g.2.1, 256, .inl fa)), (m0, .inr (11, [.int (nI k), .int (nI n), .ref lt, .int (nI s.length), .ref er, .ref el, .int (nI h.length), .ref cm_, .int (nI c.length), .int (bI tk), .int (nI k0), .int (nI n0), .ref sv, .int (nI s0.length), .ref md, .int (nI ((lyL k T n B 0).length)), .ref fmm, .ref lc, .ref lz, .ref af, .ref pt_, .int (nI p.length), .ref oc, .ref ty_, .ref sz_, .ref em])), (md, .inl (g.2.1, 256, .inl fm1_80)), (lc, .inl (g.2.1, 256, .inl fc1_80)), (lz, .inl (g.2.1, 256, .inl fx1_80))] H := hP
        have hD : va_D A [(lt, .inl (g.2.1, 256, .inl f)), (er, .inl (g.2.1, 1536, .inl fe)), (el, .inl (g.2.1, 6, .inl fl)), (fmm, .inl (g.2.2.1, 256, .inl (mf q))), (af, .inl (g.2.1, 256, .inl fa)), (m0, .inr (11, [.int (nI k), .int (nI n), .ref lt, .int (nI s.length), .ref er, .ref el, .int (nI h.length), .ref cm_, .int (nI c.length), .int (bI tk), .int (nI k0), .int (nI n0), .ref sv, .int (nI s0.length), .ref md, .int (nI ((lyL k T n B 0).length)), .ref fmm, .ref lc, .ref lz, .ref af, .ref pt_, .int (nI p.length), .ref oc, .ref ty_, .ref sz_, .ref em])), (md, .inl (g.2.1, 256, .inl fm1_80)), (lc, .inl (g.2.1, 256, .inl fc1_80)), (lz, .inl (g.2.1, 256, .inl fx1_80))] := hD
        try dsimp only at hw80
        refine lv_goto (tgt := 98) X.1 X.2.1 dX12_construct_83 (by decide) ?_
        have hP : PP g [(lt, .inl (g.2.1, 256, .inl f)), (er, .inl (g.2.1, 1536, .inl fe)), (el, .inl (g.2.1, 6, .inl fl)), (fmm, .inl (g.2.2.1, 256, .inl (mf q))), (af, .inl (g.2.1, 256, .inl fa)), (m0, .inr (11, [.int (nI k), .int (nI n), .ref lt, .int (nI s.length), .ref er, .ref el, .int (nI h.length), .ref cm_, .int (nI c.length), .int (bI tk), .int (nI k0), .int (nI n0), .ref sv, .int (nI s0.length), .ref md, .int (nI ((conL k T n B 1 pp).length)), .ref fmm, .ref lc, .ref lz, .ref af, .ref pt_, .int (nI p.length), .ref oc, .ref ty_, .ref sz_, .ref em])), (md, .inl (g.2.1, 256, .inl fm1_80)), (lc, .inl (g.2.1, 256, .inl fc1_80)), (lz, .inl (g.2.1, 256, .inl fx1_80))] H := by exact hP
        have hD : va_D A [(lt, .inl (g.2.1, 256, .inl f)), (er, .inl (g.2.1, 1536, .inl fe)), (el, .inl (g.2.1, 6, .inl fl)), (fmm, .inl (g.2.2.1, 256, .inl (mf q))), (af, .inl (g.2.1, 256, .inl fa)), (m0, .inr (11, [.int (nI k), .int (nI n), .ref lt, .int (nI s.length), .ref er, .ref el, .int (nI h.length), .ref cm_, .int (nI c.length), .int (bI tk), .int (nI k0), .int (nI n0), .ref sv, .int (nI s0.length), .ref md, .int (nI ((conL k T n B 1 pp).length)), .ref fmm, .ref lc, .ref lz, .ref af, .ref pt_, .int (nI p.length), .ref oc, .ref ty_, .ref sz_, .ref em])), (md, .inl (g.2.1, 256, .inl fm1_80)), (lc, .inl (g.2.1, 256, .inl fc1_80)), (lz, .inl (g.2.1, 256, .inl fx1_80))] := by exact hD
        refine lv_aload_n X.1 X.2.1 dX12_construct_98 rfl (lv_at hl 0 rfl) ?_
        refine (m_edit g m0 lt er el cm_ sv md fmm lc lz af pt_ oc ty_ sz_ em k n s h c tk k0 n0 s0 (conL k T n B 1 pp) p f fe fl fm1_80 (by omega) (by assumption) (by have := con_len hc 1 pp; omega) ((show rep _ (conL k T n B 1 pp) from hw80)) (by assumption)).callV (rest := []) (wr := [(fmm, .inl (g.2.2.1, 256, .inl (mf q))), (af, .inl (g.2.1, 256, .inl fa)), (lc, .inl (g.2.1, 256, .inl fc1_80)), (lz, .inl (g.2.1, 256, .inl fx1_80))]) X dX12_construct_99 q1194 tX12_edit hK hP hD hS hA [5, 0, 1, 2, 6] [3, 4, 7, 8] (by decide) rfl rfl (by decide) (by decide) 0 11 rfl rfl rfl hl ⟨⟨Nat.le_of_ble_eq_true rfl, Nat.le_of_ble_eq_true rfl⟩, Nat.le_of_ble_eq_true rfl, Nat.le_of_ble_eq_true rfl⟩ rfl rfl (Nat.le_of_ble_eq_true rfl) (fun u99 H locs hw99 hP hD hS => ?_)
        obtain ⟨f1_99, fe1_99, fl1_99⟩ := u99
        have hP : PP g [(fmm, .inl (g.2.2.1, 256, .inl (mf q))), (af, .inl (g.2.1, 256, .inl fa)), (lc, .inl (g.2.1, 256, .inl fc1_80)), (lz, .inl (g.2.1, 256, .inl fx1_80)), (m0, .inr (11, [.int (nI k), .int (nI n), .ref lt, .int (nI ((conL k T n B 1 pp).length)), .ref er, .ref el, .int (nI (((s :: h).take 6).length)), .ref cm_, .int (nI c.length), .int (bI tk), .int (nI k0), .int (nI n0), .ref sv, .int (nI s0.length), .ref md, .int (nI ((conL k T n B 1 pp).length)), .ref fmm, .ref lc, .ref lz, .ref af, .ref pt_, .int (nI p.length), .ref oc, .ref ty_, .ref sz_, .ref em])), (lt, .inl (g.2.1, 256, .inl f1_99)), (er, .inl (g.2.1, 1536, .inl fe1_99)), (el, .inl (g.2.1, 6, .inl fl1_99)), (md, .inl (g.2.1, 256, .inl fm1_80))] H := hP
        have hD : va_D A [(fmm, .inl (g.2.2.1, 256, .inl (mf q))), (af, .inl (g.2.1, 256, .inl fa)), (lc, .inl (g.2.1, 256, .inl fc1_80)), (lz, .inl (g.2.1, 256, .inl fx1_80)), (m0, .inr (11, [.int (nI k), .int (nI n), .ref lt, .int (nI ((conL k T n B 1 pp).length)), .ref er, .ref el, .int (nI (((s :: h).take 6).length)), .ref cm_, .int (nI c.length), .int (bI tk), .int (nI k0), .int (nI n0), .ref sv, .int (nI s0.length), .ref md, .int (nI ((conL k T n B 1 pp).length)), .ref fmm, .ref lc, .ref lz, .ref af, .ref pt_, .int (nI p.length), .ref oc, .ref ty_, .ref sz_, .ref em])), (lt, .inl (g.2.1, 256, .inl f1_99)), (er, .inl (g.2.1, 1536, .inl fe1_99)), (el, .inl (g.2.1, 6, .inl fl1_99)), (md, .inl (g.2.1, 256, .inl fm1_80))] := hD
        try dsimp only at hw99
        refine lv_aload_n X.1 X.2.1 dX12_construct_102 rfl (lv_at hl 0 rfl) ?_
        refine va_get (D := g.1) (ci := 11) (v := .int (nI ((conL k T n B 1 pp).length))) (C := RX12) (T := TX12) (N := 26) X.1 X.2.1 X.2.2.2.2 iwX12 X.2.2.2.1 hK hP 4 rfl rfl 3 (by decide) (X.2.2.2.2 _ q1023) (fun _ h9 => h9) rfl dX12_construct_103 ?_
        exact MuI.ret X hr hlk hK hS dX12_construct_106 (nI_nar _) (f1_99, fe1_99, fl1_99, fm1_80, q, fc1_80, fx1_80, fa) (hP.sub [4, 5, 6, 7, 8, 0, 2, 3, 1] rfl) (hD.sub [4, 5, 6, 7, 8, 0, 2, 3, 1] (by decide) rfl) (⟨rfl, hw99⟩)
      · exfalso; omega
  · refine lv_iload_n X.1 X.2.1 dX12_construct_0 rfl (lv_at hl 1 rfl) ?_
    refine lv_iconst (v := (nI 0)) X.1 X.2.1 dX12_construct_1 (by decide) ?_
    refine lv_iconst (v := (nI 3)) X.1 X.2.1 dX12_construct_2 (by decide) ?_
    refine (c_inN g (nI 2) 0 3 (by omega) (by omega)).callS (rest := []) X dX12_construct_3 q1103 tX12_in hK (hP.sub [] rfl) hl ⟨⟨Nat.le_of_ble_eq_true rfl, Nat.le_of_ble_eq_true rfl⟩, Nat.le_of_ble_eq_true rfl, Nat.le_of_ble_eq_true rfl⟩ rfl rfl (Nat.le_of_ble_eq_true rfl) ?_
    refine b_if_eq (tgt := 37) X dX12_construct_6 (by decide) (fun c6 => ?_) (fun c6 => ?_)
    · exfalso; have h6 := of_decide_eq_false c6; rw [nI_toInt (by omega)] at h6; omega
    · refine lv_iload_n X.1 X.2.1 dX12_construct_9 rfl (lv_at hl 1 rfl) ?_
      refine lv_iconst (v := (nI 3)) X.1 X.2.1 dX12_construct_10 (by decide) ?_
      refine z_icmp_ne (tgt := 39) X dX12_construct_11 (by decide) (nI_toInt (by omega)) (nI_toInt (by omega)) (fun c11 => ?_) (fun c11 => ?_)
      · refine lv_aload_n X.1 X.2.1 dX12_construct_39 rfl (lv_at hl 0 rfl) ?_
        refine lv_iconst (v := (nI 0)) X.1 X.2.1 dX12_construct_40 (by decide) ?_
        refine va_put (D := g.1) (ci := 11) (v := .int (nI 0)) (ty := .int) (C := RX12) (T := TX12) (N := 26) X.1 X.2.1 X.2.2.2.2 iwX12 tyX12 tyX12_ok nmX12 X.2.2.2.1 hK hP hD hS 0 rfl rfl 15 (by decide) (X.2.2.2.2 _ q1035) (fun _ h9 => h9) rfl (by decide +kernel) rfl rfl (Nat.le_of_ble_eq_true rfl) dX12_construct_41 (fun H locs hP hD hS => ?_)
        have hP : PP g [(m0, .inr (11, [.int (nI k), .int (nI n), .ref lt, .int (nI s.length), .ref er, .ref el, .int (nI h.length), .ref cm_, .int (nI c.length), .int (bI tk), .int (nI k0), .int (nI n0), .ref sv, .int (nI s0.length), .ref md, .int (nI 0), .ref fmm, .ref lc, .ref lz, .ref af, .ref pt_, .int (nI p.length), .ref oc, .ref ty_, .ref sz_, .ref em])), (lt, .inl (g.2.1, 256, .inl f)), (er, .inl (g.2.1, 1536, .inl fe)), (el, .inl (g.2.1, 6, .inl fl)), (md, .inl (g.2.1, 256, .inl fm_)), (fmm, .inl (g.2.2.1, 256, .inl (mf q))), (lc, .inl (g.2.1, 256, .inl fc_)), (lz, .inl (g.2.1, 256, .inl fx)), (af, .inl (g.2.1, 256, .inl fa))] H := hP
        have hD : va_D A [(m0, .inr (11, [.int (nI k), .int (nI n), .ref lt, .int (nI s.length), .ref er, .ref el, .int (nI h.length), .ref cm_, .int (nI c.length), .int (bI tk), .int (nI k0), .int (nI n0), .ref sv, .int (nI s0.length), .ref md, .int (nI 0), .ref fmm, .ref lc, .ref lz, .ref af, .ref pt_, .int (nI p.length), .ref oc, .ref ty_, .ref sz_, .ref em])), (lt, .inl (g.2.1, 256, .inl f)), (er, .inl (g.2.1, 1536, .inl fe)), (el, .inl (g.2.1, 6, .inl fl)), (md, .inl (g.2.1, 256, .inl fm_)), (fmm, .inl (g.2.2.1, 256, .inl (mf q))), (lc, .inl (g.2.1, 256, .inl fc_)), (lz, .inl (g.2.1, 256, .inl fx)), (af, .inl (g.2.1, 256, .inl fa))] := hD
        have hP : PP g [(m0, .inr (11, [.int (nI k), .int (nI n), .ref lt, .int (nI s.length), .ref er, .ref el, .int (nI h.length), .ref cm_, .int (nI c.length), .int (bI tk), .int (nI k0), .int (nI n0), .ref sv, .int (nI s0.length), .ref md, .int (nI (([] : List Nat).length)), .ref fmm, .ref lc, .ref lz, .ref af, .ref pt_, .int (nI p.length), .ref oc, .ref ty_, .ref sz_, .ref em])), (lt, .inl (g.2.1, 256, .inl f)), (er, .inl (g.2.1, 1536, .inl fe)), (el, .inl (g.2.1, 6, .inl fl)), (md, .inl (g.2.1, 256, .inl fm_)), (fmm, .inl (g.2.2.1, 256, .inl (mf q))), (lc, .inl (g.2.1, 256, .inl fc_)), (lz, .inl (g.2.1, 256, .inl fx)), (af, .inl (g.2.1, 256, .inl fa))] H := by exact hP
        have hD : va_D A [(m0, .inr (11, [.int (nI k), .int (nI n), .ref lt, .int (nI s.length), .ref er, .ref el, .int (nI h.length), .ref cm_, .int (nI c.length), .int (bI tk), .int (nI k0), .int (nI n0), .ref sv, .int (nI s0.length), .ref md, .int (nI (([] : List Nat).length)), .ref fmm, .ref lc, .ref lz, .ref af, .ref pt_, .int (nI p.length), .ref oc, .ref ty_, .ref sz_, .ref em])), (lt, .inl (g.2.1, 256, .inl f)), (er, .inl (g.2.1, 1536, .inl fe)), (el, .inl (g.2.1, 6, .inl fl)), (md, .inl (g.2.1, 256, .inl fm_)), (fmm, .inl (g.2.2.1, 256, .inl (mf q))), (lc, .inl (g.2.1, 256, .inl fc_)), (lz, .inl (g.2.1, 256, .inl fx)), (af, .inl (g.2.1, 256, .inl fa))] := by exact hD
        refine lv_iload_n X.1 X.2.1 dX12_construct_44 rfl (lv_at hl 1 rfl) ?_
        refine lv_tableIn (tgt := 86) X.1 X.2.1 dX12_construct_45 (by decide) (by decide) rfl (by decide) ?_
        refine lv_aload_n X.1 X.2.1 dX12_construct_86 rfl (lv_at hl 0 rfl) ?_
        refine (m_byNeck g m0 lt er el cm_ sv md fmm lc lz af pt_ oc ty_ sz_ em k n s h c tk k0 n0 s0 p fm_ B T (by assumption)).callV (rest := []) (wr := [(lt, .inl (g.2.1, 256, .inl f)), (er, .inl (g.2.1, 1536, .inl fe)), (el, .inl (g.2.1, 6, .inl fl)), (fmm, .inl (g.2.2.1, 256, .inl (mf q))), (lc, .inl (g.2.1, 256, .inl fc_)), (lz, .inl (g.2.1, 256, .inl fx)), (af, .inl (g.2.1, 256, .inl fa))]) X dX12_construct_87 q1174 tX12_byNecklaces hK hP hD hS hA [0, 4] [1, 2, 3, 5, 6, 7, 8] (by decide) rfl rfl (by decide) (by decide) 0 11 rfl rfl rfl hl ⟨⟨Nat.le_of_ble_eq_true rfl, Nat.le_of_ble_eq_true rfl⟩, Nat.le_of_ble_eq_true rfl, Nat.le_of_ble_eq_true rfl⟩ rfl rfl (Nat.le_of_ble_eq_true rfl) (fun u87 H locs hw87 hP hD hS => ?_)
        obtain ⟨fm1_87, rfl⟩ : ∃ z, z = u87 := ⟨_, rfl⟩
        have hP : PP g [(lt, .inl (g.2.1, 256, .inl f)), (er, .inl (g.2.1, 1536, .inl fe)), (el, .inl (g.2.1, 6, .inl fl)), (fmm, .inl (g.2.2.1, 256, .inl (mf q))), (lc, .inl (g.2.1, 256, .inl fc_)), (lz, .inl (g.2.1, 256, .inl fx)), (af, .inl (g.2.1, 256, .inl fa)), (m0, .inr (11, [.int (nI k), .int (nI n), .ref lt, .int (nI s.length), .ref er, .ref el, .int (nI h.length), .ref cm_, .int (nI c.length), .int (bI tk), .int (nI k0), .int (nI n0), .ref sv, .int (nI s0.length), .ref md, .int (nI ((neL k T n B 0).length)), .ref fmm, .ref lc, .ref lz, .ref af, .ref pt_, .int (nI p.length), .ref oc, .ref ty_, .ref sz_, .ref em])), (md, .inl (g.2.1, 256, .inl fm1_87))] H := hP
        have hD : va_D A [(lt, .inl (g.2.1, 256, .inl f)), (er, .inl (g.2.1, 1536, .inl fe)), (el, .inl (g.2.1, 6, .inl fl)), (fmm, .inl (g.2.2.1, 256, .inl (mf q))), (lc, .inl (g.2.1, 256, .inl fc_)), (lz, .inl (g.2.1, 256, .inl fx)), (af, .inl (g.2.1, 256, .inl fa)), (m0, .inr (11, [.int (nI k), .int (nI n), .ref lt, .int (nI s.length), .ref er, .ref el, .int (nI h.length), .ref cm_, .int (nI c.length), .int (bI tk), .int (nI k0), .int (nI n0), .ref sv, .int (nI s0.length), .ref md, .int (nI ((neL k T n B 0).length)), .ref fmm, .ref lc, .ref lz, .ref af, .ref pt_, .int (nI p.length), .ref oc, .ref ty_, .ref sz_, .ref em])), (md, .inl (g.2.1, 256, .inl fm1_87))] := hD
        try dsimp only at hw87
        refine lv_goto (tgt := 98) X.1 X.2.1 dX12_construct_90 (by decide) ?_
        have hP : PP g [(lt, .inl (g.2.1, 256, .inl f)), (er, .inl (g.2.1, 1536, .inl fe)), (el, .inl (g.2.1, 6, .inl fl)), (fmm, .inl (g.2.2.1, 256, .inl (mf q))), (lc, .inl (g.2.1, 256, .inl fc_)), (lz, .inl (g.2.1, 256, .inl fx)), (af, .inl (g.2.1, 256, .inl fa)), (m0, .inr (11, [.int (nI k), .int (nI n), .ref lt, .int (nI s.length), .ref er, .ref el, .int (nI h.length), .ref cm_, .int (nI c.length), .int (bI tk), .int (nI k0), .int (nI n0), .ref sv, .int (nI s0.length), .ref md, .int (nI ((conL k T n B 2 pp).length)), .ref fmm, .ref lc, .ref lz, .ref af, .ref pt_, .int (nI p.length), .ref oc, .ref ty_, .ref sz_, .ref em])), (md, .inl (g.2.1, 256, .inl fm1_87))] H := by exact hP
        have hD : va_D A [(lt, .inl (g.2.1, 256, .inl f)), (er, .inl (g.2.1, 1536, .inl fe)), (el, .inl (g.2.1, 6, .inl fl)), (fmm, .inl (g.2.2.1, 256, .inl (mf q))), (lc, .inl (g.2.1, 256, .inl fc_)), (lz, .inl (g.2.1, 256, .inl fx)), (af, .inl (g.2.1, 256, .inl fa)), (m0, .inr (11, [.int (nI k), .int (nI n), .ref lt, .int (nI s.length), .ref er, .ref el, .int (nI h.length), .ref cm_, .int (nI c.length), .int (bI tk), .int (nI k0), .int (nI n0), .ref sv, .int (nI s0.length), .ref md, .int (nI ((conL k T n B 2 pp).length)), .ref fmm, .ref lc, .ref lz, .ref af, .ref pt_, .int (nI p.length), .ref oc, .ref ty_, .ref sz_, .ref em])), (md, .inl (g.2.1, 256, .inl fm1_87))] := by exact hD
        refine lv_aload_n X.1 X.2.1 dX12_construct_98 rfl (lv_at hl 0 rfl) ?_
        refine (m_edit g m0 lt er el cm_ sv md fmm lc lz af pt_ oc ty_ sz_ em k n s h c tk k0 n0 s0 (conL k T n B 2 pp) p f fe fl fm1_87 (by omega) (by assumption) (by have := con_len hc 2 pp; omega) ((show rep _ (conL k T n B 2 pp) from hw87)) (by assumption)).callV (rest := []) (wr := [(fmm, .inl (g.2.2.1, 256, .inl (mf q))), (lc, .inl (g.2.1, 256, .inl fc_)), (lz, .inl (g.2.1, 256, .inl fx)), (af, .inl (g.2.1, 256, .inl fa))]) X dX12_construct_99 q1194 tX12_edit hK hP hD hS hA [7, 0, 1, 2, 8] [3, 4, 5, 6] (by decide) rfl rfl (by decide) (by decide) 0 11 rfl rfl rfl hl ⟨⟨Nat.le_of_ble_eq_true rfl, Nat.le_of_ble_eq_true rfl⟩, Nat.le_of_ble_eq_true rfl, Nat.le_of_ble_eq_true rfl⟩ rfl rfl (Nat.le_of_ble_eq_true rfl) (fun u99 H locs hw99 hP hD hS => ?_)
        obtain ⟨f1_99, fe1_99, fl1_99⟩ := u99
        have hP : PP g [(fmm, .inl (g.2.2.1, 256, .inl (mf q))), (lc, .inl (g.2.1, 256, .inl fc_)), (lz, .inl (g.2.1, 256, .inl fx)), (af, .inl (g.2.1, 256, .inl fa)), (m0, .inr (11, [.int (nI k), .int (nI n), .ref lt, .int (nI ((conL k T n B 2 pp).length)), .ref er, .ref el, .int (nI (((s :: h).take 6).length)), .ref cm_, .int (nI c.length), .int (bI tk), .int (nI k0), .int (nI n0), .ref sv, .int (nI s0.length), .ref md, .int (nI ((conL k T n B 2 pp).length)), .ref fmm, .ref lc, .ref lz, .ref af, .ref pt_, .int (nI p.length), .ref oc, .ref ty_, .ref sz_, .ref em])), (lt, .inl (g.2.1, 256, .inl f1_99)), (er, .inl (g.2.1, 1536, .inl fe1_99)), (el, .inl (g.2.1, 6, .inl fl1_99)), (md, .inl (g.2.1, 256, .inl fm1_87))] H := hP
        have hD : va_D A [(fmm, .inl (g.2.2.1, 256, .inl (mf q))), (lc, .inl (g.2.1, 256, .inl fc_)), (lz, .inl (g.2.1, 256, .inl fx)), (af, .inl (g.2.1, 256, .inl fa)), (m0, .inr (11, [.int (nI k), .int (nI n), .ref lt, .int (nI ((conL k T n B 2 pp).length)), .ref er, .ref el, .int (nI (((s :: h).take 6).length)), .ref cm_, .int (nI c.length), .int (bI tk), .int (nI k0), .int (nI n0), .ref sv, .int (nI s0.length), .ref md, .int (nI ((conL k T n B 2 pp).length)), .ref fmm, .ref lc, .ref lz, .ref af, .ref pt_, .int (nI p.length), .ref oc, .ref ty_, .ref sz_, .ref em])), (lt, .inl (g.2.1, 256, .inl f1_99)), (er, .inl (g.2.1, 1536, .inl fe1_99)), (el, .inl (g.2.1, 6, .inl fl1_99)), (md, .inl (g.2.1, 256, .inl fm1_87))] := hD
        try dsimp only at hw99
        refine lv_aload_n X.1 X.2.1 dX12_construct_102 rfl (lv_at hl 0 rfl) ?_
        refine va_get (D := g.1) (ci := 11) (v := .int (nI ((conL k T n B 2 pp).length))) (C := RX12) (T := TX12) (N := 26) X.1 X.2.1 X.2.2.2.2 iwX12 X.2.2.2.1 hK hP 4 rfl rfl 3 (by decide) (X.2.2.2.2 _ q1023) (fun _ h9 => h9) rfl dX12_construct_103 ?_
        exact MuI.ret X hr hlk hK hS dX12_construct_106 (nI_nar _) (f1_99, fe1_99, fl1_99, fm1_87, q, fc_, fx, fa) (hP.sub [4, 5, 6, 7, 8, 0, 1, 2, 3] rfl) (hD.sub [4, 5, 6, 7, 8, 0, 1, 2, 3] (by decide) rfl) (⟨rfl, hw99⟩)
      · exfalso; omega
  · obtain ⟨rfl, hp⟩ := hpp rfl
    refine lv_iload_n X.1 X.2.1 dX12_construct_0 rfl (lv_at hl 1 rfl) ?_
    refine lv_iconst (v := (nI 0)) X.1 X.2.1 dX12_construct_1 (by decide) ?_
    refine lv_iconst (v := (nI 3)) X.1 X.2.1 dX12_construct_2 (by decide) ?_
    refine (c_inN g (nI 3) 0 3 (by omega) (by omega)).callS (rest := []) X dX12_construct_3 q1103 tX12_in hK (hP.sub [] rfl) hl ⟨⟨Nat.le_of_ble_eq_true rfl, Nat.le_of_ble_eq_true rfl⟩, Nat.le_of_ble_eq_true rfl, Nat.le_of_ble_eq_true rfl⟩ rfl rfl (Nat.le_of_ble_eq_true rfl) ?_
    refine b_if_eq (tgt := 37) X dX12_construct_6 (by decide) (fun c6 => ?_) (fun c6 => ?_)
    · exfalso; have h6 := of_decide_eq_false c6; rw [nI_toInt (by omega)] at h6; omega
    · refine lv_iload_n X.1 X.2.1 dX12_construct_9 rfl (lv_at hl 1 rfl) ?_
      refine lv_iconst (v := (nI 3)) X.1 X.2.1 dX12_construct_10 (by decide) ?_
      refine z_icmp_ne (tgt := 39) X dX12_construct_11 (by decide) (nI_toInt (by omega)) (nI_toInt (by omega)) (fun c11 => ?_) (fun c11 => ?_)
      · exfalso; omega
      · refine lv_iload_n X.1 X.2.1 dX12_construct_14 rfl (lv_at hl 2 rfl) ?_
        refine lv_iconst (v := (nI 0)) X.1 X.2.1 dX12_construct_15 (by decide) ?_
        refine lv_aload_n X.1 X.2.1 dX12_construct_16 rfl (lv_at hl 0 rfl) ?_
        refine va_get (D := g.1) (ci := 11) (v := .int (nI k)) (C := RX12) (T := TX12) (N := 26) X.1 X.2.1 X.2.2.2.2 iwX12 X.2.2.2.1 hK hP 0 rfl rfl 0 (by decide) (X.2.2.2.2 _ q1020) (fun _ h9 => h9) rfl dX12_construct_17 ?_
        refine lv_aload_n X.1 X.2.1 dX12_construct_20 rfl (lv_at hl 0 rfl) ?_
        refine va_get (D := g.1) (ci := 11) (v := .int (nI n)) (C := RX12) (T := TX12) (N := 26) X.1 X.2.1 X.2.2.2.2 iwX12 X.2.2.2.1 hK hP 0 rfl rfl 1 (by decide) (X.2.2.2.2 _ q1021) (fun _ h9 => h9) rfl dX12_construct_21 ?_
        refine lv_iconst (v := (nI 1)) X.1 X.2.1 dX12_construct_24 (by decide) ?_
        refine n_sub X dX12_construct_25 (by omega) ?_
        refine (c_mpower g k (n - 1) (by omega)).callS (rest := [.int (nI 0), .int (nI pp)]) X dX12_construct_26 q1106 tX12_power hK (hP.sub [] rfl) hl ⟨⟨Nat.le_of_ble_eq_true rfl, Nat.le_of_ble_eq_true rfl⟩, Nat.le_of_ble_eq_true rfl, Nat.le_of_ble_eq_true rfl⟩ rfl rfl (Nat.le_of_ble_eq_true rfl) ?_
        refine tp_i (y := (nI T)) (by rw [hc.2.2]) ?_
        refine lv_iconst (v := (nI 1)) X.1 X.2.1 dX12_construct_29 (by decide) ?_
        refine n_sub X dX12_construct_30 (by omega) ?_
        refine (c_inN g (nI pp) 0 (T - 1) (by omega) (by omega)).callS (rest := []) X dX12_construct_31 q1103 tX12_in hK (hP.sub [] rfl) hl ⟨⟨Nat.le_of_ble_eq_true rfl, Nat.le_of_ble_eq_true rfl⟩, Nat.le_of_ble_eq_true rfl, Nat.le_of_ble_eq_true rfl⟩ rfl rfl (Nat.le_of_ble_eq_true rfl) ?_
        refine b_if_ne (tgt := 39) X dX12_construct_34 (by decide) (fun c34 => ?_) (fun c34 => ?_)
        · refine lv_aload_n X.1 X.2.1 dX12_construct_39 rfl (lv_at hl 0 rfl) ?_
          refine lv_iconst (v := (nI 0)) X.1 X.2.1 dX12_construct_40 (by decide) ?_
          refine va_put (D := g.1) (ci := 11) (v := .int (nI 0)) (ty := .int) (C := RX12) (T := TX12) (N := 26) X.1 X.2.1 X.2.2.2.2 iwX12 tyX12 tyX12_ok nmX12 X.2.2.2.1 hK hP hD hS 0 rfl rfl 15 (by decide) (X.2.2.2.2 _ q1035) (fun _ h9 => h9) rfl (by decide +kernel) rfl rfl (Nat.le_of_ble_eq_true rfl) dX12_construct_41 (fun H locs hP hD hS => ?_)
          have hP : PP g [(m0, .inr (11, [.int (nI k), .int (nI n), .ref lt, .int (nI s.length), .ref er, .ref el, .int (nI h.length), .ref cm_, .int (nI c.length), .int (bI tk), .int (nI k0), .int (nI n0), .ref sv, .int (nI s0.length), .ref md, .int (nI 0), .ref fmm, .ref lc, .ref lz, .ref af, .ref pt_, .int (nI p.length), .ref oc, .ref ty_, .ref sz_, .ref em])), (lt, .inl (g.2.1, 256, .inl f)), (er, .inl (g.2.1, 1536, .inl fe)), (el, .inl (g.2.1, 6, .inl fl)), (md, .inl (g.2.1, 256, .inl fm_)), (fmm, .inl (g.2.2.1, 256, .inl (mf q))), (lc, .inl (g.2.1, 256, .inl fc_)), (lz, .inl (g.2.1, 256, .inl fx)), (af, .inl (g.2.1, 256, .inl fa))] H := hP
          have hD : va_D A [(m0, .inr (11, [.int (nI k), .int (nI n), .ref lt, .int (nI s.length), .ref er, .ref el, .int (nI h.length), .ref cm_, .int (nI c.length), .int (bI tk), .int (nI k0), .int (nI n0), .ref sv, .int (nI s0.length), .ref md, .int (nI 0), .ref fmm, .ref lc, .ref lz, .ref af, .ref pt_, .int (nI p.length), .ref oc, .ref ty_, .ref sz_, .ref em])), (lt, .inl (g.2.1, 256, .inl f)), (er, .inl (g.2.1, 1536, .inl fe)), (el, .inl (g.2.1, 6, .inl fl)), (md, .inl (g.2.1, 256, .inl fm_)), (fmm, .inl (g.2.2.1, 256, .inl (mf q))), (lc, .inl (g.2.1, 256, .inl fc_)), (lz, .inl (g.2.1, 256, .inl fx)), (af, .inl (g.2.1, 256, .inl fa))] := hD
          have hP : PP g [(m0, .inr (11, [.int (nI k), .int (nI n), .ref lt, .int (nI s.length), .ref er, .ref el, .int (nI h.length), .ref cm_, .int (nI c.length), .int (bI tk), .int (nI k0), .int (nI n0), .ref sv, .int (nI s0.length), .ref md, .int (nI (([] : List Nat).length)), .ref fmm, .ref lc, .ref lz, .ref af, .ref pt_, .int (nI p.length), .ref oc, .ref ty_, .ref sz_, .ref em])), (lt, .inl (g.2.1, 256, .inl f)), (er, .inl (g.2.1, 1536, .inl fe)), (el, .inl (g.2.1, 6, .inl fl)), (md, .inl (g.2.1, 256, .inl fm_)), (fmm, .inl (g.2.2.1, 256, .inl (mf q))), (lc, .inl (g.2.1, 256, .inl fc_)), (lz, .inl (g.2.1, 256, .inl fx)), (af, .inl (g.2.1, 256, .inl fa))] H := by exact hP
          have hD : va_D A [(m0, .inr (11, [.int (nI k), .int (nI n), .ref lt, .int (nI s.length), .ref er, .ref el, .int (nI h.length), .ref cm_, .int (nI c.length), .int (bI tk), .int (nI k0), .int (nI n0), .ref sv, .int (nI s0.length), .ref md, .int (nI (([] : List Nat).length)), .ref fmm, .ref lc, .ref lz, .ref af, .ref pt_, .int (nI p.length), .ref oc, .ref ty_, .ref sz_, .ref em])), (lt, .inl (g.2.1, 256, .inl f)), (er, .inl (g.2.1, 1536, .inl fe)), (el, .inl (g.2.1, 6, .inl fl)), (md, .inl (g.2.1, 256, .inl fm_)), (fmm, .inl (g.2.2.1, 256, .inl (mf q))), (lc, .inl (g.2.1, 256, .inl fc_)), (lz, .inl (g.2.1, 256, .inl fx)), (af, .inl (g.2.1, 256, .inl fa))] := by exact hD
          refine lv_iload_n X.1 X.2.1 dX12_construct_44 rfl (lv_at hl 1 rfl) ?_
          refine lv_tableOut (tgt := 93) X.1 X.2.1 dX12_construct_45 (Or.inr (by decide)) (by decide) ?_
          refine lv_aload_n X.1 X.2.1 dX12_construct_93 rfl (lv_at hl 0 rfl) ?_
          refine lv_iload_n X.1 X.2.1 dX12_construct_94 rfl (lv_at hl 2 rfl) ?_
          refine (m_joined g m0 lt er el cm_ sv md fmm lc lz af pt_ oc ty_ sz_ em k n s h c tk k0 n0 s0 p fm_ fa B T pp (by assumption) (by omega)).callV (rest := []) (wr := [(lt, .inl (g.2.1, 256, .inl f)), (er, .inl (g.2.1, 1536, .inl fe)), (el, .inl (g.2.1, 6, .inl fl)), (fmm, .inl (g.2.2.1, 256, .inl (mf q))), (lc, .inl (g.2.1, 256, .inl fc_)), (lz, .inl (g.2.1, 256, .inl fx))]) X dX12_construct_95 q1186 tX12_joined hK hP hD hS hA [0, 4, 8] [1, 2, 3, 5, 6, 7] (by decide) rfl rfl (by decide) (by decide) 0 11 rfl rfl rfl hl ⟨⟨Nat.le_of_ble_eq_true rfl, Nat.le_of_ble_eq_true rfl⟩, Nat.le_of_ble_eq_true rfl, Nat.le_of_ble_eq_true rfl⟩ rfl rfl (Nat.le_of_ble_eq_true rfl) (fun u95 H locs hw95 hP hD hS => ?_)
          obtain ⟨fm1_95, fa1_95⟩ := u95
          have hP : PP g [(lt, .inl (g.2.1, 256, .inl f)), (er, .inl (g.2.1, 1536, .inl fe)), (el, .inl (g.2.1, 6, .inl fl)), (fmm, .inl (g.2.2.1, 256, .inl (mf q))), (lc, .inl (g.2.1, 256, .inl fc_)), (lz, .inl (g.2.1, 256, .inl fx)), (m0, .inr (11, [.int (nI k), .int (nI n), .ref lt, .int (nI s.length), .ref er, .ref el, .int (nI h.length), .ref cm_, .int (nI c.length), .int (bI tk), .int (nI k0), .int (nI n0), .ref sv, .int (nI s0.length), .ref md, .int (nI ((joL k T n B pp).length)), .ref fmm, .ref lc, .ref lz, .ref af, .ref pt_, .int (nI p.length), .ref oc, .ref ty_, .ref sz_, .ref em])), (md, .inl (g.2.1, 256, .inl fm1_95)), (af, .inl (g.2.1, 256, .inl fa1_95))] H := hP
          have hD : va_D A [(lt, .inl (g.2.1, 256, .inl f)), (er, .inl (g.2.1, 1536, .inl fe)), (el, .inl (g.2.1, 6, .inl fl)), (fmm, .inl (g.2.2.1, 256, .inl (mf q))), (lc, .inl (g.2.1, 256, .inl fc_)), (lz, .inl (g.2.1, 256, .inl fx)), (m0, .inr (11, [.int (nI k), .int (nI n), .ref lt, .int (nI s.length), .ref er, .ref el, .int (nI h.length), .ref cm_, .int (nI c.length), .int (bI tk), .int (nI k0), .int (nI n0), .ref sv, .int (nI s0.length), .ref md, .int (nI ((joL k T n B pp).length)), .ref fmm, .ref lc, .ref lz, .ref af, .ref pt_, .int (nI p.length), .ref oc, .ref ty_, .ref sz_, .ref em])), (md, .inl (g.2.1, 256, .inl fm1_95)), (af, .inl (g.2.1, 256, .inl fa1_95))] := hD
          try dsimp only at hw95
          have hP : PP g [(lt, .inl (g.2.1, 256, .inl f)), (er, .inl (g.2.1, 1536, .inl fe)), (el, .inl (g.2.1, 6, .inl fl)), (fmm, .inl (g.2.2.1, 256, .inl (mf q))), (lc, .inl (g.2.1, 256, .inl fc_)), (lz, .inl (g.2.1, 256, .inl fx)), (m0, .inr (11, [.int (nI k), .int (nI n), .ref lt, .int (nI s.length), .ref er, .ref el, .int (nI h.length), .ref cm_, .int (nI c.length), .int (bI tk), .int (nI k0), .int (nI n0), .ref sv, .int (nI s0.length), .ref md, .int (nI ((conL k T n B 3 pp).length)), .ref fmm, .ref lc, .ref lz, .ref af, .ref pt_, .int (nI p.length), .ref oc, .ref ty_, .ref sz_, .ref em])), (md, .inl (g.2.1, 256, .inl fm1_95)), (af, .inl (g.2.1, 256, .inl fa1_95))] H := by exact hP
          have hD : va_D A [(lt, .inl (g.2.1, 256, .inl f)), (er, .inl (g.2.1, 1536, .inl fe)), (el, .inl (g.2.1, 6, .inl fl)), (fmm, .inl (g.2.2.1, 256, .inl (mf q))), (lc, .inl (g.2.1, 256, .inl fc_)), (lz, .inl (g.2.1, 256, .inl fx)), (m0, .inr (11, [.int (nI k), .int (nI n), .ref lt, .int (nI s.length), .ref er, .ref el, .int (nI h.length), .ref cm_, .int (nI c.length), .int (bI tk), .int (nI k0), .int (nI n0), .ref sv, .int (nI s0.length), .ref md, .int (nI ((conL k T n B 3 pp).length)), .ref fmm, .ref lc, .ref lz, .ref af, .ref pt_, .int (nI p.length), .ref oc, .ref ty_, .ref sz_, .ref em])), (md, .inl (g.2.1, 256, .inl fm1_95)), (af, .inl (g.2.1, 256, .inl fa1_95))] := by exact hD
          refine lv_aload_n X.1 X.2.1 dX12_construct_98 rfl (lv_at hl 0 rfl) ?_
          refine (m_edit g m0 lt er el cm_ sv md fmm lc lz af pt_ oc ty_ sz_ em k n s h c tk k0 n0 s0 (conL k T n B 3 pp) p f fe fl fm1_95 (by omega) (by assumption) (by have := con_len hc 3 pp; omega) ((show rep _ (conL k T n B 3 pp) from hw95)) (by assumption)).callV (rest := []) (wr := [(fmm, .inl (g.2.2.1, 256, .inl (mf q))), (lc, .inl (g.2.1, 256, .inl fc_)), (lz, .inl (g.2.1, 256, .inl fx)), (af, .inl (g.2.1, 256, .inl fa1_95))]) X dX12_construct_99 q1194 tX12_edit hK hP hD hS hA [6, 0, 1, 2, 7] [3, 4, 5, 8] (by decide) rfl rfl (by decide) (by decide) 0 11 rfl rfl rfl hl ⟨⟨Nat.le_of_ble_eq_true rfl, Nat.le_of_ble_eq_true rfl⟩, Nat.le_of_ble_eq_true rfl, Nat.le_of_ble_eq_true rfl⟩ rfl rfl (Nat.le_of_ble_eq_true rfl) (fun u99 H locs hw99 hP hD hS => ?_)
          obtain ⟨f1_99, fe1_99, fl1_99⟩ := u99
          have hP : PP g [(fmm, .inl (g.2.2.1, 256, .inl (mf q))), (lc, .inl (g.2.1, 256, .inl fc_)), (lz, .inl (g.2.1, 256, .inl fx)), (af, .inl (g.2.1, 256, .inl fa1_95)), (m0, .inr (11, [.int (nI k), .int (nI n), .ref lt, .int (nI ((conL k T n B 3 pp).length)), .ref er, .ref el, .int (nI (((s :: h).take 6).length)), .ref cm_, .int (nI c.length), .int (bI tk), .int (nI k0), .int (nI n0), .ref sv, .int (nI s0.length), .ref md, .int (nI ((conL k T n B 3 pp).length)), .ref fmm, .ref lc, .ref lz, .ref af, .ref pt_, .int (nI p.length), .ref oc, .ref ty_, .ref sz_, .ref em])), (lt, .inl (g.2.1, 256, .inl f1_99)), (er, .inl (g.2.1, 1536, .inl fe1_99)), (el, .inl (g.2.1, 6, .inl fl1_99)), (md, .inl (g.2.1, 256, .inl fm1_95))] H := hP
          have hD : va_D A [(fmm, .inl (g.2.2.1, 256, .inl (mf q))), (lc, .inl (g.2.1, 256, .inl fc_)), (lz, .inl (g.2.1, 256, .inl fx)), (af, .inl (g.2.1, 256, .inl fa1_95)), (m0, .inr (11, [.int (nI k), .int (nI n), .ref lt, .int (nI ((conL k T n B 3 pp).length)), .ref er, .ref el, .int (nI (((s :: h).take 6).length)), .ref cm_, .int (nI c.length), .int (bI tk), .int (nI k0), .int (nI n0), .ref sv, .int (nI s0.length), .ref md, .int (nI ((conL k T n B 3 pp).length)), .ref fmm, .ref lc, .ref lz, .ref af, .ref pt_, .int (nI p.length), .ref oc, .ref ty_, .ref sz_, .ref em])), (lt, .inl (g.2.1, 256, .inl f1_99)), (er, .inl (g.2.1, 1536, .inl fe1_99)), (el, .inl (g.2.1, 6, .inl fl1_99)), (md, .inl (g.2.1, 256, .inl fm1_95))] := hD
          try dsimp only at hw99
          refine lv_aload_n X.1 X.2.1 dX12_construct_102 rfl (lv_at hl 0 rfl) ?_
          refine va_get (D := g.1) (ci := 11) (v := .int (nI ((conL k T n B 3 pp).length))) (C := RX12) (T := TX12) (N := 26) X.1 X.2.1 X.2.2.2.2 iwX12 X.2.2.2.1 hK hP 4 rfl rfl 3 (by decide) (X.2.2.2.2 _ q1023) (fun _ h9 => h9) rfl dX12_construct_103 ?_
          exact MuI.ret X hr hlk hK hS dX12_construct_106 (nI_nar _) (f1_99, fe1_99, fl1_99, fm1_95, q, fc_, fx, fa1_95) (hP.sub [4, 5, 6, 7, 8, 0, 1, 2, 3] rfl) (hD.sub [4, 5, 6, 7, 8, 0, 1, 2, 3] (by decide) rfl) (⟨rfl, hw99⟩)
        · exfalso; have h6 := of_decide_eq_false c34; rw [nI_toInt (by omega)] at h6; omega

set_option maxHeartbeats 4000000 in
set_option maxRecDepth 100000 in
theorem m_construct_no (g : G5) (m0 : Nat) (lt : Nat) (er : Nat) (el : Nat) (cm_ : Nat) (sv : Nat) (md : Nat) (fmm : Nat) (lc : Nat) (lz : Nat) (af : Nat) (pt_ : Nat) (oc : Nat) (ty_ : Nat) (sz_ : Nat) (em : Nat) (k : Nat) (n : Nat) (s : List Nat) (h : List (List Nat)) (c : List Nat) (tk : Bool) (k0 : Nat) (n0 : Nat) (s0 : List Nat) (z : List Nat) (p : List Int) (B : Nat) (T : Nat) (x : Int32) (y : Int32) (hc : shp k n B T) (hno : ¬ (0 ≤ x.toInt ∧ x.toInt ≤ 3) ∨ (x.toInt = 3 ∧ ¬ (0 ≤ y.toInt ∧ y.toInt < (T : Int)))) : PuI yX12_construct cX12_construct 3 (some .int) 6 139 g [.ref m0, .int x, .int y] [(m0, .inr (11, [.int (nI k), .int (nI n), .ref lt, .int (nI s.length), .ref er, .ref el, .int (nI h.length), .ref cm_, .int (nI c.length), .int (bI tk), .int (nI k0), .int (nI n0), .ref sv, .int (nI s0.length), .ref md, .int (nI z.length), .ref fmm, .ref lc, .ref lz, .ref af, .ref pt_, .int (nI p.length), .ref oc, .ref ty_, .ref sz_, .ref em]))] (-1) := by
  refine PuI.of (by decide +kernel) (Nat.le_of_ble_eq_true rfl) ?_
  intro p_ l_ e_ S_ m_ args below meth co X hr hlk hP hK ls hl
  have X : CallFix p_ m_ co cX12_construct 3 S_ args lw_all RX12 := X
  have hl : lv_has ls 3 [(0, .ref m0), (1, .int x), (2, .int y)] := hl
  obtain ⟨hk2, hk4, hn1, hn6, hB, hT, hBT, hT2⟩ := hc.f
  have hB0 : 0 < B := by rw [hBT]; exact Nat.mul_pos (by omega) (by omega)
  refine lv_iload_n X.1 X.2.1 dX12_construct_0 rfl (lv_at hl 1 rfl) ?_
  refine lv_iconst (v := (nI 0)) X.1 X.2.1 dX12_construct_1 (by decide) ?_
  refine lv_iconst (v := (nI 3)) X.1 X.2.1 dX12_construct_2 (by decide) ?_
  refine (c_inN g x 0 3 (by omega) (by omega)).callS (rest := []) X dX12_construct_3 q1103 tX12_in hK (hP.sub [] rfl) hl ⟨⟨Nat.le_of_ble_eq_true rfl, Nat.le_of_ble_eq_true rfl⟩, Nat.le_of_ble_eq_true rfl, Nat.le_of_ble_eq_true rfl⟩ rfl rfl (Nat.le_of_ble_eq_true rfl) ?_
  refine b_if_eq (tgt := 37) X dX12_construct_6 (by decide) (fun c6 => ?_) (fun c6 => ?_)
  · refine lv_iconst (v := (-1)) X.1 X.2.1 dX12_construct_37 (by decide) ?_
    exact PuI.ret X hr hlk dX12_construct_38 (nI_nar _) (rfl)
  · have h5 := of_decide_eq_true c6
    refine lv_iload_n X.1 X.2.1 dX12_construct_9 rfl (lv_at hl 1 rfl) ?_
    refine lv_iconst (v := (nI 3)) X.1 X.2.1 dX12_construct_10 (by decide) ?_
    refine z_icmp_ne (tgt := 39) X dX12_construct_11 (by decide) rfl (nI_toInt (by omega)) (fun c11 => ?_) (fun c11 => ?_)
    · exfalso; omega
    · refine lv_iload_n X.1 X.2.1 dX12_construct_14 rfl (lv_at hl 2 rfl) ?_
      refine lv_iconst (v := (nI 0)) X.1 X.2.1 dX12_construct_15 (by decide) ?_
      refine lv_aload_n X.1 X.2.1 dX12_construct_16 rfl (lv_at hl 0 rfl) ?_
      refine va_get (D := g.1) (ci := 11) (v := .int (nI k)) (C := RX12) (T := TX12) (N := 26) X.1 X.2.1 X.2.2.2.2 iwX12 X.2.2.2.1 hK hP 0 rfl rfl 0 (by decide) (X.2.2.2.2 _ q1020) (fun _ h9 => h9) rfl dX12_construct_17 ?_
      refine lv_aload_n X.1 X.2.1 dX12_construct_20 rfl (lv_at hl 0 rfl) ?_
      refine va_get (D := g.1) (ci := 11) (v := .int (nI n)) (C := RX12) (T := TX12) (N := 26) X.1 X.2.1 X.2.2.2.2 iwX12 X.2.2.2.1 hK hP 0 rfl rfl 1 (by decide) (X.2.2.2.2 _ q1021) (fun _ h9 => h9) rfl dX12_construct_21 ?_
      refine lv_iconst (v := (nI 1)) X.1 X.2.1 dX12_construct_24 (by decide) ?_
      refine n_sub X dX12_construct_25 (by omega) ?_
      refine (c_mpower g k (n - 1) (by omega)).callS (rest := [.int (nI 0), .int y]) X dX12_construct_26 q1106 tX12_power hK (hP.sub [] rfl) hl ⟨⟨Nat.le_of_ble_eq_true rfl, Nat.le_of_ble_eq_true rfl⟩, Nat.le_of_ble_eq_true rfl, Nat.le_of_ble_eq_true rfl⟩ rfl rfl (Nat.le_of_ble_eq_true rfl) ?_
      refine tp_i (y := (nI T)) (by rw [hc.2.2]) ?_
      refine lv_iconst (v := (nI 1)) X.1 X.2.1 dX12_construct_29 (by decide) ?_
      refine n_sub X dX12_construct_30 (by omega) ?_
      refine (c_inN g y 0 (T - 1) (by omega) (by omega)).callS (rest := []) X dX12_construct_31 q1103 tX12_in hK (hP.sub [] rfl) hl ⟨⟨Nat.le_of_ble_eq_true rfl, Nat.le_of_ble_eq_true rfl⟩, Nat.le_of_ble_eq_true rfl, Nat.le_of_ble_eq_true rfl⟩ rfl rfl (Nat.le_of_ble_eq_true rfl) ?_
      refine b_if_ne (tgt := 39) X dX12_construct_34 (by decide) (fun c34 => ?_) (fun c34 => ?_)
      · exfalso; have h6 := of_decide_eq_true c34; omega
      · refine lv_iconst (v := (-1)) X.1 X.2.1 dX12_construct_37 (by decide) ?_
        exact PuI.ret X hr hlk dX12_construct_38 (nI_nar _) (rfl)

set_option maxHeartbeats 4000000 in
set_option maxRecDepth 100000 in
theorem m_begins (g : G5) (adK adV : Nat → Nat) (fm : Value) (m0 : Nat) (lt : Nat) (er : Nat) (el : Nat) (cm_ : Nat) (sv : Nat) (md : Nat) (fmm : Nat) (lc : Nat) (lz : Nat) (af : Nat) (pt_ : Nat) (oc : Nat) (ty_ : Nat) (sz_ : Nat) (em : Nat) (k : Nat) (n : Nat) (s : List Nat) (h : List (List Nat)) (c : List Nat) (tk : Bool) (k0 : Nat) (n0 : Nat) (s0 : List Nat) (z : List Nat) (p : List Int) (fc : Nat → Int32) (w : List Nat) (i : Nat) (e : Nat) (hw : w.length ≤ 20) (hfw : rep fc w) (hbw : bch w) (hi : i < 4) (he : e = ceN w) : PuE yX12_begins cX12_begins 5 (some .boolean) 5 106 g adK adV fm [.ref m0, .ref (adK i), .int (nI e)] [(m0, .inr (11, [.int (nI k), .int (nI n), .ref lt, .int (nI s.length), .ref er, .ref el, .int (nI h.length), .ref cm_, .int (nI c.length), .int (bI tk), .int (nI k0), .int (nI n0), .ref sv, .int (nI s0.length), .ref md, .int (nI z.length), .ref fmm, .ref lc, .ref lz, .ref af, .ref pt_, .int (nI p.length), .ref oc, .ref ty_, .ref sz_, .ref em])), (cm_, .inl (g.2.1, 20, .inl fc))] (bI (nmB w i)) := by
  refine PuE.of (by decide +kernel) (Nat.le_of_ble_eq_true rfl) ?_
  intro p_ l_ e_ S_ m_ args below meth co X hr hlk hP hK hE ls hl
  have X : CallFix p_ m_ co cX12_begins 5 S_ args lw_all RX12 := X
  have hl : lv_has ls 5 [(0, .ref m0), (1, .ref (adK i)), (2, .int (nI e))] := hl
  have hlen : lenS.getD i 0 ≤ 8 := lenS_le i
  have hce := ceN_le w
  refine lv_aload_n X.1 X.2.1 dX12_begins_0 rfl (lv_at hl 1 rfl) ?_
  refine (c_s_len g adK adV fm i (by omega)).callV (rest := []) X dX12_begins_1 q1212 tJ0_length_8abf5 hK (hP.sub [] rfl) hE (vk_recv hE.1 (by omega) va_S.rf) hl ⟨⟨Nat.le_of_ble_eq_true rfl, Nat.le_of_ble_eq_true rfl⟩, Nat.le_of_ble_eq_true rfl, Nat.le_of_ble_eq_true rfl⟩ rfl rfl (Nat.le_of_ble_eq_true rfl) ?_
  refine lv_iload_n X.1 X.2.1 dX12_begins_4 rfl (lv_at hl 2 rfl) ?_
  refine z_icmp_ne (tgt := 12) X dX12_begins_5 (by decide) (nI_toInt (by omega)) (nI_toInt (by omega)) (fun c5 => ?_) (fun c5 => ?_)
  · refine lv_iconst (v := (nI 0)) X.1 X.2.1 dX12_begins_12 (by decide) ?_
    refine tp_i (y := bI false) rfl ?_
    refine lv_istore_n (lv' := [(3, .int (bI false)), (0, .ref m0), (1, .ref (adK i)), (2, .int (nI e))]) X.1 X.2.1 dX12_begins_13 rfl hl (by decide) rfl (fun ls hl => ?_)
    refine lv_iconst (v := (nI 0)) X.1 X.2.1 dX12_begins_14 (by decide) ?_
    refine lv_istore (lv' := [(4, .int (nI 0)), (3, .int (bI false)), (0, .ref m0), (1, .ref (adK i)), (2, .int (nI e))]) X.1 X.2.1 dX12_begins_15 hl (by decide) rfl (fun ls hl => ?_)
    have L17 : ∀ (r : Nat) (b : Bool) (t : Nat) (h1 : t + r = e) (hbe : b = true → e = lenS.getD i 0) (hq : (b && nmbL w i r t) = nmB w i) (ls : Array Slot) (hl : lv_has ls 5 [(4, .int (nI t)), (3, .int (bI b)), (0, .ref m0), (1, .ref (adK i)), (2, .int (nI e))]), W p_ l_ e_ { frames := 5, cells := 0, slots := 0, locals := 106 } S_ m_ args below meth co S_.heap [] 0 0 (MQ below (vp_Si (fun r => r = (bI (nmB w i)))) args S_ 0 0 (fun _ => False)) (F0 m_ 17 ls []) := by
      intro r
      induction r with
      | zero =>
        intro b t h1 hbe hq ls hl
        refine lv_iload X.1 X.2.1 dX12_begins_17 (lv_at hl 0 rfl) ?_
        refine lv_iload_n X.1 X.2.1 dX12_begins_19 rfl (lv_at hl 4 rfl) ?_
        refine z_icmp_ge (tgt := 55) X dX12_begins_20 (by decide) (nI_toInt (by omega)) (nI_toInt (by omega)) (fun c20 => ?_) (fun c20 => ?_)
        · refine lv_iload_n X.1 X.2.1 dX12_begins_55 rfl (lv_at hl 1 rfl) ?_
          exact PuI.ret X hr hlk dX12_begins_56 (bI_nar _) (by rw [← hq]; first | (rw [c24]; rfl) | (cases b <;> rfl))
        · exfalso; omega
      | succ r ih17 =>
        intro b t h1 hbe hq ls hl
        refine lv_iload X.1 X.2.1 dX12_begins_17 (lv_at hl 0 rfl) ?_
        refine lv_iload_n X.1 X.2.1 dX12_begins_19 rfl (lv_at hl 4 rfl) ?_
        refine z_icmp_ge (tgt := 55) X dX12_begins_20 (by decide) (nI_toInt (by omega)) (nI_toInt (by omega)) (fun c20 => ?_) (fun c20 => ?_)
        · exfalso; omega
        · refine lv_iload_n X.1 X.2.1 dX12_begins_23 rfl (lv_at hl 1 rfl) ?_
          refine b_if_eq (tgt := 55) X dX12_begins_24 (by decide) (fun c24 => ?_) (fun c24 => ?_)
          · refine lv_iload_n X.1 X.2.1 dX12_begins_55 rfl (lv_at hl 1 rfl) ?_
            exact PuI.ret X hr hlk dX12_begins_56 (bI_nar _) (by rw [← hq]; first | (rw [c24]; rfl) | (cases b <;> rfl))
          · refine lv_aload_n X.1 X.2.1 dX12_begins_27 rfl (lv_at hl 2 rfl) ?_
            refine va_get (D := g.1) (ci := 11) (v := .ref cm_) (C := RX12) (T := TX12) (N := 26) X.1 X.2.1 X.2.2.2.2 iwX12 X.2.2.2.1 hK hP 0 rfl rfl 7 (by decide) (X.2.2.2.2 _ q1027) (fun _ h9 => h9) rfl dX12_begins_28 ?_
            refine lv_iload X.1 X.2.1 dX12_begins_31 (lv_at hl 0 rfl) ?_
            refine n_iald X hK hP 1 0 rfl rfl (by omega) (by decide) dX12_begins_33 ?_
            have hbt := hbw t
            have hle := hbe c24
            refine tp_i (y := (nI (w.getD t 0))) (hfw t (by omega)) ?_
            refine lv_aload_n X.1 X.2.1 dX12_begins_34 rfl (lv_at hl 3 rfl) ?_
            refine lv_iload X.1 X.2.1 dX12_begins_35 (lv_at hl 0 rfl) ?_
            refine (c_s_at g adK adV fm i t (by omega) (by omega)).callV (rest := [.int (nI (w.getD t 0))]) X dX12_begins_37 q1213 tJ0_charAt_5068e hK (hP.sub [] rfl) hE (vk_recv hE.1 (by omega) va_S.rf) hl ⟨⟨Nat.le_of_ble_eq_true rfl, Nat.le_of_ble_eq_true rfl⟩, Nat.le_of_ble_eq_true rfl, Nat.le_of_ble_eq_true rfl⟩ rfl rfl (Nat.le_of_ble_eq_true rfl) ?_
            have hch := (chS_ok i hi t (by omega)).2
            refine z_icmp_ne (tgt := 47) X dX12_begins_40 (by decide) (nI_toInt (by omega)) (nI_toInt (by omega)) (fun c40 => ?_) (fun c40 => ?_)
            · refine lv_iconst (v := (nI 0)) X.1 X.2.1 dX12_begins_47 (by decide) ?_
              refine tp_i (y := bI false) rfl ?_
              refine lv_istore_n (lv' := [(3, .int (bI false)), (4, .int (nI t)), (0, .ref m0), (1, .ref (adK i)), (2, .int (nI e))]) X.1 X.2.1 dX12_begins_48 rfl hl (by decide) rfl (fun ls hl => ?_)
              refine lv_iinc (v := (nI (t + 1))) (lv' := [(4, .int (nI (t + 1))), (3, .int (bI false)), (0, .ref m0), (1, .ref (adK i)), (2, .int (nI e))]) X.1 X.2.1 dX12_begins_49 hl (k := 1) rfl (nI_inc _) (by decide) rfl (fun ls hl => ?_)
              refine lv_goto (tgt := 17) X.1 X.2.1 dX12_begins_52 (by decide) ?_
              exact ih17 false (t + 1) (by omega) (fun h => by first | exact hbe c24 | cases h) (by first | (rw [c24, nmbL, if_pos (by omega)] at hq; exact hq) | (rw [c24, nmbL, if_neg (by omega)] at hq; exact hq) | (rw [c24] at hq; exact hq)) ls (lv_sub hl [0, 1, 2, 3, 4] rfl)
            · refine lv_iconst (v := (nI 1)) X.1 X.2.1 dX12_begins_43 (by decide) ?_
              refine lv_goto (tgt := 48) X.1 X.2.1 dX12_begins_44 (by decide) ?_
              refine tp_i (y := bI true) rfl ?_
              refine lv_istore_n (lv' := [(3, .int (bI true)), (4, .int (nI t)), (0, .ref m0), (1, .ref (adK i)), (2, .int (nI e))]) X.1 X.2.1 dX12_begins_48 rfl hl (by decide) rfl (fun ls hl => ?_)
              refine lv_iinc (v := (nI (t + 1))) (lv' := [(4, .int (nI (t + 1))), (3, .int (bI true)), (0, .ref m0), (1, .ref (adK i)), (2, .int (nI e))]) X.1 X.2.1 dX12_begins_49 hl (k := 1) rfl (nI_inc _) (by decide) rfl (fun ls hl => ?_)
              refine lv_goto (tgt := 17) X.1 X.2.1 dX12_begins_52 (by decide) ?_
              exact ih17 true (t + 1) (by omega) (fun h => by first | exact hbe c24 | cases h) (by first | (rw [c24, nmbL, if_pos (by omega)] at hq; exact hq) | (rw [c24, nmbL, if_neg (by omega)] at hq; exact hq) | (rw [c24] at hq; exact hq)) ls (lv_sub hl [0, 1, 2, 3, 4] rfl)
    exact L17 e false 0 (by omega) (fun h => by first | omega | cases h) (by unfold nmB; first | (rw [if_pos (by omega), show lenS.getD i 0 = e by omega]; rfl) | (rw [if_neg (by omega)]; rfl)) ls (lv_sub hl [0, 1, 2, 3, 4] rfl)
  · refine lv_iconst (v := (nI 1)) X.1 X.2.1 dX12_begins_8 (by decide) ?_
    refine lv_goto (tgt := 13) X.1 X.2.1 dX12_begins_9 (by decide) ?_
    refine tp_i (y := bI true) rfl ?_
    refine lv_istore_n (lv' := [(3, .int (bI true)), (0, .ref m0), (1, .ref (adK i)), (2, .int (nI e))]) X.1 X.2.1 dX12_begins_13 rfl hl (by decide) rfl (fun ls hl => ?_)
    refine lv_iconst (v := (nI 0)) X.1 X.2.1 dX12_begins_14 (by decide) ?_
    refine lv_istore (lv' := [(4, .int (nI 0)), (3, .int (bI true)), (0, .ref m0), (1, .ref (adK i)), (2, .int (nI e))]) X.1 X.2.1 dX12_begins_15 hl (by decide) rfl (fun ls hl => ?_)
    have L17 : ∀ (r : Nat) (b : Bool) (t : Nat) (h1 : t + r = e) (hbe : b = true → e = lenS.getD i 0) (hq : (b && nmbL w i r t) = nmB w i) (ls : Array Slot) (hl : lv_has ls 5 [(4, .int (nI t)), (3, .int (bI b)), (0, .ref m0), (1, .ref (adK i)), (2, .int (nI e))]), W p_ l_ e_ { frames := 5, cells := 0, slots := 0, locals := 106 } S_ m_ args below meth co S_.heap [] 0 0 (MQ below (vp_Si (fun r => r = (bI (nmB w i)))) args S_ 0 0 (fun _ => False)) (F0 m_ 17 ls []) := by
      intro r
      induction r with
      | zero =>
        intro b t h1 hbe hq ls hl
        refine lv_iload X.1 X.2.1 dX12_begins_17 (lv_at hl 0 rfl) ?_
        refine lv_iload_n X.1 X.2.1 dX12_begins_19 rfl (lv_at hl 4 rfl) ?_
        refine z_icmp_ge (tgt := 55) X dX12_begins_20 (by decide) (nI_toInt (by omega)) (nI_toInt (by omega)) (fun c20 => ?_) (fun c20 => ?_)
        · refine lv_iload_n X.1 X.2.1 dX12_begins_55 rfl (lv_at hl 1 rfl) ?_
          exact PuI.ret X hr hlk dX12_begins_56 (bI_nar _) (by rw [← hq]; first | (rw [c24]; rfl) | (cases b <;> rfl))
        · exfalso; omega
      | succ r ih17 =>
        intro b t h1 hbe hq ls hl
        refine lv_iload X.1 X.2.1 dX12_begins_17 (lv_at hl 0 rfl) ?_
        refine lv_iload_n X.1 X.2.1 dX12_begins_19 rfl (lv_at hl 4 rfl) ?_
        refine z_icmp_ge (tgt := 55) X dX12_begins_20 (by decide) (nI_toInt (by omega)) (nI_toInt (by omega)) (fun c20 => ?_) (fun c20 => ?_)
        · exfalso; omega
        · refine lv_iload_n X.1 X.2.1 dX12_begins_23 rfl (lv_at hl 1 rfl) ?_
          refine b_if_eq (tgt := 55) X dX12_begins_24 (by decide) (fun c24 => ?_) (fun c24 => ?_)
          · refine lv_iload_n X.1 X.2.1 dX12_begins_55 rfl (lv_at hl 1 rfl) ?_
            exact PuI.ret X hr hlk dX12_begins_56 (bI_nar _) (by rw [← hq]; first | (rw [c24]; rfl) | (cases b <;> rfl))
          · refine lv_aload_n X.1 X.2.1 dX12_begins_27 rfl (lv_at hl 2 rfl) ?_
            refine va_get (D := g.1) (ci := 11) (v := .ref cm_) (C := RX12) (T := TX12) (N := 26) X.1 X.2.1 X.2.2.2.2 iwX12 X.2.2.2.1 hK hP 0 rfl rfl 7 (by decide) (X.2.2.2.2 _ q1027) (fun _ h9 => h9) rfl dX12_begins_28 ?_
            refine lv_iload X.1 X.2.1 dX12_begins_31 (lv_at hl 0 rfl) ?_
            refine n_iald X hK hP 1 0 rfl rfl (by omega) (by decide) dX12_begins_33 ?_
            have hbt := hbw t
            have hle := hbe c24
            refine tp_i (y := (nI (w.getD t 0))) (hfw t (by omega)) ?_
            refine lv_aload_n X.1 X.2.1 dX12_begins_34 rfl (lv_at hl 3 rfl) ?_
            refine lv_iload X.1 X.2.1 dX12_begins_35 (lv_at hl 0 rfl) ?_
            refine (c_s_at g adK adV fm i t (by omega) (by omega)).callV (rest := [.int (nI (w.getD t 0))]) X dX12_begins_37 q1213 tJ0_charAt_5068e hK (hP.sub [] rfl) hE (vk_recv hE.1 (by omega) va_S.rf) hl ⟨⟨Nat.le_of_ble_eq_true rfl, Nat.le_of_ble_eq_true rfl⟩, Nat.le_of_ble_eq_true rfl, Nat.le_of_ble_eq_true rfl⟩ rfl rfl (Nat.le_of_ble_eq_true rfl) ?_
            have hch := (chS_ok i hi t (by omega)).2
            refine z_icmp_ne (tgt := 47) X dX12_begins_40 (by decide) (nI_toInt (by omega)) (nI_toInt (by omega)) (fun c40 => ?_) (fun c40 => ?_)
            · refine lv_iconst (v := (nI 0)) X.1 X.2.1 dX12_begins_47 (by decide) ?_
              refine tp_i (y := bI false) rfl ?_
              refine lv_istore_n (lv' := [(3, .int (bI false)), (4, .int (nI t)), (0, .ref m0), (1, .ref (adK i)), (2, .int (nI e))]) X.1 X.2.1 dX12_begins_48 rfl hl (by decide) rfl (fun ls hl => ?_)
              refine lv_iinc (v := (nI (t + 1))) (lv' := [(4, .int (nI (t + 1))), (3, .int (bI false)), (0, .ref m0), (1, .ref (adK i)), (2, .int (nI e))]) X.1 X.2.1 dX12_begins_49 hl (k := 1) rfl (nI_inc _) (by decide) rfl (fun ls hl => ?_)
              refine lv_goto (tgt := 17) X.1 X.2.1 dX12_begins_52 (by decide) ?_
              exact ih17 false (t + 1) (by omega) (fun h => by first | exact hbe c24 | cases h) (by first | (rw [c24, nmbL, if_pos (by omega)] at hq; exact hq) | (rw [c24, nmbL, if_neg (by omega)] at hq; exact hq) | (rw [c24] at hq; exact hq)) ls (lv_sub hl [0, 1, 2, 3, 4] rfl)
            · refine lv_iconst (v := (nI 1)) X.1 X.2.1 dX12_begins_43 (by decide) ?_
              refine lv_goto (tgt := 48) X.1 X.2.1 dX12_begins_44 (by decide) ?_
              refine tp_i (y := bI true) rfl ?_
              refine lv_istore_n (lv' := [(3, .int (bI true)), (4, .int (nI t)), (0, .ref m0), (1, .ref (adK i)), (2, .int (nI e))]) X.1 X.2.1 dX12_begins_48 rfl hl (by decide) rfl (fun ls hl => ?_)
              refine lv_iinc (v := (nI (t + 1))) (lv' := [(4, .int (nI (t + 1))), (3, .int (bI true)), (0, .ref m0), (1, .ref (adK i)), (2, .int (nI e))]) X.1 X.2.1 dX12_begins_49 hl (k := 1) rfl (nI_inc _) (by decide) rfl (fun ls hl => ?_)
              refine lv_goto (tgt := 17) X.1 X.2.1 dX12_begins_52 (by decide) ?_
              exact ih17 true (t + 1) (by omega) (fun h => by first | exact hbe c24 | cases h) (by first | (rw [c24, nmbL, if_pos (by omega)] at hq; exact hq) | (rw [c24, nmbL, if_neg (by omega)] at hq; exact hq) | (rw [c24] at hq; exact hq)) ls (lv_sub hl [0, 1, 2, 3, 4] rfl)
    exact L17 e true 0 (by omega) (fun h => by first | omega | cases h) (by unfold nmB; first | (rw [if_pos (by omega), show lenS.getD i 0 = e by omega]; rfl) | (rw [if_neg (by omega)]; rfl)) ls (lv_sub hl [0, 1, 2, 3, 4] rfl)

set_option maxHeartbeats 4000000 in
set_option maxRecDepth 100000 in
theorem m_runCommand_ok (g : G5) (adK adV : Nat → Nat) (fm : Value) (m0 : Nat) (lt : Nat) (er : Nat) (el : Nat) (cm_ : Nat) (sv : Nat) (md : Nat) (fmm : Nat) (lc : Nat) (lz : Nat) (af : Nat) (pt_ : Nat) (oc : Nat) (ty_ : Nat) (sz_ : Nat) (em : Nat) (k : Nat) (n : Nat) (s : List Nat) (h : List (List Nat)) (c : List Nat) (tk : Bool) (k0 : Nat) (n0 : Nat) (s0 : List Nat) (z : List Nat) (p : List Int) (f : Nat → Int32) (fe : Nat → Int32) (fl : Nat → Int32) (fm_ : Nat → Int32) (q : Nat → Bool) (fc_ : Nat → Int32) (fx : Nat → Int32) (fa : Nat → Int32) (B : Nat) (T : Nat) (fc : Nat → Int32) (kd : Nat) (pp : Nat) (hc : shp k n B T) (hs : s.length ≤ 256) (hf : rep f s) (hh : hrm fe fl h) (hcl : c.length ≤ 20) (hfc : rep fc c) (hbc : bch c) (hk : kd < 4) (hkd : kdI c = nI kd) (hp1 : pp < 1000) (hpa : paI c = nI pp) (hp3 : kd = 3 → pp < T) : MuIE (S := (Nat → Int32) × (Nat → Int32) × (Nat → Int32) × (Nat → Int32) × (Nat → Bool) × (Nat → Int32) × (Nat → Int32) × (Nat → Int32)) yX12_runCommand cX12_runCommand 7 (some .int) 7 161 g adK adV fm [.ref m0] [(m0, .inr (11, [.int (nI k), .int (nI n), .ref lt, .int (nI s.length), .ref er, .ref el, .int (nI h.length), .ref cm_, .int (nI c.length), .int (bI tk), .int (nI k0), .int (nI n0), .ref sv, .int (nI s0.length), .ref md, .int (nI z.length), .ref fmm, .ref lc, .ref lz, .ref af, .ref pt_, .int (nI p.length), .ref oc, .ref ty_, .ref sz_, .ref em])), (lt, .inl (g.2.1, 256, .inl f)), (er, .inl (g.2.1, 1536, .inl fe)), (el, .inl (g.2.1, 6, .inl fl)), (md, .inl (g.2.1, 256, .inl fm_)), (fmm, .inl (g.2.2.1, 256, .inl (mf q))), (lc, .inl (g.2.1, 256, .inl fc_)), (lz, .inl (g.2.1, 256, .inl fx)), (af, .inl (g.2.1, 256, .inl fa)), (cm_, .inl (g.2.1, 20, .inl fc))] (fun r u => r = (nI ((conL k T n B kd pp).length)) ∧ rep u.1 (conL k T n B kd pp) ∧ hrm u.2.1 u.2.2.1 ((s :: h).take 6)) (fun u => [(m0, .inr (11, [.int (nI k), .int (nI n), .ref lt, .int (nI ((conL k T n B kd pp).length)), .ref er, .ref el, .int (nI (((s :: h).take 6).length)), .ref cm_, .int (nI (([] : List Nat).length)), .int (bI tk), .int (nI k0), .int (nI n0), .ref sv, .int (nI s0.length), .ref md, .int (nI ((conL k T n B kd pp).length)), .ref fmm, .ref lc, .ref lz, .ref af, .ref pt_, .int (nI p.length), .ref oc, .ref ty_, .ref sz_, .ref em])), (lt, .inl (g.2.1, 256, .inl u.1)), (er, .inl (g.2.1, 1536, .inl u.2.1)), (el, .inl (g.2.1, 6, .inl u.2.2.1)), (md, .inl (g.2.1, 256, .inl u.2.2.2.1)), (fmm, .inl (g.2.2.1, 256, .inl (mf u.2.2.2.2.1))), (lc, .inl (g.2.1, 256, .inl u.2.2.2.2.2.1)), (lz, .inl (g.2.1, 256, .inl u.2.2.2.2.2.2.1)), (af, .inl (g.2.1, 256, .inl u.2.2.2.2.2.2.2)), (cm_, .inl (g.2.1, 20, .inl fc))]) := by
  refine MuIE.of (by decide +kernel) (Nat.le_of_ble_eq_true rfl) ?_
  intro p_ l_ e_ S_ m_ args below meth co X hr hlk hP hK A hA hD hS hE ls hl
  have X : CallFix p_ m_ co cX12_runCommand 7 S_ args lw_all RX12 := X
  have hl : lv_has ls 7 [(0, .ref m0)] := hl
  obtain ⟨hk2, hk4, hn1, hn6, hB, hT, hBT, hT2⟩ := hc.f
  have hB0 : 0 < B := by rw [hBT]; exact Nat.mul_pos (by omega) (by omega)
  have hcel := ceN_le c
  refine lv_aload_n X.1 X.2.1 dX12_runCommand_0 rfl (lv_at hl 0 rfl) ?_
  refine va_get (D := g.1) (ci := 11) (v := .int (nI c.length)) (C := RX12) (T := TX12) (N := 26) X.1 X.2.1 X.2.2.2.2 iwX12 X.2.2.2.1 hK hP 0 rfl rfl 8 (by decide) (X.2.2.2.2 _ q1028) (fun _ h9 => h9) rfl dX12_runCommand_1 ?_
  refine lv_istore_n (lv' := [(1, .int (nI c.length)), (0, .ref m0)]) X.1 X.2.1 dX12_runCommand_4 rfl hl (by decide) rfl (fun ls hl => ?_)
  refine lv_aload_n X.1 X.2.1 dX12_runCommand_5 rfl (lv_at hl 1 rfl) ?_
  refine lv_iconst (v := (nI 0)) X.1 X.2.1 dX12_runCommand_6 (by decide) ?_
  refine va_put (D := g.1) (ci := 11) (v := .int (nI 0)) (ty := .int) (C := RX12) (T := TX12) (N := 26) X.1 X.2.1 X.2.2.2.2 iwX12 tyX12 tyX12_ok nmX12 X.2.2.2.1 hK hP hD hS 0 rfl rfl 8 (by decide) (X.2.2.2.2 _ q1028) (fun _ h9 => h9) rfl (by decide +kernel) rfl rfl (Nat.le_of_ble_eq_true rfl) dX12_runCommand_7 (fun H locs hP hD hS => ?_)
  have hP : PP g [(m0, .inr (11, [.int (nI k), .int (nI n), .ref lt, .int (nI s.length), .ref er, .ref el, .int (nI h.length), .ref cm_, .int (nI 0), .int (bI tk), .int (nI k0), .int (nI n0), .ref sv, .int (nI s0.length), .ref md, .int (nI z.length), .ref fmm, .ref lc, .ref lz, .ref af, .ref pt_, .int (nI p.length), .ref oc, .ref ty_, .ref sz_, .ref em])), (lt, .inl (g.2.1, 256, .inl f)), (er, .inl (g.2.1, 1536, .inl fe)), (el, .inl (g.2.1, 6, .inl fl)), (md, .inl (g.2.1, 256, .inl fm_)), (fmm, .inl (g.2.2.1, 256, .inl (mf q))), (lc, .inl (g.2.1, 256, .inl fc_)), (lz, .inl (g.2.1, 256, .inl fx)), (af, .inl (g.2.1, 256, .inl fa)), (cm_, .inl (g.2.1, 20, .inl fc))] H := hP
  have hD : va_D A [(m0, .inr (11, [.int (nI k), .int (nI n), .ref lt, .int (nI s.length), .ref er, .ref el, .int (nI h.length), .ref cm_, .int (nI 0), .int (bI tk), .int (nI k0), .int (nI n0), .ref sv, .int (nI s0.length), .ref md, .int (nI z.length), .ref fmm, .ref lc, .ref lz, .ref af, .ref pt_, .int (nI p.length), .ref oc, .ref ty_, .ref sz_, .ref em])), (lt, .inl (g.2.1, 256, .inl f)), (er, .inl (g.2.1, 1536, .inl fe)), (el, .inl (g.2.1, 6, .inl fl)), (md, .inl (g.2.1, 256, .inl fm_)), (fmm, .inl (g.2.2.1, 256, .inl (mf q))), (lc, .inl (g.2.1, 256, .inl fc_)), (lz, .inl (g.2.1, 256, .inl fx)), (af, .inl (g.2.1, 256, .inl fa)), (cm_, .inl (g.2.1, 20, .inl fc))] := hD
  have hP : PP g [(m0, .inr (11, [.int (nI k), .int (nI n), .ref lt, .int (nI s.length), .ref er, .ref el, .int (nI h.length), .ref cm_, .int (nI (([] : List Nat).length)), .int (bI tk), .int (nI k0), .int (nI n0), .ref sv, .int (nI s0.length), .ref md, .int (nI z.length), .ref fmm, .ref lc, .ref lz, .ref af, .ref pt_, .int (nI p.length), .ref oc, .ref ty_, .ref sz_, .ref em])), (lt, .inl (g.2.1, 256, .inl f)), (er, .inl (g.2.1, 1536, .inl fe)), (el, .inl (g.2.1, 6, .inl fl)), (md, .inl (g.2.1, 256, .inl fm_)), (fmm, .inl (g.2.2.1, 256, .inl (mf q))), (lc, .inl (g.2.1, 256, .inl fc_)), (lz, .inl (g.2.1, 256, .inl fx)), (af, .inl (g.2.1, 256, .inl fa)), (cm_, .inl (g.2.1, 20, .inl fc))] H := by exact hP
  have hD : va_D A [(m0, .inr (11, [.int (nI k), .int (nI n), .ref lt, .int (nI s.length), .ref er, .ref el, .int (nI h.length), .ref cm_, .int (nI (([] : List Nat).length)), .int (bI tk), .int (nI k0), .int (nI n0), .ref sv, .int (nI s0.length), .ref md, .int (nI z.length), .ref fmm, .ref lc, .ref lz, .ref af, .ref pt_, .int (nI p.length), .ref oc, .ref ty_, .ref sz_, .ref em])), (lt, .inl (g.2.1, 256, .inl f)), (er, .inl (g.2.1, 1536, .inl fe)), (el, .inl (g.2.1, 6, .inl fl)), (md, .inl (g.2.1, 256, .inl fm_)), (fmm, .inl (g.2.2.1, 256, .inl (mf q))), (lc, .inl (g.2.1, 256, .inl fc_)), (lz, .inl (g.2.1, 256, .inl fx)), (af, .inl (g.2.1, 256, .inl fa)), (cm_, .inl (g.2.1, 20, .inl fc))] := by exact hD
  refine lv_iconst (v := (nI 0)) X.1 X.2.1 dX12_runCommand_10 (by decide) ?_
  refine lv_istore_n (lv' := [(2, .int (nI 0)), (1, .int (nI c.length)), (0, .ref m0)]) X.1 X.2.1 dX12_runCommand_11 rfl hl (by decide) rfl (fun ls hl => ?_)
  have L12 : ∀ (r : Nat) (i : Nat) (h1 : i + r = c.length) (hq : (firstL (isCol c) r i).getD c.length = ceN c) (ls : Array Slot) (hl : lv_has ls 7 [(2, .int (nI i)), (1, .int (nI c.length)), (0, .ref m0)]), W p_ l_ e_ { frames := 7, cells := 0, slots := 0, locals := 161 } S_ m_ args below meth co H locs 0 0 (MQ below (va_Qi (S := (Nat → Int32) × (Nat → Int32) × (Nat → Int32) × (Nat → Int32) × (Nat → Bool) × (Nat → Int32) × (Nat → Int32) × (Nat → Int32)) (fun r u => r = (nI ((conL k T n B kd pp).length)) ∧ rep u.1 (conL k T n B kd pp) ∧ hrm u.2.1 u.2.2.1 ((s :: h).take 6)) (MuB g A (fun u => [(m0, .inr (11, [.int (nI k), .int (nI n), .ref lt, .int (nI ((conL k T n B kd pp).length)), .ref er, .ref el, .int (nI (((s :: h).take 6).length)), .ref cm_, .int (nI (([] : List Nat).length)), .int (bI tk), .int (nI k0), .int (nI n0), .ref sv, .int (nI s0.length), .ref md, .int (nI ((conL k T n B kd pp).length)), .ref fmm, .ref lc, .ref lz, .ref af, .ref pt_, .int (nI p.length), .ref oc, .ref ty_, .ref sz_, .ref em])), (lt, .inl (g.2.1, 256, .inl u.1)), (er, .inl (g.2.1, 1536, .inl u.2.1)), (el, .inl (g.2.1, 6, .inl u.2.2.1)), (md, .inl (g.2.1, 256, .inl u.2.2.2.1)), (fmm, .inl (g.2.2.1, 256, .inl (mf u.2.2.2.2.1))), (lc, .inl (g.2.1, 256, .inl u.2.2.2.2.2.1)), (lz, .inl (g.2.1, 256, .inl u.2.2.2.2.2.2.1)), (af, .inl (g.2.1, 256, .inl u.2.2.2.2.2.2.2)), (cm_, .inl (g.2.1, 20, .inl fc))])) A) args S_ 0 0 A) (F0 m_ 12 ls []) := by
    intro r
    induction r with
    | zero =>
      intro i h1 hq ls hl
      refine lv_iload_n X.1 X.2.1 dX12_runCommand_12 rfl (lv_at hl 0 rfl) ?_
      refine lv_iload_n X.1 X.2.1 dX12_runCommand_13 rfl (lv_at hl 1 rfl) ?_
      refine z_icmp_ge (tgt := 34) X dX12_runCommand_14 (by decide) (nI_toInt (by omega)) (nI_toInt (by omega)) (fun c14 => ?_) (fun c14 => ?_)
      · have hce : i = ceN c := by first | (have h9 : c.length = ceN c := hq; omega) | (rw [firstL, isCol, decide_eq_true (by omega)] at hq; exact hq)
        refine lv_aload_n X.1 X.2.1 dX12_runCommand_34 rfl (lv_at hl 2 rfl) ?_
        refine va_ldcS (q := adK 0) X.1 X.2.1 X.2.2.2.1 (hE.2.2.2.2.2.1) dX12_runCommand_35 ?_
        refine lv_iload_n X.1 X.2.1 dX12_runCommand_37 rfl (lv_at hl 0 rfl) ?_
        refine (m_begins g adK adV fm m0 lt er el cm_ sv md fmm lc lz af pt_ oc ty_ sz_ em k n s h ([] : List Nat) tk k0 n0 s0 z p fc c 0 i (by omega) (by assumption) (by assumption) (by omega) (hce)).callV (rest := []) X dX12_runCommand_38 q1208 tX12_begins hK (hP.sub [0, 9] rfl) ((hE.kept hS.2.1).narrow (fun _ h => h.elim)) (va_recv hK (hP.sub [0, 9] rfl) (ci := 11) (q0 := 0) rfl rfl) hl ⟨⟨Nat.le_of_ble_eq_true rfl, Nat.le_of_ble_eq_true rfl⟩, Nat.le_of_ble_eq_true rfl, Nat.le_of_ble_eq_true rfl⟩ rfl rfl (Nat.le_of_ble_eq_true rfl) ?_
        refine b_if_eq (tgt := 48) X dX12_runCommand_41 (by decide) (fun c41 => ?_) (fun c41 => ?_)
        · refine lv_aload_n X.1 X.2.1 dX12_runCommand_48 rfl (lv_at hl 2 rfl) ?_
          refine va_ldcS (q := adK 1) X.1 X.2.1 X.2.2.2.1 (hE.2.2.2.2.2.2.1) dX12_runCommand_49 ?_
          refine lv_iload_n X.1 X.2.1 dX12_runCommand_51 rfl (lv_at hl 0 rfl) ?_
          refine (m_begins g adK adV fm m0 lt er el cm_ sv md fmm lc lz af pt_ oc ty_ sz_ em k n s h ([] : List Nat) tk k0 n0 s0 z p fc c 1 i (by omega) (by assumption) (by assumption) (by omega) (hce)).callV (rest := []) X dX12_runCommand_52 q1208 tX12_begins hK (hP.sub [0, 9] rfl) ((hE.kept hS.2.1).narrow (fun _ h => h.elim)) (va_recv hK (hP.sub [0, 9] rfl) (ci := 11) (q0 := 0) rfl rfl) hl ⟨⟨Nat.le_of_ble_eq_true rfl, Nat.le_of_ble_eq_true rfl⟩, Nat.le_of_ble_eq_true rfl, Nat.le_of_ble_eq_true rfl⟩ rfl rfl (Nat.le_of_ble_eq_true rfl) ?_
          refine b_if_eq (tgt := 62) X dX12_runCommand_55 (by decide) (fun c55 => ?_) (fun c55 => ?_)
          · refine lv_aload_n X.1 X.2.1 dX12_runCommand_62 rfl (lv_at hl 2 rfl) ?_
            refine va_ldcS (q := adK 2) X.1 X.2.1 X.2.2.2.1 (hE.2.2.2.2.2.2.2.1) dX12_runCommand_63 ?_
            refine lv_iload_n X.1 X.2.1 dX12_runCommand_65 rfl (lv_at hl 0 rfl) ?_
            refine (m_begins g adK adV fm m0 lt er el cm_ sv md fmm lc lz af pt_ oc ty_ sz_ em k n s h ([] : List Nat) tk k0 n0 s0 z p fc c 2 i (by omega) (by assumption) (by assumption) (by omega) (hce)).callV (rest := []) X dX12_runCommand_66 q1208 tX12_begins hK (hP.sub [0, 9] rfl) ((hE.kept hS.2.1).narrow (fun _ h => h.elim)) (va_recv hK (hP.sub [0, 9] rfl) (ci := 11) (q0 := 0) rfl rfl) hl ⟨⟨Nat.le_of_ble_eq_true rfl, Nat.le_of_ble_eq_true rfl⟩, Nat.le_of_ble_eq_true rfl, Nat.le_of_ble_eq_true rfl⟩ rfl rfl (Nat.le_of_ble_eq_true rfl) ?_
            refine b_if_eq (tgt := 76) X dX12_runCommand_69 (by decide) (fun c69 => ?_) (fun c69 => ?_)
            · refine lv_aload_n X.1 X.2.1 dX12_runCommand_76 rfl (lv_at hl 2 rfl) ?_
              refine va_ldcS (q := adK 3) X.1 X.2.1 X.2.2.2.1 (hE.2.2.2.2.2.2.2.2) dX12_runCommand_77 ?_
              refine lv_iload_n X.1 X.2.1 dX12_runCommand_79 rfl (lv_at hl 0 rfl) ?_
              refine (m_begins g adK adV fm m0 lt er el cm_ sv md fmm lc lz af pt_ oc ty_ sz_ em k n s h ([] : List Nat) tk k0 n0 s0 z p fc c 3 i (by omega) (by assumption) (by assumption) (by omega) (hce)).callV (rest := []) X dX12_runCommand_80 q1208 tX12_begins hK (hP.sub [0, 9] rfl) ((hE.kept hS.2.1).narrow (fun _ h => h.elim)) (va_recv hK (hP.sub [0, 9] rfl) (ci := 11) (q0 := 0) rfl rfl) hl ⟨⟨Nat.le_of_ble_eq_true rfl, Nat.le_of_ble_eq_true rfl⟩, Nat.le_of_ble_eq_true rfl, Nat.le_of_ble_eq_true rfl⟩ rfl rfl (Nat.le_of_ble_eq_true rfl) ?_
              refine b_if_eq (tgt := 90) X dX12_runCommand_83 (by decide) (fun c83 => ?_) (fun c83 => ?_)
              · refine lv_iconst (v := (-1)) X.1 X.2.1 dX12_runCommand_90 (by decide) ?_
                exfalso
                have hk9 : kdI c = (-6) := by unfold kdI; simp [kdL, c41, c55, c69, c83]
                rw [hkd] at hk9
                have h8 := congrArg Int32.toInt hk9
                rw [nI_toInt (by omega)] at h8
                have h7 : ((-6) : Int32).toInt = -6 := rfl
                omega
              · refine lv_iconst (v := (nI 3)) X.1 X.2.1 dX12_runCommand_86 (by decide) ?_
                refine lv_goto (tgt := 91) X.1 X.2.1 dX12_runCommand_87 (by decide) ?_
                have hk9 : kdI c = nI 3 := by unfold kdI; simp [kdL, c41, c55, c69, c83]
                refine tp_i (y := (nI kd)) (by rw [← hk9, hkd]) ?_
                refine lv_istore_n (lv' := [(3, .int (nI kd)), (2, .int (nI i)), (1, .int (nI c.length)), (0, .ref m0)]) X.1 X.2.1 dX12_runCommand_91 rfl hl (by decide) rfl (fun ls hl => ?_)
                refine lv_iload_n X.1 X.2.1 dX12_runCommand_92 rfl (lv_at hl 0 rfl) ?_
                refine z_if_ge (tgt := 99) X dX12_runCommand_93 (by decide) (nI_toInt (by omega)) (fun c93 => ?_) (fun c93 => ?_)
                · refine lv_iload_n X.1 X.2.1 dX12_runCommand_99 rfl (lv_at hl 2 rfl) ?_
                  refine lv_iload_n X.1 X.2.1 dX12_runCommand_100 rfl (lv_at hl 1 rfl) ?_
                  refine lv_isub X.1 X.2.1 dX12_runCommand_101 ?_
                  refine tp_i (y := (iI (((c.length : Nat) : Int) - ((i : Nat) : Int)))) (by first | rw [iI_sub] | rw [nI_iI, nI_iI, iI_sub] | rw [nI_iI, iI_sub]) ?_
                  refine lv_iconst (v := (nI 1)) X.1 X.2.1 dX12_runCommand_102 (by decide) ?_
                  refine lv_isub X.1 X.2.1 dX12_runCommand_103 ?_
                  refine tp_i (y := (iI ((((c.length : Nat) : Int) - ((i : Nat) : Int)) - ((1 : Nat) : Int)))) (by first | rw [iI_sub] | rw [nI_iI, nI_iI, iI_sub] | rw [nI_iI, iI_sub]) ?_
                  refine lv_istore (lv' := [(4, .int (iI ((((c.length : Nat) : Int) - ((i : Nat) : Int)) - ((1 : Nat) : Int)))), (3, .int (nI kd)), (2, .int (nI i)), (1, .int (nI c.length)), (0, .ref m0)]) X.1 X.2.1 dX12_runCommand_104 hl (by decide) rfl (fun ls hl => ?_)
                  refine lv_iload_n X.1 X.2.1 dX12_runCommand_106 rfl (lv_at hl 2 rfl) ?_
                  refine lv_iload_n X.1 X.2.1 dX12_runCommand_107 rfl (lv_at hl 3 rfl) ?_
                  refine z_icmp_ge (tgt := 123) X dX12_runCommand_108 (by decide) (nI_toInt (by omega)) (nI_toInt (by omega)) (fun c108 => ?_) (fun c108 => ?_)
                  · refine lv_iconst (v := (nI 0)) X.1 X.2.1 dX12_runCommand_123 (by decide) ?_
                    refine lv_istore (lv' := [(5, .int (nI 0)), (4, .int (iI ((((c.length : Nat) : Int) - ((i : Nat) : Int)) - ((1 : Nat) : Int)))), (3, .int (nI kd)), (2, .int (nI i)), (1, .int (nI c.length)), (0, .ref m0)]) X.1 X.2.1 dX12_runCommand_124 hl (by decide) rfl (fun ls hl => ?_)
                    refine lv_iload_n X.1 X.2.1 dX12_runCommand_126 rfl (lv_at hl 3 rfl) ?_
                    refine lv_iconst (v := (nI 1)) X.1 X.2.1 dX12_runCommand_127 (by decide) ?_
                    refine n_add X dX12_runCommand_128 ?_
                    refine lv_istore (lv' := [(6, .int (nI (i + 1))), (5, .int (nI 0)), (4, .int (iI ((((c.length : Nat) : Int) - ((i : Nat) : Int)) - ((1 : Nat) : Int)))), (3, .int (nI kd)), (2, .int (nI i)), (1, .int (nI c.length)), (0, .ref m0)]) X.1 X.2.1 dX12_runCommand_129 hl (by decide) rfl (fun ls hl => ?_)
                    have L131 : ∀ (rn : Nat) (v : Nat) (t : Nat) (h2 : t + rn = c.length ∨ (rn = 0 ∧ t = c.length + 1 ∧ i = c.length)) (hti : i < t) (hvb : (t = i + 1 ∧ v = 0) ∨ (t = i + 2 ∧ v < 10) ∨ (t = i + 3 ∧ v < 100) ∨ (t = i + 4 ∧ v < 1000)) (hqn : nmL c rn t v = paI c) (ls : Array Slot) (hl : lv_has ls 7 [(6, .int (nI t)), (5, .int (nI v)), (4, .int (iI ((((c.length : Nat) : Int) - ((i : Nat) : Int)) - ((1 : Nat) : Int)))), (3, .int (nI kd)), (2, .int (nI i)), (1, .int (nI c.length)), (0, .ref m0)]), W p_ l_ e_ { frames := 7, cells := 0, slots := 0, locals := 161 } S_ m_ args below meth co H locs 0 0 (MQ below (va_Qi (S := (Nat → Int32) × (Nat → Int32) × (Nat → Int32) × (Nat → Int32) × (Nat → Bool) × (Nat → Int32) × (Nat → Int32) × (Nat → Int32)) (fun r u => r = (nI ((conL k T n B kd pp).length)) ∧ rep u.1 (conL k T n B kd pp) ∧ hrm u.2.1 u.2.2.1 ((s :: h).take 6)) (MuB g A (fun u => [(m0, .inr (11, [.int (nI k), .int (nI n), .ref lt, .int (nI ((conL k T n B kd pp).length)), .ref er, .ref el, .int (nI (((s :: h).take 6).length)), .ref cm_, .int (nI (([] : List Nat).length)), .int (bI tk), .int (nI k0), .int (nI n0), .ref sv, .int (nI s0.length), .ref md, .int (nI ((conL k T n B kd pp).length)), .ref fmm, .ref lc, .ref lz, .ref af, .ref pt_, .int (nI p.length), .ref oc, .ref ty_, .ref sz_, .ref em])), (lt, .inl (g.2.1, 256, .inl u.1)), (er, .inl (g.2.1, 1536, .inl u.2.1)), (el, .inl (g.2.1, 6, .inl u.2.2.1)), (md, .inl (g.2.1, 256, .inl u.2.2.2.1)), (fmm, .inl (g.2.2.1, 256, .inl (mf u.2.2.2.2.1))), (lc, .inl (g.2.1, 256, .inl u.2.2.2.2.2.1)), (lz, .inl (g.2.1, 256, .inl u.2.2.2.2.2.2.1)), (af, .inl (g.2.1, 256, .inl u.2.2.2.2.2.2.2)), (cm_, .inl (g.2.1, 20, .inl fc))])) A) args S_ 0 0 A) (F0 m_ 131 ls []) := by
                      intro rn
                      induction rn with
                      | zero =>
                        intro v t h2 hti hvb hqn ls hl
                        refine lv_iload X.1 X.2.1 dX12_runCommand_131 (lv_at hl 0 rfl) ?_
                        refine lv_iload_n X.1 X.2.1 dX12_runCommand_133 rfl (lv_at hl 5 rfl) ?_
                        refine z_icmp_ge (tgt := 180) X dX12_runCommand_134 (by decide) (nI_toInt (by omega)) (nI_toInt (by omega)) (fun c134 => ?_) (fun c134 => ?_)
                        · refine lv_aload_n X.1 X.2.1 dX12_runCommand_180 rfl (lv_at hl 6 rfl) ?_
                          refine lv_iload_n X.1 X.2.1 dX12_runCommand_181 rfl (lv_at hl 3 rfl) ?_
                          refine lv_iload X.1 X.2.1 dX12_runCommand_182 (lv_at hl 1 rfl) ?_
                          have hv9 : nI v = paI c := hqn
                          refine (m_construct_ok g m0 lt er el cm_ sv md fmm lc lz af pt_ oc ty_ sz_ em k n s h ([] : List Nat) tk k0 n0 s0 z p f fe fl fm_ q fc_ fx fa B T kd (nI v) pp (by assumption) (by omega) (by assumption) (by assumption) (by omega) (fun h => ⟨hv9.trans hpa, hp3 h⟩)).callV (rest := []) (wr := [(cm_, .inl (g.2.1, 20, .inl fc))]) X dX12_runCommand_184 q1217 tX12_construct hK hP hD hS hA [0, 1, 2, 3, 4, 5, 6, 7, 8] [9] (by decide) rfl rfl (by decide) (by decide) 0 11 rfl rfl rfl hl ⟨⟨Nat.le_of_ble_eq_true rfl, Nat.le_of_ble_eq_true rfl⟩, Nat.le_of_ble_eq_true rfl, Nat.le_of_ble_eq_true rfl⟩ rfl rfl (Nat.le_of_ble_eq_true rfl) (fun r184 u184 H locs hw184 hP hD hS => ?_)
                          obtain ⟨f1_184, fe1_184, fl1_184, fm1_184, q1_184, fc1_184, fx1_184, fa1_184⟩ := u184
                          have hP : PP g [(cm_, .inl (g.2.1, 20, .inl fc)), (m0, .inr (11, [.int (nI k), .int (nI n), .ref lt, .int (nI ((conL k T n B kd pp).length)), .ref er, .ref el, .int (nI (((s :: h).take 6).length)), .ref cm_, .int (nI (([] : List Nat).length)), .int (bI tk), .int (nI k0), .int (nI n0), .ref sv, .int (nI s0.length), .ref md, .int (nI ((conL k T n B kd pp).length)), .ref fmm, .ref lc, .ref lz, .ref af, .ref pt_, .int (nI p.length), .ref oc, .ref ty_, .ref sz_, .ref em])), (lt, .inl (g.2.1, 256, .inl f1_184)), (er, .inl (g.2.1, 1536, .inl fe1_184)), (el, .inl (g.2.1, 6, .inl fl1_184)), (md, .inl (g.2.1, 256, .inl fm1_184)), (fmm, .inl (g.2.2.1, 256, .inl (mf q1_184))), (lc, .inl (g.2.1, 256, .inl fc1_184)), (lz, .inl (g.2.1, 256, .inl fx1_184)), (af, .inl (g.2.1, 256, .inl fa1_184))] H := hP
                          have hD : va_D A [(cm_, .inl (g.2.1, 20, .inl fc)), (m0, .inr (11, [.int (nI k), .int (nI n), .ref lt, .int (nI ((conL k T n B kd pp).length)), .ref er, .ref el, .int (nI (((s :: h).take 6).length)), .ref cm_, .int (nI (([] : List Nat).length)), .int (bI tk), .int (nI k0), .int (nI n0), .ref sv, .int (nI s0.length), .ref md, .int (nI ((conL k T n B kd pp).length)), .ref fmm, .ref lc, .ref lz, .ref af, .ref pt_, .int (nI p.length), .ref oc, .ref ty_, .ref sz_, .ref em])), (lt, .inl (g.2.1, 256, .inl f1_184)), (er, .inl (g.2.1, 1536, .inl fe1_184)), (el, .inl (g.2.1, 6, .inl fl1_184)), (md, .inl (g.2.1, 256, .inl fm1_184)), (fmm, .inl (g.2.2.1, 256, .inl (mf q1_184))), (lc, .inl (g.2.1, 256, .inl fc1_184)), (lz, .inl (g.2.1, 256, .inl fx1_184)), (af, .inl (g.2.1, 256, .inl fa1_184))] := hD
                          try dsimp only at hw184
                          refine tp_i (y := (nI ((conL k T n B kd pp).length))) (hw184.1) ?_
                          exact MuI.ret X hr hlk hK hS dX12_runCommand_187 (nI_nar _) (f1_184, fe1_184, fl1_184, fm1_184, q1_184, fc1_184, fx1_184, fa1_184) (hP.sub [1, 2, 3, 4, 5, 6, 7, 8, 9, 0] rfl) (hD.sub [1, 2, 3, 4, 5, 6, 7, 8, 9, 0] (by decide) rfl) (⟨rfl, hw184.2⟩)
                        · exfalso; omega
                      | succ rn ih131 =>
                        intro v t h2 hti hvb hqn ls hl
                        refine lv_iload X.1 X.2.1 dX12_runCommand_131 (lv_at hl 0 rfl) ?_
                        refine lv_iload_n X.1 X.2.1 dX12_runCommand_133 rfl (lv_at hl 5 rfl) ?_
                        refine z_icmp_ge (tgt := 180) X dX12_runCommand_134 (by decide) (nI_toInt (by omega)) (nI_toInt (by omega)) (fun c134 => ?_) (fun c134 => ?_)
                        · exfalso; omega
                        · refine lv_aload_n X.1 X.2.1 dX12_runCommand_137 rfl (lv_at hl 6 rfl) ?_
                          refine va_get (D := g.1) (ci := 11) (v := .ref cm_) (C := RX12) (T := TX12) (N := 26) X.1 X.2.1 X.2.2.2.2 iwX12 X.2.2.2.1 hK hP 0 rfl rfl 7 (by decide) (X.2.2.2.2 _ q1027) (fun _ h9 => h9) rfl dX12_runCommand_138 ?_
                          refine lv_iload X.1 X.2.1 dX12_runCommand_141 (lv_at hl 0 rfl) ?_
                          refine n_iald X hK hP 9 0 rfl rfl (by omega) (by decide) dX12_runCommand_143 ?_
                          have hbt := hbc t
                          refine tp_i (y := (nI (c.getD t 0))) (hfc t (by omega)) ?_
                          refine lv_bipush (v := (nI 48)) X.1 X.2.1 dX12_runCommand_144 (by decide) ?_
                          refine lv_bipush (v := (nI 57)) X.1 X.2.1 dX12_runCommand_146 (by decide) ?_
                          refine (c_inN g (nI (c.getD t 0)) 48 57 (by omega) (by omega)).callS (rest := []) X dX12_runCommand_148 q1103 tX12_in hK (hP.sub [] rfl) hl ⟨⟨Nat.le_of_ble_eq_true rfl, Nat.le_of_ble_eq_true rfl⟩, Nat.le_of_ble_eq_true rfl, Nat.le_of_ble_eq_true rfl⟩ rfl rfl (Nat.le_of_ble_eq_true rfl) ?_
                          refine b_if_ne (tgt := 156) X dX12_runCommand_151 (by decide) (fun c151 => ?_) (fun c151 => ?_)
                          · have h4 := of_decide_eq_true c151
                            rw [nI_toInt (by omega)] at h4
                            refine lv_bipush (v := (nI 10)) X.1 X.2.1 dX12_runCommand_156 (by decide) ?_
                            refine lv_iload X.1 X.2.1 dX12_runCommand_158 (lv_at hl 1 rfl) ?_
                            refine n_mul X dX12_runCommand_160 ?_
                            refine lv_aload_n X.1 X.2.1 dX12_runCommand_161 rfl (lv_at hl 6 rfl) ?_
                            refine va_get (D := g.1) (ci := 11) (v := .ref cm_) (C := RX12) (T := TX12) (N := 26) X.1 X.2.1 X.2.2.2.2 iwX12 X.2.2.2.1 hK hP 0 rfl rfl 7 (by decide) (X.2.2.2.2 _ q1027) (fun _ h9 => h9) rfl dX12_runCommand_162 ?_
                            refine lv_iload X.1 X.2.1 dX12_runCommand_165 (lv_at hl 0 rfl) ?_
                            refine n_iald X hK hP 9 0 rfl rfl (by omega) (by decide) dX12_runCommand_167 ?_
                            refine tp_i (y := (nI (c.getD t 0))) (hfc t (by omega)) ?_
                            refine n_add X dX12_runCommand_168 ?_
                            refine lv_bipush (v := (nI 48)) X.1 X.2.1 dX12_runCommand_169 (by decide) ?_
                            refine n_sub X dX12_runCommand_171 (by omega) ?_
                            refine lv_istore (lv' := [(5, .int (nI ((10 * v + (c.getD t 0)) - 48))), (6, .int (nI t)), (4, .int (iI ((((c.length : Nat) : Int) - ((i : Nat) : Int)) - ((1 : Nat) : Int)))), (3, .int (nI kd)), (2, .int (nI i)), (1, .int (nI c.length)), (0, .ref m0)]) X.1 X.2.1 dX12_runCommand_172 hl (by decide) rfl (fun ls hl => ?_)
                            refine lv_iinc (v := (nI (t + 1))) (lv' := [(6, .int (nI (t + 1))), (5, .int (nI ((10 * v + (c.getD t 0)) - 48))), (4, .int (iI ((((c.length : Nat) : Int) - ((i : Nat) : Int)) - ((1 : Nat) : Int)))), (3, .int (nI kd)), (2, .int (nI i)), (1, .int (nI c.length)), (0, .ref m0)]) X.1 X.2.1 dX12_runCommand_174 hl (k := 1) rfl (nI_inc _) (by decide) rfl (fun ls hl => ?_)
                            refine lv_goto (tgt := 131) X.1 X.2.1 dX12_runCommand_177 (by decide) ?_
                            exact ih131 ((10 * v + (c.getD t 0)) - 48) (t + 1) (by omega) (by omega) (by omega) (by rw [nmL, if_pos (by omega)] at hqn; rw [show 10 * v + c.getD t 0 - 48 = v * 10 + (c.getD t 0 - 48) by omega]; exact hqn) ls (lv_sub hl [0, 1, 2, 3, 4, 5, 6] rfl)
                          · have h4 := of_decide_eq_false c151
                            rw [nI_toInt (by omega)] at h4
                            refine lv_iconst (v := (-1)) X.1 X.2.1 dX12_runCommand_154 (by decide) ?_
                            exfalso
                            have h9 : paI c = (-1) := by rw [← hqn, nmL, if_neg (by omega)]
                            rw [hpa] at h9
                            have h8 := congrArg Int32.toInt h9
                            rw [nI_toInt (by omega)] at h8
                            have h7 : ((-1) : Int32).toInt = -1 := rfl
                            omega
                    exact L131 (c.length - (i + 1)) 0 (i + 1) (by omega) (by omega) (by omega) (by unfold paI; first | (rw [if_pos (by omega), show c.length - (i + 1) = 0 by omega]; rfl) | (rw [if_neg (by omega), if_neg (by omega), ← hce])) ls (lv_sub hl [0, 1, 2, 3, 4, 5, 6] rfl)
                  · refine lv_iload X.1 X.2.1 dX12_runCommand_111 (lv_at hl 0 rfl) ?_
                    refine lv_iconst (v := (nI 1)) X.1 X.2.1 dX12_runCommand_113 (by decide) ?_
                    refine lv_iconst (v := (nI 3)) X.1 X.2.1 dX12_runCommand_114 (by decide) ?_
                    refine (c_inN g (iI ((((c.length : Nat) : Int) - ((i : Nat) : Int)) - ((1 : Nat) : Int))) 1 3 (by omega) (by omega)).callS (rest := []) X dX12_runCommand_115 q1103 tX12_in hK (hP.sub [] rfl) hl ⟨⟨Nat.le_of_ble_eq_true rfl, Nat.le_of_ble_eq_true rfl⟩, Nat.le_of_ble_eq_true rfl, Nat.le_of_ble_eq_true rfl⟩ rfl rfl (Nat.le_of_ble_eq_true rfl) ?_
                    refine b_if_ne (tgt := 123) X dX12_runCommand_118 (by decide) (fun c118 => ?_) (fun c118 => ?_)
                    · have h3 := of_decide_eq_true c118
                      rw [iI_toInt (by omega) (by omega)] at h3
                      refine lv_iconst (v := (nI 0)) X.1 X.2.1 dX12_runCommand_123 (by decide) ?_
                      refine lv_istore (lv' := [(5, .int (nI 0)), (4, .int (iI ((((c.length : Nat) : Int) - ((i : Nat) : Int)) - ((1 : Nat) : Int)))), (3, .int (nI kd)), (2, .int (nI i)), (1, .int (nI c.length)), (0, .ref m0)]) X.1 X.2.1 dX12_runCommand_124 hl (by decide) rfl (fun ls hl => ?_)
                      refine lv_iload_n X.1 X.2.1 dX12_runCommand_126 rfl (lv_at hl 3 rfl) ?_
                      refine lv_iconst (v := (nI 1)) X.1 X.2.1 dX12_runCommand_127 (by decide) ?_
                      refine n_add X dX12_runCommand_128 ?_
                      refine lv_istore (lv' := [(6, .int (nI (i + 1))), (5, .int (nI 0)), (4, .int (iI ((((c.length : Nat) : Int) - ((i : Nat) : Int)) - ((1 : Nat) : Int)))), (3, .int (nI kd)), (2, .int (nI i)), (1, .int (nI c.length)), (0, .ref m0)]) X.1 X.2.1 dX12_runCommand_129 hl (by decide) rfl (fun ls hl => ?_)
                      have L131 : ∀ (rn : Nat) (v : Nat) (t : Nat) (h2 : t + rn = c.length ∨ (rn = 0 ∧ t = c.length + 1 ∧ i = c.length)) (hti : i < t) (hvb : (t = i + 1 ∧ v = 0) ∨ (t = i + 2 ∧ v < 10) ∨ (t = i + 3 ∧ v < 100) ∨ (t = i + 4 ∧ v < 1000)) (hqn : nmL c rn t v = paI c) (ls : Array Slot) (hl : lv_has ls 7 [(6, .int (nI t)), (5, .int (nI v)), (4, .int (iI ((((c.length : Nat) : Int) - ((i : Nat) : Int)) - ((1 : Nat) : Int)))), (3, .int (nI kd)), (2, .int (nI i)), (1, .int (nI c.length)), (0, .ref m0)]), W p_ l_ e_ { frames := 7, cells := 0, slots := 0, locals := 161 } S_ m_ args below meth co H locs 0 0 (MQ below (va_Qi (S := (Nat → Int32) × (Nat → Int32) × (Nat → Int32) × (Nat → Int32) × (Nat → Bool) × (Nat → Int32) × (Nat → Int32) × (Nat → Int32)) (fun r u => r = (nI ((conL k T n B kd pp).length)) ∧ rep u.1 (conL k T n B kd pp) ∧ hrm u.2.1 u.2.2.1 ((s :: h).take 6)) (MuB g A (fun u => [(m0, .inr (11, [.int (nI k), .int (nI n), .ref lt, .int (nI ((conL k T n B kd pp).length)), .ref er, .ref el, .int (nI (((s :: h).take 6).length)), .ref cm_, .int (nI (([] : List Nat).length)), .int (bI tk), .int (nI k0), .int (nI n0), .ref sv, .int (nI s0.length), .ref md, .int (nI ((conL k T n B kd pp).length)), .ref fmm, .ref lc, .ref lz, .ref af, .ref pt_, .int (nI p.length), .ref oc, .ref ty_, .ref sz_, .ref em])), (lt, .inl (g.2.1, 256, .inl u.1)), (er, .inl (g.2.1, 1536, .inl u.2.1)), (el, .inl (g.2.1, 6, .inl u.2.2.1)), (md, .inl (g.2.1, 256, .inl u.2.2.2.1)), (fmm, .inl (g.2.2.1, 256, .inl (mf u.2.2.2.2.1))), (lc, .inl (g.2.1, 256, .inl u.2.2.2.2.2.1)), (lz, .inl (g.2.1, 256, .inl u.2.2.2.2.2.2.1)), (af, .inl (g.2.1, 256, .inl u.2.2.2.2.2.2.2)), (cm_, .inl (g.2.1, 20, .inl fc))])) A) args S_ 0 0 A) (F0 m_ 131 ls []) := by
                        intro rn
                        induction rn with
                        | zero =>
                          intro v t h2 hti hvb hqn ls hl
                          refine lv_iload X.1 X.2.1 dX12_runCommand_131 (lv_at hl 0 rfl) ?_
                          refine lv_iload_n X.1 X.2.1 dX12_runCommand_133 rfl (lv_at hl 5 rfl) ?_
                          refine z_icmp_ge (tgt := 180) X dX12_runCommand_134 (by decide) (nI_toInt (by omega)) (nI_toInt (by omega)) (fun c134 => ?_) (fun c134 => ?_)
                          · refine lv_aload_n X.1 X.2.1 dX12_runCommand_180 rfl (lv_at hl 6 rfl) ?_
                            refine lv_iload_n X.1 X.2.1 dX12_runCommand_181 rfl (lv_at hl 3 rfl) ?_
                            refine lv_iload X.1 X.2.1 dX12_runCommand_182 (lv_at hl 1 rfl) ?_
                            have hv9 : nI v = paI c := hqn
                            refine (m_construct_ok g m0 lt er el cm_ sv md fmm lc lz af pt_ oc ty_ sz_ em k n s h ([] : List Nat) tk k0 n0 s0 z p f fe fl fm_ q fc_ fx fa B T kd (nI v) pp (by assumption) (by omega) (by assumption) (by assumption) (by omega) (fun h => ⟨hv9.trans hpa, hp3 h⟩)).callV (rest := []) (wr := [(cm_, .inl (g.2.1, 20, .inl fc))]) X dX12_runCommand_184 q1217 tX12_construct hK hP hD hS hA [0, 1, 2, 3, 4, 5, 6, 7, 8] [9] (by decide) rfl rfl (by decide) (by decide) 0 11 rfl rfl rfl hl ⟨⟨Nat.le_of_ble_eq_true rfl, Nat.le_of_ble_eq_true rfl⟩, Nat.le_of_ble_eq_true rfl, Nat.le_of_ble_eq_true rfl⟩ rfl rfl (Nat.le_of_ble_eq_true rfl) (fun r184 u184 H locs hw184 hP hD hS => ?_)
                            obtain ⟨f1_184, fe1_184, fl1_184, fm1_184, q1_184, fc1_184, fx1_184, fa1_184⟩ := u184
                            have hP : PP g [(cm_, .inl (g.2.1, 20, .inl fc)), (m0, .inr (11, [.int (nI k), .int (nI n), .ref lt, .int (nI ((conL k T n B kd pp).length)), .ref er, .ref el, .int (nI (((s :: h).take 6).length)), .ref cm_, .int (nI (([] : List Nat).length)), .int (bI tk), .int (nI k0), .int (nI n0), .ref sv, .int (nI s0.length), .ref md, .int (nI ((conL k T n B kd pp).length)), .ref fmm, .ref lc, .ref lz, .ref af, .ref pt_, .int (nI p.length), .ref oc, .ref ty_, .ref sz_, .ref em])), (lt, .inl (g.2.1, 256, .inl f1_184)), (er, .inl (g.2.1, 1536, .inl fe1_184)), (el, .inl (g.2.1, 6, .inl fl1_184)), (md, .inl (g.2.1, 256, .inl fm1_184)), (fmm, .inl (g.2.2.1, 256, .inl (mf q1_184))), (lc, .inl (g.2.1, 256, .inl fc1_184)), (lz, .inl (g.2.1, 256, .inl fx1_184)), (af, .inl (g.2.1, 256, .inl fa1_184))] H := hP
                            have hD : va_D A [(cm_, .inl (g.2.1, 20, .inl fc)), (m0, .inr (11, [.int (nI k), .int (nI n), .ref lt, .int (nI ((conL k T n B kd pp).length)), .ref er, .ref el, .int (nI (((s :: h).take 6).length)), .ref cm_, .int (nI (([] : List Nat).length)), .int (bI tk), .int (nI k0), .int (nI n0), .ref sv, .int (nI s0.length), .ref md, .int (nI ((conL k T n B kd pp).length)), .ref fmm, .ref lc, .ref lz, .ref af, .ref pt_, .int (nI p.length), .ref oc, .ref ty_, .ref sz_, .ref em])), (lt, .inl (g.2.1, 256, .inl f1_184)), (er, .inl (g.2.1, 1536, .inl fe1_184)), (el, .inl (g.2.1, 6, .inl fl1_184)), (md, .inl (g.2.1, 256, .inl fm1_184)), (fmm, .inl (g.2.2.1, 256, .inl (mf q1_184))), (lc, .inl (g.2.1, 256, .inl fc1_184)), (lz, .inl (g.2.1, 256, .inl fx1_184)), (af, .inl (g.2.1, 256, .inl fa1_184))] := hD
                            try dsimp only at hw184
                            refine tp_i (y := (nI ((conL k T n B kd pp).length))) (hw184.1) ?_
                            exact MuI.ret X hr hlk hK hS dX12_runCommand_187 (nI_nar _) (f1_184, fe1_184, fl1_184, fm1_184, q1_184, fc1_184, fx1_184, fa1_184) (hP.sub [1, 2, 3, 4, 5, 6, 7, 8, 9, 0] rfl) (hD.sub [1, 2, 3, 4, 5, 6, 7, 8, 9, 0] (by decide) rfl) (⟨rfl, hw184.2⟩)
                          · exfalso; omega
                        | succ rn ih131 =>
                          intro v t h2 hti hvb hqn ls hl
                          refine lv_iload X.1 X.2.1 dX12_runCommand_131 (lv_at hl 0 rfl) ?_
                          refine lv_iload_n X.1 X.2.1 dX12_runCommand_133 rfl (lv_at hl 5 rfl) ?_
                          refine z_icmp_ge (tgt := 180) X dX12_runCommand_134 (by decide) (nI_toInt (by omega)) (nI_toInt (by omega)) (fun c134 => ?_) (fun c134 => ?_)
                          · exfalso; omega
                          · refine lv_aload_n X.1 X.2.1 dX12_runCommand_137 rfl (lv_at hl 6 rfl) ?_
                            refine va_get (D := g.1) (ci := 11) (v := .ref cm_) (C := RX12) (T := TX12) (N := 26) X.1 X.2.1 X.2.2.2.2 iwX12 X.2.2.2.1 hK hP 0 rfl rfl 7 (by decide) (X.2.2.2.2 _ q1027) (fun _ h9 => h9) rfl dX12_runCommand_138 ?_
                            refine lv_iload X.1 X.2.1 dX12_runCommand_141 (lv_at hl 0 rfl) ?_
                            refine n_iald X hK hP 9 0 rfl rfl (by omega) (by decide) dX12_runCommand_143 ?_
                            have hbt := hbc t
                            refine tp_i (y := (nI (c.getD t 0))) (hfc t (by omega)) ?_
                            refine lv_bipush (v := (nI 48)) X.1 X.2.1 dX12_runCommand_144 (by decide) ?_
                            refine lv_bipush (v := (nI 57)) X.1 X.2.1 dX12_runCommand_146 (by decide) ?_
                            refine (c_inN g (nI (c.getD t 0)) 48 57 (by omega) (by omega)).callS (rest := []) X dX12_runCommand_148 q1103 tX12_in hK (hP.sub [] rfl) hl ⟨⟨Nat.le_of_ble_eq_true rfl, Nat.le_of_ble_eq_true rfl⟩, Nat.le_of_ble_eq_true rfl, Nat.le_of_ble_eq_true rfl⟩ rfl rfl (Nat.le_of_ble_eq_true rfl) ?_
                            refine b_if_ne (tgt := 156) X dX12_runCommand_151 (by decide) (fun c151 => ?_) (fun c151 => ?_)
                            · have h4 := of_decide_eq_true c151
                              rw [nI_toInt (by omega)] at h4
                              refine lv_bipush (v := (nI 10)) X.1 X.2.1 dX12_runCommand_156 (by decide) ?_
                              refine lv_iload X.1 X.2.1 dX12_runCommand_158 (lv_at hl 1 rfl) ?_
                              refine n_mul X dX12_runCommand_160 ?_
                              refine lv_aload_n X.1 X.2.1 dX12_runCommand_161 rfl (lv_at hl 6 rfl) ?_
                              refine va_get (D := g.1) (ci := 11) (v := .ref cm_) (C := RX12) (T := TX12) (N := 26) X.1 X.2.1 X.2.2.2.2 iwX12 X.2.2.2.1 hK hP 0 rfl rfl 7 (by decide) (X.2.2.2.2 _ q1027) (fun _ h9 => h9) rfl dX12_runCommand_162 ?_
                              refine lv_iload X.1 X.2.1 dX12_runCommand_165 (lv_at hl 0 rfl) ?_
                              refine n_iald X hK hP 9 0 rfl rfl (by omega) (by decide) dX12_runCommand_167 ?_
                              refine tp_i (y := (nI (c.getD t 0))) (hfc t (by omega)) ?_
                              refine n_add X dX12_runCommand_168 ?_
                              refine lv_bipush (v := (nI 48)) X.1 X.2.1 dX12_runCommand_169 (by decide) ?_
                              refine n_sub X dX12_runCommand_171 (by omega) ?_
                              refine lv_istore (lv' := [(5, .int (nI ((10 * v + (c.getD t 0)) - 48))), (6, .int (nI t)), (4, .int (iI ((((c.length : Nat) : Int) - ((i : Nat) : Int)) - ((1 : Nat) : Int)))), (3, .int (nI kd)), (2, .int (nI i)), (1, .int (nI c.length)), (0, .ref m0)]) X.1 X.2.1 dX12_runCommand_172 hl (by decide) rfl (fun ls hl => ?_)
                              refine lv_iinc (v := (nI (t + 1))) (lv' := [(6, .int (nI (t + 1))), (5, .int (nI ((10 * v + (c.getD t 0)) - 48))), (4, .int (iI ((((c.length : Nat) : Int) - ((i : Nat) : Int)) - ((1 : Nat) : Int)))), (3, .int (nI kd)), (2, .int (nI i)), (1, .int (nI c.length)), (0, .ref m0)]) X.1 X.2.1 dX12_runCommand_174 hl (k := 1) rfl (nI_inc _) (by decide) rfl (fun ls hl => ?_)
                              refine lv_goto (tgt := 131) X.1 X.2.1 dX12_runCommand_177 (by decide) ?_
                              exact ih131 ((10 * v + (c.getD t 0)) - 48) (t + 1) (by omega) (by omega) (by omega) (by rw [nmL, if_pos (by omega)] at hqn; rw [show 10 * v + c.getD t 0 - 48 = v * 10 + (c.getD t 0 - 48) by omega]; exact hqn) ls (lv_sub hl [0, 1, 2, 3, 4, 5, 6] rfl)
                            · have h4 := of_decide_eq_false c151
                              rw [nI_toInt (by omega)] at h4
                              refine lv_iconst (v := (-1)) X.1 X.2.1 dX12_runCommand_154 (by decide) ?_
                              exfalso
                              have h9 : paI c = (-1) := by rw [← hqn, nmL, if_neg (by omega)]
                              rw [hpa] at h9
                              have h8 := congrArg Int32.toInt h9
                              rw [nI_toInt (by omega)] at h8
                              have h7 : ((-1) : Int32).toInt = -1 := rfl
                              omega
                      exact L131 (c.length - (i + 1)) 0 (i + 1) (by omega) (by omega) (by omega) (by unfold paI; first | (rw [if_pos (by omega), show c.length - (i + 1) = 0 by omega]; rfl) | (rw [if_neg (by omega), if_neg (by omega), ← hce])) ls (lv_sub hl [0, 1, 2, 3, 4, 5, 6] rfl)
                    · have h3 := of_decide_eq_false c118
                      rw [iI_toInt (by omega) (by omega)] at h3
                      refine lv_iconst (v := (-1)) X.1 X.2.1 dX12_runCommand_121 (by decide) ?_
                      exfalso
                      have h9 : paI c = (-1) := by unfold paI; rw [if_neg (by omega), if_pos (by omega)]
                      rw [hpa] at h9
                      have h8 := congrArg Int32.toInt h9
                      rw [nI_toInt (by omega)] at h8
                      have h7 : ((-1) : Int32).toInt = -1 := rfl
                      omega
                · exfalso; omega
            · refine lv_iconst (v := (nI 2)) X.1 X.2.1 dX12_runCommand_72 (by decide) ?_
              refine lv_goto (tgt := 91) X.1 X.2.1 dX12_runCommand_73 (by decide) ?_
              have hk9 : kdI c = nI 2 := by unfold kdI; simp [kdL, c41, c55, c69]
              refine tp_i (y := (nI kd)) (by rw [← hk9, hkd]) ?_
              refine lv_istore_n (lv' := [(3, .int (nI kd)), (2, .int (nI i)), (1, .int (nI c.length)), (0, .ref m0)]) X.1 X.2.1 dX12_runCommand_91 rfl hl (by decide) rfl (fun ls hl => ?_)
              refine lv_iload_n X.1 X.2.1 dX12_runCommand_92 rfl (lv_at hl 0 rfl) ?_
              refine z_if_ge (tgt := 99) X dX12_runCommand_93 (by decide) (nI_toInt (by omega)) (fun c93 => ?_) (fun c93 => ?_)
              · refine lv_iload_n X.1 X.2.1 dX12_runCommand_99 rfl (lv_at hl 2 rfl) ?_
                refine lv_iload_n X.1 X.2.1 dX12_runCommand_100 rfl (lv_at hl 1 rfl) ?_
                refine lv_isub X.1 X.2.1 dX12_runCommand_101 ?_
                refine tp_i (y := (iI (((c.length : Nat) : Int) - ((i : Nat) : Int)))) (by first | rw [iI_sub] | rw [nI_iI, nI_iI, iI_sub] | rw [nI_iI, iI_sub]) ?_
                refine lv_iconst (v := (nI 1)) X.1 X.2.1 dX12_runCommand_102 (by decide) ?_
                refine lv_isub X.1 X.2.1 dX12_runCommand_103 ?_
                refine tp_i (y := (iI ((((c.length : Nat) : Int) - ((i : Nat) : Int)) - ((1 : Nat) : Int)))) (by first | rw [iI_sub] | rw [nI_iI, nI_iI, iI_sub] | rw [nI_iI, iI_sub]) ?_
                refine lv_istore (lv' := [(4, .int (iI ((((c.length : Nat) : Int) - ((i : Nat) : Int)) - ((1 : Nat) : Int)))), (3, .int (nI kd)), (2, .int (nI i)), (1, .int (nI c.length)), (0, .ref m0)]) X.1 X.2.1 dX12_runCommand_104 hl (by decide) rfl (fun ls hl => ?_)
                refine lv_iload_n X.1 X.2.1 dX12_runCommand_106 rfl (lv_at hl 2 rfl) ?_
                refine lv_iload_n X.1 X.2.1 dX12_runCommand_107 rfl (lv_at hl 3 rfl) ?_
                refine z_icmp_ge (tgt := 123) X dX12_runCommand_108 (by decide) (nI_toInt (by omega)) (nI_toInt (by omega)) (fun c108 => ?_) (fun c108 => ?_)
                · refine lv_iconst (v := (nI 0)) X.1 X.2.1 dX12_runCommand_123 (by decide) ?_
                  refine lv_istore (lv' := [(5, .int (nI 0)), (4, .int (iI ((((c.length : Nat) : Int) - ((i : Nat) : Int)) - ((1 : Nat) : Int)))), (3, .int (nI kd)), (2, .int (nI i)), (1, .int (nI c.length)), (0, .ref m0)]) X.1 X.2.1 dX12_runCommand_124 hl (by decide) rfl (fun ls hl => ?_)
                  refine lv_iload_n X.1 X.2.1 dX12_runCommand_126 rfl (lv_at hl 3 rfl) ?_
                  refine lv_iconst (v := (nI 1)) X.1 X.2.1 dX12_runCommand_127 (by decide) ?_
                  refine n_add X dX12_runCommand_128 ?_
                  refine lv_istore (lv' := [(6, .int (nI (i + 1))), (5, .int (nI 0)), (4, .int (iI ((((c.length : Nat) : Int) - ((i : Nat) : Int)) - ((1 : Nat) : Int)))), (3, .int (nI kd)), (2, .int (nI i)), (1, .int (nI c.length)), (0, .ref m0)]) X.1 X.2.1 dX12_runCommand_129 hl (by decide) rfl (fun ls hl => ?_)
                  have L131 : ∀ (rn : Nat) (v : Nat) (t : Nat) (h2 : t + rn = c.length ∨ (rn = 0 ∧ t = c.length + 1 ∧ i = c.length)) (hti : i < t) (hvb : (t = i + 1 ∧ v = 0) ∨ (t = i + 2 ∧ v < 10) ∨ (t = i + 3 ∧ v < 100) ∨ (t = i + 4 ∧ v < 1000)) (hqn : nmL c rn t v = paI c) (ls : Array Slot) (hl : lv_has ls 7 [(6, .int (nI t)), (5, .int (nI v)), (4, .int (iI ((((c.length : Nat) : Int) - ((i : Nat) : Int)) - ((1 : Nat) : Int)))), (3, .int (nI kd)), (2, .int (nI i)), (1, .int (nI c.length)), (0, .ref m0)]), W p_ l_ e_ { frames := 7, cells := 0, slots := 0, locals := 161 } S_ m_ args below meth co H locs 0 0 (MQ below (va_Qi (S := (Nat → Int32) × (Nat → Int32) × (Nat → Int32) × (Nat → Int32) × (Nat → Bool) × (Nat → Int32) × (Nat → Int32) × (Nat → Int32)) (fun r u => r = (nI ((conL k T n B kd pp).length)) ∧ rep u.1 (conL k T n B kd pp) ∧ hrm u.2.1 u.2.2.1 ((s :: h).take 6)) (MuB g A (fun u => [(m0, .inr (11, [.int (nI k), .int (nI n), .ref lt, .int (nI ((conL k T n B kd pp).length)), .ref er, .ref el, .int (nI (((s :: h).take 6).length)), .ref cm_, .int (nI (([] : List Nat).length)), .int (bI tk), .int (nI k0), .int (nI n0), .ref sv, .int (nI s0.length), .ref md, .int (nI ((conL k T n B kd pp).length)), .ref fmm, .ref lc, .ref lz, .ref af, .ref pt_, .int (nI p.length), .ref oc, .ref ty_, .ref sz_, .ref em])), (lt, .inl (g.2.1, 256, .inl u.1)), (er, .inl (g.2.1, 1536, .inl u.2.1)), (el, .inl (g.2.1, 6, .inl u.2.2.1)), (md, .inl (g.2.1, 256, .inl u.2.2.2.1)), (fmm, .inl (g.2.2.1, 256, .inl (mf u.2.2.2.2.1))), (lc, .inl (g.2.1, 256, .inl u.2.2.2.2.2.1)), (lz, .inl (g.2.1, 256, .inl u.2.2.2.2.2.2.1)), (af, .inl (g.2.1, 256, .inl u.2.2.2.2.2.2.2)), (cm_, .inl (g.2.1, 20, .inl fc))])) A) args S_ 0 0 A) (F0 m_ 131 ls []) := by
                    intro rn
                    induction rn with
                    | zero =>
                      intro v t h2 hti hvb hqn ls hl
                      refine lv_iload X.1 X.2.1 dX12_runCommand_131 (lv_at hl 0 rfl) ?_
                      refine lv_iload_n X.1 X.2.1 dX12_runCommand_133 rfl (lv_at hl 5 rfl) ?_
                      refine z_icmp_ge (tgt := 180) X dX12_runCommand_134 (by decide) (nI_toInt (by omega)) (nI_toInt (by omega)) (fun c134 => ?_) (fun c134 => ?_)
                      · refine lv_aload_n X.1 X.2.1 dX12_runCommand_180 rfl (lv_at hl 6 rfl) ?_
                        refine lv_iload_n X.1 X.2.1 dX12_runCommand_181 rfl (lv_at hl 3 rfl) ?_
                        refine lv_iload X.1 X.2.1 dX12_runCommand_182 (lv_at hl 1 rfl) ?_
                        have hv9 : nI v = paI c := hqn
                        refine (m_construct_ok g m0 lt er el cm_ sv md fmm lc lz af pt_ oc ty_ sz_ em k n s h ([] : List Nat) tk k0 n0 s0 z p f fe fl fm_ q fc_ fx fa B T kd (nI v) pp (by assumption) (by omega) (by assumption) (by assumption) (by omega) (fun h => ⟨hv9.trans hpa, hp3 h⟩)).callV (rest := []) (wr := [(cm_, .inl (g.2.1, 20, .inl fc))]) X dX12_runCommand_184 q1217 tX12_construct hK hP hD hS hA [0, 1, 2, 3, 4, 5, 6, 7, 8] [9] (by decide) rfl rfl (by decide) (by decide) 0 11 rfl rfl rfl hl ⟨⟨Nat.le_of_ble_eq_true rfl, Nat.le_of_ble_eq_true rfl⟩, Nat.le_of_ble_eq_true rfl, Nat.le_of_ble_eq_true rfl⟩ rfl rfl (Nat.le_of_ble_eq_true rfl) (fun r184 u184 H locs hw184 hP hD hS => ?_)
                        obtain ⟨f1_184, fe1_184, fl1_184, fm1_184, q1_184, fc1_184, fx1_184, fa1_184⟩ := u184
                        have hP : PP g [(cm_, .inl (g.2.1, 20, .inl fc)), (m0, .inr (11, [.int (nI k), .int (nI n), .ref lt, .int (nI ((conL k T n B kd pp).length)), .ref er, .ref el, .int (nI (((s :: h).take 6).length)), .ref cm_, .int (nI (([] : List Nat).length)), .int (bI tk), .int (nI k0), .int (nI n0), .ref sv, .int (nI s0.length), .ref md, .int (nI ((conL k T n B kd pp).length)), .ref fmm, .ref lc, .ref lz, .ref af, .ref pt_, .int (nI p.length), .ref oc, .ref ty_, .ref sz_, .ref em])), (lt, .inl (g.2.1, 256, .inl f1_184)), (er, .inl (g.2.1, 1536, .inl fe1_184)), (el, .inl (g.2.1, 6, .inl fl1_184)), (md, .inl (g.2.1, 256, .inl fm1_184)), (fmm, .inl (g.2.2.1, 256, .inl (mf q1_184))), (lc, .inl (g.2.1, 256, .inl fc1_184)), (lz, .inl (g.2.1, 256, .inl fx1_184)), (af, .inl (g.2.1, 256, .inl fa1_184))] H := hP
                        have hD : va_D A [(cm_, .inl (g.2.1, 20, .inl fc)), (m0, .inr (11, [.int (nI k), .int (nI n), .ref lt, .int (nI ((conL k T n B kd pp).length)), .ref er, .ref el, .int (nI (((s :: h).take 6).length)), .ref cm_, .int (nI (([] : List Nat).length)), .int (bI tk), .int (nI k0), .int (nI n0), .ref sv, .int (nI s0.length), .ref md, .int (nI ((conL k T n B kd pp).length)), .ref fmm, .ref lc, .ref lz, .ref af, .ref pt_, .int (nI p.length), .ref oc, .ref ty_, .ref sz_, .ref em])), (lt, .inl (g.2.1, 256, .inl f1_184)), (er, .inl (g.2.1, 1536, .inl fe1_184)), (el, .inl (g.2.1, 6, .inl fl1_184)), (md, .inl (g.2.1, 256, .inl fm1_184)), (fmm, .inl (g.2.2.1, 256, .inl (mf q1_184))), (lc, .inl (g.2.1, 256, .inl fc1_184)), (lz, .inl (g.2.1, 256, .inl fx1_184)), (af, .inl (g.2.1, 256, .inl fa1_184))] := hD
                        try dsimp only at hw184
                        refine tp_i (y := (nI ((conL k T n B kd pp).length))) (hw184.1) ?_
                        exact MuI.ret X hr hlk hK hS dX12_runCommand_187 (nI_nar _) (f1_184, fe1_184, fl1_184, fm1_184, q1_184, fc1_184, fx1_184, fa1_184) (hP.sub [1, 2, 3, 4, 5, 6, 7, 8, 9, 0] rfl) (hD.sub [1, 2, 3, 4, 5, 6, 7, 8, 9, 0] (by decide) rfl) (⟨rfl, hw184.2⟩)
                      · exfalso; omega
                    | succ rn ih131 =>
                      intro v t h2 hti hvb hqn ls hl
                      refine lv_iload X.1 X.2.1 dX12_runCommand_131 (lv_at hl 0 rfl) ?_
                      refine lv_iload_n X.1 X.2.1 dX12_runCommand_133 rfl (lv_at hl 5 rfl) ?_
                      refine z_icmp_ge (tgt := 180) X dX12_runCommand_134 (by decide) (nI_toInt (by omega)) (nI_toInt (by omega)) (fun c134 => ?_) (fun c134 => ?_)
                      · exfalso; omega
                      · refine lv_aload_n X.1 X.2.1 dX12_runCommand_137 rfl (lv_at hl 6 rfl) ?_
                        refine va_get (D := g.1) (ci := 11) (v := .ref cm_) (C := RX12) (T := TX12) (N := 26) X.1 X.2.1 X.2.2.2.2 iwX12 X.2.2.2.1 hK hP 0 rfl rfl 7 (by decide) (X.2.2.2.2 _ q1027) (fun _ h9 => h9) rfl dX12_runCommand_138 ?_
                        refine lv_iload X.1 X.2.1 dX12_runCommand_141 (lv_at hl 0 rfl) ?_
                        refine n_iald X hK hP 9 0 rfl rfl (by omega) (by decide) dX12_runCommand_143 ?_
                        have hbt := hbc t
                        refine tp_i (y := (nI (c.getD t 0))) (hfc t (by omega)) ?_
                        refine lv_bipush (v := (nI 48)) X.1 X.2.1 dX12_runCommand_144 (by decide) ?_
                        refine lv_bipush (v := (nI 57)) X.1 X.2.1 dX12_runCommand_146 (by decide) ?_
                        refine (c_inN g (nI (c.getD t 0)) 48 57 (by omega) (by omega)).callS (rest := []) X dX12_runCommand_148 q1103 tX12_in hK (hP.sub [] rfl) hl ⟨⟨Nat.le_of_ble_eq_true rfl, Nat.le_of_ble_eq_true rfl⟩, Nat.le_of_ble_eq_true rfl, Nat.le_of_ble_eq_true rfl⟩ rfl rfl (Nat.le_of_ble_eq_true rfl) ?_
                        refine b_if_ne (tgt := 156) X dX12_runCommand_151 (by decide) (fun c151 => ?_) (fun c151 => ?_)
                        · have h4 := of_decide_eq_true c151
                          rw [nI_toInt (by omega)] at h4
                          refine lv_bipush (v := (nI 10)) X.1 X.2.1 dX12_runCommand_156 (by decide) ?_
                          refine lv_iload X.1 X.2.1 dX12_runCommand_158 (lv_at hl 1 rfl) ?_
                          refine n_mul X dX12_runCommand_160 ?_
                          refine lv_aload_n X.1 X.2.1 dX12_runCommand_161 rfl (lv_at hl 6 rfl) ?_
                          refine va_get (D := g.1) (ci := 11) (v := .ref cm_) (C := RX12) (T := TX12) (N := 26) X.1 X.2.1 X.2.2.2.2 iwX12 X.2.2.2.1 hK hP 0 rfl rfl 7 (by decide) (X.2.2.2.2 _ q1027) (fun _ h9 => h9) rfl dX12_runCommand_162 ?_
                          refine lv_iload X.1 X.2.1 dX12_runCommand_165 (lv_at hl 0 rfl) ?_
                          refine n_iald X hK hP 9 0 rfl rfl (by omega) (by decide) dX12_runCommand_167 ?_
                          refine tp_i (y := (nI (c.getD t 0))) (hfc t (by omega)) ?_
                          refine n_add X dX12_runCommand_168 ?_
                          refine lv_bipush (v := (nI 48)) X.1 X.2.1 dX12_runCommand_169 (by decide) ?_
                          refine n_sub X dX12_runCommand_171 (by omega) ?_
                          refine lv_istore (lv' := [(5, .int (nI ((10 * v + (c.getD t 0)) - 48))), (6, .int (nI t)), (4, .int (iI ((((c.length : Nat) : Int) - ((i : Nat) : Int)) - ((1 : Nat) : Int)))), (3, .int (nI kd)), (2, .int (nI i)), (1, .int (nI c.length)), (0, .ref m0)]) X.1 X.2.1 dX12_runCommand_172 hl (by decide) rfl (fun ls hl => ?_)
                          refine lv_iinc (v := (nI (t + 1))) (lv' := [(6, .int (nI (t + 1))), (5, .int (nI ((10 * v + (c.getD t 0)) - 48))), (4, .int (iI ((((c.length : Nat) : Int) - ((i : Nat) : Int)) - ((1 : Nat) : Int)))), (3, .int (nI kd)), (2, .int (nI i)), (1, .int (nI c.length)), (0, .ref m0)]) X.1 X.2.1 dX12_runCommand_174 hl (k := 1) rfl (nI_inc _) (by decide) rfl (fun ls hl => ?_)
                          refine lv_goto (tgt := 131) X.1 X.2.1 dX12_runCommand_177 (by decide) ?_
                          exact ih131 ((10 * v + (c.getD t 0)) - 48) (t + 1) (by omega) (by omega) (by omega) (by rw [nmL, if_pos (by omega)] at hqn; rw [show 10 * v + c.getD t 0 - 48 = v * 10 + (c.getD t 0 - 48) by omega]; exact hqn) ls (lv_sub hl [0, 1, 2, 3, 4, 5, 6] rfl)
                        · have h4 := of_decide_eq_false c151
                          rw [nI_toInt (by omega)] at h4
                          refine lv_iconst (v := (-1)) X.1 X.2.1 dX12_runCommand_154 (by decide) ?_
                          exfalso
                          have h9 : paI c = (-1) := by rw [← hqn, nmL, if_neg (by omega)]
                          rw [hpa] at h9
                          have h8 := congrArg Int32.toInt h9
                          rw [nI_toInt (by omega)] at h8
                          have h7 : ((-1) : Int32).toInt = -1 := rfl
                          omega
                  exact L131 (c.length - (i + 1)) 0 (i + 1) (by omega) (by omega) (by omega) (by unfold paI; first | (rw [if_pos (by omega), show c.length - (i + 1) = 0 by omega]; rfl) | (rw [if_neg (by omega), if_neg (by omega), ← hce])) ls (lv_sub hl [0, 1, 2, 3, 4, 5, 6] rfl)
                · refine lv_iload X.1 X.2.1 dX12_runCommand_111 (lv_at hl 0 rfl) ?_
                  refine lv_iconst (v := (nI 1)) X.1 X.2.1 dX12_runCommand_113 (by decide) ?_
                  refine lv_iconst (v := (nI 3)) X.1 X.2.1 dX12_runCommand_114 (by decide) ?_
                  refine (c_inN g (iI ((((c.length : Nat) : Int) - ((i : Nat) : Int)) - ((1 : Nat) : Int))) 1 3 (by omega) (by omega)).callS (rest := []) X dX12_runCommand_115 q1103 tX12_in hK (hP.sub [] rfl) hl ⟨⟨Nat.le_of_ble_eq_true rfl, Nat.le_of_ble_eq_true rfl⟩, Nat.le_of_ble_eq_true rfl, Nat.le_of_ble_eq_true rfl⟩ rfl rfl (Nat.le_of_ble_eq_true rfl) ?_
                  refine b_if_ne (tgt := 123) X dX12_runCommand_118 (by decide) (fun c118 => ?_) (fun c118 => ?_)
                  · have h3 := of_decide_eq_true c118
                    rw [iI_toInt (by omega) (by omega)] at h3
                    refine lv_iconst (v := (nI 0)) X.1 X.2.1 dX12_runCommand_123 (by decide) ?_
                    refine lv_istore (lv' := [(5, .int (nI 0)), (4, .int (iI ((((c.length : Nat) : Int) - ((i : Nat) : Int)) - ((1 : Nat) : Int)))), (3, .int (nI kd)), (2, .int (nI i)), (1, .int (nI c.length)), (0, .ref m0)]) X.1 X.2.1 dX12_runCommand_124 hl (by decide) rfl (fun ls hl => ?_)
                    refine lv_iload_n X.1 X.2.1 dX12_runCommand_126 rfl (lv_at hl 3 rfl) ?_
                    refine lv_iconst (v := (nI 1)) X.1 X.2.1 dX12_runCommand_127 (by decide) ?_
                    refine n_add X dX12_runCommand_128 ?_
                    refine lv_istore (lv' := [(6, .int (nI (i + 1))), (5, .int (nI 0)), (4, .int (iI ((((c.length : Nat) : Int) - ((i : Nat) : Int)) - ((1 : Nat) : Int)))), (3, .int (nI kd)), (2, .int (nI i)), (1, .int (nI c.length)), (0, .ref m0)]) X.1 X.2.1 dX12_runCommand_129 hl (by decide) rfl (fun ls hl => ?_)
                    have L131 : ∀ (rn : Nat) (v : Nat) (t : Nat) (h2 : t + rn = c.length ∨ (rn = 0 ∧ t = c.length + 1 ∧ i = c.length)) (hti : i < t) (hvb : (t = i + 1 ∧ v = 0) ∨ (t = i + 2 ∧ v < 10) ∨ (t = i + 3 ∧ v < 100) ∨ (t = i + 4 ∧ v < 1000)) (hqn : nmL c rn t v = paI c) (ls : Array Slot) (hl : lv_has ls 7 [(6, .int (nI t)), (5, .int (nI v)), (4, .int (iI ((((c.length : Nat) : Int) - ((i : Nat) : Int)) - ((1 : Nat) : Int)))), (3, .int (nI kd)), (2, .int (nI i)), (1, .int (nI c.length)), (0, .ref m0)]), W p_ l_ e_ { frames := 7, cells := 0, slots := 0, locals := 161 } S_ m_ args below meth co H locs 0 0 (MQ below (va_Qi (S := (Nat → Int32) × (Nat → Int32) × (Nat → Int32) × (Nat → Int32) × (Nat → Bool) × (Nat → Int32) × (Nat → Int32) × (Nat → Int32)) (fun r u => r = (nI ((conL k T n B kd pp).length)) ∧ rep u.1 (conL k T n B kd pp) ∧ hrm u.2.1 u.2.2.1 ((s :: h).take 6)) (MuB g A (fun u => [(m0, .inr (11, [.int (nI k), .int (nI n), .ref lt, .int (nI ((conL k T n B kd pp).length)), .ref er, .ref el, .int (nI (((s :: h).take 6).length)), .ref cm_, .int (nI (([] : List Nat).length)), .int (bI tk), .int (nI k0), .int (nI n0), .ref sv, .int (nI s0.length), .ref md, .int (nI ((conL k T n B kd pp).length)), .ref fmm, .ref lc, .ref lz, .ref af, .ref pt_, .int (nI p.length), .ref oc, .ref ty_, .ref sz_, .ref em])), (lt, .inl (g.2.1, 256, .inl u.1)), (er, .inl (g.2.1, 1536, .inl u.2.1)), (el, .inl (g.2.1, 6, .inl u.2.2.1)), (md, .inl (g.2.1, 256, .inl u.2.2.2.1)), (fmm, .inl (g.2.2.1, 256, .inl (mf u.2.2.2.2.1))), (lc, .inl (g.2.1, 256, .inl u.2.2.2.2.2.1)), (lz, .inl (g.2.1, 256, .inl u.2.2.2.2.2.2.1)), (af, .inl (g.2.1, 256, .inl u.2.2.2.2.2.2.2)), (cm_, .inl (g.2.1, 20, .inl fc))])) A) args S_ 0 0 A) (F0 m_ 131 ls []) := by
                      intro rn
                      induction rn with
                      | zero =>
                        intro v t h2 hti hvb hqn ls hl
                        refine lv_iload X.1 X.2.1 dX12_runCommand_131 (lv_at hl 0 rfl) ?_
                        refine lv_iload_n X.1 X.2.1 dX12_runCommand_133 rfl (lv_at hl 5 rfl) ?_
                        refine z_icmp_ge (tgt := 180) X dX12_runCommand_134 (by decide) (nI_toInt (by omega)) (nI_toInt (by omega)) (fun c134 => ?_) (fun c134 => ?_)
                        · refine lv_aload_n X.1 X.2.1 dX12_runCommand_180 rfl (lv_at hl 6 rfl) ?_
                          refine lv_iload_n X.1 X.2.1 dX12_runCommand_181 rfl (lv_at hl 3 rfl) ?_
                          refine lv_iload X.1 X.2.1 dX12_runCommand_182 (lv_at hl 1 rfl) ?_
                          have hv9 : nI v = paI c := hqn
                          refine (m_construct_ok g m0 lt er el cm_ sv md fmm lc lz af pt_ oc ty_ sz_ em k n s h ([] : List Nat) tk k0 n0 s0 z p f fe fl fm_ q fc_ fx fa B T kd (nI v) pp (by assumption) (by omega) (by assumption) (by assumption) (by omega) (fun h => ⟨hv9.trans hpa, hp3 h⟩)).callV (rest := []) (wr := [(cm_, .inl (g.2.1, 20, .inl fc))]) X dX12_runCommand_184 q1217 tX12_construct hK hP hD hS hA [0, 1, 2, 3, 4, 5, 6, 7, 8] [9] (by decide) rfl rfl (by decide) (by decide) 0 11 rfl rfl rfl hl ⟨⟨Nat.le_of_ble_eq_true rfl, Nat.le_of_ble_eq_true rfl⟩, Nat.le_of_ble_eq_true rfl, Nat.le_of_ble_eq_true rfl⟩ rfl rfl (Nat.le_of_ble_eq_true rfl) (fun r184 u184 H locs hw184 hP hD hS => ?_)
                          obtain ⟨f1_184, fe1_184, fl1_184, fm1_184, q1_184, fc1_184, fx1_184, fa1_184⟩ := u184
                          have hP : PP g [(cm_, .inl (g.2.1, 20, .inl fc)), (m0, .inr (11, [.int (nI k), .int (nI n), .ref lt, .int (nI ((conL k T n B kd pp).length)), .ref er, .ref el, .int (nI (((s :: h).take 6).length)), .ref cm_, .int (nI (([] : List Nat).length)), .int (bI tk), .int (nI k0), .int (nI n0), .ref sv, .int (nI s0.length), .ref md, .int (nI ((conL k T n B kd pp).length)), .ref fmm, .ref lc, .ref lz, .ref af, .ref pt_, .int (nI p.length), .ref oc, .ref ty_, .ref sz_, .ref em])), (lt, .inl (g.2.1, 256, .inl f1_184)), (er, .inl (g.2.1, 1536, .inl fe1_184)), (el, .inl (g.2.1, 6, .inl fl1_184)), (md, .inl (g.2.1, 256, .inl fm1_184)), (fmm, .inl (g.2.2.1, 256, .inl (mf q1_184))), (lc, .inl (g.2.1, 256, .inl fc1_184)), (lz, .inl (g.2.1, 256, .inl fx1_184)), (af, .inl (g.2.1, 256, .inl fa1_184))] H := hP
                          have hD : va_D A [(cm_, .inl (g.2.1, 20, .inl fc)), (m0, .inr (11, [.int (nI k), .int (nI n), .ref lt, .int (nI ((conL k T n B kd pp).length)), .ref er, .ref el, .int (nI (((s :: h).take 6).length)), .ref cm_, .int (nI (([] : List Nat).length)), .int (bI tk), .int (nI k0), .int (nI n0), .ref sv, .int (nI s0.length), .ref md, .int (nI ((conL k T n B kd pp).length)), .ref fmm, .ref lc, .ref lz, .ref af, .ref pt_, .int (nI p.length), .ref oc, .ref ty_, .ref sz_, .ref em])), (lt, .inl (g.2.1, 256, .inl f1_184)), (er, .inl (g.2.1, 1536, .inl fe1_184)), (el, .inl (g.2.1, 6, .inl fl1_184)), (md, .inl (g.2.1, 256, .inl fm1_184)), (fmm, .inl (g.2.2.1, 256, .inl (mf q1_184))), (lc, .inl (g.2.1, 256, .inl fc1_184)), (lz, .inl (g.2.1, 256, .inl fx1_184)), (af, .inl (g.2.1, 256, .inl fa1_184))] := hD
                          try dsimp only at hw184
                          refine tp_i (y := (nI ((conL k T n B kd pp).length))) (hw184.1) ?_
                          exact MuI.ret X hr hlk hK hS dX12_runCommand_187 (nI_nar _) (f1_184, fe1_184, fl1_184, fm1_184, q1_184, fc1_184, fx1_184, fa1_184) (hP.sub [1, 2, 3, 4, 5, 6, 7, 8, 9, 0] rfl) (hD.sub [1, 2, 3, 4, 5, 6, 7, 8, 9, 0] (by decide) rfl) (⟨rfl, hw184.2⟩)
                        · exfalso; omega
                      | succ rn ih131 =>
                        intro v t h2 hti hvb hqn ls hl
                        refine lv_iload X.1 X.2.1 dX12_runCommand_131 (lv_at hl 0 rfl) ?_
                        refine lv_iload_n X.1 X.2.1 dX12_runCommand_133 rfl (lv_at hl 5 rfl) ?_
                        refine z_icmp_ge (tgt := 180) X dX12_runCommand_134 (by decide) (nI_toInt (by omega)) (nI_toInt (by omega)) (fun c134 => ?_) (fun c134 => ?_)
                        · exfalso; omega
                        · refine lv_aload_n X.1 X.2.1 dX12_runCommand_137 rfl (lv_at hl 6 rfl) ?_
                          refine va_get (D := g.1) (ci := 11) (v := .ref cm_) (C := RX12) (T := TX12) (N := 26) X.1 X.2.1 X.2.2.2.2 iwX12 X.2.2.2.1 hK hP 0 rfl rfl 7 (by decide) (X.2.2.2.2 _ q1027) (fun _ h9 => h9) rfl dX12_runCommand_138 ?_
                          refine lv_iload X.1 X.2.1 dX12_runCommand_141 (lv_at hl 0 rfl) ?_
                          refine n_iald X hK hP 9 0 rfl rfl (by omega) (by decide) dX12_runCommand_143 ?_
                          have hbt := hbc t
                          refine tp_i (y := (nI (c.getD t 0))) (hfc t (by omega)) ?_
                          refine lv_bipush (v := (nI 48)) X.1 X.2.1 dX12_runCommand_144 (by decide) ?_
                          refine lv_bipush (v := (nI 57)) X.1 X.2.1 dX12_runCommand_146 (by decide) ?_
                          refine (c_inN g (nI (c.getD t 0)) 48 57 (by omega) (by omega)).callS (rest := []) X dX12_runCommand_148 q1103 tX12_in hK (hP.sub [] rfl) hl ⟨⟨Nat.le_of_ble_eq_true rfl, Nat.le_of_ble_eq_true rfl⟩, Nat.le_of_ble_eq_true rfl, Nat.le_of_ble_eq_true rfl⟩ rfl rfl (Nat.le_of_ble_eq_true rfl) ?_
                          refine b_if_ne (tgt := 156) X dX12_runCommand_151 (by decide) (fun c151 => ?_) (fun c151 => ?_)
                          · have h4 := of_decide_eq_true c151
                            rw [nI_toInt (by omega)] at h4
                            refine lv_bipush (v := (nI 10)) X.1 X.2.1 dX12_runCommand_156 (by decide) ?_
                            refine lv_iload X.1 X.2.1 dX12_runCommand_158 (lv_at hl 1 rfl) ?_
                            refine n_mul X dX12_runCommand_160 ?_
                            refine lv_aload_n X.1 X.2.1 dX12_runCommand_161 rfl (lv_at hl 6 rfl) ?_
                            refine va_get (D := g.1) (ci := 11) (v := .ref cm_) (C := RX12) (T := TX12) (N := 26) X.1 X.2.1 X.2.2.2.2 iwX12 X.2.2.2.1 hK hP 0 rfl rfl 7 (by decide) (X.2.2.2.2 _ q1027) (fun _ h9 => h9) rfl dX12_runCommand_162 ?_
                            refine lv_iload X.1 X.2.1 dX12_runCommand_165 (lv_at hl 0 rfl) ?_
                            refine n_iald X hK hP 9 0 rfl rfl (by omega) (by decide) dX12_runCommand_167 ?_
                            refine tp_i (y := (nI (c.getD t 0))) (hfc t (by omega)) ?_
                            refine n_add X dX12_runCommand_168 ?_
                            refine lv_bipush (v := (nI 48)) X.1 X.2.1 dX12_runCommand_169 (by decide) ?_
                            refine n_sub X dX12_runCommand_171 (by omega) ?_
                            refine lv_istore (lv' := [(5, .int (nI ((10 * v + (c.getD t 0)) - 48))), (6, .int (nI t)), (4, .int (iI ((((c.length : Nat) : Int) - ((i : Nat) : Int)) - ((1 : Nat) : Int)))), (3, .int (nI kd)), (2, .int (nI i)), (1, .int (nI c.length)), (0, .ref m0)]) X.1 X.2.1 dX12_runCommand_172 hl (by decide) rfl (fun ls hl => ?_)
                            refine lv_iinc (v := (nI (t + 1))) (lv' := [(6, .int (nI (t + 1))), (5, .int (nI ((10 * v + (c.getD t 0)) - 48))), (4, .int (iI ((((c.length : Nat) : Int) - ((i : Nat) : Int)) - ((1 : Nat) : Int)))), (3, .int (nI kd)), (2, .int (nI i)), (1, .int (nI c.length)), (0, .ref m0)]) X.1 X.2.1 dX12_runCommand_174 hl (k := 1) rfl (nI_inc _) (by decide) rfl (fun ls hl => ?_)
                            refine lv_goto (tgt := 131) X.1 X.2.1 dX12_runCommand_177 (by decide) ?_
                            exact ih131 ((10 * v + (c.getD t 0)) - 48) (t + 1) (by omega) (by omega) (by omega) (by rw [nmL, if_pos (by omega)] at hqn; rw [show 10 * v + c.getD t 0 - 48 = v * 10 + (c.getD t 0 - 48) by omega]; exact hqn) ls (lv_sub hl [0, 1, 2, 3, 4, 5, 6] rfl)
                          · have h4 := of_decide_eq_false c151
                            rw [nI_toInt (by omega)] at h4
                            refine lv_iconst (v := (-1)) X.1 X.2.1 dX12_runCommand_154 (by decide) ?_
                            exfalso
                            have h9 : paI c = (-1) := by rw [← hqn, nmL, if_neg (by omega)]
                            rw [hpa] at h9
                            have h8 := congrArg Int32.toInt h9
                            rw [nI_toInt (by omega)] at h8
                            have h7 : ((-1) : Int32).toInt = -1 := rfl
                            omega
                    exact L131 (c.length - (i + 1)) 0 (i + 1) (by omega) (by omega) (by omega) (by unfold paI; first | (rw [if_pos (by omega), show c.length - (i + 1) = 0 by omega]; rfl) | (rw [if_neg (by omega), if_neg (by omega), ← hce])) ls (lv_sub hl [0, 1, 2, 3, 4, 5, 6] rfl)
                  · have h3 := of_decide_eq_false c118
                    rw [iI_toInt (by omega) (by omega)] at h3
                    refine lv_iconst (v := (-1)) X.1 X.2.1 dX12_runCommand_121 (by decide) ?_
                    exfalso
                    have h9 : paI c = (-1) := by unfold paI; rw [if_neg (by omega), if_pos (by omega)]
                    rw [hpa] at h9
                    have h8 := congrArg Int32.toInt h9
                    rw [nI_toInt (by omega)] at h8
                    have h7 : ((-1) : Int32).toInt = -1 := rfl
                    omega
              · exfalso; omega
          · refine lv_iconst (v := (nI 1)) X.1 X.2.1 dX12_runCommand_58 (by decide) ?_
            refine lv_goto (tgt := 91) X.1 X.2.1 dX12_runCommand_59 (by decide) ?_
            have hk9 : kdI c = nI 1 := by unfold kdI; simp [kdL, c41, c55]
            refine tp_i (y := (nI kd)) (by rw [← hk9, hkd]) ?_
            refine lv_istore_n (lv' := [(3, .int (nI kd)), (2, .int (nI i)), (1, .int (nI c.length)), (0, .ref m0)]) X.1 X.2.1 dX12_runCommand_91 rfl hl (by decide) rfl (fun ls hl => ?_)
            refine lv_iload_n X.1 X.2.1 dX12_runCommand_92 rfl (lv_at hl 0 rfl) ?_
            refine z_if_ge (tgt := 99) X dX12_runCommand_93 (by decide) (nI_toInt (by omega)) (fun c93 => ?_) (fun c93 => ?_)
            · refine lv_iload_n X.1 X.2.1 dX12_runCommand_99 rfl (lv_at hl 2 rfl) ?_
              refine lv_iload_n X.1 X.2.1 dX12_runCommand_100 rfl (lv_at hl 1 rfl) ?_
              refine lv_isub X.1 X.2.1 dX12_runCommand_101 ?_
              refine tp_i (y := (iI (((c.length : Nat) : Int) - ((i : Nat) : Int)))) (by first | rw [iI_sub] | rw [nI_iI, nI_iI, iI_sub] | rw [nI_iI, iI_sub]) ?_
              refine lv_iconst (v := (nI 1)) X.1 X.2.1 dX12_runCommand_102 (by decide) ?_
              refine lv_isub X.1 X.2.1 dX12_runCommand_103 ?_
              refine tp_i (y := (iI ((((c.length : Nat) : Int) - ((i : Nat) : Int)) - ((1 : Nat) : Int)))) (by first | rw [iI_sub] | rw [nI_iI, nI_iI, iI_sub] | rw [nI_iI, iI_sub]) ?_
              refine lv_istore (lv' := [(4, .int (iI ((((c.length : Nat) : Int) - ((i : Nat) : Int)) - ((1 : Nat) : Int)))), (3, .int (nI kd)), (2, .int (nI i)), (1, .int (nI c.length)), (0, .ref m0)]) X.1 X.2.1 dX12_runCommand_104 hl (by decide) rfl (fun ls hl => ?_)
              refine lv_iload_n X.1 X.2.1 dX12_runCommand_106 rfl (lv_at hl 2 rfl) ?_
              refine lv_iload_n X.1 X.2.1 dX12_runCommand_107 rfl (lv_at hl 3 rfl) ?_
              refine z_icmp_ge (tgt := 123) X dX12_runCommand_108 (by decide) (nI_toInt (by omega)) (nI_toInt (by omega)) (fun c108 => ?_) (fun c108 => ?_)
              · refine lv_iconst (v := (nI 0)) X.1 X.2.1 dX12_runCommand_123 (by decide) ?_
                refine lv_istore (lv' := [(5, .int (nI 0)), (4, .int (iI ((((c.length : Nat) : Int) - ((i : Nat) : Int)) - ((1 : Nat) : Int)))), (3, .int (nI kd)), (2, .int (nI i)), (1, .int (nI c.length)), (0, .ref m0)]) X.1 X.2.1 dX12_runCommand_124 hl (by decide) rfl (fun ls hl => ?_)
                refine lv_iload_n X.1 X.2.1 dX12_runCommand_126 rfl (lv_at hl 3 rfl) ?_
                refine lv_iconst (v := (nI 1)) X.1 X.2.1 dX12_runCommand_127 (by decide) ?_
                refine n_add X dX12_runCommand_128 ?_
                refine lv_istore (lv' := [(6, .int (nI (i + 1))), (5, .int (nI 0)), (4, .int (iI ((((c.length : Nat) : Int) - ((i : Nat) : Int)) - ((1 : Nat) : Int)))), (3, .int (nI kd)), (2, .int (nI i)), (1, .int (nI c.length)), (0, .ref m0)]) X.1 X.2.1 dX12_runCommand_129 hl (by decide) rfl (fun ls hl => ?_)
                have L131 : ∀ (rn : Nat) (v : Nat) (t : Nat) (h2 : t + rn = c.length ∨ (rn = 0 ∧ t = c.length + 1 ∧ i = c.length)) (hti : i < t) (hvb : (t = i + 1 ∧ v = 0) ∨ (t = i + 2 ∧ v < 10) ∨ (t = i + 3 ∧ v < 100) ∨ (t = i + 4 ∧ v < 1000)) (hqn : nmL c rn t v = paI c) (ls : Array Slot) (hl : lv_has ls 7 [(6, .int (nI t)), (5, .int (nI v)), (4, .int (iI ((((c.length : Nat) : Int) - ((i : Nat) : Int)) - ((1 : Nat) : Int)))), (3, .int (nI kd)), (2, .int (nI i)), (1, .int (nI c.length)), (0, .ref m0)]), W p_ l_ e_ { frames := 7, cells := 0, slots := 0, locals := 161 } S_ m_ args below meth co H locs 0 0 (MQ below (va_Qi (S := (Nat → Int32) × (Nat → Int32) × (Nat → Int32) × (Nat → Int32) × (Nat → Bool) × (Nat → Int32) × (Nat → Int32) × (Nat → Int32)) (fun r u => r = (nI ((conL k T n B kd pp).length)) ∧ rep u.1 (conL k T n B kd pp) ∧ hrm u.2.1 u.2.2.1 ((s :: h).take 6)) (MuB g A (fun u => [(m0, .inr (11, [.int (nI k), .int (nI n), .ref lt, .int (nI ((conL k T n B kd pp).length)), .ref er, .ref el, .int (nI (((s :: h).take 6).length)), .ref cm_, .int (nI (([] : List Nat).length)), .int (bI tk), .int (nI k0), .int (nI n0), .ref sv, .int (nI s0.length), .ref md, .int (nI ((conL k T n B kd pp).length)), .ref fmm, .ref lc, .ref lz, .ref af, .ref pt_, .int (nI p.length), .ref oc, .ref ty_, .ref sz_, .ref em])), (lt, .inl (g.2.1, 256, .inl u.1)), (er, .inl (g.2.1, 1536, .inl u.2.1)), (el, .inl (g.2.1, 6, .inl u.2.2.1)), (md, .inl (g.2.1, 256, .inl u.2.2.2.1)), (fmm, .inl (g.2.2.1, 256, .inl (mf u.2.2.2.2.1))), (lc, .inl (g.2.1, 256, .inl u.2.2.2.2.2.1)), (lz, .inl (g.2.1, 256, .inl u.2.2.2.2.2.2.1)), (af, .inl (g.2.1, 256, .inl u.2.2.2.2.2.2.2)), (cm_, .inl (g.2.1, 20, .inl fc))])) A) args S_ 0 0 A) (F0 m_ 131 ls []) := by
                  intro rn
                  induction rn with
                  | zero =>
                    intro v t h2 hti hvb hqn ls hl
                    refine lv_iload X.1 X.2.1 dX12_runCommand_131 (lv_at hl 0 rfl) ?_
                    refine lv_iload_n X.1 X.2.1 dX12_runCommand_133 rfl (lv_at hl 5 rfl) ?_
                    refine z_icmp_ge (tgt := 180) X dX12_runCommand_134 (by decide) (nI_toInt (by omega)) (nI_toInt (by omega)) (fun c134 => ?_) (fun c134 => ?_)
                    · refine lv_aload_n X.1 X.2.1 dX12_runCommand_180 rfl (lv_at hl 6 rfl) ?_
                      refine lv_iload_n X.1 X.2.1 dX12_runCommand_181 rfl (lv_at hl 3 rfl) ?_
                      refine lv_iload X.1 X.2.1 dX12_runCommand_182 (lv_at hl 1 rfl) ?_
                      have hv9 : nI v = paI c := hqn
                      refine (m_construct_ok g m0 lt er el cm_ sv md fmm lc lz af pt_ oc ty_ sz_ em k n s h ([] : List Nat) tk k0 n0 s0 z p f fe fl fm_ q fc_ fx fa B T kd (nI v) pp (by assumption) (by omega) (by assumption) (by assumption) (by omega) (fun h => ⟨hv9.trans hpa, hp3 h⟩)).callV (rest := []) (wr := [(cm_, .inl (g.2.1, 20, .inl fc))]) X dX12_runCommand_184 q1217 tX12_construct hK hP hD hS hA [0, 1, 2, 3, 4, 5, 6, 7, 8] [9] (by decide) rfl rfl (by decide) (by decide) 0 11 rfl rfl rfl hl ⟨⟨Nat.le_of_ble_eq_true rfl, Nat.le_of_ble_eq_true rfl⟩, Nat.le_of_ble_eq_true rfl, Nat.le_of_ble_eq_true rfl⟩ rfl rfl (Nat.le_of_ble_eq_true rfl) (fun r184 u184 H locs hw184 hP hD hS => ?_)
                      obtain ⟨f1_184, fe1_184, fl1_184, fm1_184, q1_184, fc1_184, fx1_184, fa1_184⟩ := u184
                      have hP : PP g [(cm_, .inl (g.2.1, 20, .inl fc)), (m0, .inr (11, [.int (nI k), .int (nI n), .ref lt, .int (nI ((conL k T n B kd pp).length)), .ref er, .ref el, .int (nI (((s :: h).take 6).length)), .ref cm_, .int (nI (([] : List Nat).length)), .int (bI tk), .int (nI k0), .int (nI n0), .ref sv, .int (nI s0.length), .ref md, .int (nI ((conL k T n B kd pp).length)), .ref fmm, .ref lc, .ref lz, .ref af, .ref pt_, .int (nI p.length), .ref oc, .ref ty_, .ref sz_, .ref em])), (lt, .inl (g.2.1, 256, .inl f1_184)), (er, .inl (g.2.1, 1536, .inl fe1_184)), (el, .inl (g.2.1, 6, .inl fl1_184)), (md, .inl (g.2.1, 256, .inl fm1_184)), (fmm, .inl (g.2.2.1, 256, .inl (mf q1_184))), (lc, .inl (g.2.1, 256, .inl fc1_184)), (lz, .inl (g.2.1, 256, .inl fx1_184)), (af, .inl (g.2.1, 256, .inl fa1_184))] H := hP
                      have hD : va_D A [(cm_, .inl (g.2.1, 20, .inl fc)), (m0, .inr (11, [.int (nI k), .int (nI n), .ref lt, .int (nI ((conL k T n B kd pp).length)), .ref er, .ref el, .int (nI (((s :: h).take 6).length)), .ref cm_, .int (nI (([] : List Nat).length)), .int (bI tk), .int (nI k0), .int (nI n0), .ref sv, .int (nI s0.length), .ref md, .int (nI ((conL k T n B kd pp).length)), .ref fmm, .ref lc, .ref lz, .ref af, .ref pt_, .int (nI p.length), .ref oc, .ref ty_, .ref sz_, .ref em])), (lt, .inl (g.2.1, 256, .inl f1_184)), (er, .inl (g.2.1, 1536, .inl fe1_184)), (el, .inl (g.2.1, 6, .inl fl1_184)), (md, .inl (g.2.1, 256, .inl fm1_184)), (fmm, .inl (g.2.2.1, 256, .inl (mf q1_184))), (lc, .inl (g.2.1, 256, .inl fc1_184)), (lz, .inl (g.2.1, 256, .inl fx1_184)), (af, .inl (g.2.1, 256, .inl fa1_184))] := hD
                      try dsimp only at hw184
                      refine tp_i (y := (nI ((conL k T n B kd pp).length))) (hw184.1) ?_
                      exact MuI.ret X hr hlk hK hS dX12_runCommand_187 (nI_nar _) (f1_184, fe1_184, fl1_184, fm1_184, q1_184, fc1_184, fx1_184, fa1_184) (hP.sub [1, 2, 3, 4, 5, 6, 7, 8, 9, 0] rfl) (hD.sub [1, 2, 3, 4, 5, 6, 7, 8, 9, 0] (by decide) rfl) (⟨rfl, hw184.2⟩)
                    · exfalso; omega
                  | succ rn ih131 =>
                    intro v t h2 hti hvb hqn ls hl
                    refine lv_iload X.1 X.2.1 dX12_runCommand_131 (lv_at hl 0 rfl) ?_
                    refine lv_iload_n X.1 X.2.1 dX12_runCommand_133 rfl (lv_at hl 5 rfl) ?_
                    refine z_icmp_ge (tgt := 180) X dX12_runCommand_134 (by decide) (nI_toInt (by omega)) (nI_toInt (by omega)) (fun c134 => ?_) (fun c134 => ?_)
                    · exfalso; omega
                    · refine lv_aload_n X.1 X.2.1 dX12_runCommand_137 rfl (lv_at hl 6 rfl) ?_
                      refine va_get (D := g.1) (ci := 11) (v := .ref cm_) (C := RX12) (T := TX12) (N := 26) X.1 X.2.1 X.2.2.2.2 iwX12 X.2.2.2.1 hK hP 0 rfl rfl 7 (by decide) (X.2.2.2.2 _ q1027) (fun _ h9 => h9) rfl dX12_runCommand_138 ?_
                      refine lv_iload X.1 X.2.1 dX12_runCommand_141 (lv_at hl 0 rfl) ?_
                      refine n_iald X hK hP 9 0 rfl rfl (by omega) (by decide) dX12_runCommand_143 ?_
                      have hbt := hbc t
                      refine tp_i (y := (nI (c.getD t 0))) (hfc t (by omega)) ?_
                      refine lv_bipush (v := (nI 48)) X.1 X.2.1 dX12_runCommand_144 (by decide) ?_
                      refine lv_bipush (v := (nI 57)) X.1 X.2.1 dX12_runCommand_146 (by decide) ?_
                      refine (c_inN g (nI (c.getD t 0)) 48 57 (by omega) (by omega)).callS (rest := []) X dX12_runCommand_148 q1103 tX12_in hK (hP.sub [] rfl) hl ⟨⟨Nat.le_of_ble_eq_true rfl, Nat.le_of_ble_eq_true rfl⟩, Nat.le_of_ble_eq_true rfl, Nat.le_of_ble_eq_true rfl⟩ rfl rfl (Nat.le_of_ble_eq_true rfl) ?_
                      refine b_if_ne (tgt := 156) X dX12_runCommand_151 (by decide) (fun c151 => ?_) (fun c151 => ?_)
                      · have h4 := of_decide_eq_true c151
                        rw [nI_toInt (by omega)] at h4
                        refine lv_bipush (v := (nI 10)) X.1 X.2.1 dX12_runCommand_156 (by decide) ?_
                        refine lv_iload X.1 X.2.1 dX12_runCommand_158 (lv_at hl 1 rfl) ?_
                        refine n_mul X dX12_runCommand_160 ?_
                        refine lv_aload_n X.1 X.2.1 dX12_runCommand_161 rfl (lv_at hl 6 rfl) ?_
                        refine va_get (D := g.1) (ci := 11) (v := .ref cm_) (C := RX12) (T := TX12) (N := 26) X.1 X.2.1 X.2.2.2.2 iwX12 X.2.2.2.1 hK hP 0 rfl rfl 7 (by decide) (X.2.2.2.2 _ q1027) (fun _ h9 => h9) rfl dX12_runCommand_162 ?_
                        refine lv_iload X.1 X.2.1 dX12_runCommand_165 (lv_at hl 0 rfl) ?_
                        refine n_iald X hK hP 9 0 rfl rfl (by omega) (by decide) dX12_runCommand_167 ?_
                        refine tp_i (y := (nI (c.getD t 0))) (hfc t (by omega)) ?_
                        refine n_add X dX12_runCommand_168 ?_
                        refine lv_bipush (v := (nI 48)) X.1 X.2.1 dX12_runCommand_169 (by decide) ?_
                        refine n_sub X dX12_runCommand_171 (by omega) ?_
                        refine lv_istore (lv' := [(5, .int (nI ((10 * v + (c.getD t 0)) - 48))), (6, .int (nI t)), (4, .int (iI ((((c.length : Nat) : Int) - ((i : Nat) : Int)) - ((1 : Nat) : Int)))), (3, .int (nI kd)), (2, .int (nI i)), (1, .int (nI c.length)), (0, .ref m0)]) X.1 X.2.1 dX12_runCommand_172 hl (by decide) rfl (fun ls hl => ?_)
                        refine lv_iinc (v := (nI (t + 1))) (lv' := [(6, .int (nI (t + 1))), (5, .int (nI ((10 * v + (c.getD t 0)) - 48))), (4, .int (iI ((((c.length : Nat) : Int) - ((i : Nat) : Int)) - ((1 : Nat) : Int)))), (3, .int (nI kd)), (2, .int (nI i)), (1, .int (nI c.length)), (0, .ref m0)]) X.1 X.2.1 dX12_runCommand_174 hl (k := 1) rfl (nI_inc _) (by decide) rfl (fun ls hl => ?_)
                        refine lv_goto (tgt := 131) X.1 X.2.1 dX12_runCommand_177 (by decide) ?_
                        exact ih131 ((10 * v + (c.getD t 0)) - 48) (t + 1) (by omega) (by omega) (by omega) (by rw [nmL, if_pos (by omega)] at hqn; rw [show 10 * v + c.getD t 0 - 48 = v * 10 + (c.getD t 0 - 48) by omega]; exact hqn) ls (lv_sub hl [0, 1, 2, 3, 4, 5, 6] rfl)
                      · have h4 := of_decide_eq_false c151
                        rw [nI_toInt (by omega)] at h4
                        refine lv_iconst (v := (-1)) X.1 X.2.1 dX12_runCommand_154 (by decide) ?_
                        exfalso
                        have h9 : paI c = (-1) := by rw [← hqn, nmL, if_neg (by omega)]
                        rw [hpa] at h9
                        have h8 := congrArg Int32.toInt h9
                        rw [nI_toInt (by omega)] at h8
                        have h7 : ((-1) : Int32).toInt = -1 := rfl
                        omega
                exact L131 (c.length - (i + 1)) 0 (i + 1) (by omega) (by omega) (by omega) (by unfold paI; first | (rw [if_pos (by omega), show c.length - (i + 1) = 0 by omega]; rfl) | (rw [if_neg (by omega), if_neg (by omega), ← hce])) ls (lv_sub hl [0, 1, 2, 3, 4, 5, 6] rfl)
              · refine lv_iload X.1 X.2.1 dX12_runCommand_111 (lv_at hl 0 rfl) ?_
                refine lv_iconst (v := (nI 1)) X.1 X.2.1 dX12_runCommand_113 (by decide) ?_
                refine lv_iconst (v := (nI 3)) X.1 X.2.1 dX12_runCommand_114 (by decide) ?_
                refine (c_inN g (iI ((((c.length : Nat) : Int) - ((i : Nat) : Int)) - ((1 : Nat) : Int))) 1 3 (by omega) (by omega)).callS (rest := []) X dX12_runCommand_115 q1103 tX12_in hK (hP.sub [] rfl) hl ⟨⟨Nat.le_of_ble_eq_true rfl, Nat.le_of_ble_eq_true rfl⟩, Nat.le_of_ble_eq_true rfl, Nat.le_of_ble_eq_true rfl⟩ rfl rfl (Nat.le_of_ble_eq_true rfl) ?_
                refine b_if_ne (tgt := 123) X dX12_runCommand_118 (by decide) (fun c118 => ?_) (fun c118 => ?_)
                · have h3 := of_decide_eq_true c118
                  rw [iI_toInt (by omega) (by omega)] at h3
                  refine lv_iconst (v := (nI 0)) X.1 X.2.1 dX12_runCommand_123 (by decide) ?_
                  refine lv_istore (lv' := [(5, .int (nI 0)), (4, .int (iI ((((c.length : Nat) : Int) - ((i : Nat) : Int)) - ((1 : Nat) : Int)))), (3, .int (nI kd)), (2, .int (nI i)), (1, .int (nI c.length)), (0, .ref m0)]) X.1 X.2.1 dX12_runCommand_124 hl (by decide) rfl (fun ls hl => ?_)
                  refine lv_iload_n X.1 X.2.1 dX12_runCommand_126 rfl (lv_at hl 3 rfl) ?_
                  refine lv_iconst (v := (nI 1)) X.1 X.2.1 dX12_runCommand_127 (by decide) ?_
                  refine n_add X dX12_runCommand_128 ?_
                  refine lv_istore (lv' := [(6, .int (nI (i + 1))), (5, .int (nI 0)), (4, .int (iI ((((c.length : Nat) : Int) - ((i : Nat) : Int)) - ((1 : Nat) : Int)))), (3, .int (nI kd)), (2, .int (nI i)), (1, .int (nI c.length)), (0, .ref m0)]) X.1 X.2.1 dX12_runCommand_129 hl (by decide) rfl (fun ls hl => ?_)
                  have L131 : ∀ (rn : Nat) (v : Nat) (t : Nat) (h2 : t + rn = c.length ∨ (rn = 0 ∧ t = c.length + 1 ∧ i = c.length)) (hti : i < t) (hvb : (t = i + 1 ∧ v = 0) ∨ (t = i + 2 ∧ v < 10) ∨ (t = i + 3 ∧ v < 100) ∨ (t = i + 4 ∧ v < 1000)) (hqn : nmL c rn t v = paI c) (ls : Array Slot) (hl : lv_has ls 7 [(6, .int (nI t)), (5, .int (nI v)), (4, .int (iI ((((c.length : Nat) : Int) - ((i : Nat) : Int)) - ((1 : Nat) : Int)))), (3, .int (nI kd)), (2, .int (nI i)), (1, .int (nI c.length)), (0, .ref m0)]), W p_ l_ e_ { frames := 7, cells := 0, slots := 0, locals := 161 } S_ m_ args below meth co H locs 0 0 (MQ below (va_Qi (S := (Nat → Int32) × (Nat → Int32) × (Nat → Int32) × (Nat → Int32) × (Nat → Bool) × (Nat → Int32) × (Nat → Int32) × (Nat → Int32)) (fun r u => r = (nI ((conL k T n B kd pp).length)) ∧ rep u.1 (conL k T n B kd pp) ∧ hrm u.2.1 u.2.2.1 ((s :: h).take 6)) (MuB g A (fun u => [(m0, .inr (11, [.int (nI k), .int (nI n), .ref lt, .int (nI ((conL k T n B kd pp).length)), .ref er, .ref el, .int (nI (((s :: h).take 6).length)), .ref cm_, .int (nI (([] : List Nat).length)), .int (bI tk), .int (nI k0), .int (nI n0), .ref sv, .int (nI s0.length), .ref md, .int (nI ((conL k T n B kd pp).length)), .ref fmm, .ref lc, .ref lz, .ref af, .ref pt_, .int (nI p.length), .ref oc, .ref ty_, .ref sz_, .ref em])), (lt, .inl (g.2.1, 256, .inl u.1)), (er, .inl (g.2.1, 1536, .inl u.2.1)), (el, .inl (g.2.1, 6, .inl u.2.2.1)), (md, .inl (g.2.1, 256, .inl u.2.2.2.1)), (fmm, .inl (g.2.2.1, 256, .inl (mf u.2.2.2.2.1))), (lc, .inl (g.2.1, 256, .inl u.2.2.2.2.2.1)), (lz, .inl (g.2.1, 256, .inl u.2.2.2.2.2.2.1)), (af, .inl (g.2.1, 256, .inl u.2.2.2.2.2.2.2)), (cm_, .inl (g.2.1, 20, .inl fc))])) A) args S_ 0 0 A) (F0 m_ 131 ls []) := by
                    intro rn
                    induction rn with
                    | zero =>
                      intro v t h2 hti hvb hqn ls hl
                      refine lv_iload X.1 X.2.1 dX12_runCommand_131 (lv_at hl 0 rfl) ?_
                      refine lv_iload_n X.1 X.2.1 dX12_runCommand_133 rfl (lv_at hl 5 rfl) ?_
                      refine z_icmp_ge (tgt := 180) X dX12_runCommand_134 (by decide) (nI_toInt (by omega)) (nI_toInt (by omega)) (fun c134 => ?_) (fun c134 => ?_)
                      · refine lv_aload_n X.1 X.2.1 dX12_runCommand_180 rfl (lv_at hl 6 rfl) ?_
                        refine lv_iload_n X.1 X.2.1 dX12_runCommand_181 rfl (lv_at hl 3 rfl) ?_
                        refine lv_iload X.1 X.2.1 dX12_runCommand_182 (lv_at hl 1 rfl) ?_
                        have hv9 : nI v = paI c := hqn
                        refine (m_construct_ok g m0 lt er el cm_ sv md fmm lc lz af pt_ oc ty_ sz_ em k n s h ([] : List Nat) tk k0 n0 s0 z p f fe fl fm_ q fc_ fx fa B T kd (nI v) pp (by assumption) (by omega) (by assumption) (by assumption) (by omega) (fun h => ⟨hv9.trans hpa, hp3 h⟩)).callV (rest := []) (wr := [(cm_, .inl (g.2.1, 20, .inl fc))]) X dX12_runCommand_184 q1217 tX12_construct hK hP hD hS hA [0, 1, 2, 3, 4, 5, 6, 7, 8] [9] (by decide) rfl rfl (by decide) (by decide) 0 11 rfl rfl rfl hl ⟨⟨Nat.le_of_ble_eq_true rfl, Nat.le_of_ble_eq_true rfl⟩, Nat.le_of_ble_eq_true rfl, Nat.le_of_ble_eq_true rfl⟩ rfl rfl (Nat.le_of_ble_eq_true rfl) (fun r184 u184 H locs hw184 hP hD hS => ?_)
                        obtain ⟨f1_184, fe1_184, fl1_184, fm1_184, q1_184, fc1_184, fx1_184, fa1_184⟩ := u184
                        have hP : PP g [(cm_, .inl (g.2.1, 20, .inl fc)), (m0, .inr (11, [.int (nI k), .int (nI n), .ref lt, .int (nI ((conL k T n B kd pp).length)), .ref er, .ref el, .int (nI (((s :: h).take 6).length)), .ref cm_, .int (nI (([] : List Nat).length)), .int (bI tk), .int (nI k0), .int (nI n0), .ref sv, .int (nI s0.length), .ref md, .int (nI ((conL k T n B kd pp).length)), .ref fmm, .ref lc, .ref lz, .ref af, .ref pt_, .int (nI p.length), .ref oc, .ref ty_, .ref sz_, .ref em])), (lt, .inl (g.2.1, 256, .inl f1_184)), (er, .inl (g.2.1, 1536, .inl fe1_184)), (el, .inl (g.2.1, 6, .inl fl1_184)), (md, .inl (g.2.1, 256, .inl fm1_184)), (fmm, .inl (g.2.2.1, 256, .inl (mf q1_184))), (lc, .inl (g.2.1, 256, .inl fc1_184)), (lz, .inl (g.2.1, 256, .inl fx1_184)), (af, .inl (g.2.1, 256, .inl fa1_184))] H := hP
                        have hD : va_D A [(cm_, .inl (g.2.1, 20, .inl fc)), (m0, .inr (11, [.int (nI k), .int (nI n), .ref lt, .int (nI ((conL k T n B kd pp).length)), .ref er, .ref el, .int (nI (((s :: h).take 6).length)), .ref cm_, .int (nI (([] : List Nat).length)), .int (bI tk), .int (nI k0), .int (nI n0), .ref sv, .int (nI s0.length), .ref md, .int (nI ((conL k T n B kd pp).length)), .ref fmm, .ref lc, .ref lz, .ref af, .ref pt_, .int (nI p.length), .ref oc, .ref ty_, .ref sz_, .ref em])), (lt, .inl (g.2.1, 256, .inl f1_184)), (er, .inl (g.2.1, 1536, .inl fe1_184)), (el, .inl (g.2.1, 6, .inl fl1_184)), (md, .inl (g.2.1, 256, .inl fm1_184)), (fmm, .inl (g.2.2.1, 256, .inl (mf q1_184))), (lc, .inl (g.2.1, 256, .inl fc1_184)), (lz, .inl (g.2.1, 256, .inl fx1_184)), (af, .inl (g.2.1, 256, .inl fa1_184))] := hD
                        try dsimp only at hw184
                        refine tp_i (y := (nI ((conL k T n B kd pp).length))) (hw184.1) ?_
                        exact MuI.ret X hr hlk hK hS dX12_runCommand_187 (nI_nar _) (f1_184, fe1_184, fl1_184, fm1_184, q1_184, fc1_184, fx1_184, fa1_184) (hP.sub [1, 2, 3, 4, 5, 6, 7, 8, 9, 0] rfl) (hD.sub [1, 2, 3, 4, 5, 6, 7, 8, 9, 0] (by decide) rfl) (⟨rfl, hw184.2⟩)
                      · exfalso; omega
                    | succ rn ih131 =>
                      intro v t h2 hti hvb hqn ls hl
                      refine lv_iload X.1 X.2.1 dX12_runCommand_131 (lv_at hl 0 rfl) ?_
                      refine lv_iload_n X.1 X.2.1 dX12_runCommand_133 rfl (lv_at hl 5 rfl) ?_
                      refine z_icmp_ge (tgt := 180) X dX12_runCommand_134 (by decide) (nI_toInt (by omega)) (nI_toInt (by omega)) (fun c134 => ?_) (fun c134 => ?_)
                      · exfalso; omega
                      · refine lv_aload_n X.1 X.2.1 dX12_runCommand_137 rfl (lv_at hl 6 rfl) ?_
                        refine va_get (D := g.1) (ci := 11) (v := .ref cm_) (C := RX12) (T := TX12) (N := 26) X.1 X.2.1 X.2.2.2.2 iwX12 X.2.2.2.1 hK hP 0 rfl rfl 7 (by decide) (X.2.2.2.2 _ q1027) (fun _ h9 => h9) rfl dX12_runCommand_138 ?_
                        refine lv_iload X.1 X.2.1 dX12_runCommand_141 (lv_at hl 0 rfl) ?_
                        refine n_iald X hK hP 9 0 rfl rfl (by omega) (by decide) dX12_runCommand_143 ?_
                        have hbt := hbc t
                        refine tp_i (y := (nI (c.getD t 0))) (hfc t (by omega)) ?_
                        refine lv_bipush (v := (nI 48)) X.1 X.2.1 dX12_runCommand_144 (by decide) ?_
                        refine lv_bipush (v := (nI 57)) X.1 X.2.1 dX12_runCommand_146 (by decide) ?_
                        refine (c_inN g (nI (c.getD t 0)) 48 57 (by omega) (by omega)).callS (rest := []) X dX12_runCommand_148 q1103 tX12_in hK (hP.sub [] rfl) hl ⟨⟨Nat.le_of_ble_eq_true rfl, Nat.le_of_ble_eq_true rfl⟩, Nat.le_of_ble_eq_true rfl, Nat.le_of_ble_eq_true rfl⟩ rfl rfl (Nat.le_of_ble_eq_true rfl) ?_
                        refine b_if_ne (tgt := 156) X dX12_runCommand_151 (by decide) (fun c151 => ?_) (fun c151 => ?_)
                        · have h4 := of_decide_eq_true c151
                          rw [nI_toInt (by omega)] at h4
                          refine lv_bipush (v := (nI 10)) X.1 X.2.1 dX12_runCommand_156 (by decide) ?_
                          refine lv_iload X.1 X.2.1 dX12_runCommand_158 (lv_at hl 1 rfl) ?_
                          refine n_mul X dX12_runCommand_160 ?_
                          refine lv_aload_n X.1 X.2.1 dX12_runCommand_161 rfl (lv_at hl 6 rfl) ?_
                          refine va_get (D := g.1) (ci := 11) (v := .ref cm_) (C := RX12) (T := TX12) (N := 26) X.1 X.2.1 X.2.2.2.2 iwX12 X.2.2.2.1 hK hP 0 rfl rfl 7 (by decide) (X.2.2.2.2 _ q1027) (fun _ h9 => h9) rfl dX12_runCommand_162 ?_
                          refine lv_iload X.1 X.2.1 dX12_runCommand_165 (lv_at hl 0 rfl) ?_
                          refine n_iald X hK hP 9 0 rfl rfl (by omega) (by decide) dX12_runCommand_167 ?_
                          refine tp_i (y := (nI (c.getD t 0))) (hfc t (by omega)) ?_
                          refine n_add X dX12_runCommand_168 ?_
                          refine lv_bipush (v := (nI 48)) X.1 X.2.1 dX12_runCommand_169 (by decide) ?_
                          refine n_sub X dX12_runCommand_171 (by omega) ?_
                          refine lv_istore (lv' := [(5, .int (nI ((10 * v + (c.getD t 0)) - 48))), (6, .int (nI t)), (4, .int (iI ((((c.length : Nat) : Int) - ((i : Nat) : Int)) - ((1 : Nat) : Int)))), (3, .int (nI kd)), (2, .int (nI i)), (1, .int (nI c.length)), (0, .ref m0)]) X.1 X.2.1 dX12_runCommand_172 hl (by decide) rfl (fun ls hl => ?_)
                          refine lv_iinc (v := (nI (t + 1))) (lv' := [(6, .int (nI (t + 1))), (5, .int (nI ((10 * v + (c.getD t 0)) - 48))), (4, .int (iI ((((c.length : Nat) : Int) - ((i : Nat) : Int)) - ((1 : Nat) : Int)))), (3, .int (nI kd)), (2, .int (nI i)), (1, .int (nI c.length)), (0, .ref m0)]) X.1 X.2.1 dX12_runCommand_174 hl (k := 1) rfl (nI_inc _) (by decide) rfl (fun ls hl => ?_)
                          refine lv_goto (tgt := 131) X.1 X.2.1 dX12_runCommand_177 (by decide) ?_
                          exact ih131 ((10 * v + (c.getD t 0)) - 48) (t + 1) (by omega) (by omega) (by omega) (by rw [nmL, if_pos (by omega)] at hqn; rw [show 10 * v + c.getD t 0 - 48 = v * 10 + (c.getD t 0 - 48) by omega]; exact hqn) ls (lv_sub hl [0, 1, 2, 3, 4, 5, 6] rfl)
                        · have h4 := of_decide_eq_false c151
                          rw [nI_toInt (by omega)] at h4
                          refine lv_iconst (v := (-1)) X.1 X.2.1 dX12_runCommand_154 (by decide) ?_
                          exfalso
                          have h9 : paI c = (-1) := by rw [← hqn, nmL, if_neg (by omega)]
                          rw [hpa] at h9
                          have h8 := congrArg Int32.toInt h9
                          rw [nI_toInt (by omega)] at h8
                          have h7 : ((-1) : Int32).toInt = -1 := rfl
                          omega
                  exact L131 (c.length - (i + 1)) 0 (i + 1) (by omega) (by omega) (by omega) (by unfold paI; first | (rw [if_pos (by omega), show c.length - (i + 1) = 0 by omega]; rfl) | (rw [if_neg (by omega), if_neg (by omega), ← hce])) ls (lv_sub hl [0, 1, 2, 3, 4, 5, 6] rfl)
                · have h3 := of_decide_eq_false c118
                  rw [iI_toInt (by omega) (by omega)] at h3
                  refine lv_iconst (v := (-1)) X.1 X.2.1 dX12_runCommand_121 (by decide) ?_
                  exfalso
                  have h9 : paI c = (-1) := by unfold paI; rw [if_neg (by omega), if_pos (by omega)]
                  rw [hpa] at h9
                  have h8 := congrArg Int32.toInt h9
                  rw [nI_toInt (by omega)] at h8
                  have h7 : ((-1) : Int32).toInt = -1 := rfl
                  omega
            · exfalso; omega
        · refine lv_iconst (v := (nI 0)) X.1 X.2.1 dX12_runCommand_44 (by decide) ?_
          refine lv_goto (tgt := 91) X.1 X.2.1 dX12_runCommand_45 (by decide) ?_
          have hk9 : kdI c = nI 0 := by unfold kdI; simp [kdL, c41]
          refine tp_i (y := (nI kd)) (by rw [← hk9, hkd]) ?_
          refine lv_istore_n (lv' := [(3, .int (nI kd)), (2, .int (nI i)), (1, .int (nI c.length)), (0, .ref m0)]) X.1 X.2.1 dX12_runCommand_91 rfl hl (by decide) rfl (fun ls hl => ?_)
          refine lv_iload_n X.1 X.2.1 dX12_runCommand_92 rfl (lv_at hl 0 rfl) ?_
          refine z_if_ge (tgt := 99) X dX12_runCommand_93 (by decide) (nI_toInt (by omega)) (fun c93 => ?_) (fun c93 => ?_)
          · refine lv_iload_n X.1 X.2.1 dX12_runCommand_99 rfl (lv_at hl 2 rfl) ?_
            refine lv_iload_n X.1 X.2.1 dX12_runCommand_100 rfl (lv_at hl 1 rfl) ?_
            refine lv_isub X.1 X.2.1 dX12_runCommand_101 ?_
            refine tp_i (y := (iI (((c.length : Nat) : Int) - ((i : Nat) : Int)))) (by first | rw [iI_sub] | rw [nI_iI, nI_iI, iI_sub] | rw [nI_iI, iI_sub]) ?_
            refine lv_iconst (v := (nI 1)) X.1 X.2.1 dX12_runCommand_102 (by decide) ?_
            refine lv_isub X.1 X.2.1 dX12_runCommand_103 ?_
            refine tp_i (y := (iI ((((c.length : Nat) : Int) - ((i : Nat) : Int)) - ((1 : Nat) : Int)))) (by first | rw [iI_sub] | rw [nI_iI, nI_iI, iI_sub] | rw [nI_iI, iI_sub]) ?_
            refine lv_istore (lv' := [(4, .int (iI ((((c.length : Nat) : Int) - ((i : Nat) : Int)) - ((1 : Nat) : Int)))), (3, .int (nI kd)), (2, .int (nI i)), (1, .int (nI c.length)), (0, .ref m0)]) X.1 X.2.1 dX12_runCommand_104 hl (by decide) rfl (fun ls hl => ?_)
            refine lv_iload_n X.1 X.2.1 dX12_runCommand_106 rfl (lv_at hl 2 rfl) ?_
            refine lv_iload_n X.1 X.2.1 dX12_runCommand_107 rfl (lv_at hl 3 rfl) ?_
            refine z_icmp_ge (tgt := 123) X dX12_runCommand_108 (by decide) (nI_toInt (by omega)) (nI_toInt (by omega)) (fun c108 => ?_) (fun c108 => ?_)
            · refine lv_iconst (v := (nI 0)) X.1 X.2.1 dX12_runCommand_123 (by decide) ?_
              refine lv_istore (lv' := [(5, .int (nI 0)), (4, .int (iI ((((c.length : Nat) : Int) - ((i : Nat) : Int)) - ((1 : Nat) : Int)))), (3, .int (nI kd)), (2, .int (nI i)), (1, .int (nI c.length)), (0, .ref m0)]) X.1 X.2.1 dX12_runCommand_124 hl (by decide) rfl (fun ls hl => ?_)
              refine lv_iload_n X.1 X.2.1 dX12_runCommand_126 rfl (lv_at hl 3 rfl) ?_
              refine lv_iconst (v := (nI 1)) X.1 X.2.1 dX12_runCommand_127 (by decide) ?_
              refine n_add X dX12_runCommand_128 ?_
              refine lv_istore (lv' := [(6, .int (nI (i + 1))), (5, .int (nI 0)), (4, .int (iI ((((c.length : Nat) : Int) - ((i : Nat) : Int)) - ((1 : Nat) : Int)))), (3, .int (nI kd)), (2, .int (nI i)), (1, .int (nI c.length)), (0, .ref m0)]) X.1 X.2.1 dX12_runCommand_129 hl (by decide) rfl (fun ls hl => ?_)
              have L131 : ∀ (rn : Nat) (v : Nat) (t : Nat) (h2 : t + rn = c.length ∨ (rn = 0 ∧ t = c.length + 1 ∧ i = c.length)) (hti : i < t) (hvb : (t = i + 1 ∧ v = 0) ∨ (t = i + 2 ∧ v < 10) ∨ (t = i + 3 ∧ v < 100) ∨ (t = i + 4 ∧ v < 1000)) (hqn : nmL c rn t v = paI c) (ls : Array Slot) (hl : lv_has ls 7 [(6, .int (nI t)), (5, .int (nI v)), (4, .int (iI ((((c.length : Nat) : Int) - ((i : Nat) : Int)) - ((1 : Nat) : Int)))), (3, .int (nI kd)), (2, .int (nI i)), (1, .int (nI c.length)), (0, .ref m0)]), W p_ l_ e_ { frames := 7, cells := 0, slots := 0, locals := 161 } S_ m_ args below meth co H locs 0 0 (MQ below (va_Qi (S := (Nat → Int32) × (Nat → Int32) × (Nat → Int32) × (Nat → Int32) × (Nat → Bool) × (Nat → Int32) × (Nat → Int32) × (Nat → Int32)) (fun r u => r = (nI ((conL k T n B kd pp).length)) ∧ rep u.1 (conL k T n B kd pp) ∧ hrm u.2.1 u.2.2.1 ((s :: h).take 6)) (MuB g A (fun u => [(m0, .inr (11, [.int (nI k), .int (nI n), .ref lt, .int (nI ((conL k T n B kd pp).length)), .ref er, .ref el, .int (nI (((s :: h).take 6).length)), .ref cm_, .int (nI (([] : List Nat).length)), .int (bI tk), .int (nI k0), .int (nI n0), .ref sv, .int (nI s0.length), .ref md, .int (nI ((conL k T n B kd pp).length)), .ref fmm, .ref lc, .ref lz, .ref af, .ref pt_, .int (nI p.length), .ref oc, .ref ty_, .ref sz_, .ref em])), (lt, .inl (g.2.1, 256, .inl u.1)), (er, .inl (g.2.1, 1536, .inl u.2.1)), (el, .inl (g.2.1, 6, .inl u.2.2.1)), (md, .inl (g.2.1, 256, .inl u.2.2.2.1)), (fmm, .inl (g.2.2.1, 256, .inl (mf u.2.2.2.2.1))), (lc, .inl (g.2.1, 256, .inl u.2.2.2.2.2.1)), (lz, .inl (g.2.1, 256, .inl u.2.2.2.2.2.2.1)), (af, .inl (g.2.1, 256, .inl u.2.2.2.2.2.2.2)), (cm_, .inl (g.2.1, 20, .inl fc))])) A) args S_ 0 0 A) (F0 m_ 131 ls []) := by
                intro rn
                induction rn with
                | zero =>
                  intro v t h2 hti hvb hqn ls hl
                  refine lv_iload X.1 X.2.1 dX12_runCommand_131 (lv_at hl 0 rfl) ?_
                  refine lv_iload_n X.1 X.2.1 dX12_runCommand_133 rfl (lv_at hl 5 rfl) ?_
                  refine z_icmp_ge (tgt := 180) X dX12_runCommand_134 (by decide) (nI_toInt (by omega)) (nI_toInt (by omega)) (fun c134 => ?_) (fun c134 => ?_)
                  · refine lv_aload_n X.1 X.2.1 dX12_runCommand_180 rfl (lv_at hl 6 rfl) ?_
                    refine lv_iload_n X.1 X.2.1 dX12_runCommand_181 rfl (lv_at hl 3 rfl) ?_
                    refine lv_iload X.1 X.2.1 dX12_runCommand_182 (lv_at hl 1 rfl) ?_
                    have hv9 : nI v = paI c := hqn
                    refine (m_construct_ok g m0 lt er el cm_ sv md fmm lc lz af pt_ oc ty_ sz_ em k n s h ([] : List Nat) tk k0 n0 s0 z p f fe fl fm_ q fc_ fx fa B T kd (nI v) pp (by assumption) (by omega) (by assumption) (by assumption) (by omega) (fun h => ⟨hv9.trans hpa, hp3 h⟩)).callV (rest := []) (wr := [(cm_, .inl (g.2.1, 20, .inl fc))]) X dX12_runCommand_184 q1217 tX12_construct hK hP hD hS hA [0, 1, 2, 3, 4, 5, 6, 7, 8] [9] (by decide) rfl rfl (by decide) (by decide) 0 11 rfl rfl rfl hl ⟨⟨Nat.le_of_ble_eq_true rfl, Nat.le_of_ble_eq_true rfl⟩, Nat.le_of_ble_eq_true rfl, Nat.le_of_ble_eq_true rfl⟩ rfl rfl (Nat.le_of_ble_eq_true rfl) (fun r184 u184 H locs hw184 hP hD hS => ?_)
                    obtain ⟨f1_184, fe1_184, fl1_184, fm1_184, q1_184, fc1_184, fx1_184, fa1_184⟩ := u184
                    have hP : PP g [(cm_, .inl (g.2.1, 20, .inl fc)), (m0, .inr (11, [.int (nI k), .int (nI n), .ref lt, .int (nI ((conL k T n B kd pp).length)), .ref er, .ref el, .int (nI (((s :: h).take 6).length)), .ref cm_, .int (nI (([] : List Nat).length)), .int (bI tk), .int (nI k0), .int (nI n0), .ref sv, .int (nI s0.length), .ref md, .int (nI ((conL k T n B kd pp).length)), .ref fmm, .ref lc, .ref lz, .ref af, .ref pt_, .int (nI p.length), .ref oc, .ref ty_, .ref sz_, .ref em])), (lt, .inl (g.2.1, 256, .inl f1_184)), (er, .inl (g.2.1, 1536, .inl fe1_184)), (el, .inl (g.2.1, 6, .inl fl1_184)), (md, .inl (g.2.1, 256, .inl fm1_184)), (fmm, .inl (g.2.2.1, 256, .inl (mf q1_184))), (lc, .inl (g.2.1, 256, .inl fc1_184)), (lz, .inl (g.2.1, 256, .inl fx1_184)), (af, .inl (g.2.1, 256, .inl fa1_184))] H := hP
                    have hD : va_D A [(cm_, .inl (g.2.1, 20, .inl fc)), (m0, .inr (11, [.int (nI k), .int (nI n), .ref lt, .int (nI ((conL k T n B kd pp).length)), .ref er, .ref el, .int (nI (((s :: h).take 6).length)), .ref cm_, .int (nI (([] : List Nat).length)), .int (bI tk), .int (nI k0), .int (nI n0), .ref sv, .int (nI s0.length), .ref md, .int (nI ((conL k T n B kd pp).length)), .ref fmm, .ref lc, .ref lz, .ref af, .ref pt_, .int (nI p.length), .ref oc, .ref ty_, .ref sz_, .ref em])), (lt, .inl (g.2.1, 256, .inl f1_184)), (er, .inl (g.2.1, 1536, .inl fe1_184)), (el, .inl (g.2.1, 6, .inl fl1_184)), (md, .inl (g.2.1, 256, .inl fm1_184)), (fmm, .inl (g.2.2.1, 256, .inl (mf q1_184))), (lc, .inl (g.2.1, 256, .inl fc1_184)), (lz, .inl (g.2.1, 256, .inl fx1_184)), (af, .inl (g.2.1, 256, .inl fa1_184))] := hD
                    try dsimp only at hw184
                    refine tp_i (y := (nI ((conL k T n B kd pp).length))) (hw184.1) ?_
                    exact MuI.ret X hr hlk hK hS dX12_runCommand_187 (nI_nar _) (f1_184, fe1_184, fl1_184, fm1_184, q1_184, fc1_184, fx1_184, fa1_184) (hP.sub [1, 2, 3, 4, 5, 6, 7, 8, 9, 0] rfl) (hD.sub [1, 2, 3, 4, 5, 6, 7, 8, 9, 0] (by decide) rfl) (⟨rfl, hw184.2⟩)
                  · exfalso; omega
                | succ rn ih131 =>
                  intro v t h2 hti hvb hqn ls hl
                  refine lv_iload X.1 X.2.1 dX12_runCommand_131 (lv_at hl 0 rfl) ?_
                  refine lv_iload_n X.1 X.2.1 dX12_runCommand_133 rfl (lv_at hl 5 rfl) ?_
                  refine z_icmp_ge (tgt := 180) X dX12_runCommand_134 (by decide) (nI_toInt (by omega)) (nI_toInt (by omega)) (fun c134 => ?_) (fun c134 => ?_)
                  · exfalso; omega
                  · refine lv_aload_n X.1 X.2.1 dX12_runCommand_137 rfl (lv_at hl 6 rfl) ?_
                    refine va_get (D := g.1) (ci := 11) (v := .ref cm_) (C := RX12) (T := TX12) (N := 26) X.1 X.2.1 X.2.2.2.2 iwX12 X.2.2.2.1 hK hP 0 rfl rfl 7 (by decide) (X.2.2.2.2 _ q1027) (fun _ h9 => h9) rfl dX12_runCommand_138 ?_
                    refine lv_iload X.1 X.2.1 dX12_runCommand_141 (lv_at hl 0 rfl) ?_
                    refine n_iald X hK hP 9 0 rfl rfl (by omega) (by decide) dX12_runCommand_143 ?_
                    have hbt := hbc t
                    refine tp_i (y := (nI (c.getD t 0))) (hfc t (by omega)) ?_
                    refine lv_bipush (v := (nI 48)) X.1 X.2.1 dX12_runCommand_144 (by decide) ?_
                    refine lv_bipush (v := (nI 57)) X.1 X.2.1 dX12_runCommand_146 (by decide) ?_
                    refine (c_inN g (nI (c.getD t 0)) 48 57 (by omega) (by omega)).callS (rest := []) X dX12_runCommand_148 q1103 tX12_in hK (hP.sub [] rfl) hl ⟨⟨Nat.le_of_ble_eq_true rfl, Nat.le_of_ble_eq_true rfl⟩, Nat.le_of_ble_eq_true rfl, Nat.le_of_ble_eq_true rfl⟩ rfl rfl (Nat.le_of_ble_eq_true rfl) ?_
                    refine b_if_ne (tgt := 156) X dX12_runCommand_151 (by decide) (fun c151 => ?_) (fun c151 => ?_)
                    · have h4 := of_decide_eq_true c151
                      rw [nI_toInt (by omega)] at h4
                      refine lv_bipush (v := (nI 10)) X.1 X.2.1 dX12_runCommand_156 (by decide) ?_
                      refine lv_iload X.1 X.2.1 dX12_runCommand_158 (lv_at hl 1 rfl) ?_
                      refine n_mul X dX12_runCommand_160 ?_
                      refine lv_aload_n X.1 X.2.1 dX12_runCommand_161 rfl (lv_at hl 6 rfl) ?_
                      refine va_get (D := g.1) (ci := 11) (v := .ref cm_) (C := RX12) (T := TX12) (N := 26) X.1 X.2.1 X.2.2.2.2 iwX12 X.2.2.2.1 hK hP 0 rfl rfl 7 (by decide) (X.2.2.2.2 _ q1027) (fun _ h9 => h9) rfl dX12_runCommand_162 ?_
                      refine lv_iload X.1 X.2.1 dX12_runCommand_165 (lv_at hl 0 rfl) ?_
                      refine n_iald X hK hP 9 0 rfl rfl (by omega) (by decide) dX12_runCommand_167 ?_
                      refine tp_i (y := (nI (c.getD t 0))) (hfc t (by omega)) ?_
                      refine n_add X dX12_runCommand_168 ?_
                      refine lv_bipush (v := (nI 48)) X.1 X.2.1 dX12_runCommand_169 (by decide) ?_
                      refine n_sub X dX12_runCommand_171 (by omega) ?_
                      refine lv_istore (lv' := [(5, .int (nI ((10 * v + (c.getD t 0)) - 48))), (6, .int (nI t)), (4, .int (iI ((((c.length : Nat) : Int) - ((i : Nat) : Int)) - ((1 : Nat) : Int)))), (3, .int (nI kd)), (2, .int (nI i)), (1, .int (nI c.length)), (0, .ref m0)]) X.1 X.2.1 dX12_runCommand_172 hl (by decide) rfl (fun ls hl => ?_)
                      refine lv_iinc (v := (nI (t + 1))) (lv' := [(6, .int (nI (t + 1))), (5, .int (nI ((10 * v + (c.getD t 0)) - 48))), (4, .int (iI ((((c.length : Nat) : Int) - ((i : Nat) : Int)) - ((1 : Nat) : Int)))), (3, .int (nI kd)), (2, .int (nI i)), (1, .int (nI c.length)), (0, .ref m0)]) X.1 X.2.1 dX12_runCommand_174 hl (k := 1) rfl (nI_inc _) (by decide) rfl (fun ls hl => ?_)
                      refine lv_goto (tgt := 131) X.1 X.2.1 dX12_runCommand_177 (by decide) ?_
                      exact ih131 ((10 * v + (c.getD t 0)) - 48) (t + 1) (by omega) (by omega) (by omega) (by rw [nmL, if_pos (by omega)] at hqn; rw [show 10 * v + c.getD t 0 - 48 = v * 10 + (c.getD t 0 - 48) by omega]; exact hqn) ls (lv_sub hl [0, 1, 2, 3, 4, 5, 6] rfl)
                    · have h4 := of_decide_eq_false c151
                      rw [nI_toInt (by omega)] at h4
                      refine lv_iconst (v := (-1)) X.1 X.2.1 dX12_runCommand_154 (by decide) ?_
                      exfalso
                      have h9 : paI c = (-1) := by rw [← hqn, nmL, if_neg (by omega)]
                      rw [hpa] at h9
                      have h8 := congrArg Int32.toInt h9
                      rw [nI_toInt (by omega)] at h8
                      have h7 : ((-1) : Int32).toInt = -1 := rfl
                      omega
              exact L131 (c.length - (i + 1)) 0 (i + 1) (by omega) (by omega) (by omega) (by unfold paI; first | (rw [if_pos (by omega), show c.length - (i + 1) = 0 by omega]; rfl) | (rw [if_neg (by omega), if_neg (by omega), ← hce])) ls (lv_sub hl [0, 1, 2, 3, 4, 5, 6] rfl)
            · refine lv_iload X.1 X.2.1 dX12_runCommand_111 (lv_at hl 0 rfl) ?_
              refine lv_iconst (v := (nI 1)) X.1 X.2.1 dX12_runCommand_113 (by decide) ?_
              refine lv_iconst (v := (nI 3)) X.1 X.2.1 dX12_runCommand_114 (by decide) ?_
              refine (c_inN g (iI ((((c.length : Nat) : Int) - ((i : Nat) : Int)) - ((1 : Nat) : Int))) 1 3 (by omega) (by omega)).callS (rest := []) X dX12_runCommand_115 q1103 tX12_in hK (hP.sub [] rfl) hl ⟨⟨Nat.le_of_ble_eq_true rfl, Nat.le_of_ble_eq_true rfl⟩, Nat.le_of_ble_eq_true rfl, Nat.le_of_ble_eq_true rfl⟩ rfl rfl (Nat.le_of_ble_eq_true rfl) ?_
              refine b_if_ne (tgt := 123) X dX12_runCommand_118 (by decide) (fun c118 => ?_) (fun c118 => ?_)
              · have h3 := of_decide_eq_true c118
                rw [iI_toInt (by omega) (by omega)] at h3
                refine lv_iconst (v := (nI 0)) X.1 X.2.1 dX12_runCommand_123 (by decide) ?_
                refine lv_istore (lv' := [(5, .int (nI 0)), (4, .int (iI ((((c.length : Nat) : Int) - ((i : Nat) : Int)) - ((1 : Nat) : Int)))), (3, .int (nI kd)), (2, .int (nI i)), (1, .int (nI c.length)), (0, .ref m0)]) X.1 X.2.1 dX12_runCommand_124 hl (by decide) rfl (fun ls hl => ?_)
                refine lv_iload_n X.1 X.2.1 dX12_runCommand_126 rfl (lv_at hl 3 rfl) ?_
                refine lv_iconst (v := (nI 1)) X.1 X.2.1 dX12_runCommand_127 (by decide) ?_
                refine n_add X dX12_runCommand_128 ?_
                refine lv_istore (lv' := [(6, .int (nI (i + 1))), (5, .int (nI 0)), (4, .int (iI ((((c.length : Nat) : Int) - ((i : Nat) : Int)) - ((1 : Nat) : Int)))), (3, .int (nI kd)), (2, .int (nI i)), (1, .int (nI c.length)), (0, .ref m0)]) X.1 X.2.1 dX12_runCommand_129 hl (by decide) rfl (fun ls hl => ?_)
                have L131 : ∀ (rn : Nat) (v : Nat) (t : Nat) (h2 : t + rn = c.length ∨ (rn = 0 ∧ t = c.length + 1 ∧ i = c.length)) (hti : i < t) (hvb : (t = i + 1 ∧ v = 0) ∨ (t = i + 2 ∧ v < 10) ∨ (t = i + 3 ∧ v < 100) ∨ (t = i + 4 ∧ v < 1000)) (hqn : nmL c rn t v = paI c) (ls : Array Slot) (hl : lv_has ls 7 [(6, .int (nI t)), (5, .int (nI v)), (4, .int (iI ((((c.length : Nat) : Int) - ((i : Nat) : Int)) - ((1 : Nat) : Int)))), (3, .int (nI kd)), (2, .int (nI i)), (1, .int (nI c.length)), (0, .ref m0)]), W p_ l_ e_ { frames := 7, cells := 0, slots := 0, locals := 161 } S_ m_ args below meth co H locs 0 0 (MQ below (va_Qi (S := (Nat → Int32) × (Nat → Int32) × (Nat → Int32) × (Nat → Int32) × (Nat → Bool) × (Nat → Int32) × (Nat → Int32) × (Nat → Int32)) (fun r u => r = (nI ((conL k T n B kd pp).length)) ∧ rep u.1 (conL k T n B kd pp) ∧ hrm u.2.1 u.2.2.1 ((s :: h).take 6)) (MuB g A (fun u => [(m0, .inr (11, [.int (nI k), .int (nI n), .ref lt, .int (nI ((conL k T n B kd pp).length)), .ref er, .ref el, .int (nI (((s :: h).take 6).length)), .ref cm_, .int (nI (([] : List Nat).length)), .int (bI tk), .int (nI k0), .int (nI n0), .ref sv, .int (nI s0.length), .ref md, .int (nI ((conL k T n B kd pp).length)), .ref fmm, .ref lc, .ref lz, .ref af, .ref pt_, .int (nI p.length), .ref oc, .ref ty_, .ref sz_, .ref em])), (lt, .inl (g.2.1, 256, .inl u.1)), (er, .inl (g.2.1, 1536, .inl u.2.1)), (el, .inl (g.2.1, 6, .inl u.2.2.1)), (md, .inl (g.2.1, 256, .inl u.2.2.2.1)), (fmm, .inl (g.2.2.1, 256, .inl (mf u.2.2.2.2.1))), (lc, .inl (g.2.1, 256, .inl u.2.2.2.2.2.1)), (lz, .inl (g.2.1, 256, .inl u.2.2.2.2.2.2.1)), (af, .inl (g.2.1, 256, .inl u.2.2.2.2.2.2.2)), (cm_, .inl (g.2.1, 20, .inl fc))])) A) args S_ 0 0 A) (F0 m_ 131 ls []) := by
                  intro rn
                  induction rn with
                  | zero =>
                    intro v t h2 hti hvb hqn ls hl
                    refine lv_iload X.1 X.2.1 dX12_runCommand_131 (lv_at hl 0 rfl) ?_
                    refine lv_iload_n X.1 X.2.1 dX12_runCommand_133 rfl (lv_at hl 5 rfl) ?_
                    refine z_icmp_ge (tgt := 180) X dX12_runCommand_134 (by decide) (nI_toInt (by omega)) (nI_toInt (by omega)) (fun c134 => ?_) (fun c134 => ?_)
                    · refine lv_aload_n X.1 X.2.1 dX12_runCommand_180 rfl (lv_at hl 6 rfl) ?_
                      refine lv_iload_n X.1 X.2.1 dX12_runCommand_181 rfl (lv_at hl 3 rfl) ?_
                      refine lv_iload X.1 X.2.1 dX12_runCommand_182 (lv_at hl 1 rfl) ?_
                      have hv9 : nI v = paI c := hqn
                      refine (m_construct_ok g m0 lt er el cm_ sv md fmm lc lz af pt_ oc ty_ sz_ em k n s h ([] : List Nat) tk k0 n0 s0 z p f fe fl fm_ q fc_ fx fa B T kd (nI v) pp (by assumption) (by omega) (by assumption) (by assumption) (by omega) (fun h => ⟨hv9.trans hpa, hp3 h⟩)).callV (rest := []) (wr := [(cm_, .inl (g.2.1, 20, .inl fc))]) X dX12_runCommand_184 q1217 tX12_construct hK hP hD hS hA [0, 1, 2, 3, 4, 5, 6, 7, 8] [9] (by decide) rfl rfl (by decide) (by decide) 0 11 rfl rfl rfl hl ⟨⟨Nat.le_of_ble_eq_true rfl, Nat.le_of_ble_eq_true rfl⟩, Nat.le_of_ble_eq_true rfl, Nat.le_of_ble_eq_true rfl⟩ rfl rfl (Nat.le_of_ble_eq_true rfl) (fun r184 u184 H locs hw184 hP hD hS => ?_)
                      obtain ⟨f1_184, fe1_184, fl1_184, fm1_184, q1_184, fc1_184, fx1_184, fa1_184⟩ := u184
                      have hP : PP g [(cm_, .inl (g.2.1, 20, .inl fc)), (m0, .inr (11, [.int (nI k), .int (nI n), .ref lt, .int (nI ((conL k T n B kd pp).length)), .ref er, .ref el, .int (nI (((s :: h).take 6).length)), .ref cm_, .int (nI (([] : List Nat).length)), .int (bI tk), .int (nI k0), .int (nI n0), .ref sv, .int (nI s0.length), .ref md, .int (nI ((conL k T n B kd pp).length)), .ref fmm, .ref lc, .ref lz, .ref af, .ref pt_, .int (nI p.length), .ref oc, .ref ty_, .ref sz_, .ref em])), (lt, .inl (g.2.1, 256, .inl f1_184)), (er, .inl (g.2.1, 1536, .inl fe1_184)), (el, .inl (g.2.1, 6, .inl fl1_184)), (md, .inl (g.2.1, 256, .inl fm1_184)), (fmm, .inl (g.2.2.1, 256, .inl (mf q1_184))), (lc, .inl (g.2.1, 256, .inl fc1_184)), (lz, .inl (g.2.1, 256, .inl fx1_184)), (af, .inl (g.2.1, 256, .inl fa1_184))] H := hP
                      have hD : va_D A [(cm_, .inl (g.2.1, 20, .inl fc)), (m0, .inr (11, [.int (nI k), .int (nI n), .ref lt, .int (nI ((conL k T n B kd pp).length)), .ref er, .ref el, .int (nI (((s :: h).take 6).length)), .ref cm_, .int (nI (([] : List Nat).length)), .int (bI tk), .int (nI k0), .int (nI n0), .ref sv, .int (nI s0.length), .ref md, .int (nI ((conL k T n B kd pp).length)), .ref fmm, .ref lc, .ref lz, .ref af, .ref pt_, .int (nI p.length), .ref oc, .ref ty_, .ref sz_, .ref em])), (lt, .inl (g.2.1, 256, .inl f1_184)), (er, .inl (g.2.1, 1536, .inl fe1_184)), (el, .inl (g.2.1, 6, .inl fl1_184)), (md, .inl (g.2.1, 256, .inl fm1_184)), (fmm, .inl (g.2.2.1, 256, .inl (mf q1_184))), (lc, .inl (g.2.1, 256, .inl fc1_184)), (lz, .inl (g.2.1, 256, .inl fx1_184)), (af, .inl (g.2.1, 256, .inl fa1_184))] := hD
                      try dsimp only at hw184
                      refine tp_i (y := (nI ((conL k T n B kd pp).length))) (hw184.1) ?_
                      exact MuI.ret X hr hlk hK hS dX12_runCommand_187 (nI_nar _) (f1_184, fe1_184, fl1_184, fm1_184, q1_184, fc1_184, fx1_184, fa1_184) (hP.sub [1, 2, 3, 4, 5, 6, 7, 8, 9, 0] rfl) (hD.sub [1, 2, 3, 4, 5, 6, 7, 8, 9, 0] (by decide) rfl) (⟨rfl, hw184.2⟩)
                    · exfalso; omega
                  | succ rn ih131 =>
                    intro v t h2 hti hvb hqn ls hl
                    refine lv_iload X.1 X.2.1 dX12_runCommand_131 (lv_at hl 0 rfl) ?_
                    refine lv_iload_n X.1 X.2.1 dX12_runCommand_133 rfl (lv_at hl 5 rfl) ?_
                    refine z_icmp_ge (tgt := 180) X dX12_runCommand_134 (by decide) (nI_toInt (by omega)) (nI_toInt (by omega)) (fun c134 => ?_) (fun c134 => ?_)
                    · exfalso; omega
                    · refine lv_aload_n X.1 X.2.1 dX12_runCommand_137 rfl (lv_at hl 6 rfl) ?_
                      refine va_get (D := g.1) (ci := 11) (v := .ref cm_) (C := RX12) (T := TX12) (N := 26) X.1 X.2.1 X.2.2.2.2 iwX12 X.2.2.2.1 hK hP 0 rfl rfl 7 (by decide) (X.2.2.2.2 _ q1027) (fun _ h9 => h9) rfl dX12_runCommand_138 ?_
                      refine lv_iload X.1 X.2.1 dX12_runCommand_141 (lv_at hl 0 rfl) ?_
                      refine n_iald X hK hP 9 0 rfl rfl (by omega) (by decide) dX12_runCommand_143 ?_
                      have hbt := hbc t
                      refine tp_i (y := (nI (c.getD t 0))) (hfc t (by omega)) ?_
                      refine lv_bipush (v := (nI 48)) X.1 X.2.1 dX12_runCommand_144 (by decide) ?_
                      refine lv_bipush (v := (nI 57)) X.1 X.2.1 dX12_runCommand_146 (by decide) ?_
                      refine (c_inN g (nI (c.getD t 0)) 48 57 (by omega) (by omega)).callS (rest := []) X dX12_runCommand_148 q1103 tX12_in hK (hP.sub [] rfl) hl ⟨⟨Nat.le_of_ble_eq_true rfl, Nat.le_of_ble_eq_true rfl⟩, Nat.le_of_ble_eq_true rfl, Nat.le_of_ble_eq_true rfl⟩ rfl rfl (Nat.le_of_ble_eq_true rfl) ?_
                      refine b_if_ne (tgt := 156) X dX12_runCommand_151 (by decide) (fun c151 => ?_) (fun c151 => ?_)
                      · have h4 := of_decide_eq_true c151
                        rw [nI_toInt (by omega)] at h4
                        refine lv_bipush (v := (nI 10)) X.1 X.2.1 dX12_runCommand_156 (by decide) ?_
                        refine lv_iload X.1 X.2.1 dX12_runCommand_158 (lv_at hl 1 rfl) ?_
                        refine n_mul X dX12_runCommand_160 ?_
                        refine lv_aload_n X.1 X.2.1 dX12_runCommand_161 rfl (lv_at hl 6 rfl) ?_
                        refine va_get (D := g.1) (ci := 11) (v := .ref cm_) (C := RX12) (T := TX12) (N := 26) X.1 X.2.1 X.2.2.2.2 iwX12 X.2.2.2.1 hK hP 0 rfl rfl 7 (by decide) (X.2.2.2.2 _ q1027) (fun _ h9 => h9) rfl dX12_runCommand_162 ?_
                        refine lv_iload X.1 X.2.1 dX12_runCommand_165 (lv_at hl 0 rfl) ?_
                        refine n_iald X hK hP 9 0 rfl rfl (by omega) (by decide) dX12_runCommand_167 ?_
                        refine tp_i (y := (nI (c.getD t 0))) (hfc t (by omega)) ?_
                        refine n_add X dX12_runCommand_168 ?_
                        refine lv_bipush (v := (nI 48)) X.1 X.2.1 dX12_runCommand_169 (by decide) ?_
                        refine n_sub X dX12_runCommand_171 (by omega) ?_
                        refine lv_istore (lv' := [(5, .int (nI ((10 * v + (c.getD t 0)) - 48))), (6, .int (nI t)), (4, .int (iI ((((c.length : Nat) : Int) - ((i : Nat) : Int)) - ((1 : Nat) : Int)))), (3, .int (nI kd)), (2, .int (nI i)), (1, .int (nI c.length)), (0, .ref m0)]) X.1 X.2.1 dX12_runCommand_172 hl (by decide) rfl (fun ls hl => ?_)
                        refine lv_iinc (v := (nI (t + 1))) (lv' := [(6, .int (nI (t + 1))), (5, .int (nI ((10 * v + (c.getD t 0)) - 48))), (4, .int (iI ((((c.length : Nat) : Int) - ((i : Nat) : Int)) - ((1 : Nat) : Int)))), (3, .int (nI kd)), (2, .int (nI i)), (1, .int (nI c.length)), (0, .ref m0)]) X.1 X.2.1 dX12_runCommand_174 hl (k := 1) rfl (nI_inc _) (by decide) rfl (fun ls hl => ?_)
                        refine lv_goto (tgt := 131) X.1 X.2.1 dX12_runCommand_177 (by decide) ?_
                        exact ih131 ((10 * v + (c.getD t 0)) - 48) (t + 1) (by omega) (by omega) (by omega) (by rw [nmL, if_pos (by omega)] at hqn; rw [show 10 * v + c.getD t 0 - 48 = v * 10 + (c.getD t 0 - 48) by omega]; exact hqn) ls (lv_sub hl [0, 1, 2, 3, 4, 5, 6] rfl)
                      · have h4 := of_decide_eq_false c151
                        rw [nI_toInt (by omega)] at h4
                        refine lv_iconst (v := (-1)) X.1 X.2.1 dX12_runCommand_154 (by decide) ?_
                        exfalso
                        have h9 : paI c = (-1) := by rw [← hqn, nmL, if_neg (by omega)]
                        rw [hpa] at h9
                        have h8 := congrArg Int32.toInt h9
                        rw [nI_toInt (by omega)] at h8
                        have h7 : ((-1) : Int32).toInt = -1 := rfl
                        omega
                exact L131 (c.length - (i + 1)) 0 (i + 1) (by omega) (by omega) (by omega) (by unfold paI; first | (rw [if_pos (by omega), show c.length - (i + 1) = 0 by omega]; rfl) | (rw [if_neg (by omega), if_neg (by omega), ← hce])) ls (lv_sub hl [0, 1, 2, 3, 4, 5, 6] rfl)
              · have h3 := of_decide_eq_false c118
                rw [iI_toInt (by omega) (by omega)] at h3
                refine lv_iconst (v := (-1)) X.1 X.2.1 dX12_runCommand_121 (by decide) ?_
                exfalso
                have h9 : paI c = (-1) := by unfold paI; rw [if_neg (by omega), if_pos (by omega)]
                rw [hpa] at h9
                have h8 := congrArg Int32.toInt h9
                rw [nI_toInt (by omega)] at h8
                have h7 : ((-1) : Int32).toInt = -1 := rfl
                omega
          · exfalso; omega
      · exfalso; omega
    | succ r ih12 =>
      intro i h1 hq ls hl
      refine lv_iload_n X.1 X.2.1 dX12_runCommand_12 rfl (lv_at hl 0 rfl) ?_
      refine lv_iload_n X.1 X.2.1 dX12_runCommand_13 rfl (lv_at hl 1 rfl) ?_
      refine z_icmp_ge (tgt := 34) X dX12_runCommand_14 (by decide) (nI_toInt (by omega)) (nI_toInt (by omega)) (fun c14 => ?_) (fun c14 => ?_)
      · exfalso; omega
      · refine lv_aload_n X.1 X.2.1 dX12_runCommand_17 rfl (lv_at hl 2 rfl) ?_
        refine va_get (D := g.1) (ci := 11) (v := .ref cm_) (C := RX12) (T := TX12) (N := 26) X.1 X.2.1 X.2.2.2.2 iwX12 X.2.2.2.1 hK hP 0 rfl rfl 7 (by decide) (X.2.2.2.2 _ q1027) (fun _ h9 => h9) rfl dX12_runCommand_18 ?_
        refine lv_iload_n X.1 X.2.1 dX12_runCommand_21 rfl (lv_at hl 0 rfl) ?_
        refine n_iald X hK hP 9 0 rfl rfl (by omega) (by decide) dX12_runCommand_22 ?_
        have hbi := hbc i
        refine tp_i (y := (nI (c.getD i 0))) (hfc i (by omega)) ?_
        refine lv_bipush (v := (nI 58)) X.1 X.2.1 dX12_runCommand_23 (by decide) ?_
        refine z_icmp_eq (tgt := 34) X dX12_runCommand_25 (by decide) (nI_toInt (by omega)) (nI_toInt (by omega)) (fun c25 => ?_) (fun c25 => ?_)
        · have hce : i = ceN c := by first | (have h9 : c.length = ceN c := hq; omega) | (rw [firstL, isCol, decide_eq_true (by omega)] at hq; exact hq)
          refine lv_aload_n X.1 X.2.1 dX12_runCommand_34 rfl (lv_at hl 2 rfl) ?_
          refine va_ldcS (q := adK 0) X.1 X.2.1 X.2.2.2.1 (hE.2.2.2.2.2.1) dX12_runCommand_35 ?_
          refine lv_iload_n X.1 X.2.1 dX12_runCommand_37 rfl (lv_at hl 0 rfl) ?_
          refine (m_begins g adK adV fm m0 lt er el cm_ sv md fmm lc lz af pt_ oc ty_ sz_ em k n s h ([] : List Nat) tk k0 n0 s0 z p fc c 0 i (by omega) (by assumption) (by assumption) (by omega) (hce)).callV (rest := []) X dX12_runCommand_38 q1208 tX12_begins hK (hP.sub [0, 9] rfl) ((hE.kept hS.2.1).narrow (fun _ h => h.elim)) (va_recv hK (hP.sub [0, 9] rfl) (ci := 11) (q0 := 0) rfl rfl) hl ⟨⟨Nat.le_of_ble_eq_true rfl, Nat.le_of_ble_eq_true rfl⟩, Nat.le_of_ble_eq_true rfl, Nat.le_of_ble_eq_true rfl⟩ rfl rfl (Nat.le_of_ble_eq_true rfl) ?_
          refine b_if_eq (tgt := 48) X dX12_runCommand_41 (by decide) (fun c41 => ?_) (fun c41 => ?_)
          · refine lv_aload_n X.1 X.2.1 dX12_runCommand_48 rfl (lv_at hl 2 rfl) ?_
            refine va_ldcS (q := adK 1) X.1 X.2.1 X.2.2.2.1 (hE.2.2.2.2.2.2.1) dX12_runCommand_49 ?_
            refine lv_iload_n X.1 X.2.1 dX12_runCommand_51 rfl (lv_at hl 0 rfl) ?_
            refine (m_begins g adK adV fm m0 lt er el cm_ sv md fmm lc lz af pt_ oc ty_ sz_ em k n s h ([] : List Nat) tk k0 n0 s0 z p fc c 1 i (by omega) (by assumption) (by assumption) (by omega) (hce)).callV (rest := []) X dX12_runCommand_52 q1208 tX12_begins hK (hP.sub [0, 9] rfl) ((hE.kept hS.2.1).narrow (fun _ h => h.elim)) (va_recv hK (hP.sub [0, 9] rfl) (ci := 11) (q0 := 0) rfl rfl) hl ⟨⟨Nat.le_of_ble_eq_true rfl, Nat.le_of_ble_eq_true rfl⟩, Nat.le_of_ble_eq_true rfl, Nat.le_of_ble_eq_true rfl⟩ rfl rfl (Nat.le_of_ble_eq_true rfl) ?_
            refine b_if_eq (tgt := 62) X dX12_runCommand_55 (by decide) (fun c55 => ?_) (fun c55 => ?_)
            · refine lv_aload_n X.1 X.2.1 dX12_runCommand_62 rfl (lv_at hl 2 rfl) ?_
              refine va_ldcS (q := adK 2) X.1 X.2.1 X.2.2.2.1 (hE.2.2.2.2.2.2.2.1) dX12_runCommand_63 ?_
              refine lv_iload_n X.1 X.2.1 dX12_runCommand_65 rfl (lv_at hl 0 rfl) ?_
              refine (m_begins g adK adV fm m0 lt er el cm_ sv md fmm lc lz af pt_ oc ty_ sz_ em k n s h ([] : List Nat) tk k0 n0 s0 z p fc c 2 i (by omega) (by assumption) (by assumption) (by omega) (hce)).callV (rest := []) X dX12_runCommand_66 q1208 tX12_begins hK (hP.sub [0, 9] rfl) ((hE.kept hS.2.1).narrow (fun _ h => h.elim)) (va_recv hK (hP.sub [0, 9] rfl) (ci := 11) (q0 := 0) rfl rfl) hl ⟨⟨Nat.le_of_ble_eq_true rfl, Nat.le_of_ble_eq_true rfl⟩, Nat.le_of_ble_eq_true rfl, Nat.le_of_ble_eq_true rfl⟩ rfl rfl (Nat.le_of_ble_eq_true rfl) ?_
              refine b_if_eq (tgt := 76) X dX12_runCommand_69 (by decide) (fun c69 => ?_) (fun c69 => ?_)
              · refine lv_aload_n X.1 X.2.1 dX12_runCommand_76 rfl (lv_at hl 2 rfl) ?_
                refine va_ldcS (q := adK 3) X.1 X.2.1 X.2.2.2.1 (hE.2.2.2.2.2.2.2.2) dX12_runCommand_77 ?_
                refine lv_iload_n X.1 X.2.1 dX12_runCommand_79 rfl (lv_at hl 0 rfl) ?_
                refine (m_begins g adK adV fm m0 lt er el cm_ sv md fmm lc lz af pt_ oc ty_ sz_ em k n s h ([] : List Nat) tk k0 n0 s0 z p fc c 3 i (by omega) (by assumption) (by assumption) (by omega) (hce)).callV (rest := []) X dX12_runCommand_80 q1208 tX12_begins hK (hP.sub [0, 9] rfl) ((hE.kept hS.2.1).narrow (fun _ h => h.elim)) (va_recv hK (hP.sub [0, 9] rfl) (ci := 11) (q0 := 0) rfl rfl) hl ⟨⟨Nat.le_of_ble_eq_true rfl, Nat.le_of_ble_eq_true rfl⟩, Nat.le_of_ble_eq_true rfl, Nat.le_of_ble_eq_true rfl⟩ rfl rfl (Nat.le_of_ble_eq_true rfl) ?_
                refine b_if_eq (tgt := 90) X dX12_runCommand_83 (by decide) (fun c83 => ?_) (fun c83 => ?_)
                · refine lv_iconst (v := (-1)) X.1 X.2.1 dX12_runCommand_90 (by decide) ?_
                  exfalso
                  have hk9 : kdI c = (-6) := by unfold kdI; simp [kdL, c41, c55, c69, c83]
                  rw [hkd] at hk9
                  have h8 := congrArg Int32.toInt hk9
                  rw [nI_toInt (by omega)] at h8
                  have h7 : ((-6) : Int32).toInt = -6 := rfl
                  omega
                · refine lv_iconst (v := (nI 3)) X.1 X.2.1 dX12_runCommand_86 (by decide) ?_
                  refine lv_goto (tgt := 91) X.1 X.2.1 dX12_runCommand_87 (by decide) ?_
                  have hk9 : kdI c = nI 3 := by unfold kdI; simp [kdL, c41, c55, c69, c83]
                  refine tp_i (y := (nI kd)) (by rw [← hk9, hkd]) ?_
                  refine lv_istore_n (lv' := [(3, .int (nI kd)), (2, .int (nI i)), (1, .int (nI c.length)), (0, .ref m0)]) X.1 X.2.1 dX12_runCommand_91 rfl hl (by decide) rfl (fun ls hl => ?_)
                  refine lv_iload_n X.1 X.2.1 dX12_runCommand_92 rfl (lv_at hl 0 rfl) ?_
                  refine z_if_ge (tgt := 99) X dX12_runCommand_93 (by decide) (nI_toInt (by omega)) (fun c93 => ?_) (fun c93 => ?_)
                  · refine lv_iload_n X.1 X.2.1 dX12_runCommand_99 rfl (lv_at hl 2 rfl) ?_
                    refine lv_iload_n X.1 X.2.1 dX12_runCommand_100 rfl (lv_at hl 1 rfl) ?_
                    refine lv_isub X.1 X.2.1 dX12_runCommand_101 ?_
                    refine tp_i (y := (iI (((c.length : Nat) : Int) - ((i : Nat) : Int)))) (by first | rw [iI_sub] | rw [nI_iI, nI_iI, iI_sub] | rw [nI_iI, iI_sub]) ?_
                    refine lv_iconst (v := (nI 1)) X.1 X.2.1 dX12_runCommand_102 (by decide) ?_
                    refine lv_isub X.1 X.2.1 dX12_runCommand_103 ?_
                    refine tp_i (y := (iI ((((c.length : Nat) : Int) - ((i : Nat) : Int)) - ((1 : Nat) : Int)))) (by first | rw [iI_sub] | rw [nI_iI, nI_iI, iI_sub] | rw [nI_iI, iI_sub]) ?_
                    refine lv_istore (lv' := [(4, .int (iI ((((c.length : Nat) : Int) - ((i : Nat) : Int)) - ((1 : Nat) : Int)))), (3, .int (nI kd)), (2, .int (nI i)), (1, .int (nI c.length)), (0, .ref m0)]) X.1 X.2.1 dX12_runCommand_104 hl (by decide) rfl (fun ls hl => ?_)
                    refine lv_iload_n X.1 X.2.1 dX12_runCommand_106 rfl (lv_at hl 2 rfl) ?_
                    refine lv_iload_n X.1 X.2.1 dX12_runCommand_107 rfl (lv_at hl 3 rfl) ?_
                    refine z_icmp_ge (tgt := 123) X dX12_runCommand_108 (by decide) (nI_toInt (by omega)) (nI_toInt (by omega)) (fun c108 => ?_) (fun c108 => ?_)
                    · refine lv_iconst (v := (nI 0)) X.1 X.2.1 dX12_runCommand_123 (by decide) ?_
                      refine lv_istore (lv' := [(5, .int (nI 0)), (4, .int (iI ((((c.length : Nat) : Int) - ((i : Nat) : Int)) - ((1 : Nat) : Int)))), (3, .int (nI kd)), (2, .int (nI i)), (1, .int (nI c.length)), (0, .ref m0)]) X.1 X.2.1 dX12_runCommand_124 hl (by decide) rfl (fun ls hl => ?_)
                      refine lv_iload_n X.1 X.2.1 dX12_runCommand_126 rfl (lv_at hl 3 rfl) ?_
                      refine lv_iconst (v := (nI 1)) X.1 X.2.1 dX12_runCommand_127 (by decide) ?_
                      refine n_add X dX12_runCommand_128 ?_
                      refine lv_istore (lv' := [(6, .int (nI (i + 1))), (5, .int (nI 0)), (4, .int (iI ((((c.length : Nat) : Int) - ((i : Nat) : Int)) - ((1 : Nat) : Int)))), (3, .int (nI kd)), (2, .int (nI i)), (1, .int (nI c.length)), (0, .ref m0)]) X.1 X.2.1 dX12_runCommand_129 hl (by decide) rfl (fun ls hl => ?_)
                      have L131 : ∀ (rn : Nat) (v : Nat) (t : Nat) (h2 : t + rn = c.length ∨ (rn = 0 ∧ t = c.length + 1 ∧ i = c.length)) (hti : i < t) (hvb : (t = i + 1 ∧ v = 0) ∨ (t = i + 2 ∧ v < 10) ∨ (t = i + 3 ∧ v < 100) ∨ (t = i + 4 ∧ v < 1000)) (hqn : nmL c rn t v = paI c) (ls : Array Slot) (hl : lv_has ls 7 [(6, .int (nI t)), (5, .int (nI v)), (4, .int (iI ((((c.length : Nat) : Int) - ((i : Nat) : Int)) - ((1 : Nat) : Int)))), (3, .int (nI kd)), (2, .int (nI i)), (1, .int (nI c.length)), (0, .ref m0)]), W p_ l_ e_ { frames := 7, cells := 0, slots := 0, locals := 161 } S_ m_ args below meth co H locs 0 0 (MQ below (va_Qi (S := (Nat → Int32) × (Nat → Int32) × (Nat → Int32) × (Nat → Int32) × (Nat → Bool) × (Nat → Int32) × (Nat → Int32) × (Nat → Int32)) (fun r u => r = (nI ((conL k T n B kd pp).length)) ∧ rep u.1 (conL k T n B kd pp) ∧ hrm u.2.1 u.2.2.1 ((s :: h).take 6)) (MuB g A (fun u => [(m0, .inr (11, [.int (nI k), .int (nI n), .ref lt, .int (nI ((conL k T n B kd pp).length)), .ref er, .ref el, .int (nI (((s :: h).take 6).length)), .ref cm_, .int (nI (([] : List Nat).length)), .int (bI tk), .int (nI k0), .int (nI n0), .ref sv, .int (nI s0.length), .ref md, .int (nI ((conL k T n B kd pp).length)), .ref fmm, .ref lc, .ref lz, .ref af, .ref pt_, .int (nI p.length), .ref oc, .ref ty_, .ref sz_, .ref em])), (lt, .inl (g.2.1, 256, .inl u.1)), (er, .inl (g.2.1, 1536, .inl u.2.1)), (el, .inl (g.2.1, 6, .inl u.2.2.1)), (md, .inl (g.2.1, 256, .inl u.2.2.2.1)), (fmm, .inl (g.2.2.1, 256, .inl (mf u.2.2.2.2.1))), (lc, .inl (g.2.1, 256, .inl u.2.2.2.2.2.1)), (lz, .inl (g.2.1, 256, .inl u.2.2.2.2.2.2.1)), (af, .inl (g.2.1, 256, .inl u.2.2.2.2.2.2.2)), (cm_, .inl (g.2.1, 20, .inl fc))])) A) args S_ 0 0 A) (F0 m_ 131 ls []) := by
                        intro rn
                        induction rn with
                        | zero =>
                          intro v t h2 hti hvb hqn ls hl
                          refine lv_iload X.1 X.2.1 dX12_runCommand_131 (lv_at hl 0 rfl) ?_
                          refine lv_iload_n X.1 X.2.1 dX12_runCommand_133 rfl (lv_at hl 5 rfl) ?_
                          refine z_icmp_ge (tgt := 180) X dX12_runCommand_134 (by decide) (nI_toInt (by omega)) (nI_toInt (by omega)) (fun c134 => ?_) (fun c134 => ?_)
                          · refine lv_aload_n X.1 X.2.1 dX12_runCommand_180 rfl (lv_at hl 6 rfl) ?_
                            refine lv_iload_n X.1 X.2.1 dX12_runCommand_181 rfl (lv_at hl 3 rfl) ?_
                            refine lv_iload X.1 X.2.1 dX12_runCommand_182 (lv_at hl 1 rfl) ?_
                            have hv9 : nI v = paI c := hqn
                            refine (m_construct_ok g m0 lt er el cm_ sv md fmm lc lz af pt_ oc ty_ sz_ em k n s h ([] : List Nat) tk k0 n0 s0 z p f fe fl fm_ q fc_ fx fa B T kd (nI v) pp (by assumption) (by omega) (by assumption) (by assumption) (by omega) (fun h => ⟨hv9.trans hpa, hp3 h⟩)).callV (rest := []) (wr := [(cm_, .inl (g.2.1, 20, .inl fc))]) X dX12_runCommand_184 q1217 tX12_construct hK hP hD hS hA [0, 1, 2, 3, 4, 5, 6, 7, 8] [9] (by decide) rfl rfl (by decide) (by decide) 0 11 rfl rfl rfl hl ⟨⟨Nat.le_of_ble_eq_true rfl, Nat.le_of_ble_eq_true rfl⟩, Nat.le_of_ble_eq_true rfl, Nat.le_of_ble_eq_true rfl⟩ rfl rfl (Nat.le_of_ble_eq_true rfl) (fun r184 u184 H locs hw184 hP hD hS => ?_)
                            obtain ⟨f1_184, fe1_184, fl1_184, fm1_184, q1_184, fc1_184, fx1_184, fa1_184⟩ := u184
                            have hP : PP g [(cm_, .inl (g.2.1, 20, .inl fc)), (m0, .inr (11, [.int (nI k), .int (nI n), .ref lt, .int (nI ((conL k T n B kd pp).length)), .ref er, .ref el, .int (nI (((s :: h).take 6).length)), .ref cm_, .int (nI (([] : List Nat).length)), .int (bI tk), .int (nI k0), .int (nI n0), .ref sv, .int (nI s0.length), .ref md, .int (nI ((conL k T n B kd pp).length)), .ref fmm, .ref lc, .ref lz, .ref af, .ref pt_, .int (nI p.length), .ref oc, .ref ty_, .ref sz_, .ref em])), (lt, .inl (g.2.1, 256, .inl f1_184)), (er, .inl (g.2.1, 1536, .inl fe1_184)), (el, .inl (g.2.1, 6, .inl fl1_184)), (md, .inl (g.2.1, 256, .inl fm1_184)), (fmm, .inl (g.2.2.1, 256, .inl (mf q1_184))), (lc, .inl (g.2.1, 256, .inl fc1_184)), (lz, .inl (g.2.1, 256, .inl fx1_184)), (af, .inl (g.2.1, 256, .inl fa1_184))] H := hP
                            have hD : va_D A [(cm_, .inl (g.2.1, 20, .inl fc)), (m0, .inr (11, [.int (nI k), .int (nI n), .ref lt, .int (nI ((conL k T n B kd pp).length)), .ref er, .ref el, .int (nI (((s :: h).take 6).length)), .ref cm_, .int (nI (([] : List Nat).length)), .int (bI tk), .int (nI k0), .int (nI n0), .ref sv, .int (nI s0.length), .ref md, .int (nI ((conL k T n B kd pp).length)), .ref fmm, .ref lc, .ref lz, .ref af, .ref pt_, .int (nI p.length), .ref oc, .ref ty_, .ref sz_, .ref em])), (lt, .inl (g.2.1, 256, .inl f1_184)), (er, .inl (g.2.1, 1536, .inl fe1_184)), (el, .inl (g.2.1, 6, .inl fl1_184)), (md, .inl (g.2.1, 256, .inl fm1_184)), (fmm, .inl (g.2.2.1, 256, .inl (mf q1_184))), (lc, .inl (g.2.1, 256, .inl fc1_184)), (lz, .inl (g.2.1, 256, .inl fx1_184)), (af, .inl (g.2.1, 256, .inl fa1_184))] := hD
                            try dsimp only at hw184
                            refine tp_i (y := (nI ((conL k T n B kd pp).length))) (hw184.1) ?_
                            exact MuI.ret X hr hlk hK hS dX12_runCommand_187 (nI_nar _) (f1_184, fe1_184, fl1_184, fm1_184, q1_184, fc1_184, fx1_184, fa1_184) (hP.sub [1, 2, 3, 4, 5, 6, 7, 8, 9, 0] rfl) (hD.sub [1, 2, 3, 4, 5, 6, 7, 8, 9, 0] (by decide) rfl) (⟨rfl, hw184.2⟩)
                          · exfalso; omega
                        | succ rn ih131 =>
                          intro v t h2 hti hvb hqn ls hl
                          refine lv_iload X.1 X.2.1 dX12_runCommand_131 (lv_at hl 0 rfl) ?_
                          refine lv_iload_n X.1 X.2.1 dX12_runCommand_133 rfl (lv_at hl 5 rfl) ?_
                          refine z_icmp_ge (tgt := 180) X dX12_runCommand_134 (by decide) (nI_toInt (by omega)) (nI_toInt (by omega)) (fun c134 => ?_) (fun c134 => ?_)
                          · exfalso; omega
                          · refine lv_aload_n X.1 X.2.1 dX12_runCommand_137 rfl (lv_at hl 6 rfl) ?_
                            refine va_get (D := g.1) (ci := 11) (v := .ref cm_) (C := RX12) (T := TX12) (N := 26) X.1 X.2.1 X.2.2.2.2 iwX12 X.2.2.2.1 hK hP 0 rfl rfl 7 (by decide) (X.2.2.2.2 _ q1027) (fun _ h9 => h9) rfl dX12_runCommand_138 ?_
                            refine lv_iload X.1 X.2.1 dX12_runCommand_141 (lv_at hl 0 rfl) ?_
                            refine n_iald X hK hP 9 0 rfl rfl (by omega) (by decide) dX12_runCommand_143 ?_
                            have hbt := hbc t
                            refine tp_i (y := (nI (c.getD t 0))) (hfc t (by omega)) ?_
                            refine lv_bipush (v := (nI 48)) X.1 X.2.1 dX12_runCommand_144 (by decide) ?_
                            refine lv_bipush (v := (nI 57)) X.1 X.2.1 dX12_runCommand_146 (by decide) ?_
                            refine (c_inN g (nI (c.getD t 0)) 48 57 (by omega) (by omega)).callS (rest := []) X dX12_runCommand_148 q1103 tX12_in hK (hP.sub [] rfl) hl ⟨⟨Nat.le_of_ble_eq_true rfl, Nat.le_of_ble_eq_true rfl⟩, Nat.le_of_ble_eq_true rfl, Nat.le_of_ble_eq_true rfl⟩ rfl rfl (Nat.le_of_ble_eq_true rfl) ?_
                            refine b_if_ne (tgt := 156) X dX12_runCommand_151 (by decide) (fun c151 => ?_) (fun c151 => ?_)
                            · have h4 := of_decide_eq_true c151
                              rw [nI_toInt (by omega)] at h4
                              refine lv_bipush (v := (nI 10)) X.1 X.2.1 dX12_runCommand_156 (by decide) ?_
                              refine lv_iload X.1 X.2.1 dX12_runCommand_158 (lv_at hl 1 rfl) ?_
                              refine n_mul X dX12_runCommand_160 ?_
                              refine lv_aload_n X.1 X.2.1 dX12_runCommand_161 rfl (lv_at hl 6 rfl) ?_
                              refine va_get (D := g.1) (ci := 11) (v := .ref cm_) (C := RX12) (T := TX12) (N := 26) X.1 X.2.1 X.2.2.2.2 iwX12 X.2.2.2.1 hK hP 0 rfl rfl 7 (by decide) (X.2.2.2.2 _ q1027) (fun _ h9 => h9) rfl dX12_runCommand_162 ?_
                              refine lv_iload X.1 X.2.1 dX12_runCommand_165 (lv_at hl 0 rfl) ?_
                              refine n_iald X hK hP 9 0 rfl rfl (by omega) (by decide) dX12_runCommand_167 ?_
                              refine tp_i (y := (nI (c.getD t 0))) (hfc t (by omega)) ?_
                              refine n_add X dX12_runCommand_168 ?_
                              refine lv_bipush (v := (nI 48)) X.1 X.2.1 dX12_runCommand_169 (by decide) ?_
                              refine n_sub X dX12_runCommand_171 (by omega) ?_
                              refine lv_istore (lv' := [(5, .int (nI ((10 * v + (c.getD t 0)) - 48))), (6, .int (nI t)), (4, .int (iI ((((c.length : Nat) : Int) - ((i : Nat) : Int)) - ((1 : Nat) : Int)))), (3, .int (nI kd)), (2, .int (nI i)), (1, .int (nI c.length)), (0, .ref m0)]) X.1 X.2.1 dX12_runCommand_172 hl (by decide) rfl (fun ls hl => ?_)
                              refine lv_iinc (v := (nI (t + 1))) (lv' := [(6, .int (nI (t + 1))), (5, .int (nI ((10 * v + (c.getD t 0)) - 48))), (4, .int (iI ((((c.length : Nat) : Int) - ((i : Nat) : Int)) - ((1 : Nat) : Int)))), (3, .int (nI kd)), (2, .int (nI i)), (1, .int (nI c.length)), (0, .ref m0)]) X.1 X.2.1 dX12_runCommand_174 hl (k := 1) rfl (nI_inc _) (by decide) rfl (fun ls hl => ?_)
                              refine lv_goto (tgt := 131) X.1 X.2.1 dX12_runCommand_177 (by decide) ?_
                              exact ih131 ((10 * v + (c.getD t 0)) - 48) (t + 1) (by omega) (by omega) (by omega) (by rw [nmL, if_pos (by omega)] at hqn; rw [show 10 * v + c.getD t 0 - 48 = v * 10 + (c.getD t 0 - 48) by omega]; exact hqn) ls (lv_sub hl [0, 1, 2, 3, 4, 5, 6] rfl)
                            · have h4 := of_decide_eq_false c151
                              rw [nI_toInt (by omega)] at h4
                              refine lv_iconst (v := (-1)) X.1 X.2.1 dX12_runCommand_154 (by decide) ?_
                              exfalso
                              have h9 : paI c = (-1) := by rw [← hqn, nmL, if_neg (by omega)]
                              rw [hpa] at h9
                              have h8 := congrArg Int32.toInt h9
                              rw [nI_toInt (by omega)] at h8
                              have h7 : ((-1) : Int32).toInt = -1 := rfl
                              omega
                      exact L131 (c.length - (i + 1)) 0 (i + 1) (by omega) (by omega) (by omega) (by unfold paI; first | (rw [if_pos (by omega), show c.length - (i + 1) = 0 by omega]; rfl) | (rw [if_neg (by omega), if_neg (by omega), ← hce])) ls (lv_sub hl [0, 1, 2, 3, 4, 5, 6] rfl)
                    · refine lv_iload X.1 X.2.1 dX12_runCommand_111 (lv_at hl 0 rfl) ?_
                      refine lv_iconst (v := (nI 1)) X.1 X.2.1 dX12_runCommand_113 (by decide) ?_
                      refine lv_iconst (v := (nI 3)) X.1 X.2.1 dX12_runCommand_114 (by decide) ?_
                      refine (c_inN g (iI ((((c.length : Nat) : Int) - ((i : Nat) : Int)) - ((1 : Nat) : Int))) 1 3 (by omega) (by omega)).callS (rest := []) X dX12_runCommand_115 q1103 tX12_in hK (hP.sub [] rfl) hl ⟨⟨Nat.le_of_ble_eq_true rfl, Nat.le_of_ble_eq_true rfl⟩, Nat.le_of_ble_eq_true rfl, Nat.le_of_ble_eq_true rfl⟩ rfl rfl (Nat.le_of_ble_eq_true rfl) ?_
                      refine b_if_ne (tgt := 123) X dX12_runCommand_118 (by decide) (fun c118 => ?_) (fun c118 => ?_)
                      · have h3 := of_decide_eq_true c118
                        rw [iI_toInt (by omega) (by omega)] at h3
                        refine lv_iconst (v := (nI 0)) X.1 X.2.1 dX12_runCommand_123 (by decide) ?_
                        refine lv_istore (lv' := [(5, .int (nI 0)), (4, .int (iI ((((c.length : Nat) : Int) - ((i : Nat) : Int)) - ((1 : Nat) : Int)))), (3, .int (nI kd)), (2, .int (nI i)), (1, .int (nI c.length)), (0, .ref m0)]) X.1 X.2.1 dX12_runCommand_124 hl (by decide) rfl (fun ls hl => ?_)
                        refine lv_iload_n X.1 X.2.1 dX12_runCommand_126 rfl (lv_at hl 3 rfl) ?_
                        refine lv_iconst (v := (nI 1)) X.1 X.2.1 dX12_runCommand_127 (by decide) ?_
                        refine n_add X dX12_runCommand_128 ?_
                        refine lv_istore (lv' := [(6, .int (nI (i + 1))), (5, .int (nI 0)), (4, .int (iI ((((c.length : Nat) : Int) - ((i : Nat) : Int)) - ((1 : Nat) : Int)))), (3, .int (nI kd)), (2, .int (nI i)), (1, .int (nI c.length)), (0, .ref m0)]) X.1 X.2.1 dX12_runCommand_129 hl (by decide) rfl (fun ls hl => ?_)
                        have L131 : ∀ (rn : Nat) (v : Nat) (t : Nat) (h2 : t + rn = c.length ∨ (rn = 0 ∧ t = c.length + 1 ∧ i = c.length)) (hti : i < t) (hvb : (t = i + 1 ∧ v = 0) ∨ (t = i + 2 ∧ v < 10) ∨ (t = i + 3 ∧ v < 100) ∨ (t = i + 4 ∧ v < 1000)) (hqn : nmL c rn t v = paI c) (ls : Array Slot) (hl : lv_has ls 7 [(6, .int (nI t)), (5, .int (nI v)), (4, .int (iI ((((c.length : Nat) : Int) - ((i : Nat) : Int)) - ((1 : Nat) : Int)))), (3, .int (nI kd)), (2, .int (nI i)), (1, .int (nI c.length)), (0, .ref m0)]), W p_ l_ e_ { frames := 7, cells := 0, slots := 0, locals := 161 } S_ m_ args below meth co H locs 0 0 (MQ below (va_Qi (S := (Nat → Int32) × (Nat → Int32) × (Nat → Int32) × (Nat → Int32) × (Nat → Bool) × (Nat → Int32) × (Nat → Int32) × (Nat → Int32)) (fun r u => r = (nI ((conL k T n B kd pp).length)) ∧ rep u.1 (conL k T n B kd pp) ∧ hrm u.2.1 u.2.2.1 ((s :: h).take 6)) (MuB g A (fun u => [(m0, .inr (11, [.int (nI k), .int (nI n), .ref lt, .int (nI ((conL k T n B kd pp).length)), .ref er, .ref el, .int (nI (((s :: h).take 6).length)), .ref cm_, .int (nI (([] : List Nat).length)), .int (bI tk), .int (nI k0), .int (nI n0), .ref sv, .int (nI s0.length), .ref md, .int (nI ((conL k T n B kd pp).length)), .ref fmm, .ref lc, .ref lz, .ref af, .ref pt_, .int (nI p.length), .ref oc, .ref ty_, .ref sz_, .ref em])), (lt, .inl (g.2.1, 256, .inl u.1)), (er, .inl (g.2.1, 1536, .inl u.2.1)), (el, .inl (g.2.1, 6, .inl u.2.2.1)), (md, .inl (g.2.1, 256, .inl u.2.2.2.1)), (fmm, .inl (g.2.2.1, 256, .inl (mf u.2.2.2.2.1))), (lc, .inl (g.2.1, 256, .inl u.2.2.2.2.2.1)), (lz, .inl (g.2.1, 256, .inl u.2.2.2.2.2.2.1)), (af, .inl (g.2.1, 256, .inl u.2.2.2.2.2.2.2)), (cm_, .inl (g.2.1, 20, .inl fc))])) A) args S_ 0 0 A) (F0 m_ 131 ls []) := by
                          intro rn
                          induction rn with
                          | zero =>
                            intro v t h2 hti hvb hqn ls hl
                            refine lv_iload X.1 X.2.1 dX12_runCommand_131 (lv_at hl 0 rfl) ?_
                            refine lv_iload_n X.1 X.2.1 dX12_runCommand_133 rfl (lv_at hl 5 rfl) ?_
                            refine z_icmp_ge (tgt := 180) X dX12_runCommand_134 (by decide) (nI_toInt (by omega)) (nI_toInt (by omega)) (fun c134 => ?_) (fun c134 => ?_)
                            · refine lv_aload_n X.1 X.2.1 dX12_runCommand_180 rfl (lv_at hl 6 rfl) ?_
                              refine lv_iload_n X.1 X.2.1 dX12_runCommand_181 rfl (lv_at hl 3 rfl) ?_
                              refine lv_iload X.1 X.2.1 dX12_runCommand_182 (lv_at hl 1 rfl) ?_
                              have hv9 : nI v = paI c := hqn
                              refine (m_construct_ok g m0 lt er el cm_ sv md fmm lc lz af pt_ oc ty_ sz_ em k n s h ([] : List Nat) tk k0 n0 s0 z p f fe fl fm_ q fc_ fx fa B T kd (nI v) pp (by assumption) (by omega) (by assumption) (by assumption) (by omega) (fun h => ⟨hv9.trans hpa, hp3 h⟩)).callV (rest := []) (wr := [(cm_, .inl (g.2.1, 20, .inl fc))]) X dX12_runCommand_184 q1217 tX12_construct hK hP hD hS hA [0, 1, 2, 3, 4, 5, 6, 7, 8] [9] (by decide) rfl rfl (by decide) (by decide) 0 11 rfl rfl rfl hl ⟨⟨Nat.le_of_ble_eq_true rfl, Nat.le_of_ble_eq_true rfl⟩, Nat.le_of_ble_eq_true rfl, Nat.le_of_ble_eq_true rfl⟩ rfl rfl (Nat.le_of_ble_eq_true rfl) (fun r184 u184 H locs hw184 hP hD hS => ?_)
                              obtain ⟨f1_184, fe1_184, fl1_184, fm1_184, q1_184, fc1_184, fx1_184, fa1_184⟩ := u184
                              have hP : PP g [(cm_, .inl (g.2.1, 20, .inl fc)), (m0, .inr (11, [.int (nI k), .int (nI n), .ref lt, .int (nI ((conL k T n B kd pp).length)), .ref er, .ref el, .int (nI (((s :: h).take 6).length)), .ref cm_, .int (nI (([] : List Nat).length)), .int (bI tk), .int (nI k0), .int (nI n0), .ref sv, .int (nI s0.length), .ref md, .int (nI ((conL k T n B kd pp).length)), .ref fmm, .ref lc, .ref lz, .ref af, .ref pt_, .int (nI p.length), .ref oc, .ref ty_, .ref sz_, .ref em])), (lt, .inl (g.2.1, 256, .inl f1_184)), (er, .inl (g.2.1, 1536, .inl fe1_184)), (el, .inl (g.2.1, 6, .inl fl1_184)), (md, .inl (g.2.1, 256, .inl fm1_184)), (fmm, .inl (g.2.2.1, 256, .inl (mf q1_184))), (lc, .inl (g.2.1, 256, .inl fc1_184)), (lz, .inl (g.2.1, 256, .inl fx1_184)), (af, .inl (g.2.1, 256, .inl fa1_184))] H := hP
                              have hD : va_D A [(cm_, .inl (g.2.1, 20, .inl fc)), (m0, .inr (11, [.int (nI k), .int (nI n), .ref lt, .int (nI ((conL k T n B kd pp).length)), .ref er, .ref el, .int (nI (((s :: h).take 6).length)), .ref cm_, .int (nI (([] : List Nat).length)), .int (bI tk), .int (nI k0), .int (nI n0), .ref sv, .int (nI s0.length), .ref md, .int (nI ((conL k T n B kd pp).length)), .ref fmm, .ref lc, .ref lz, .ref af, .ref pt_, .int (nI p.length), .ref oc, .ref ty_, .ref sz_, .ref em])), (lt, .inl (g.2.1, 256, .inl f1_184)), (er, .inl (g.2.1, 1536, .inl fe1_184)), (el, .inl (g.2.1, 6, .inl fl1_184)), (md, .inl (g.2.1, 256, .inl fm1_184)), (fmm, .inl (g.2.2.1, 256, .inl (mf q1_184))), (lc, .inl (g.2.1, 256, .inl fc1_184)), (lz, .inl (g.2.1, 256, .inl fx1_184)), (af, .inl (g.2.1, 256, .inl fa1_184))] := hD
                              try dsimp only at hw184
                              refine tp_i (y := (nI ((conL k T n B kd pp).length))) (hw184.1) ?_
                              exact MuI.ret X hr hlk hK hS dX12_runCommand_187 (nI_nar _) (f1_184, fe1_184, fl1_184, fm1_184, q1_184, fc1_184, fx1_184, fa1_184) (hP.sub [1, 2, 3, 4, 5, 6, 7, 8, 9, 0] rfl) (hD.sub [1, 2, 3, 4, 5, 6, 7, 8, 9, 0] (by decide) rfl) (⟨rfl, hw184.2⟩)
                            · exfalso; omega
                          | succ rn ih131 =>
                            intro v t h2 hti hvb hqn ls hl
                            refine lv_iload X.1 X.2.1 dX12_runCommand_131 (lv_at hl 0 rfl) ?_
                            refine lv_iload_n X.1 X.2.1 dX12_runCommand_133 rfl (lv_at hl 5 rfl) ?_
                            refine z_icmp_ge (tgt := 180) X dX12_runCommand_134 (by decide) (nI_toInt (by omega)) (nI_toInt (by omega)) (fun c134 => ?_) (fun c134 => ?_)
                            · exfalso; omega
                            · refine lv_aload_n X.1 X.2.1 dX12_runCommand_137 rfl (lv_at hl 6 rfl) ?_
                              refine va_get (D := g.1) (ci := 11) (v := .ref cm_) (C := RX12) (T := TX12) (N := 26) X.1 X.2.1 X.2.2.2.2 iwX12 X.2.2.2.1 hK hP 0 rfl rfl 7 (by decide) (X.2.2.2.2 _ q1027) (fun _ h9 => h9) rfl dX12_runCommand_138 ?_
                              refine lv_iload X.1 X.2.1 dX12_runCommand_141 (lv_at hl 0 rfl) ?_
                              refine n_iald X hK hP 9 0 rfl rfl (by omega) (by decide) dX12_runCommand_143 ?_
                              have hbt := hbc t
                              refine tp_i (y := (nI (c.getD t 0))) (hfc t (by omega)) ?_
                              refine lv_bipush (v := (nI 48)) X.1 X.2.1 dX12_runCommand_144 (by decide) ?_
                              refine lv_bipush (v := (nI 57)) X.1 X.2.1 dX12_runCommand_146 (by decide) ?_
                              refine (c_inN g (nI (c.getD t 0)) 48 57 (by omega) (by omega)).callS (rest := []) X dX12_runCommand_148 q1103 tX12_in hK (hP.sub [] rfl) hl ⟨⟨Nat.le_of_ble_eq_true rfl, Nat.le_of_ble_eq_true rfl⟩, Nat.le_of_ble_eq_true rfl, Nat.le_of_ble_eq_true rfl⟩ rfl rfl (Nat.le_of_ble_eq_true rfl) ?_
                              refine b_if_ne (tgt := 156) X dX12_runCommand_151 (by decide) (fun c151 => ?_) (fun c151 => ?_)
                              · have h4 := of_decide_eq_true c151
                                rw [nI_toInt (by omega)] at h4
                                refine lv_bipush (v := (nI 10)) X.1 X.2.1 dX12_runCommand_156 (by decide) ?_
                                refine lv_iload X.1 X.2.1 dX12_runCommand_158 (lv_at hl 1 rfl) ?_
                                refine n_mul X dX12_runCommand_160 ?_
                                refine lv_aload_n X.1 X.2.1 dX12_runCommand_161 rfl (lv_at hl 6 rfl) ?_
                                refine va_get (D := g.1) (ci := 11) (v := .ref cm_) (C := RX12) (T := TX12) (N := 26) X.1 X.2.1 X.2.2.2.2 iwX12 X.2.2.2.1 hK hP 0 rfl rfl 7 (by decide) (X.2.2.2.2 _ q1027) (fun _ h9 => h9) rfl dX12_runCommand_162 ?_
                                refine lv_iload X.1 X.2.1 dX12_runCommand_165 (lv_at hl 0 rfl) ?_
                                refine n_iald X hK hP 9 0 rfl rfl (by omega) (by decide) dX12_runCommand_167 ?_
                                refine tp_i (y := (nI (c.getD t 0))) (hfc t (by omega)) ?_
                                refine n_add X dX12_runCommand_168 ?_
                                refine lv_bipush (v := (nI 48)) X.1 X.2.1 dX12_runCommand_169 (by decide) ?_
                                refine n_sub X dX12_runCommand_171 (by omega) ?_
                                refine lv_istore (lv' := [(5, .int (nI ((10 * v + (c.getD t 0)) - 48))), (6, .int (nI t)), (4, .int (iI ((((c.length : Nat) : Int) - ((i : Nat) : Int)) - ((1 : Nat) : Int)))), (3, .int (nI kd)), (2, .int (nI i)), (1, .int (nI c.length)), (0, .ref m0)]) X.1 X.2.1 dX12_runCommand_172 hl (by decide) rfl (fun ls hl => ?_)
                                refine lv_iinc (v := (nI (t + 1))) (lv' := [(6, .int (nI (t + 1))), (5, .int (nI ((10 * v + (c.getD t 0)) - 48))), (4, .int (iI ((((c.length : Nat) : Int) - ((i : Nat) : Int)) - ((1 : Nat) : Int)))), (3, .int (nI kd)), (2, .int (nI i)), (1, .int (nI c.length)), (0, .ref m0)]) X.1 X.2.1 dX12_runCommand_174 hl (k := 1) rfl (nI_inc _) (by decide) rfl (fun ls hl => ?_)
                                refine lv_goto (tgt := 131) X.1 X.2.1 dX12_runCommand_177 (by decide) ?_
                                exact ih131 ((10 * v + (c.getD t 0)) - 48) (t + 1) (by omega) (by omega) (by omega) (by rw [nmL, if_pos (by omega)] at hqn; rw [show 10 * v + c.getD t 0 - 48 = v * 10 + (c.getD t 0 - 48) by omega]; exact hqn) ls (lv_sub hl [0, 1, 2, 3, 4, 5, 6] rfl)
                              · have h4 := of_decide_eq_false c151
                                rw [nI_toInt (by omega)] at h4
                                refine lv_iconst (v := (-1)) X.1 X.2.1 dX12_runCommand_154 (by decide) ?_
                                exfalso
                                have h9 : paI c = (-1) := by rw [← hqn, nmL, if_neg (by omega)]
                                rw [hpa] at h9
                                have h8 := congrArg Int32.toInt h9
                                rw [nI_toInt (by omega)] at h8
                                have h7 : ((-1) : Int32).toInt = -1 := rfl
                                omega
                        exact L131 (c.length - (i + 1)) 0 (i + 1) (by omega) (by omega) (by omega) (by unfold paI; first | (rw [if_pos (by omega), show c.length - (i + 1) = 0 by omega]; rfl) | (rw [if_neg (by omega), if_neg (by omega), ← hce])) ls (lv_sub hl [0, 1, 2, 3, 4, 5, 6] rfl)
                      · have h3 := of_decide_eq_false c118
                        rw [iI_toInt (by omega) (by omega)] at h3
                        refine lv_iconst (v := (-1)) X.1 X.2.1 dX12_runCommand_121 (by decide) ?_
                        exfalso
                        have h9 : paI c = (-1) := by unfold paI; rw [if_neg (by omega), if_pos (by omega)]
                        rw [hpa] at h9
                        have h8 := congrArg Int32.toInt h9
                        rw [nI_toInt (by omega)] at h8
                        have h7 : ((-1) : Int32).toInt = -1 := rfl
                        omega
                  · exfalso; omega
              · refine lv_iconst (v := (nI 2)) X.1 X.2.1 dX12_runCommand_72 (by decide) ?_
                refine lv_goto (tgt := 91) X.1 X.2.1 dX12_runCommand_73 (by decide) ?_
                have hk9 : kdI c = nI 2 := by unfold kdI; simp [kdL, c41, c55, c69]
                refine tp_i (y := (nI kd)) (by rw [← hk9, hkd]) ?_
                refine lv_istore_n (lv' := [(3, .int (nI kd)), (2, .int (nI i)), (1, .int (nI c.length)), (0, .ref m0)]) X.1 X.2.1 dX12_runCommand_91 rfl hl (by decide) rfl (fun ls hl => ?_)
                refine lv_iload_n X.1 X.2.1 dX12_runCommand_92 rfl (lv_at hl 0 rfl) ?_
                refine z_if_ge (tgt := 99) X dX12_runCommand_93 (by decide) (nI_toInt (by omega)) (fun c93 => ?_) (fun c93 => ?_)
                · refine lv_iload_n X.1 X.2.1 dX12_runCommand_99 rfl (lv_at hl 2 rfl) ?_
                  refine lv_iload_n X.1 X.2.1 dX12_runCommand_100 rfl (lv_at hl 1 rfl) ?_
                  refine lv_isub X.1 X.2.1 dX12_runCommand_101 ?_
                  refine tp_i (y := (iI (((c.length : Nat) : Int) - ((i : Nat) : Int)))) (by first | rw [iI_sub] | rw [nI_iI, nI_iI, iI_sub] | rw [nI_iI, iI_sub]) ?_
                  refine lv_iconst (v := (nI 1)) X.1 X.2.1 dX12_runCommand_102 (by decide) ?_
                  refine lv_isub X.1 X.2.1 dX12_runCommand_103 ?_
                  refine tp_i (y := (iI ((((c.length : Nat) : Int) - ((i : Nat) : Int)) - ((1 : Nat) : Int)))) (by first | rw [iI_sub] | rw [nI_iI, nI_iI, iI_sub] | rw [nI_iI, iI_sub]) ?_
                  refine lv_istore (lv' := [(4, .int (iI ((((c.length : Nat) : Int) - ((i : Nat) : Int)) - ((1 : Nat) : Int)))), (3, .int (nI kd)), (2, .int (nI i)), (1, .int (nI c.length)), (0, .ref m0)]) X.1 X.2.1 dX12_runCommand_104 hl (by decide) rfl (fun ls hl => ?_)
                  refine lv_iload_n X.1 X.2.1 dX12_runCommand_106 rfl (lv_at hl 2 rfl) ?_
                  refine lv_iload_n X.1 X.2.1 dX12_runCommand_107 rfl (lv_at hl 3 rfl) ?_
                  refine z_icmp_ge (tgt := 123) X dX12_runCommand_108 (by decide) (nI_toInt (by omega)) (nI_toInt (by omega)) (fun c108 => ?_) (fun c108 => ?_)
                  · refine lv_iconst (v := (nI 0)) X.1 X.2.1 dX12_runCommand_123 (by decide) ?_
                    refine lv_istore (lv' := [(5, .int (nI 0)), (4, .int (iI ((((c.length : Nat) : Int) - ((i : Nat) : Int)) - ((1 : Nat) : Int)))), (3, .int (nI kd)), (2, .int (nI i)), (1, .int (nI c.length)), (0, .ref m0)]) X.1 X.2.1 dX12_runCommand_124 hl (by decide) rfl (fun ls hl => ?_)
                    refine lv_iload_n X.1 X.2.1 dX12_runCommand_126 rfl (lv_at hl 3 rfl) ?_
                    refine lv_iconst (v := (nI 1)) X.1 X.2.1 dX12_runCommand_127 (by decide) ?_
                    refine n_add X dX12_runCommand_128 ?_
                    refine lv_istore (lv' := [(6, .int (nI (i + 1))), (5, .int (nI 0)), (4, .int (iI ((((c.length : Nat) : Int) - ((i : Nat) : Int)) - ((1 : Nat) : Int)))), (3, .int (nI kd)), (2, .int (nI i)), (1, .int (nI c.length)), (0, .ref m0)]) X.1 X.2.1 dX12_runCommand_129 hl (by decide) rfl (fun ls hl => ?_)
                    have L131 : ∀ (rn : Nat) (v : Nat) (t : Nat) (h2 : t + rn = c.length ∨ (rn = 0 ∧ t = c.length + 1 ∧ i = c.length)) (hti : i < t) (hvb : (t = i + 1 ∧ v = 0) ∨ (t = i + 2 ∧ v < 10) ∨ (t = i + 3 ∧ v < 100) ∨ (t = i + 4 ∧ v < 1000)) (hqn : nmL c rn t v = paI c) (ls : Array Slot) (hl : lv_has ls 7 [(6, .int (nI t)), (5, .int (nI v)), (4, .int (iI ((((c.length : Nat) : Int) - ((i : Nat) : Int)) - ((1 : Nat) : Int)))), (3, .int (nI kd)), (2, .int (nI i)), (1, .int (nI c.length)), (0, .ref m0)]), W p_ l_ e_ { frames := 7, cells := 0, slots := 0, locals := 161 } S_ m_ args below meth co H locs 0 0 (MQ below (va_Qi (S := (Nat → Int32) × (Nat → Int32) × (Nat → Int32) × (Nat → Int32) × (Nat → Bool) × (Nat → Int32) × (Nat → Int32) × (Nat → Int32)) (fun r u => r = (nI ((conL k T n B kd pp).length)) ∧ rep u.1 (conL k T n B kd pp) ∧ hrm u.2.1 u.2.2.1 ((s :: h).take 6)) (MuB g A (fun u => [(m0, .inr (11, [.int (nI k), .int (nI n), .ref lt, .int (nI ((conL k T n B kd pp).length)), .ref er, .ref el, .int (nI (((s :: h).take 6).length)), .ref cm_, .int (nI (([] : List Nat).length)), .int (bI tk), .int (nI k0), .int (nI n0), .ref sv, .int (nI s0.length), .ref md, .int (nI ((conL k T n B kd pp).length)), .ref fmm, .ref lc, .ref lz, .ref af, .ref pt_, .int (nI p.length), .ref oc, .ref ty_, .ref sz_, .ref em])), (lt, .inl (g.2.1, 256, .inl u.1)), (er, .inl (g.2.1, 1536, .inl u.2.1)), (el, .inl (g.2.1, 6, .inl u.2.2.1)), (md, .inl (g.2.1, 256, .inl u.2.2.2.1)), (fmm, .inl (g.2.2.1, 256, .inl (mf u.2.2.2.2.1))), (lc, .inl (g.2.1, 256, .inl u.2.2.2.2.2.1)), (lz, .inl (g.2.1, 256, .inl u.2.2.2.2.2.2.1)), (af, .inl (g.2.1, 256, .inl u.2.2.2.2.2.2.2)), (cm_, .inl (g.2.1, 20, .inl fc))])) A) args S_ 0 0 A) (F0 m_ 131 ls []) := by
                      intro rn
                      induction rn with
                      | zero =>
                        intro v t h2 hti hvb hqn ls hl
                        refine lv_iload X.1 X.2.1 dX12_runCommand_131 (lv_at hl 0 rfl) ?_
                        refine lv_iload_n X.1 X.2.1 dX12_runCommand_133 rfl (lv_at hl 5 rfl) ?_
                        refine z_icmp_ge (tgt := 180) X dX12_runCommand_134 (by decide) (nI_toInt (by omega)) (nI_toInt (by omega)) (fun c134 => ?_) (fun c134 => ?_)
                        · refine lv_aload_n X.1 X.2.1 dX12_runCommand_180 rfl (lv_at hl 6 rfl) ?_
                          refine lv_iload_n X.1 X.2.1 dX12_runCommand_181 rfl (lv_at hl 3 rfl) ?_
                          refine lv_iload X.1 X.2.1 dX12_runCommand_182 (lv_at hl 1 rfl) ?_
                          have hv9 : nI v = paI c := hqn
                          refine (m_construct_ok g m0 lt er el cm_ sv md fmm lc lz af pt_ oc ty_ sz_ em k n s h ([] : List Nat) tk k0 n0 s0 z p f fe fl fm_ q fc_ fx fa B T kd (nI v) pp (by assumption) (by omega) (by assumption) (by assumption) (by omega) (fun h => ⟨hv9.trans hpa, hp3 h⟩)).callV (rest := []) (wr := [(cm_, .inl (g.2.1, 20, .inl fc))]) X dX12_runCommand_184 q1217 tX12_construct hK hP hD hS hA [0, 1, 2, 3, 4, 5, 6, 7, 8] [9] (by decide) rfl rfl (by decide) (by decide) 0 11 rfl rfl rfl hl ⟨⟨Nat.le_of_ble_eq_true rfl, Nat.le_of_ble_eq_true rfl⟩, Nat.le_of_ble_eq_true rfl, Nat.le_of_ble_eq_true rfl⟩ rfl rfl (Nat.le_of_ble_eq_true rfl) (fun r184 u184 H locs hw184 hP hD hS => ?_)
                          obtain ⟨f1_184, fe1_184, fl1_184, fm1_184, q1_184, fc1_184, fx1_184, fa1_184⟩ := u184
                          have hP : PP g [(cm_, .inl (g.2.1, 20, .inl fc)), (m0, .inr (11, [.int (nI k), .int (nI n), .ref lt, .int (nI ((conL k T n B kd pp).length)), .ref er, .ref el, .int (nI (((s :: h).take 6).length)), .ref cm_, .int (nI (([] : List Nat).length)), .int (bI tk), .int (nI k0), .int (nI n0), .ref sv, .int (nI s0.length), .ref md, .int (nI ((conL k T n B kd pp).length)), .ref fmm, .ref lc, .ref lz, .ref af, .ref pt_, .int (nI p.length), .ref oc, .ref ty_, .ref sz_, .ref em])), (lt, .inl (g.2.1, 256, .inl f1_184)), (er, .inl (g.2.1, 1536, .inl fe1_184)), (el, .inl (g.2.1, 6, .inl fl1_184)), (md, .inl (g.2.1, 256, .inl fm1_184)), (fmm, .inl (g.2.2.1, 256, .inl (mf q1_184))), (lc, .inl (g.2.1, 256, .inl fc1_184)), (lz, .inl (g.2.1, 256, .inl fx1_184)), (af, .inl (g.2.1, 256, .inl fa1_184))] H := hP
                          have hD : va_D A [(cm_, .inl (g.2.1, 20, .inl fc)), (m0, .inr (11, [.int (nI k), .int (nI n), .ref lt, .int (nI ((conL k T n B kd pp).length)), .ref er, .ref el, .int (nI (((s :: h).take 6).length)), .ref cm_, .int (nI (([] : List Nat).length)), .int (bI tk), .int (nI k0), .int (nI n0), .ref sv, .int (nI s0.length), .ref md, .int (nI ((conL k T n B kd pp).length)), .ref fmm, .ref lc, .ref lz, .ref af, .ref pt_, .int (nI p.length), .ref oc, .ref ty_, .ref sz_, .ref em])), (lt, .inl (g.2.1, 256, .inl f1_184)), (er, .inl (g.2.1, 1536, .inl fe1_184)), (el, .inl (g.2.1, 6, .inl fl1_184)), (md, .inl (g.2.1, 256, .inl fm1_184)), (fmm, .inl (g.2.2.1, 256, .inl (mf q1_184))), (lc, .inl (g.2.1, 256, .inl fc1_184)), (lz, .inl (g.2.1, 256, .inl fx1_184)), (af, .inl (g.2.1, 256, .inl fa1_184))] := hD
                          try dsimp only at hw184
                          refine tp_i (y := (nI ((conL k T n B kd pp).length))) (hw184.1) ?_
                          exact MuI.ret X hr hlk hK hS dX12_runCommand_187 (nI_nar _) (f1_184, fe1_184, fl1_184, fm1_184, q1_184, fc1_184, fx1_184, fa1_184) (hP.sub [1, 2, 3, 4, 5, 6, 7, 8, 9, 0] rfl) (hD.sub [1, 2, 3, 4, 5, 6, 7, 8, 9, 0] (by decide) rfl) (⟨rfl, hw184.2⟩)
                        · exfalso; omega
                      | succ rn ih131 =>
                        intro v t h2 hti hvb hqn ls hl
                        refine lv_iload X.1 X.2.1 dX12_runCommand_131 (lv_at hl 0 rfl) ?_
                        refine lv_iload_n X.1 X.2.1 dX12_runCommand_133 rfl (lv_at hl 5 rfl) ?_
                        refine z_icmp_ge (tgt := 180) X dX12_runCommand_134 (by decide) (nI_toInt (by omega)) (nI_toInt (by omega)) (fun c134 => ?_) (fun c134 => ?_)
                        · exfalso; omega
                        · refine lv_aload_n X.1 X.2.1 dX12_runCommand_137 rfl (lv_at hl 6 rfl) ?_
                          refine va_get (D := g.1) (ci := 11) (v := .ref cm_) (C := RX12) (T := TX12) (N := 26) X.1 X.2.1 X.2.2.2.2 iwX12 X.2.2.2.1 hK hP 0 rfl rfl 7 (by decide) (X.2.2.2.2 _ q1027) (fun _ h9 => h9) rfl dX12_runCommand_138 ?_
                          refine lv_iload X.1 X.2.1 dX12_runCommand_141 (lv_at hl 0 rfl) ?_
                          refine n_iald X hK hP 9 0 rfl rfl (by omega) (by decide) dX12_runCommand_143 ?_
                          have hbt := hbc t
                          refine tp_i (y := (nI (c.getD t 0))) (hfc t (by omega)) ?_
                          refine lv_bipush (v := (nI 48)) X.1 X.2.1 dX12_runCommand_144 (by decide) ?_
                          refine lv_bipush (v := (nI 57)) X.1 X.2.1 dX12_runCommand_146 (by decide) ?_
                          refine (c_inN g (nI (c.getD t 0)) 48 57 (by omega) (by omega)).callS (rest := []) X dX12_runCommand_148 q1103 tX12_in hK (hP.sub [] rfl) hl ⟨⟨Nat.le_of_ble_eq_true rfl, Nat.le_of_ble_eq_true rfl⟩, Nat.le_of_ble_eq_true rfl, Nat.le_of_ble_eq_true rfl⟩ rfl rfl (Nat.le_of_ble_eq_true rfl) ?_
                          refine b_if_ne (tgt := 156) X dX12_runCommand_151 (by decide) (fun c151 => ?_) (fun c151 => ?_)
                          · have h4 := of_decide_eq_true c151
                            rw [nI_toInt (by omega)] at h4
                            refine lv_bipush (v := (nI 10)) X.1 X.2.1 dX12_runCommand_156 (by decide) ?_
                            refine lv_iload X.1 X.2.1 dX12_runCommand_158 (lv_at hl 1 rfl) ?_
                            refine n_mul X dX12_runCommand_160 ?_
                            refine lv_aload_n X.1 X.2.1 dX12_runCommand_161 rfl (lv_at hl 6 rfl) ?_
                            refine va_get (D := g.1) (ci := 11) (v := .ref cm_) (C := RX12) (T := TX12) (N := 26) X.1 X.2.1 X.2.2.2.2 iwX12 X.2.2.2.1 hK hP 0 rfl rfl 7 (by decide) (X.2.2.2.2 _ q1027) (fun _ h9 => h9) rfl dX12_runCommand_162 ?_
                            refine lv_iload X.1 X.2.1 dX12_runCommand_165 (lv_at hl 0 rfl) ?_
                            refine n_iald X hK hP 9 0 rfl rfl (by omega) (by decide) dX12_runCommand_167 ?_
                            refine tp_i (y := (nI (c.getD t 0))) (hfc t (by omega)) ?_
                            refine n_add X dX12_runCommand_168 ?_
                            refine lv_bipush (v := (nI 48)) X.1 X.2.1 dX12_runCommand_169 (by decide) ?_
                            refine n_sub X dX12_runCommand_171 (by omega) ?_
                            refine lv_istore (lv' := [(5, .int (nI ((10 * v + (c.getD t 0)) - 48))), (6, .int (nI t)), (4, .int (iI ((((c.length : Nat) : Int) - ((i : Nat) : Int)) - ((1 : Nat) : Int)))), (3, .int (nI kd)), (2, .int (nI i)), (1, .int (nI c.length)), (0, .ref m0)]) X.1 X.2.1 dX12_runCommand_172 hl (by decide) rfl (fun ls hl => ?_)
                            refine lv_iinc (v := (nI (t + 1))) (lv' := [(6, .int (nI (t + 1))), (5, .int (nI ((10 * v + (c.getD t 0)) - 48))), (4, .int (iI ((((c.length : Nat) : Int) - ((i : Nat) : Int)) - ((1 : Nat) : Int)))), (3, .int (nI kd)), (2, .int (nI i)), (1, .int (nI c.length)), (0, .ref m0)]) X.1 X.2.1 dX12_runCommand_174 hl (k := 1) rfl (nI_inc _) (by decide) rfl (fun ls hl => ?_)
                            refine lv_goto (tgt := 131) X.1 X.2.1 dX12_runCommand_177 (by decide) ?_
                            exact ih131 ((10 * v + (c.getD t 0)) - 48) (t + 1) (by omega) (by omega) (by omega) (by rw [nmL, if_pos (by omega)] at hqn; rw [show 10 * v + c.getD t 0 - 48 = v * 10 + (c.getD t 0 - 48) by omega]; exact hqn) ls (lv_sub hl [0, 1, 2, 3, 4, 5, 6] rfl)
                          · have h4 := of_decide_eq_false c151
                            rw [nI_toInt (by omega)] at h4
                            refine lv_iconst (v := (-1)) X.1 X.2.1 dX12_runCommand_154 (by decide) ?_
                            exfalso
                            have h9 : paI c = (-1) := by rw [← hqn, nmL, if_neg (by omega)]
                            rw [hpa] at h9
                            have h8 := congrArg Int32.toInt h9
                            rw [nI_toInt (by omega)] at h8
                            have h7 : ((-1) : Int32).toInt = -1 := rfl
                            omega
                    exact L131 (c.length - (i + 1)) 0 (i + 1) (by omega) (by omega) (by omega) (by unfold paI; first | (rw [if_pos (by omega), show c.length - (i + 1) = 0 by omega]; rfl) | (rw [if_neg (by omega), if_neg (by omega), ← hce])) ls (lv_sub hl [0, 1, 2, 3, 4, 5, 6] rfl)
                  · refine lv_iload X.1 X.2.1 dX12_runCommand_111 (lv_at hl 0 rfl) ?_
                    refine lv_iconst (v := (nI 1)) X.1 X.2.1 dX12_runCommand_113 (by decide) ?_
                    refine lv_iconst (v := (nI 3)) X.1 X.2.1 dX12_runCommand_114 (by decide) ?_
                    refine (c_inN g (iI ((((c.length : Nat) : Int) - ((i : Nat) : Int)) - ((1 : Nat) : Int))) 1 3 (by omega) (by omega)).callS (rest := []) X dX12_runCommand_115 q1103 tX12_in hK (hP.sub [] rfl) hl ⟨⟨Nat.le_of_ble_eq_true rfl, Nat.le_of_ble_eq_true rfl⟩, Nat.le_of_ble_eq_true rfl, Nat.le_of_ble_eq_true rfl⟩ rfl rfl (Nat.le_of_ble_eq_true rfl) ?_
                    refine b_if_ne (tgt := 123) X dX12_runCommand_118 (by decide) (fun c118 => ?_) (fun c118 => ?_)
                    · have h3 := of_decide_eq_true c118
                      rw [iI_toInt (by omega) (by omega)] at h3
                      refine lv_iconst (v := (nI 0)) X.1 X.2.1 dX12_runCommand_123 (by decide) ?_
                      refine lv_istore (lv' := [(5, .int (nI 0)), (4, .int (iI ((((c.length : Nat) : Int) - ((i : Nat) : Int)) - ((1 : Nat) : Int)))), (3, .int (nI kd)), (2, .int (nI i)), (1, .int (nI c.length)), (0, .ref m0)]) X.1 X.2.1 dX12_runCommand_124 hl (by decide) rfl (fun ls hl => ?_)
                      refine lv_iload_n X.1 X.2.1 dX12_runCommand_126 rfl (lv_at hl 3 rfl) ?_
                      refine lv_iconst (v := (nI 1)) X.1 X.2.1 dX12_runCommand_127 (by decide) ?_
                      refine n_add X dX12_runCommand_128 ?_
                      refine lv_istore (lv' := [(6, .int (nI (i + 1))), (5, .int (nI 0)), (4, .int (iI ((((c.length : Nat) : Int) - ((i : Nat) : Int)) - ((1 : Nat) : Int)))), (3, .int (nI kd)), (2, .int (nI i)), (1, .int (nI c.length)), (0, .ref m0)]) X.1 X.2.1 dX12_runCommand_129 hl (by decide) rfl (fun ls hl => ?_)
                      have L131 : ∀ (rn : Nat) (v : Nat) (t : Nat) (h2 : t + rn = c.length ∨ (rn = 0 ∧ t = c.length + 1 ∧ i = c.length)) (hti : i < t) (hvb : (t = i + 1 ∧ v = 0) ∨ (t = i + 2 ∧ v < 10) ∨ (t = i + 3 ∧ v < 100) ∨ (t = i + 4 ∧ v < 1000)) (hqn : nmL c rn t v = paI c) (ls : Array Slot) (hl : lv_has ls 7 [(6, .int (nI t)), (5, .int (nI v)), (4, .int (iI ((((c.length : Nat) : Int) - ((i : Nat) : Int)) - ((1 : Nat) : Int)))), (3, .int (nI kd)), (2, .int (nI i)), (1, .int (nI c.length)), (0, .ref m0)]), W p_ l_ e_ { frames := 7, cells := 0, slots := 0, locals := 161 } S_ m_ args below meth co H locs 0 0 (MQ below (va_Qi (S := (Nat → Int32) × (Nat → Int32) × (Nat → Int32) × (Nat → Int32) × (Nat → Bool) × (Nat → Int32) × (Nat → Int32) × (Nat → Int32)) (fun r u => r = (nI ((conL k T n B kd pp).length)) ∧ rep u.1 (conL k T n B kd pp) ∧ hrm u.2.1 u.2.2.1 ((s :: h).take 6)) (MuB g A (fun u => [(m0, .inr (11, [.int (nI k), .int (nI n), .ref lt, .int (nI ((conL k T n B kd pp).length)), .ref er, .ref el, .int (nI (((s :: h).take 6).length)), .ref cm_, .int (nI (([] : List Nat).length)), .int (bI tk), .int (nI k0), .int (nI n0), .ref sv, .int (nI s0.length), .ref md, .int (nI ((conL k T n B kd pp).length)), .ref fmm, .ref lc, .ref lz, .ref af, .ref pt_, .int (nI p.length), .ref oc, .ref ty_, .ref sz_, .ref em])), (lt, .inl (g.2.1, 256, .inl u.1)), (er, .inl (g.2.1, 1536, .inl u.2.1)), (el, .inl (g.2.1, 6, .inl u.2.2.1)), (md, .inl (g.2.1, 256, .inl u.2.2.2.1)), (fmm, .inl (g.2.2.1, 256, .inl (mf u.2.2.2.2.1))), (lc, .inl (g.2.1, 256, .inl u.2.2.2.2.2.1)), (lz, .inl (g.2.1, 256, .inl u.2.2.2.2.2.2.1)), (af, .inl (g.2.1, 256, .inl u.2.2.2.2.2.2.2)), (cm_, .inl (g.2.1, 20, .inl fc))])) A) args S_ 0 0 A) (F0 m_ 131 ls []) := by
                        intro rn
                        induction rn with
                        | zero =>
                          intro v t h2 hti hvb hqn ls hl
                          refine lv_iload X.1 X.2.1 dX12_runCommand_131 (lv_at hl 0 rfl) ?_
                          refine lv_iload_n X.1 X.2.1 dX12_runCommand_133 rfl (lv_at hl 5 rfl) ?_
                          refine z_icmp_ge (tgt := 180) X dX12_runCommand_134 (by decide) (nI_toInt (by omega)) (nI_toInt (by omega)) (fun c134 => ?_) (fun c134 => ?_)
                          · refine lv_aload_n X.1 X.2.1 dX12_runCommand_180 rfl (lv_at hl 6 rfl) ?_
                            refine lv_iload_n X.1 X.2.1 dX12_runCommand_181 rfl (lv_at hl 3 rfl) ?_
                            refine lv_iload X.1 X.2.1 dX12_runCommand_182 (lv_at hl 1 rfl) ?_
                            have hv9 : nI v = paI c := hqn
                            refine (m_construct_ok g m0 lt er el cm_ sv md fmm lc lz af pt_ oc ty_ sz_ em k n s h ([] : List Nat) tk k0 n0 s0 z p f fe fl fm_ q fc_ fx fa B T kd (nI v) pp (by assumption) (by omega) (by assumption) (by assumption) (by omega) (fun h => ⟨hv9.trans hpa, hp3 h⟩)).callV (rest := []) (wr := [(cm_, .inl (g.2.1, 20, .inl fc))]) X dX12_runCommand_184 q1217 tX12_construct hK hP hD hS hA [0, 1, 2, 3, 4, 5, 6, 7, 8] [9] (by decide) rfl rfl (by decide) (by decide) 0 11 rfl rfl rfl hl ⟨⟨Nat.le_of_ble_eq_true rfl, Nat.le_of_ble_eq_true rfl⟩, Nat.le_of_ble_eq_true rfl, Nat.le_of_ble_eq_true rfl⟩ rfl rfl (Nat.le_of_ble_eq_true rfl) (fun r184 u184 H locs hw184 hP hD hS => ?_)
                            obtain ⟨f1_184, fe1_184, fl1_184, fm1_184, q1_184, fc1_184, fx1_184, fa1_184⟩ := u184
                            have hP : PP g [(cm_, .inl (g.2.1, 20, .inl fc)), (m0, .inr (11, [.int (nI k), .int (nI n), .ref lt, .int (nI ((conL k T n B kd pp).length)), .ref er, .ref el, .int (nI (((s :: h).take 6).length)), .ref cm_, .int (nI (([] : List Nat).length)), .int (bI tk), .int (nI k0), .int (nI n0), .ref sv, .int (nI s0.length), .ref md, .int (nI ((conL k T n B kd pp).length)), .ref fmm, .ref lc, .ref lz, .ref af, .ref pt_, .int (nI p.length), .ref oc, .ref ty_, .ref sz_, .ref em])), (lt, .inl (g.2.1, 256, .inl f1_184)), (er, .inl (g.2.1, 1536, .inl fe1_184)), (el, .inl (g.2.1, 6, .inl fl1_184)), (md, .inl (g.2.1, 256, .inl fm1_184)), (fmm, .inl (g.2.2.1, 256, .inl (mf q1_184))), (lc, .inl (g.2.1, 256, .inl fc1_184)), (lz, .inl (g.2.1, 256, .inl fx1_184)), (af, .inl (g.2.1, 256, .inl fa1_184))] H := hP
                            have hD : va_D A [(cm_, .inl (g.2.1, 20, .inl fc)), (m0, .inr (11, [.int (nI k), .int (nI n), .ref lt, .int (nI ((conL k T n B kd pp).length)), .ref er, .ref el, .int (nI (((s :: h).take 6).length)), .ref cm_, .int (nI (([] : List Nat).length)), .int (bI tk), .int (nI k0), .int (nI n0), .ref sv, .int (nI s0.length), .ref md, .int (nI ((conL k T n B kd pp).length)), .ref fmm, .ref lc, .ref lz, .ref af, .ref pt_, .int (nI p.length), .ref oc, .ref ty_, .ref sz_, .ref em])), (lt, .inl (g.2.1, 256, .inl f1_184)), (er, .inl (g.2.1, 1536, .inl fe1_184)), (el, .inl (g.2.1, 6, .inl fl1_184)), (md, .inl (g.2.1, 256, .inl fm1_184)), (fmm, .inl (g.2.2.1, 256, .inl (mf q1_184))), (lc, .inl (g.2.1, 256, .inl fc1_184)), (lz, .inl (g.2.1, 256, .inl fx1_184)), (af, .inl (g.2.1, 256, .inl fa1_184))] := hD
                            try dsimp only at hw184
                            refine tp_i (y := (nI ((conL k T n B kd pp).length))) (hw184.1) ?_
                            exact MuI.ret X hr hlk hK hS dX12_runCommand_187 (nI_nar _) (f1_184, fe1_184, fl1_184, fm1_184, q1_184, fc1_184, fx1_184, fa1_184) (hP.sub [1, 2, 3, 4, 5, 6, 7, 8, 9, 0] rfl) (hD.sub [1, 2, 3, 4, 5, 6, 7, 8, 9, 0] (by decide) rfl) (⟨rfl, hw184.2⟩)
                          · exfalso; omega
                        | succ rn ih131 =>
                          intro v t h2 hti hvb hqn ls hl
                          refine lv_iload X.1 X.2.1 dX12_runCommand_131 (lv_at hl 0 rfl) ?_
                          refine lv_iload_n X.1 X.2.1 dX12_runCommand_133 rfl (lv_at hl 5 rfl) ?_
                          refine z_icmp_ge (tgt := 180) X dX12_runCommand_134 (by decide) (nI_toInt (by omega)) (nI_toInt (by omega)) (fun c134 => ?_) (fun c134 => ?_)
                          · exfalso; omega
                          · refine lv_aload_n X.1 X.2.1 dX12_runCommand_137 rfl (lv_at hl 6 rfl) ?_
                            refine va_get (D := g.1) (ci := 11) (v := .ref cm_) (C := RX12) (T := TX12) (N := 26) X.1 X.2.1 X.2.2.2.2 iwX12 X.2.2.2.1 hK hP 0 rfl rfl 7 (by decide) (X.2.2.2.2 _ q1027) (fun _ h9 => h9) rfl dX12_runCommand_138 ?_
                            refine lv_iload X.1 X.2.1 dX12_runCommand_141 (lv_at hl 0 rfl) ?_
                            refine n_iald X hK hP 9 0 rfl rfl (by omega) (by decide) dX12_runCommand_143 ?_
                            have hbt := hbc t
                            refine tp_i (y := (nI (c.getD t 0))) (hfc t (by omega)) ?_
                            refine lv_bipush (v := (nI 48)) X.1 X.2.1 dX12_runCommand_144 (by decide) ?_
                            refine lv_bipush (v := (nI 57)) X.1 X.2.1 dX12_runCommand_146 (by decide) ?_
                            refine (c_inN g (nI (c.getD t 0)) 48 57 (by omega) (by omega)).callS (rest := []) X dX12_runCommand_148 q1103 tX12_in hK (hP.sub [] rfl) hl ⟨⟨Nat.le_of_ble_eq_true rfl, Nat.le_of_ble_eq_true rfl⟩, Nat.le_of_ble_eq_true rfl, Nat.le_of_ble_eq_true rfl⟩ rfl rfl (Nat.le_of_ble_eq_true rfl) ?_
                            refine b_if_ne (tgt := 156) X dX12_runCommand_151 (by decide) (fun c151 => ?_) (fun c151 => ?_)
                            · have h4 := of_decide_eq_true c151
                              rw [nI_toInt (by omega)] at h4
                              refine lv_bipush (v := (nI 10)) X.1 X.2.1 dX12_runCommand_156 (by decide) ?_
                              refine lv_iload X.1 X.2.1 dX12_runCommand_158 (lv_at hl 1 rfl) ?_
                              refine n_mul X dX12_runCommand_160 ?_
                              refine lv_aload_n X.1 X.2.1 dX12_runCommand_161 rfl (lv_at hl 6 rfl) ?_
                              refine va_get (D := g.1) (ci := 11) (v := .ref cm_) (C := RX12) (T := TX12) (N := 26) X.1 X.2.1 X.2.2.2.2 iwX12 X.2.2.2.1 hK hP 0 rfl rfl 7 (by decide) (X.2.2.2.2 _ q1027) (fun _ h9 => h9) rfl dX12_runCommand_162 ?_
                              refine lv_iload X.1 X.2.1 dX12_runCommand_165 (lv_at hl 0 rfl) ?_
                              refine n_iald X hK hP 9 0 rfl rfl (by omega) (by decide) dX12_runCommand_167 ?_
                              refine tp_i (y := (nI (c.getD t 0))) (hfc t (by omega)) ?_
                              refine n_add X dX12_runCommand_168 ?_
                              refine lv_bipush (v := (nI 48)) X.1 X.2.1 dX12_runCommand_169 (by decide) ?_
                              refine n_sub X dX12_runCommand_171 (by omega) ?_
                              refine lv_istore (lv' := [(5, .int (nI ((10 * v + (c.getD t 0)) - 48))), (6, .int (nI t)), (4, .int (iI ((((c.length : Nat) : Int) - ((i : Nat) : Int)) - ((1 : Nat) : Int)))), (3, .int (nI kd)), (2, .int (nI i)), (1, .int (nI c.length)), (0, .ref m0)]) X.1 X.2.1 dX12_runCommand_172 hl (by decide) rfl (fun ls hl => ?_)
                              refine lv_iinc (v := (nI (t + 1))) (lv' := [(6, .int (nI (t + 1))), (5, .int (nI ((10 * v + (c.getD t 0)) - 48))), (4, .int (iI ((((c.length : Nat) : Int) - ((i : Nat) : Int)) - ((1 : Nat) : Int)))), (3, .int (nI kd)), (2, .int (nI i)), (1, .int (nI c.length)), (0, .ref m0)]) X.1 X.2.1 dX12_runCommand_174 hl (k := 1) rfl (nI_inc _) (by decide) rfl (fun ls hl => ?_)
                              refine lv_goto (tgt := 131) X.1 X.2.1 dX12_runCommand_177 (by decide) ?_
                              exact ih131 ((10 * v + (c.getD t 0)) - 48) (t + 1) (by omega) (by omega) (by omega) (by rw [nmL, if_pos (by omega)] at hqn; rw [show 10 * v + c.getD t 0 - 48 = v * 10 + (c.getD t 0 - 48) by omega]; exact hqn) ls (lv_sub hl [0, 1, 2, 3, 4, 5, 6] rfl)
                            · have h4 := of_decide_eq_false c151
                              rw [nI_toInt (by omega)] at h4
                              refine lv_iconst (v := (-1)) X.1 X.2.1 dX12_runCommand_154 (by decide) ?_
                              exfalso
                              have h9 : paI c = (-1) := by rw [← hqn, nmL, if_neg (by omega)]
                              rw [hpa] at h9
                              have h8 := congrArg Int32.toInt h9
                              rw [nI_toInt (by omega)] at h8
                              have h7 : ((-1) : Int32).toInt = -1 := rfl
                              omega
                      exact L131 (c.length - (i + 1)) 0 (i + 1) (by omega) (by omega) (by omega) (by unfold paI; first | (rw [if_pos (by omega), show c.length - (i + 1) = 0 by omega]; rfl) | (rw [if_neg (by omega), if_neg (by omega), ← hce])) ls (lv_sub hl [0, 1, 2, 3, 4, 5, 6] rfl)
                    · have h3 := of_decide_eq_false c118
                      rw [iI_toInt (by omega) (by omega)] at h3
                      refine lv_iconst (v := (-1)) X.1 X.2.1 dX12_runCommand_121 (by decide) ?_
                      exfalso
                      have h9 : paI c = (-1) := by unfold paI; rw [if_neg (by omega), if_pos (by omega)]
                      rw [hpa] at h9
                      have h8 := congrArg Int32.toInt h9
                      rw [nI_toInt (by omega)] at h8
                      have h7 : ((-1) : Int32).toInt = -1 := rfl
                      omega
                · exfalso; omega
            · refine lv_iconst (v := (nI 1)) X.1 X.2.1 dX12_runCommand_58 (by decide) ?_
              refine lv_goto (tgt := 91) X.1 X.2.1 dX12_runCommand_59 (by decide) ?_
              have hk9 : kdI c = nI 1 := by unfold kdI; simp [kdL, c41, c55]
              refine tp_i (y := (nI kd)) (by rw [← hk9, hkd]) ?_
              refine lv_istore_n (lv' := [(3, .int (nI kd)), (2, .int (nI i)), (1, .int (nI c.length)), (0, .ref m0)]) X.1 X.2.1 dX12_runCommand_91 rfl hl (by decide) rfl (fun ls hl => ?_)
              refine lv_iload_n X.1 X.2.1 dX12_runCommand_92 rfl (lv_at hl 0 rfl) ?_
              refine z_if_ge (tgt := 99) X dX12_runCommand_93 (by decide) (nI_toInt (by omega)) (fun c93 => ?_) (fun c93 => ?_)
              · refine lv_iload_n X.1 X.2.1 dX12_runCommand_99 rfl (lv_at hl 2 rfl) ?_
                refine lv_iload_n X.1 X.2.1 dX12_runCommand_100 rfl (lv_at hl 1 rfl) ?_
                refine lv_isub X.1 X.2.1 dX12_runCommand_101 ?_
                refine tp_i (y := (iI (((c.length : Nat) : Int) - ((i : Nat) : Int)))) (by first | rw [iI_sub] | rw [nI_iI, nI_iI, iI_sub] | rw [nI_iI, iI_sub]) ?_
                refine lv_iconst (v := (nI 1)) X.1 X.2.1 dX12_runCommand_102 (by decide) ?_
                refine lv_isub X.1 X.2.1 dX12_runCommand_103 ?_
                refine tp_i (y := (iI ((((c.length : Nat) : Int) - ((i : Nat) : Int)) - ((1 : Nat) : Int)))) (by first | rw [iI_sub] | rw [nI_iI, nI_iI, iI_sub] | rw [nI_iI, iI_sub]) ?_
                refine lv_istore (lv' := [(4, .int (iI ((((c.length : Nat) : Int) - ((i : Nat) : Int)) - ((1 : Nat) : Int)))), (3, .int (nI kd)), (2, .int (nI i)), (1, .int (nI c.length)), (0, .ref m0)]) X.1 X.2.1 dX12_runCommand_104 hl (by decide) rfl (fun ls hl => ?_)
                refine lv_iload_n X.1 X.2.1 dX12_runCommand_106 rfl (lv_at hl 2 rfl) ?_
                refine lv_iload_n X.1 X.2.1 dX12_runCommand_107 rfl (lv_at hl 3 rfl) ?_
                refine z_icmp_ge (tgt := 123) X dX12_runCommand_108 (by decide) (nI_toInt (by omega)) (nI_toInt (by omega)) (fun c108 => ?_) (fun c108 => ?_)
                · refine lv_iconst (v := (nI 0)) X.1 X.2.1 dX12_runCommand_123 (by decide) ?_
                  refine lv_istore (lv' := [(5, .int (nI 0)), (4, .int (iI ((((c.length : Nat) : Int) - ((i : Nat) : Int)) - ((1 : Nat) : Int)))), (3, .int (nI kd)), (2, .int (nI i)), (1, .int (nI c.length)), (0, .ref m0)]) X.1 X.2.1 dX12_runCommand_124 hl (by decide) rfl (fun ls hl => ?_)
                  refine lv_iload_n X.1 X.2.1 dX12_runCommand_126 rfl (lv_at hl 3 rfl) ?_
                  refine lv_iconst (v := (nI 1)) X.1 X.2.1 dX12_runCommand_127 (by decide) ?_
                  refine n_add X dX12_runCommand_128 ?_
                  refine lv_istore (lv' := [(6, .int (nI (i + 1))), (5, .int (nI 0)), (4, .int (iI ((((c.length : Nat) : Int) - ((i : Nat) : Int)) - ((1 : Nat) : Int)))), (3, .int (nI kd)), (2, .int (nI i)), (1, .int (nI c.length)), (0, .ref m0)]) X.1 X.2.1 dX12_runCommand_129 hl (by decide) rfl (fun ls hl => ?_)
                  have L131 : ∀ (rn : Nat) (v : Nat) (t : Nat) (h2 : t + rn = c.length ∨ (rn = 0 ∧ t = c.length + 1 ∧ i = c.length)) (hti : i < t) (hvb : (t = i + 1 ∧ v = 0) ∨ (t = i + 2 ∧ v < 10) ∨ (t = i + 3 ∧ v < 100) ∨ (t = i + 4 ∧ v < 1000)) (hqn : nmL c rn t v = paI c) (ls : Array Slot) (hl : lv_has ls 7 [(6, .int (nI t)), (5, .int (nI v)), (4, .int (iI ((((c.length : Nat) : Int) - ((i : Nat) : Int)) - ((1 : Nat) : Int)))), (3, .int (nI kd)), (2, .int (nI i)), (1, .int (nI c.length)), (0, .ref m0)]), W p_ l_ e_ { frames := 7, cells := 0, slots := 0, locals := 161 } S_ m_ args below meth co H locs 0 0 (MQ below (va_Qi (S := (Nat → Int32) × (Nat → Int32) × (Nat → Int32) × (Nat → Int32) × (Nat → Bool) × (Nat → Int32) × (Nat → Int32) × (Nat → Int32)) (fun r u => r = (nI ((conL k T n B kd pp).length)) ∧ rep u.1 (conL k T n B kd pp) ∧ hrm u.2.1 u.2.2.1 ((s :: h).take 6)) (MuB g A (fun u => [(m0, .inr (11, [.int (nI k), .int (nI n), .ref lt, .int (nI ((conL k T n B kd pp).length)), .ref er, .ref el, .int (nI (((s :: h).take 6).length)), .ref cm_, .int (nI (([] : List Nat).length)), .int (bI tk), .int (nI k0), .int (nI n0), .ref sv, .int (nI s0.length), .ref md, .int (nI ((conL k T n B kd pp).length)), .ref fmm, .ref lc, .ref lz, .ref af, .ref pt_, .int (nI p.length), .ref oc, .ref ty_, .ref sz_, .ref em])), (lt, .inl (g.2.1, 256, .inl u.1)), (er, .inl (g.2.1, 1536, .inl u.2.1)), (el, .inl (g.2.1, 6, .inl u.2.2.1)), (md, .inl (g.2.1, 256, .inl u.2.2.2.1)), (fmm, .inl (g.2.2.1, 256, .inl (mf u.2.2.2.2.1))), (lc, .inl (g.2.1, 256, .inl u.2.2.2.2.2.1)), (lz, .inl (g.2.1, 256, .inl u.2.2.2.2.2.2.1)), (af, .inl (g.2.1, 256, .inl u.2.2.2.2.2.2.2)), (cm_, .inl (g.2.1, 20, .inl fc))])) A) args S_ 0 0 A) (F0 m_ 131 ls []) := by
                    intro rn
                    induction rn with
                    | zero =>
                      intro v t h2 hti hvb hqn ls hl
                      refine lv_iload X.1 X.2.1 dX12_runCommand_131 (lv_at hl 0 rfl) ?_
                      refine lv_iload_n X.1 X.2.1 dX12_runCommand_133 rfl (lv_at hl 5 rfl) ?_
                      refine z_icmp_ge (tgt := 180) X dX12_runCommand_134 (by decide) (nI_toInt (by omega)) (nI_toInt (by omega)) (fun c134 => ?_) (fun c134 => ?_)
                      · refine lv_aload_n X.1 X.2.1 dX12_runCommand_180 rfl (lv_at hl 6 rfl) ?_
                        refine lv_iload_n X.1 X.2.1 dX12_runCommand_181 rfl (lv_at hl 3 rfl) ?_
                        refine lv_iload X.1 X.2.1 dX12_runCommand_182 (lv_at hl 1 rfl) ?_
                        have hv9 : nI v = paI c := hqn
                        refine (m_construct_ok g m0 lt er el cm_ sv md fmm lc lz af pt_ oc ty_ sz_ em k n s h ([] : List Nat) tk k0 n0 s0 z p f fe fl fm_ q fc_ fx fa B T kd (nI v) pp (by assumption) (by omega) (by assumption) (by assumption) (by omega) (fun h => ⟨hv9.trans hpa, hp3 h⟩)).callV (rest := []) (wr := [(cm_, .inl (g.2.1, 20, .inl fc))]) X dX12_runCommand_184 q1217 tX12_construct hK hP hD hS hA [0, 1, 2, 3, 4, 5, 6, 7, 8] [9] (by decide) rfl rfl (by decide) (by decide) 0 11 rfl rfl rfl hl ⟨⟨Nat.le_of_ble_eq_true rfl, Nat.le_of_ble_eq_true rfl⟩, Nat.le_of_ble_eq_true rfl, Nat.le_of_ble_eq_true rfl⟩ rfl rfl (Nat.le_of_ble_eq_true rfl) (fun r184 u184 H locs hw184 hP hD hS => ?_)
                        obtain ⟨f1_184, fe1_184, fl1_184, fm1_184, q1_184, fc1_184, fx1_184, fa1_184⟩ := u184
                        have hP : PP g [(cm_, .inl (g.2.1, 20, .inl fc)), (m0, .inr (11, [.int (nI k), .int (nI n), .ref lt, .int (nI ((conL k T n B kd pp).length)), .ref er, .ref el, .int (nI (((s :: h).take 6).length)), .ref cm_, .int (nI (([] : List Nat).length)), .int (bI tk), .int (nI k0), .int (nI n0), .ref sv, .int (nI s0.length), .ref md, .int (nI ((conL k T n B kd pp).length)), .ref fmm, .ref lc, .ref lz, .ref af, .ref pt_, .int (nI p.length), .ref oc, .ref ty_, .ref sz_, .ref em])), (lt, .inl (g.2.1, 256, .inl f1_184)), (er, .inl (g.2.1, 1536, .inl fe1_184)), (el, .inl (g.2.1, 6, .inl fl1_184)), (md, .inl (g.2.1, 256, .inl fm1_184)), (fmm, .inl (g.2.2.1, 256, .inl (mf q1_184))), (lc, .inl (g.2.1, 256, .inl fc1_184)), (lz, .inl (g.2.1, 256, .inl fx1_184)), (af, .inl (g.2.1, 256, .inl fa1_184))] H := hP
                        have hD : va_D A [(cm_, .inl (g.2.1, 20, .inl fc)), (m0, .inr (11, [.int (nI k), .int (nI n), .ref lt, .int (nI ((conL k T n B kd pp).length)), .ref er, .ref el, .int (nI (((s :: h).take 6).length)), .ref cm_, .int (nI (([] : List Nat).length)), .int (bI tk), .int (nI k0), .int (nI n0), .ref sv, .int (nI s0.length), .ref md, .int (nI ((conL k T n B kd pp).length)), .ref fmm, .ref lc, .ref lz, .ref af, .ref pt_, .int (nI p.length), .ref oc, .ref ty_, .ref sz_, .ref em])), (lt, .inl (g.2.1, 256, .inl f1_184)), (er, .inl (g.2.1, 1536, .inl fe1_184)), (el, .inl (g.2.1, 6, .inl fl1_184)), (md, .inl (g.2.1, 256, .inl fm1_184)), (fmm, .inl (g.2.2.1, 256, .inl (mf q1_184))), (lc, .inl (g.2.1, 256, .inl fc1_184)), (lz, .inl (g.2.1, 256, .inl fx1_184)), (af, .inl (g.2.1, 256, .inl fa1_184))] := hD
                        try dsimp only at hw184
                        refine tp_i (y := (nI ((conL k T n B kd pp).length))) (hw184.1) ?_
                        exact MuI.ret X hr hlk hK hS dX12_runCommand_187 (nI_nar _) (f1_184, fe1_184, fl1_184, fm1_184, q1_184, fc1_184, fx1_184, fa1_184) (hP.sub [1, 2, 3, 4, 5, 6, 7, 8, 9, 0] rfl) (hD.sub [1, 2, 3, 4, 5, 6, 7, 8, 9, 0] (by decide) rfl) (⟨rfl, hw184.2⟩)
                      · exfalso; omega
                    | succ rn ih131 =>
                      intro v t h2 hti hvb hqn ls hl
                      refine lv_iload X.1 X.2.1 dX12_runCommand_131 (lv_at hl 0 rfl) ?_
                      refine lv_iload_n X.1 X.2.1 dX12_runCommand_133 rfl (lv_at hl 5 rfl) ?_
                      refine z_icmp_ge (tgt := 180) X dX12_runCommand_134 (by decide) (nI_toInt (by omega)) (nI_toInt (by omega)) (fun c134 => ?_) (fun c134 => ?_)
                      · exfalso; omega
                      · refine lv_aload_n X.1 X.2.1 dX12_runCommand_137 rfl (lv_at hl 6 rfl) ?_
                        refine va_get (D := g.1) (ci := 11) (v := .ref cm_) (C := RX12) (T := TX12) (N := 26) X.1 X.2.1 X.2.2.2.2 iwX12 X.2.2.2.1 hK hP 0 rfl rfl 7 (by decide) (X.2.2.2.2 _ q1027) (fun _ h9 => h9) rfl dX12_runCommand_138 ?_
                        refine lv_iload X.1 X.2.1 dX12_runCommand_141 (lv_at hl 0 rfl) ?_
                        refine n_iald X hK hP 9 0 rfl rfl (by omega) (by decide) dX12_runCommand_143 ?_
                        have hbt := hbc t
                        refine tp_i (y := (nI (c.getD t 0))) (hfc t (by omega)) ?_
                        refine lv_bipush (v := (nI 48)) X.1 X.2.1 dX12_runCommand_144 (by decide) ?_
                        refine lv_bipush (v := (nI 57)) X.1 X.2.1 dX12_runCommand_146 (by decide) ?_
                        refine (c_inN g (nI (c.getD t 0)) 48 57 (by omega) (by omega)).callS (rest := []) X dX12_runCommand_148 q1103 tX12_in hK (hP.sub [] rfl) hl ⟨⟨Nat.le_of_ble_eq_true rfl, Nat.le_of_ble_eq_true rfl⟩, Nat.le_of_ble_eq_true rfl, Nat.le_of_ble_eq_true rfl⟩ rfl rfl (Nat.le_of_ble_eq_true rfl) ?_
                        refine b_if_ne (tgt := 156) X dX12_runCommand_151 (by decide) (fun c151 => ?_) (fun c151 => ?_)
                        · have h4 := of_decide_eq_true c151
                          rw [nI_toInt (by omega)] at h4
                          refine lv_bipush (v := (nI 10)) X.1 X.2.1 dX12_runCommand_156 (by decide) ?_
                          refine lv_iload X.1 X.2.1 dX12_runCommand_158 (lv_at hl 1 rfl) ?_
                          refine n_mul X dX12_runCommand_160 ?_
                          refine lv_aload_n X.1 X.2.1 dX12_runCommand_161 rfl (lv_at hl 6 rfl) ?_
                          refine va_get (D := g.1) (ci := 11) (v := .ref cm_) (C := RX12) (T := TX12) (N := 26) X.1 X.2.1 X.2.2.2.2 iwX12 X.2.2.2.1 hK hP 0 rfl rfl 7 (by decide) (X.2.2.2.2 _ q1027) (fun _ h9 => h9) rfl dX12_runCommand_162 ?_
                          refine lv_iload X.1 X.2.1 dX12_runCommand_165 (lv_at hl 0 rfl) ?_
                          refine n_iald X hK hP 9 0 rfl rfl (by omega) (by decide) dX12_runCommand_167 ?_
                          refine tp_i (y := (nI (c.getD t 0))) (hfc t (by omega)) ?_
                          refine n_add X dX12_runCommand_168 ?_
                          refine lv_bipush (v := (nI 48)) X.1 X.2.1 dX12_runCommand_169 (by decide) ?_
                          refine n_sub X dX12_runCommand_171 (by omega) ?_
                          refine lv_istore (lv' := [(5, .int (nI ((10 * v + (c.getD t 0)) - 48))), (6, .int (nI t)), (4, .int (iI ((((c.length : Nat) : Int) - ((i : Nat) : Int)) - ((1 : Nat) : Int)))), (3, .int (nI kd)), (2, .int (nI i)), (1, .int (nI c.length)), (0, .ref m0)]) X.1 X.2.1 dX12_runCommand_172 hl (by decide) rfl (fun ls hl => ?_)
                          refine lv_iinc (v := (nI (t + 1))) (lv' := [(6, .int (nI (t + 1))), (5, .int (nI ((10 * v + (c.getD t 0)) - 48))), (4, .int (iI ((((c.length : Nat) : Int) - ((i : Nat) : Int)) - ((1 : Nat) : Int)))), (3, .int (nI kd)), (2, .int (nI i)), (1, .int (nI c.length)), (0, .ref m0)]) X.1 X.2.1 dX12_runCommand_174 hl (k := 1) rfl (nI_inc _) (by decide) rfl (fun ls hl => ?_)
                          refine lv_goto (tgt := 131) X.1 X.2.1 dX12_runCommand_177 (by decide) ?_
                          exact ih131 ((10 * v + (c.getD t 0)) - 48) (t + 1) (by omega) (by omega) (by omega) (by rw [nmL, if_pos (by omega)] at hqn; rw [show 10 * v + c.getD t 0 - 48 = v * 10 + (c.getD t 0 - 48) by omega]; exact hqn) ls (lv_sub hl [0, 1, 2, 3, 4, 5, 6] rfl)
                        · have h4 := of_decide_eq_false c151
                          rw [nI_toInt (by omega)] at h4
                          refine lv_iconst (v := (-1)) X.1 X.2.1 dX12_runCommand_154 (by decide) ?_
                          exfalso
                          have h9 : paI c = (-1) := by rw [← hqn, nmL, if_neg (by omega)]
                          rw [hpa] at h9
                          have h8 := congrArg Int32.toInt h9
                          rw [nI_toInt (by omega)] at h8
                          have h7 : ((-1) : Int32).toInt = -1 := rfl
                          omega
                  exact L131 (c.length - (i + 1)) 0 (i + 1) (by omega) (by omega) (by omega) (by unfold paI; first | (rw [if_pos (by omega), show c.length - (i + 1) = 0 by omega]; rfl) | (rw [if_neg (by omega), if_neg (by omega), ← hce])) ls (lv_sub hl [0, 1, 2, 3, 4, 5, 6] rfl)
                · refine lv_iload X.1 X.2.1 dX12_runCommand_111 (lv_at hl 0 rfl) ?_
                  refine lv_iconst (v := (nI 1)) X.1 X.2.1 dX12_runCommand_113 (by decide) ?_
                  refine lv_iconst (v := (nI 3)) X.1 X.2.1 dX12_runCommand_114 (by decide) ?_
                  refine (c_inN g (iI ((((c.length : Nat) : Int) - ((i : Nat) : Int)) - ((1 : Nat) : Int))) 1 3 (by omega) (by omega)).callS (rest := []) X dX12_runCommand_115 q1103 tX12_in hK (hP.sub [] rfl) hl ⟨⟨Nat.le_of_ble_eq_true rfl, Nat.le_of_ble_eq_true rfl⟩, Nat.le_of_ble_eq_true rfl, Nat.le_of_ble_eq_true rfl⟩ rfl rfl (Nat.le_of_ble_eq_true rfl) ?_
                  refine b_if_ne (tgt := 123) X dX12_runCommand_118 (by decide) (fun c118 => ?_) (fun c118 => ?_)
                  · have h3 := of_decide_eq_true c118
                    rw [iI_toInt (by omega) (by omega)] at h3
                    refine lv_iconst (v := (nI 0)) X.1 X.2.1 dX12_runCommand_123 (by decide) ?_
                    refine lv_istore (lv' := [(5, .int (nI 0)), (4, .int (iI ((((c.length : Nat) : Int) - ((i : Nat) : Int)) - ((1 : Nat) : Int)))), (3, .int (nI kd)), (2, .int (nI i)), (1, .int (nI c.length)), (0, .ref m0)]) X.1 X.2.1 dX12_runCommand_124 hl (by decide) rfl (fun ls hl => ?_)
                    refine lv_iload_n X.1 X.2.1 dX12_runCommand_126 rfl (lv_at hl 3 rfl) ?_
                    refine lv_iconst (v := (nI 1)) X.1 X.2.1 dX12_runCommand_127 (by decide) ?_
                    refine n_add X dX12_runCommand_128 ?_
                    refine lv_istore (lv' := [(6, .int (nI (i + 1))), (5, .int (nI 0)), (4, .int (iI ((((c.length : Nat) : Int) - ((i : Nat) : Int)) - ((1 : Nat) : Int)))), (3, .int (nI kd)), (2, .int (nI i)), (1, .int (nI c.length)), (0, .ref m0)]) X.1 X.2.1 dX12_runCommand_129 hl (by decide) rfl (fun ls hl => ?_)
                    have L131 : ∀ (rn : Nat) (v : Nat) (t : Nat) (h2 : t + rn = c.length ∨ (rn = 0 ∧ t = c.length + 1 ∧ i = c.length)) (hti : i < t) (hvb : (t = i + 1 ∧ v = 0) ∨ (t = i + 2 ∧ v < 10) ∨ (t = i + 3 ∧ v < 100) ∨ (t = i + 4 ∧ v < 1000)) (hqn : nmL c rn t v = paI c) (ls : Array Slot) (hl : lv_has ls 7 [(6, .int (nI t)), (5, .int (nI v)), (4, .int (iI ((((c.length : Nat) : Int) - ((i : Nat) : Int)) - ((1 : Nat) : Int)))), (3, .int (nI kd)), (2, .int (nI i)), (1, .int (nI c.length)), (0, .ref m0)]), W p_ l_ e_ { frames := 7, cells := 0, slots := 0, locals := 161 } S_ m_ args below meth co H locs 0 0 (MQ below (va_Qi (S := (Nat → Int32) × (Nat → Int32) × (Nat → Int32) × (Nat → Int32) × (Nat → Bool) × (Nat → Int32) × (Nat → Int32) × (Nat → Int32)) (fun r u => r = (nI ((conL k T n B kd pp).length)) ∧ rep u.1 (conL k T n B kd pp) ∧ hrm u.2.1 u.2.2.1 ((s :: h).take 6)) (MuB g A (fun u => [(m0, .inr (11, [.int (nI k), .int (nI n), .ref lt, .int (nI ((conL k T n B kd pp).length)), .ref er, .ref el, .int (nI (((s :: h).take 6).length)), .ref cm_, .int (nI (([] : List Nat).length)), .int (bI tk), .int (nI k0), .int (nI n0), .ref sv, .int (nI s0.length), .ref md, .int (nI ((conL k T n B kd pp).length)), .ref fmm, .ref lc, .ref lz, .ref af, .ref pt_, .int (nI p.length), .ref oc, .ref ty_, .ref sz_, .ref em])), (lt, .inl (g.2.1, 256, .inl u.1)), (er, .inl (g.2.1, 1536, .inl u.2.1)), (el, .inl (g.2.1, 6, .inl u.2.2.1)), (md, .inl (g.2.1, 256, .inl u.2.2.2.1)), (fmm, .inl (g.2.2.1, 256, .inl (mf u.2.2.2.2.1))), (lc, .inl (g.2.1, 256, .inl u.2.2.2.2.2.1)), (lz, .inl (g.2.1, 256, .inl u.2.2.2.2.2.2.1)), (af, .inl (g.2.1, 256, .inl u.2.2.2.2.2.2.2)), (cm_, .inl (g.2.1, 20, .inl fc))])) A) args S_ 0 0 A) (F0 m_ 131 ls []) := by
                      intro rn
                      induction rn with
                      | zero =>
                        intro v t h2 hti hvb hqn ls hl
                        refine lv_iload X.1 X.2.1 dX12_runCommand_131 (lv_at hl 0 rfl) ?_
                        refine lv_iload_n X.1 X.2.1 dX12_runCommand_133 rfl (lv_at hl 5 rfl) ?_
                        refine z_icmp_ge (tgt := 180) X dX12_runCommand_134 (by decide) (nI_toInt (by omega)) (nI_toInt (by omega)) (fun c134 => ?_) (fun c134 => ?_)
                        · refine lv_aload_n X.1 X.2.1 dX12_runCommand_180 rfl (lv_at hl 6 rfl) ?_
                          refine lv_iload_n X.1 X.2.1 dX12_runCommand_181 rfl (lv_at hl 3 rfl) ?_
                          refine lv_iload X.1 X.2.1 dX12_runCommand_182 (lv_at hl 1 rfl) ?_
                          have hv9 : nI v = paI c := hqn
                          refine (m_construct_ok g m0 lt er el cm_ sv md fmm lc lz af pt_ oc ty_ sz_ em k n s h ([] : List Nat) tk k0 n0 s0 z p f fe fl fm_ q fc_ fx fa B T kd (nI v) pp (by assumption) (by omega) (by assumption) (by assumption) (by omega) (fun h => ⟨hv9.trans hpa, hp3 h⟩)).callV (rest := []) (wr := [(cm_, .inl (g.2.1, 20, .inl fc))]) X dX12_runCommand_184 q1217 tX12_construct hK hP hD hS hA [0, 1, 2, 3, 4, 5, 6, 7, 8] [9] (by decide) rfl rfl (by decide) (by decide) 0 11 rfl rfl rfl hl ⟨⟨Nat.le_of_ble_eq_true rfl, Nat.le_of_ble_eq_true rfl⟩, Nat.le_of_ble_eq_true rfl, Nat.le_of_ble_eq_true rfl⟩ rfl rfl (Nat.le_of_ble_eq_true rfl) (fun r184 u184 H locs hw184 hP hD hS => ?_)
                          obtain ⟨f1_184, fe1_184, fl1_184, fm1_184, q1_184, fc1_184, fx1_184, fa1_184⟩ := u184
                          have hP : PP g [(cm_, .inl (g.2.1, 20, .inl fc)), (m0, .inr (11, [.int (nI k), .int (nI n), .ref lt, .int (nI ((conL k T n B kd pp).length)), .ref er, .ref el, .int (nI (((s :: h).take 6).length)), .ref cm_, .int (nI (([] : List Nat).length)), .int (bI tk), .int (nI k0), .int (nI n0), .ref sv, .int (nI s0.length), .ref md, .int (nI ((conL k T n B kd pp).length)), .ref fmm, .ref lc, .ref lz, .ref af, .ref pt_, .int (nI p.length), .ref oc, .ref ty_, .ref sz_, .ref em])), (lt, .inl (g.2.1, 256, .inl f1_184)), (er, .inl (g.2.1, 1536, .inl fe1_184)), (el, .inl (g.2.1, 6, .inl fl1_184)), (md, .inl (g.2.1, 256, .inl fm1_184)), (fmm, .inl (g.2.2.1, 256, .inl (mf q1_184))), (lc, .inl (g.2.1, 256, .inl fc1_184)), (lz, .inl (g.2.1, 256, .inl fx1_184)), (af, .inl (g.2.1, 256, .inl fa1_184))] H := hP
                          have hD : va_D A [(cm_, .inl (g.2.1, 20, .inl fc)), (m0, .inr (11, [.int (nI k), .int (nI n), .ref lt, .int (nI ((conL k T n B kd pp).length)), .ref er, .ref el, .int (nI (((s :: h).take 6).length)), .ref cm_, .int (nI (([] : List Nat).length)), .int (bI tk), .int (nI k0), .int (nI n0), .ref sv, .int (nI s0.length), .ref md, .int (nI ((conL k T n B kd pp).length)), .ref fmm, .ref lc, .ref lz, .ref af, .ref pt_, .int (nI p.length), .ref oc, .ref ty_, .ref sz_, .ref em])), (lt, .inl (g.2.1, 256, .inl f1_184)), (er, .inl (g.2.1, 1536, .inl fe1_184)), (el, .inl (g.2.1, 6, .inl fl1_184)), (md, .inl (g.2.1, 256, .inl fm1_184)), (fmm, .inl (g.2.2.1, 256, .inl (mf q1_184))), (lc, .inl (g.2.1, 256, .inl fc1_184)), (lz, .inl (g.2.1, 256, .inl fx1_184)), (af, .inl (g.2.1, 256, .inl fa1_184))] := hD
                          try dsimp only at hw184
                          refine tp_i (y := (nI ((conL k T n B kd pp).length))) (hw184.1) ?_
                          exact MuI.ret X hr hlk hK hS dX12_runCommand_187 (nI_nar _) (f1_184, fe1_184, fl1_184, fm1_184, q1_184, fc1_184, fx1_184, fa1_184) (hP.sub [1, 2, 3, 4, 5, 6, 7, 8, 9, 0] rfl) (hD.sub [1, 2, 3, 4, 5, 6, 7, 8, 9, 0] (by decide) rfl) (⟨rfl, hw184.2⟩)
                        · exfalso; omega
                      | succ rn ih131 =>
                        intro v t h2 hti hvb hqn ls hl
                        refine lv_iload X.1 X.2.1 dX12_runCommand_131 (lv_at hl 0 rfl) ?_
                        refine lv_iload_n X.1 X.2.1 dX12_runCommand_133 rfl (lv_at hl 5 rfl) ?_
                        refine z_icmp_ge (tgt := 180) X dX12_runCommand_134 (by decide) (nI_toInt (by omega)) (nI_toInt (by omega)) (fun c134 => ?_) (fun c134 => ?_)
                        · exfalso; omega
                        · refine lv_aload_n X.1 X.2.1 dX12_runCommand_137 rfl (lv_at hl 6 rfl) ?_
                          refine va_get (D := g.1) (ci := 11) (v := .ref cm_) (C := RX12) (T := TX12) (N := 26) X.1 X.2.1 X.2.2.2.2 iwX12 X.2.2.2.1 hK hP 0 rfl rfl 7 (by decide) (X.2.2.2.2 _ q1027) (fun _ h9 => h9) rfl dX12_runCommand_138 ?_
                          refine lv_iload X.1 X.2.1 dX12_runCommand_141 (lv_at hl 0 rfl) ?_
                          refine n_iald X hK hP 9 0 rfl rfl (by omega) (by decide) dX12_runCommand_143 ?_
                          have hbt := hbc t
                          refine tp_i (y := (nI (c.getD t 0))) (hfc t (by omega)) ?_
                          refine lv_bipush (v := (nI 48)) X.1 X.2.1 dX12_runCommand_144 (by decide) ?_
                          refine lv_bipush (v := (nI 57)) X.1 X.2.1 dX12_runCommand_146 (by decide) ?_
                          refine (c_inN g (nI (c.getD t 0)) 48 57 (by omega) (by omega)).callS (rest := []) X dX12_runCommand_148 q1103 tX12_in hK (hP.sub [] rfl) hl ⟨⟨Nat.le_of_ble_eq_true rfl, Nat.le_of_ble_eq_true rfl⟩, Nat.le_of_ble_eq_true rfl, Nat.le_of_ble_eq_true rfl⟩ rfl rfl (Nat.le_of_ble_eq_true rfl) ?_
                          refine b_if_ne (tgt := 156) X dX12_runCommand_151 (by decide) (fun c151 => ?_) (fun c151 => ?_)
                          · have h4 := of_decide_eq_true c151
                            rw [nI_toInt (by omega)] at h4
                            refine lv_bipush (v := (nI 10)) X.1 X.2.1 dX12_runCommand_156 (by decide) ?_
                            refine lv_iload X.1 X.2.1 dX12_runCommand_158 (lv_at hl 1 rfl) ?_
                            refine n_mul X dX12_runCommand_160 ?_
                            refine lv_aload_n X.1 X.2.1 dX12_runCommand_161 rfl (lv_at hl 6 rfl) ?_
                            refine va_get (D := g.1) (ci := 11) (v := .ref cm_) (C := RX12) (T := TX12) (N := 26) X.1 X.2.1 X.2.2.2.2 iwX12 X.2.2.2.1 hK hP 0 rfl rfl 7 (by decide) (X.2.2.2.2 _ q1027) (fun _ h9 => h9) rfl dX12_runCommand_162 ?_
                            refine lv_iload X.1 X.2.1 dX12_runCommand_165 (lv_at hl 0 rfl) ?_
                            refine n_iald X hK hP 9 0 rfl rfl (by omega) (by decide) dX12_runCommand_167 ?_
                            refine tp_i (y := (nI (c.getD t 0))) (hfc t (by omega)) ?_
                            refine n_add X dX12_runCommand_168 ?_
                            refine lv_bipush (v := (nI 48)) X.1 X.2.1 dX12_runCommand_169 (by decide) ?_
                            refine n_sub X dX12_runCommand_171 (by omega) ?_
                            refine lv_istore (lv' := [(5, .int (nI ((10 * v + (c.getD t 0)) - 48))), (6, .int (nI t)), (4, .int (iI ((((c.length : Nat) : Int) - ((i : Nat) : Int)) - ((1 : Nat) : Int)))), (3, .int (nI kd)), (2, .int (nI i)), (1, .int (nI c.length)), (0, .ref m0)]) X.1 X.2.1 dX12_runCommand_172 hl (by decide) rfl (fun ls hl => ?_)
                            refine lv_iinc (v := (nI (t + 1))) (lv' := [(6, .int (nI (t + 1))), (5, .int (nI ((10 * v + (c.getD t 0)) - 48))), (4, .int (iI ((((c.length : Nat) : Int) - ((i : Nat) : Int)) - ((1 : Nat) : Int)))), (3, .int (nI kd)), (2, .int (nI i)), (1, .int (nI c.length)), (0, .ref m0)]) X.1 X.2.1 dX12_runCommand_174 hl (k := 1) rfl (nI_inc _) (by decide) rfl (fun ls hl => ?_)
                            refine lv_goto (tgt := 131) X.1 X.2.1 dX12_runCommand_177 (by decide) ?_
                            exact ih131 ((10 * v + (c.getD t 0)) - 48) (t + 1) (by omega) (by omega) (by omega) (by rw [nmL, if_pos (by omega)] at hqn; rw [show 10 * v + c.getD t 0 - 48 = v * 10 + (c.getD t 0 - 48) by omega]; exact hqn) ls (lv_sub hl [0, 1, 2, 3, 4, 5, 6] rfl)
                          · have h4 := of_decide_eq_false c151
                            rw [nI_toInt (by omega)] at h4
                            refine lv_iconst (v := (-1)) X.1 X.2.1 dX12_runCommand_154 (by decide) ?_
                            exfalso
                            have h9 : paI c = (-1) := by rw [← hqn, nmL, if_neg (by omega)]
                            rw [hpa] at h9
                            have h8 := congrArg Int32.toInt h9
                            rw [nI_toInt (by omega)] at h8
                            have h7 : ((-1) : Int32).toInt = -1 := rfl
                            omega
                    exact L131 (c.length - (i + 1)) 0 (i + 1) (by omega) (by omega) (by omega) (by unfold paI; first | (rw [if_pos (by omega), show c.length - (i + 1) = 0 by omega]; rfl) | (rw [if_neg (by omega), if_neg (by omega), ← hce])) ls (lv_sub hl [0, 1, 2, 3, 4, 5, 6] rfl)
                  · have h3 := of_decide_eq_false c118
                    rw [iI_toInt (by omega) (by omega)] at h3
                    refine lv_iconst (v := (-1)) X.1 X.2.1 dX12_runCommand_121 (by decide) ?_
                    exfalso
                    have h9 : paI c = (-1) := by unfold paI; rw [if_neg (by omega), if_pos (by omega)]
                    rw [hpa] at h9
                    have h8 := congrArg Int32.toInt h9
                    rw [nI_toInt (by omega)] at h8
                    have h7 : ((-1) : Int32).toInt = -1 := rfl
                    omega
              · exfalso; omega
          · refine lv_iconst (v := (nI 0)) X.1 X.2.1 dX12_runCommand_44 (by decide) ?_
            refine lv_goto (tgt := 91) X.1 X.2.1 dX12_runCommand_45 (by decide) ?_
            have hk9 : kdI c = nI 0 := by unfold kdI; simp [kdL, c41]
            refine tp_i (y := (nI kd)) (by rw [← hk9, hkd]) ?_
            refine lv_istore_n (lv' := [(3, .int (nI kd)), (2, .int (nI i)), (1, .int (nI c.length)), (0, .ref m0)]) X.1 X.2.1 dX12_runCommand_91 rfl hl (by decide) rfl (fun ls hl => ?_)
            refine lv_iload_n X.1 X.2.1 dX12_runCommand_92 rfl (lv_at hl 0 rfl) ?_
            refine z_if_ge (tgt := 99) X dX12_runCommand_93 (by decide) (nI_toInt (by omega)) (fun c93 => ?_) (fun c93 => ?_)
            · refine lv_iload_n X.1 X.2.1 dX12_runCommand_99 rfl (lv_at hl 2 rfl) ?_
              refine lv_iload_n X.1 X.2.1 dX12_runCommand_100 rfl (lv_at hl 1 rfl) ?_
              refine lv_isub X.1 X.2.1 dX12_runCommand_101 ?_
              refine tp_i (y := (iI (((c.length : Nat) : Int) - ((i : Nat) : Int)))) (by first | rw [iI_sub] | rw [nI_iI, nI_iI, iI_sub] | rw [nI_iI, iI_sub]) ?_
              refine lv_iconst (v := (nI 1)) X.1 X.2.1 dX12_runCommand_102 (by decide) ?_
              refine lv_isub X.1 X.2.1 dX12_runCommand_103 ?_
              refine tp_i (y := (iI ((((c.length : Nat) : Int) - ((i : Nat) : Int)) - ((1 : Nat) : Int)))) (by first | rw [iI_sub] | rw [nI_iI, nI_iI, iI_sub] | rw [nI_iI, iI_sub]) ?_
              refine lv_istore (lv' := [(4, .int (iI ((((c.length : Nat) : Int) - ((i : Nat) : Int)) - ((1 : Nat) : Int)))), (3, .int (nI kd)), (2, .int (nI i)), (1, .int (nI c.length)), (0, .ref m0)]) X.1 X.2.1 dX12_runCommand_104 hl (by decide) rfl (fun ls hl => ?_)
              refine lv_iload_n X.1 X.2.1 dX12_runCommand_106 rfl (lv_at hl 2 rfl) ?_
              refine lv_iload_n X.1 X.2.1 dX12_runCommand_107 rfl (lv_at hl 3 rfl) ?_
              refine z_icmp_ge (tgt := 123) X dX12_runCommand_108 (by decide) (nI_toInt (by omega)) (nI_toInt (by omega)) (fun c108 => ?_) (fun c108 => ?_)
              · refine lv_iconst (v := (nI 0)) X.1 X.2.1 dX12_runCommand_123 (by decide) ?_
                refine lv_istore (lv' := [(5, .int (nI 0)), (4, .int (iI ((((c.length : Nat) : Int) - ((i : Nat) : Int)) - ((1 : Nat) : Int)))), (3, .int (nI kd)), (2, .int (nI i)), (1, .int (nI c.length)), (0, .ref m0)]) X.1 X.2.1 dX12_runCommand_124 hl (by decide) rfl (fun ls hl => ?_)
                refine lv_iload_n X.1 X.2.1 dX12_runCommand_126 rfl (lv_at hl 3 rfl) ?_
                refine lv_iconst (v := (nI 1)) X.1 X.2.1 dX12_runCommand_127 (by decide) ?_
                refine n_add X dX12_runCommand_128 ?_
                refine lv_istore (lv' := [(6, .int (nI (i + 1))), (5, .int (nI 0)), (4, .int (iI ((((c.length : Nat) : Int) - ((i : Nat) : Int)) - ((1 : Nat) : Int)))), (3, .int (nI kd)), (2, .int (nI i)), (1, .int (nI c.length)), (0, .ref m0)]) X.1 X.2.1 dX12_runCommand_129 hl (by decide) rfl (fun ls hl => ?_)
                have L131 : ∀ (rn : Nat) (v : Nat) (t : Nat) (h2 : t + rn = c.length ∨ (rn = 0 ∧ t = c.length + 1 ∧ i = c.length)) (hti : i < t) (hvb : (t = i + 1 ∧ v = 0) ∨ (t = i + 2 ∧ v < 10) ∨ (t = i + 3 ∧ v < 100) ∨ (t = i + 4 ∧ v < 1000)) (hqn : nmL c rn t v = paI c) (ls : Array Slot) (hl : lv_has ls 7 [(6, .int (nI t)), (5, .int (nI v)), (4, .int (iI ((((c.length : Nat) : Int) - ((i : Nat) : Int)) - ((1 : Nat) : Int)))), (3, .int (nI kd)), (2, .int (nI i)), (1, .int (nI c.length)), (0, .ref m0)]), W p_ l_ e_ { frames := 7, cells := 0, slots := 0, locals := 161 } S_ m_ args below meth co H locs 0 0 (MQ below (va_Qi (S := (Nat → Int32) × (Nat → Int32) × (Nat → Int32) × (Nat → Int32) × (Nat → Bool) × (Nat → Int32) × (Nat → Int32) × (Nat → Int32)) (fun r u => r = (nI ((conL k T n B kd pp).length)) ∧ rep u.1 (conL k T n B kd pp) ∧ hrm u.2.1 u.2.2.1 ((s :: h).take 6)) (MuB g A (fun u => [(m0, .inr (11, [.int (nI k), .int (nI n), .ref lt, .int (nI ((conL k T n B kd pp).length)), .ref er, .ref el, .int (nI (((s :: h).take 6).length)), .ref cm_, .int (nI (([] : List Nat).length)), .int (bI tk), .int (nI k0), .int (nI n0), .ref sv, .int (nI s0.length), .ref md, .int (nI ((conL k T n B kd pp).length)), .ref fmm, .ref lc, .ref lz, .ref af, .ref pt_, .int (nI p.length), .ref oc, .ref ty_, .ref sz_, .ref em])), (lt, .inl (g.2.1, 256, .inl u.1)), (er, .inl (g.2.1, 1536, .inl u.2.1)), (el, .inl (g.2.1, 6, .inl u.2.2.1)), (md, .inl (g.2.1, 256, .inl u.2.2.2.1)), (fmm, .inl (g.2.2.1, 256, .inl (mf u.2.2.2.2.1))), (lc, .inl (g.2.1, 256, .inl u.2.2.2.2.2.1)), (lz, .inl (g.2.1, 256, .inl u.2.2.2.2.2.2.1)), (af, .inl (g.2.1, 256, .inl u.2.2.2.2.2.2.2)), (cm_, .inl (g.2.1, 20, .inl fc))])) A) args S_ 0 0 A) (F0 m_ 131 ls []) := by
                  intro rn
                  induction rn with
                  | zero =>
                    intro v t h2 hti hvb hqn ls hl
                    refine lv_iload X.1 X.2.1 dX12_runCommand_131 (lv_at hl 0 rfl) ?_
                    refine lv_iload_n X.1 X.2.1 dX12_runCommand_133 rfl (lv_at hl 5 rfl) ?_
                    refine z_icmp_ge (tgt := 180) X dX12_runCommand_134 (by decide) (nI_toInt (by omega)) (nI_toInt (by omega)) (fun c134 => ?_) (fun c134 => ?_)
                    · refine lv_aload_n X.1 X.2.1 dX12_runCommand_180 rfl (lv_at hl 6 rfl) ?_
                      refine lv_iload_n X.1 X.2.1 dX12_runCommand_181 rfl (lv_at hl 3 rfl) ?_
                      refine lv_iload X.1 X.2.1 dX12_runCommand_182 (lv_at hl 1 rfl) ?_
                      have hv9 : nI v = paI c := hqn
                      refine (m_construct_ok g m0 lt er el cm_ sv md fmm lc lz af pt_ oc ty_ sz_ em k n s h ([] : List Nat) tk k0 n0 s0 z p f fe fl fm_ q fc_ fx fa B T kd (nI v) pp (by assumption) (by omega) (by assumption) (by assumption) (by omega) (fun h => ⟨hv9.trans hpa, hp3 h⟩)).callV (rest := []) (wr := [(cm_, .inl (g.2.1, 20, .inl fc))]) X dX12_runCommand_184 q1217 tX12_construct hK hP hD hS hA [0, 1, 2, 3, 4, 5, 6, 7, 8] [9] (by decide) rfl rfl (by decide) (by decide) 0 11 rfl rfl rfl hl ⟨⟨Nat.le_of_ble_eq_true rfl, Nat.le_of_ble_eq_true rfl⟩, Nat.le_of_ble_eq_true rfl, Nat.le_of_ble_eq_true rfl⟩ rfl rfl (Nat.le_of_ble_eq_true rfl) (fun r184 u184 H locs hw184 hP hD hS => ?_)
                      obtain ⟨f1_184, fe1_184, fl1_184, fm1_184, q1_184, fc1_184, fx1_184, fa1_184⟩ := u184
                      have hP : PP g [(cm_, .inl (g.2.1, 20, .inl fc)), (m0, .inr (11, [.int (nI k), .int (nI n), .ref lt, .int (nI ((conL k T n B kd pp).length)), .ref er, .ref el, .int (nI (((s :: h).take 6).length)), .ref cm_, .int (nI (([] : List Nat).length)), .int (bI tk), .int (nI k0), .int (nI n0), .ref sv, .int (nI s0.length), .ref md, .int (nI ((conL k T n B kd pp).length)), .ref fmm, .ref lc, .ref lz, .ref af, .ref pt_, .int (nI p.length), .ref oc, .ref ty_, .ref sz_, .ref em])), (lt, .inl (g.2.1, 256, .inl f1_184)), (er, .inl (g.2.1, 1536, .inl fe1_184)), (el, .inl (g.2.1, 6, .inl fl1_184)), (md, .inl (g.2.1, 256, .inl fm1_184)), (fmm, .inl (g.2.2.1, 256, .inl (mf q1_184))), (lc, .inl (g.2.1, 256, .inl fc1_184)), (lz, .inl (g.2.1, 256, .inl fx1_184)), (af, .inl (g.2.1, 256, .inl fa1_184))] H := hP
                      have hD : va_D A [(cm_, .inl (g.2.1, 20, .inl fc)), (m0, .inr (11, [.int (nI k), .int (nI n), .ref lt, .int (nI ((conL k T n B kd pp).length)), .ref er, .ref el, .int (nI (((s :: h).take 6).length)), .ref cm_, .int (nI (([] : List Nat).length)), .int (bI tk), .int (nI k0), .int (nI n0), .ref sv, .int (nI s0.length), .ref md, .int (nI ((conL k T n B kd pp).length)), .ref fmm, .ref lc, .ref lz, .ref af, .ref pt_, .int (nI p.length), .ref oc, .ref ty_, .ref sz_, .ref em])), (lt, .inl (g.2.1, 256, .inl f1_184)), (er, .inl (g.2.1, 1536, .inl fe1_184)), (el, .inl (g.2.1, 6, .inl fl1_184)), (md, .inl (g.2.1, 256, .inl fm1_184)), (fmm, .inl (g.2.2.1, 256, .inl (mf q1_184))), (lc, .inl (g.2.1, 256, .inl fc1_184)), (lz, .inl (g.2.1, 256, .inl fx1_184)), (af, .inl (g.2.1, 256, .inl fa1_184))] := hD
                      try dsimp only at hw184
                      refine tp_i (y := (nI ((conL k T n B kd pp).length))) (hw184.1) ?_
                      exact MuI.ret X hr hlk hK hS dX12_runCommand_187 (nI_nar _) (f1_184, fe1_184, fl1_184, fm1_184, q1_184, fc1_184, fx1_184, fa1_184) (hP.sub [1, 2, 3, 4, 5, 6, 7, 8, 9, 0] rfl) (hD.sub [1, 2, 3, 4, 5, 6, 7, 8, 9, 0] (by decide) rfl) (⟨rfl, hw184.2⟩)
                    · exfalso; omega
                  | succ rn ih131 =>
                    intro v t h2 hti hvb hqn ls hl
                    refine lv_iload X.1 X.2.1 dX12_runCommand_131 (lv_at hl 0 rfl) ?_
                    refine lv_iload_n X.1 X.2.1 dX12_runCommand_133 rfl (lv_at hl 5 rfl) ?_
                    refine z_icmp_ge (tgt := 180) X dX12_runCommand_134 (by decide) (nI_toInt (by omega)) (nI_toInt (by omega)) (fun c134 => ?_) (fun c134 => ?_)
                    · exfalso; omega
                    · refine lv_aload_n X.1 X.2.1 dX12_runCommand_137 rfl (lv_at hl 6 rfl) ?_
                      refine va_get (D := g.1) (ci := 11) (v := .ref cm_) (C := RX12) (T := TX12) (N := 26) X.1 X.2.1 X.2.2.2.2 iwX12 X.2.2.2.1 hK hP 0 rfl rfl 7 (by decide) (X.2.2.2.2 _ q1027) (fun _ h9 => h9) rfl dX12_runCommand_138 ?_
                      refine lv_iload X.1 X.2.1 dX12_runCommand_141 (lv_at hl 0 rfl) ?_
                      refine n_iald X hK hP 9 0 rfl rfl (by omega) (by decide) dX12_runCommand_143 ?_
                      have hbt := hbc t
                      refine tp_i (y := (nI (c.getD t 0))) (hfc t (by omega)) ?_
                      refine lv_bipush (v := (nI 48)) X.1 X.2.1 dX12_runCommand_144 (by decide) ?_
                      refine lv_bipush (v := (nI 57)) X.1 X.2.1 dX12_runCommand_146 (by decide) ?_
                      refine (c_inN g (nI (c.getD t 0)) 48 57 (by omega) (by omega)).callS (rest := []) X dX12_runCommand_148 q1103 tX12_in hK (hP.sub [] rfl) hl ⟨⟨Nat.le_of_ble_eq_true rfl, Nat.le_of_ble_eq_true rfl⟩, Nat.le_of_ble_eq_true rfl, Nat.le_of_ble_eq_true rfl⟩ rfl rfl (Nat.le_of_ble_eq_true rfl) ?_
                      refine b_if_ne (tgt := 156) X dX12_runCommand_151 (by decide) (fun c151 => ?_) (fun c151 => ?_)
                      · have h4 := of_decide_eq_true c151
                        rw [nI_toInt (by omega)] at h4
                        refine lv_bipush (v := (nI 10)) X.1 X.2.1 dX12_runCommand_156 (by decide) ?_
                        refine lv_iload X.1 X.2.1 dX12_runCommand_158 (lv_at hl 1 rfl) ?_
                        refine n_mul X dX12_runCommand_160 ?_
                        refine lv_aload_n X.1 X.2.1 dX12_runCommand_161 rfl (lv_at hl 6 rfl) ?_
                        refine va_get (D := g.1) (ci := 11) (v := .ref cm_) (C := RX12) (T := TX12) (N := 26) X.1 X.2.1 X.2.2.2.2 iwX12 X.2.2.2.1 hK hP 0 rfl rfl 7 (by decide) (X.2.2.2.2 _ q1027) (fun _ h9 => h9) rfl dX12_runCommand_162 ?_
                        refine lv_iload X.1 X.2.1 dX12_runCommand_165 (lv_at hl 0 rfl) ?_
                        refine n_iald X hK hP 9 0 rfl rfl (by omega) (by decide) dX12_runCommand_167 ?_
                        refine tp_i (y := (nI (c.getD t 0))) (hfc t (by omega)) ?_
                        refine n_add X dX12_runCommand_168 ?_
                        refine lv_bipush (v := (nI 48)) X.1 X.2.1 dX12_runCommand_169 (by decide) ?_
                        refine n_sub X dX12_runCommand_171 (by omega) ?_
                        refine lv_istore (lv' := [(5, .int (nI ((10 * v + (c.getD t 0)) - 48))), (6, .int (nI t)), (4, .int (iI ((((c.length : Nat) : Int) - ((i : Nat) : Int)) - ((1 : Nat) : Int)))), (3, .int (nI kd)), (2, .int (nI i)), (1, .int (nI c.length)), (0, .ref m0)]) X.1 X.2.1 dX12_runCommand_172 hl (by decide) rfl (fun ls hl => ?_)
                        refine lv_iinc (v := (nI (t + 1))) (lv' := [(6, .int (nI (t + 1))), (5, .int (nI ((10 * v + (c.getD t 0)) - 48))), (4, .int (iI ((((c.length : Nat) : Int) - ((i : Nat) : Int)) - ((1 : Nat) : Int)))), (3, .int (nI kd)), (2, .int (nI i)), (1, .int (nI c.length)), (0, .ref m0)]) X.1 X.2.1 dX12_runCommand_174 hl (k := 1) rfl (nI_inc _) (by decide) rfl (fun ls hl => ?_)
                        refine lv_goto (tgt := 131) X.1 X.2.1 dX12_runCommand_177 (by decide) ?_
                        exact ih131 ((10 * v + (c.getD t 0)) - 48) (t + 1) (by omega) (by omega) (by omega) (by rw [nmL, if_pos (by omega)] at hqn; rw [show 10 * v + c.getD t 0 - 48 = v * 10 + (c.getD t 0 - 48) by omega]; exact hqn) ls (lv_sub hl [0, 1, 2, 3, 4, 5, 6] rfl)
                      · have h4 := of_decide_eq_false c151
                        rw [nI_toInt (by omega)] at h4
                        refine lv_iconst (v := (-1)) X.1 X.2.1 dX12_runCommand_154 (by decide) ?_
                        exfalso
                        have h9 : paI c = (-1) := by rw [← hqn, nmL, if_neg (by omega)]
                        rw [hpa] at h9
                        have h8 := congrArg Int32.toInt h9
                        rw [nI_toInt (by omega)] at h8
                        have h7 : ((-1) : Int32).toInt = -1 := rfl
                        omega
                exact L131 (c.length - (i + 1)) 0 (i + 1) (by omega) (by omega) (by omega) (by unfold paI; first | (rw [if_pos (by omega), show c.length - (i + 1) = 0 by omega]; rfl) | (rw [if_neg (by omega), if_neg (by omega), ← hce])) ls (lv_sub hl [0, 1, 2, 3, 4, 5, 6] rfl)
              · refine lv_iload X.1 X.2.1 dX12_runCommand_111 (lv_at hl 0 rfl) ?_
                refine lv_iconst (v := (nI 1)) X.1 X.2.1 dX12_runCommand_113 (by decide) ?_
                refine lv_iconst (v := (nI 3)) X.1 X.2.1 dX12_runCommand_114 (by decide) ?_
                refine (c_inN g (iI ((((c.length : Nat) : Int) - ((i : Nat) : Int)) - ((1 : Nat) : Int))) 1 3 (by omega) (by omega)).callS (rest := []) X dX12_runCommand_115 q1103 tX12_in hK (hP.sub [] rfl) hl ⟨⟨Nat.le_of_ble_eq_true rfl, Nat.le_of_ble_eq_true rfl⟩, Nat.le_of_ble_eq_true rfl, Nat.le_of_ble_eq_true rfl⟩ rfl rfl (Nat.le_of_ble_eq_true rfl) ?_
                refine b_if_ne (tgt := 123) X dX12_runCommand_118 (by decide) (fun c118 => ?_) (fun c118 => ?_)
                · have h3 := of_decide_eq_true c118
                  rw [iI_toInt (by omega) (by omega)] at h3
                  refine lv_iconst (v := (nI 0)) X.1 X.2.1 dX12_runCommand_123 (by decide) ?_
                  refine lv_istore (lv' := [(5, .int (nI 0)), (4, .int (iI ((((c.length : Nat) : Int) - ((i : Nat) : Int)) - ((1 : Nat) : Int)))), (3, .int (nI kd)), (2, .int (nI i)), (1, .int (nI c.length)), (0, .ref m0)]) X.1 X.2.1 dX12_runCommand_124 hl (by decide) rfl (fun ls hl => ?_)
                  refine lv_iload_n X.1 X.2.1 dX12_runCommand_126 rfl (lv_at hl 3 rfl) ?_
                  refine lv_iconst (v := (nI 1)) X.1 X.2.1 dX12_runCommand_127 (by decide) ?_
                  refine n_add X dX12_runCommand_128 ?_
                  refine lv_istore (lv' := [(6, .int (nI (i + 1))), (5, .int (nI 0)), (4, .int (iI ((((c.length : Nat) : Int) - ((i : Nat) : Int)) - ((1 : Nat) : Int)))), (3, .int (nI kd)), (2, .int (nI i)), (1, .int (nI c.length)), (0, .ref m0)]) X.1 X.2.1 dX12_runCommand_129 hl (by decide) rfl (fun ls hl => ?_)
                  have L131 : ∀ (rn : Nat) (v : Nat) (t : Nat) (h2 : t + rn = c.length ∨ (rn = 0 ∧ t = c.length + 1 ∧ i = c.length)) (hti : i < t) (hvb : (t = i + 1 ∧ v = 0) ∨ (t = i + 2 ∧ v < 10) ∨ (t = i + 3 ∧ v < 100) ∨ (t = i + 4 ∧ v < 1000)) (hqn : nmL c rn t v = paI c) (ls : Array Slot) (hl : lv_has ls 7 [(6, .int (nI t)), (5, .int (nI v)), (4, .int (iI ((((c.length : Nat) : Int) - ((i : Nat) : Int)) - ((1 : Nat) : Int)))), (3, .int (nI kd)), (2, .int (nI i)), (1, .int (nI c.length)), (0, .ref m0)]), W p_ l_ e_ { frames := 7, cells := 0, slots := 0, locals := 161 } S_ m_ args below meth co H locs 0 0 (MQ below (va_Qi (S := (Nat → Int32) × (Nat → Int32) × (Nat → Int32) × (Nat → Int32) × (Nat → Bool) × (Nat → Int32) × (Nat → Int32) × (Nat → Int32)) (fun r u => r = (nI ((conL k T n B kd pp).length)) ∧ rep u.1 (conL k T n B kd pp) ∧ hrm u.2.1 u.2.2.1 ((s :: h).take 6)) (MuB g A (fun u => [(m0, .inr (11, [.int (nI k), .int (nI n), .ref lt, .int (nI ((conL k T n B kd pp).length)), .ref er, .ref el, .int (nI (((s :: h).take 6).length)), .ref cm_, .int (nI (([] : List Nat).length)), .int (bI tk), .int (nI k0), .int (nI n0), .ref sv, .int (nI s0.length), .ref md, .int (nI ((conL k T n B kd pp).length)), .ref fmm, .ref lc, .ref lz, .ref af, .ref pt_, .int (nI p.length), .ref oc, .ref ty_, .ref sz_, .ref em])), (lt, .inl (g.2.1, 256, .inl u.1)), (er, .inl (g.2.1, 1536, .inl u.2.1)), (el, .inl (g.2.1, 6, .inl u.2.2.1)), (md, .inl (g.2.1, 256, .inl u.2.2.2.1)), (fmm, .inl (g.2.2.1, 256, .inl (mf u.2.2.2.2.1))), (lc, .inl (g.2.1, 256, .inl u.2.2.2.2.2.1)), (lz, .inl (g.2.1, 256, .inl u.2.2.2.2.2.2.1)), (af, .inl (g.2.1, 256, .inl u.2.2.2.2.2.2.2)), (cm_, .inl (g.2.1, 20, .inl fc))])) A) args S_ 0 0 A) (F0 m_ 131 ls []) := by
                    intro rn
                    induction rn with
                    | zero =>
                      intro v t h2 hti hvb hqn ls hl
                      refine lv_iload X.1 X.2.1 dX12_runCommand_131 (lv_at hl 0 rfl) ?_
                      refine lv_iload_n X.1 X.2.1 dX12_runCommand_133 rfl (lv_at hl 5 rfl) ?_
                      refine z_icmp_ge (tgt := 180) X dX12_runCommand_134 (by decide) (nI_toInt (by omega)) (nI_toInt (by omega)) (fun c134 => ?_) (fun c134 => ?_)
                      · refine lv_aload_n X.1 X.2.1 dX12_runCommand_180 rfl (lv_at hl 6 rfl) ?_
                        refine lv_iload_n X.1 X.2.1 dX12_runCommand_181 rfl (lv_at hl 3 rfl) ?_
                        refine lv_iload X.1 X.2.1 dX12_runCommand_182 (lv_at hl 1 rfl) ?_
                        have hv9 : nI v = paI c := hqn
                        refine (m_construct_ok g m0 lt er el cm_ sv md fmm lc lz af pt_ oc ty_ sz_ em k n s h ([] : List Nat) tk k0 n0 s0 z p f fe fl fm_ q fc_ fx fa B T kd (nI v) pp (by assumption) (by omega) (by assumption) (by assumption) (by omega) (fun h => ⟨hv9.trans hpa, hp3 h⟩)).callV (rest := []) (wr := [(cm_, .inl (g.2.1, 20, .inl fc))]) X dX12_runCommand_184 q1217 tX12_construct hK hP hD hS hA [0, 1, 2, 3, 4, 5, 6, 7, 8] [9] (by decide) rfl rfl (by decide) (by decide) 0 11 rfl rfl rfl hl ⟨⟨Nat.le_of_ble_eq_true rfl, Nat.le_of_ble_eq_true rfl⟩, Nat.le_of_ble_eq_true rfl, Nat.le_of_ble_eq_true rfl⟩ rfl rfl (Nat.le_of_ble_eq_true rfl) (fun r184 u184 H locs hw184 hP hD hS => ?_)
                        obtain ⟨f1_184, fe1_184, fl1_184, fm1_184, q1_184, fc1_184, fx1_184, fa1_184⟩ := u184
                        have hP : PP g [(cm_, .inl (g.2.1, 20, .inl fc)), (m0, .inr (11, [.int (nI k), .int (nI n), .ref lt, .int (nI ((conL k T n B kd pp).length)), .ref er, .ref el, .int (nI (((s :: h).take 6).length)), .ref cm_, .int (nI (([] : List Nat).length)), .int (bI tk), .int (nI k0), .int (nI n0), .ref sv, .int (nI s0.length), .ref md, .int (nI ((conL k T n B kd pp).length)), .ref fmm, .ref lc, .ref lz, .ref af, .ref pt_, .int (nI p.length), .ref oc, .ref ty_, .ref sz_, .ref em])), (lt, .inl (g.2.1, 256, .inl f1_184)), (er, .inl (g.2.1, 1536, .inl fe1_184)), (el, .inl (g.2.1, 6, .inl fl1_184)), (md, .inl (g.2.1, 256, .inl fm1_184)), (fmm, .inl (g.2.2.1, 256, .inl (mf q1_184))), (lc, .inl (g.2.1, 256, .inl fc1_184)), (lz, .inl (g.2.1, 256, .inl fx1_184)), (af, .inl (g.2.1, 256, .inl fa1_184))] H := hP
                        have hD : va_D A [(cm_, .inl (g.2.1, 20, .inl fc)), (m0, .inr (11, [.int (nI k), .int (nI n), .ref lt, .int (nI ((conL k T n B kd pp).length)), .ref er, .ref el, .int (nI (((s :: h).take 6).length)), .ref cm_, .int (nI (([] : List Nat).length)), .int (bI tk), .int (nI k0), .int (nI n0), .ref sv, .int (nI s0.length), .ref md, .int (nI ((conL k T n B kd pp).length)), .ref fmm, .ref lc, .ref lz, .ref af, .ref pt_, .int (nI p.length), .ref oc, .ref ty_, .ref sz_, .ref em])), (lt, .inl (g.2.1, 256, .inl f1_184)), (er, .inl (g.2.1, 1536, .inl fe1_184)), (el, .inl (g.2.1, 6, .inl fl1_184)), (md, .inl (g.2.1, 256, .inl fm1_184)), (fmm, .inl (g.2.2.1, 256, .inl (mf q1_184))), (lc, .inl (g.2.1, 256, .inl fc1_184)), (lz, .inl (g.2.1, 256, .inl fx1_184)), (af, .inl (g.2.1, 256, .inl fa1_184))] := hD
                        try dsimp only at hw184
                        refine tp_i (y := (nI ((conL k T n B kd pp).length))) (hw184.1) ?_
                        exact MuI.ret X hr hlk hK hS dX12_runCommand_187 (nI_nar _) (f1_184, fe1_184, fl1_184, fm1_184, q1_184, fc1_184, fx1_184, fa1_184) (hP.sub [1, 2, 3, 4, 5, 6, 7, 8, 9, 0] rfl) (hD.sub [1, 2, 3, 4, 5, 6, 7, 8, 9, 0] (by decide) rfl) (⟨rfl, hw184.2⟩)
                      · exfalso; omega
                    | succ rn ih131 =>
                      intro v t h2 hti hvb hqn ls hl
                      refine lv_iload X.1 X.2.1 dX12_runCommand_131 (lv_at hl 0 rfl) ?_
                      refine lv_iload_n X.1 X.2.1 dX12_runCommand_133 rfl (lv_at hl 5 rfl) ?_
                      refine z_icmp_ge (tgt := 180) X dX12_runCommand_134 (by decide) (nI_toInt (by omega)) (nI_toInt (by omega)) (fun c134 => ?_) (fun c134 => ?_)
                      · exfalso; omega
                      · refine lv_aload_n X.1 X.2.1 dX12_runCommand_137 rfl (lv_at hl 6 rfl) ?_
                        refine va_get (D := g.1) (ci := 11) (v := .ref cm_) (C := RX12) (T := TX12) (N := 26) X.1 X.2.1 X.2.2.2.2 iwX12 X.2.2.2.1 hK hP 0 rfl rfl 7 (by decide) (X.2.2.2.2 _ q1027) (fun _ h9 => h9) rfl dX12_runCommand_138 ?_
                        refine lv_iload X.1 X.2.1 dX12_runCommand_141 (lv_at hl 0 rfl) ?_
                        refine n_iald X hK hP 9 0 rfl rfl (by omega) (by decide) dX12_runCommand_143 ?_
                        have hbt := hbc t
                        refine tp_i (y := (nI (c.getD t 0))) (hfc t (by omega)) ?_
                        refine lv_bipush (v := (nI 48)) X.1 X.2.1 dX12_runCommand_144 (by decide) ?_
                        refine lv_bipush (v := (nI 57)) X.1 X.2.1 dX12_runCommand_146 (by decide) ?_
                        refine (c_inN g (nI (c.getD t 0)) 48 57 (by omega) (by omega)).callS (rest := []) X dX12_runCommand_148 q1103 tX12_in hK (hP.sub [] rfl) hl ⟨⟨Nat.le_of_ble_eq_true rfl, Nat.le_of_ble_eq_true rfl⟩, Nat.le_of_ble_eq_true rfl, Nat.le_of_ble_eq_true rfl⟩ rfl rfl (Nat.le_of_ble_eq_true rfl) ?_
                        refine b_if_ne (tgt := 156) X dX12_runCommand_151 (by decide) (fun c151 => ?_) (fun c151 => ?_)
                        · have h4 := of_decide_eq_true c151
                          rw [nI_toInt (by omega)] at h4
                          refine lv_bipush (v := (nI 10)) X.1 X.2.1 dX12_runCommand_156 (by decide) ?_
                          refine lv_iload X.1 X.2.1 dX12_runCommand_158 (lv_at hl 1 rfl) ?_
                          refine n_mul X dX12_runCommand_160 ?_
                          refine lv_aload_n X.1 X.2.1 dX12_runCommand_161 rfl (lv_at hl 6 rfl) ?_
                          refine va_get (D := g.1) (ci := 11) (v := .ref cm_) (C := RX12) (T := TX12) (N := 26) X.1 X.2.1 X.2.2.2.2 iwX12 X.2.2.2.1 hK hP 0 rfl rfl 7 (by decide) (X.2.2.2.2 _ q1027) (fun _ h9 => h9) rfl dX12_runCommand_162 ?_
                          refine lv_iload X.1 X.2.1 dX12_runCommand_165 (lv_at hl 0 rfl) ?_
                          refine n_iald X hK hP 9 0 rfl rfl (by omega) (by decide) dX12_runCommand_167 ?_
                          refine tp_i (y := (nI (c.getD t 0))) (hfc t (by omega)) ?_
                          refine n_add X dX12_runCommand_168 ?_
                          refine lv_bipush (v := (nI 48)) X.1 X.2.1 dX12_runCommand_169 (by decide) ?_
                          refine n_sub X dX12_runCommand_171 (by omega) ?_
                          refine lv_istore (lv' := [(5, .int (nI ((10 * v + (c.getD t 0)) - 48))), (6, .int (nI t)), (4, .int (iI ((((c.length : Nat) : Int) - ((i : Nat) : Int)) - ((1 : Nat) : Int)))), (3, .int (nI kd)), (2, .int (nI i)), (1, .int (nI c.length)), (0, .ref m0)]) X.1 X.2.1 dX12_runCommand_172 hl (by decide) rfl (fun ls hl => ?_)
                          refine lv_iinc (v := (nI (t + 1))) (lv' := [(6, .int (nI (t + 1))), (5, .int (nI ((10 * v + (c.getD t 0)) - 48))), (4, .int (iI ((((c.length : Nat) : Int) - ((i : Nat) : Int)) - ((1 : Nat) : Int)))), (3, .int (nI kd)), (2, .int (nI i)), (1, .int (nI c.length)), (0, .ref m0)]) X.1 X.2.1 dX12_runCommand_174 hl (k := 1) rfl (nI_inc _) (by decide) rfl (fun ls hl => ?_)
                          refine lv_goto (tgt := 131) X.1 X.2.1 dX12_runCommand_177 (by decide) ?_
                          exact ih131 ((10 * v + (c.getD t 0)) - 48) (t + 1) (by omega) (by omega) (by omega) (by rw [nmL, if_pos (by omega)] at hqn; rw [show 10 * v + c.getD t 0 - 48 = v * 10 + (c.getD t 0 - 48) by omega]; exact hqn) ls (lv_sub hl [0, 1, 2, 3, 4, 5, 6] rfl)
                        · have h4 := of_decide_eq_false c151
                          rw [nI_toInt (by omega)] at h4
                          refine lv_iconst (v := (-1)) X.1 X.2.1 dX12_runCommand_154 (by decide) ?_
                          exfalso
                          have h9 : paI c = (-1) := by rw [← hqn, nmL, if_neg (by omega)]
                          rw [hpa] at h9
                          have h8 := congrArg Int32.toInt h9
                          rw [nI_toInt (by omega)] at h8
                          have h7 : ((-1) : Int32).toInt = -1 := rfl
                          omega
                  exact L131 (c.length - (i + 1)) 0 (i + 1) (by omega) (by omega) (by omega) (by unfold paI; first | (rw [if_pos (by omega), show c.length - (i + 1) = 0 by omega]; rfl) | (rw [if_neg (by omega), if_neg (by omega), ← hce])) ls (lv_sub hl [0, 1, 2, 3, 4, 5, 6] rfl)
                · have h3 := of_decide_eq_false c118
                  rw [iI_toInt (by omega) (by omega)] at h3
                  refine lv_iconst (v := (-1)) X.1 X.2.1 dX12_runCommand_121 (by decide) ?_
                  exfalso
                  have h9 : paI c = (-1) := by unfold paI; rw [if_neg (by omega), if_pos (by omega)]
                  rw [hpa] at h9
                  have h8 := congrArg Int32.toInt h9
                  rw [nI_toInt (by omega)] at h8
                  have h7 : ((-1) : Int32).toInt = -1 := rfl
                  omega
            · exfalso; omega
        · refine lv_iinc (v := (nI (i + 1))) (lv' := [(2, .int (nI (i + 1))), (1, .int (nI c.length)), (0, .ref m0)]) X.1 X.2.1 dX12_runCommand_28 hl (k := 0) rfl (nI_inc _) (by decide) rfl (fun ls hl => ?_)
          refine lv_goto (tgt := 12) X.1 X.2.1 dX12_runCommand_31 (by decide) ?_
          exact ih12 (i + 1) (by omega) (by rw [firstL, isCol, decide_eq_false (by omega)] at hq; exact hq) ls (lv_sub hl [0, 1, 2] rfl)
  exact L12 c.length 0 (by omega) (rfl) ls (lv_sub hl [0, 1, 2] rfl)

set_option maxHeartbeats 4000000 in
set_option maxRecDepth 100000 in
theorem m_runCommand_no (g : G5) (adK adV : Nat → Nat) (fm : Value) (m0 : Nat) (lt : Nat) (er : Nat) (el : Nat) (cm_ : Nat) (sv : Nat) (md : Nat) (fmm : Nat) (lc : Nat) (lz : Nat) (af : Nat) (pt_ : Nat) (oc : Nat) (ty_ : Nat) (sz_ : Nat) (em : Nat) (k : Nat) (n : Nat) (s : List Nat) (h : List (List Nat)) (c : List Nat) (tk : Bool) (k0 : Nat) (n0 : Nat) (s0 : List Nat) (z : List Nat) (p : List Int) (B : Nat) (T : Nat) (fc : Nat → Int32) (hc : shp k n B T) (hcl : c.length ≤ 20) (hfc : rep fc c) (hbc : bch c) (hno : (kdI c).toInt = -6 ∨ (paI c).toInt = -1 ∨ (¬ (0 ≤ (kdI c).toInt ∧ (kdI c).toInt ≤ 3) ∨ ((kdI c).toInt = 3 ∧ ¬ (0 ≤ (paI c).toInt ∧ (paI c).toInt < (T : Int))))) : MuIE (S := (Nat → Int32)) yX12_runCommand cX12_runCommand 7 (some .int) 7 161 g adK adV fm [.ref m0] [(m0, .inr (11, [.int (nI k), .int (nI n), .ref lt, .int (nI s.length), .ref er, .ref el, .int (nI h.length), .ref cm_, .int (nI c.length), .int (bI tk), .int (nI k0), .int (nI n0), .ref sv, .int (nI s0.length), .ref md, .int (nI z.length), .ref fmm, .ref lc, .ref lz, .ref af, .ref pt_, .int (nI p.length), .ref oc, .ref ty_, .ref sz_, .ref em])), (cm_, .inl (g.2.1, 20, .inl fc))] (fun r fc1 => r = (if (kdI c).toInt = -6 then (-6) else (-1)) ∧ rep fc1 []) (fun fc1 => [(m0, .inr (11, [.int (nI k), .int (nI n), .ref lt, .int (nI s.length), .ref er, .ref el, .int (nI h.length), .ref cm_, .int (nI (([] : List Nat).length)), .int (bI tk), .int (nI k0), .int (nI n0), .ref sv, .int (nI s0.length), .ref md, .int (nI z.length), .ref fmm, .ref lc, .ref lz, .ref af, .ref pt_, .int (nI p.length), .ref oc, .ref ty_, .ref sz_, .ref em])), (cm_, .inl (g.2.1, 20, .inl fc1))]) := by
  refine MuIE.of (by decide +kernel) (Nat.le_of_ble_eq_true rfl) ?_
  intro p_ l_ e_ S_ m_ args below meth co X hr hlk hP hK A hA hD hS hE ls hl
  have X : CallFix p_ m_ co cX12_runCommand 7 S_ args lw_all RX12 := X
  have hl : lv_has ls 7 [(0, .ref m0)] := hl
  obtain ⟨hk2, hk4, hn1, hn6, hB, hT, hBT, hT2⟩ := hc.f
  have hB0 : 0 < B := by rw [hBT]; exact Nat.mul_pos (by omega) (by omega)
  have hcel := ceN_le c
  have hfn : rep fc [] := rep_nil
  refine lv_aload_n X.1 X.2.1 dX12_runCommand_0 rfl (lv_at hl 0 rfl) ?_
  refine va_get (D := g.1) (ci := 11) (v := .int (nI c.length)) (C := RX12) (T := TX12) (N := 26) X.1 X.2.1 X.2.2.2.2 iwX12 X.2.2.2.1 hK hP 0 rfl rfl 8 (by decide) (X.2.2.2.2 _ q1028) (fun _ h9 => h9) rfl dX12_runCommand_1 ?_
  refine lv_istore_n (lv' := [(1, .int (nI c.length)), (0, .ref m0)]) X.1 X.2.1 dX12_runCommand_4 rfl hl (by decide) rfl (fun ls hl => ?_)
  refine lv_aload_n X.1 X.2.1 dX12_runCommand_5 rfl (lv_at hl 1 rfl) ?_
  refine lv_iconst (v := (nI 0)) X.1 X.2.1 dX12_runCommand_6 (by decide) ?_
  refine va_put (D := g.1) (ci := 11) (v := .int (nI 0)) (ty := .int) (C := RX12) (T := TX12) (N := 26) X.1 X.2.1 X.2.2.2.2 iwX12 tyX12 tyX12_ok nmX12 X.2.2.2.1 hK hP hD hS 0 rfl rfl 8 (by decide) (X.2.2.2.2 _ q1028) (fun _ h9 => h9) rfl (by decide +kernel) rfl rfl (Nat.le_of_ble_eq_true rfl) dX12_runCommand_7 (fun H locs hP hD hS => ?_)
  have hP : PP g [(m0, .inr (11, [.int (nI k), .int (nI n), .ref lt, .int (nI s.length), .ref er, .ref el, .int (nI h.length), .ref cm_, .int (nI 0), .int (bI tk), .int (nI k0), .int (nI n0), .ref sv, .int (nI s0.length), .ref md, .int (nI z.length), .ref fmm, .ref lc, .ref lz, .ref af, .ref pt_, .int (nI p.length), .ref oc, .ref ty_, .ref sz_, .ref em])), (cm_, .inl (g.2.1, 20, .inl fc))] H := hP
  have hD : va_D A [(m0, .inr (11, [.int (nI k), .int (nI n), .ref lt, .int (nI s.length), .ref er, .ref el, .int (nI h.length), .ref cm_, .int (nI 0), .int (bI tk), .int (nI k0), .int (nI n0), .ref sv, .int (nI s0.length), .ref md, .int (nI z.length), .ref fmm, .ref lc, .ref lz, .ref af, .ref pt_, .int (nI p.length), .ref oc, .ref ty_, .ref sz_, .ref em])), (cm_, .inl (g.2.1, 20, .inl fc))] := hD
  have hP : PP g [(m0, .inr (11, [.int (nI k), .int (nI n), .ref lt, .int (nI s.length), .ref er, .ref el, .int (nI h.length), .ref cm_, .int (nI (([] : List Nat).length)), .int (bI tk), .int (nI k0), .int (nI n0), .ref sv, .int (nI s0.length), .ref md, .int (nI z.length), .ref fmm, .ref lc, .ref lz, .ref af, .ref pt_, .int (nI p.length), .ref oc, .ref ty_, .ref sz_, .ref em])), (cm_, .inl (g.2.1, 20, .inl fc))] H := by exact hP
  have hD : va_D A [(m0, .inr (11, [.int (nI k), .int (nI n), .ref lt, .int (nI s.length), .ref er, .ref el, .int (nI h.length), .ref cm_, .int (nI (([] : List Nat).length)), .int (bI tk), .int (nI k0), .int (nI n0), .ref sv, .int (nI s0.length), .ref md, .int (nI z.length), .ref fmm, .ref lc, .ref lz, .ref af, .ref pt_, .int (nI p.length), .ref oc, .ref ty_, .ref sz_, .ref em])), (cm_, .inl (g.2.1, 20, .inl fc))] := by exact hD
  refine lv_iconst (v := (nI 0)) X.1 X.2.1 dX12_runCommand_10 (by decide) ?_
  refine lv_istore_n (lv' := [(2, .int (nI 0)), (1, .int (nI c.length)), (0, .ref m0)]) X.1 X.2.1 dX12_runCommand_11 rfl hl (by decide) rfl (fun ls hl => ?_)
  have L12 : ∀ (r : Nat) (i : Nat) (h1 : i + r = c.length) (hq : (firstL (isCol c) r i).getD c.length = ceN c) (ls : Array Slot) (hl : lv_has ls 7 [(2, .int (nI i)), (1, .int (nI c.length)), (0, .ref m0)]), W p_ l_ e_ { frames := 7, cells := 0, slots := 0, locals := 161 } S_ m_ args below meth co H locs 0 0 (MQ below (va_Qi (S := (Nat → Int32)) (fun r fc1 => r = (if (kdI c).toInt = -6 then (-6) else (-1)) ∧ rep fc1 []) (MuB g A (fun fc1 => [(m0, .inr (11, [.int (nI k), .int (nI n), .ref lt, .int (nI s.length), .ref er, .ref el, .int (nI h.length), .ref cm_, .int (nI (([] : List Nat).length)), .int (bI tk), .int (nI k0), .int (nI n0), .ref sv, .int (nI s0.length), .ref md, .int (nI z.length), .ref fmm, .ref lc, .ref lz, .ref af, .ref pt_, .int (nI p.length), .ref oc, .ref ty_, .ref sz_, .ref em])), (cm_, .inl (g.2.1, 20, .inl fc1))])) A) args S_ 0 0 A) (F0 m_ 12 ls []) := by
    intro r
    induction r with
    | zero =>
      intro i h1 hq ls hl
      refine lv_iload_n X.1 X.2.1 dX12_runCommand_12 rfl (lv_at hl 0 rfl) ?_
      refine lv_iload_n X.1 X.2.1 dX12_runCommand_13 rfl (lv_at hl 1 rfl) ?_
      refine z_icmp_ge (tgt := 34) X dX12_runCommand_14 (by decide) (nI_toInt (by omega)) (nI_toInt (by omega)) (fun c14 => ?_) (fun c14 => ?_)
      · have hce : i = ceN c := by first | (have h9 : c.length = ceN c := hq; omega) | (rw [firstL, isCol, decide_eq_true (by omega)] at hq; exact hq)
        refine lv_aload_n X.1 X.2.1 dX12_runCommand_34 rfl (lv_at hl 2 rfl) ?_
        refine va_ldcS (q := adK 0) X.1 X.2.1 X.2.2.2.1 (hE.2.2.2.2.2.1) dX12_runCommand_35 ?_
        refine lv_iload_n X.1 X.2.1 dX12_runCommand_37 rfl (lv_at hl 0 rfl) ?_
        refine (m_begins g adK adV fm m0 lt er el cm_ sv md fmm lc lz af pt_ oc ty_ sz_ em k n s h ([] : List Nat) tk k0 n0 s0 z p fc c 0 i (by omega) (by assumption) (by assumption) (by omega) (hce)).callV (rest := []) X dX12_runCommand_38 q1208 tX12_begins hK (hP.sub [0, 1] rfl) ((hE.kept hS.2.1).narrow (fun _ h => h.elim)) (va_recv hK (hP.sub [0, 1] rfl) (ci := 11) (q0 := 0) rfl rfl) hl ⟨⟨Nat.le_of_ble_eq_true rfl, Nat.le_of_ble_eq_true rfl⟩, Nat.le_of_ble_eq_true rfl, Nat.le_of_ble_eq_true rfl⟩ rfl rfl (Nat.le_of_ble_eq_true rfl) ?_
        refine b_if_eq (tgt := 48) X dX12_runCommand_41 (by decide) (fun c41 => ?_) (fun c41 => ?_)
        · refine lv_aload_n X.1 X.2.1 dX12_runCommand_48 rfl (lv_at hl 2 rfl) ?_
          refine va_ldcS (q := adK 1) X.1 X.2.1 X.2.2.2.1 (hE.2.2.2.2.2.2.1) dX12_runCommand_49 ?_
          refine lv_iload_n X.1 X.2.1 dX12_runCommand_51 rfl (lv_at hl 0 rfl) ?_
          refine (m_begins g adK adV fm m0 lt er el cm_ sv md fmm lc lz af pt_ oc ty_ sz_ em k n s h ([] : List Nat) tk k0 n0 s0 z p fc c 1 i (by omega) (by assumption) (by assumption) (by omega) (hce)).callV (rest := []) X dX12_runCommand_52 q1208 tX12_begins hK (hP.sub [0, 1] rfl) ((hE.kept hS.2.1).narrow (fun _ h => h.elim)) (va_recv hK (hP.sub [0, 1] rfl) (ci := 11) (q0 := 0) rfl rfl) hl ⟨⟨Nat.le_of_ble_eq_true rfl, Nat.le_of_ble_eq_true rfl⟩, Nat.le_of_ble_eq_true rfl, Nat.le_of_ble_eq_true rfl⟩ rfl rfl (Nat.le_of_ble_eq_true rfl) ?_
          refine b_if_eq (tgt := 62) X dX12_runCommand_55 (by decide) (fun c55 => ?_) (fun c55 => ?_)
          · refine lv_aload_n X.1 X.2.1 dX12_runCommand_62 rfl (lv_at hl 2 rfl) ?_
            refine va_ldcS (q := adK 2) X.1 X.2.1 X.2.2.2.1 (hE.2.2.2.2.2.2.2.1) dX12_runCommand_63 ?_
            refine lv_iload_n X.1 X.2.1 dX12_runCommand_65 rfl (lv_at hl 0 rfl) ?_
            refine (m_begins g adK adV fm m0 lt er el cm_ sv md fmm lc lz af pt_ oc ty_ sz_ em k n s h ([] : List Nat) tk k0 n0 s0 z p fc c 2 i (by omega) (by assumption) (by assumption) (by omega) (hce)).callV (rest := []) X dX12_runCommand_66 q1208 tX12_begins hK (hP.sub [0, 1] rfl) ((hE.kept hS.2.1).narrow (fun _ h => h.elim)) (va_recv hK (hP.sub [0, 1] rfl) (ci := 11) (q0 := 0) rfl rfl) hl ⟨⟨Nat.le_of_ble_eq_true rfl, Nat.le_of_ble_eq_true rfl⟩, Nat.le_of_ble_eq_true rfl, Nat.le_of_ble_eq_true rfl⟩ rfl rfl (Nat.le_of_ble_eq_true rfl) ?_
            refine b_if_eq (tgt := 76) X dX12_runCommand_69 (by decide) (fun c69 => ?_) (fun c69 => ?_)
            · refine lv_aload_n X.1 X.2.1 dX12_runCommand_76 rfl (lv_at hl 2 rfl) ?_
              refine va_ldcS (q := adK 3) X.1 X.2.1 X.2.2.2.1 (hE.2.2.2.2.2.2.2.2) dX12_runCommand_77 ?_
              refine lv_iload_n X.1 X.2.1 dX12_runCommand_79 rfl (lv_at hl 0 rfl) ?_
              refine (m_begins g adK adV fm m0 lt er el cm_ sv md fmm lc lz af pt_ oc ty_ sz_ em k n s h ([] : List Nat) tk k0 n0 s0 z p fc c 3 i (by omega) (by assumption) (by assumption) (by omega) (hce)).callV (rest := []) X dX12_runCommand_80 q1208 tX12_begins hK (hP.sub [0, 1] rfl) ((hE.kept hS.2.1).narrow (fun _ h => h.elim)) (va_recv hK (hP.sub [0, 1] rfl) (ci := 11) (q0 := 0) rfl rfl) hl ⟨⟨Nat.le_of_ble_eq_true rfl, Nat.le_of_ble_eq_true rfl⟩, Nat.le_of_ble_eq_true rfl, Nat.le_of_ble_eq_true rfl⟩ rfl rfl (Nat.le_of_ble_eq_true rfl) ?_
              refine b_if_eq (tgt := 90) X dX12_runCommand_83 (by decide) (fun c83 => ?_) (fun c83 => ?_)
              · refine lv_iconst (v := (-1)) X.1 X.2.1 dX12_runCommand_90 (by decide) ?_
                have hk9 : kdI c = (-6) := by unfold kdI; simp [kdL, c41, c55, c69, c83]
                refine lv_istore_n (lv' := [(3, .int (-1)), (2, .int (nI i)), (1, .int (nI c.length)), (0, .ref m0)]) X.1 X.2.1 dX12_runCommand_91 rfl hl (by decide) rfl (fun ls hl => ?_)
                refine lv_iload_n X.1 X.2.1 dX12_runCommand_92 rfl (lv_at hl 0 rfl) ?_
                refine z_if_ge (tgt := 99) X dX12_runCommand_93 (by decide) (show Int32.toInt ((-1)) = (-1) from rfl) (fun c93 => ?_) (fun c93 => ?_)
                · exfalso; omega
                · refine lv_bipush (v := (-6)) X.1 X.2.1 dX12_runCommand_96 (by decide) ?_
                  exact MuI.ret X hr hlk hK hS dX12_runCommand_98 (nI_nar _) fc (hP.sub [0, 1] rfl) (hD.sub [0, 1] (by decide) rfl) (⟨by rw [hk9]; rfl, hfn⟩)
              · refine lv_iconst (v := (nI 3)) X.1 X.2.1 dX12_runCommand_86 (by decide) ?_
                refine lv_goto (tgt := 91) X.1 X.2.1 dX12_runCommand_87 (by decide) ?_
                have hk9 : kdI c = nI 3 := by unfold kdI; simp [kdL, c41, c55, c69, c83]
                refine lv_istore_n (lv' := [(3, .int (nI 3)), (2, .int (nI i)), (1, .int (nI c.length)), (0, .ref m0)]) X.1 X.2.1 dX12_runCommand_91 rfl hl (by decide) rfl (fun ls hl => ?_)
                refine lv_iload_n X.1 X.2.1 dX12_runCommand_92 rfl (lv_at hl 0 rfl) ?_
                refine z_if_ge (tgt := 99) X dX12_runCommand_93 (by decide) (nI_toInt (by omega)) (fun c93 => ?_) (fun c93 => ?_)
                · refine lv_iload_n X.1 X.2.1 dX12_runCommand_99 rfl (lv_at hl 2 rfl) ?_
                  refine lv_iload_n X.1 X.2.1 dX12_runCommand_100 rfl (lv_at hl 1 rfl) ?_
                  refine lv_isub X.1 X.2.1 dX12_runCommand_101 ?_
                  refine tp_i (y := (iI (((c.length : Nat) : Int) - ((i : Nat) : Int)))) (by first | rw [iI_sub] | rw [nI_iI, nI_iI, iI_sub] | rw [nI_iI, iI_sub]) ?_
                  refine lv_iconst (v := (nI 1)) X.1 X.2.1 dX12_runCommand_102 (by decide) ?_
                  refine lv_isub X.1 X.2.1 dX12_runCommand_103 ?_
                  refine tp_i (y := (iI ((((c.length : Nat) : Int) - ((i : Nat) : Int)) - ((1 : Nat) : Int)))) (by first | rw [iI_sub] | rw [nI_iI, nI_iI, iI_sub] | rw [nI_iI, iI_sub]) ?_
                  refine lv_istore (lv' := [(4, .int (iI ((((c.length : Nat) : Int) - ((i : Nat) : Int)) - ((1 : Nat) : Int)))), (3, .int (nI 3)), (2, .int (nI i)), (1, .int (nI c.length)), (0, .ref m0)]) X.1 X.2.1 dX12_runCommand_104 hl (by decide) rfl (fun ls hl => ?_)
                  refine lv_iload_n X.1 X.2.1 dX12_runCommand_106 rfl (lv_at hl 2 rfl) ?_
                  refine lv_iload_n X.1 X.2.1 dX12_runCommand_107 rfl (lv_at hl 3 rfl) ?_
                  refine z_icmp_ge (tgt := 123) X dX12_runCommand_108 (by decide) (nI_toInt (by omega)) (nI_toInt (by omega)) (fun c108 => ?_) (fun c108 => ?_)
                  · refine lv_iconst (v := (nI 0)) X.1 X.2.1 dX12_runCommand_123 (by decide) ?_
                    refine lv_istore (lv' := [(5, .int (nI 0)), (4, .int (iI ((((c.length : Nat) : Int) - ((i : Nat) : Int)) - ((1 : Nat) : Int)))), (3, .int (nI 3)), (2, .int (nI i)), (1, .int (nI c.length)), (0, .ref m0)]) X.1 X.2.1 dX12_runCommand_124 hl (by decide) rfl (fun ls hl => ?_)
                    refine lv_iload_n X.1 X.2.1 dX12_runCommand_126 rfl (lv_at hl 3 rfl) ?_
                    refine lv_iconst (v := (nI 1)) X.1 X.2.1 dX12_runCommand_127 (by decide) ?_
                    refine n_add X dX12_runCommand_128 ?_
                    refine lv_istore (lv' := [(6, .int (nI (i + 1))), (5, .int (nI 0)), (4, .int (iI ((((c.length : Nat) : Int) - ((i : Nat) : Int)) - ((1 : Nat) : Int)))), (3, .int (nI 3)), (2, .int (nI i)), (1, .int (nI c.length)), (0, .ref m0)]) X.1 X.2.1 dX12_runCommand_129 hl (by decide) rfl (fun ls hl => ?_)
                    have L131 : ∀ (rn : Nat) (v : Nat) (t : Nat) (h2 : t + rn = c.length ∨ (rn = 0 ∧ t = c.length + 1 ∧ i = c.length)) (hti : i < t) (hvb : (t = i + 1 ∧ v = 0) ∨ (t = i + 2 ∧ v < 10) ∨ (t = i + 3 ∧ v < 100) ∨ (t = i + 4 ∧ v < 1000)) (hqn : nmL c rn t v = paI c) (ls : Array Slot) (hl : lv_has ls 7 [(6, .int (nI t)), (5, .int (nI v)), (4, .int (iI ((((c.length : Nat) : Int) - ((i : Nat) : Int)) - ((1 : Nat) : Int)))), (3, .int (nI 3)), (2, .int (nI i)), (1, .int (nI c.length)), (0, .ref m0)]), W p_ l_ e_ { frames := 7, cells := 0, slots := 0, locals := 161 } S_ m_ args below meth co H locs 0 0 (MQ below (va_Qi (S := (Nat → Int32)) (fun r fc1 => r = (if (kdI c).toInt = -6 then (-6) else (-1)) ∧ rep fc1 []) (MuB g A (fun fc1 => [(m0, .inr (11, [.int (nI k), .int (nI n), .ref lt, .int (nI s.length), .ref er, .ref el, .int (nI h.length), .ref cm_, .int (nI (([] : List Nat).length)), .int (bI tk), .int (nI k0), .int (nI n0), .ref sv, .int (nI s0.length), .ref md, .int (nI z.length), .ref fmm, .ref lc, .ref lz, .ref af, .ref pt_, .int (nI p.length), .ref oc, .ref ty_, .ref sz_, .ref em])), (cm_, .inl (g.2.1, 20, .inl fc1))])) A) args S_ 0 0 A) (F0 m_ 131 ls []) := by
                      intro rn
                      induction rn with
                      | zero =>
                        intro v t h2 hti hvb hqn ls hl
                        refine lv_iload X.1 X.2.1 dX12_runCommand_131 (lv_at hl 0 rfl) ?_
                        refine lv_iload_n X.1 X.2.1 dX12_runCommand_133 rfl (lv_at hl 5 rfl) ?_
                        refine z_icmp_ge (tgt := 180) X dX12_runCommand_134 (by decide) (nI_toInt (by omega)) (nI_toInt (by omega)) (fun c134 => ?_) (fun c134 => ?_)
                        · refine lv_aload_n X.1 X.2.1 dX12_runCommand_180 rfl (lv_at hl 6 rfl) ?_
                          refine lv_iload_n X.1 X.2.1 dX12_runCommand_181 rfl (lv_at hl 3 rfl) ?_
                          refine lv_iload X.1 X.2.1 dX12_runCommand_182 (lv_at hl 1 rfl) ?_
                          have hv9 : nI v = paI c := hqn
                          have hno2 : ¬ (0 ≤ (nI 3).toInt ∧ (nI 3).toInt ≤ 3) ∨ ((nI 3).toInt = 3 ∧ ¬ (0 ≤ (nI v).toInt ∧ (nI v).toInt < (T : Int))) := rc_no hno hk9 hv9 (by decide) (by rw [nI_toInt (by omega)]; omega)
                          refine (m_construct_no g m0 lt er el cm_ sv md fmm lc lz af pt_ oc ty_ sz_ em k n s h ([] : List Nat) tk k0 n0 s0 z p B T (nI 3) (nI v) (by assumption) (hno2)).callV (rest := []) X dX12_runCommand_184 q1217 tX12_construct hK (hP.sub [0] rfl) 0 11 rfl rfl rfl hl ⟨⟨Nat.le_of_ble_eq_true rfl, Nat.le_of_ble_eq_true rfl⟩, Nat.le_of_ble_eq_true rfl, Nat.le_of_ble_eq_true rfl⟩ rfl rfl (Nat.le_of_ble_eq_true rfl) ?_
                          exact MuI.ret X hr hlk hK hS dX12_runCommand_187 (nI_nar _) fc (hP.sub [0, 1] rfl) (hD.sub [0, 1] (by decide) rfl) (⟨by rw [hk9, if_neg (by decide)], hfn⟩)
                        · exfalso; omega
                      | succ rn ih131 =>
                        intro v t h2 hti hvb hqn ls hl
                        refine lv_iload X.1 X.2.1 dX12_runCommand_131 (lv_at hl 0 rfl) ?_
                        refine lv_iload_n X.1 X.2.1 dX12_runCommand_133 rfl (lv_at hl 5 rfl) ?_
                        refine z_icmp_ge (tgt := 180) X dX12_runCommand_134 (by decide) (nI_toInt (by omega)) (nI_toInt (by omega)) (fun c134 => ?_) (fun c134 => ?_)
                        · exfalso; omega
                        · refine lv_aload_n X.1 X.2.1 dX12_runCommand_137 rfl (lv_at hl 6 rfl) ?_
                          refine va_get (D := g.1) (ci := 11) (v := .ref cm_) (C := RX12) (T := TX12) (N := 26) X.1 X.2.1 X.2.2.2.2 iwX12 X.2.2.2.1 hK hP 0 rfl rfl 7 (by decide) (X.2.2.2.2 _ q1027) (fun _ h9 => h9) rfl dX12_runCommand_138 ?_
                          refine lv_iload X.1 X.2.1 dX12_runCommand_141 (lv_at hl 0 rfl) ?_
                          refine n_iald X hK hP 1 0 rfl rfl (by omega) (by decide) dX12_runCommand_143 ?_
                          have hbt := hbc t
                          refine tp_i (y := (nI (c.getD t 0))) (hfc t (by omega)) ?_
                          refine lv_bipush (v := (nI 48)) X.1 X.2.1 dX12_runCommand_144 (by decide) ?_
                          refine lv_bipush (v := (nI 57)) X.1 X.2.1 dX12_runCommand_146 (by decide) ?_
                          refine (c_inN g (nI (c.getD t 0)) 48 57 (by omega) (by omega)).callS (rest := []) X dX12_runCommand_148 q1103 tX12_in hK (hP.sub [] rfl) hl ⟨⟨Nat.le_of_ble_eq_true rfl, Nat.le_of_ble_eq_true rfl⟩, Nat.le_of_ble_eq_true rfl, Nat.le_of_ble_eq_true rfl⟩ rfl rfl (Nat.le_of_ble_eq_true rfl) ?_
                          refine b_if_ne (tgt := 156) X dX12_runCommand_151 (by decide) (fun c151 => ?_) (fun c151 => ?_)
                          · have h4 := of_decide_eq_true c151
                            rw [nI_toInt (by omega)] at h4
                            refine lv_bipush (v := (nI 10)) X.1 X.2.1 dX12_runCommand_156 (by decide) ?_
                            refine lv_iload X.1 X.2.1 dX12_runCommand_158 (lv_at hl 1 rfl) ?_
                            refine n_mul X dX12_runCommand_160 ?_
                            refine lv_aload_n X.1 X.2.1 dX12_runCommand_161 rfl (lv_at hl 6 rfl) ?_
                            refine va_get (D := g.1) (ci := 11) (v := .ref cm_) (C := RX12) (T := TX12) (N := 26) X.1 X.2.1 X.2.2.2.2 iwX12 X.2.2.2.1 hK hP 0 rfl rfl 7 (by decide) (X.2.2.2.2 _ q1027) (fun _ h9 => h9) rfl dX12_runCommand_162 ?_
                            refine lv_iload X.1 X.2.1 dX12_runCommand_165 (lv_at hl 0 rfl) ?_
                            refine n_iald X hK hP 1 0 rfl rfl (by omega) (by decide) dX12_runCommand_167 ?_
                            refine tp_i (y := (nI (c.getD t 0))) (hfc t (by omega)) ?_
                            refine n_add X dX12_runCommand_168 ?_
                            refine lv_bipush (v := (nI 48)) X.1 X.2.1 dX12_runCommand_169 (by decide) ?_
                            refine n_sub X dX12_runCommand_171 (by omega) ?_
                            refine lv_istore (lv' := [(5, .int (nI ((10 * v + (c.getD t 0)) - 48))), (6, .int (nI t)), (4, .int (iI ((((c.length : Nat) : Int) - ((i : Nat) : Int)) - ((1 : Nat) : Int)))), (3, .int (nI 3)), (2, .int (nI i)), (1, .int (nI c.length)), (0, .ref m0)]) X.1 X.2.1 dX12_runCommand_172 hl (by decide) rfl (fun ls hl => ?_)
                            refine lv_iinc (v := (nI (t + 1))) (lv' := [(6, .int (nI (t + 1))), (5, .int (nI ((10 * v + (c.getD t 0)) - 48))), (4, .int (iI ((((c.length : Nat) : Int) - ((i : Nat) : Int)) - ((1 : Nat) : Int)))), (3, .int (nI 3)), (2, .int (nI i)), (1, .int (nI c.length)), (0, .ref m0)]) X.1 X.2.1 dX12_runCommand_174 hl (k := 1) rfl (nI_inc _) (by decide) rfl (fun ls hl => ?_)
                            refine lv_goto (tgt := 131) X.1 X.2.1 dX12_runCommand_177 (by decide) ?_
                            exact ih131 ((10 * v + (c.getD t 0)) - 48) (t + 1) (by omega) (by omega) (by omega) (by rw [nmL, if_pos (by omega)] at hqn; rw [show 10 * v + c.getD t 0 - 48 = v * 10 + (c.getD t 0 - 48) by omega]; exact hqn) ls (lv_sub hl [0, 1, 2, 3, 4, 5, 6] rfl)
                          · have h4 := of_decide_eq_false c151
                            rw [nI_toInt (by omega)] at h4
                            refine lv_iconst (v := (-1)) X.1 X.2.1 dX12_runCommand_154 (by decide) ?_
                            exact MuI.ret X hr hlk hK hS dX12_runCommand_155 (nI_nar _) fc (hP.sub [0, 1] rfl) (hD.sub [0, 1] (by decide) rfl) (⟨by rw [hk9, if_neg (by decide)], hfn⟩)
                    exact L131 (c.length - (i + 1)) 0 (i + 1) (by omega) (by omega) (by omega) (by unfold paI; first | (rw [if_pos (by omega), show c.length - (i + 1) = 0 by omega]; rfl) | (rw [if_neg (by omega), if_neg (by omega), ← hce])) ls (lv_sub hl [0, 1, 2, 3, 4, 5, 6] rfl)
                  · refine lv_iload X.1 X.2.1 dX12_runCommand_111 (lv_at hl 0 rfl) ?_
                    refine lv_iconst (v := (nI 1)) X.1 X.2.1 dX12_runCommand_113 (by decide) ?_
                    refine lv_iconst (v := (nI 3)) X.1 X.2.1 dX12_runCommand_114 (by decide) ?_
                    refine (c_inN g (iI ((((c.length : Nat) : Int) - ((i : Nat) : Int)) - ((1 : Nat) : Int))) 1 3 (by omega) (by omega)).callS (rest := []) X dX12_runCommand_115 q1103 tX12_in hK (hP.sub [] rfl) hl ⟨⟨Nat.le_of_ble_eq_true rfl, Nat.le_of_ble_eq_true rfl⟩, Nat.le_of_ble_eq_true rfl, Nat.le_of_ble_eq_true rfl⟩ rfl rfl (Nat.le_of_ble_eq_true rfl) ?_
                    refine b_if_ne (tgt := 123) X dX12_runCommand_118 (by decide) (fun c118 => ?_) (fun c118 => ?_)
                    · have h3 := of_decide_eq_true c118
                      rw [iI_toInt (by omega) (by omega)] at h3
                      refine lv_iconst (v := (nI 0)) X.1 X.2.1 dX12_runCommand_123 (by decide) ?_
                      refine lv_istore (lv' := [(5, .int (nI 0)), (4, .int (iI ((((c.length : Nat) : Int) - ((i : Nat) : Int)) - ((1 : Nat) : Int)))), (3, .int (nI 3)), (2, .int (nI i)), (1, .int (nI c.length)), (0, .ref m0)]) X.1 X.2.1 dX12_runCommand_124 hl (by decide) rfl (fun ls hl => ?_)
                      refine lv_iload_n X.1 X.2.1 dX12_runCommand_126 rfl (lv_at hl 3 rfl) ?_
                      refine lv_iconst (v := (nI 1)) X.1 X.2.1 dX12_runCommand_127 (by decide) ?_
                      refine n_add X dX12_runCommand_128 ?_
                      refine lv_istore (lv' := [(6, .int (nI (i + 1))), (5, .int (nI 0)), (4, .int (iI ((((c.length : Nat) : Int) - ((i : Nat) : Int)) - ((1 : Nat) : Int)))), (3, .int (nI 3)), (2, .int (nI i)), (1, .int (nI c.length)), (0, .ref m0)]) X.1 X.2.1 dX12_runCommand_129 hl (by decide) rfl (fun ls hl => ?_)
                      have L131 : ∀ (rn : Nat) (v : Nat) (t : Nat) (h2 : t + rn = c.length ∨ (rn = 0 ∧ t = c.length + 1 ∧ i = c.length)) (hti : i < t) (hvb : (t = i + 1 ∧ v = 0) ∨ (t = i + 2 ∧ v < 10) ∨ (t = i + 3 ∧ v < 100) ∨ (t = i + 4 ∧ v < 1000)) (hqn : nmL c rn t v = paI c) (ls : Array Slot) (hl : lv_has ls 7 [(6, .int (nI t)), (5, .int (nI v)), (4, .int (iI ((((c.length : Nat) : Int) - ((i : Nat) : Int)) - ((1 : Nat) : Int)))), (3, .int (nI 3)), (2, .int (nI i)), (1, .int (nI c.length)), (0, .ref m0)]), W p_ l_ e_ { frames := 7, cells := 0, slots := 0, locals := 161 } S_ m_ args below meth co H locs 0 0 (MQ below (va_Qi (S := (Nat → Int32)) (fun r fc1 => r = (if (kdI c).toInt = -6 then (-6) else (-1)) ∧ rep fc1 []) (MuB g A (fun fc1 => [(m0, .inr (11, [.int (nI k), .int (nI n), .ref lt, .int (nI s.length), .ref er, .ref el, .int (nI h.length), .ref cm_, .int (nI (([] : List Nat).length)), .int (bI tk), .int (nI k0), .int (nI n0), .ref sv, .int (nI s0.length), .ref md, .int (nI z.length), .ref fmm, .ref lc, .ref lz, .ref af, .ref pt_, .int (nI p.length), .ref oc, .ref ty_, .ref sz_, .ref em])), (cm_, .inl (g.2.1, 20, .inl fc1))])) A) args S_ 0 0 A) (F0 m_ 131 ls []) := by
                        intro rn
                        induction rn with
                        | zero =>
                          intro v t h2 hti hvb hqn ls hl
                          refine lv_iload X.1 X.2.1 dX12_runCommand_131 (lv_at hl 0 rfl) ?_
                          refine lv_iload_n X.1 X.2.1 dX12_runCommand_133 rfl (lv_at hl 5 rfl) ?_
                          refine z_icmp_ge (tgt := 180) X dX12_runCommand_134 (by decide) (nI_toInt (by omega)) (nI_toInt (by omega)) (fun c134 => ?_) (fun c134 => ?_)
                          · refine lv_aload_n X.1 X.2.1 dX12_runCommand_180 rfl (lv_at hl 6 rfl) ?_
                            refine lv_iload_n X.1 X.2.1 dX12_runCommand_181 rfl (lv_at hl 3 rfl) ?_
                            refine lv_iload X.1 X.2.1 dX12_runCommand_182 (lv_at hl 1 rfl) ?_
                            have hv9 : nI v = paI c := hqn
                            have hno2 : ¬ (0 ≤ (nI 3).toInt ∧ (nI 3).toInt ≤ 3) ∨ ((nI 3).toInt = 3 ∧ ¬ (0 ≤ (nI v).toInt ∧ (nI v).toInt < (T : Int))) := rc_no hno hk9 hv9 (by decide) (by rw [nI_toInt (by omega)]; omega)
                            refine (m_construct_no g m0 lt er el cm_ sv md fmm lc lz af pt_ oc ty_ sz_ em k n s h ([] : List Nat) tk k0 n0 s0 z p B T (nI 3) (nI v) (by assumption) (hno2)).callV (rest := []) X dX12_runCommand_184 q1217 tX12_construct hK (hP.sub [0] rfl) 0 11 rfl rfl rfl hl ⟨⟨Nat.le_of_ble_eq_true rfl, Nat.le_of_ble_eq_true rfl⟩, Nat.le_of_ble_eq_true rfl, Nat.le_of_ble_eq_true rfl⟩ rfl rfl (Nat.le_of_ble_eq_true rfl) ?_
                            exact MuI.ret X hr hlk hK hS dX12_runCommand_187 (nI_nar _) fc (hP.sub [0, 1] rfl) (hD.sub [0, 1] (by decide) rfl) (⟨by rw [hk9, if_neg (by decide)], hfn⟩)
                          · exfalso; omega
                        | succ rn ih131 =>
                          intro v t h2 hti hvb hqn ls hl
                          refine lv_iload X.1 X.2.1 dX12_runCommand_131 (lv_at hl 0 rfl) ?_
                          refine lv_iload_n X.1 X.2.1 dX12_runCommand_133 rfl (lv_at hl 5 rfl) ?_
                          refine z_icmp_ge (tgt := 180) X dX12_runCommand_134 (by decide) (nI_toInt (by omega)) (nI_toInt (by omega)) (fun c134 => ?_) (fun c134 => ?_)
                          · exfalso; omega
                          · refine lv_aload_n X.1 X.2.1 dX12_runCommand_137 rfl (lv_at hl 6 rfl) ?_
                            refine va_get (D := g.1) (ci := 11) (v := .ref cm_) (C := RX12) (T := TX12) (N := 26) X.1 X.2.1 X.2.2.2.2 iwX12 X.2.2.2.1 hK hP 0 rfl rfl 7 (by decide) (X.2.2.2.2 _ q1027) (fun _ h9 => h9) rfl dX12_runCommand_138 ?_
                            refine lv_iload X.1 X.2.1 dX12_runCommand_141 (lv_at hl 0 rfl) ?_
                            refine n_iald X hK hP 1 0 rfl rfl (by omega) (by decide) dX12_runCommand_143 ?_
                            have hbt := hbc t
                            refine tp_i (y := (nI (c.getD t 0))) (hfc t (by omega)) ?_
                            refine lv_bipush (v := (nI 48)) X.1 X.2.1 dX12_runCommand_144 (by decide) ?_
                            refine lv_bipush (v := (nI 57)) X.1 X.2.1 dX12_runCommand_146 (by decide) ?_
                            refine (c_inN g (nI (c.getD t 0)) 48 57 (by omega) (by omega)).callS (rest := []) X dX12_runCommand_148 q1103 tX12_in hK (hP.sub [] rfl) hl ⟨⟨Nat.le_of_ble_eq_true rfl, Nat.le_of_ble_eq_true rfl⟩, Nat.le_of_ble_eq_true rfl, Nat.le_of_ble_eq_true rfl⟩ rfl rfl (Nat.le_of_ble_eq_true rfl) ?_
                            refine b_if_ne (tgt := 156) X dX12_runCommand_151 (by decide) (fun c151 => ?_) (fun c151 => ?_)
                            · have h4 := of_decide_eq_true c151
                              rw [nI_toInt (by omega)] at h4
                              refine lv_bipush (v := (nI 10)) X.1 X.2.1 dX12_runCommand_156 (by decide) ?_
                              refine lv_iload X.1 X.2.1 dX12_runCommand_158 (lv_at hl 1 rfl) ?_
                              refine n_mul X dX12_runCommand_160 ?_
                              refine lv_aload_n X.1 X.2.1 dX12_runCommand_161 rfl (lv_at hl 6 rfl) ?_
                              refine va_get (D := g.1) (ci := 11) (v := .ref cm_) (C := RX12) (T := TX12) (N := 26) X.1 X.2.1 X.2.2.2.2 iwX12 X.2.2.2.1 hK hP 0 rfl rfl 7 (by decide) (X.2.2.2.2 _ q1027) (fun _ h9 => h9) rfl dX12_runCommand_162 ?_
                              refine lv_iload X.1 X.2.1 dX12_runCommand_165 (lv_at hl 0 rfl) ?_
                              refine n_iald X hK hP 1 0 rfl rfl (by omega) (by decide) dX12_runCommand_167 ?_
                              refine tp_i (y := (nI (c.getD t 0))) (hfc t (by omega)) ?_
                              refine n_add X dX12_runCommand_168 ?_
                              refine lv_bipush (v := (nI 48)) X.1 X.2.1 dX12_runCommand_169 (by decide) ?_
                              refine n_sub X dX12_runCommand_171 (by omega) ?_
                              refine lv_istore (lv' := [(5, .int (nI ((10 * v + (c.getD t 0)) - 48))), (6, .int (nI t)), (4, .int (iI ((((c.length : Nat) : Int) - ((i : Nat) : Int)) - ((1 : Nat) : Int)))), (3, .int (nI 3)), (2, .int (nI i)), (1, .int (nI c.length)), (0, .ref m0)]) X.1 X.2.1 dX12_runCommand_172 hl (by decide) rfl (fun ls hl => ?_)
                              refine lv_iinc (v := (nI (t + 1))) (lv' := [(6, .int (nI (t + 1))), (5, .int (nI ((10 * v + (c.getD t 0)) - 48))), (4, .int (iI ((((c.length : Nat) : Int) - ((i : Nat) : Int)) - ((1 : Nat) : Int)))), (3, .int (nI 3)), (2, .int (nI i)), (1, .int (nI c.length)), (0, .ref m0)]) X.1 X.2.1 dX12_runCommand_174 hl (k := 1) rfl (nI_inc _) (by decide) rfl (fun ls hl => ?_)
                              refine lv_goto (tgt := 131) X.1 X.2.1 dX12_runCommand_177 (by decide) ?_
                              exact ih131 ((10 * v + (c.getD t 0)) - 48) (t + 1) (by omega) (by omega) (by omega) (by rw [nmL, if_pos (by omega)] at hqn; rw [show 10 * v + c.getD t 0 - 48 = v * 10 + (c.getD t 0 - 48) by omega]; exact hqn) ls (lv_sub hl [0, 1, 2, 3, 4, 5, 6] rfl)
                            · have h4 := of_decide_eq_false c151
                              rw [nI_toInt (by omega)] at h4
                              refine lv_iconst (v := (-1)) X.1 X.2.1 dX12_runCommand_154 (by decide) ?_
                              exact MuI.ret X hr hlk hK hS dX12_runCommand_155 (nI_nar _) fc (hP.sub [0, 1] rfl) (hD.sub [0, 1] (by decide) rfl) (⟨by rw [hk9, if_neg (by decide)], hfn⟩)
                      exact L131 (c.length - (i + 1)) 0 (i + 1) (by omega) (by omega) (by omega) (by unfold paI; first | (rw [if_pos (by omega), show c.length - (i + 1) = 0 by omega]; rfl) | (rw [if_neg (by omega), if_neg (by omega), ← hce])) ls (lv_sub hl [0, 1, 2, 3, 4, 5, 6] rfl)
                    · have h3 := of_decide_eq_false c118
                      rw [iI_toInt (by omega) (by omega)] at h3
                      refine lv_iconst (v := (-1)) X.1 X.2.1 dX12_runCommand_121 (by decide) ?_
                      exact MuI.ret X hr hlk hK hS dX12_runCommand_122 (nI_nar _) fc (hP.sub [0, 1] rfl) (hD.sub [0, 1] (by decide) rfl) (⟨by rw [hk9, if_neg (by decide)], hfn⟩)
                · exfalso; omega
            · refine lv_iconst (v := (nI 2)) X.1 X.2.1 dX12_runCommand_72 (by decide) ?_
              refine lv_goto (tgt := 91) X.1 X.2.1 dX12_runCommand_73 (by decide) ?_
              have hk9 : kdI c = nI 2 := by unfold kdI; simp [kdL, c41, c55, c69]
              refine lv_istore_n (lv' := [(3, .int (nI 2)), (2, .int (nI i)), (1, .int (nI c.length)), (0, .ref m0)]) X.1 X.2.1 dX12_runCommand_91 rfl hl (by decide) rfl (fun ls hl => ?_)
              refine lv_iload_n X.1 X.2.1 dX12_runCommand_92 rfl (lv_at hl 0 rfl) ?_
              refine z_if_ge (tgt := 99) X dX12_runCommand_93 (by decide) (nI_toInt (by omega)) (fun c93 => ?_) (fun c93 => ?_)
              · refine lv_iload_n X.1 X.2.1 dX12_runCommand_99 rfl (lv_at hl 2 rfl) ?_
                refine lv_iload_n X.1 X.2.1 dX12_runCommand_100 rfl (lv_at hl 1 rfl) ?_
                refine lv_isub X.1 X.2.1 dX12_runCommand_101 ?_
                refine tp_i (y := (iI (((c.length : Nat) : Int) - ((i : Nat) : Int)))) (by first | rw [iI_sub] | rw [nI_iI, nI_iI, iI_sub] | rw [nI_iI, iI_sub]) ?_
                refine lv_iconst (v := (nI 1)) X.1 X.2.1 dX12_runCommand_102 (by decide) ?_
                refine lv_isub X.1 X.2.1 dX12_runCommand_103 ?_
                refine tp_i (y := (iI ((((c.length : Nat) : Int) - ((i : Nat) : Int)) - ((1 : Nat) : Int)))) (by first | rw [iI_sub] | rw [nI_iI, nI_iI, iI_sub] | rw [nI_iI, iI_sub]) ?_
                refine lv_istore (lv' := [(4, .int (iI ((((c.length : Nat) : Int) - ((i : Nat) : Int)) - ((1 : Nat) : Int)))), (3, .int (nI 2)), (2, .int (nI i)), (1, .int (nI c.length)), (0, .ref m0)]) X.1 X.2.1 dX12_runCommand_104 hl (by decide) rfl (fun ls hl => ?_)
                refine lv_iload_n X.1 X.2.1 dX12_runCommand_106 rfl (lv_at hl 2 rfl) ?_
                refine lv_iload_n X.1 X.2.1 dX12_runCommand_107 rfl (lv_at hl 3 rfl) ?_
                refine z_icmp_ge (tgt := 123) X dX12_runCommand_108 (by decide) (nI_toInt (by omega)) (nI_toInt (by omega)) (fun c108 => ?_) (fun c108 => ?_)
                · refine lv_iconst (v := (nI 0)) X.1 X.2.1 dX12_runCommand_123 (by decide) ?_
                  refine lv_istore (lv' := [(5, .int (nI 0)), (4, .int (iI ((((c.length : Nat) : Int) - ((i : Nat) : Int)) - ((1 : Nat) : Int)))), (3, .int (nI 2)), (2, .int (nI i)), (1, .int (nI c.length)), (0, .ref m0)]) X.1 X.2.1 dX12_runCommand_124 hl (by decide) rfl (fun ls hl => ?_)
                  refine lv_iload_n X.1 X.2.1 dX12_runCommand_126 rfl (lv_at hl 3 rfl) ?_
                  refine lv_iconst (v := (nI 1)) X.1 X.2.1 dX12_runCommand_127 (by decide) ?_
                  refine n_add X dX12_runCommand_128 ?_
                  refine lv_istore (lv' := [(6, .int (nI (i + 1))), (5, .int (nI 0)), (4, .int (iI ((((c.length : Nat) : Int) - ((i : Nat) : Int)) - ((1 : Nat) : Int)))), (3, .int (nI 2)), (2, .int (nI i)), (1, .int (nI c.length)), (0, .ref m0)]) X.1 X.2.1 dX12_runCommand_129 hl (by decide) rfl (fun ls hl => ?_)
                  have L131 : ∀ (rn : Nat) (v : Nat) (t : Nat) (h2 : t + rn = c.length ∨ (rn = 0 ∧ t = c.length + 1 ∧ i = c.length)) (hti : i < t) (hvb : (t = i + 1 ∧ v = 0) ∨ (t = i + 2 ∧ v < 10) ∨ (t = i + 3 ∧ v < 100) ∨ (t = i + 4 ∧ v < 1000)) (hqn : nmL c rn t v = paI c) (ls : Array Slot) (hl : lv_has ls 7 [(6, .int (nI t)), (5, .int (nI v)), (4, .int (iI ((((c.length : Nat) : Int) - ((i : Nat) : Int)) - ((1 : Nat) : Int)))), (3, .int (nI 2)), (2, .int (nI i)), (1, .int (nI c.length)), (0, .ref m0)]), W p_ l_ e_ { frames := 7, cells := 0, slots := 0, locals := 161 } S_ m_ args below meth co H locs 0 0 (MQ below (va_Qi (S := (Nat → Int32)) (fun r fc1 => r = (if (kdI c).toInt = -6 then (-6) else (-1)) ∧ rep fc1 []) (MuB g A (fun fc1 => [(m0, .inr (11, [.int (nI k), .int (nI n), .ref lt, .int (nI s.length), .ref er, .ref el, .int (nI h.length), .ref cm_, .int (nI (([] : List Nat).length)), .int (bI tk), .int (nI k0), .int (nI n0), .ref sv, .int (nI s0.length), .ref md, .int (nI z.length), .ref fmm, .ref lc, .ref lz, .ref af, .ref pt_, .int (nI p.length), .ref oc, .ref ty_, .ref sz_, .ref em])), (cm_, .inl (g.2.1, 20, .inl fc1))])) A) args S_ 0 0 A) (F0 m_ 131 ls []) := by
                    intro rn
                    induction rn with
                    | zero =>
                      intro v t h2 hti hvb hqn ls hl
                      refine lv_iload X.1 X.2.1 dX12_runCommand_131 (lv_at hl 0 rfl) ?_
                      refine lv_iload_n X.1 X.2.1 dX12_runCommand_133 rfl (lv_at hl 5 rfl) ?_
                      refine z_icmp_ge (tgt := 180) X dX12_runCommand_134 (by decide) (nI_toInt (by omega)) (nI_toInt (by omega)) (fun c134 => ?_) (fun c134 => ?_)
                      · refine lv_aload_n X.1 X.2.1 dX12_runCommand_180 rfl (lv_at hl 6 rfl) ?_
                        refine lv_iload_n X.1 X.2.1 dX12_runCommand_181 rfl (lv_at hl 3 rfl) ?_
                        refine lv_iload X.1 X.2.1 dX12_runCommand_182 (lv_at hl 1 rfl) ?_
                        have hv9 : nI v = paI c := hqn
                        have hno2 : ¬ (0 ≤ (nI 2).toInt ∧ (nI 2).toInt ≤ 3) ∨ ((nI 2).toInt = 3 ∧ ¬ (0 ≤ (nI v).toInt ∧ (nI v).toInt < (T : Int))) := rc_no hno hk9 hv9 (by decide) (by rw [nI_toInt (by omega)]; omega)
                        refine (m_construct_no g m0 lt er el cm_ sv md fmm lc lz af pt_ oc ty_ sz_ em k n s h ([] : List Nat) tk k0 n0 s0 z p B T (nI 2) (nI v) (by assumption) (hno2)).callV (rest := []) X dX12_runCommand_184 q1217 tX12_construct hK (hP.sub [0] rfl) 0 11 rfl rfl rfl hl ⟨⟨Nat.le_of_ble_eq_true rfl, Nat.le_of_ble_eq_true rfl⟩, Nat.le_of_ble_eq_true rfl, Nat.le_of_ble_eq_true rfl⟩ rfl rfl (Nat.le_of_ble_eq_true rfl) ?_
                        exact MuI.ret X hr hlk hK hS dX12_runCommand_187 (nI_nar _) fc (hP.sub [0, 1] rfl) (hD.sub [0, 1] (by decide) rfl) (⟨by rw [hk9, if_neg (by decide)], hfn⟩)
                      · exfalso; omega
                    | succ rn ih131 =>
                      intro v t h2 hti hvb hqn ls hl
                      refine lv_iload X.1 X.2.1 dX12_runCommand_131 (lv_at hl 0 rfl) ?_
                      refine lv_iload_n X.1 X.2.1 dX12_runCommand_133 rfl (lv_at hl 5 rfl) ?_
                      refine z_icmp_ge (tgt := 180) X dX12_runCommand_134 (by decide) (nI_toInt (by omega)) (nI_toInt (by omega)) (fun c134 => ?_) (fun c134 => ?_)
                      · exfalso; omega
                      · refine lv_aload_n X.1 X.2.1 dX12_runCommand_137 rfl (lv_at hl 6 rfl) ?_
                        refine va_get (D := g.1) (ci := 11) (v := .ref cm_) (C := RX12) (T := TX12) (N := 26) X.1 X.2.1 X.2.2.2.2 iwX12 X.2.2.2.1 hK hP 0 rfl rfl 7 (by decide) (X.2.2.2.2 _ q1027) (fun _ h9 => h9) rfl dX12_runCommand_138 ?_
                        refine lv_iload X.1 X.2.1 dX12_runCommand_141 (lv_at hl 0 rfl) ?_
                        refine n_iald X hK hP 1 0 rfl rfl (by omega) (by decide) dX12_runCommand_143 ?_
                        have hbt := hbc t
                        refine tp_i (y := (nI (c.getD t 0))) (hfc t (by omega)) ?_
                        refine lv_bipush (v := (nI 48)) X.1 X.2.1 dX12_runCommand_144 (by decide) ?_
                        refine lv_bipush (v := (nI 57)) X.1 X.2.1 dX12_runCommand_146 (by decide) ?_
                        refine (c_inN g (nI (c.getD t 0)) 48 57 (by omega) (by omega)).callS (rest := []) X dX12_runCommand_148 q1103 tX12_in hK (hP.sub [] rfl) hl ⟨⟨Nat.le_of_ble_eq_true rfl, Nat.le_of_ble_eq_true rfl⟩, Nat.le_of_ble_eq_true rfl, Nat.le_of_ble_eq_true rfl⟩ rfl rfl (Nat.le_of_ble_eq_true rfl) ?_
                        refine b_if_ne (tgt := 156) X dX12_runCommand_151 (by decide) (fun c151 => ?_) (fun c151 => ?_)
                        · have h4 := of_decide_eq_true c151
                          rw [nI_toInt (by omega)] at h4
                          refine lv_bipush (v := (nI 10)) X.1 X.2.1 dX12_runCommand_156 (by decide) ?_
                          refine lv_iload X.1 X.2.1 dX12_runCommand_158 (lv_at hl 1 rfl) ?_
                          refine n_mul X dX12_runCommand_160 ?_
                          refine lv_aload_n X.1 X.2.1 dX12_runCommand_161 rfl (lv_at hl 6 rfl) ?_
                          refine va_get (D := g.1) (ci := 11) (v := .ref cm_) (C := RX12) (T := TX12) (N := 26) X.1 X.2.1 X.2.2.2.2 iwX12 X.2.2.2.1 hK hP 0 rfl rfl 7 (by decide) (X.2.2.2.2 _ q1027) (fun _ h9 => h9) rfl dX12_runCommand_162 ?_
                          refine lv_iload X.1 X.2.1 dX12_runCommand_165 (lv_at hl 0 rfl) ?_
                          refine n_iald X hK hP 1 0 rfl rfl (by omega) (by decide) dX12_runCommand_167 ?_
                          refine tp_i (y := (nI (c.getD t 0))) (hfc t (by omega)) ?_
                          refine n_add X dX12_runCommand_168 ?_
                          refine lv_bipush (v := (nI 48)) X.1 X.2.1 dX12_runCommand_169 (by decide) ?_
                          refine n_sub X dX12_runCommand_171 (by omega) ?_
                          refine lv_istore (lv' := [(5, .int (nI ((10 * v + (c.getD t 0)) - 48))), (6, .int (nI t)), (4, .int (iI ((((c.length : Nat) : Int) - ((i : Nat) : Int)) - ((1 : Nat) : Int)))), (3, .int (nI 2)), (2, .int (nI i)), (1, .int (nI c.length)), (0, .ref m0)]) X.1 X.2.1 dX12_runCommand_172 hl (by decide) rfl (fun ls hl => ?_)
                          refine lv_iinc (v := (nI (t + 1))) (lv' := [(6, .int (nI (t + 1))), (5, .int (nI ((10 * v + (c.getD t 0)) - 48))), (4, .int (iI ((((c.length : Nat) : Int) - ((i : Nat) : Int)) - ((1 : Nat) : Int)))), (3, .int (nI 2)), (2, .int (nI i)), (1, .int (nI c.length)), (0, .ref m0)]) X.1 X.2.1 dX12_runCommand_174 hl (k := 1) rfl (nI_inc _) (by decide) rfl (fun ls hl => ?_)
                          refine lv_goto (tgt := 131) X.1 X.2.1 dX12_runCommand_177 (by decide) ?_
                          exact ih131 ((10 * v + (c.getD t 0)) - 48) (t + 1) (by omega) (by omega) (by omega) (by rw [nmL, if_pos (by omega)] at hqn; rw [show 10 * v + c.getD t 0 - 48 = v * 10 + (c.getD t 0 - 48) by omega]; exact hqn) ls (lv_sub hl [0, 1, 2, 3, 4, 5, 6] rfl)
                        · have h4 := of_decide_eq_false c151
                          rw [nI_toInt (by omega)] at h4
                          refine lv_iconst (v := (-1)) X.1 X.2.1 dX12_runCommand_154 (by decide) ?_
                          exact MuI.ret X hr hlk hK hS dX12_runCommand_155 (nI_nar _) fc (hP.sub [0, 1] rfl) (hD.sub [0, 1] (by decide) rfl) (⟨by rw [hk9, if_neg (by decide)], hfn⟩)
                  exact L131 (c.length - (i + 1)) 0 (i + 1) (by omega) (by omega) (by omega) (by unfold paI; first | (rw [if_pos (by omega), show c.length - (i + 1) = 0 by omega]; rfl) | (rw [if_neg (by omega), if_neg (by omega), ← hce])) ls (lv_sub hl [0, 1, 2, 3, 4, 5, 6] rfl)
                · refine lv_iload X.1 X.2.1 dX12_runCommand_111 (lv_at hl 0 rfl) ?_
                  refine lv_iconst (v := (nI 1)) X.1 X.2.1 dX12_runCommand_113 (by decide) ?_
                  refine lv_iconst (v := (nI 3)) X.1 X.2.1 dX12_runCommand_114 (by decide) ?_
                  refine (c_inN g (iI ((((c.length : Nat) : Int) - ((i : Nat) : Int)) - ((1 : Nat) : Int))) 1 3 (by omega) (by omega)).callS (rest := []) X dX12_runCommand_115 q1103 tX12_in hK (hP.sub [] rfl) hl ⟨⟨Nat.le_of_ble_eq_true rfl, Nat.le_of_ble_eq_true rfl⟩, Nat.le_of_ble_eq_true rfl, Nat.le_of_ble_eq_true rfl⟩ rfl rfl (Nat.le_of_ble_eq_true rfl) ?_
                  refine b_if_ne (tgt := 123) X dX12_runCommand_118 (by decide) (fun c118 => ?_) (fun c118 => ?_)
                  · have h3 := of_decide_eq_true c118
                    rw [iI_toInt (by omega) (by omega)] at h3
                    refine lv_iconst (v := (nI 0)) X.1 X.2.1 dX12_runCommand_123 (by decide) ?_
                    refine lv_istore (lv' := [(5, .int (nI 0)), (4, .int (iI ((((c.length : Nat) : Int) - ((i : Nat) : Int)) - ((1 : Nat) : Int)))), (3, .int (nI 2)), (2, .int (nI i)), (1, .int (nI c.length)), (0, .ref m0)]) X.1 X.2.1 dX12_runCommand_124 hl (by decide) rfl (fun ls hl => ?_)
                    refine lv_iload_n X.1 X.2.1 dX12_runCommand_126 rfl (lv_at hl 3 rfl) ?_
                    refine lv_iconst (v := (nI 1)) X.1 X.2.1 dX12_runCommand_127 (by decide) ?_
                    refine n_add X dX12_runCommand_128 ?_
                    refine lv_istore (lv' := [(6, .int (nI (i + 1))), (5, .int (nI 0)), (4, .int (iI ((((c.length : Nat) : Int) - ((i : Nat) : Int)) - ((1 : Nat) : Int)))), (3, .int (nI 2)), (2, .int (nI i)), (1, .int (nI c.length)), (0, .ref m0)]) X.1 X.2.1 dX12_runCommand_129 hl (by decide) rfl (fun ls hl => ?_)
                    have L131 : ∀ (rn : Nat) (v : Nat) (t : Nat) (h2 : t + rn = c.length ∨ (rn = 0 ∧ t = c.length + 1 ∧ i = c.length)) (hti : i < t) (hvb : (t = i + 1 ∧ v = 0) ∨ (t = i + 2 ∧ v < 10) ∨ (t = i + 3 ∧ v < 100) ∨ (t = i + 4 ∧ v < 1000)) (hqn : nmL c rn t v = paI c) (ls : Array Slot) (hl : lv_has ls 7 [(6, .int (nI t)), (5, .int (nI v)), (4, .int (iI ((((c.length : Nat) : Int) - ((i : Nat) : Int)) - ((1 : Nat) : Int)))), (3, .int (nI 2)), (2, .int (nI i)), (1, .int (nI c.length)), (0, .ref m0)]), W p_ l_ e_ { frames := 7, cells := 0, slots := 0, locals := 161 } S_ m_ args below meth co H locs 0 0 (MQ below (va_Qi (S := (Nat → Int32)) (fun r fc1 => r = (if (kdI c).toInt = -6 then (-6) else (-1)) ∧ rep fc1 []) (MuB g A (fun fc1 => [(m0, .inr (11, [.int (nI k), .int (nI n), .ref lt, .int (nI s.length), .ref er, .ref el, .int (nI h.length), .ref cm_, .int (nI (([] : List Nat).length)), .int (bI tk), .int (nI k0), .int (nI n0), .ref sv, .int (nI s0.length), .ref md, .int (nI z.length), .ref fmm, .ref lc, .ref lz, .ref af, .ref pt_, .int (nI p.length), .ref oc, .ref ty_, .ref sz_, .ref em])), (cm_, .inl (g.2.1, 20, .inl fc1))])) A) args S_ 0 0 A) (F0 m_ 131 ls []) := by
                      intro rn
                      induction rn with
                      | zero =>
                        intro v t h2 hti hvb hqn ls hl
                        refine lv_iload X.1 X.2.1 dX12_runCommand_131 (lv_at hl 0 rfl) ?_
                        refine lv_iload_n X.1 X.2.1 dX12_runCommand_133 rfl (lv_at hl 5 rfl) ?_
                        refine z_icmp_ge (tgt := 180) X dX12_runCommand_134 (by decide) (nI_toInt (by omega)) (nI_toInt (by omega)) (fun c134 => ?_) (fun c134 => ?_)
                        · refine lv_aload_n X.1 X.2.1 dX12_runCommand_180 rfl (lv_at hl 6 rfl) ?_
                          refine lv_iload_n X.1 X.2.1 dX12_runCommand_181 rfl (lv_at hl 3 rfl) ?_
                          refine lv_iload X.1 X.2.1 dX12_runCommand_182 (lv_at hl 1 rfl) ?_
                          have hv9 : nI v = paI c := hqn
                          have hno2 : ¬ (0 ≤ (nI 2).toInt ∧ (nI 2).toInt ≤ 3) ∨ ((nI 2).toInt = 3 ∧ ¬ (0 ≤ (nI v).toInt ∧ (nI v).toInt < (T : Int))) := rc_no hno hk9 hv9 (by decide) (by rw [nI_toInt (by omega)]; omega)
                          refine (m_construct_no g m0 lt er el cm_ sv md fmm lc lz af pt_ oc ty_ sz_ em k n s h ([] : List Nat) tk k0 n0 s0 z p B T (nI 2) (nI v) (by assumption) (hno2)).callV (rest := []) X dX12_runCommand_184 q1217 tX12_construct hK (hP.sub [0] rfl) 0 11 rfl rfl rfl hl ⟨⟨Nat.le_of_ble_eq_true rfl, Nat.le_of_ble_eq_true rfl⟩, Nat.le_of_ble_eq_true rfl, Nat.le_of_ble_eq_true rfl⟩ rfl rfl (Nat.le_of_ble_eq_true rfl) ?_
                          exact MuI.ret X hr hlk hK hS dX12_runCommand_187 (nI_nar _) fc (hP.sub [0, 1] rfl) (hD.sub [0, 1] (by decide) rfl) (⟨by rw [hk9, if_neg (by decide)], hfn⟩)
                        · exfalso; omega
                      | succ rn ih131 =>
                        intro v t h2 hti hvb hqn ls hl
                        refine lv_iload X.1 X.2.1 dX12_runCommand_131 (lv_at hl 0 rfl) ?_
                        refine lv_iload_n X.1 X.2.1 dX12_runCommand_133 rfl (lv_at hl 5 rfl) ?_
                        refine z_icmp_ge (tgt := 180) X dX12_runCommand_134 (by decide) (nI_toInt (by omega)) (nI_toInt (by omega)) (fun c134 => ?_) (fun c134 => ?_)
                        · exfalso; omega
                        · refine lv_aload_n X.1 X.2.1 dX12_runCommand_137 rfl (lv_at hl 6 rfl) ?_
                          refine va_get (D := g.1) (ci := 11) (v := .ref cm_) (C := RX12) (T := TX12) (N := 26) X.1 X.2.1 X.2.2.2.2 iwX12 X.2.2.2.1 hK hP 0 rfl rfl 7 (by decide) (X.2.2.2.2 _ q1027) (fun _ h9 => h9) rfl dX12_runCommand_138 ?_
                          refine lv_iload X.1 X.2.1 dX12_runCommand_141 (lv_at hl 0 rfl) ?_
                          refine n_iald X hK hP 1 0 rfl rfl (by omega) (by decide) dX12_runCommand_143 ?_
                          have hbt := hbc t
                          refine tp_i (y := (nI (c.getD t 0))) (hfc t (by omega)) ?_
                          refine lv_bipush (v := (nI 48)) X.1 X.2.1 dX12_runCommand_144 (by decide) ?_
                          refine lv_bipush (v := (nI 57)) X.1 X.2.1 dX12_runCommand_146 (by decide) ?_
                          refine (c_inN g (nI (c.getD t 0)) 48 57 (by omega) (by omega)).callS (rest := []) X dX12_runCommand_148 q1103 tX12_in hK (hP.sub [] rfl) hl ⟨⟨Nat.le_of_ble_eq_true rfl, Nat.le_of_ble_eq_true rfl⟩, Nat.le_of_ble_eq_true rfl, Nat.le_of_ble_eq_true rfl⟩ rfl rfl (Nat.le_of_ble_eq_true rfl) ?_
                          refine b_if_ne (tgt := 156) X dX12_runCommand_151 (by decide) (fun c151 => ?_) (fun c151 => ?_)
                          · have h4 := of_decide_eq_true c151
                            rw [nI_toInt (by omega)] at h4
                            refine lv_bipush (v := (nI 10)) X.1 X.2.1 dX12_runCommand_156 (by decide) ?_
                            refine lv_iload X.1 X.2.1 dX12_runCommand_158 (lv_at hl 1 rfl) ?_
                            refine n_mul X dX12_runCommand_160 ?_
                            refine lv_aload_n X.1 X.2.1 dX12_runCommand_161 rfl (lv_at hl 6 rfl) ?_
                            refine va_get (D := g.1) (ci := 11) (v := .ref cm_) (C := RX12) (T := TX12) (N := 26) X.1 X.2.1 X.2.2.2.2 iwX12 X.2.2.2.1 hK hP 0 rfl rfl 7 (by decide) (X.2.2.2.2 _ q1027) (fun _ h9 => h9) rfl dX12_runCommand_162 ?_
                            refine lv_iload X.1 X.2.1 dX12_runCommand_165 (lv_at hl 0 rfl) ?_
                            refine n_iald X hK hP 1 0 rfl rfl (by omega) (by decide) dX12_runCommand_167 ?_
                            refine tp_i (y := (nI (c.getD t 0))) (hfc t (by omega)) ?_
                            refine n_add X dX12_runCommand_168 ?_
                            refine lv_bipush (v := (nI 48)) X.1 X.2.1 dX12_runCommand_169 (by decide) ?_
                            refine n_sub X dX12_runCommand_171 (by omega) ?_
                            refine lv_istore (lv' := [(5, .int (nI ((10 * v + (c.getD t 0)) - 48))), (6, .int (nI t)), (4, .int (iI ((((c.length : Nat) : Int) - ((i : Nat) : Int)) - ((1 : Nat) : Int)))), (3, .int (nI 2)), (2, .int (nI i)), (1, .int (nI c.length)), (0, .ref m0)]) X.1 X.2.1 dX12_runCommand_172 hl (by decide) rfl (fun ls hl => ?_)
                            refine lv_iinc (v := (nI (t + 1))) (lv' := [(6, .int (nI (t + 1))), (5, .int (nI ((10 * v + (c.getD t 0)) - 48))), (4, .int (iI ((((c.length : Nat) : Int) - ((i : Nat) : Int)) - ((1 : Nat) : Int)))), (3, .int (nI 2)), (2, .int (nI i)), (1, .int (nI c.length)), (0, .ref m0)]) X.1 X.2.1 dX12_runCommand_174 hl (k := 1) rfl (nI_inc _) (by decide) rfl (fun ls hl => ?_)
                            refine lv_goto (tgt := 131) X.1 X.2.1 dX12_runCommand_177 (by decide) ?_
                            exact ih131 ((10 * v + (c.getD t 0)) - 48) (t + 1) (by omega) (by omega) (by omega) (by rw [nmL, if_pos (by omega)] at hqn; rw [show 10 * v + c.getD t 0 - 48 = v * 10 + (c.getD t 0 - 48) by omega]; exact hqn) ls (lv_sub hl [0, 1, 2, 3, 4, 5, 6] rfl)
                          · have h4 := of_decide_eq_false c151
                            rw [nI_toInt (by omega)] at h4
                            refine lv_iconst (v := (-1)) X.1 X.2.1 dX12_runCommand_154 (by decide) ?_
                            exact MuI.ret X hr hlk hK hS dX12_runCommand_155 (nI_nar _) fc (hP.sub [0, 1] rfl) (hD.sub [0, 1] (by decide) rfl) (⟨by rw [hk9, if_neg (by decide)], hfn⟩)
                    exact L131 (c.length - (i + 1)) 0 (i + 1) (by omega) (by omega) (by omega) (by unfold paI; first | (rw [if_pos (by omega), show c.length - (i + 1) = 0 by omega]; rfl) | (rw [if_neg (by omega), if_neg (by omega), ← hce])) ls (lv_sub hl [0, 1, 2, 3, 4, 5, 6] rfl)
                  · have h3 := of_decide_eq_false c118
                    rw [iI_toInt (by omega) (by omega)] at h3
                    refine lv_iconst (v := (-1)) X.1 X.2.1 dX12_runCommand_121 (by decide) ?_
                    exact MuI.ret X hr hlk hK hS dX12_runCommand_122 (nI_nar _) fc (hP.sub [0, 1] rfl) (hD.sub [0, 1] (by decide) rfl) (⟨by rw [hk9, if_neg (by decide)], hfn⟩)
              · exfalso; omega
          · refine lv_iconst (v := (nI 1)) X.1 X.2.1 dX12_runCommand_58 (by decide) ?_
            refine lv_goto (tgt := 91) X.1 X.2.1 dX12_runCommand_59 (by decide) ?_
            have hk9 : kdI c = nI 1 := by unfold kdI; simp [kdL, c41, c55]
            refine lv_istore_n (lv' := [(3, .int (nI 1)), (2, .int (nI i)), (1, .int (nI c.length)), (0, .ref m0)]) X.1 X.2.1 dX12_runCommand_91 rfl hl (by decide) rfl (fun ls hl => ?_)
            refine lv_iload_n X.1 X.2.1 dX12_runCommand_92 rfl (lv_at hl 0 rfl) ?_
            refine z_if_ge (tgt := 99) X dX12_runCommand_93 (by decide) (nI_toInt (by omega)) (fun c93 => ?_) (fun c93 => ?_)
            · refine lv_iload_n X.1 X.2.1 dX12_runCommand_99 rfl (lv_at hl 2 rfl) ?_
              refine lv_iload_n X.1 X.2.1 dX12_runCommand_100 rfl (lv_at hl 1 rfl) ?_
              refine lv_isub X.1 X.2.1 dX12_runCommand_101 ?_
              refine tp_i (y := (iI (((c.length : Nat) : Int) - ((i : Nat) : Int)))) (by first | rw [iI_sub] | rw [nI_iI, nI_iI, iI_sub] | rw [nI_iI, iI_sub]) ?_
              refine lv_iconst (v := (nI 1)) X.1 X.2.1 dX12_runCommand_102 (by decide) ?_
              refine lv_isub X.1 X.2.1 dX12_runCommand_103 ?_
              refine tp_i (y := (iI ((((c.length : Nat) : Int) - ((i : Nat) : Int)) - ((1 : Nat) : Int)))) (by first | rw [iI_sub] | rw [nI_iI, nI_iI, iI_sub] | rw [nI_iI, iI_sub]) ?_
              refine lv_istore (lv' := [(4, .int (iI ((((c.length : Nat) : Int) - ((i : Nat) : Int)) - ((1 : Nat) : Int)))), (3, .int (nI 1)), (2, .int (nI i)), (1, .int (nI c.length)), (0, .ref m0)]) X.1 X.2.1 dX12_runCommand_104 hl (by decide) rfl (fun ls hl => ?_)
              refine lv_iload_n X.1 X.2.1 dX12_runCommand_106 rfl (lv_at hl 2 rfl) ?_
              refine lv_iload_n X.1 X.2.1 dX12_runCommand_107 rfl (lv_at hl 3 rfl) ?_
              refine z_icmp_ge (tgt := 123) X dX12_runCommand_108 (by decide) (nI_toInt (by omega)) (nI_toInt (by omega)) (fun c108 => ?_) (fun c108 => ?_)
              · refine lv_iconst (v := (nI 0)) X.1 X.2.1 dX12_runCommand_123 (by decide) ?_
                refine lv_istore (lv' := [(5, .int (nI 0)), (4, .int (iI ((((c.length : Nat) : Int) - ((i : Nat) : Int)) - ((1 : Nat) : Int)))), (3, .int (nI 1)), (2, .int (nI i)), (1, .int (nI c.length)), (0, .ref m0)]) X.1 X.2.1 dX12_runCommand_124 hl (by decide) rfl (fun ls hl => ?_)
                refine lv_iload_n X.1 X.2.1 dX12_runCommand_126 rfl (lv_at hl 3 rfl) ?_
                refine lv_iconst (v := (nI 1)) X.1 X.2.1 dX12_runCommand_127 (by decide) ?_
                refine n_add X dX12_runCommand_128 ?_
                refine lv_istore (lv' := [(6, .int (nI (i + 1))), (5, .int (nI 0)), (4, .int (iI ((((c.length : Nat) : Int) - ((i : Nat) : Int)) - ((1 : Nat) : Int)))), (3, .int (nI 1)), (2, .int (nI i)), (1, .int (nI c.length)), (0, .ref m0)]) X.1 X.2.1 dX12_runCommand_129 hl (by decide) rfl (fun ls hl => ?_)
                have L131 : ∀ (rn : Nat) (v : Nat) (t : Nat) (h2 : t + rn = c.length ∨ (rn = 0 ∧ t = c.length + 1 ∧ i = c.length)) (hti : i < t) (hvb : (t = i + 1 ∧ v = 0) ∨ (t = i + 2 ∧ v < 10) ∨ (t = i + 3 ∧ v < 100) ∨ (t = i + 4 ∧ v < 1000)) (hqn : nmL c rn t v = paI c) (ls : Array Slot) (hl : lv_has ls 7 [(6, .int (nI t)), (5, .int (nI v)), (4, .int (iI ((((c.length : Nat) : Int) - ((i : Nat) : Int)) - ((1 : Nat) : Int)))), (3, .int (nI 1)), (2, .int (nI i)), (1, .int (nI c.length)), (0, .ref m0)]), W p_ l_ e_ { frames := 7, cells := 0, slots := 0, locals := 161 } S_ m_ args below meth co H locs 0 0 (MQ below (va_Qi (S := (Nat → Int32)) (fun r fc1 => r = (if (kdI c).toInt = -6 then (-6) else (-1)) ∧ rep fc1 []) (MuB g A (fun fc1 => [(m0, .inr (11, [.int (nI k), .int (nI n), .ref lt, .int (nI s.length), .ref er, .ref el, .int (nI h.length), .ref cm_, .int (nI (([] : List Nat).length)), .int (bI tk), .int (nI k0), .int (nI n0), .ref sv, .int (nI s0.length), .ref md, .int (nI z.length), .ref fmm, .ref lc, .ref lz, .ref af, .ref pt_, .int (nI p.length), .ref oc, .ref ty_, .ref sz_, .ref em])), (cm_, .inl (g.2.1, 20, .inl fc1))])) A) args S_ 0 0 A) (F0 m_ 131 ls []) := by
                  intro rn
                  induction rn with
                  | zero =>
                    intro v t h2 hti hvb hqn ls hl
                    refine lv_iload X.1 X.2.1 dX12_runCommand_131 (lv_at hl 0 rfl) ?_
                    refine lv_iload_n X.1 X.2.1 dX12_runCommand_133 rfl (lv_at hl 5 rfl) ?_
                    refine z_icmp_ge (tgt := 180) X dX12_runCommand_134 (by decide) (nI_toInt (by omega)) (nI_toInt (by omega)) (fun c134 => ?_) (fun c134 => ?_)
                    · refine lv_aload_n X.1 X.2.1 dX12_runCommand_180 rfl (lv_at hl 6 rfl) ?_
                      refine lv_iload_n X.1 X.2.1 dX12_runCommand_181 rfl (lv_at hl 3 rfl) ?_
                      refine lv_iload X.1 X.2.1 dX12_runCommand_182 (lv_at hl 1 rfl) ?_
                      have hv9 : nI v = paI c := hqn
                      have hno2 : ¬ (0 ≤ (nI 1).toInt ∧ (nI 1).toInt ≤ 3) ∨ ((nI 1).toInt = 3 ∧ ¬ (0 ≤ (nI v).toInt ∧ (nI v).toInt < (T : Int))) := rc_no hno hk9 hv9 (by decide) (by rw [nI_toInt (by omega)]; omega)
                      refine (m_construct_no g m0 lt er el cm_ sv md fmm lc lz af pt_ oc ty_ sz_ em k n s h ([] : List Nat) tk k0 n0 s0 z p B T (nI 1) (nI v) (by assumption) (hno2)).callV (rest := []) X dX12_runCommand_184 q1217 tX12_construct hK (hP.sub [0] rfl) 0 11 rfl rfl rfl hl ⟨⟨Nat.le_of_ble_eq_true rfl, Nat.le_of_ble_eq_true rfl⟩, Nat.le_of_ble_eq_true rfl, Nat.le_of_ble_eq_true rfl⟩ rfl rfl (Nat.le_of_ble_eq_true rfl) ?_
                      exact MuI.ret X hr hlk hK hS dX12_runCommand_187 (nI_nar _) fc (hP.sub [0, 1] rfl) (hD.sub [0, 1] (by decide) rfl) (⟨by rw [hk9, if_neg (by decide)], hfn⟩)
                    · exfalso; omega
                  | succ rn ih131 =>
                    intro v t h2 hti hvb hqn ls hl
                    refine lv_iload X.1 X.2.1 dX12_runCommand_131 (lv_at hl 0 rfl) ?_
                    refine lv_iload_n X.1 X.2.1 dX12_runCommand_133 rfl (lv_at hl 5 rfl) ?_
                    refine z_icmp_ge (tgt := 180) X dX12_runCommand_134 (by decide) (nI_toInt (by omega)) (nI_toInt (by omega)) (fun c134 => ?_) (fun c134 => ?_)
                    · exfalso; omega
                    · refine lv_aload_n X.1 X.2.1 dX12_runCommand_137 rfl (lv_at hl 6 rfl) ?_
                      refine va_get (D := g.1) (ci := 11) (v := .ref cm_) (C := RX12) (T := TX12) (N := 26) X.1 X.2.1 X.2.2.2.2 iwX12 X.2.2.2.1 hK hP 0 rfl rfl 7 (by decide) (X.2.2.2.2 _ q1027) (fun _ h9 => h9) rfl dX12_runCommand_138 ?_
                      refine lv_iload X.1 X.2.1 dX12_runCommand_141 (lv_at hl 0 rfl) ?_
                      refine n_iald X hK hP 1 0 rfl rfl (by omega) (by decide) dX12_runCommand_143 ?_
                      have hbt := hbc t
                      refine tp_i (y := (nI (c.getD t 0))) (hfc t (by omega)) ?_
                      refine lv_bipush (v := (nI 48)) X.1 X.2.1 dX12_runCommand_144 (by decide) ?_
                      refine lv_bipush (v := (nI 57)) X.1 X.2.1 dX12_runCommand_146 (by decide) ?_
                      refine (c_inN g (nI (c.getD t 0)) 48 57 (by omega) (by omega)).callS (rest := []) X dX12_runCommand_148 q1103 tX12_in hK (hP.sub [] rfl) hl ⟨⟨Nat.le_of_ble_eq_true rfl, Nat.le_of_ble_eq_true rfl⟩, Nat.le_of_ble_eq_true rfl, Nat.le_of_ble_eq_true rfl⟩ rfl rfl (Nat.le_of_ble_eq_true rfl) ?_
                      refine b_if_ne (tgt := 156) X dX12_runCommand_151 (by decide) (fun c151 => ?_) (fun c151 => ?_)
                      · have h4 := of_decide_eq_true c151
                        rw [nI_toInt (by omega)] at h4
                        refine lv_bipush (v := (nI 10)) X.1 X.2.1 dX12_runCommand_156 (by decide) ?_
                        refine lv_iload X.1 X.2.1 dX12_runCommand_158 (lv_at hl 1 rfl) ?_
                        refine n_mul X dX12_runCommand_160 ?_
                        refine lv_aload_n X.1 X.2.1 dX12_runCommand_161 rfl (lv_at hl 6 rfl) ?_
                        refine va_get (D := g.1) (ci := 11) (v := .ref cm_) (C := RX12) (T := TX12) (N := 26) X.1 X.2.1 X.2.2.2.2 iwX12 X.2.2.2.1 hK hP 0 rfl rfl 7 (by decide) (X.2.2.2.2 _ q1027) (fun _ h9 => h9) rfl dX12_runCommand_162 ?_
                        refine lv_iload X.1 X.2.1 dX12_runCommand_165 (lv_at hl 0 rfl) ?_
                        refine n_iald X hK hP 1 0 rfl rfl (by omega) (by decide) dX12_runCommand_167 ?_
                        refine tp_i (y := (nI (c.getD t 0))) (hfc t (by omega)) ?_
                        refine n_add X dX12_runCommand_168 ?_
                        refine lv_bipush (v := (nI 48)) X.1 X.2.1 dX12_runCommand_169 (by decide) ?_
                        refine n_sub X dX12_runCommand_171 (by omega) ?_
                        refine lv_istore (lv' := [(5, .int (nI ((10 * v + (c.getD t 0)) - 48))), (6, .int (nI t)), (4, .int (iI ((((c.length : Nat) : Int) - ((i : Nat) : Int)) - ((1 : Nat) : Int)))), (3, .int (nI 1)), (2, .int (nI i)), (1, .int (nI c.length)), (0, .ref m0)]) X.1 X.2.1 dX12_runCommand_172 hl (by decide) rfl (fun ls hl => ?_)
                        refine lv_iinc (v := (nI (t + 1))) (lv' := [(6, .int (nI (t + 1))), (5, .int (nI ((10 * v + (c.getD t 0)) - 48))), (4, .int (iI ((((c.length : Nat) : Int) - ((i : Nat) : Int)) - ((1 : Nat) : Int)))), (3, .int (nI 1)), (2, .int (nI i)), (1, .int (nI c.length)), (0, .ref m0)]) X.1 X.2.1 dX12_runCommand_174 hl (k := 1) rfl (nI_inc _) (by decide) rfl (fun ls hl => ?_)
                        refine lv_goto (tgt := 131) X.1 X.2.1 dX12_runCommand_177 (by decide) ?_
                        exact ih131 ((10 * v + (c.getD t 0)) - 48) (t + 1) (by omega) (by omega) (by omega) (by rw [nmL, if_pos (by omega)] at hqn; rw [show 10 * v + c.getD t 0 - 48 = v * 10 + (c.getD t 0 - 48) by omega]; exact hqn) ls (lv_sub hl [0, 1, 2, 3, 4, 5, 6] rfl)
                      · have h4 := of_decide_eq_false c151
                        rw [nI_toInt (by omega)] at h4
                        refine lv_iconst (v := (-1)) X.1 X.2.1 dX12_runCommand_154 (by decide) ?_
                        exact MuI.ret X hr hlk hK hS dX12_runCommand_155 (nI_nar _) fc (hP.sub [0, 1] rfl) (hD.sub [0, 1] (by decide) rfl) (⟨by rw [hk9, if_neg (by decide)], hfn⟩)
                exact L131 (c.length - (i + 1)) 0 (i + 1) (by omega) (by omega) (by omega) (by unfold paI; first | (rw [if_pos (by omega), show c.length - (i + 1) = 0 by omega]; rfl) | (rw [if_neg (by omega), if_neg (by omega), ← hce])) ls (lv_sub hl [0, 1, 2, 3, 4, 5, 6] rfl)
              · refine lv_iload X.1 X.2.1 dX12_runCommand_111 (lv_at hl 0 rfl) ?_
                refine lv_iconst (v := (nI 1)) X.1 X.2.1 dX12_runCommand_113 (by decide) ?_
                refine lv_iconst (v := (nI 3)) X.1 X.2.1 dX12_runCommand_114 (by decide) ?_
                refine (c_inN g (iI ((((c.length : Nat) : Int) - ((i : Nat) : Int)) - ((1 : Nat) : Int))) 1 3 (by omega) (by omega)).callS (rest := []) X dX12_runCommand_115 q1103 tX12_in hK (hP.sub [] rfl) hl ⟨⟨Nat.le_of_ble_eq_true rfl, Nat.le_of_ble_eq_true rfl⟩, Nat.le_of_ble_eq_true rfl, Nat.le_of_ble_eq_true rfl⟩ rfl rfl (Nat.le_of_ble_eq_true rfl) ?_
                refine b_if_ne (tgt := 123) X dX12_runCommand_118 (by decide) (fun c118 => ?_) (fun c118 => ?_)
                · have h3 := of_decide_eq_true c118
                  rw [iI_toInt (by omega) (by omega)] at h3
                  refine lv_iconst (v := (nI 0)) X.1 X.2.1 dX12_runCommand_123 (by decide) ?_
                  refine lv_istore (lv' := [(5, .int (nI 0)), (4, .int (iI ((((c.length : Nat) : Int) - ((i : Nat) : Int)) - ((1 : Nat) : Int)))), (3, .int (nI 1)), (2, .int (nI i)), (1, .int (nI c.length)), (0, .ref m0)]) X.1 X.2.1 dX12_runCommand_124 hl (by decide) rfl (fun ls hl => ?_)
                  refine lv_iload_n X.1 X.2.1 dX12_runCommand_126 rfl (lv_at hl 3 rfl) ?_
                  refine lv_iconst (v := (nI 1)) X.1 X.2.1 dX12_runCommand_127 (by decide) ?_
                  refine n_add X dX12_runCommand_128 ?_
                  refine lv_istore (lv' := [(6, .int (nI (i + 1))), (5, .int (nI 0)), (4, .int (iI ((((c.length : Nat) : Int) - ((i : Nat) : Int)) - ((1 : Nat) : Int)))), (3, .int (nI 1)), (2, .int (nI i)), (1, .int (nI c.length)), (0, .ref m0)]) X.1 X.2.1 dX12_runCommand_129 hl (by decide) rfl (fun ls hl => ?_)
                  have L131 : ∀ (rn : Nat) (v : Nat) (t : Nat) (h2 : t + rn = c.length ∨ (rn = 0 ∧ t = c.length + 1 ∧ i = c.length)) (hti : i < t) (hvb : (t = i + 1 ∧ v = 0) ∨ (t = i + 2 ∧ v < 10) ∨ (t = i + 3 ∧ v < 100) ∨ (t = i + 4 ∧ v < 1000)) (hqn : nmL c rn t v = paI c) (ls : Array Slot) (hl : lv_has ls 7 [(6, .int (nI t)), (5, .int (nI v)), (4, .int (iI ((((c.length : Nat) : Int) - ((i : Nat) : Int)) - ((1 : Nat) : Int)))), (3, .int (nI 1)), (2, .int (nI i)), (1, .int (nI c.length)), (0, .ref m0)]), W p_ l_ e_ { frames := 7, cells := 0, slots := 0, locals := 161 } S_ m_ args below meth co H locs 0 0 (MQ below (va_Qi (S := (Nat → Int32)) (fun r fc1 => r = (if (kdI c).toInt = -6 then (-6) else (-1)) ∧ rep fc1 []) (MuB g A (fun fc1 => [(m0, .inr (11, [.int (nI k), .int (nI n), .ref lt, .int (nI s.length), .ref er, .ref el, .int (nI h.length), .ref cm_, .int (nI (([] : List Nat).length)), .int (bI tk), .int (nI k0), .int (nI n0), .ref sv, .int (nI s0.length), .ref md, .int (nI z.length), .ref fmm, .ref lc, .ref lz, .ref af, .ref pt_, .int (nI p.length), .ref oc, .ref ty_, .ref sz_, .ref em])), (cm_, .inl (g.2.1, 20, .inl fc1))])) A) args S_ 0 0 A) (F0 m_ 131 ls []) := by
                    intro rn
                    induction rn with
                    | zero =>
                      intro v t h2 hti hvb hqn ls hl
                      refine lv_iload X.1 X.2.1 dX12_runCommand_131 (lv_at hl 0 rfl) ?_
                      refine lv_iload_n X.1 X.2.1 dX12_runCommand_133 rfl (lv_at hl 5 rfl) ?_
                      refine z_icmp_ge (tgt := 180) X dX12_runCommand_134 (by decide) (nI_toInt (by omega)) (nI_toInt (by omega)) (fun c134 => ?_) (fun c134 => ?_)
                      · refine lv_aload_n X.1 X.2.1 dX12_runCommand_180 rfl (lv_at hl 6 rfl) ?_
                        refine lv_iload_n X.1 X.2.1 dX12_runCommand_181 rfl (lv_at hl 3 rfl) ?_
                        refine lv_iload X.1 X.2.1 dX12_runCommand_182 (lv_at hl 1 rfl) ?_
                        have hv9 : nI v = paI c := hqn
                        have hno2 : ¬ (0 ≤ (nI 1).toInt ∧ (nI 1).toInt ≤ 3) ∨ ((nI 1).toInt = 3 ∧ ¬ (0 ≤ (nI v).toInt ∧ (nI v).toInt < (T : Int))) := rc_no hno hk9 hv9 (by decide) (by rw [nI_toInt (by omega)]; omega)
                        refine (m_construct_no g m0 lt er el cm_ sv md fmm lc lz af pt_ oc ty_ sz_ em k n s h ([] : List Nat) tk k0 n0 s0 z p B T (nI 1) (nI v) (by assumption) (hno2)).callV (rest := []) X dX12_runCommand_184 q1217 tX12_construct hK (hP.sub [0] rfl) 0 11 rfl rfl rfl hl ⟨⟨Nat.le_of_ble_eq_true rfl, Nat.le_of_ble_eq_true rfl⟩, Nat.le_of_ble_eq_true rfl, Nat.le_of_ble_eq_true rfl⟩ rfl rfl (Nat.le_of_ble_eq_true rfl) ?_
                        exact MuI.ret X hr hlk hK hS dX12_runCommand_187 (nI_nar _) fc (hP.sub [0, 1] rfl) (hD.sub [0, 1] (by decide) rfl) (⟨by rw [hk9, if_neg (by decide)], hfn⟩)
                      · exfalso; omega
                    | succ rn ih131 =>
                      intro v t h2 hti hvb hqn ls hl
                      refine lv_iload X.1 X.2.1 dX12_runCommand_131 (lv_at hl 0 rfl) ?_
                      refine lv_iload_n X.1 X.2.1 dX12_runCommand_133 rfl (lv_at hl 5 rfl) ?_
                      refine z_icmp_ge (tgt := 180) X dX12_runCommand_134 (by decide) (nI_toInt (by omega)) (nI_toInt (by omega)) (fun c134 => ?_) (fun c134 => ?_)
                      · exfalso; omega
                      · refine lv_aload_n X.1 X.2.1 dX12_runCommand_137 rfl (lv_at hl 6 rfl) ?_
                        refine va_get (D := g.1) (ci := 11) (v := .ref cm_) (C := RX12) (T := TX12) (N := 26) X.1 X.2.1 X.2.2.2.2 iwX12 X.2.2.2.1 hK hP 0 rfl rfl 7 (by decide) (X.2.2.2.2 _ q1027) (fun _ h9 => h9) rfl dX12_runCommand_138 ?_
                        refine lv_iload X.1 X.2.1 dX12_runCommand_141 (lv_at hl 0 rfl) ?_
                        refine n_iald X hK hP 1 0 rfl rfl (by omega) (by decide) dX12_runCommand_143 ?_
                        have hbt := hbc t
                        refine tp_i (y := (nI (c.getD t 0))) (hfc t (by omega)) ?_
                        refine lv_bipush (v := (nI 48)) X.1 X.2.1 dX12_runCommand_144 (by decide) ?_
                        refine lv_bipush (v := (nI 57)) X.1 X.2.1 dX12_runCommand_146 (by decide) ?_
                        refine (c_inN g (nI (c.getD t 0)) 48 57 (by omega) (by omega)).callS (rest := []) X dX12_runCommand_148 q1103 tX12_in hK (hP.sub [] rfl) hl ⟨⟨Nat.le_of_ble_eq_true rfl, Nat.le_of_ble_eq_true rfl⟩, Nat.le_of_ble_eq_true rfl, Nat.le_of_ble_eq_true rfl⟩ rfl rfl (Nat.le_of_ble_eq_true rfl) ?_
                        refine b_if_ne (tgt := 156) X dX12_runCommand_151 (by decide) (fun c151 => ?_) (fun c151 => ?_)
                        · have h4 := of_decide_eq_true c151
                          rw [nI_toInt (by omega)] at h4
                          refine lv_bipush (v := (nI 10)) X.1 X.2.1 dX12_runCommand_156 (by decide) ?_
                          refine lv_iload X.1 X.2.1 dX12_runCommand_158 (lv_at hl 1 rfl) ?_
                          refine n_mul X dX12_runCommand_160 ?_
                          refine lv_aload_n X.1 X.2.1 dX12_runCommand_161 rfl (lv_at hl 6 rfl) ?_
                          refine va_get (D := g.1) (ci := 11) (v := .ref cm_) (C := RX12) (T := TX12) (N := 26) X.1 X.2.1 X.2.2.2.2 iwX12 X.2.2.2.1 hK hP 0 rfl rfl 7 (by decide) (X.2.2.2.2 _ q1027) (fun _ h9 => h9) rfl dX12_runCommand_162 ?_
                          refine lv_iload X.1 X.2.1 dX12_runCommand_165 (lv_at hl 0 rfl) ?_
                          refine n_iald X hK hP 1 0 rfl rfl (by omega) (by decide) dX12_runCommand_167 ?_
                          refine tp_i (y := (nI (c.getD t 0))) (hfc t (by omega)) ?_
                          refine n_add X dX12_runCommand_168 ?_
                          refine lv_bipush (v := (nI 48)) X.1 X.2.1 dX12_runCommand_169 (by decide) ?_
                          refine n_sub X dX12_runCommand_171 (by omega) ?_
                          refine lv_istore (lv' := [(5, .int (nI ((10 * v + (c.getD t 0)) - 48))), (6, .int (nI t)), (4, .int (iI ((((c.length : Nat) : Int) - ((i : Nat) : Int)) - ((1 : Nat) : Int)))), (3, .int (nI 1)), (2, .int (nI i)), (1, .int (nI c.length)), (0, .ref m0)]) X.1 X.2.1 dX12_runCommand_172 hl (by decide) rfl (fun ls hl => ?_)
                          refine lv_iinc (v := (nI (t + 1))) (lv' := [(6, .int (nI (t + 1))), (5, .int (nI ((10 * v + (c.getD t 0)) - 48))), (4, .int (iI ((((c.length : Nat) : Int) - ((i : Nat) : Int)) - ((1 : Nat) : Int)))), (3, .int (nI 1)), (2, .int (nI i)), (1, .int (nI c.length)), (0, .ref m0)]) X.1 X.2.1 dX12_runCommand_174 hl (k := 1) rfl (nI_inc _) (by decide) rfl (fun ls hl => ?_)
                          refine lv_goto (tgt := 131) X.1 X.2.1 dX12_runCommand_177 (by decide) ?_
                          exact ih131 ((10 * v + (c.getD t 0)) - 48) (t + 1) (by omega) (by omega) (by omega) (by rw [nmL, if_pos (by omega)] at hqn; rw [show 10 * v + c.getD t 0 - 48 = v * 10 + (c.getD t 0 - 48) by omega]; exact hqn) ls (lv_sub hl [0, 1, 2, 3, 4, 5, 6] rfl)
                        · have h4 := of_decide_eq_false c151
                          rw [nI_toInt (by omega)] at h4
                          refine lv_iconst (v := (-1)) X.1 X.2.1 dX12_runCommand_154 (by decide) ?_
                          exact MuI.ret X hr hlk hK hS dX12_runCommand_155 (nI_nar _) fc (hP.sub [0, 1] rfl) (hD.sub [0, 1] (by decide) rfl) (⟨by rw [hk9, if_neg (by decide)], hfn⟩)
                  exact L131 (c.length - (i + 1)) 0 (i + 1) (by omega) (by omega) (by omega) (by unfold paI; first | (rw [if_pos (by omega), show c.length - (i + 1) = 0 by omega]; rfl) | (rw [if_neg (by omega), if_neg (by omega), ← hce])) ls (lv_sub hl [0, 1, 2, 3, 4, 5, 6] rfl)
                · have h3 := of_decide_eq_false c118
                  rw [iI_toInt (by omega) (by omega)] at h3
                  refine lv_iconst (v := (-1)) X.1 X.2.1 dX12_runCommand_121 (by decide) ?_
                  exact MuI.ret X hr hlk hK hS dX12_runCommand_122 (nI_nar _) fc (hP.sub [0, 1] rfl) (hD.sub [0, 1] (by decide) rfl) (⟨by rw [hk9, if_neg (by decide)], hfn⟩)
            · exfalso; omega
        · refine lv_iconst (v := (nI 0)) X.1 X.2.1 dX12_runCommand_44 (by decide) ?_
          refine lv_goto (tgt := 91) X.1 X.2.1 dX12_runCommand_45 (by decide) ?_
          have hk9 : kdI c = nI 0 := by unfold kdI; simp [kdL, c41]
          refine lv_istore_n (lv' := [(3, .int (nI 0)), (2, .int (nI i)), (1, .int (nI c.length)), (0, .ref m0)]) X.1 X.2.1 dX12_runCommand_91 rfl hl (by decide) rfl (fun ls hl => ?_)
          refine lv_iload_n X.1 X.2.1 dX12_runCommand_92 rfl (lv_at hl 0 rfl) ?_
          refine z_if_ge (tgt := 99) X dX12_runCommand_93 (by decide) (nI_toInt (by omega)) (fun c93 => ?_) (fun c93 => ?_)
          · refine lv_iload_n X.1 X.2.1 dX12_runCommand_99 rfl (lv_at hl 2 rfl) ?_
            refine lv_iload_n X.1 X.2.1 dX12_runCommand_100 rfl (lv_at hl 1 rfl) ?_
            refine lv_isub X.1 X.2.1 dX12_runCommand_101 ?_
            refine tp_i (y := (iI (((c.length : Nat) : Int) - ((i : Nat) : Int)))) (by first | rw [iI_sub] | rw [nI_iI, nI_iI, iI_sub] | rw [nI_iI, iI_sub]) ?_
            refine lv_iconst (v := (nI 1)) X.1 X.2.1 dX12_runCommand_102 (by decide) ?_
            refine lv_isub X.1 X.2.1 dX12_runCommand_103 ?_
            refine tp_i (y := (iI ((((c.length : Nat) : Int) - ((i : Nat) : Int)) - ((1 : Nat) : Int)))) (by first | rw [iI_sub] | rw [nI_iI, nI_iI, iI_sub] | rw [nI_iI, iI_sub]) ?_
            refine lv_istore (lv' := [(4, .int (iI ((((c.length : Nat) : Int) - ((i : Nat) : Int)) - ((1 : Nat) : Int)))), (3, .int (nI 0)), (2, .int (nI i)), (1, .int (nI c.length)), (0, .ref m0)]) X.1 X.2.1 dX12_runCommand_104 hl (by decide) rfl (fun ls hl => ?_)
            refine lv_iload_n X.1 X.2.1 dX12_runCommand_106 rfl (lv_at hl 2 rfl) ?_
            refine lv_iload_n X.1 X.2.1 dX12_runCommand_107 rfl (lv_at hl 3 rfl) ?_
            refine z_icmp_ge (tgt := 123) X dX12_runCommand_108 (by decide) (nI_toInt (by omega)) (nI_toInt (by omega)) (fun c108 => ?_) (fun c108 => ?_)
            · refine lv_iconst (v := (nI 0)) X.1 X.2.1 dX12_runCommand_123 (by decide) ?_
              refine lv_istore (lv' := [(5, .int (nI 0)), (4, .int (iI ((((c.length : Nat) : Int) - ((i : Nat) : Int)) - ((1 : Nat) : Int)))), (3, .int (nI 0)), (2, .int (nI i)), (1, .int (nI c.length)), (0, .ref m0)]) X.1 X.2.1 dX12_runCommand_124 hl (by decide) rfl (fun ls hl => ?_)
              refine lv_iload_n X.1 X.2.1 dX12_runCommand_126 rfl (lv_at hl 3 rfl) ?_
              refine lv_iconst (v := (nI 1)) X.1 X.2.1 dX12_runCommand_127 (by decide) ?_
              refine n_add X dX12_runCommand_128 ?_
              refine lv_istore (lv' := [(6, .int (nI (i + 1))), (5, .int (nI 0)), (4, .int (iI ((((c.length : Nat) : Int) - ((i : Nat) : Int)) - ((1 : Nat) : Int)))), (3, .int (nI 0)), (2, .int (nI i)), (1, .int (nI c.length)), (0, .ref m0)]) X.1 X.2.1 dX12_runCommand_129 hl (by decide) rfl (fun ls hl => ?_)
              have L131 : ∀ (rn : Nat) (v : Nat) (t : Nat) (h2 : t + rn = c.length ∨ (rn = 0 ∧ t = c.length + 1 ∧ i = c.length)) (hti : i < t) (hvb : (t = i + 1 ∧ v = 0) ∨ (t = i + 2 ∧ v < 10) ∨ (t = i + 3 ∧ v < 100) ∨ (t = i + 4 ∧ v < 1000)) (hqn : nmL c rn t v = paI c) (ls : Array Slot) (hl : lv_has ls 7 [(6, .int (nI t)), (5, .int (nI v)), (4, .int (iI ((((c.length : Nat) : Int) - ((i : Nat) : Int)) - ((1 : Nat) : Int)))), (3, .int (nI 0)), (2, .int (nI i)), (1, .int (nI c.length)), (0, .ref m0)]), W p_ l_ e_ { frames := 7, cells := 0, slots := 0, locals := 161 } S_ m_ args below meth co H locs 0 0 (MQ below (va_Qi (S := (Nat → Int32)) (fun r fc1 => r = (if (kdI c).toInt = -6 then (-6) else (-1)) ∧ rep fc1 []) (MuB g A (fun fc1 => [(m0, .inr (11, [.int (nI k), .int (nI n), .ref lt, .int (nI s.length), .ref er, .ref el, .int (nI h.length), .ref cm_, .int (nI (([] : List Nat).length)), .int (bI tk), .int (nI k0), .int (nI n0), .ref sv, .int (nI s0.length), .ref md, .int (nI z.length), .ref fmm, .ref lc, .ref lz, .ref af, .ref pt_, .int (nI p.length), .ref oc, .ref ty_, .ref sz_, .ref em])), (cm_, .inl (g.2.1, 20, .inl fc1))])) A) args S_ 0 0 A) (F0 m_ 131 ls []) := by
                intro rn
                induction rn with
                | zero =>
                  intro v t h2 hti hvb hqn ls hl
                  refine lv_iload X.1 X.2.1 dX12_runCommand_131 (lv_at hl 0 rfl) ?_
                  refine lv_iload_n X.1 X.2.1 dX12_runCommand_133 rfl (lv_at hl 5 rfl) ?_
                  refine z_icmp_ge (tgt := 180) X dX12_runCommand_134 (by decide) (nI_toInt (by omega)) (nI_toInt (by omega)) (fun c134 => ?_) (fun c134 => ?_)
                  · refine lv_aload_n X.1 X.2.1 dX12_runCommand_180 rfl (lv_at hl 6 rfl) ?_
                    refine lv_iload_n X.1 X.2.1 dX12_runCommand_181 rfl (lv_at hl 3 rfl) ?_
                    refine lv_iload X.1 X.2.1 dX12_runCommand_182 (lv_at hl 1 rfl) ?_
                    have hv9 : nI v = paI c := hqn
                    have hno2 : ¬ (0 ≤ (nI 0).toInt ∧ (nI 0).toInt ≤ 3) ∨ ((nI 0).toInt = 3 ∧ ¬ (0 ≤ (nI v).toInt ∧ (nI v).toInt < (T : Int))) := rc_no hno hk9 hv9 (by decide) (by rw [nI_toInt (by omega)]; omega)
                    refine (m_construct_no g m0 lt er el cm_ sv md fmm lc lz af pt_ oc ty_ sz_ em k n s h ([] : List Nat) tk k0 n0 s0 z p B T (nI 0) (nI v) (by assumption) (hno2)).callV (rest := []) X dX12_runCommand_184 q1217 tX12_construct hK (hP.sub [0] rfl) 0 11 rfl rfl rfl hl ⟨⟨Nat.le_of_ble_eq_true rfl, Nat.le_of_ble_eq_true rfl⟩, Nat.le_of_ble_eq_true rfl, Nat.le_of_ble_eq_true rfl⟩ rfl rfl (Nat.le_of_ble_eq_true rfl) ?_
                    exact MuI.ret X hr hlk hK hS dX12_runCommand_187 (nI_nar _) fc (hP.sub [0, 1] rfl) (hD.sub [0, 1] (by decide) rfl) (⟨by rw [hk9, if_neg (by decide)], hfn⟩)
                  · exfalso; omega
                | succ rn ih131 =>
                  intro v t h2 hti hvb hqn ls hl
                  refine lv_iload X.1 X.2.1 dX12_runCommand_131 (lv_at hl 0 rfl) ?_
                  refine lv_iload_n X.1 X.2.1 dX12_runCommand_133 rfl (lv_at hl 5 rfl) ?_
                  refine z_icmp_ge (tgt := 180) X dX12_runCommand_134 (by decide) (nI_toInt (by omega)) (nI_toInt (by omega)) (fun c134 => ?_) (fun c134 => ?_)
                  · exfalso; omega
                  · refine lv_aload_n X.1 X.2.1 dX12_runCommand_137 rfl (lv_at hl 6 rfl) ?_
                    refine va_get (D := g.1) (ci := 11) (v := .ref cm_) (C := RX12) (T := TX12) (N := 26) X.1 X.2.1 X.2.2.2.2 iwX12 X.2.2.2.1 hK hP 0 rfl rfl 7 (by decide) (X.2.2.2.2 _ q1027) (fun _ h9 => h9) rfl dX12_runCommand_138 ?_
                    refine lv_iload X.1 X.2.1 dX12_runCommand_141 (lv_at hl 0 rfl) ?_
                    refine n_iald X hK hP 1 0 rfl rfl (by omega) (by decide) dX12_runCommand_143 ?_
                    have hbt := hbc t
                    refine tp_i (y := (nI (c.getD t 0))) (hfc t (by omega)) ?_
                    refine lv_bipush (v := (nI 48)) X.1 X.2.1 dX12_runCommand_144 (by decide) ?_
                    refine lv_bipush (v := (nI 57)) X.1 X.2.1 dX12_runCommand_146 (by decide) ?_
                    refine (c_inN g (nI (c.getD t 0)) 48 57 (by omega) (by omega)).callS (rest := []) X dX12_runCommand_148 q1103 tX12_in hK (hP.sub [] rfl) hl ⟨⟨Nat.le_of_ble_eq_true rfl, Nat.le_of_ble_eq_true rfl⟩, Nat.le_of_ble_eq_true rfl, Nat.le_of_ble_eq_true rfl⟩ rfl rfl (Nat.le_of_ble_eq_true rfl) ?_
                    refine b_if_ne (tgt := 156) X dX12_runCommand_151 (by decide) (fun c151 => ?_) (fun c151 => ?_)
                    · have h4 := of_decide_eq_true c151
                      rw [nI_toInt (by omega)] at h4
                      refine lv_bipush (v := (nI 10)) X.1 X.2.1 dX12_runCommand_156 (by decide) ?_
                      refine lv_iload X.1 X.2.1 dX12_runCommand_158 (lv_at hl 1 rfl) ?_
                      refine n_mul X dX12_runCommand_160 ?_
                      refine lv_aload_n X.1 X.2.1 dX12_runCommand_161 rfl (lv_at hl 6 rfl) ?_
                      refine va_get (D := g.1) (ci := 11) (v := .ref cm_) (C := RX12) (T := TX12) (N := 26) X.1 X.2.1 X.2.2.2.2 iwX12 X.2.2.2.1 hK hP 0 rfl rfl 7 (by decide) (X.2.2.2.2 _ q1027) (fun _ h9 => h9) rfl dX12_runCommand_162 ?_
                      refine lv_iload X.1 X.2.1 dX12_runCommand_165 (lv_at hl 0 rfl) ?_
                      refine n_iald X hK hP 1 0 rfl rfl (by omega) (by decide) dX12_runCommand_167 ?_
                      refine tp_i (y := (nI (c.getD t 0))) (hfc t (by omega)) ?_
                      refine n_add X dX12_runCommand_168 ?_
                      refine lv_bipush (v := (nI 48)) X.1 X.2.1 dX12_runCommand_169 (by decide) ?_
                      refine n_sub X dX12_runCommand_171 (by omega) ?_
                      refine lv_istore (lv' := [(5, .int (nI ((10 * v + (c.getD t 0)) - 48))), (6, .int (nI t)), (4, .int (iI ((((c.length : Nat) : Int) - ((i : Nat) : Int)) - ((1 : Nat) : Int)))), (3, .int (nI 0)), (2, .int (nI i)), (1, .int (nI c.length)), (0, .ref m0)]) X.1 X.2.1 dX12_runCommand_172 hl (by decide) rfl (fun ls hl => ?_)
                      refine lv_iinc (v := (nI (t + 1))) (lv' := [(6, .int (nI (t + 1))), (5, .int (nI ((10 * v + (c.getD t 0)) - 48))), (4, .int (iI ((((c.length : Nat) : Int) - ((i : Nat) : Int)) - ((1 : Nat) : Int)))), (3, .int (nI 0)), (2, .int (nI i)), (1, .int (nI c.length)), (0, .ref m0)]) X.1 X.2.1 dX12_runCommand_174 hl (k := 1) rfl (nI_inc _) (by decide) rfl (fun ls hl => ?_)
                      refine lv_goto (tgt := 131) X.1 X.2.1 dX12_runCommand_177 (by decide) ?_
                      exact ih131 ((10 * v + (c.getD t 0)) - 48) (t + 1) (by omega) (by omega) (by omega) (by rw [nmL, if_pos (by omega)] at hqn; rw [show 10 * v + c.getD t 0 - 48 = v * 10 + (c.getD t 0 - 48) by omega]; exact hqn) ls (lv_sub hl [0, 1, 2, 3, 4, 5, 6] rfl)
                    · have h4 := of_decide_eq_false c151
                      rw [nI_toInt (by omega)] at h4
                      refine lv_iconst (v := (-1)) X.1 X.2.1 dX12_runCommand_154 (by decide) ?_
                      exact MuI.ret X hr hlk hK hS dX12_runCommand_155 (nI_nar _) fc (hP.sub [0, 1] rfl) (hD.sub [0, 1] (by decide) rfl) (⟨by rw [hk9, if_neg (by decide)], hfn⟩)
              exact L131 (c.length - (i + 1)) 0 (i + 1) (by omega) (by omega) (by omega) (by unfold paI; first | (rw [if_pos (by omega), show c.length - (i + 1) = 0 by omega]; rfl) | (rw [if_neg (by omega), if_neg (by omega), ← hce])) ls (lv_sub hl [0, 1, 2, 3, 4, 5, 6] rfl)
            · refine lv_iload X.1 X.2.1 dX12_runCommand_111 (lv_at hl 0 rfl) ?_
              refine lv_iconst (v := (nI 1)) X.1 X.2.1 dX12_runCommand_113 (by decide) ?_
              refine lv_iconst (v := (nI 3)) X.1 X.2.1 dX12_runCommand_114 (by decide) ?_
              refine (c_inN g (iI ((((c.length : Nat) : Int) - ((i : Nat) : Int)) - ((1 : Nat) : Int))) 1 3 (by omega) (by omega)).callS (rest := []) X dX12_runCommand_115 q1103 tX12_in hK (hP.sub [] rfl) hl ⟨⟨Nat.le_of_ble_eq_true rfl, Nat.le_of_ble_eq_true rfl⟩, Nat.le_of_ble_eq_true rfl, Nat.le_of_ble_eq_true rfl⟩ rfl rfl (Nat.le_of_ble_eq_true rfl) ?_
              refine b_if_ne (tgt := 123) X dX12_runCommand_118 (by decide) (fun c118 => ?_) (fun c118 => ?_)
              · have h3 := of_decide_eq_true c118
                rw [iI_toInt (by omega) (by omega)] at h3
                refine lv_iconst (v := (nI 0)) X.1 X.2.1 dX12_runCommand_123 (by decide) ?_
                refine lv_istore (lv' := [(5, .int (nI 0)), (4, .int (iI ((((c.length : Nat) : Int) - ((i : Nat) : Int)) - ((1 : Nat) : Int)))), (3, .int (nI 0)), (2, .int (nI i)), (1, .int (nI c.length)), (0, .ref m0)]) X.1 X.2.1 dX12_runCommand_124 hl (by decide) rfl (fun ls hl => ?_)
                refine lv_iload_n X.1 X.2.1 dX12_runCommand_126 rfl (lv_at hl 3 rfl) ?_
                refine lv_iconst (v := (nI 1)) X.1 X.2.1 dX12_runCommand_127 (by decide) ?_
                refine n_add X dX12_runCommand_128 ?_
                refine lv_istore (lv' := [(6, .int (nI (i + 1))), (5, .int (nI 0)), (4, .int (iI ((((c.length : Nat) : Int) - ((i : Nat) : Int)) - ((1 : Nat) : Int)))), (3, .int (nI 0)), (2, .int (nI i)), (1, .int (nI c.length)), (0, .ref m0)]) X.1 X.2.1 dX12_runCommand_129 hl (by decide) rfl (fun ls hl => ?_)
                have L131 : ∀ (rn : Nat) (v : Nat) (t : Nat) (h2 : t + rn = c.length ∨ (rn = 0 ∧ t = c.length + 1 ∧ i = c.length)) (hti : i < t) (hvb : (t = i + 1 ∧ v = 0) ∨ (t = i + 2 ∧ v < 10) ∨ (t = i + 3 ∧ v < 100) ∨ (t = i + 4 ∧ v < 1000)) (hqn : nmL c rn t v = paI c) (ls : Array Slot) (hl : lv_has ls 7 [(6, .int (nI t)), (5, .int (nI v)), (4, .int (iI ((((c.length : Nat) : Int) - ((i : Nat) : Int)) - ((1 : Nat) : Int)))), (3, .int (nI 0)), (2, .int (nI i)), (1, .int (nI c.length)), (0, .ref m0)]), W p_ l_ e_ { frames := 7, cells := 0, slots := 0, locals := 161 } S_ m_ args below meth co H locs 0 0 (MQ below (va_Qi (S := (Nat → Int32)) (fun r fc1 => r = (if (kdI c).toInt = -6 then (-6) else (-1)) ∧ rep fc1 []) (MuB g A (fun fc1 => [(m0, .inr (11, [.int (nI k), .int (nI n), .ref lt, .int (nI s.length), .ref er, .ref el, .int (nI h.length), .ref cm_, .int (nI (([] : List Nat).length)), .int (bI tk), .int (nI k0), .int (nI n0), .ref sv, .int (nI s0.length), .ref md, .int (nI z.length), .ref fmm, .ref lc, .ref lz, .ref af, .ref pt_, .int (nI p.length), .ref oc, .ref ty_, .ref sz_, .ref em])), (cm_, .inl (g.2.1, 20, .inl fc1))])) A) args S_ 0 0 A) (F0 m_ 131 ls []) := by
                  intro rn
                  induction rn with
                  | zero =>
                    intro v t h2 hti hvb hqn ls hl
                    refine lv_iload X.1 X.2.1 dX12_runCommand_131 (lv_at hl 0 rfl) ?_
                    refine lv_iload_n X.1 X.2.1 dX12_runCommand_133 rfl (lv_at hl 5 rfl) ?_
                    refine z_icmp_ge (tgt := 180) X dX12_runCommand_134 (by decide) (nI_toInt (by omega)) (nI_toInt (by omega)) (fun c134 => ?_) (fun c134 => ?_)
                    · refine lv_aload_n X.1 X.2.1 dX12_runCommand_180 rfl (lv_at hl 6 rfl) ?_
                      refine lv_iload_n X.1 X.2.1 dX12_runCommand_181 rfl (lv_at hl 3 rfl) ?_
                      refine lv_iload X.1 X.2.1 dX12_runCommand_182 (lv_at hl 1 rfl) ?_
                      have hv9 : nI v = paI c := hqn
                      have hno2 : ¬ (0 ≤ (nI 0).toInt ∧ (nI 0).toInt ≤ 3) ∨ ((nI 0).toInt = 3 ∧ ¬ (0 ≤ (nI v).toInt ∧ (nI v).toInt < (T : Int))) := rc_no hno hk9 hv9 (by decide) (by rw [nI_toInt (by omega)]; omega)
                      refine (m_construct_no g m0 lt er el cm_ sv md fmm lc lz af pt_ oc ty_ sz_ em k n s h ([] : List Nat) tk k0 n0 s0 z p B T (nI 0) (nI v) (by assumption) (hno2)).callV (rest := []) X dX12_runCommand_184 q1217 tX12_construct hK (hP.sub [0] rfl) 0 11 rfl rfl rfl hl ⟨⟨Nat.le_of_ble_eq_true rfl, Nat.le_of_ble_eq_true rfl⟩, Nat.le_of_ble_eq_true rfl, Nat.le_of_ble_eq_true rfl⟩ rfl rfl (Nat.le_of_ble_eq_true rfl) ?_
                      exact MuI.ret X hr hlk hK hS dX12_runCommand_187 (nI_nar _) fc (hP.sub [0, 1] rfl) (hD.sub [0, 1] (by decide) rfl) (⟨by rw [hk9, if_neg (by decide)], hfn⟩)
                    · exfalso; omega
                  | succ rn ih131 =>
                    intro v t h2 hti hvb hqn ls hl
                    refine lv_iload X.1 X.2.1 dX12_runCommand_131 (lv_at hl 0 rfl) ?_
                    refine lv_iload_n X.1 X.2.1 dX12_runCommand_133 rfl (lv_at hl 5 rfl) ?_
                    refine z_icmp_ge (tgt := 180) X dX12_runCommand_134 (by decide) (nI_toInt (by omega)) (nI_toInt (by omega)) (fun c134 => ?_) (fun c134 => ?_)
                    · exfalso; omega
                    · refine lv_aload_n X.1 X.2.1 dX12_runCommand_137 rfl (lv_at hl 6 rfl) ?_
                      refine va_get (D := g.1) (ci := 11) (v := .ref cm_) (C := RX12) (T := TX12) (N := 26) X.1 X.2.1 X.2.2.2.2 iwX12 X.2.2.2.1 hK hP 0 rfl rfl 7 (by decide) (X.2.2.2.2 _ q1027) (fun _ h9 => h9) rfl dX12_runCommand_138 ?_
                      refine lv_iload X.1 X.2.1 dX12_runCommand_141 (lv_at hl 0 rfl) ?_
                      refine n_iald X hK hP 1 0 rfl rfl (by omega) (by decide) dX12_runCommand_143 ?_
                      have hbt := hbc t
                      refine tp_i (y := (nI (c.getD t 0))) (hfc t (by omega)) ?_
                      refine lv_bipush (v := (nI 48)) X.1 X.2.1 dX12_runCommand_144 (by decide) ?_
                      refine lv_bipush (v := (nI 57)) X.1 X.2.1 dX12_runCommand_146 (by decide) ?_
                      refine (c_inN g (nI (c.getD t 0)) 48 57 (by omega) (by omega)).callS (rest := []) X dX12_runCommand_148 q1103 tX12_in hK (hP.sub [] rfl) hl ⟨⟨Nat.le_of_ble_eq_true rfl, Nat.le_of_ble_eq_true rfl⟩, Nat.le_of_ble_eq_true rfl, Nat.le_of_ble_eq_true rfl⟩ rfl rfl (Nat.le_of_ble_eq_true rfl) ?_
                      refine b_if_ne (tgt := 156) X dX12_runCommand_151 (by decide) (fun c151 => ?_) (fun c151 => ?_)
                      · have h4 := of_decide_eq_true c151
                        rw [nI_toInt (by omega)] at h4
                        refine lv_bipush (v := (nI 10)) X.1 X.2.1 dX12_runCommand_156 (by decide) ?_
                        refine lv_iload X.1 X.2.1 dX12_runCommand_158 (lv_at hl 1 rfl) ?_
                        refine n_mul X dX12_runCommand_160 ?_
                        refine lv_aload_n X.1 X.2.1 dX12_runCommand_161 rfl (lv_at hl 6 rfl) ?_
                        refine va_get (D := g.1) (ci := 11) (v := .ref cm_) (C := RX12) (T := TX12) (N := 26) X.1 X.2.1 X.2.2.2.2 iwX12 X.2.2.2.1 hK hP 0 rfl rfl 7 (by decide) (X.2.2.2.2 _ q1027) (fun _ h9 => h9) rfl dX12_runCommand_162 ?_
                        refine lv_iload X.1 X.2.1 dX12_runCommand_165 (lv_at hl 0 rfl) ?_
                        refine n_iald X hK hP 1 0 rfl rfl (by omega) (by decide) dX12_runCommand_167 ?_
                        refine tp_i (y := (nI (c.getD t 0))) (hfc t (by omega)) ?_
                        refine n_add X dX12_runCommand_168 ?_
                        refine lv_bipush (v := (nI 48)) X.1 X.2.1 dX12_runCommand_169 (by decide) ?_
                        refine n_sub X dX12_runCommand_171 (by omega) ?_
                        refine lv_istore (lv' := [(5, .int (nI ((10 * v + (c.getD t 0)) - 48))), (6, .int (nI t)), (4, .int (iI ((((c.length : Nat) : Int) - ((i : Nat) : Int)) - ((1 : Nat) : Int)))), (3, .int (nI 0)), (2, .int (nI i)), (1, .int (nI c.length)), (0, .ref m0)]) X.1 X.2.1 dX12_runCommand_172 hl (by decide) rfl (fun ls hl => ?_)
                        refine lv_iinc (v := (nI (t + 1))) (lv' := [(6, .int (nI (t + 1))), (5, .int (nI ((10 * v + (c.getD t 0)) - 48))), (4, .int (iI ((((c.length : Nat) : Int) - ((i : Nat) : Int)) - ((1 : Nat) : Int)))), (3, .int (nI 0)), (2, .int (nI i)), (1, .int (nI c.length)), (0, .ref m0)]) X.1 X.2.1 dX12_runCommand_174 hl (k := 1) rfl (nI_inc _) (by decide) rfl (fun ls hl => ?_)
                        refine lv_goto (tgt := 131) X.1 X.2.1 dX12_runCommand_177 (by decide) ?_
                        exact ih131 ((10 * v + (c.getD t 0)) - 48) (t + 1) (by omega) (by omega) (by omega) (by rw [nmL, if_pos (by omega)] at hqn; rw [show 10 * v + c.getD t 0 - 48 = v * 10 + (c.getD t 0 - 48) by omega]; exact hqn) ls (lv_sub hl [0, 1, 2, 3, 4, 5, 6] rfl)
                      · have h4 := of_decide_eq_false c151
                        rw [nI_toInt (by omega)] at h4
                        refine lv_iconst (v := (-1)) X.1 X.2.1 dX12_runCommand_154 (by decide) ?_
                        exact MuI.ret X hr hlk hK hS dX12_runCommand_155 (nI_nar _) fc (hP.sub [0, 1] rfl) (hD.sub [0, 1] (by decide) rfl) (⟨by rw [hk9, if_neg (by decide)], hfn⟩)
                exact L131 (c.length - (i + 1)) 0 (i + 1) (by omega) (by omega) (by omega) (by unfold paI; first | (rw [if_pos (by omega), show c.length - (i + 1) = 0 by omega]; rfl) | (rw [if_neg (by omega), if_neg (by omega), ← hce])) ls (lv_sub hl [0, 1, 2, 3, 4, 5, 6] rfl)
              · have h3 := of_decide_eq_false c118
                rw [iI_toInt (by omega) (by omega)] at h3
                refine lv_iconst (v := (-1)) X.1 X.2.1 dX12_runCommand_121 (by decide) ?_
                exact MuI.ret X hr hlk hK hS dX12_runCommand_122 (nI_nar _) fc (hP.sub [0, 1] rfl) (hD.sub [0, 1] (by decide) rfl) (⟨by rw [hk9, if_neg (by decide)], hfn⟩)
          · exfalso; omega
      · exfalso; omega
    | succ r ih12 =>
      intro i h1 hq ls hl
      refine lv_iload_n X.1 X.2.1 dX12_runCommand_12 rfl (lv_at hl 0 rfl) ?_
      refine lv_iload_n X.1 X.2.1 dX12_runCommand_13 rfl (lv_at hl 1 rfl) ?_
      refine z_icmp_ge (tgt := 34) X dX12_runCommand_14 (by decide) (nI_toInt (by omega)) (nI_toInt (by omega)) (fun c14 => ?_) (fun c14 => ?_)
      · exfalso; omega
      · refine lv_aload_n X.1 X.2.1 dX12_runCommand_17 rfl (lv_at hl 2 rfl) ?_
        refine va_get (D := g.1) (ci := 11) (v := .ref cm_) (C := RX12) (T := TX12) (N := 26) X.1 X.2.1 X.2.2.2.2 iwX12 X.2.2.2.1 hK hP 0 rfl rfl 7 (by decide) (X.2.2.2.2 _ q1027) (fun _ h9 => h9) rfl dX12_runCommand_18 ?_
        refine lv_iload_n X.1 X.2.1 dX12_runCommand_21 rfl (lv_at hl 0 rfl) ?_
        refine n_iald X hK hP 1 0 rfl rfl (by omega) (by decide) dX12_runCommand_22 ?_
        have hbi := hbc i
        refine tp_i (y := (nI (c.getD i 0))) (hfc i (by omega)) ?_
        refine lv_bipush (v := (nI 58)) X.1 X.2.1 dX12_runCommand_23 (by decide) ?_
        refine z_icmp_eq (tgt := 34) X dX12_runCommand_25 (by decide) (nI_toInt (by omega)) (nI_toInt (by omega)) (fun c25 => ?_) (fun c25 => ?_)
        · have hce : i = ceN c := by first | (have h9 : c.length = ceN c := hq; omega) | (rw [firstL, isCol, decide_eq_true (by omega)] at hq; exact hq)
          refine lv_aload_n X.1 X.2.1 dX12_runCommand_34 rfl (lv_at hl 2 rfl) ?_
          refine va_ldcS (q := adK 0) X.1 X.2.1 X.2.2.2.1 (hE.2.2.2.2.2.1) dX12_runCommand_35 ?_
          refine lv_iload_n X.1 X.2.1 dX12_runCommand_37 rfl (lv_at hl 0 rfl) ?_
          refine (m_begins g adK adV fm m0 lt er el cm_ sv md fmm lc lz af pt_ oc ty_ sz_ em k n s h ([] : List Nat) tk k0 n0 s0 z p fc c 0 i (by omega) (by assumption) (by assumption) (by omega) (hce)).callV (rest := []) X dX12_runCommand_38 q1208 tX12_begins hK (hP.sub [0, 1] rfl) ((hE.kept hS.2.1).narrow (fun _ h => h.elim)) (va_recv hK (hP.sub [0, 1] rfl) (ci := 11) (q0 := 0) rfl rfl) hl ⟨⟨Nat.le_of_ble_eq_true rfl, Nat.le_of_ble_eq_true rfl⟩, Nat.le_of_ble_eq_true rfl, Nat.le_of_ble_eq_true rfl⟩ rfl rfl (Nat.le_of_ble_eq_true rfl) ?_
          refine b_if_eq (tgt := 48) X dX12_runCommand_41 (by decide) (fun c41 => ?_) (fun c41 => ?_)
          · refine lv_aload_n X.1 X.2.1 dX12_runCommand_48 rfl (lv_at hl 2 rfl) ?_
            refine va_ldcS (q := adK 1) X.1 X.2.1 X.2.2.2.1 (hE.2.2.2.2.2.2.1) dX12_runCommand_49 ?_
            refine lv_iload_n X.1 X.2.1 dX12_runCommand_51 rfl (lv_at hl 0 rfl) ?_
            refine (m_begins g adK adV fm m0 lt er el cm_ sv md fmm lc lz af pt_ oc ty_ sz_ em k n s h ([] : List Nat) tk k0 n0 s0 z p fc c 1 i (by omega) (by assumption) (by assumption) (by omega) (hce)).callV (rest := []) X dX12_runCommand_52 q1208 tX12_begins hK (hP.sub [0, 1] rfl) ((hE.kept hS.2.1).narrow (fun _ h => h.elim)) (va_recv hK (hP.sub [0, 1] rfl) (ci := 11) (q0 := 0) rfl rfl) hl ⟨⟨Nat.le_of_ble_eq_true rfl, Nat.le_of_ble_eq_true rfl⟩, Nat.le_of_ble_eq_true rfl, Nat.le_of_ble_eq_true rfl⟩ rfl rfl (Nat.le_of_ble_eq_true rfl) ?_
            refine b_if_eq (tgt := 62) X dX12_runCommand_55 (by decide) (fun c55 => ?_) (fun c55 => ?_)
            · refine lv_aload_n X.1 X.2.1 dX12_runCommand_62 rfl (lv_at hl 2 rfl) ?_
              refine va_ldcS (q := adK 2) X.1 X.2.1 X.2.2.2.1 (hE.2.2.2.2.2.2.2.1) dX12_runCommand_63 ?_
              refine lv_iload_n X.1 X.2.1 dX12_runCommand_65 rfl (lv_at hl 0 rfl) ?_
              refine (m_begins g adK adV fm m0 lt er el cm_ sv md fmm lc lz af pt_ oc ty_ sz_ em k n s h ([] : List Nat) tk k0 n0 s0 z p fc c 2 i (by omega) (by assumption) (by assumption) (by omega) (hce)).callV (rest := []) X dX12_runCommand_66 q1208 tX12_begins hK (hP.sub [0, 1] rfl) ((hE.kept hS.2.1).narrow (fun _ h => h.elim)) (va_recv hK (hP.sub [0, 1] rfl) (ci := 11) (q0 := 0) rfl rfl) hl ⟨⟨Nat.le_of_ble_eq_true rfl, Nat.le_of_ble_eq_true rfl⟩, Nat.le_of_ble_eq_true rfl, Nat.le_of_ble_eq_true rfl⟩ rfl rfl (Nat.le_of_ble_eq_true rfl) ?_
              refine b_if_eq (tgt := 76) X dX12_runCommand_69 (by decide) (fun c69 => ?_) (fun c69 => ?_)
              · refine lv_aload_n X.1 X.2.1 dX12_runCommand_76 rfl (lv_at hl 2 rfl) ?_
                refine va_ldcS (q := adK 3) X.1 X.2.1 X.2.2.2.1 (hE.2.2.2.2.2.2.2.2) dX12_runCommand_77 ?_
                refine lv_iload_n X.1 X.2.1 dX12_runCommand_79 rfl (lv_at hl 0 rfl) ?_
                refine (m_begins g adK adV fm m0 lt er el cm_ sv md fmm lc lz af pt_ oc ty_ sz_ em k n s h ([] : List Nat) tk k0 n0 s0 z p fc c 3 i (by omega) (by assumption) (by assumption) (by omega) (hce)).callV (rest := []) X dX12_runCommand_80 q1208 tX12_begins hK (hP.sub [0, 1] rfl) ((hE.kept hS.2.1).narrow (fun _ h => h.elim)) (va_recv hK (hP.sub [0, 1] rfl) (ci := 11) (q0 := 0) rfl rfl) hl ⟨⟨Nat.le_of_ble_eq_true rfl, Nat.le_of_ble_eq_true rfl⟩, Nat.le_of_ble_eq_true rfl, Nat.le_of_ble_eq_true rfl⟩ rfl rfl (Nat.le_of_ble_eq_true rfl) ?_
                refine b_if_eq (tgt := 90) X dX12_runCommand_83 (by decide) (fun c83 => ?_) (fun c83 => ?_)
                · refine lv_iconst (v := (-1)) X.1 X.2.1 dX12_runCommand_90 (by decide) ?_
                  have hk9 : kdI c = (-6) := by unfold kdI; simp [kdL, c41, c55, c69, c83]
                  refine lv_istore_n (lv' := [(3, .int (-1)), (2, .int (nI i)), (1, .int (nI c.length)), (0, .ref m0)]) X.1 X.2.1 dX12_runCommand_91 rfl hl (by decide) rfl (fun ls hl => ?_)
                  refine lv_iload_n X.1 X.2.1 dX12_runCommand_92 rfl (lv_at hl 0 rfl) ?_
                  refine z_if_ge (tgt := 99) X dX12_runCommand_93 (by decide) (show Int32.toInt ((-1)) = (-1) from rfl) (fun c93 => ?_) (fun c93 => ?_)
                  · exfalso; omega
                  · refine lv_bipush (v := (-6)) X.1 X.2.1 dX12_runCommand_96 (by decide) ?_
                    exact MuI.ret X hr hlk hK hS dX12_runCommand_98 (nI_nar _) fc (hP.sub [0, 1] rfl) (hD.sub [0, 1] (by decide) rfl) (⟨by rw [hk9]; rfl, hfn⟩)
                · refine lv_iconst (v := (nI 3)) X.1 X.2.1 dX12_runCommand_86 (by decide) ?_
                  refine lv_goto (tgt := 91) X.1 X.2.1 dX12_runCommand_87 (by decide) ?_
                  have hk9 : kdI c = nI 3 := by unfold kdI; simp [kdL, c41, c55, c69, c83]
                  refine lv_istore_n (lv' := [(3, .int (nI 3)), (2, .int (nI i)), (1, .int (nI c.length)), (0, .ref m0)]) X.1 X.2.1 dX12_runCommand_91 rfl hl (by decide) rfl (fun ls hl => ?_)
                  refine lv_iload_n X.1 X.2.1 dX12_runCommand_92 rfl (lv_at hl 0 rfl) ?_
                  refine z_if_ge (tgt := 99) X dX12_runCommand_93 (by decide) (nI_toInt (by omega)) (fun c93 => ?_) (fun c93 => ?_)
                  · refine lv_iload_n X.1 X.2.1 dX12_runCommand_99 rfl (lv_at hl 2 rfl) ?_
                    refine lv_iload_n X.1 X.2.1 dX12_runCommand_100 rfl (lv_at hl 1 rfl) ?_
                    refine lv_isub X.1 X.2.1 dX12_runCommand_101 ?_
                    refine tp_i (y := (iI (((c.length : Nat) : Int) - ((i : Nat) : Int)))) (by first | rw [iI_sub] | rw [nI_iI, nI_iI, iI_sub] | rw [nI_iI, iI_sub]) ?_
                    refine lv_iconst (v := (nI 1)) X.1 X.2.1 dX12_runCommand_102 (by decide) ?_
                    refine lv_isub X.1 X.2.1 dX12_runCommand_103 ?_
                    refine tp_i (y := (iI ((((c.length : Nat) : Int) - ((i : Nat) : Int)) - ((1 : Nat) : Int)))) (by first | rw [iI_sub] | rw [nI_iI, nI_iI, iI_sub] | rw [nI_iI, iI_sub]) ?_
                    refine lv_istore (lv' := [(4, .int (iI ((((c.length : Nat) : Int) - ((i : Nat) : Int)) - ((1 : Nat) : Int)))), (3, .int (nI 3)), (2, .int (nI i)), (1, .int (nI c.length)), (0, .ref m0)]) X.1 X.2.1 dX12_runCommand_104 hl (by decide) rfl (fun ls hl => ?_)
                    refine lv_iload_n X.1 X.2.1 dX12_runCommand_106 rfl (lv_at hl 2 rfl) ?_
                    refine lv_iload_n X.1 X.2.1 dX12_runCommand_107 rfl (lv_at hl 3 rfl) ?_
                    refine z_icmp_ge (tgt := 123) X dX12_runCommand_108 (by decide) (nI_toInt (by omega)) (nI_toInt (by omega)) (fun c108 => ?_) (fun c108 => ?_)
                    · refine lv_iconst (v := (nI 0)) X.1 X.2.1 dX12_runCommand_123 (by decide) ?_
                      refine lv_istore (lv' := [(5, .int (nI 0)), (4, .int (iI ((((c.length : Nat) : Int) - ((i : Nat) : Int)) - ((1 : Nat) : Int)))), (3, .int (nI 3)), (2, .int (nI i)), (1, .int (nI c.length)), (0, .ref m0)]) X.1 X.2.1 dX12_runCommand_124 hl (by decide) rfl (fun ls hl => ?_)
                      refine lv_iload_n X.1 X.2.1 dX12_runCommand_126 rfl (lv_at hl 3 rfl) ?_
                      refine lv_iconst (v := (nI 1)) X.1 X.2.1 dX12_runCommand_127 (by decide) ?_
                      refine n_add X dX12_runCommand_128 ?_
                      refine lv_istore (lv' := [(6, .int (nI (i + 1))), (5, .int (nI 0)), (4, .int (iI ((((c.length : Nat) : Int) - ((i : Nat) : Int)) - ((1 : Nat) : Int)))), (3, .int (nI 3)), (2, .int (nI i)), (1, .int (nI c.length)), (0, .ref m0)]) X.1 X.2.1 dX12_runCommand_129 hl (by decide) rfl (fun ls hl => ?_)
                      have L131 : ∀ (rn : Nat) (v : Nat) (t : Nat) (h2 : t + rn = c.length ∨ (rn = 0 ∧ t = c.length + 1 ∧ i = c.length)) (hti : i < t) (hvb : (t = i + 1 ∧ v = 0) ∨ (t = i + 2 ∧ v < 10) ∨ (t = i + 3 ∧ v < 100) ∨ (t = i + 4 ∧ v < 1000)) (hqn : nmL c rn t v = paI c) (ls : Array Slot) (hl : lv_has ls 7 [(6, .int (nI t)), (5, .int (nI v)), (4, .int (iI ((((c.length : Nat) : Int) - ((i : Nat) : Int)) - ((1 : Nat) : Int)))), (3, .int (nI 3)), (2, .int (nI i)), (1, .int (nI c.length)), (0, .ref m0)]), W p_ l_ e_ { frames := 7, cells := 0, slots := 0, locals := 161 } S_ m_ args below meth co H locs 0 0 (MQ below (va_Qi (S := (Nat → Int32)) (fun r fc1 => r = (if (kdI c).toInt = -6 then (-6) else (-1)) ∧ rep fc1 []) (MuB g A (fun fc1 => [(m0, .inr (11, [.int (nI k), .int (nI n), .ref lt, .int (nI s.length), .ref er, .ref el, .int (nI h.length), .ref cm_, .int (nI (([] : List Nat).length)), .int (bI tk), .int (nI k0), .int (nI n0), .ref sv, .int (nI s0.length), .ref md, .int (nI z.length), .ref fmm, .ref lc, .ref lz, .ref af, .ref pt_, .int (nI p.length), .ref oc, .ref ty_, .ref sz_, .ref em])), (cm_, .inl (g.2.1, 20, .inl fc1))])) A) args S_ 0 0 A) (F0 m_ 131 ls []) := by
                        intro rn
                        induction rn with
                        | zero =>
                          intro v t h2 hti hvb hqn ls hl
                          refine lv_iload X.1 X.2.1 dX12_runCommand_131 (lv_at hl 0 rfl) ?_
                          refine lv_iload_n X.1 X.2.1 dX12_runCommand_133 rfl (lv_at hl 5 rfl) ?_
                          refine z_icmp_ge (tgt := 180) X dX12_runCommand_134 (by decide) (nI_toInt (by omega)) (nI_toInt (by omega)) (fun c134 => ?_) (fun c134 => ?_)
                          · refine lv_aload_n X.1 X.2.1 dX12_runCommand_180 rfl (lv_at hl 6 rfl) ?_
                            refine lv_iload_n X.1 X.2.1 dX12_runCommand_181 rfl (lv_at hl 3 rfl) ?_
                            refine lv_iload X.1 X.2.1 dX12_runCommand_182 (lv_at hl 1 rfl) ?_
                            have hv9 : nI v = paI c := hqn
                            have hno2 : ¬ (0 ≤ (nI 3).toInt ∧ (nI 3).toInt ≤ 3) ∨ ((nI 3).toInt = 3 ∧ ¬ (0 ≤ (nI v).toInt ∧ (nI v).toInt < (T : Int))) := rc_no hno hk9 hv9 (by decide) (by rw [nI_toInt (by omega)]; omega)
                            refine (m_construct_no g m0 lt er el cm_ sv md fmm lc lz af pt_ oc ty_ sz_ em k n s h ([] : List Nat) tk k0 n0 s0 z p B T (nI 3) (nI v) (by assumption) (hno2)).callV (rest := []) X dX12_runCommand_184 q1217 tX12_construct hK (hP.sub [0] rfl) 0 11 rfl rfl rfl hl ⟨⟨Nat.le_of_ble_eq_true rfl, Nat.le_of_ble_eq_true rfl⟩, Nat.le_of_ble_eq_true rfl, Nat.le_of_ble_eq_true rfl⟩ rfl rfl (Nat.le_of_ble_eq_true rfl) ?_
                            exact MuI.ret X hr hlk hK hS dX12_runCommand_187 (nI_nar _) fc (hP.sub [0, 1] rfl) (hD.sub [0, 1] (by decide) rfl) (⟨by rw [hk9, if_neg (by decide)], hfn⟩)
                          · exfalso; omega
                        | succ rn ih131 =>
                          intro v t h2 hti hvb hqn ls hl
                          refine lv_iload X.1 X.2.1 dX12_runCommand_131 (lv_at hl 0 rfl) ?_
                          refine lv_iload_n X.1 X.2.1 dX12_runCommand_133 rfl (lv_at hl 5 rfl) ?_
                          refine z_icmp_ge (tgt := 180) X dX12_runCommand_134 (by decide) (nI_toInt (by omega)) (nI_toInt (by omega)) (fun c134 => ?_) (fun c134 => ?_)
                          · exfalso; omega
                          · refine lv_aload_n X.1 X.2.1 dX12_runCommand_137 rfl (lv_at hl 6 rfl) ?_
                            refine va_get (D := g.1) (ci := 11) (v := .ref cm_) (C := RX12) (T := TX12) (N := 26) X.1 X.2.1 X.2.2.2.2 iwX12 X.2.2.2.1 hK hP 0 rfl rfl 7 (by decide) (X.2.2.2.2 _ q1027) (fun _ h9 => h9) rfl dX12_runCommand_138 ?_
                            refine lv_iload X.1 X.2.1 dX12_runCommand_141 (lv_at hl 0 rfl) ?_
                            refine n_iald X hK hP 1 0 rfl rfl (by omega) (by decide) dX12_runCommand_143 ?_
                            have hbt := hbc t
                            refine tp_i (y := (nI (c.getD t 0))) (hfc t (by omega)) ?_
                            refine lv_bipush (v := (nI 48)) X.1 X.2.1 dX12_runCommand_144 (by decide) ?_
                            refine lv_bipush (v := (nI 57)) X.1 X.2.1 dX12_runCommand_146 (by decide) ?_
                            refine (c_inN g (nI (c.getD t 0)) 48 57 (by omega) (by omega)).callS (rest := []) X dX12_runCommand_148 q1103 tX12_in hK (hP.sub [] rfl) hl ⟨⟨Nat.le_of_ble_eq_true rfl, Nat.le_of_ble_eq_true rfl⟩, Nat.le_of_ble_eq_true rfl, Nat.le_of_ble_eq_true rfl⟩ rfl rfl (Nat.le_of_ble_eq_true rfl) ?_
                            refine b_if_ne (tgt := 156) X dX12_runCommand_151 (by decide) (fun c151 => ?_) (fun c151 => ?_)
                            · have h4 := of_decide_eq_true c151
                              rw [nI_toInt (by omega)] at h4
                              refine lv_bipush (v := (nI 10)) X.1 X.2.1 dX12_runCommand_156 (by decide) ?_
                              refine lv_iload X.1 X.2.1 dX12_runCommand_158 (lv_at hl 1 rfl) ?_
                              refine n_mul X dX12_runCommand_160 ?_
                              refine lv_aload_n X.1 X.2.1 dX12_runCommand_161 rfl (lv_at hl 6 rfl) ?_
                              refine va_get (D := g.1) (ci := 11) (v := .ref cm_) (C := RX12) (T := TX12) (N := 26) X.1 X.2.1 X.2.2.2.2 iwX12 X.2.2.2.1 hK hP 0 rfl rfl 7 (by decide) (X.2.2.2.2 _ q1027) (fun _ h9 => h9) rfl dX12_runCommand_162 ?_
                              refine lv_iload X.1 X.2.1 dX12_runCommand_165 (lv_at hl 0 rfl) ?_
                              refine n_iald X hK hP 1 0 rfl rfl (by omega) (by decide) dX12_runCommand_167 ?_
                              refine tp_i (y := (nI (c.getD t 0))) (hfc t (by omega)) ?_
                              refine n_add X dX12_runCommand_168 ?_
                              refine lv_bipush (v := (nI 48)) X.1 X.2.1 dX12_runCommand_169 (by decide) ?_
                              refine n_sub X dX12_runCommand_171 (by omega) ?_
                              refine lv_istore (lv' := [(5, .int (nI ((10 * v + (c.getD t 0)) - 48))), (6, .int (nI t)), (4, .int (iI ((((c.length : Nat) : Int) - ((i : Nat) : Int)) - ((1 : Nat) : Int)))), (3, .int (nI 3)), (2, .int (nI i)), (1, .int (nI c.length)), (0, .ref m0)]) X.1 X.2.1 dX12_runCommand_172 hl (by decide) rfl (fun ls hl => ?_)
                              refine lv_iinc (v := (nI (t + 1))) (lv' := [(6, .int (nI (t + 1))), (5, .int (nI ((10 * v + (c.getD t 0)) - 48))), (4, .int (iI ((((c.length : Nat) : Int) - ((i : Nat) : Int)) - ((1 : Nat) : Int)))), (3, .int (nI 3)), (2, .int (nI i)), (1, .int (nI c.length)), (0, .ref m0)]) X.1 X.2.1 dX12_runCommand_174 hl (k := 1) rfl (nI_inc _) (by decide) rfl (fun ls hl => ?_)
                              refine lv_goto (tgt := 131) X.1 X.2.1 dX12_runCommand_177 (by decide) ?_
                              exact ih131 ((10 * v + (c.getD t 0)) - 48) (t + 1) (by omega) (by omega) (by omega) (by rw [nmL, if_pos (by omega)] at hqn; rw [show 10 * v + c.getD t 0 - 48 = v * 10 + (c.getD t 0 - 48) by omega]; exact hqn) ls (lv_sub hl [0, 1, 2, 3, 4, 5, 6] rfl)
                            · have h4 := of_decide_eq_false c151
                              rw [nI_toInt (by omega)] at h4
                              refine lv_iconst (v := (-1)) X.1 X.2.1 dX12_runCommand_154 (by decide) ?_
                              exact MuI.ret X hr hlk hK hS dX12_runCommand_155 (nI_nar _) fc (hP.sub [0, 1] rfl) (hD.sub [0, 1] (by decide) rfl) (⟨by rw [hk9, if_neg (by decide)], hfn⟩)
                      exact L131 (c.length - (i + 1)) 0 (i + 1) (by omega) (by omega) (by omega) (by unfold paI; first | (rw [if_pos (by omega), show c.length - (i + 1) = 0 by omega]; rfl) | (rw [if_neg (by omega), if_neg (by omega), ← hce])) ls (lv_sub hl [0, 1, 2, 3, 4, 5, 6] rfl)
                    · refine lv_iload X.1 X.2.1 dX12_runCommand_111 (lv_at hl 0 rfl) ?_
                      refine lv_iconst (v := (nI 1)) X.1 X.2.1 dX12_runCommand_113 (by decide) ?_
                      refine lv_iconst (v := (nI 3)) X.1 X.2.1 dX12_runCommand_114 (by decide) ?_
                      refine (c_inN g (iI ((((c.length : Nat) : Int) - ((i : Nat) : Int)) - ((1 : Nat) : Int))) 1 3 (by omega) (by omega)).callS (rest := []) X dX12_runCommand_115 q1103 tX12_in hK (hP.sub [] rfl) hl ⟨⟨Nat.le_of_ble_eq_true rfl, Nat.le_of_ble_eq_true rfl⟩, Nat.le_of_ble_eq_true rfl, Nat.le_of_ble_eq_true rfl⟩ rfl rfl (Nat.le_of_ble_eq_true rfl) ?_
                      refine b_if_ne (tgt := 123) X dX12_runCommand_118 (by decide) (fun c118 => ?_) (fun c118 => ?_)
                      · have h3 := of_decide_eq_true c118
                        rw [iI_toInt (by omega) (by omega)] at h3
                        refine lv_iconst (v := (nI 0)) X.1 X.2.1 dX12_runCommand_123 (by decide) ?_
                        refine lv_istore (lv' := [(5, .int (nI 0)), (4, .int (iI ((((c.length : Nat) : Int) - ((i : Nat) : Int)) - ((1 : Nat) : Int)))), (3, .int (nI 3)), (2, .int (nI i)), (1, .int (nI c.length)), (0, .ref m0)]) X.1 X.2.1 dX12_runCommand_124 hl (by decide) rfl (fun ls hl => ?_)
                        refine lv_iload_n X.1 X.2.1 dX12_runCommand_126 rfl (lv_at hl 3 rfl) ?_
                        refine lv_iconst (v := (nI 1)) X.1 X.2.1 dX12_runCommand_127 (by decide) ?_
                        refine n_add X dX12_runCommand_128 ?_
                        refine lv_istore (lv' := [(6, .int (nI (i + 1))), (5, .int (nI 0)), (4, .int (iI ((((c.length : Nat) : Int) - ((i : Nat) : Int)) - ((1 : Nat) : Int)))), (3, .int (nI 3)), (2, .int (nI i)), (1, .int (nI c.length)), (0, .ref m0)]) X.1 X.2.1 dX12_runCommand_129 hl (by decide) rfl (fun ls hl => ?_)
                        have L131 : ∀ (rn : Nat) (v : Nat) (t : Nat) (h2 : t + rn = c.length ∨ (rn = 0 ∧ t = c.length + 1 ∧ i = c.length)) (hti : i < t) (hvb : (t = i + 1 ∧ v = 0) ∨ (t = i + 2 ∧ v < 10) ∨ (t = i + 3 ∧ v < 100) ∨ (t = i + 4 ∧ v < 1000)) (hqn : nmL c rn t v = paI c) (ls : Array Slot) (hl : lv_has ls 7 [(6, .int (nI t)), (5, .int (nI v)), (4, .int (iI ((((c.length : Nat) : Int) - ((i : Nat) : Int)) - ((1 : Nat) : Int)))), (3, .int (nI 3)), (2, .int (nI i)), (1, .int (nI c.length)), (0, .ref m0)]), W p_ l_ e_ { frames := 7, cells := 0, slots := 0, locals := 161 } S_ m_ args below meth co H locs 0 0 (MQ below (va_Qi (S := (Nat → Int32)) (fun r fc1 => r = (if (kdI c).toInt = -6 then (-6) else (-1)) ∧ rep fc1 []) (MuB g A (fun fc1 => [(m0, .inr (11, [.int (nI k), .int (nI n), .ref lt, .int (nI s.length), .ref er, .ref el, .int (nI h.length), .ref cm_, .int (nI (([] : List Nat).length)), .int (bI tk), .int (nI k0), .int (nI n0), .ref sv, .int (nI s0.length), .ref md, .int (nI z.length), .ref fmm, .ref lc, .ref lz, .ref af, .ref pt_, .int (nI p.length), .ref oc, .ref ty_, .ref sz_, .ref em])), (cm_, .inl (g.2.1, 20, .inl fc1))])) A) args S_ 0 0 A) (F0 m_ 131 ls []) := by
                          intro rn
                          induction rn with
                          | zero =>
                            intro v t h2 hti hvb hqn ls hl
                            refine lv_iload X.1 X.2.1 dX12_runCommand_131 (lv_at hl 0 rfl) ?_
                            refine lv_iload_n X.1 X.2.1 dX12_runCommand_133 rfl (lv_at hl 5 rfl) ?_
                            refine z_icmp_ge (tgt := 180) X dX12_runCommand_134 (by decide) (nI_toInt (by omega)) (nI_toInt (by omega)) (fun c134 => ?_) (fun c134 => ?_)
                            · refine lv_aload_n X.1 X.2.1 dX12_runCommand_180 rfl (lv_at hl 6 rfl) ?_
                              refine lv_iload_n X.1 X.2.1 dX12_runCommand_181 rfl (lv_at hl 3 rfl) ?_
                              refine lv_iload X.1 X.2.1 dX12_runCommand_182 (lv_at hl 1 rfl) ?_
                              have hv9 : nI v = paI c := hqn
                              have hno2 : ¬ (0 ≤ (nI 3).toInt ∧ (nI 3).toInt ≤ 3) ∨ ((nI 3).toInt = 3 ∧ ¬ (0 ≤ (nI v).toInt ∧ (nI v).toInt < (T : Int))) := rc_no hno hk9 hv9 (by decide) (by rw [nI_toInt (by omega)]; omega)
                              refine (m_construct_no g m0 lt er el cm_ sv md fmm lc lz af pt_ oc ty_ sz_ em k n s h ([] : List Nat) tk k0 n0 s0 z p B T (nI 3) (nI v) (by assumption) (hno2)).callV (rest := []) X dX12_runCommand_184 q1217 tX12_construct hK (hP.sub [0] rfl) 0 11 rfl rfl rfl hl ⟨⟨Nat.le_of_ble_eq_true rfl, Nat.le_of_ble_eq_true rfl⟩, Nat.le_of_ble_eq_true rfl, Nat.le_of_ble_eq_true rfl⟩ rfl rfl (Nat.le_of_ble_eq_true rfl) ?_
                              exact MuI.ret X hr hlk hK hS dX12_runCommand_187 (nI_nar _) fc (hP.sub [0, 1] rfl) (hD.sub [0, 1] (by decide) rfl) (⟨by rw [hk9, if_neg (by decide)], hfn⟩)
                            · exfalso; omega
                          | succ rn ih131 =>
                            intro v t h2 hti hvb hqn ls hl
                            refine lv_iload X.1 X.2.1 dX12_runCommand_131 (lv_at hl 0 rfl) ?_
                            refine lv_iload_n X.1 X.2.1 dX12_runCommand_133 rfl (lv_at hl 5 rfl) ?_
                            refine z_icmp_ge (tgt := 180) X dX12_runCommand_134 (by decide) (nI_toInt (by omega)) (nI_toInt (by omega)) (fun c134 => ?_) (fun c134 => ?_)
                            · exfalso; omega
                            · refine lv_aload_n X.1 X.2.1 dX12_runCommand_137 rfl (lv_at hl 6 rfl) ?_
                              refine va_get (D := g.1) (ci := 11) (v := .ref cm_) (C := RX12) (T := TX12) (N := 26) X.1 X.2.1 X.2.2.2.2 iwX12 X.2.2.2.1 hK hP 0 rfl rfl 7 (by decide) (X.2.2.2.2 _ q1027) (fun _ h9 => h9) rfl dX12_runCommand_138 ?_
                              refine lv_iload X.1 X.2.1 dX12_runCommand_141 (lv_at hl 0 rfl) ?_
                              refine n_iald X hK hP 1 0 rfl rfl (by omega) (by decide) dX12_runCommand_143 ?_
                              have hbt := hbc t
                              refine tp_i (y := (nI (c.getD t 0))) (hfc t (by omega)) ?_
                              refine lv_bipush (v := (nI 48)) X.1 X.2.1 dX12_runCommand_144 (by decide) ?_
                              refine lv_bipush (v := (nI 57)) X.1 X.2.1 dX12_runCommand_146 (by decide) ?_
                              refine (c_inN g (nI (c.getD t 0)) 48 57 (by omega) (by omega)).callS (rest := []) X dX12_runCommand_148 q1103 tX12_in hK (hP.sub [] rfl) hl ⟨⟨Nat.le_of_ble_eq_true rfl, Nat.le_of_ble_eq_true rfl⟩, Nat.le_of_ble_eq_true rfl, Nat.le_of_ble_eq_true rfl⟩ rfl rfl (Nat.le_of_ble_eq_true rfl) ?_
                              refine b_if_ne (tgt := 156) X dX12_runCommand_151 (by decide) (fun c151 => ?_) (fun c151 => ?_)
                              · have h4 := of_decide_eq_true c151
                                rw [nI_toInt (by omega)] at h4
                                refine lv_bipush (v := (nI 10)) X.1 X.2.1 dX12_runCommand_156 (by decide) ?_
                                refine lv_iload X.1 X.2.1 dX12_runCommand_158 (lv_at hl 1 rfl) ?_
                                refine n_mul X dX12_runCommand_160 ?_
                                refine lv_aload_n X.1 X.2.1 dX12_runCommand_161 rfl (lv_at hl 6 rfl) ?_
                                refine va_get (D := g.1) (ci := 11) (v := .ref cm_) (C := RX12) (T := TX12) (N := 26) X.1 X.2.1 X.2.2.2.2 iwX12 X.2.2.2.1 hK hP 0 rfl rfl 7 (by decide) (X.2.2.2.2 _ q1027) (fun _ h9 => h9) rfl dX12_runCommand_162 ?_
                                refine lv_iload X.1 X.2.1 dX12_runCommand_165 (lv_at hl 0 rfl) ?_
                                refine n_iald X hK hP 1 0 rfl rfl (by omega) (by decide) dX12_runCommand_167 ?_
                                refine tp_i (y := (nI (c.getD t 0))) (hfc t (by omega)) ?_
                                refine n_add X dX12_runCommand_168 ?_
                                refine lv_bipush (v := (nI 48)) X.1 X.2.1 dX12_runCommand_169 (by decide) ?_
                                refine n_sub X dX12_runCommand_171 (by omega) ?_
                                refine lv_istore (lv' := [(5, .int (nI ((10 * v + (c.getD t 0)) - 48))), (6, .int (nI t)), (4, .int (iI ((((c.length : Nat) : Int) - ((i : Nat) : Int)) - ((1 : Nat) : Int)))), (3, .int (nI 3)), (2, .int (nI i)), (1, .int (nI c.length)), (0, .ref m0)]) X.1 X.2.1 dX12_runCommand_172 hl (by decide) rfl (fun ls hl => ?_)
                                refine lv_iinc (v := (nI (t + 1))) (lv' := [(6, .int (nI (t + 1))), (5, .int (nI ((10 * v + (c.getD t 0)) - 48))), (4, .int (iI ((((c.length : Nat) : Int) - ((i : Nat) : Int)) - ((1 : Nat) : Int)))), (3, .int (nI 3)), (2, .int (nI i)), (1, .int (nI c.length)), (0, .ref m0)]) X.1 X.2.1 dX12_runCommand_174 hl (k := 1) rfl (nI_inc _) (by decide) rfl (fun ls hl => ?_)
                                refine lv_goto (tgt := 131) X.1 X.2.1 dX12_runCommand_177 (by decide) ?_
                                exact ih131 ((10 * v + (c.getD t 0)) - 48) (t + 1) (by omega) (by omega) (by omega) (by rw [nmL, if_pos (by omega)] at hqn; rw [show 10 * v + c.getD t 0 - 48 = v * 10 + (c.getD t 0 - 48) by omega]; exact hqn) ls (lv_sub hl [0, 1, 2, 3, 4, 5, 6] rfl)
                              · have h4 := of_decide_eq_false c151
                                rw [nI_toInt (by omega)] at h4
                                refine lv_iconst (v := (-1)) X.1 X.2.1 dX12_runCommand_154 (by decide) ?_
                                exact MuI.ret X hr hlk hK hS dX12_runCommand_155 (nI_nar _) fc (hP.sub [0, 1] rfl) (hD.sub [0, 1] (by decide) rfl) (⟨by rw [hk9, if_neg (by decide)], hfn⟩)
                        exact L131 (c.length - (i + 1)) 0 (i + 1) (by omega) (by omega) (by omega) (by unfold paI; first | (rw [if_pos (by omega), show c.length - (i + 1) = 0 by omega]; rfl) | (rw [if_neg (by omega), if_neg (by omega), ← hce])) ls (lv_sub hl [0, 1, 2, 3, 4, 5, 6] rfl)
                      · have h3 := of_decide_eq_false c118
                        rw [iI_toInt (by omega) (by omega)] at h3
                        refine lv_iconst (v := (-1)) X.1 X.2.1 dX12_runCommand_121 (by decide) ?_
                        exact MuI.ret X hr hlk hK hS dX12_runCommand_122 (nI_nar _) fc (hP.sub [0, 1] rfl) (hD.sub [0, 1] (by decide) rfl) (⟨by rw [hk9, if_neg (by decide)], hfn⟩)
                  · exfalso; omega
              · refine lv_iconst (v := (nI 2)) X.1 X.2.1 dX12_runCommand_72 (by decide) ?_
                refine lv_goto (tgt := 91) X.1 X.2.1 dX12_runCommand_73 (by decide) ?_
                have hk9 : kdI c = nI 2 := by unfold kdI; simp [kdL, c41, c55, c69]
                refine lv_istore_n (lv' := [(3, .int (nI 2)), (2, .int (nI i)), (1, .int (nI c.length)), (0, .ref m0)]) X.1 X.2.1 dX12_runCommand_91 rfl hl (by decide) rfl (fun ls hl => ?_)
                refine lv_iload_n X.1 X.2.1 dX12_runCommand_92 rfl (lv_at hl 0 rfl) ?_
                refine z_if_ge (tgt := 99) X dX12_runCommand_93 (by decide) (nI_toInt (by omega)) (fun c93 => ?_) (fun c93 => ?_)
                · refine lv_iload_n X.1 X.2.1 dX12_runCommand_99 rfl (lv_at hl 2 rfl) ?_
                  refine lv_iload_n X.1 X.2.1 dX12_runCommand_100 rfl (lv_at hl 1 rfl) ?_
                  refine lv_isub X.1 X.2.1 dX12_runCommand_101 ?_
                  refine tp_i (y := (iI (((c.length : Nat) : Int) - ((i : Nat) : Int)))) (by first | rw [iI_sub] | rw [nI_iI, nI_iI, iI_sub] | rw [nI_iI, iI_sub]) ?_
                  refine lv_iconst (v := (nI 1)) X.1 X.2.1 dX12_runCommand_102 (by decide) ?_
                  refine lv_isub X.1 X.2.1 dX12_runCommand_103 ?_
                  refine tp_i (y := (iI ((((c.length : Nat) : Int) - ((i : Nat) : Int)) - ((1 : Nat) : Int)))) (by first | rw [iI_sub] | rw [nI_iI, nI_iI, iI_sub] | rw [nI_iI, iI_sub]) ?_
                  refine lv_istore (lv' := [(4, .int (iI ((((c.length : Nat) : Int) - ((i : Nat) : Int)) - ((1 : Nat) : Int)))), (3, .int (nI 2)), (2, .int (nI i)), (1, .int (nI c.length)), (0, .ref m0)]) X.1 X.2.1 dX12_runCommand_104 hl (by decide) rfl (fun ls hl => ?_)
                  refine lv_iload_n X.1 X.2.1 dX12_runCommand_106 rfl (lv_at hl 2 rfl) ?_
                  refine lv_iload_n X.1 X.2.1 dX12_runCommand_107 rfl (lv_at hl 3 rfl) ?_
                  refine z_icmp_ge (tgt := 123) X dX12_runCommand_108 (by decide) (nI_toInt (by omega)) (nI_toInt (by omega)) (fun c108 => ?_) (fun c108 => ?_)
                  · refine lv_iconst (v := (nI 0)) X.1 X.2.1 dX12_runCommand_123 (by decide) ?_
                    refine lv_istore (lv' := [(5, .int (nI 0)), (4, .int (iI ((((c.length : Nat) : Int) - ((i : Nat) : Int)) - ((1 : Nat) : Int)))), (3, .int (nI 2)), (2, .int (nI i)), (1, .int (nI c.length)), (0, .ref m0)]) X.1 X.2.1 dX12_runCommand_124 hl (by decide) rfl (fun ls hl => ?_)
                    refine lv_iload_n X.1 X.2.1 dX12_runCommand_126 rfl (lv_at hl 3 rfl) ?_
                    refine lv_iconst (v := (nI 1)) X.1 X.2.1 dX12_runCommand_127 (by decide) ?_
                    refine n_add X dX12_runCommand_128 ?_
                    refine lv_istore (lv' := [(6, .int (nI (i + 1))), (5, .int (nI 0)), (4, .int (iI ((((c.length : Nat) : Int) - ((i : Nat) : Int)) - ((1 : Nat) : Int)))), (3, .int (nI 2)), (2, .int (nI i)), (1, .int (nI c.length)), (0, .ref m0)]) X.1 X.2.1 dX12_runCommand_129 hl (by decide) rfl (fun ls hl => ?_)
                    have L131 : ∀ (rn : Nat) (v : Nat) (t : Nat) (h2 : t + rn = c.length ∨ (rn = 0 ∧ t = c.length + 1 ∧ i = c.length)) (hti : i < t) (hvb : (t = i + 1 ∧ v = 0) ∨ (t = i + 2 ∧ v < 10) ∨ (t = i + 3 ∧ v < 100) ∨ (t = i + 4 ∧ v < 1000)) (hqn : nmL c rn t v = paI c) (ls : Array Slot) (hl : lv_has ls 7 [(6, .int (nI t)), (5, .int (nI v)), (4, .int (iI ((((c.length : Nat) : Int) - ((i : Nat) : Int)) - ((1 : Nat) : Int)))), (3, .int (nI 2)), (2, .int (nI i)), (1, .int (nI c.length)), (0, .ref m0)]), W p_ l_ e_ { frames := 7, cells := 0, slots := 0, locals := 161 } S_ m_ args below meth co H locs 0 0 (MQ below (va_Qi (S := (Nat → Int32)) (fun r fc1 => r = (if (kdI c).toInt = -6 then (-6) else (-1)) ∧ rep fc1 []) (MuB g A (fun fc1 => [(m0, .inr (11, [.int (nI k), .int (nI n), .ref lt, .int (nI s.length), .ref er, .ref el, .int (nI h.length), .ref cm_, .int (nI (([] : List Nat).length)), .int (bI tk), .int (nI k0), .int (nI n0), .ref sv, .int (nI s0.length), .ref md, .int (nI z.length), .ref fmm, .ref lc, .ref lz, .ref af, .ref pt_, .int (nI p.length), .ref oc, .ref ty_, .ref sz_, .ref em])), (cm_, .inl (g.2.1, 20, .inl fc1))])) A) args S_ 0 0 A) (F0 m_ 131 ls []) := by
                      intro rn
                      induction rn with
                      | zero =>
                        intro v t h2 hti hvb hqn ls hl
                        refine lv_iload X.1 X.2.1 dX12_runCommand_131 (lv_at hl 0 rfl) ?_
                        refine lv_iload_n X.1 X.2.1 dX12_runCommand_133 rfl (lv_at hl 5 rfl) ?_
                        refine z_icmp_ge (tgt := 180) X dX12_runCommand_134 (by decide) (nI_toInt (by omega)) (nI_toInt (by omega)) (fun c134 => ?_) (fun c134 => ?_)
                        · refine lv_aload_n X.1 X.2.1 dX12_runCommand_180 rfl (lv_at hl 6 rfl) ?_
                          refine lv_iload_n X.1 X.2.1 dX12_runCommand_181 rfl (lv_at hl 3 rfl) ?_
                          refine lv_iload X.1 X.2.1 dX12_runCommand_182 (lv_at hl 1 rfl) ?_
                          have hv9 : nI v = paI c := hqn
                          have hno2 : ¬ (0 ≤ (nI 2).toInt ∧ (nI 2).toInt ≤ 3) ∨ ((nI 2).toInt = 3 ∧ ¬ (0 ≤ (nI v).toInt ∧ (nI v).toInt < (T : Int))) := rc_no hno hk9 hv9 (by decide) (by rw [nI_toInt (by omega)]; omega)
                          refine (m_construct_no g m0 lt er el cm_ sv md fmm lc lz af pt_ oc ty_ sz_ em k n s h ([] : List Nat) tk k0 n0 s0 z p B T (nI 2) (nI v) (by assumption) (hno2)).callV (rest := []) X dX12_runCommand_184 q1217 tX12_construct hK (hP.sub [0] rfl) 0 11 rfl rfl rfl hl ⟨⟨Nat.le_of_ble_eq_true rfl, Nat.le_of_ble_eq_true rfl⟩, Nat.le_of_ble_eq_true rfl, Nat.le_of_ble_eq_true rfl⟩ rfl rfl (Nat.le_of_ble_eq_true rfl) ?_
                          exact MuI.ret X hr hlk hK hS dX12_runCommand_187 (nI_nar _) fc (hP.sub [0, 1] rfl) (hD.sub [0, 1] (by decide) rfl) (⟨by rw [hk9, if_neg (by decide)], hfn⟩)
                        · exfalso; omega
                      | succ rn ih131 =>
                        intro v t h2 hti hvb hqn ls hl
                        refine lv_iload X.1 X.2.1 dX12_runCommand_131 (lv_at hl 0 rfl) ?_
                        refine lv_iload_n X.1 X.2.1 dX12_runCommand_133 rfl (lv_at hl 5 rfl) ?_
                        refine z_icmp_ge (tgt := 180) X dX12_runCommand_134 (by decide) (nI_toInt (by omega)) (nI_toInt (by omega)) (fun c134 => ?_) (fun c134 => ?_)
                        · exfalso; omega
                        · refine lv_aload_n X.1 X.2.1 dX12_runCommand_137 rfl (lv_at hl 6 rfl) ?_
                          refine va_get (D := g.1) (ci := 11) (v := .ref cm_) (C := RX12) (T := TX12) (N := 26) X.1 X.2.1 X.2.2.2.2 iwX12 X.2.2.2.1 hK hP 0 rfl rfl 7 (by decide) (X.2.2.2.2 _ q1027) (fun _ h9 => h9) rfl dX12_runCommand_138 ?_
                          refine lv_iload X.1 X.2.1 dX12_runCommand_141 (lv_at hl 0 rfl) ?_
                          refine n_iald X hK hP 1 0 rfl rfl (by omega) (by decide) dX12_runCommand_143 ?_
                          have hbt := hbc t
                          refine tp_i (y := (nI (c.getD t 0))) (hfc t (by omega)) ?_
                          refine lv_bipush (v := (nI 48)) X.1 X.2.1 dX12_runCommand_144 (by decide) ?_
                          refine lv_bipush (v := (nI 57)) X.1 X.2.1 dX12_runCommand_146 (by decide) ?_
                          refine (c_inN g (nI (c.getD t 0)) 48 57 (by omega) (by omega)).callS (rest := []) X dX12_runCommand_148 q1103 tX12_in hK (hP.sub [] rfl) hl ⟨⟨Nat.le_of_ble_eq_true rfl, Nat.le_of_ble_eq_true rfl⟩, Nat.le_of_ble_eq_true rfl, Nat.le_of_ble_eq_true rfl⟩ rfl rfl (Nat.le_of_ble_eq_true rfl) ?_
                          refine b_if_ne (tgt := 156) X dX12_runCommand_151 (by decide) (fun c151 => ?_) (fun c151 => ?_)
                          · have h4 := of_decide_eq_true c151
                            rw [nI_toInt (by omega)] at h4
                            refine lv_bipush (v := (nI 10)) X.1 X.2.1 dX12_runCommand_156 (by decide) ?_
                            refine lv_iload X.1 X.2.1 dX12_runCommand_158 (lv_at hl 1 rfl) ?_
                            refine n_mul X dX12_runCommand_160 ?_
                            refine lv_aload_n X.1 X.2.1 dX12_runCommand_161 rfl (lv_at hl 6 rfl) ?_
                            refine va_get (D := g.1) (ci := 11) (v := .ref cm_) (C := RX12) (T := TX12) (N := 26) X.1 X.2.1 X.2.2.2.2 iwX12 X.2.2.2.1 hK hP 0 rfl rfl 7 (by decide) (X.2.2.2.2 _ q1027) (fun _ h9 => h9) rfl dX12_runCommand_162 ?_
                            refine lv_iload X.1 X.2.1 dX12_runCommand_165 (lv_at hl 0 rfl) ?_
                            refine n_iald X hK hP 1 0 rfl rfl (by omega) (by decide) dX12_runCommand_167 ?_
                            refine tp_i (y := (nI (c.getD t 0))) (hfc t (by omega)) ?_
                            refine n_add X dX12_runCommand_168 ?_
                            refine lv_bipush (v := (nI 48)) X.1 X.2.1 dX12_runCommand_169 (by decide) ?_
                            refine n_sub X dX12_runCommand_171 (by omega) ?_
                            refine lv_istore (lv' := [(5, .int (nI ((10 * v + (c.getD t 0)) - 48))), (6, .int (nI t)), (4, .int (iI ((((c.length : Nat) : Int) - ((i : Nat) : Int)) - ((1 : Nat) : Int)))), (3, .int (nI 2)), (2, .int (nI i)), (1, .int (nI c.length)), (0, .ref m0)]) X.1 X.2.1 dX12_runCommand_172 hl (by decide) rfl (fun ls hl => ?_)
                            refine lv_iinc (v := (nI (t + 1))) (lv' := [(6, .int (nI (t + 1))), (5, .int (nI ((10 * v + (c.getD t 0)) - 48))), (4, .int (iI ((((c.length : Nat) : Int) - ((i : Nat) : Int)) - ((1 : Nat) : Int)))), (3, .int (nI 2)), (2, .int (nI i)), (1, .int (nI c.length)), (0, .ref m0)]) X.1 X.2.1 dX12_runCommand_174 hl (k := 1) rfl (nI_inc _) (by decide) rfl (fun ls hl => ?_)
                            refine lv_goto (tgt := 131) X.1 X.2.1 dX12_runCommand_177 (by decide) ?_
                            exact ih131 ((10 * v + (c.getD t 0)) - 48) (t + 1) (by omega) (by omega) (by omega) (by rw [nmL, if_pos (by omega)] at hqn; rw [show 10 * v + c.getD t 0 - 48 = v * 10 + (c.getD t 0 - 48) by omega]; exact hqn) ls (lv_sub hl [0, 1, 2, 3, 4, 5, 6] rfl)
                          · have h4 := of_decide_eq_false c151
                            rw [nI_toInt (by omega)] at h4
                            refine lv_iconst (v := (-1)) X.1 X.2.1 dX12_runCommand_154 (by decide) ?_
                            exact MuI.ret X hr hlk hK hS dX12_runCommand_155 (nI_nar _) fc (hP.sub [0, 1] rfl) (hD.sub [0, 1] (by decide) rfl) (⟨by rw [hk9, if_neg (by decide)], hfn⟩)
                    exact L131 (c.length - (i + 1)) 0 (i + 1) (by omega) (by omega) (by omega) (by unfold paI; first | (rw [if_pos (by omega), show c.length - (i + 1) = 0 by omega]; rfl) | (rw [if_neg (by omega), if_neg (by omega), ← hce])) ls (lv_sub hl [0, 1, 2, 3, 4, 5, 6] rfl)
                  · refine lv_iload X.1 X.2.1 dX12_runCommand_111 (lv_at hl 0 rfl) ?_
                    refine lv_iconst (v := (nI 1)) X.1 X.2.1 dX12_runCommand_113 (by decide) ?_
                    refine lv_iconst (v := (nI 3)) X.1 X.2.1 dX12_runCommand_114 (by decide) ?_
                    refine (c_inN g (iI ((((c.length : Nat) : Int) - ((i : Nat) : Int)) - ((1 : Nat) : Int))) 1 3 (by omega) (by omega)).callS (rest := []) X dX12_runCommand_115 q1103 tX12_in hK (hP.sub [] rfl) hl ⟨⟨Nat.le_of_ble_eq_true rfl, Nat.le_of_ble_eq_true rfl⟩, Nat.le_of_ble_eq_true rfl, Nat.le_of_ble_eq_true rfl⟩ rfl rfl (Nat.le_of_ble_eq_true rfl) ?_
                    refine b_if_ne (tgt := 123) X dX12_runCommand_118 (by decide) (fun c118 => ?_) (fun c118 => ?_)
                    · have h3 := of_decide_eq_true c118
                      rw [iI_toInt (by omega) (by omega)] at h3
                      refine lv_iconst (v := (nI 0)) X.1 X.2.1 dX12_runCommand_123 (by decide) ?_
                      refine lv_istore (lv' := [(5, .int (nI 0)), (4, .int (iI ((((c.length : Nat) : Int) - ((i : Nat) : Int)) - ((1 : Nat) : Int)))), (3, .int (nI 2)), (2, .int (nI i)), (1, .int (nI c.length)), (0, .ref m0)]) X.1 X.2.1 dX12_runCommand_124 hl (by decide) rfl (fun ls hl => ?_)
                      refine lv_iload_n X.1 X.2.1 dX12_runCommand_126 rfl (lv_at hl 3 rfl) ?_
                      refine lv_iconst (v := (nI 1)) X.1 X.2.1 dX12_runCommand_127 (by decide) ?_
                      refine n_add X dX12_runCommand_128 ?_
                      refine lv_istore (lv' := [(6, .int (nI (i + 1))), (5, .int (nI 0)), (4, .int (iI ((((c.length : Nat) : Int) - ((i : Nat) : Int)) - ((1 : Nat) : Int)))), (3, .int (nI 2)), (2, .int (nI i)), (1, .int (nI c.length)), (0, .ref m0)]) X.1 X.2.1 dX12_runCommand_129 hl (by decide) rfl (fun ls hl => ?_)
                      have L131 : ∀ (rn : Nat) (v : Nat) (t : Nat) (h2 : t + rn = c.length ∨ (rn = 0 ∧ t = c.length + 1 ∧ i = c.length)) (hti : i < t) (hvb : (t = i + 1 ∧ v = 0) ∨ (t = i + 2 ∧ v < 10) ∨ (t = i + 3 ∧ v < 100) ∨ (t = i + 4 ∧ v < 1000)) (hqn : nmL c rn t v = paI c) (ls : Array Slot) (hl : lv_has ls 7 [(6, .int (nI t)), (5, .int (nI v)), (4, .int (iI ((((c.length : Nat) : Int) - ((i : Nat) : Int)) - ((1 : Nat) : Int)))), (3, .int (nI 2)), (2, .int (nI i)), (1, .int (nI c.length)), (0, .ref m0)]), W p_ l_ e_ { frames := 7, cells := 0, slots := 0, locals := 161 } S_ m_ args below meth co H locs 0 0 (MQ below (va_Qi (S := (Nat → Int32)) (fun r fc1 => r = (if (kdI c).toInt = -6 then (-6) else (-1)) ∧ rep fc1 []) (MuB g A (fun fc1 => [(m0, .inr (11, [.int (nI k), .int (nI n), .ref lt, .int (nI s.length), .ref er, .ref el, .int (nI h.length), .ref cm_, .int (nI (([] : List Nat).length)), .int (bI tk), .int (nI k0), .int (nI n0), .ref sv, .int (nI s0.length), .ref md, .int (nI z.length), .ref fmm, .ref lc, .ref lz, .ref af, .ref pt_, .int (nI p.length), .ref oc, .ref ty_, .ref sz_, .ref em])), (cm_, .inl (g.2.1, 20, .inl fc1))])) A) args S_ 0 0 A) (F0 m_ 131 ls []) := by
                        intro rn
                        induction rn with
                        | zero =>
                          intro v t h2 hti hvb hqn ls hl
                          refine lv_iload X.1 X.2.1 dX12_runCommand_131 (lv_at hl 0 rfl) ?_
                          refine lv_iload_n X.1 X.2.1 dX12_runCommand_133 rfl (lv_at hl 5 rfl) ?_
                          refine z_icmp_ge (tgt := 180) X dX12_runCommand_134 (by decide) (nI_toInt (by omega)) (nI_toInt (by omega)) (fun c134 => ?_) (fun c134 => ?_)
                          · refine lv_aload_n X.1 X.2.1 dX12_runCommand_180 rfl (lv_at hl 6 rfl) ?_
                            refine lv_iload_n X.1 X.2.1 dX12_runCommand_181 rfl (lv_at hl 3 rfl) ?_
                            refine lv_iload X.1 X.2.1 dX12_runCommand_182 (lv_at hl 1 rfl) ?_
                            have hv9 : nI v = paI c := hqn
                            have hno2 : ¬ (0 ≤ (nI 2).toInt ∧ (nI 2).toInt ≤ 3) ∨ ((nI 2).toInt = 3 ∧ ¬ (0 ≤ (nI v).toInt ∧ (nI v).toInt < (T : Int))) := rc_no hno hk9 hv9 (by decide) (by rw [nI_toInt (by omega)]; omega)
                            refine (m_construct_no g m0 lt er el cm_ sv md fmm lc lz af pt_ oc ty_ sz_ em k n s h ([] : List Nat) tk k0 n0 s0 z p B T (nI 2) (nI v) (by assumption) (hno2)).callV (rest := []) X dX12_runCommand_184 q1217 tX12_construct hK (hP.sub [0] rfl) 0 11 rfl rfl rfl hl ⟨⟨Nat.le_of_ble_eq_true rfl, Nat.le_of_ble_eq_true rfl⟩, Nat.le_of_ble_eq_true rfl, Nat.le_of_ble_eq_true rfl⟩ rfl rfl (Nat.le_of_ble_eq_true rfl) ?_
                            exact MuI.ret X hr hlk hK hS dX12_runCommand_187 (nI_nar _) fc (hP.sub [0, 1] rfl) (hD.sub [0, 1] (by decide) rfl) (⟨by rw [hk9, if_neg (by decide)], hfn⟩)
                          · exfalso; omega
                        | succ rn ih131 =>
                          intro v t h2 hti hvb hqn ls hl
                          refine lv_iload X.1 X.2.1 dX12_runCommand_131 (lv_at hl 0 rfl) ?_
                          refine lv_iload_n X.1 X.2.1 dX12_runCommand_133 rfl (lv_at hl 5 rfl) ?_
                          refine z_icmp_ge (tgt := 180) X dX12_runCommand_134 (by decide) (nI_toInt (by omega)) (nI_toInt (by omega)) (fun c134 => ?_) (fun c134 => ?_)
                          · exfalso; omega
                          · refine lv_aload_n X.1 X.2.1 dX12_runCommand_137 rfl (lv_at hl 6 rfl) ?_
                            refine va_get (D := g.1) (ci := 11) (v := .ref cm_) (C := RX12) (T := TX12) (N := 26) X.1 X.2.1 X.2.2.2.2 iwX12 X.2.2.2.1 hK hP 0 rfl rfl 7 (by decide) (X.2.2.2.2 _ q1027) (fun _ h9 => h9) rfl dX12_runCommand_138 ?_
                            refine lv_iload X.1 X.2.1 dX12_runCommand_141 (lv_at hl 0 rfl) ?_
                            refine n_iald X hK hP 1 0 rfl rfl (by omega) (by decide) dX12_runCommand_143 ?_
                            have hbt := hbc t
                            refine tp_i (y := (nI (c.getD t 0))) (hfc t (by omega)) ?_
                            refine lv_bipush (v := (nI 48)) X.1 X.2.1 dX12_runCommand_144 (by decide) ?_
                            refine lv_bipush (v := (nI 57)) X.1 X.2.1 dX12_runCommand_146 (by decide) ?_
                            refine (c_inN g (nI (c.getD t 0)) 48 57 (by omega) (by omega)).callS (rest := []) X dX12_runCommand_148 q1103 tX12_in hK (hP.sub [] rfl) hl ⟨⟨Nat.le_of_ble_eq_true rfl, Nat.le_of_ble_eq_true rfl⟩, Nat.le_of_ble_eq_true rfl, Nat.le_of_ble_eq_true rfl⟩ rfl rfl (Nat.le_of_ble_eq_true rfl) ?_
                            refine b_if_ne (tgt := 156) X dX12_runCommand_151 (by decide) (fun c151 => ?_) (fun c151 => ?_)
                            · have h4 := of_decide_eq_true c151
                              rw [nI_toInt (by omega)] at h4
                              refine lv_bipush (v := (nI 10)) X.1 X.2.1 dX12_runCommand_156 (by decide) ?_
                              refine lv_iload X.1 X.2.1 dX12_runCommand_158 (lv_at hl 1 rfl) ?_
                              refine n_mul X dX12_runCommand_160 ?_
                              refine lv_aload_n X.1 X.2.1 dX12_runCommand_161 rfl (lv_at hl 6 rfl) ?_
                              refine va_get (D := g.1) (ci := 11) (v := .ref cm_) (C := RX12) (T := TX12) (N := 26) X.1 X.2.1 X.2.2.2.2 iwX12 X.2.2.2.1 hK hP 0 rfl rfl 7 (by decide) (X.2.2.2.2 _ q1027) (fun _ h9 => h9) rfl dX12_runCommand_162 ?_
                              refine lv_iload X.1 X.2.1 dX12_runCommand_165 (lv_at hl 0 rfl) ?_
                              refine n_iald X hK hP 1 0 rfl rfl (by omega) (by decide) dX12_runCommand_167 ?_
                              refine tp_i (y := (nI (c.getD t 0))) (hfc t (by omega)) ?_
                              refine n_add X dX12_runCommand_168 ?_
                              refine lv_bipush (v := (nI 48)) X.1 X.2.1 dX12_runCommand_169 (by decide) ?_
                              refine n_sub X dX12_runCommand_171 (by omega) ?_
                              refine lv_istore (lv' := [(5, .int (nI ((10 * v + (c.getD t 0)) - 48))), (6, .int (nI t)), (4, .int (iI ((((c.length : Nat) : Int) - ((i : Nat) : Int)) - ((1 : Nat) : Int)))), (3, .int (nI 2)), (2, .int (nI i)), (1, .int (nI c.length)), (0, .ref m0)]) X.1 X.2.1 dX12_runCommand_172 hl (by decide) rfl (fun ls hl => ?_)
                              refine lv_iinc (v := (nI (t + 1))) (lv' := [(6, .int (nI (t + 1))), (5, .int (nI ((10 * v + (c.getD t 0)) - 48))), (4, .int (iI ((((c.length : Nat) : Int) - ((i : Nat) : Int)) - ((1 : Nat) : Int)))), (3, .int (nI 2)), (2, .int (nI i)), (1, .int (nI c.length)), (0, .ref m0)]) X.1 X.2.1 dX12_runCommand_174 hl (k := 1) rfl (nI_inc _) (by decide) rfl (fun ls hl => ?_)
                              refine lv_goto (tgt := 131) X.1 X.2.1 dX12_runCommand_177 (by decide) ?_
                              exact ih131 ((10 * v + (c.getD t 0)) - 48) (t + 1) (by omega) (by omega) (by omega) (by rw [nmL, if_pos (by omega)] at hqn; rw [show 10 * v + c.getD t 0 - 48 = v * 10 + (c.getD t 0 - 48) by omega]; exact hqn) ls (lv_sub hl [0, 1, 2, 3, 4, 5, 6] rfl)
                            · have h4 := of_decide_eq_false c151
                              rw [nI_toInt (by omega)] at h4
                              refine lv_iconst (v := (-1)) X.1 X.2.1 dX12_runCommand_154 (by decide) ?_
                              exact MuI.ret X hr hlk hK hS dX12_runCommand_155 (nI_nar _) fc (hP.sub [0, 1] rfl) (hD.sub [0, 1] (by decide) rfl) (⟨by rw [hk9, if_neg (by decide)], hfn⟩)
                      exact L131 (c.length - (i + 1)) 0 (i + 1) (by omega) (by omega) (by omega) (by unfold paI; first | (rw [if_pos (by omega), show c.length - (i + 1) = 0 by omega]; rfl) | (rw [if_neg (by omega), if_neg (by omega), ← hce])) ls (lv_sub hl [0, 1, 2, 3, 4, 5, 6] rfl)
                    · have h3 := of_decide_eq_false c118
                      rw [iI_toInt (by omega) (by omega)] at h3
                      refine lv_iconst (v := (-1)) X.1 X.2.1 dX12_runCommand_121 (by decide) ?_
                      exact MuI.ret X hr hlk hK hS dX12_runCommand_122 (nI_nar _) fc (hP.sub [0, 1] rfl) (hD.sub [0, 1] (by decide) rfl) (⟨by rw [hk9, if_neg (by decide)], hfn⟩)
                · exfalso; omega
            · refine lv_iconst (v := (nI 1)) X.1 X.2.1 dX12_runCommand_58 (by decide) ?_
              refine lv_goto (tgt := 91) X.1 X.2.1 dX12_runCommand_59 (by decide) ?_
              have hk9 : kdI c = nI 1 := by unfold kdI; simp [kdL, c41, c55]
              refine lv_istore_n (lv' := [(3, .int (nI 1)), (2, .int (nI i)), (1, .int (nI c.length)), (0, .ref m0)]) X.1 X.2.1 dX12_runCommand_91 rfl hl (by decide) rfl (fun ls hl => ?_)
              refine lv_iload_n X.1 X.2.1 dX12_runCommand_92 rfl (lv_at hl 0 rfl) ?_
              refine z_if_ge (tgt := 99) X dX12_runCommand_93 (by decide) (nI_toInt (by omega)) (fun c93 => ?_) (fun c93 => ?_)
              · refine lv_iload_n X.1 X.2.1 dX12_runCommand_99 rfl (lv_at hl 2 rfl) ?_
                refine lv_iload_n X.1 X.2.1 dX12_runCommand_100 rfl (lv_at hl 1 rfl) ?_
                refine lv_isub X.1 X.2.1 dX12_runCommand_101 ?_
                refine tp_i (y := (iI (((c.length : Nat) : Int) - ((i : Nat) : Int)))) (by first | rw [iI_sub] | rw [nI_iI, nI_iI, iI_sub] | rw [nI_iI, iI_sub]) ?_
                refine lv_iconst (v := (nI 1)) X.1 X.2.1 dX12_runCommand_102 (by decide) ?_
                refine lv_isub X.1 X.2.1 dX12_runCommand_103 ?_
                refine tp_i (y := (iI ((((c.length : Nat) : Int) - ((i : Nat) : Int)) - ((1 : Nat) : Int)))) (by first | rw [iI_sub] | rw [nI_iI, nI_iI, iI_sub] | rw [nI_iI, iI_sub]) ?_
                refine lv_istore (lv' := [(4, .int (iI ((((c.length : Nat) : Int) - ((i : Nat) : Int)) - ((1 : Nat) : Int)))), (3, .int (nI 1)), (2, .int (nI i)), (1, .int (nI c.length)), (0, .ref m0)]) X.1 X.2.1 dX12_runCommand_104 hl (by decide) rfl (fun ls hl => ?_)
                refine lv_iload_n X.1 X.2.1 dX12_runCommand_106 rfl (lv_at hl 2 rfl) ?_
                refine lv_iload_n X.1 X.2.1 dX12_runCommand_107 rfl (lv_at hl 3 rfl) ?_
                refine z_icmp_ge (tgt := 123) X dX12_runCommand_108 (by decide) (nI_toInt (by omega)) (nI_toInt (by omega)) (fun c108 => ?_) (fun c108 => ?_)
                · refine lv_iconst (v := (nI 0)) X.1 X.2.1 dX12_runCommand_123 (by decide) ?_
                  refine lv_istore (lv' := [(5, .int (nI 0)), (4, .int (iI ((((c.length : Nat) : Int) - ((i : Nat) : Int)) - ((1 : Nat) : Int)))), (3, .int (nI 1)), (2, .int (nI i)), (1, .int (nI c.length)), (0, .ref m0)]) X.1 X.2.1 dX12_runCommand_124 hl (by decide) rfl (fun ls hl => ?_)
                  refine lv_iload_n X.1 X.2.1 dX12_runCommand_126 rfl (lv_at hl 3 rfl) ?_
                  refine lv_iconst (v := (nI 1)) X.1 X.2.1 dX12_runCommand_127 (by decide) ?_
                  refine n_add X dX12_runCommand_128 ?_
                  refine lv_istore (lv' := [(6, .int (nI (i + 1))), (5, .int (nI 0)), (4, .int (iI ((((c.length : Nat) : Int) - ((i : Nat) : Int)) - ((1 : Nat) : Int)))), (3, .int (nI 1)), (2, .int (nI i)), (1, .int (nI c.length)), (0, .ref m0)]) X.1 X.2.1 dX12_runCommand_129 hl (by decide) rfl (fun ls hl => ?_)
                  have L131 : ∀ (rn : Nat) (v : Nat) (t : Nat) (h2 : t + rn = c.length ∨ (rn = 0 ∧ t = c.length + 1 ∧ i = c.length)) (hti : i < t) (hvb : (t = i + 1 ∧ v = 0) ∨ (t = i + 2 ∧ v < 10) ∨ (t = i + 3 ∧ v < 100) ∨ (t = i + 4 ∧ v < 1000)) (hqn : nmL c rn t v = paI c) (ls : Array Slot) (hl : lv_has ls 7 [(6, .int (nI t)), (5, .int (nI v)), (4, .int (iI ((((c.length : Nat) : Int) - ((i : Nat) : Int)) - ((1 : Nat) : Int)))), (3, .int (nI 1)), (2, .int (nI i)), (1, .int (nI c.length)), (0, .ref m0)]), W p_ l_ e_ { frames := 7, cells := 0, slots := 0, locals := 161 } S_ m_ args below meth co H locs 0 0 (MQ below (va_Qi (S := (Nat → Int32)) (fun r fc1 => r = (if (kdI c).toInt = -6 then (-6) else (-1)) ∧ rep fc1 []) (MuB g A (fun fc1 => [(m0, .inr (11, [.int (nI k), .int (nI n), .ref lt, .int (nI s.length), .ref er, .ref el, .int (nI h.length), .ref cm_, .int (nI (([] : List Nat).length)), .int (bI tk), .int (nI k0), .int (nI n0), .ref sv, .int (nI s0.length), .ref md, .int (nI z.length), .ref fmm, .ref lc, .ref lz, .ref af, .ref pt_, .int (nI p.length), .ref oc, .ref ty_, .ref sz_, .ref em])), (cm_, .inl (g.2.1, 20, .inl fc1))])) A) args S_ 0 0 A) (F0 m_ 131 ls []) := by
                    intro rn
                    induction rn with
                    | zero =>
                      intro v t h2 hti hvb hqn ls hl
                      refine lv_iload X.1 X.2.1 dX12_runCommand_131 (lv_at hl 0 rfl) ?_
                      refine lv_iload_n X.1 X.2.1 dX12_runCommand_133 rfl (lv_at hl 5 rfl) ?_
                      refine z_icmp_ge (tgt := 180) X dX12_runCommand_134 (by decide) (nI_toInt (by omega)) (nI_toInt (by omega)) (fun c134 => ?_) (fun c134 => ?_)
                      · refine lv_aload_n X.1 X.2.1 dX12_runCommand_180 rfl (lv_at hl 6 rfl) ?_
                        refine lv_iload_n X.1 X.2.1 dX12_runCommand_181 rfl (lv_at hl 3 rfl) ?_
                        refine lv_iload X.1 X.2.1 dX12_runCommand_182 (lv_at hl 1 rfl) ?_
                        have hv9 : nI v = paI c := hqn
                        have hno2 : ¬ (0 ≤ (nI 1).toInt ∧ (nI 1).toInt ≤ 3) ∨ ((nI 1).toInt = 3 ∧ ¬ (0 ≤ (nI v).toInt ∧ (nI v).toInt < (T : Int))) := rc_no hno hk9 hv9 (by decide) (by rw [nI_toInt (by omega)]; omega)
                        refine (m_construct_no g m0 lt er el cm_ sv md fmm lc lz af pt_ oc ty_ sz_ em k n s h ([] : List Nat) tk k0 n0 s0 z p B T (nI 1) (nI v) (by assumption) (hno2)).callV (rest := []) X dX12_runCommand_184 q1217 tX12_construct hK (hP.sub [0] rfl) 0 11 rfl rfl rfl hl ⟨⟨Nat.le_of_ble_eq_true rfl, Nat.le_of_ble_eq_true rfl⟩, Nat.le_of_ble_eq_true rfl, Nat.le_of_ble_eq_true rfl⟩ rfl rfl (Nat.le_of_ble_eq_true rfl) ?_
                        exact MuI.ret X hr hlk hK hS dX12_runCommand_187 (nI_nar _) fc (hP.sub [0, 1] rfl) (hD.sub [0, 1] (by decide) rfl) (⟨by rw [hk9, if_neg (by decide)], hfn⟩)
                      · exfalso; omega
                    | succ rn ih131 =>
                      intro v t h2 hti hvb hqn ls hl
                      refine lv_iload X.1 X.2.1 dX12_runCommand_131 (lv_at hl 0 rfl) ?_
                      refine lv_iload_n X.1 X.2.1 dX12_runCommand_133 rfl (lv_at hl 5 rfl) ?_
                      refine z_icmp_ge (tgt := 180) X dX12_runCommand_134 (by decide) (nI_toInt (by omega)) (nI_toInt (by omega)) (fun c134 => ?_) (fun c134 => ?_)
                      · exfalso; omega
                      · refine lv_aload_n X.1 X.2.1 dX12_runCommand_137 rfl (lv_at hl 6 rfl) ?_
                        refine va_get (D := g.1) (ci := 11) (v := .ref cm_) (C := RX12) (T := TX12) (N := 26) X.1 X.2.1 X.2.2.2.2 iwX12 X.2.2.2.1 hK hP 0 rfl rfl 7 (by decide) (X.2.2.2.2 _ q1027) (fun _ h9 => h9) rfl dX12_runCommand_138 ?_
                        refine lv_iload X.1 X.2.1 dX12_runCommand_141 (lv_at hl 0 rfl) ?_
                        refine n_iald X hK hP 1 0 rfl rfl (by omega) (by decide) dX12_runCommand_143 ?_
                        have hbt := hbc t
                        refine tp_i (y := (nI (c.getD t 0))) (hfc t (by omega)) ?_
                        refine lv_bipush (v := (nI 48)) X.1 X.2.1 dX12_runCommand_144 (by decide) ?_
                        refine lv_bipush (v := (nI 57)) X.1 X.2.1 dX12_runCommand_146 (by decide) ?_
                        refine (c_inN g (nI (c.getD t 0)) 48 57 (by omega) (by omega)).callS (rest := []) X dX12_runCommand_148 q1103 tX12_in hK (hP.sub [] rfl) hl ⟨⟨Nat.le_of_ble_eq_true rfl, Nat.le_of_ble_eq_true rfl⟩, Nat.le_of_ble_eq_true rfl, Nat.le_of_ble_eq_true rfl⟩ rfl rfl (Nat.le_of_ble_eq_true rfl) ?_
                        refine b_if_ne (tgt := 156) X dX12_runCommand_151 (by decide) (fun c151 => ?_) (fun c151 => ?_)
                        · have h4 := of_decide_eq_true c151
                          rw [nI_toInt (by omega)] at h4
                          refine lv_bipush (v := (nI 10)) X.1 X.2.1 dX12_runCommand_156 (by decide) ?_
                          refine lv_iload X.1 X.2.1 dX12_runCommand_158 (lv_at hl 1 rfl) ?_
                          refine n_mul X dX12_runCommand_160 ?_
                          refine lv_aload_n X.1 X.2.1 dX12_runCommand_161 rfl (lv_at hl 6 rfl) ?_
                          refine va_get (D := g.1) (ci := 11) (v := .ref cm_) (C := RX12) (T := TX12) (N := 26) X.1 X.2.1 X.2.2.2.2 iwX12 X.2.2.2.1 hK hP 0 rfl rfl 7 (by decide) (X.2.2.2.2 _ q1027) (fun _ h9 => h9) rfl dX12_runCommand_162 ?_
                          refine lv_iload X.1 X.2.1 dX12_runCommand_165 (lv_at hl 0 rfl) ?_
                          refine n_iald X hK hP 1 0 rfl rfl (by omega) (by decide) dX12_runCommand_167 ?_
                          refine tp_i (y := (nI (c.getD t 0))) (hfc t (by omega)) ?_
                          refine n_add X dX12_runCommand_168 ?_
                          refine lv_bipush (v := (nI 48)) X.1 X.2.1 dX12_runCommand_169 (by decide) ?_
                          refine n_sub X dX12_runCommand_171 (by omega) ?_
                          refine lv_istore (lv' := [(5, .int (nI ((10 * v + (c.getD t 0)) - 48))), (6, .int (nI t)), (4, .int (iI ((((c.length : Nat) : Int) - ((i : Nat) : Int)) - ((1 : Nat) : Int)))), (3, .int (nI 1)), (2, .int (nI i)), (1, .int (nI c.length)), (0, .ref m0)]) X.1 X.2.1 dX12_runCommand_172 hl (by decide) rfl (fun ls hl => ?_)
                          refine lv_iinc (v := (nI (t + 1))) (lv' := [(6, .int (nI (t + 1))), (5, .int (nI ((10 * v + (c.getD t 0)) - 48))), (4, .int (iI ((((c.length : Nat) : Int) - ((i : Nat) : Int)) - ((1 : Nat) : Int)))), (3, .int (nI 1)), (2, .int (nI i)), (1, .int (nI c.length)), (0, .ref m0)]) X.1 X.2.1 dX12_runCommand_174 hl (k := 1) rfl (nI_inc _) (by decide) rfl (fun ls hl => ?_)
                          refine lv_goto (tgt := 131) X.1 X.2.1 dX12_runCommand_177 (by decide) ?_
                          exact ih131 ((10 * v + (c.getD t 0)) - 48) (t + 1) (by omega) (by omega) (by omega) (by rw [nmL, if_pos (by omega)] at hqn; rw [show 10 * v + c.getD t 0 - 48 = v * 10 + (c.getD t 0 - 48) by omega]; exact hqn) ls (lv_sub hl [0, 1, 2, 3, 4, 5, 6] rfl)
                        · have h4 := of_decide_eq_false c151
                          rw [nI_toInt (by omega)] at h4
                          refine lv_iconst (v := (-1)) X.1 X.2.1 dX12_runCommand_154 (by decide) ?_
                          exact MuI.ret X hr hlk hK hS dX12_runCommand_155 (nI_nar _) fc (hP.sub [0, 1] rfl) (hD.sub [0, 1] (by decide) rfl) (⟨by rw [hk9, if_neg (by decide)], hfn⟩)
                  exact L131 (c.length - (i + 1)) 0 (i + 1) (by omega) (by omega) (by omega) (by unfold paI; first | (rw [if_pos (by omega), show c.length - (i + 1) = 0 by omega]; rfl) | (rw [if_neg (by omega), if_neg (by omega), ← hce])) ls (lv_sub hl [0, 1, 2, 3, 4, 5, 6] rfl)
                · refine lv_iload X.1 X.2.1 dX12_runCommand_111 (lv_at hl 0 rfl) ?_
                  refine lv_iconst (v := (nI 1)) X.1 X.2.1 dX12_runCommand_113 (by decide) ?_
                  refine lv_iconst (v := (nI 3)) X.1 X.2.1 dX12_runCommand_114 (by decide) ?_
                  refine (c_inN g (iI ((((c.length : Nat) : Int) - ((i : Nat) : Int)) - ((1 : Nat) : Int))) 1 3 (by omega) (by omega)).callS (rest := []) X dX12_runCommand_115 q1103 tX12_in hK (hP.sub [] rfl) hl ⟨⟨Nat.le_of_ble_eq_true rfl, Nat.le_of_ble_eq_true rfl⟩, Nat.le_of_ble_eq_true rfl, Nat.le_of_ble_eq_true rfl⟩ rfl rfl (Nat.le_of_ble_eq_true rfl) ?_
                  refine b_if_ne (tgt := 123) X dX12_runCommand_118 (by decide) (fun c118 => ?_) (fun c118 => ?_)
                  · have h3 := of_decide_eq_true c118
                    rw [iI_toInt (by omega) (by omega)] at h3
                    refine lv_iconst (v := (nI 0)) X.1 X.2.1 dX12_runCommand_123 (by decide) ?_
                    refine lv_istore (lv' := [(5, .int (nI 0)), (4, .int (iI ((((c.length : Nat) : Int) - ((i : Nat) : Int)) - ((1 : Nat) : Int)))), (3, .int (nI 1)), (2, .int (nI i)), (1, .int (nI c.length)), (0, .ref m0)]) X.1 X.2.1 dX12_runCommand_124 hl (by decide) rfl (fun ls hl => ?_)
                    refine lv_iload_n X.1 X.2.1 dX12_runCommand_126 rfl (lv_at hl 3 rfl) ?_
                    refine lv_iconst (v := (nI 1)) X.1 X.2.1 dX12_runCommand_127 (by decide) ?_
                    refine n_add X dX12_runCommand_128 ?_
                    refine lv_istore (lv' := [(6, .int (nI (i + 1))), (5, .int (nI 0)), (4, .int (iI ((((c.length : Nat) : Int) - ((i : Nat) : Int)) - ((1 : Nat) : Int)))), (3, .int (nI 1)), (2, .int (nI i)), (1, .int (nI c.length)), (0, .ref m0)]) X.1 X.2.1 dX12_runCommand_129 hl (by decide) rfl (fun ls hl => ?_)
                    have L131 : ∀ (rn : Nat) (v : Nat) (t : Nat) (h2 : t + rn = c.length ∨ (rn = 0 ∧ t = c.length + 1 ∧ i = c.length)) (hti : i < t) (hvb : (t = i + 1 ∧ v = 0) ∨ (t = i + 2 ∧ v < 10) ∨ (t = i + 3 ∧ v < 100) ∨ (t = i + 4 ∧ v < 1000)) (hqn : nmL c rn t v = paI c) (ls : Array Slot) (hl : lv_has ls 7 [(6, .int (nI t)), (5, .int (nI v)), (4, .int (iI ((((c.length : Nat) : Int) - ((i : Nat) : Int)) - ((1 : Nat) : Int)))), (3, .int (nI 1)), (2, .int (nI i)), (1, .int (nI c.length)), (0, .ref m0)]), W p_ l_ e_ { frames := 7, cells := 0, slots := 0, locals := 161 } S_ m_ args below meth co H locs 0 0 (MQ below (va_Qi (S := (Nat → Int32)) (fun r fc1 => r = (if (kdI c).toInt = -6 then (-6) else (-1)) ∧ rep fc1 []) (MuB g A (fun fc1 => [(m0, .inr (11, [.int (nI k), .int (nI n), .ref lt, .int (nI s.length), .ref er, .ref el, .int (nI h.length), .ref cm_, .int (nI (([] : List Nat).length)), .int (bI tk), .int (nI k0), .int (nI n0), .ref sv, .int (nI s0.length), .ref md, .int (nI z.length), .ref fmm, .ref lc, .ref lz, .ref af, .ref pt_, .int (nI p.length), .ref oc, .ref ty_, .ref sz_, .ref em])), (cm_, .inl (g.2.1, 20, .inl fc1))])) A) args S_ 0 0 A) (F0 m_ 131 ls []) := by
                      intro rn
                      induction rn with
                      | zero =>
                        intro v t h2 hti hvb hqn ls hl
                        refine lv_iload X.1 X.2.1 dX12_runCommand_131 (lv_at hl 0 rfl) ?_
                        refine lv_iload_n X.1 X.2.1 dX12_runCommand_133 rfl (lv_at hl 5 rfl) ?_
                        refine z_icmp_ge (tgt := 180) X dX12_runCommand_134 (by decide) (nI_toInt (by omega)) (nI_toInt (by omega)) (fun c134 => ?_) (fun c134 => ?_)
                        · refine lv_aload_n X.1 X.2.1 dX12_runCommand_180 rfl (lv_at hl 6 rfl) ?_
                          refine lv_iload_n X.1 X.2.1 dX12_runCommand_181 rfl (lv_at hl 3 rfl) ?_
                          refine lv_iload X.1 X.2.1 dX12_runCommand_182 (lv_at hl 1 rfl) ?_
                          have hv9 : nI v = paI c := hqn
                          have hno2 : ¬ (0 ≤ (nI 1).toInt ∧ (nI 1).toInt ≤ 3) ∨ ((nI 1).toInt = 3 ∧ ¬ (0 ≤ (nI v).toInt ∧ (nI v).toInt < (T : Int))) := rc_no hno hk9 hv9 (by decide) (by rw [nI_toInt (by omega)]; omega)
                          refine (m_construct_no g m0 lt er el cm_ sv md fmm lc lz af pt_ oc ty_ sz_ em k n s h ([] : List Nat) tk k0 n0 s0 z p B T (nI 1) (nI v) (by assumption) (hno2)).callV (rest := []) X dX12_runCommand_184 q1217 tX12_construct hK (hP.sub [0] rfl) 0 11 rfl rfl rfl hl ⟨⟨Nat.le_of_ble_eq_true rfl, Nat.le_of_ble_eq_true rfl⟩, Nat.le_of_ble_eq_true rfl, Nat.le_of_ble_eq_true rfl⟩ rfl rfl (Nat.le_of_ble_eq_true rfl) ?_
                          exact MuI.ret X hr hlk hK hS dX12_runCommand_187 (nI_nar _) fc (hP.sub [0, 1] rfl) (hD.sub [0, 1] (by decide) rfl) (⟨by rw [hk9, if_neg (by decide)], hfn⟩)
                        · exfalso; omega
                      | succ rn ih131 =>
                        intro v t h2 hti hvb hqn ls hl
                        refine lv_iload X.1 X.2.1 dX12_runCommand_131 (lv_at hl 0 rfl) ?_
                        refine lv_iload_n X.1 X.2.1 dX12_runCommand_133 rfl (lv_at hl 5 rfl) ?_
                        refine z_icmp_ge (tgt := 180) X dX12_runCommand_134 (by decide) (nI_toInt (by omega)) (nI_toInt (by omega)) (fun c134 => ?_) (fun c134 => ?_)
                        · exfalso; omega
                        · refine lv_aload_n X.1 X.2.1 dX12_runCommand_137 rfl (lv_at hl 6 rfl) ?_
                          refine va_get (D := g.1) (ci := 11) (v := .ref cm_) (C := RX12) (T := TX12) (N := 26) X.1 X.2.1 X.2.2.2.2 iwX12 X.2.2.2.1 hK hP 0 rfl rfl 7 (by decide) (X.2.2.2.2 _ q1027) (fun _ h9 => h9) rfl dX12_runCommand_138 ?_
                          refine lv_iload X.1 X.2.1 dX12_runCommand_141 (lv_at hl 0 rfl) ?_
                          refine n_iald X hK hP 1 0 rfl rfl (by omega) (by decide) dX12_runCommand_143 ?_
                          have hbt := hbc t
                          refine tp_i (y := (nI (c.getD t 0))) (hfc t (by omega)) ?_
                          refine lv_bipush (v := (nI 48)) X.1 X.2.1 dX12_runCommand_144 (by decide) ?_
                          refine lv_bipush (v := (nI 57)) X.1 X.2.1 dX12_runCommand_146 (by decide) ?_
                          refine (c_inN g (nI (c.getD t 0)) 48 57 (by omega) (by omega)).callS (rest := []) X dX12_runCommand_148 q1103 tX12_in hK (hP.sub [] rfl) hl ⟨⟨Nat.le_of_ble_eq_true rfl, Nat.le_of_ble_eq_true rfl⟩, Nat.le_of_ble_eq_true rfl, Nat.le_of_ble_eq_true rfl⟩ rfl rfl (Nat.le_of_ble_eq_true rfl) ?_
                          refine b_if_ne (tgt := 156) X dX12_runCommand_151 (by decide) (fun c151 => ?_) (fun c151 => ?_)
                          · have h4 := of_decide_eq_true c151
                            rw [nI_toInt (by omega)] at h4
                            refine lv_bipush (v := (nI 10)) X.1 X.2.1 dX12_runCommand_156 (by decide) ?_
                            refine lv_iload X.1 X.2.1 dX12_runCommand_158 (lv_at hl 1 rfl) ?_
                            refine n_mul X dX12_runCommand_160 ?_
                            refine lv_aload_n X.1 X.2.1 dX12_runCommand_161 rfl (lv_at hl 6 rfl) ?_
                            refine va_get (D := g.1) (ci := 11) (v := .ref cm_) (C := RX12) (T := TX12) (N := 26) X.1 X.2.1 X.2.2.2.2 iwX12 X.2.2.2.1 hK hP 0 rfl rfl 7 (by decide) (X.2.2.2.2 _ q1027) (fun _ h9 => h9) rfl dX12_runCommand_162 ?_
                            refine lv_iload X.1 X.2.1 dX12_runCommand_165 (lv_at hl 0 rfl) ?_
                            refine n_iald X hK hP 1 0 rfl rfl (by omega) (by decide) dX12_runCommand_167 ?_
                            refine tp_i (y := (nI (c.getD t 0))) (hfc t (by omega)) ?_
                            refine n_add X dX12_runCommand_168 ?_
                            refine lv_bipush (v := (nI 48)) X.1 X.2.1 dX12_runCommand_169 (by decide) ?_
                            refine n_sub X dX12_runCommand_171 (by omega) ?_
                            refine lv_istore (lv' := [(5, .int (nI ((10 * v + (c.getD t 0)) - 48))), (6, .int (nI t)), (4, .int (iI ((((c.length : Nat) : Int) - ((i : Nat) : Int)) - ((1 : Nat) : Int)))), (3, .int (nI 1)), (2, .int (nI i)), (1, .int (nI c.length)), (0, .ref m0)]) X.1 X.2.1 dX12_runCommand_172 hl (by decide) rfl (fun ls hl => ?_)
                            refine lv_iinc (v := (nI (t + 1))) (lv' := [(6, .int (nI (t + 1))), (5, .int (nI ((10 * v + (c.getD t 0)) - 48))), (4, .int (iI ((((c.length : Nat) : Int) - ((i : Nat) : Int)) - ((1 : Nat) : Int)))), (3, .int (nI 1)), (2, .int (nI i)), (1, .int (nI c.length)), (0, .ref m0)]) X.1 X.2.1 dX12_runCommand_174 hl (k := 1) rfl (nI_inc _) (by decide) rfl (fun ls hl => ?_)
                            refine lv_goto (tgt := 131) X.1 X.2.1 dX12_runCommand_177 (by decide) ?_
                            exact ih131 ((10 * v + (c.getD t 0)) - 48) (t + 1) (by omega) (by omega) (by omega) (by rw [nmL, if_pos (by omega)] at hqn; rw [show 10 * v + c.getD t 0 - 48 = v * 10 + (c.getD t 0 - 48) by omega]; exact hqn) ls (lv_sub hl [0, 1, 2, 3, 4, 5, 6] rfl)
                          · have h4 := of_decide_eq_false c151
                            rw [nI_toInt (by omega)] at h4
                            refine lv_iconst (v := (-1)) X.1 X.2.1 dX12_runCommand_154 (by decide) ?_
                            exact MuI.ret X hr hlk hK hS dX12_runCommand_155 (nI_nar _) fc (hP.sub [0, 1] rfl) (hD.sub [0, 1] (by decide) rfl) (⟨by rw [hk9, if_neg (by decide)], hfn⟩)
                    exact L131 (c.length - (i + 1)) 0 (i + 1) (by omega) (by omega) (by omega) (by unfold paI; first | (rw [if_pos (by omega), show c.length - (i + 1) = 0 by omega]; rfl) | (rw [if_neg (by omega), if_neg (by omega), ← hce])) ls (lv_sub hl [0, 1, 2, 3, 4, 5, 6] rfl)
                  · have h3 := of_decide_eq_false c118
                    rw [iI_toInt (by omega) (by omega)] at h3
                    refine lv_iconst (v := (-1)) X.1 X.2.1 dX12_runCommand_121 (by decide) ?_
                    exact MuI.ret X hr hlk hK hS dX12_runCommand_122 (nI_nar _) fc (hP.sub [0, 1] rfl) (hD.sub [0, 1] (by decide) rfl) (⟨by rw [hk9, if_neg (by decide)], hfn⟩)
              · exfalso; omega
          · refine lv_iconst (v := (nI 0)) X.1 X.2.1 dX12_runCommand_44 (by decide) ?_
            refine lv_goto (tgt := 91) X.1 X.2.1 dX12_runCommand_45 (by decide) ?_
            have hk9 : kdI c = nI 0 := by unfold kdI; simp [kdL, c41]
            refine lv_istore_n (lv' := [(3, .int (nI 0)), (2, .int (nI i)), (1, .int (nI c.length)), (0, .ref m0)]) X.1 X.2.1 dX12_runCommand_91 rfl hl (by decide) rfl (fun ls hl => ?_)
            refine lv_iload_n X.1 X.2.1 dX12_runCommand_92 rfl (lv_at hl 0 rfl) ?_
            refine z_if_ge (tgt := 99) X dX12_runCommand_93 (by decide) (nI_toInt (by omega)) (fun c93 => ?_) (fun c93 => ?_)
            · refine lv_iload_n X.1 X.2.1 dX12_runCommand_99 rfl (lv_at hl 2 rfl) ?_
              refine lv_iload_n X.1 X.2.1 dX12_runCommand_100 rfl (lv_at hl 1 rfl) ?_
              refine lv_isub X.1 X.2.1 dX12_runCommand_101 ?_
              refine tp_i (y := (iI (((c.length : Nat) : Int) - ((i : Nat) : Int)))) (by first | rw [iI_sub] | rw [nI_iI, nI_iI, iI_sub] | rw [nI_iI, iI_sub]) ?_
              refine lv_iconst (v := (nI 1)) X.1 X.2.1 dX12_runCommand_102 (by decide) ?_
              refine lv_isub X.1 X.2.1 dX12_runCommand_103 ?_
              refine tp_i (y := (iI ((((c.length : Nat) : Int) - ((i : Nat) : Int)) - ((1 : Nat) : Int)))) (by first | rw [iI_sub] | rw [nI_iI, nI_iI, iI_sub] | rw [nI_iI, iI_sub]) ?_
              refine lv_istore (lv' := [(4, .int (iI ((((c.length : Nat) : Int) - ((i : Nat) : Int)) - ((1 : Nat) : Int)))), (3, .int (nI 0)), (2, .int (nI i)), (1, .int (nI c.length)), (0, .ref m0)]) X.1 X.2.1 dX12_runCommand_104 hl (by decide) rfl (fun ls hl => ?_)
              refine lv_iload_n X.1 X.2.1 dX12_runCommand_106 rfl (lv_at hl 2 rfl) ?_
              refine lv_iload_n X.1 X.2.1 dX12_runCommand_107 rfl (lv_at hl 3 rfl) ?_
              refine z_icmp_ge (tgt := 123) X dX12_runCommand_108 (by decide) (nI_toInt (by omega)) (nI_toInt (by omega)) (fun c108 => ?_) (fun c108 => ?_)
              · refine lv_iconst (v := (nI 0)) X.1 X.2.1 dX12_runCommand_123 (by decide) ?_
                refine lv_istore (lv' := [(5, .int (nI 0)), (4, .int (iI ((((c.length : Nat) : Int) - ((i : Nat) : Int)) - ((1 : Nat) : Int)))), (3, .int (nI 0)), (2, .int (nI i)), (1, .int (nI c.length)), (0, .ref m0)]) X.1 X.2.1 dX12_runCommand_124 hl (by decide) rfl (fun ls hl => ?_)
                refine lv_iload_n X.1 X.2.1 dX12_runCommand_126 rfl (lv_at hl 3 rfl) ?_
                refine lv_iconst (v := (nI 1)) X.1 X.2.1 dX12_runCommand_127 (by decide) ?_
                refine n_add X dX12_runCommand_128 ?_
                refine lv_istore (lv' := [(6, .int (nI (i + 1))), (5, .int (nI 0)), (4, .int (iI ((((c.length : Nat) : Int) - ((i : Nat) : Int)) - ((1 : Nat) : Int)))), (3, .int (nI 0)), (2, .int (nI i)), (1, .int (nI c.length)), (0, .ref m0)]) X.1 X.2.1 dX12_runCommand_129 hl (by decide) rfl (fun ls hl => ?_)
                have L131 : ∀ (rn : Nat) (v : Nat) (t : Nat) (h2 : t + rn = c.length ∨ (rn = 0 ∧ t = c.length + 1 ∧ i = c.length)) (hti : i < t) (hvb : (t = i + 1 ∧ v = 0) ∨ (t = i + 2 ∧ v < 10) ∨ (t = i + 3 ∧ v < 100) ∨ (t = i + 4 ∧ v < 1000)) (hqn : nmL c rn t v = paI c) (ls : Array Slot) (hl : lv_has ls 7 [(6, .int (nI t)), (5, .int (nI v)), (4, .int (iI ((((c.length : Nat) : Int) - ((i : Nat) : Int)) - ((1 : Nat) : Int)))), (3, .int (nI 0)), (2, .int (nI i)), (1, .int (nI c.length)), (0, .ref m0)]), W p_ l_ e_ { frames := 7, cells := 0, slots := 0, locals := 161 } S_ m_ args below meth co H locs 0 0 (MQ below (va_Qi (S := (Nat → Int32)) (fun r fc1 => r = (if (kdI c).toInt = -6 then (-6) else (-1)) ∧ rep fc1 []) (MuB g A (fun fc1 => [(m0, .inr (11, [.int (nI k), .int (nI n), .ref lt, .int (nI s.length), .ref er, .ref el, .int (nI h.length), .ref cm_, .int (nI (([] : List Nat).length)), .int (bI tk), .int (nI k0), .int (nI n0), .ref sv, .int (nI s0.length), .ref md, .int (nI z.length), .ref fmm, .ref lc, .ref lz, .ref af, .ref pt_, .int (nI p.length), .ref oc, .ref ty_, .ref sz_, .ref em])), (cm_, .inl (g.2.1, 20, .inl fc1))])) A) args S_ 0 0 A) (F0 m_ 131 ls []) := by
                  intro rn
                  induction rn with
                  | zero =>
                    intro v t h2 hti hvb hqn ls hl
                    refine lv_iload X.1 X.2.1 dX12_runCommand_131 (lv_at hl 0 rfl) ?_
                    refine lv_iload_n X.1 X.2.1 dX12_runCommand_133 rfl (lv_at hl 5 rfl) ?_
                    refine z_icmp_ge (tgt := 180) X dX12_runCommand_134 (by decide) (nI_toInt (by omega)) (nI_toInt (by omega)) (fun c134 => ?_) (fun c134 => ?_)
                    · refine lv_aload_n X.1 X.2.1 dX12_runCommand_180 rfl (lv_at hl 6 rfl) ?_
                      refine lv_iload_n X.1 X.2.1 dX12_runCommand_181 rfl (lv_at hl 3 rfl) ?_
                      refine lv_iload X.1 X.2.1 dX12_runCommand_182 (lv_at hl 1 rfl) ?_
                      have hv9 : nI v = paI c := hqn
                      have hno2 : ¬ (0 ≤ (nI 0).toInt ∧ (nI 0).toInt ≤ 3) ∨ ((nI 0).toInt = 3 ∧ ¬ (0 ≤ (nI v).toInt ∧ (nI v).toInt < (T : Int))) := rc_no hno hk9 hv9 (by decide) (by rw [nI_toInt (by omega)]; omega)
                      refine (m_construct_no g m0 lt er el cm_ sv md fmm lc lz af pt_ oc ty_ sz_ em k n s h ([] : List Nat) tk k0 n0 s0 z p B T (nI 0) (nI v) (by assumption) (hno2)).callV (rest := []) X dX12_runCommand_184 q1217 tX12_construct hK (hP.sub [0] rfl) 0 11 rfl rfl rfl hl ⟨⟨Nat.le_of_ble_eq_true rfl, Nat.le_of_ble_eq_true rfl⟩, Nat.le_of_ble_eq_true rfl, Nat.le_of_ble_eq_true rfl⟩ rfl rfl (Nat.le_of_ble_eq_true rfl) ?_
                      exact MuI.ret X hr hlk hK hS dX12_runCommand_187 (nI_nar _) fc (hP.sub [0, 1] rfl) (hD.sub [0, 1] (by decide) rfl) (⟨by rw [hk9, if_neg (by decide)], hfn⟩)
                    · exfalso; omega
                  | succ rn ih131 =>
                    intro v t h2 hti hvb hqn ls hl
                    refine lv_iload X.1 X.2.1 dX12_runCommand_131 (lv_at hl 0 rfl) ?_
                    refine lv_iload_n X.1 X.2.1 dX12_runCommand_133 rfl (lv_at hl 5 rfl) ?_
                    refine z_icmp_ge (tgt := 180) X dX12_runCommand_134 (by decide) (nI_toInt (by omega)) (nI_toInt (by omega)) (fun c134 => ?_) (fun c134 => ?_)
                    · exfalso; omega
                    · refine lv_aload_n X.1 X.2.1 dX12_runCommand_137 rfl (lv_at hl 6 rfl) ?_
                      refine va_get (D := g.1) (ci := 11) (v := .ref cm_) (C := RX12) (T := TX12) (N := 26) X.1 X.2.1 X.2.2.2.2 iwX12 X.2.2.2.1 hK hP 0 rfl rfl 7 (by decide) (X.2.2.2.2 _ q1027) (fun _ h9 => h9) rfl dX12_runCommand_138 ?_
                      refine lv_iload X.1 X.2.1 dX12_runCommand_141 (lv_at hl 0 rfl) ?_
                      refine n_iald X hK hP 1 0 rfl rfl (by omega) (by decide) dX12_runCommand_143 ?_
                      have hbt := hbc t
                      refine tp_i (y := (nI (c.getD t 0))) (hfc t (by omega)) ?_
                      refine lv_bipush (v := (nI 48)) X.1 X.2.1 dX12_runCommand_144 (by decide) ?_
                      refine lv_bipush (v := (nI 57)) X.1 X.2.1 dX12_runCommand_146 (by decide) ?_
                      refine (c_inN g (nI (c.getD t 0)) 48 57 (by omega) (by omega)).callS (rest := []) X dX12_runCommand_148 q1103 tX12_in hK (hP.sub [] rfl) hl ⟨⟨Nat.le_of_ble_eq_true rfl, Nat.le_of_ble_eq_true rfl⟩, Nat.le_of_ble_eq_true rfl, Nat.le_of_ble_eq_true rfl⟩ rfl rfl (Nat.le_of_ble_eq_true rfl) ?_
                      refine b_if_ne (tgt := 156) X dX12_runCommand_151 (by decide) (fun c151 => ?_) (fun c151 => ?_)
                      · have h4 := of_decide_eq_true c151
                        rw [nI_toInt (by omega)] at h4
                        refine lv_bipush (v := (nI 10)) X.1 X.2.1 dX12_runCommand_156 (by decide) ?_
                        refine lv_iload X.1 X.2.1 dX12_runCommand_158 (lv_at hl 1 rfl) ?_
                        refine n_mul X dX12_runCommand_160 ?_
                        refine lv_aload_n X.1 X.2.1 dX12_runCommand_161 rfl (lv_at hl 6 rfl) ?_
                        refine va_get (D := g.1) (ci := 11) (v := .ref cm_) (C := RX12) (T := TX12) (N := 26) X.1 X.2.1 X.2.2.2.2 iwX12 X.2.2.2.1 hK hP 0 rfl rfl 7 (by decide) (X.2.2.2.2 _ q1027) (fun _ h9 => h9) rfl dX12_runCommand_162 ?_
                        refine lv_iload X.1 X.2.1 dX12_runCommand_165 (lv_at hl 0 rfl) ?_
                        refine n_iald X hK hP 1 0 rfl rfl (by omega) (by decide) dX12_runCommand_167 ?_
                        refine tp_i (y := (nI (c.getD t 0))) (hfc t (by omega)) ?_
                        refine n_add X dX12_runCommand_168 ?_
                        refine lv_bipush (v := (nI 48)) X.1 X.2.1 dX12_runCommand_169 (by decide) ?_
                        refine n_sub X dX12_runCommand_171 (by omega) ?_
                        refine lv_istore (lv' := [(5, .int (nI ((10 * v + (c.getD t 0)) - 48))), (6, .int (nI t)), (4, .int (iI ((((c.length : Nat) : Int) - ((i : Nat) : Int)) - ((1 : Nat) : Int)))), (3, .int (nI 0)), (2, .int (nI i)), (1, .int (nI c.length)), (0, .ref m0)]) X.1 X.2.1 dX12_runCommand_172 hl (by decide) rfl (fun ls hl => ?_)
                        refine lv_iinc (v := (nI (t + 1))) (lv' := [(6, .int (nI (t + 1))), (5, .int (nI ((10 * v + (c.getD t 0)) - 48))), (4, .int (iI ((((c.length : Nat) : Int) - ((i : Nat) : Int)) - ((1 : Nat) : Int)))), (3, .int (nI 0)), (2, .int (nI i)), (1, .int (nI c.length)), (0, .ref m0)]) X.1 X.2.1 dX12_runCommand_174 hl (k := 1) rfl (nI_inc _) (by decide) rfl (fun ls hl => ?_)
                        refine lv_goto (tgt := 131) X.1 X.2.1 dX12_runCommand_177 (by decide) ?_
                        exact ih131 ((10 * v + (c.getD t 0)) - 48) (t + 1) (by omega) (by omega) (by omega) (by rw [nmL, if_pos (by omega)] at hqn; rw [show 10 * v + c.getD t 0 - 48 = v * 10 + (c.getD t 0 - 48) by omega]; exact hqn) ls (lv_sub hl [0, 1, 2, 3, 4, 5, 6] rfl)
                      · have h4 := of_decide_eq_false c151
                        rw [nI_toInt (by omega)] at h4
                        refine lv_iconst (v := (-1)) X.1 X.2.1 dX12_runCommand_154 (by decide) ?_
                        exact MuI.ret X hr hlk hK hS dX12_runCommand_155 (nI_nar _) fc (hP.sub [0, 1] rfl) (hD.sub [0, 1] (by decide) rfl) (⟨by rw [hk9, if_neg (by decide)], hfn⟩)
                exact L131 (c.length - (i + 1)) 0 (i + 1) (by omega) (by omega) (by omega) (by unfold paI; first | (rw [if_pos (by omega), show c.length - (i + 1) = 0 by omega]; rfl) | (rw [if_neg (by omega), if_neg (by omega), ← hce])) ls (lv_sub hl [0, 1, 2, 3, 4, 5, 6] rfl)
              · refine lv_iload X.1 X.2.1 dX12_runCommand_111 (lv_at hl 0 rfl) ?_
                refine lv_iconst (v := (nI 1)) X.1 X.2.1 dX12_runCommand_113 (by decide) ?_
                refine lv_iconst (v := (nI 3)) X.1 X.2.1 dX12_runCommand_114 (by decide) ?_
                refine (c_inN g (iI ((((c.length : Nat) : Int) - ((i : Nat) : Int)) - ((1 : Nat) : Int))) 1 3 (by omega) (by omega)).callS (rest := []) X dX12_runCommand_115 q1103 tX12_in hK (hP.sub [] rfl) hl ⟨⟨Nat.le_of_ble_eq_true rfl, Nat.le_of_ble_eq_true rfl⟩, Nat.le_of_ble_eq_true rfl, Nat.le_of_ble_eq_true rfl⟩ rfl rfl (Nat.le_of_ble_eq_true rfl) ?_
                refine b_if_ne (tgt := 123) X dX12_runCommand_118 (by decide) (fun c118 => ?_) (fun c118 => ?_)
                · have h3 := of_decide_eq_true c118
                  rw [iI_toInt (by omega) (by omega)] at h3
                  refine lv_iconst (v := (nI 0)) X.1 X.2.1 dX12_runCommand_123 (by decide) ?_
                  refine lv_istore (lv' := [(5, .int (nI 0)), (4, .int (iI ((((c.length : Nat) : Int) - ((i : Nat) : Int)) - ((1 : Nat) : Int)))), (3, .int (nI 0)), (2, .int (nI i)), (1, .int (nI c.length)), (0, .ref m0)]) X.1 X.2.1 dX12_runCommand_124 hl (by decide) rfl (fun ls hl => ?_)
                  refine lv_iload_n X.1 X.2.1 dX12_runCommand_126 rfl (lv_at hl 3 rfl) ?_
                  refine lv_iconst (v := (nI 1)) X.1 X.2.1 dX12_runCommand_127 (by decide) ?_
                  refine n_add X dX12_runCommand_128 ?_
                  refine lv_istore (lv' := [(6, .int (nI (i + 1))), (5, .int (nI 0)), (4, .int (iI ((((c.length : Nat) : Int) - ((i : Nat) : Int)) - ((1 : Nat) : Int)))), (3, .int (nI 0)), (2, .int (nI i)), (1, .int (nI c.length)), (0, .ref m0)]) X.1 X.2.1 dX12_runCommand_129 hl (by decide) rfl (fun ls hl => ?_)
                  have L131 : ∀ (rn : Nat) (v : Nat) (t : Nat) (h2 : t + rn = c.length ∨ (rn = 0 ∧ t = c.length + 1 ∧ i = c.length)) (hti : i < t) (hvb : (t = i + 1 ∧ v = 0) ∨ (t = i + 2 ∧ v < 10) ∨ (t = i + 3 ∧ v < 100) ∨ (t = i + 4 ∧ v < 1000)) (hqn : nmL c rn t v = paI c) (ls : Array Slot) (hl : lv_has ls 7 [(6, .int (nI t)), (5, .int (nI v)), (4, .int (iI ((((c.length : Nat) : Int) - ((i : Nat) : Int)) - ((1 : Nat) : Int)))), (3, .int (nI 0)), (2, .int (nI i)), (1, .int (nI c.length)), (0, .ref m0)]), W p_ l_ e_ { frames := 7, cells := 0, slots := 0, locals := 161 } S_ m_ args below meth co H locs 0 0 (MQ below (va_Qi (S := (Nat → Int32)) (fun r fc1 => r = (if (kdI c).toInt = -6 then (-6) else (-1)) ∧ rep fc1 []) (MuB g A (fun fc1 => [(m0, .inr (11, [.int (nI k), .int (nI n), .ref lt, .int (nI s.length), .ref er, .ref el, .int (nI h.length), .ref cm_, .int (nI (([] : List Nat).length)), .int (bI tk), .int (nI k0), .int (nI n0), .ref sv, .int (nI s0.length), .ref md, .int (nI z.length), .ref fmm, .ref lc, .ref lz, .ref af, .ref pt_, .int (nI p.length), .ref oc, .ref ty_, .ref sz_, .ref em])), (cm_, .inl (g.2.1, 20, .inl fc1))])) A) args S_ 0 0 A) (F0 m_ 131 ls []) := by
                    intro rn
                    induction rn with
                    | zero =>
                      intro v t h2 hti hvb hqn ls hl
                      refine lv_iload X.1 X.2.1 dX12_runCommand_131 (lv_at hl 0 rfl) ?_
                      refine lv_iload_n X.1 X.2.1 dX12_runCommand_133 rfl (lv_at hl 5 rfl) ?_
                      refine z_icmp_ge (tgt := 180) X dX12_runCommand_134 (by decide) (nI_toInt (by omega)) (nI_toInt (by omega)) (fun c134 => ?_) (fun c134 => ?_)
                      · refine lv_aload_n X.1 X.2.1 dX12_runCommand_180 rfl (lv_at hl 6 rfl) ?_
                        refine lv_iload_n X.1 X.2.1 dX12_runCommand_181 rfl (lv_at hl 3 rfl) ?_
                        refine lv_iload X.1 X.2.1 dX12_runCommand_182 (lv_at hl 1 rfl) ?_
                        have hv9 : nI v = paI c := hqn
                        have hno2 : ¬ (0 ≤ (nI 0).toInt ∧ (nI 0).toInt ≤ 3) ∨ ((nI 0).toInt = 3 ∧ ¬ (0 ≤ (nI v).toInt ∧ (nI v).toInt < (T : Int))) := rc_no hno hk9 hv9 (by decide) (by rw [nI_toInt (by omega)]; omega)
                        refine (m_construct_no g m0 lt er el cm_ sv md fmm lc lz af pt_ oc ty_ sz_ em k n s h ([] : List Nat) tk k0 n0 s0 z p B T (nI 0) (nI v) (by assumption) (hno2)).callV (rest := []) X dX12_runCommand_184 q1217 tX12_construct hK (hP.sub [0] rfl) 0 11 rfl rfl rfl hl ⟨⟨Nat.le_of_ble_eq_true rfl, Nat.le_of_ble_eq_true rfl⟩, Nat.le_of_ble_eq_true rfl, Nat.le_of_ble_eq_true rfl⟩ rfl rfl (Nat.le_of_ble_eq_true rfl) ?_
                        exact MuI.ret X hr hlk hK hS dX12_runCommand_187 (nI_nar _) fc (hP.sub [0, 1] rfl) (hD.sub [0, 1] (by decide) rfl) (⟨by rw [hk9, if_neg (by decide)], hfn⟩)
                      · exfalso; omega
                    | succ rn ih131 =>
                      intro v t h2 hti hvb hqn ls hl
                      refine lv_iload X.1 X.2.1 dX12_runCommand_131 (lv_at hl 0 rfl) ?_
                      refine lv_iload_n X.1 X.2.1 dX12_runCommand_133 rfl (lv_at hl 5 rfl) ?_
                      refine z_icmp_ge (tgt := 180) X dX12_runCommand_134 (by decide) (nI_toInt (by omega)) (nI_toInt (by omega)) (fun c134 => ?_) (fun c134 => ?_)
                      · exfalso; omega
                      · refine lv_aload_n X.1 X.2.1 dX12_runCommand_137 rfl (lv_at hl 6 rfl) ?_
                        refine va_get (D := g.1) (ci := 11) (v := .ref cm_) (C := RX12) (T := TX12) (N := 26) X.1 X.2.1 X.2.2.2.2 iwX12 X.2.2.2.1 hK hP 0 rfl rfl 7 (by decide) (X.2.2.2.2 _ q1027) (fun _ h9 => h9) rfl dX12_runCommand_138 ?_
                        refine lv_iload X.1 X.2.1 dX12_runCommand_141 (lv_at hl 0 rfl) ?_
                        refine n_iald X hK hP 1 0 rfl rfl (by omega) (by decide) dX12_runCommand_143 ?_
                        have hbt := hbc t
                        refine tp_i (y := (nI (c.getD t 0))) (hfc t (by omega)) ?_
                        refine lv_bipush (v := (nI 48)) X.1 X.2.1 dX12_runCommand_144 (by decide) ?_
                        refine lv_bipush (v := (nI 57)) X.1 X.2.1 dX12_runCommand_146 (by decide) ?_
                        refine (c_inN g (nI (c.getD t 0)) 48 57 (by omega) (by omega)).callS (rest := []) X dX12_runCommand_148 q1103 tX12_in hK (hP.sub [] rfl) hl ⟨⟨Nat.le_of_ble_eq_true rfl, Nat.le_of_ble_eq_true rfl⟩, Nat.le_of_ble_eq_true rfl, Nat.le_of_ble_eq_true rfl⟩ rfl rfl (Nat.le_of_ble_eq_true rfl) ?_
                        refine b_if_ne (tgt := 156) X dX12_runCommand_151 (by decide) (fun c151 => ?_) (fun c151 => ?_)
                        · have h4 := of_decide_eq_true c151
                          rw [nI_toInt (by omega)] at h4
                          refine lv_bipush (v := (nI 10)) X.1 X.2.1 dX12_runCommand_156 (by decide) ?_
                          refine lv_iload X.1 X.2.1 dX12_runCommand_158 (lv_at hl 1 rfl) ?_
                          refine n_mul X dX12_runCommand_160 ?_
                          refine lv_aload_n X.1 X.2.1 dX12_runCommand_161 rfl (lv_at hl 6 rfl) ?_
                          refine va_get (D := g.1) (ci := 11) (v := .ref cm_) (C := RX12) (T := TX12) (N := 26) X.1 X.2.1 X.2.2.2.2 iwX12 X.2.2.2.1 hK hP 0 rfl rfl 7 (by decide) (X.2.2.2.2 _ q1027) (fun _ h9 => h9) rfl dX12_runCommand_162 ?_
                          refine lv_iload X.1 X.2.1 dX12_runCommand_165 (lv_at hl 0 rfl) ?_
                          refine n_iald X hK hP 1 0 rfl rfl (by omega) (by decide) dX12_runCommand_167 ?_
                          refine tp_i (y := (nI (c.getD t 0))) (hfc t (by omega)) ?_
                          refine n_add X dX12_runCommand_168 ?_
                          refine lv_bipush (v := (nI 48)) X.1 X.2.1 dX12_runCommand_169 (by decide) ?_
                          refine n_sub X dX12_runCommand_171 (by omega) ?_
                          refine lv_istore (lv' := [(5, .int (nI ((10 * v + (c.getD t 0)) - 48))), (6, .int (nI t)), (4, .int (iI ((((c.length : Nat) : Int) - ((i : Nat) : Int)) - ((1 : Nat) : Int)))), (3, .int (nI 0)), (2, .int (nI i)), (1, .int (nI c.length)), (0, .ref m0)]) X.1 X.2.1 dX12_runCommand_172 hl (by decide) rfl (fun ls hl => ?_)
                          refine lv_iinc (v := (nI (t + 1))) (lv' := [(6, .int (nI (t + 1))), (5, .int (nI ((10 * v + (c.getD t 0)) - 48))), (4, .int (iI ((((c.length : Nat) : Int) - ((i : Nat) : Int)) - ((1 : Nat) : Int)))), (3, .int (nI 0)), (2, .int (nI i)), (1, .int (nI c.length)), (0, .ref m0)]) X.1 X.2.1 dX12_runCommand_174 hl (k := 1) rfl (nI_inc _) (by decide) rfl (fun ls hl => ?_)
                          refine lv_goto (tgt := 131) X.1 X.2.1 dX12_runCommand_177 (by decide) ?_
                          exact ih131 ((10 * v + (c.getD t 0)) - 48) (t + 1) (by omega) (by omega) (by omega) (by rw [nmL, if_pos (by omega)] at hqn; rw [show 10 * v + c.getD t 0 - 48 = v * 10 + (c.getD t 0 - 48) by omega]; exact hqn) ls (lv_sub hl [0, 1, 2, 3, 4, 5, 6] rfl)
                        · have h4 := of_decide_eq_false c151
                          rw [nI_toInt (by omega)] at h4
                          refine lv_iconst (v := (-1)) X.1 X.2.1 dX12_runCommand_154 (by decide) ?_
                          exact MuI.ret X hr hlk hK hS dX12_runCommand_155 (nI_nar _) fc (hP.sub [0, 1] rfl) (hD.sub [0, 1] (by decide) rfl) (⟨by rw [hk9, if_neg (by decide)], hfn⟩)
                  exact L131 (c.length - (i + 1)) 0 (i + 1) (by omega) (by omega) (by omega) (by unfold paI; first | (rw [if_pos (by omega), show c.length - (i + 1) = 0 by omega]; rfl) | (rw [if_neg (by omega), if_neg (by omega), ← hce])) ls (lv_sub hl [0, 1, 2, 3, 4, 5, 6] rfl)
                · have h3 := of_decide_eq_false c118
                  rw [iI_toInt (by omega) (by omega)] at h3
                  refine lv_iconst (v := (-1)) X.1 X.2.1 dX12_runCommand_121 (by decide) ?_
                  exact MuI.ret X hr hlk hK hS dX12_runCommand_122 (nI_nar _) fc (hP.sub [0, 1] rfl) (hD.sub [0, 1] (by decide) rfl) (⟨by rw [hk9, if_neg (by decide)], hfn⟩)
            · exfalso; omega
        · refine lv_iinc (v := (nI (i + 1))) (lv' := [(2, .int (nI (i + 1))), (1, .int (nI c.length)), (0, .ref m0)]) X.1 X.2.1 dX12_runCommand_28 hl (k := 0) rfl (nI_inc _) (by decide) rfl (fun ls hl => ?_)
          refine lv_goto (tgt := 12) X.1 X.2.1 dX12_runCommand_31 (by decide) ?_
          exact ih12 (i + 1) (by omega) (by rw [firstL, isCol, decide_eq_false (by omega)] at hq; exact hq) ls (lv_sub hl [0, 1, 2] rfl)
  exact L12 c.length 0 (by omega) (rfl) ls (lv_sub hl [0, 1, 2] rfl)
