set_option maxHeartbeats 4000000 in
set_option maxRecDepth 100000 in
theorem m_byNeck (g : G5) (m0 : Nat) (lt : Nat) (er : Nat) (el : Nat) (cm_ : Nat) (sv : Nat) (md : Nat) (fmm : Nat) (lc : Nat) (lz : Nat) (af : Nat) (pt_ : Nat) (oc : Nat) (ty_ : Nat) (sz_ : Nat) (em : Nat) (k : Nat) (n : Nat) (s : List Nat) (h : List (List Nat)) (c : List Nat) (tk : Bool) (k0 : Nat) (n0 : Nat) (s0 : List Nat) (p : List Int) (fm_ : Nat → Int32) (B : Nat) (T : Nat) (hc : shp k n B T) : MuV (S := (Nat → Int32)) yX12_byNecklaces cX12_byNecklaces 3 none 5 117 g [.ref m0] [(m0, .inr (11, [.int (nI k), .int (nI n), .ref lt, .int (nI s.length), .ref er, .ref el, .int (nI h.length), .ref cm_, .int (nI c.length), .int (bI tk), .int (nI k0), .int (nI n0), .ref sv, .int (nI s0.length), .ref md, .int (nI (([] : List Nat).length)), .ref fmm, .ref lc, .ref lz, .ref af, .ref pt_, .int (nI p.length), .ref oc, .ref ty_, .ref sz_, .ref em])), (md, .inl (g.2.1, 256, .inl fm_))] (fun fm1 => rep fm1 (neL k T n B 0)) (fun fm1 => [(m0, .inr (11, [.int (nI k), .int (nI n), .ref lt, .int (nI s.length), .ref er, .ref el, .int (nI h.length), .ref cm_, .int (nI c.length), .int (bI tk), .int (nI k0), .int (nI n0), .ref sv, .int (nI s0.length), .ref md, .int (nI ((neL k T n B 0).length)), .ref fmm, .ref lc, .ref lz, .ref af, .ref pt_, .int (nI p.length), .ref oc, .ref ty_, .ref sz_, .ref em])), (md, .inl (g.2.1, 256, .inl fm1))]) := by
  refine MuV.of (by decide +kernel) (Nat.le_of_ble_eq_true rfl) ?_
  intro p_ l_ e_ S_ m_ args below meth co X hr hlk hP hK A hA hD hS ls hl
  have X : CallFix p_ m_ co cX12_byNecklaces 3 S_ args lw_all RX12 := X
  have hl : lv_has ls 3 [(0, .ref m0)] := hl
  obtain ⟨hk2, hk4, hn1, hn6, hB, hT, hBT, hT2⟩ := hc.f
  have hB0 : 0 < B := by rw [hBT]; exact Nat.mul_pos (by omega) (by omega)
  refine lv_iconst (v := (nI 0)) X.1 X.2.1 dX12_byNecklaces_0 (by decide) ?_
  refine lv_istore_n (lv' := [(1, .int (nI 0)), (0, .ref m0)]) X.1 X.2.1 dX12_byNecklaces_1 rfl hl (by decide) rfl (fun ls hl => ?_)
  refine lv_iconst (v := (nI 0)) X.1 X.2.1 dX12_byNecklaces_2 (by decide) ?_
  refine lv_istore_n (lv' := [(2, .int (nI 0)), (1, .int (nI 0)), (0, .ref m0)]) X.1 X.2.1 dX12_byNecklaces_3 rfl hl (by decide) rfl (fun ls hl => ?_)
  have L4 : ∀ (r : Nat) (b : Nat) (i : Nat) (z1 : List Nat) (fm1 : Nat → Int32) (h1 : i + r = B) (hl1 : z1.length = i) (hb : b < B) (hq : z1 ++ neL k T n r b = neL k T n B 0) (hf1 : rep fm1 z1) (H : Heap) (locs : List Loc) (hP : PP g [(m0, .inr (11, [.int (nI k), .int (nI n), .ref lt, .int (nI s.length), .ref er, .ref el, .int (nI h.length), .ref cm_, .int (nI c.length), .int (bI tk), .int (nI k0), .int (nI n0), .ref sv, .int (nI s0.length), .ref md, .int (nI z1.length), .ref fmm, .ref lc, .ref lz, .ref af, .ref pt_, .int (nI p.length), .ref oc, .ref ty_, .ref sz_, .ref em])), (md, .inl (g.2.1, 256, .inl fm1))] H) (hD : va_D A [(m0, .inr (11, [.int (nI k), .int (nI n), .ref lt, .int (nI s.length), .ref er, .ref el, .int (nI h.length), .ref cm_, .int (nI c.length), .int (bI tk), .int (nI k0), .int (nI n0), .ref sv, .int (nI s0.length), .ref md, .int (nI z1.length), .ref fmm, .ref lc, .ref lz, .ref af, .ref pt_, .int (nI p.length), .ref oc, .ref ty_, .ref sz_, .ref em])), (md, .inl (g.2.1, 256, .inl fm1))]) (hS : va_S A S_.heap H locs) (ls : Array Slot) (hl : lv_has ls 3 [(2, .int (nI i)), (1, .int (nI b)), (0, .ref m0)]), W p_ l_ e_ { frames := 5, cells := 0, slots := 0, locals := 117 } S_ m_ args below meth co H locs 0 0 (MQ below (va_Qv (S := (Nat → Int32)) (fun fm1 => rep fm1 (neL k T n B 0)) (MuB g A (fun fm1 => [(m0, .inr (11, [.int (nI k), .int (nI n), .ref lt, .int (nI s.length), .ref er, .ref el, .int (nI h.length), .ref cm_, .int (nI c.length), .int (bI tk), .int (nI k0), .int (nI n0), .ref sv, .int (nI s0.length), .ref md, .int (nI ((neL k T n B 0).length)), .ref fmm, .ref lc, .ref lz, .ref af, .ref pt_, .int (nI p.length), .ref oc, .ref ty_, .ref sz_, .ref em])), (md, .inl (g.2.1, 256, .inl fm1))])) A) args S_ 0 0 A) (F0 m_ 4 ls []) := by
    intro r
    induction r with
    | zero =>
      intro b i z1 fm1 h1 hl1 hb hq hf1 H locs hP hD hS ls hl
      have e9 : z1 = neL k T n B 0 := by simpa [neL] using hq
      refine lv_iload_n X.1 X.2.1 dX12_byNecklaces_4 rfl (lv_at hl 0 rfl) ?_
      refine lv_aload_n X.1 X.2.1 dX12_byNecklaces_5 rfl (lv_at hl 2 rfl) ?_
      refine (m_blocks g m0 lt er el cm_ sv md fmm lc lz af pt_ oc ty_ sz_ em k n s h c tk k0 n0 s0 z1 p B T (by assumption)).callV (rest := [.int (nI i)]) X dX12_byNecklaces_6 q1109 tX12_blocks hK (hP.sub [0] rfl) 0 11 rfl rfl rfl hl ⟨⟨Nat.le_of_ble_eq_true rfl, Nat.le_of_ble_eq_true rfl⟩, Nat.le_of_ble_eq_true rfl, Nat.le_of_ble_eq_true rfl⟩ rfl rfl (Nat.le_of_ble_eq_true rfl) ?_
      refine z_icmp_ge (tgt := 33) X dX12_byNecklaces_9 (by decide) (nI_toInt (by omega)) (nI_toInt (by omega)) (fun c9 => ?_) (fun c9 => ?_)
      · have hP : PP g [(m0, .inr (11, [.int (nI k), .int (nI n), .ref lt, .int (nI s.length), .ref er, .ref el, .int (nI h.length), .ref cm_, .int (nI c.length), .int (bI tk), .int (nI k0), .int (nI n0), .ref sv, .int (nI s0.length), .ref md, .int (nI ((neL k T n B 0).length)), .ref fmm, .ref lc, .ref lz, .ref af, .ref pt_, .int (nI p.length), .ref oc, .ref ty_, .ref sz_, .ref em])), (md, .inl (g.2.1, 256, .inl fm1))] H := by rw [← e9]; exact hP
        have hD : va_D A [(m0, .inr (11, [.int (nI k), .int (nI n), .ref lt, .int (nI s.length), .ref er, .ref el, .int (nI h.length), .ref cm_, .int (nI c.length), .int (bI tk), .int (nI k0), .int (nI n0), .ref sv, .int (nI s0.length), .ref md, .int (nI ((neL k T n B 0).length)), .ref fmm, .ref lc, .ref lz, .ref af, .ref pt_, .int (nI p.length), .ref oc, .ref ty_, .ref sz_, .ref em])), (md, .inl (g.2.1, 256, .inl fm1))] := by rw [← e9]; exact hD
        exact MuV.ret X hr hlk hK hS dX12_byNecklaces_33 fm1 (hP.sub [0, 1] rfl) (hD.sub [0, 1] (by decide) rfl) (rep_eq hf1 e9)
      · exfalso; omega
    | succ r ih4 =>
      intro b i z1 fm1 h1 hl1 hb hq hf1 H locs hP hD hS ls hl
      refine lv_iload_n X.1 X.2.1 dX12_byNecklaces_4 rfl (lv_at hl 0 rfl) ?_
      refine lv_aload_n X.1 X.2.1 dX12_byNecklaces_5 rfl (lv_at hl 2 rfl) ?_
      refine (m_blocks g m0 lt er el cm_ sv md fmm lc lz af pt_ oc ty_ sz_ em k n s h c tk k0 n0 s0 z1 p B T (by assumption)).callV (rest := [.int (nI i)]) X dX12_byNecklaces_6 q1109 tX12_blocks hK (hP.sub [0] rfl) 0 11 rfl rfl rfl hl ⟨⟨Nat.le_of_ble_eq_true rfl, Nat.le_of_ble_eq_true rfl⟩, Nat.le_of_ble_eq_true rfl, Nat.le_of_ble_eq_true rfl⟩ rfl rfl (Nat.le_of_ble_eq_true rfl) ?_
      refine z_icmp_ge (tgt := 33) X dX12_byNecklaces_9 (by decide) (nI_toInt (by omega)) (nI_toInt (by omega)) (fun c9 => ?_) (fun c9 => ?_)
      · exfalso; omega
      · refine lv_aload_n X.1 X.2.1 dX12_byNecklaces_12 rfl (lv_at hl 2 rfl) ?_
        refine lv_aload_n X.1 X.2.1 dX12_byNecklaces_13 rfl (lv_at hl 2 rfl) ?_
        refine lv_iload_n X.1 X.2.1 dX12_byNecklaces_14 rfl (lv_at hl 1 rfl) ?_
        refine (m_successor g m0 lt er el cm_ sv md fmm lc lz af pt_ oc ty_ sz_ em k n s h c tk k0 n0 s0 z1 p B T b (by assumption) (by omega)).callV (rest := [.ref m0]) X dX12_byNecklaces_15 q1178 tX12_successor hK (hP.sub [0] rfl) 0 11 rfl rfl rfl hl ⟨⟨Nat.le_of_ble_eq_true rfl, Nat.le_of_ble_eq_true rfl⟩, Nat.le_of_ble_eq_true rfl, Nat.le_of_ble_eq_true rfl⟩ rfl rfl (Nat.le_of_ble_eq_true rfl) ?_
        have hF := suc_lt hc hb
        refine (m_make g m0 lt er el cm_ sv md fmm lc lz af pt_ oc ty_ sz_ em k n s h c tk k0 n0 s0 z1 p fm1 (sucN k T n b) (by omega) (hf1)).callV (rest := []) (wr := []) X dX12_byNecklaces_18 q1141 tX12_make hK hP hD hS hA [0, 1] [] (by decide) rfl rfl (by decide) (by decide) 0 11 rfl rfl rfl hl ⟨⟨Nat.le_of_ble_eq_true rfl, Nat.le_of_ble_eq_true rfl⟩, Nat.le_of_ble_eq_true rfl, Nat.le_of_ble_eq_true rfl⟩ rfl rfl (Nat.le_of_ble_eq_true rfl) (fun u18 H locs hw18 hP hD hS => ?_)
        obtain ⟨fm1_18, rfl⟩ : ∃ z, z = u18 := ⟨_, rfl⟩
        have hP : PP g [(m0, .inr (11, [.int (nI k), .int (nI n), .ref lt, .int (nI s.length), .ref er, .ref el, .int (nI h.length), .ref cm_, .int (nI c.length), .int (bI tk), .int (nI k0), .int (nI n0), .ref sv, .int (nI s0.length), .ref md, .int (nI ((z1 ++ [(sucN k T n b)]).length)), .ref fmm, .ref lc, .ref lz, .ref af, .ref pt_, .int (nI p.length), .ref oc, .ref ty_, .ref sz_, .ref em])), (md, .inl (g.2.1, 256, .inl fm1_18))] H := hP
        have hD : va_D A [(m0, .inr (11, [.int (nI k), .int (nI n), .ref lt, .int (nI s.length), .ref er, .ref el, .int (nI h.length), .ref cm_, .int (nI c.length), .int (bI tk), .int (nI k0), .int (nI n0), .ref sv, .int (nI s0.length), .ref md, .int (nI ((z1 ++ [(sucN k T n b)]).length)), .ref fmm, .ref lc, .ref lz, .ref af, .ref pt_, .int (nI p.length), .ref oc, .ref ty_, .ref sz_, .ref em])), (md, .inl (g.2.1, 256, .inl fm1_18))] := hD
        try dsimp only at hw18
        refine lv_aload_n X.1 X.2.1 dX12_byNecklaces_21 rfl (lv_at hl 2 rfl) ?_
        refine lv_iload_n X.1 X.2.1 dX12_byNecklaces_22 rfl (lv_at hl 1 rfl) ?_
        refine (m_next g m0 lt er el cm_ sv md fmm lc lz af pt_ oc ty_ sz_ em k n s h c tk k0 n0 s0 (z1 ++ [(sucN k T n b)]) p B T b (by assumption) (by omega)).callV (rest := []) X dX12_byNecklaces_23 q1182 tX12_next hK (hP.sub [0] rfl) 0 11 rfl rfl rfl hl ⟨⟨Nat.le_of_ble_eq_true rfl, Nat.le_of_ble_eq_true rfl⟩, Nat.le_of_ble_eq_true rfl, Nat.le_of_ble_eq_true rfl⟩ rfl rfl (Nat.le_of_ble_eq_true rfl) ?_
        refine lv_istore_n (lv' := [(1, .int (nI (b % T * k + sucN k T n b))), (2, .int (nI i)), (0, .ref m0)]) X.1 X.2.1 dX12_byNecklaces_26 rfl hl (by decide) rfl (fun ls hl => ?_)
        refine lv_iinc (v := (nI (i + 1))) (lv' := [(2, .int (nI (i + 1))), (1, .int (nI (b % T * k + sucN k T n b))), (0, .ref m0)]) X.1 X.2.1 dX12_byNecklaces_27 hl (k := 1) rfl (nI_inc _) (by decide) rfl (fun ls hl => ?_)
        refine lv_goto (tgt := 4) X.1 X.2.1 dX12_byNecklaces_30 (by decide) ?_
        exact ih4 (b % T * k + sucN k T n b) (i + 1) (z1 ++ [sucN k T n b]) fm1_18 (by omega) (by simp; omega) (suc_ended hc (md_lt hc _) hF) (by rw [neL] at hq; simpa using hq) (hw18) _ _ (hP.sub [0, 1] rfl) (hD.sub [0, 1] (by decide) rfl) hS ls (lv_sub hl [0, 1, 2] rfl)
  exact L4 B 0 0 ([] : List Nat) fm_ (by omega) (rfl) (B_pos hc) (rfl) (rep_nil) _ _ (hP.sub [0, 1] rfl) (hD.sub [0, 1] (by decide) rfl) hS ls (lv_sub hl [0, 1, 2] rfl)

set_option maxHeartbeats 4000000 in
set_option maxRecDepth 100000 in
theorem m_greedy (g : G5) (m0 : Nat) (lt : Nat) (er : Nat) (el : Nat) (cm_ : Nat) (sv : Nat) (md : Nat) (fmm : Nat) (lc : Nat) (lz : Nat) (af : Nat) (pt_ : Nat) (oc : Nat) (ty_ : Nat) (sz_ : Nat) (em : Nat) (k : Nat) (n : Nat) (s : List Nat) (h : List (List Nat)) (c : List Nat) (tk : Bool) (k0 : Nat) (n0 : Nat) (s0 : List Nat) (p : List Int) (fm_ : Nat → Int32) (q : Nat → Bool) (B : Nat) (T : Nat) (hc : shp k n B T) : MuV (S := (Nat → Int32) × (Nat → Bool)) yX12_greedy cX12_greedy 5 none 2 43 g [.ref m0] [(m0, .inr (11, [.int (nI k), .int (nI n), .ref lt, .int (nI s.length), .ref er, .ref el, .int (nI h.length), .ref cm_, .int (nI c.length), .int (bI tk), .int (nI k0), .int (nI n0), .ref sv, .int (nI s0.length), .ref md, .int (nI (([] : List Nat).length)), .ref fmm, .ref lc, .ref lz, .ref af, .ref pt_, .int (nI p.length), .ref oc, .ref ty_, .ref sz_, .ref em])), (md, .inl (g.2.1, 256, .inl fm_)), (fmm, .inl (g.2.2.1, 256, .inl (mf q)))] (fun u => rep u.1 (grL k T B 0 qz)) (fun u => [(m0, .inr (11, [.int (nI k), .int (nI n), .ref lt, .int (nI s.length), .ref er, .ref el, .int (nI h.length), .ref cm_, .int (nI c.length), .int (bI tk), .int (nI k0), .int (nI n0), .ref sv, .int (nI s0.length), .ref md, .int (nI ((grL k T B 0 qz).length)), .ref fmm, .ref lc, .ref lz, .ref af, .ref pt_, .int (nI p.length), .ref oc, .ref ty_, .ref sz_, .ref em])), (md, .inl (g.2.1, 256, .inl u.1)), (fmm, .inl (g.2.2.1, 256, .inl (mf u.2)))]) := by
  refine MuV.of (by decide +kernel) (Nat.le_of_ble_eq_true rfl) ?_
  intro p_ l_ e_ S_ m_ args below meth co X hr hlk hP hK A hA hD hS ls hl
  have X : CallFix p_ m_ co cX12_greedy 5 S_ args lw_all RX12 := X
  have hl : lv_has ls 5 [(0, .ref m0)] := hl
  obtain ⟨hk2, hk4, hn1, hn6, hB, hT, hBT, hT2⟩ := hc.f
  have hB0 : 0 < B := by rw [hBT]; exact Nat.mul_pos (by omega) (by omega)
  refine lv_iconst (v := (nI 0)) X.1 X.2.1 dX12_greedy_0 (by decide) ?_
  refine lv_istore_n (lv' := [(1, .int (nI 0)), (0, .ref m0)]) X.1 X.2.1 dX12_greedy_1 rfl hl (by decide) rfl (fun ls hl => ?_)
  have L2 : ∀ (r : Nat) (i : Nat) (q1 : Nat → Bool) (h1 : i + r = B) (hz : ∀ j, j < i → q1 j = qz j) (H : Heap) (locs : List Loc) (hP : PP g [(m0, .inr (11, [.int (nI k), .int (nI n), .ref lt, .int (nI s.length), .ref er, .ref el, .int (nI h.length), .ref cm_, .int (nI c.length), .int (bI tk), .int (nI k0), .int (nI n0), .ref sv, .int (nI s0.length), .ref md, .int (nI (([] : List Nat).length)), .ref fmm, .ref lc, .ref lz, .ref af, .ref pt_, .int (nI p.length), .ref oc, .ref ty_, .ref sz_, .ref em])), (md, .inl (g.2.1, 256, .inl fm_)), (fmm, .inl (g.2.2.1, 256, .inl (mf q1)))] H) (hD : va_D A [(m0, .inr (11, [.int (nI k), .int (nI n), .ref lt, .int (nI s.length), .ref er, .ref el, .int (nI h.length), .ref cm_, .int (nI c.length), .int (bI tk), .int (nI k0), .int (nI n0), .ref sv, .int (nI s0.length), .ref md, .int (nI (([] : List Nat).length)), .ref fmm, .ref lc, .ref lz, .ref af, .ref pt_, .int (nI p.length), .ref oc, .ref ty_, .ref sz_, .ref em])), (md, .inl (g.2.1, 256, .inl fm_)), (fmm, .inl (g.2.2.1, 256, .inl (mf q1)))]) (hS : va_S A S_.heap H locs) (ls : Array Slot) (hl : lv_has ls 5 [(1, .int (nI i)), (0, .ref m0)]), W p_ l_ e_ { frames := 2, cells := 0, slots := 0, locals := 43 } S_ m_ args below meth co H locs 0 0 (MQ below (va_Qv (S := (Nat → Int32) × (Nat → Bool)) (fun u => rep u.1 (grL k T B 0 qz)) (MuB g A (fun u => [(m0, .inr (11, [.int (nI k), .int (nI n), .ref lt, .int (nI s.length), .ref er, .ref el, .int (nI h.length), .ref cm_, .int (nI c.length), .int (bI tk), .int (nI k0), .int (nI n0), .ref sv, .int (nI s0.length), .ref md, .int (nI ((grL k T B 0 qz).length)), .ref fmm, .ref lc, .ref lz, .ref af, .ref pt_, .int (nI p.length), .ref oc, .ref ty_, .ref sz_, .ref em])), (md, .inl (g.2.1, 256, .inl u.1)), (fmm, .inl (g.2.2.1, 256, .inl (mf u.2)))])) A) args S_ 0 0 A) (F0 m_ 2 ls []) := by
    intro r
    induction r with
    | zero =>
      intro i q1 h1 hz H locs hP hD hS ls hl
      have hzB : ∀ j, j < B → q1 j = qz j := fun j hj => hz j (by omega)
      refine lv_iload_n X.1 X.2.1 dX12_greedy_2 rfl (lv_at hl 0 rfl) ?_
      refine lv_aload_n X.1 X.2.1 dX12_greedy_3 rfl (lv_at hl 1 rfl) ?_
      refine (m_blocks g m0 lt er el cm_ sv md fmm lc lz af pt_ oc ty_ sz_ em k n s h c tk k0 n0 s0 ([] : List Nat) p B T (by assumption)).callV (rest := [.int (nI i)]) X dX12_greedy_4 q1109 tX12_blocks hK (hP.sub [0] rfl) 0 11 rfl rfl rfl hl ⟨⟨Nat.le_of_ble_eq_true rfl, Nat.le_of_ble_eq_true rfl⟩, Nat.le_of_ble_eq_true rfl, Nat.le_of_ble_eq_true rfl⟩ rfl rfl (Nat.le_of_ble_eq_true rfl) ?_
      refine z_icmp_ge (tgt := 23) X dX12_greedy_7 (by decide) (nI_toInt (by omega)) (nI_toInt (by omega)) (fun c7 => ?_) (fun c7 => ?_)
      · refine lv_iconst (v := (nI 0)) X.1 X.2.1 dX12_greedy_23 (by decide) ?_
        refine lv_istore_n (lv' := [(1, .int (nI 0)), (0, .ref m0)]) X.1 X.2.1 dX12_greedy_24 rfl hl (by decide) rfl (fun ls hl => ?_)
        refine lv_aload_n X.1 X.2.1 dX12_greedy_25 rfl (lv_at hl 1 rfl) ?_
        refine va_get (D := g.1) (ci := 11) (v := .int (nI k)) (C := RX12) (T := TX12) (N := 26) X.1 X.2.1 X.2.2.2.2 iwX12 X.2.2.2.1 hK hP 0 rfl rfl 0 (by decide) (X.2.2.2.2 _ q1020) (fun _ h9 => h9) rfl dX12_greedy_26 ?_
        refine lv_aload_n X.1 X.2.1 dX12_greedy_29 rfl (lv_at hl 1 rfl) ?_
        refine va_get (D := g.1) (ci := 11) (v := .int (nI n)) (C := RX12) (T := TX12) (N := 26) X.1 X.2.1 X.2.2.2.2 iwX12 X.2.2.2.1 hK hP 0 rfl rfl 1 (by decide) (X.2.2.2.2 _ q1021) (fun _ h9 => h9) rfl dX12_greedy_30 ?_
        refine lv_iconst (v := (nI 1)) X.1 X.2.1 dX12_greedy_33 (by decide) ?_
        refine n_sub X dX12_greedy_34 (by omega) ?_
        refine (c_mpower g k (n - 1) (by omega)).callS (rest := []) X dX12_greedy_35 q1106 tX12_power hK (hP.sub [] rfl) hl ⟨⟨Nat.le_of_ble_eq_true rfl, Nat.le_of_ble_eq_true rfl⟩, Nat.le_of_ble_eq_true rfl, Nat.le_of_ble_eq_true rfl⟩ rfl rfl (Nat.le_of_ble_eq_true rfl) ?_
        refine tp_i (y := (nI T)) (by rw [hc.2.2]) ?_
        refine lv_istore_n (lv' := [(2, .int (nI T)), (1, .int (nI 0)), (0, .ref m0)]) X.1 X.2.1 dX12_greedy_38 rfl hl (by decide) rfl (fun ls hl => ?_)
        refine lv_iconst (v := (nI 1)) X.1 X.2.1 dX12_greedy_39 (by decide) ?_
        refine tp_i (y := bI true) rfl ?_
        refine lv_istore_n (lv' := [(3, .int (bI true)), (2, .int (nI T)), (1, .int (nI 0)), (0, .ref m0)]) X.1 X.2.1 dX12_greedy_40 rfl hl (by decide) rfl (fun ls hl => ?_)
        have L41 : ∀ (rf : Nat) (b : Bool) (u : Nat) (rr : Nat) (z1 : List Nat) (q1 : Nat → Bool) (fm1 : Nat → Int32) (hfu : b = true → rr + 1 ≤ rf) (hu : u < T) (hln : z1.length + rr ≤ B) (hqt : b = true → z1 ++ grL k T rr u q1 = grL k T B 0 qz ∧ grE k T rr u q1 = true) (hqf : b = false → z1 = grL k T B 0 qz) (hf1 : rep fm1 z1) (H : Heap) (locs : List Loc) (hP : PP g [(m0, .inr (11, [.int (nI k), .int (nI n), .ref lt, .int (nI s.length), .ref er, .ref el, .int (nI h.length), .ref cm_, .int (nI c.length), .int (bI tk), .int (nI k0), .int (nI n0), .ref sv, .int (nI s0.length), .ref md, .int (nI z1.length), .ref fmm, .ref lc, .ref lz, .ref af, .ref pt_, .int (nI p.length), .ref oc, .ref ty_, .ref sz_, .ref em])), (md, .inl (g.2.1, 256, .inl fm1)), (fmm, .inl (g.2.2.1, 256, .inl (mf q1)))] H) (hD : va_D A [(m0, .inr (11, [.int (nI k), .int (nI n), .ref lt, .int (nI s.length), .ref er, .ref el, .int (nI h.length), .ref cm_, .int (nI c.length), .int (bI tk), .int (nI k0), .int (nI n0), .ref sv, .int (nI s0.length), .ref md, .int (nI z1.length), .ref fmm, .ref lc, .ref lz, .ref af, .ref pt_, .int (nI p.length), .ref oc, .ref ty_, .ref sz_, .ref em])), (md, .inl (g.2.1, 256, .inl fm1)), (fmm, .inl (g.2.2.1, 256, .inl (mf q1)))]) (hS : va_S A S_.heap H locs) (ls : Array Slot) (hl : lv_has ls 5 [(3, .int (bI b)), (2, .int (nI T)), (1, .int (nI u)), (0, .ref m0)]), W p_ l_ e_ { frames := 2, cells := 0, slots := 0, locals := 43 } S_ m_ args below meth co H locs 0 0 (MQ below (va_Qv (S := (Nat → Int32) × (Nat → Bool)) (fun u => rep u.1 (grL k T B 0 qz)) (MuB g A (fun u => [(m0, .inr (11, [.int (nI k), .int (nI n), .ref lt, .int (nI s.length), .ref er, .ref el, .int (nI h.length), .ref cm_, .int (nI c.length), .int (bI tk), .int (nI k0), .int (nI n0), .ref sv, .int (nI s0.length), .ref md, .int (nI ((grL k T B 0 qz).length)), .ref fmm, .ref lc, .ref lz, .ref af, .ref pt_, .int (nI p.length), .ref oc, .ref ty_, .ref sz_, .ref em])), (md, .inl (g.2.1, 256, .inl u.1)), (fmm, .inl (g.2.2.1, 256, .inl (mf u.2)))])) A) args S_ 0 0 A) (F0 m_ 41 ls []) := by
          intro rf
          induction rf with
          | zero =>
            intro b u rr z1 q1 fm1 hfu hu hln hqt hqf hf1 H locs hP hD hS ls hl
            refine lv_iload_n X.1 X.2.1 dX12_greedy_41 rfl (lv_at hl 0 rfl) ?_
            refine b_if_eq (tgt := 132) X dX12_greedy_42 (by decide) (fun c42 => ?_) (fun c42 => ?_)
            · have e9 := hqf c42
              have hP : PP g [(m0, .inr (11, [.int (nI k), .int (nI n), .ref lt, .int (nI s.length), .ref er, .ref el, .int (nI h.length), .ref cm_, .int (nI c.length), .int (bI tk), .int (nI k0), .int (nI n0), .ref sv, .int (nI s0.length), .ref md, .int (nI ((grL k T B 0 qz).length)), .ref fmm, .ref lc, .ref lz, .ref af, .ref pt_, .int (nI p.length), .ref oc, .ref ty_, .ref sz_, .ref em])), (md, .inl (g.2.1, 256, .inl fm1)), (fmm, .inl (g.2.2.1, 256, .inl (mf q1)))] H := by rw [← e9]; exact hP
              have hD : va_D A [(m0, .inr (11, [.int (nI k), .int (nI n), .ref lt, .int (nI s.length), .ref er, .ref el, .int (nI h.length), .ref cm_, .int (nI c.length), .int (bI tk), .int (nI k0), .int (nI n0), .ref sv, .int (nI s0.length), .ref md, .int (nI ((grL k T B 0 qz).length)), .ref fmm, .ref lc, .ref lz, .ref af, .ref pt_, .int (nI p.length), .ref oc, .ref ty_, .ref sz_, .ref em])), (md, .inl (g.2.1, 256, .inl fm1)), (fmm, .inl (g.2.2.1, 256, .inl (mf q1)))] := by rw [← e9]; exact hD
              exact MuV.ret X hr hlk hK hS dX12_greedy_132 (fm1, q1) (hP.sub [0, 1, 2] rfl) (hD.sub [0, 1, 2] (by decide) rfl) (rep_eq hf1 e9)
            · have hq := hqt c42
              have hfu1 := hfu c42
              refine lv_aload_n X.1 X.2.1 dX12_greedy_45 rfl (lv_at hl 3 rfl) ?_
              refine va_get (D := g.1) (ci := 11) (v := .int (nI k)) (C := RX12) (T := TX12) (N := 26) X.1 X.2.1 X.2.2.2.2 iwX12 X.2.2.2.1 hK hP 0 rfl rfl 0 (by decide) (X.2.2.2.2 _ q1020) (fun _ h9 => h9) rfl dX12_greedy_46 ?_
              refine lv_iconst (v := (nI 1)) X.1 X.2.1 dX12_greedy_49 (by decide) ?_
              refine lv_isub X.1 X.2.1 dX12_greedy_50 ?_
              refine tp_i (y := (iI (((k : Nat) : Int) - ((1 : Nat) : Int)))) (by first | rw [iI_sub] | rw [nI_iI, nI_iI, iI_sub] | rw [nI_iI, iI_sub]) ?_
              refine lv_istore (lv' := [(4, .int (iI (((k : Nat) : Int) - ((1 : Nat) : Int)))), (3, .int (bI b)), (2, .int (nI T)), (1, .int (nI u)), (0, .ref m0)]) X.1 X.2.1 dX12_greedy_51 hl (by decide) rfl (fun ls hl => ?_)
              have L53 : ∀ (t : Nat)  (hr1 : t ≤ k) (hg : gnL q1 k u t = gnL q1 k u k) (ls : Array Slot) (hl : lv_has ls 5 [(4, .int (iI (((t : Nat) : Int) - 1))), (3, .int (bI b)), (2, .int (nI T)), (1, .int (nI u)), (0, .ref m0)]), W p_ l_ e_ { frames := 2, cells := 0, slots := 0, locals := 43 } S_ m_ args below meth co H locs 0 0 (MQ below (va_Qv (S := (Nat → Int32) × (Nat → Bool)) (fun u => rep u.1 (grL k T B 0 qz)) (MuB g A (fun u => [(m0, .inr (11, [.int (nI k), .int (nI n), .ref lt, .int (nI s.length), .ref er, .ref el, .int (nI h.length), .ref cm_, .int (nI c.length), .int (bI tk), .int (nI k0), .int (nI n0), .ref sv, .int (nI s0.length), .ref md, .int (nI ((grL k T B 0 qz).length)), .ref fmm, .ref lc, .ref lz, .ref af, .ref pt_, .int (nI p.length), .ref oc, .ref ty_, .ref sz_, .ref em])), (md, .inl (g.2.1, 256, .inl u.1)), (fmm, .inl (g.2.2.1, 256, .inl (mf u.2)))])) A) args S_ 0 0 A) (F0 m_ 53 ls []) := by
                intro t
                induction t with
                | zero =>
                  intro hr1 hg ls hl
                  refine lv_iload X.1 X.2.1 dX12_greedy_53 (lv_at hl 0 rfl) ?_
                  refine z_if_lt (tgt := 81) X dX12_greedy_55 (by decide) (iI_toInt (by omega) (by omega)) (fun c55 => ?_) (fun c55 => ?_)
                  · refine lv_iload X.1 X.2.1 dX12_greedy_81 (lv_at hl 0 rfl) ?_
                    refine z_if_lt (tgt := 90) X dX12_greedy_83 (by decide) (iI_toInt (by omega) (by omega)) (fun c83 => ?_) (fun c83 => ?_)
                    · refine lv_iconst (v := (nI 0)) X.1 X.2.1 dX12_greedy_90 (by decide) ?_
                      refine tp_i (y := bI false) rfl ?_
                      refine lv_istore_n (lv' := [(3, .int (bI false)), (4, .int (iI (((0 : Nat) : Int) - 1))), (2, .int (nI T)), (1, .int (nI u)), (0, .ref m0)]) X.1 X.2.1 dX12_greedy_91 rfl hl (by decide) rfl (fun ls hl => ?_)
                      refine lv_iload_n X.1 X.2.1 dX12_greedy_92 rfl (lv_at hl 0 rfl) ?_
                      refine b_if_eq (tgt := 129) X dX12_greedy_93 (by decide) (fun c93 => ?_) (fun c93 => ?_)
                      · have hno := grL_none (T := T) hg.symm rr
                        refine lv_goto (tgt := 41) X.1 X.2.1 dX12_greedy_129 (by decide) ?_
                        exfalso; omega
                      · exfalso; cases c93
                    · exfalso; omega
                  · exfalso; omega
                | succ t ih53 =>
                  intro hr1 hg ls hl
                  refine lv_iload X.1 X.2.1 dX12_greedy_53 (lv_at hl 0 rfl) ?_
                  refine z_if_lt (tgt := 81) X dX12_greedy_55 (by decide) (iI_toInt (by omega) (by omega)) (fun c55 => ?_) (fun c55 => ?_)
                  · exfalso; omega
                  · refine lv_aload_n X.1 X.2.1 dX12_greedy_58 rfl (lv_at hl 4 rfl) ?_
                    refine va_get (D := g.1) (ci := 11) (v := .ref fmm) (C := RX12) (T := TX12) (N := 26) X.1 X.2.1 X.2.2.2.2 iwX12 X.2.2.2.1 hK hP 0 rfl rfl 16 (by decide) (X.2.2.2.2 _ q1036) (fun _ h9 => h9) rfl dX12_greedy_59 ?_
                    refine lv_iload_n X.1 X.2.1 dX12_greedy_62 rfl (lv_at hl 3 rfl) ?_
                    refine lv_aload_n X.1 X.2.1 dX12_greedy_63 rfl (lv_at hl 4 rfl) ?_
                    refine va_get (D := g.1) (ci := 11) (v := .int (nI k)) (C := RX12) (T := TX12) (N := 26) X.1 X.2.1 X.2.2.2.2 iwX12 X.2.2.2.1 hK hP 0 rfl rfl 0 (by decide) (X.2.2.2.2 _ q1020) (fun _ h9 => h9) rfl dX12_greedy_64 ?_
                    refine n_mul X dX12_greedy_67 ?_
                    refine lv_iload X.1 X.2.1 dX12_greedy_68 (lv_at hl 0 rfl) ?_
                    refine tp_i (y := (nI t)) (by rw [nI_iI]; congr 1; omega) ?_
                    refine n_add X dX12_greedy_70 ?_
                    have hF := suc_ended hc hu (t := t) (by omega)
                    refine n_zald X hK hP 2 1 rfl rfl (by omega) (by decide) dX12_greedy_71 ?_
                    refine tp_i (y := (bI (q1 (u * k + t)))) (rfl) ?_
                    refine b_if_eq (tgt := 81) X dX12_greedy_72 (by decide) (fun c72 => ?_) (fun c72 => ?_)
                    · refine lv_iload X.1 X.2.1 dX12_greedy_81 (lv_at hl 0 rfl) ?_
                      refine z_if_lt (tgt := 90) X dX12_greedy_83 (by decide) (iI_toInt (by omega) (by omega)) (fun c83 => ?_) (fun c83 => ?_)
                      · exfalso; omega
                      · refine lv_iconst (v := (nI 1)) X.1 X.2.1 dX12_greedy_86 (by decide) ?_
                        refine lv_goto (tgt := 91) X.1 X.2.1 dX12_greedy_87 (by decide) ?_
                        refine tp_i (y := bI true) rfl ?_
                        refine lv_istore_n (lv' := [(3, .int (bI true)), (4, .int (iI ((((t + 1) : Nat) : Int) - 1))), (2, .int (nI T)), (1, .int (nI u)), (0, .ref m0)]) X.1 X.2.1 dX12_greedy_91 rfl hl (by decide) rfl (fun ls hl => ?_)
                        refine lv_iload_n X.1 X.2.1 dX12_greedy_92 rfl (lv_at hl 0 rfl) ?_
                        refine b_if_eq (tgt := 129) X dX12_greedy_93 (by decide) (fun c93 => ?_) (fun c93 => ?_)
                        · exfalso; cases c93
                        · obtain ⟨r9, e8, hg1, hg2⟩ := gr_some (hg.symm.trans (by rw [gnL, c72]; rfl)) hq.2
                          have hF := suc_ended hc hu (t := t) (by omega)
                          refine lv_aload_n X.1 X.2.1 dX12_greedy_96 rfl (lv_at hl 4 rfl) ?_
                          refine va_get (D := g.1) (ci := 11) (v := .ref fmm) (C := RX12) (T := TX12) (N := 26) X.1 X.2.1 X.2.2.2.2 iwX12 X.2.2.2.1 hK hP 0 rfl rfl 16 (by decide) (X.2.2.2.2 _ q1036) (fun _ h9 => h9) rfl dX12_greedy_97 ?_
                          refine lv_iload_n X.1 X.2.1 dX12_greedy_100 rfl (lv_at hl 3 rfl) ?_
                          refine lv_aload_n X.1 X.2.1 dX12_greedy_101 rfl (lv_at hl 4 rfl) ?_
                          refine va_get (D := g.1) (ci := 11) (v := .int (nI k)) (C := RX12) (T := TX12) (N := 26) X.1 X.2.1 X.2.2.2.2 iwX12 X.2.2.2.1 hK hP 0 rfl rfl 0 (by decide) (X.2.2.2.2 _ q1020) (fun _ h9 => h9) rfl dX12_greedy_102 ?_
                          refine n_mul X dX12_greedy_105 ?_
                          refine lv_iload X.1 X.2.1 dX12_greedy_106 (lv_at hl 1 rfl) ?_
                          refine tp_i (y := (nI t)) (by rw [nI_iI]; congr 1; omega) ?_
                          refine n_add X dX12_greedy_108 ?_
                          refine lv_iconst (v := (nI 1)) X.1 X.2.1 dX12_greedy_109 (by decide) ?_
                          refine n_zast X hK hP hD hS 2 1 rfl rfl (by omega) (by decide) (rfl) dX12_greedy_110 (fun H locs hP hD hS => ?_)
                          have hP : PP g [(m0, .inr (11, [.int (nI k), .int (nI n), .ref lt, .int (nI s.length), .ref er, .ref el, .int (nI h.length), .ref cm_, .int (nI c.length), .int (bI tk), .int (nI k0), .int (nI n0), .ref sv, .int (nI s0.length), .ref md, .int (nI z1.length), .ref fmm, .ref lc, .ref lz, .ref af, .ref pt_, .int (nI p.length), .ref oc, .ref ty_, .ref sz_, .ref em])), (md, .inl (g.2.1, 256, .inl fm1)), (fmm, .inl (g.2.2.1, 256, .inl (upd (mf q1) (u * k + t) (nI 1))))] H := hP
                          have hD : va_D A [(m0, .inr (11, [.int (nI k), .int (nI n), .ref lt, .int (nI s.length), .ref er, .ref el, .int (nI h.length), .ref cm_, .int (nI c.length), .int (bI tk), .int (nI k0), .int (nI n0), .ref sv, .int (nI s0.length), .ref md, .int (nI z1.length), .ref fmm, .ref lc, .ref lz, .ref af, .ref pt_, .int (nI p.length), .ref oc, .ref ty_, .ref sz_, .ref em])), (md, .inl (g.2.1, 256, .inl fm1)), (fmm, .inl (g.2.2.1, 256, .inl (upd (mf q1) (u * k + t) (nI 1))))] := hD
                          have hP : PP g [(m0, .inr (11, [.int (nI k), .int (nI n), .ref lt, .int (nI s.length), .ref er, .ref el, .int (nI h.length), .ref cm_, .int (nI c.length), .int (bI tk), .int (nI k0), .int (nI n0), .ref sv, .int (nI s0.length), .ref md, .int (nI z1.length), .ref fmm, .ref lc, .ref lz, .ref af, .ref pt_, .int (nI p.length), .ref oc, .ref ty_, .ref sz_, .ref em])), (md, .inl (g.2.1, 256, .inl fm1)), (fmm, .inl (g.2.2.1, 256, .inl (mf (qset q1 (u * k + t)))))] H := by rw [← mf_set]; exact hP
                          have hD : va_D A [(m0, .inr (11, [.int (nI k), .int (nI n), .ref lt, .int (nI s.length), .ref er, .ref el, .int (nI h.length), .ref cm_, .int (nI c.length), .int (bI tk), .int (nI k0), .int (nI n0), .ref sv, .int (nI s0.length), .ref md, .int (nI z1.length), .ref fmm, .ref lc, .ref lz, .ref af, .ref pt_, .int (nI p.length), .ref oc, .ref ty_, .ref sz_, .ref em])), (md, .inl (g.2.1, 256, .inl fm1)), (fmm, .inl (g.2.2.1, 256, .inl (mf (qset q1 (u * k + t)))))] := by rw [← mf_set]; exact hD
                          refine lv_aload_n X.1 X.2.1 dX12_greedy_111 rfl (lv_at hl 4 rfl) ?_
                          refine lv_iload X.1 X.2.1 dX12_greedy_112 (lv_at hl 1 rfl) ?_
                          refine tp_i (y := (nI t)) (by rw [nI_iI]; congr 1; omega) ?_
                          refine (m_make g m0 lt er el cm_ sv md fmm lc lz af pt_ oc ty_ sz_ em k n s h c tk k0 n0 s0 z1 p fm1 t (by omega) (hf1)).callV (rest := []) (wr := [(fmm, .inl (g.2.2.1, 256, .inl (mf (qset q1 (u * k + t)))))]) X dX12_greedy_114 q1141 tX12_make hK hP hD hS hA [0, 1] [2] (by decide) rfl rfl (by decide) (by decide) 0 11 rfl rfl rfl hl ⟨⟨Nat.le_of_ble_eq_true rfl, Nat.le_of_ble_eq_true rfl⟩, Nat.le_of_ble_eq_true rfl, Nat.le_of_ble_eq_true rfl⟩ rfl rfl (Nat.le_of_ble_eq_true rfl) (fun u114 H locs hw114 hP hD hS => ?_)
                          obtain ⟨fm1_114, rfl⟩ : ∃ z, z = u114 := ⟨_, rfl⟩
                          have hP : PP g [(fmm, .inl (g.2.2.1, 256, .inl (mf (qset q1 (u * k + t))))), (m0, .inr (11, [.int (nI k), .int (nI n), .ref lt, .int (nI s.length), .ref er, .ref el, .int (nI h.length), .ref cm_, .int (nI c.length), .int (bI tk), .int (nI k0), .int (nI n0), .ref sv, .int (nI s0.length), .ref md, .int (nI ((z1 ++ [t]).length)), .ref fmm, .ref lc, .ref lz, .ref af, .ref pt_, .int (nI p.length), .ref oc, .ref ty_, .ref sz_, .ref em])), (md, .inl (g.2.1, 256, .inl fm1_114))] H := hP
                          have hD : va_D A [(fmm, .inl (g.2.2.1, 256, .inl (mf (qset q1 (u * k + t))))), (m0, .inr (11, [.int (nI k), .int (nI n), .ref lt, .int (nI s.length), .ref er, .ref el, .int (nI h.length), .ref cm_, .int (nI c.length), .int (bI tk), .int (nI k0), .int (nI n0), .ref sv, .int (nI s0.length), .ref md, .int (nI ((z1 ++ [t]).length)), .ref fmm, .ref lc, .ref lz, .ref af, .ref pt_, .int (nI p.length), .ref oc, .ref ty_, .ref sz_, .ref em])), (md, .inl (g.2.1, 256, .inl fm1_114))] := hD
                          try dsimp only at hw114
                          refine lv_iload_n X.1 X.2.1 dX12_greedy_117 rfl (lv_at hl 3 rfl) ?_
                          refine lv_aload_n X.1 X.2.1 dX12_greedy_118 rfl (lv_at hl 4 rfl) ?_
                          refine va_get (D := g.1) (ci := 11) (v := .int (nI k)) (C := RX12) (T := TX12) (N := 26) X.1 X.2.1 X.2.2.2.2 iwX12 X.2.2.2.1 hK hP 1 rfl rfl 0 (by decide) (X.2.2.2.2 _ q1020) (fun _ h9 => h9) rfl dX12_greedy_119 ?_
                          refine n_mul X dX12_greedy_122 ?_
                          refine lv_iload X.1 X.2.1 dX12_greedy_123 (lv_at hl 1 rfl) ?_
                          refine tp_i (y := (nI t)) (by rw [nI_iI]; congr 1; omega) ?_
                          refine n_add X dX12_greedy_125 ?_
                          refine lv_iload_n X.1 X.2.1 dX12_greedy_126 rfl (lv_at hl 2 rfl) ?_
                          refine n_rem X dX12_greedy_127 (by omega) (by omega) (by omega) ?_
                          refine lv_istore_n (lv' := [(1, .int (nI ((u * k + t) % T))), (3, .int (bI true)), (4, .int (iI ((((t + 1) : Nat) : Int) - 1))), (2, .int (nI T)), (0, .ref m0)]) X.1 X.2.1 dX12_greedy_128 rfl hl (by decide) rfl (fun ls hl => ?_)
                          refine lv_goto (tgt := 41) X.1 X.2.1 dX12_greedy_129 (by decide) ?_
                          exfalso; omega
                    · refine lv_iinc (v := (iI (((t : Nat) : Int) - 1))) (lv' := [(4, .int (iI (((t : Nat) : Int) - 1))), (3, .int (bI b)), (2, .int (nI T)), (1, .int (nI u)), (0, .ref m0)]) X.1 X.2.1 dX12_greedy_75 hl (k := 0) rfl (iI_inc _ _ _ (by omega)) (by decide) rfl (fun ls hl => ?_)
                      refine lv_goto (tgt := 53) X.1 X.2.1 dX12_greedy_78 (by decide) ?_
                      exact ih53 (by omega) (by rw [gnL, c72] at hg; exact hg) ls (lv_sub hl [0, 1, 2, 3, 4] rfl)
              exact L53 k (by omega) (rfl) ls (lv_sub hl [0, 1, 2, 3, 4] rfl)
          | succ rf ih41 =>
            intro b u rr z1 q1 fm1 hfu hu hln hqt hqf hf1 H locs hP hD hS ls hl
            refine lv_iload_n X.1 X.2.1 dX12_greedy_41 rfl (lv_at hl 0 rfl) ?_
            refine b_if_eq (tgt := 132) X dX12_greedy_42 (by decide) (fun c42 => ?_) (fun c42 => ?_)
            · have e9 := hqf c42
              have hP : PP g [(m0, .inr (11, [.int (nI k), .int (nI n), .ref lt, .int (nI s.length), .ref er, .ref el, .int (nI h.length), .ref cm_, .int (nI c.length), .int (bI tk), .int (nI k0), .int (nI n0), .ref sv, .int (nI s0.length), .ref md, .int (nI ((grL k T B 0 qz).length)), .ref fmm, .ref lc, .ref lz, .ref af, .ref pt_, .int (nI p.length), .ref oc, .ref ty_, .ref sz_, .ref em])), (md, .inl (g.2.1, 256, .inl fm1)), (fmm, .inl (g.2.2.1, 256, .inl (mf q1)))] H := by rw [← e9]; exact hP
              have hD : va_D A [(m0, .inr (11, [.int (nI k), .int (nI n), .ref lt, .int (nI s.length), .ref er, .ref el, .int (nI h.length), .ref cm_, .int (nI c.length), .int (bI tk), .int (nI k0), .int (nI n0), .ref sv, .int (nI s0.length), .ref md, .int (nI ((grL k T B 0 qz).length)), .ref fmm, .ref lc, .ref lz, .ref af, .ref pt_, .int (nI p.length), .ref oc, .ref ty_, .ref sz_, .ref em])), (md, .inl (g.2.1, 256, .inl fm1)), (fmm, .inl (g.2.2.1, 256, .inl (mf q1)))] := by rw [← e9]; exact hD
              exact MuV.ret X hr hlk hK hS dX12_greedy_132 (fm1, q1) (hP.sub [0, 1, 2] rfl) (hD.sub [0, 1, 2] (by decide) rfl) (rep_eq hf1 e9)
            · have hq := hqt c42
              have hfu1 := hfu c42
              refine lv_aload_n X.1 X.2.1 dX12_greedy_45 rfl (lv_at hl 3 rfl) ?_
              refine va_get (D := g.1) (ci := 11) (v := .int (nI k)) (C := RX12) (T := TX12) (N := 26) X.1 X.2.1 X.2.2.2.2 iwX12 X.2.2.2.1 hK hP 0 rfl rfl 0 (by decide) (X.2.2.2.2 _ q1020) (fun _ h9 => h9) rfl dX12_greedy_46 ?_
              refine lv_iconst (v := (nI 1)) X.1 X.2.1 dX12_greedy_49 (by decide) ?_
              refine lv_isub X.1 X.2.1 dX12_greedy_50 ?_
              refine tp_i (y := (iI (((k : Nat) : Int) - ((1 : Nat) : Int)))) (by first | rw [iI_sub] | rw [nI_iI, nI_iI, iI_sub] | rw [nI_iI, iI_sub]) ?_
              refine lv_istore (lv' := [(4, .int (iI (((k : Nat) : Int) - ((1 : Nat) : Int)))), (3, .int (bI b)), (2, .int (nI T)), (1, .int (nI u)), (0, .ref m0)]) X.1 X.2.1 dX12_greedy_51 hl (by decide) rfl (fun ls hl => ?_)
              have L53 : ∀ (t : Nat)  (hr1 : t ≤ k) (hg : gnL q1 k u t = gnL q1 k u k) (ls : Array Slot) (hl : lv_has ls 5 [(4, .int (iI (((t : Nat) : Int) - 1))), (3, .int (bI b)), (2, .int (nI T)), (1, .int (nI u)), (0, .ref m0)]), W p_ l_ e_ { frames := 2, cells := 0, slots := 0, locals := 43 } S_ m_ args below meth co H locs 0 0 (MQ below (va_Qv (S := (Nat → Int32) × (Nat → Bool)) (fun u => rep u.1 (grL k T B 0 qz)) (MuB g A (fun u => [(m0, .inr (11, [.int (nI k), .int (nI n), .ref lt, .int (nI s.length), .ref er, .ref el, .int (nI h.length), .ref cm_, .int (nI c.length), .int (bI tk), .int (nI k0), .int (nI n0), .ref sv, .int (nI s0.length), .ref md, .int (nI ((grL k T B 0 qz).length)), .ref fmm, .ref lc, .ref lz, .ref af, .ref pt_, .int (nI p.length), .ref oc, .ref ty_, .ref sz_, .ref em])), (md, .inl (g.2.1, 256, .inl u.1)), (fmm, .inl (g.2.2.1, 256, .inl (mf u.2)))])) A) args S_ 0 0 A) (F0 m_ 53 ls []) := by
                intro t
                induction t with
                | zero =>
                  intro hr1 hg ls hl
                  refine lv_iload X.1 X.2.1 dX12_greedy_53 (lv_at hl 0 rfl) ?_
                  refine z_if_lt (tgt := 81) X dX12_greedy_55 (by decide) (iI_toInt (by omega) (by omega)) (fun c55 => ?_) (fun c55 => ?_)
                  · refine lv_iload X.1 X.2.1 dX12_greedy_81 (lv_at hl 0 rfl) ?_
                    refine z_if_lt (tgt := 90) X dX12_greedy_83 (by decide) (iI_toInt (by omega) (by omega)) (fun c83 => ?_) (fun c83 => ?_)
                    · refine lv_iconst (v := (nI 0)) X.1 X.2.1 dX12_greedy_90 (by decide) ?_
                      refine tp_i (y := bI false) rfl ?_
                      refine lv_istore_n (lv' := [(3, .int (bI false)), (4, .int (iI (((0 : Nat) : Int) - 1))), (2, .int (nI T)), (1, .int (nI u)), (0, .ref m0)]) X.1 X.2.1 dX12_greedy_91 rfl hl (by decide) rfl (fun ls hl => ?_)
                      refine lv_iload_n X.1 X.2.1 dX12_greedy_92 rfl (lv_at hl 0 rfl) ?_
                      refine b_if_eq (tgt := 129) X dX12_greedy_93 (by decide) (fun c93 => ?_) (fun c93 => ?_)
                      · have hno := grL_none (T := T) hg.symm rr
                        refine lv_goto (tgt := 41) X.1 X.2.1 dX12_greedy_129 (by decide) ?_
                        exact ih41 false u rr z1 q1 fm1 (fun h => by cases h) (hu) (by omega) (fun h => by cases h) (fun _ => by rw [← hq.1, hno]; simp) (hf1) _ _ (hP.sub [0, 1, 2] rfl) (hD.sub [0, 1, 2] (by decide) rfl) hS ls (lv_sub hl [0, 2, 3, 4] rfl)
                      · exfalso; cases c93
                    · exfalso; omega
                  · exfalso; omega
                | succ t ih53 =>
                  intro hr1 hg ls hl
                  refine lv_iload X.1 X.2.1 dX12_greedy_53 (lv_at hl 0 rfl) ?_
                  refine z_if_lt (tgt := 81) X dX12_greedy_55 (by decide) (iI_toInt (by omega) (by omega)) (fun c55 => ?_) (fun c55 => ?_)
                  · exfalso; omega
                  · refine lv_aload_n X.1 X.2.1 dX12_greedy_58 rfl (lv_at hl 4 rfl) ?_
                    refine va_get (D := g.1) (ci := 11) (v := .ref fmm) (C := RX12) (T := TX12) (N := 26) X.1 X.2.1 X.2.2.2.2 iwX12 X.2.2.2.1 hK hP 0 rfl rfl 16 (by decide) (X.2.2.2.2 _ q1036) (fun _ h9 => h9) rfl dX12_greedy_59 ?_
                    refine lv_iload_n X.1 X.2.1 dX12_greedy_62 rfl (lv_at hl 3 rfl) ?_
                    refine lv_aload_n X.1 X.2.1 dX12_greedy_63 rfl (lv_at hl 4 rfl) ?_
                    refine va_get (D := g.1) (ci := 11) (v := .int (nI k)) (C := RX12) (T := TX12) (N := 26) X.1 X.2.1 X.2.2.2.2 iwX12 X.2.2.2.1 hK hP 0 rfl rfl 0 (by decide) (X.2.2.2.2 _ q1020) (fun _ h9 => h9) rfl dX12_greedy_64 ?_
                    refine n_mul X dX12_greedy_67 ?_
                    refine lv_iload X.1 X.2.1 dX12_greedy_68 (lv_at hl 0 rfl) ?_
                    refine tp_i (y := (nI t)) (by rw [nI_iI]; congr 1; omega) ?_
                    refine n_add X dX12_greedy_70 ?_
                    have hF := suc_ended hc hu (t := t) (by omega)
                    refine n_zald X hK hP 2 1 rfl rfl (by omega) (by decide) dX12_greedy_71 ?_
                    refine tp_i (y := (bI (q1 (u * k + t)))) (rfl) ?_
                    refine b_if_eq (tgt := 81) X dX12_greedy_72 (by decide) (fun c72 => ?_) (fun c72 => ?_)
                    · refine lv_iload X.1 X.2.1 dX12_greedy_81 (lv_at hl 0 rfl) ?_
                      refine z_if_lt (tgt := 90) X dX12_greedy_83 (by decide) (iI_toInt (by omega) (by omega)) (fun c83 => ?_) (fun c83 => ?_)
                      · exfalso; omega
                      · refine lv_iconst (v := (nI 1)) X.1 X.2.1 dX12_greedy_86 (by decide) ?_
                        refine lv_goto (tgt := 91) X.1 X.2.1 dX12_greedy_87 (by decide) ?_
                        refine tp_i (y := bI true) rfl ?_
                        refine lv_istore_n (lv' := [(3, .int (bI true)), (4, .int (iI ((((t + 1) : Nat) : Int) - 1))), (2, .int (nI T)), (1, .int (nI u)), (0, .ref m0)]) X.1 X.2.1 dX12_greedy_91 rfl hl (by decide) rfl (fun ls hl => ?_)
                        refine lv_iload_n X.1 X.2.1 dX12_greedy_92 rfl (lv_at hl 0 rfl) ?_
                        refine b_if_eq (tgt := 129) X dX12_greedy_93 (by decide) (fun c93 => ?_) (fun c93 => ?_)
                        · exfalso; cases c93
                        · obtain ⟨r9, e8, hg1, hg2⟩ := gr_some (hg.symm.trans (by rw [gnL, c72]; rfl)) hq.2
                          have hF := suc_ended hc hu (t := t) (by omega)
                          refine lv_aload_n X.1 X.2.1 dX12_greedy_96 rfl (lv_at hl 4 rfl) ?_
                          refine va_get (D := g.1) (ci := 11) (v := .ref fmm) (C := RX12) (T := TX12) (N := 26) X.1 X.2.1 X.2.2.2.2 iwX12 X.2.2.2.1 hK hP 0 rfl rfl 16 (by decide) (X.2.2.2.2 _ q1036) (fun _ h9 => h9) rfl dX12_greedy_97 ?_
                          refine lv_iload_n X.1 X.2.1 dX12_greedy_100 rfl (lv_at hl 3 rfl) ?_
                          refine lv_aload_n X.1 X.2.1 dX12_greedy_101 rfl (lv_at hl 4 rfl) ?_
                          refine va_get (D := g.1) (ci := 11) (v := .int (nI k)) (C := RX12) (T := TX12) (N := 26) X.1 X.2.1 X.2.2.2.2 iwX12 X.2.2.2.1 hK hP 0 rfl rfl 0 (by decide) (X.2.2.2.2 _ q1020) (fun _ h9 => h9) rfl dX12_greedy_102 ?_
                          refine n_mul X dX12_greedy_105 ?_
                          refine lv_iload X.1 X.2.1 dX12_greedy_106 (lv_at hl 1 rfl) ?_
                          refine tp_i (y := (nI t)) (by rw [nI_iI]; congr 1; omega) ?_
                          refine n_add X dX12_greedy_108 ?_
                          refine lv_iconst (v := (nI 1)) X.1 X.2.1 dX12_greedy_109 (by decide) ?_
                          refine n_zast X hK hP hD hS 2 1 rfl rfl (by omega) (by decide) (rfl) dX12_greedy_110 (fun H locs hP hD hS => ?_)
                          have hP : PP g [(m0, .inr (11, [.int (nI k), .int (nI n), .ref lt, .int (nI s.length), .ref er, .ref el, .int (nI h.length), .ref cm_, .int (nI c.length), .int (bI tk), .int (nI k0), .int (nI n0), .ref sv, .int (nI s0.length), .ref md, .int (nI z1.length), .ref fmm, .ref lc, .ref lz, .ref af, .ref pt_, .int (nI p.length), .ref oc, .ref ty_, .ref sz_, .ref em])), (md, .inl (g.2.1, 256, .inl fm1)), (fmm, .inl (g.2.2.1, 256, .inl (upd (mf q1) (u * k + t) (nI 1))))] H := hP
                          have hD : va_D A [(m0, .inr (11, [.int (nI k), .int (nI n), .ref lt, .int (nI s.length), .ref er, .ref el, .int (nI h.length), .ref cm_, .int (nI c.length), .int (bI tk), .int (nI k0), .int (nI n0), .ref sv, .int (nI s0.length), .ref md, .int (nI z1.length), .ref fmm, .ref lc, .ref lz, .ref af, .ref pt_, .int (nI p.length), .ref oc, .ref ty_, .ref sz_, .ref em])), (md, .inl (g.2.1, 256, .inl fm1)), (fmm, .inl (g.2.2.1, 256, .inl (upd (mf q1) (u * k + t) (nI 1))))] := hD
                          have hP : PP g [(m0, .inr (11, [.int (nI k), .int (nI n), .ref lt, .int (nI s.length), .ref er, .ref el, .int (nI h.length), .ref cm_, .int (nI c.length), .int (bI tk), .int (nI k0), .int (nI n0), .ref sv, .int (nI s0.length), .ref md, .int (nI z1.length), .ref fmm, .ref lc, .ref lz, .ref af, .ref pt_, .int (nI p.length), .ref oc, .ref ty_, .ref sz_, .ref em])), (md, .inl (g.2.1, 256, .inl fm1)), (fmm, .inl (g.2.2.1, 256, .inl (mf (qset q1 (u * k + t)))))] H := by rw [← mf_set]; exact hP
                          have hD : va_D A [(m0, .inr (11, [.int (nI k), .int (nI n), .ref lt, .int (nI s.length), .ref er, .ref el, .int (nI h.length), .ref cm_, .int (nI c.length), .int (bI tk), .int (nI k0), .int (nI n0), .ref sv, .int (nI s0.length), .ref md, .int (nI z1.length), .ref fmm, .ref lc, .ref lz, .ref af, .ref pt_, .int (nI p.length), .ref oc, .ref ty_, .ref sz_, .ref em])), (md, .inl (g.2.1, 256, .inl fm1)), (fmm, .inl (g.2.2.1, 256, .inl (mf (qset q1 (u * k + t)))))] := by rw [← mf_set]; exact hD
                          refine lv_aload_n X.1 X.2.1 dX12_greedy_111 rfl (lv_at hl 4 rfl) ?_
                          refine lv_iload X.1 X.2.1 dX12_greedy_112 (lv_at hl 1 rfl) ?_
                          refine tp_i (y := (nI t)) (by rw [nI_iI]; congr 1; omega) ?_
                          refine (m_make g m0 lt er el cm_ sv md fmm lc lz af pt_ oc ty_ sz_ em k n s h c tk k0 n0 s0 z1 p fm1 t (by omega) (hf1)).callV (rest := []) (wr := [(fmm, .inl (g.2.2.1, 256, .inl (mf (qset q1 (u * k + t)))))]) X dX12_greedy_114 q1141 tX12_make hK hP hD hS hA [0, 1] [2] (by decide) rfl rfl (by decide) (by decide) 0 11 rfl rfl rfl hl ⟨⟨Nat.le_of_ble_eq_true rfl, Nat.le_of_ble_eq_true rfl⟩, Nat.le_of_ble_eq_true rfl, Nat.le_of_ble_eq_true rfl⟩ rfl rfl (Nat.le_of_ble_eq_true rfl) (fun u114 H locs hw114 hP hD hS => ?_)
                          obtain ⟨fm1_114, rfl⟩ : ∃ z, z = u114 := ⟨_, rfl⟩
                          have hP : PP g [(fmm, .inl (g.2.2.1, 256, .inl (mf (qset q1 (u * k + t))))), (m0, .inr (11, [.int (nI k), .int (nI n), .ref lt, .int (nI s.length), .ref er, .ref el, .int (nI h.length), .ref cm_, .int (nI c.length), .int (bI tk), .int (nI k0), .int (nI n0), .ref sv, .int (nI s0.length), .ref md, .int (nI ((z1 ++ [t]).length)), .ref fmm, .ref lc, .ref lz, .ref af, .ref pt_, .int (nI p.length), .ref oc, .ref ty_, .ref sz_, .ref em])), (md, .inl (g.2.1, 256, .inl fm1_114))] H := hP
                          have hD : va_D A [(fmm, .inl (g.2.2.1, 256, .inl (mf (qset q1 (u * k + t))))), (m0, .inr (11, [.int (nI k), .int (nI n), .ref lt, .int (nI s.length), .ref er, .ref el, .int (nI h.length), .ref cm_, .int (nI c.length), .int (bI tk), .int (nI k0), .int (nI n0), .ref sv, .int (nI s0.length), .ref md, .int (nI ((z1 ++ [t]).length)), .ref fmm, .ref lc, .ref lz, .ref af, .ref pt_, .int (nI p.length), .ref oc, .ref ty_, .ref sz_, .ref em])), (md, .inl (g.2.1, 256, .inl fm1_114))] := hD
                          try dsimp only at hw114
                          refine lv_iload_n X.1 X.2.1 dX12_greedy_117 rfl (lv_at hl 3 rfl) ?_
                          refine lv_aload_n X.1 X.2.1 dX12_greedy_118 rfl (lv_at hl 4 rfl) ?_
                          refine va_get (D := g.1) (ci := 11) (v := .int (nI k)) (C := RX12) (T := TX12) (N := 26) X.1 X.2.1 X.2.2.2.2 iwX12 X.2.2.2.1 hK hP 1 rfl rfl 0 (by decide) (X.2.2.2.2 _ q1020) (fun _ h9 => h9) rfl dX12_greedy_119 ?_
                          refine n_mul X dX12_greedy_122 ?_
                          refine lv_iload X.1 X.2.1 dX12_greedy_123 (lv_at hl 1 rfl) ?_
                          refine tp_i (y := (nI t)) (by rw [nI_iI]; congr 1; omega) ?_
                          refine n_add X dX12_greedy_125 ?_
                          refine lv_iload_n X.1 X.2.1 dX12_greedy_126 rfl (lv_at hl 2 rfl) ?_
                          refine n_rem X dX12_greedy_127 (by omega) (by omega) (by omega) ?_
                          refine lv_istore_n (lv' := [(1, .int (nI ((u * k + t) % T))), (3, .int (bI true)), (4, .int (iI ((((t + 1) : Nat) : Int) - 1))), (2, .int (nI T)), (0, .ref m0)]) X.1 X.2.1 dX12_greedy_128 rfl hl (by decide) rfl (fun ls hl => ?_)
                          refine lv_goto (tgt := 41) X.1 X.2.1 dX12_greedy_129 (by decide) ?_
                          exact ih41 true ((u * k + t) % T) r9 (z1 ++ [t]) (qset q1 (u * k + t)) fm1_114 (fun _ => by omega) (md_lt hc _) (by simp; omega) (fun _ => ⟨by rw [← hq.1, hg1]; simp, hg2⟩) (fun h => by cases h) (hw114) _ _ (hP.sub [1, 2, 0] rfl) (hD.sub [1, 2, 0] (by decide) rfl) hS ls (lv_sub hl [1, 3, 0, 4] rfl)
                    · refine lv_iinc (v := (iI (((t : Nat) : Int) - 1))) (lv' := [(4, .int (iI (((t : Nat) : Int) - 1))), (3, .int (bI b)), (2, .int (nI T)), (1, .int (nI u)), (0, .ref m0)]) X.1 X.2.1 dX12_greedy_75 hl (k := 0) rfl (iI_inc _ _ _ (by omega)) (by decide) rfl (fun ls hl => ?_)
                      refine lv_goto (tgt := 53) X.1 X.2.1 dX12_greedy_78 (by decide) ?_
                      exact ih53 (by omega) (by rw [gnL, c72] at hg; exact hg) ls (lv_sub hl [0, 1, 2, 3, 4] rfl)
              exact L53 k (by omega) (rfl) ls (lv_sub hl [0, 1, 2, 3, 4] rfl)
        exact L41 (B + 1) true 0 B ([] : List Nat) q1 fm_ (fun _ => Nat.le_refl _) (by omega) (by simp) (fun _ => ⟨grL_cong hc B 0 _ _ (by omega) hzB, (grE_cong hc B 0 _ _ (by omega) hzB).trans (grE_end hc)⟩) (fun h => by cases h) (rep_nil) _ _ (hP.sub [0, 1, 2] rfl) (hD.sub [0, 1, 2] (by decide) rfl) hS ls (lv_sub hl [0, 1, 2, 3] rfl)
      · exfalso; omega
    | succ r ih2 =>
      intro i q1 h1 hz H locs hP hD hS ls hl
      refine lv_iload_n X.1 X.2.1 dX12_greedy_2 rfl (lv_at hl 0 rfl) ?_
      refine lv_aload_n X.1 X.2.1 dX12_greedy_3 rfl (lv_at hl 1 rfl) ?_
      refine (m_blocks g m0 lt er el cm_ sv md fmm lc lz af pt_ oc ty_ sz_ em k n s h c tk k0 n0 s0 ([] : List Nat) p B T (by assumption)).callV (rest := [.int (nI i)]) X dX12_greedy_4 q1109 tX12_blocks hK (hP.sub [0] rfl) 0 11 rfl rfl rfl hl ⟨⟨Nat.le_of_ble_eq_true rfl, Nat.le_of_ble_eq_true rfl⟩, Nat.le_of_ble_eq_true rfl, Nat.le_of_ble_eq_true rfl⟩ rfl rfl (Nat.le_of_ble_eq_true rfl) ?_
      refine z_icmp_ge (tgt := 23) X dX12_greedy_7 (by decide) (nI_toInt (by omega)) (nI_toInt (by omega)) (fun c7 => ?_) (fun c7 => ?_)
      · exfalso; omega
      · refine lv_aload_n X.1 X.2.1 dX12_greedy_10 rfl (lv_at hl 1 rfl) ?_
        refine va_get (D := g.1) (ci := 11) (v := .ref fmm) (C := RX12) (T := TX12) (N := 26) X.1 X.2.1 X.2.2.2.2 iwX12 X.2.2.2.1 hK hP 0 rfl rfl 16 (by decide) (X.2.2.2.2 _ q1036) (fun _ h9 => h9) rfl dX12_greedy_11 ?_
        refine lv_iload_n X.1 X.2.1 dX12_greedy_14 rfl (lv_at hl 0 rfl) ?_
        refine lv_iconst (v := (nI 0)) X.1 X.2.1 dX12_greedy_15 (by decide) ?_
        refine n_zast X hK hP hD hS 2 1 rfl rfl (by omega) (by decide) (rfl) dX12_greedy_16 (fun H locs hP hD hS => ?_)
        have hP : PP g [(m0, .inr (11, [.int (nI k), .int (nI n), .ref lt, .int (nI s.length), .ref er, .ref el, .int (nI h.length), .ref cm_, .int (nI c.length), .int (bI tk), .int (nI k0), .int (nI n0), .ref sv, .int (nI s0.length), .ref md, .int (nI (([] : List Nat).length)), .ref fmm, .ref lc, .ref lz, .ref af, .ref pt_, .int (nI p.length), .ref oc, .ref ty_, .ref sz_, .ref em])), (md, .inl (g.2.1, 256, .inl fm_)), (fmm, .inl (g.2.2.1, 256, .inl (upd (mf q1) i (nI 0))))] H := hP
        have hD : va_D A [(m0, .inr (11, [.int (nI k), .int (nI n), .ref lt, .int (nI s.length), .ref er, .ref el, .int (nI h.length), .ref cm_, .int (nI c.length), .int (bI tk), .int (nI k0), .int (nI n0), .ref sv, .int (nI s0.length), .ref md, .int (nI (([] : List Nat).length)), .ref fmm, .ref lc, .ref lz, .ref af, .ref pt_, .int (nI p.length), .ref oc, .ref ty_, .ref sz_, .ref em])), (md, .inl (g.2.1, 256, .inl fm_)), (fmm, .inl (g.2.2.1, 256, .inl (upd (mf q1) i (nI 0))))] := hD
        have hP : PP g [(m0, .inr (11, [.int (nI k), .int (nI n), .ref lt, .int (nI s.length), .ref er, .ref el, .int (nI h.length), .ref cm_, .int (nI c.length), .int (bI tk), .int (nI k0), .int (nI n0), .ref sv, .int (nI s0.length), .ref md, .int (nI (([] : List Nat).length)), .ref fmm, .ref lc, .ref lz, .ref af, .ref pt_, .int (nI p.length), .ref oc, .ref ty_, .ref sz_, .ref em])), (md, .inl (g.2.1, 256, .inl fm_)), (fmm, .inl (g.2.2.1, 256, .inl (mf (qclr q1 i))))] H := by rw [← mf_clr]; exact hP
        have hD : va_D A [(m0, .inr (11, [.int (nI k), .int (nI n), .ref lt, .int (nI s.length), .ref er, .ref el, .int (nI h.length), .ref cm_, .int (nI c.length), .int (bI tk), .int (nI k0), .int (nI n0), .ref sv, .int (nI s0.length), .ref md, .int (nI (([] : List Nat).length)), .ref fmm, .ref lc, .ref lz, .ref af, .ref pt_, .int (nI p.length), .ref oc, .ref ty_, .ref sz_, .ref em])), (md, .inl (g.2.1, 256, .inl fm_)), (fmm, .inl (g.2.2.1, 256, .inl (mf (qclr q1 i))))] := by rw [← mf_clr]; exact hD
        refine lv_iinc (v := (nI (i + 1))) (lv' := [(1, .int (nI (i + 1))), (0, .ref m0)]) X.1 X.2.1 dX12_greedy_17 hl (k := 0) rfl (nI_inc _) (by decide) rfl (fun ls hl => ?_)
        refine lv_goto (tgt := 2) X.1 X.2.1 dX12_greedy_20 (by decide) ?_
        exact ih2 (i + 1) (qclr q1 i) (by omega) (fun j hj => by unfold qclr; split <;> first | rfl | exact hz j (by omega)) _ _ (hP.sub [0, 1, 2] rfl) (hD.sub [0, 1, 2] (by decide) rfl) hS ls (lv_sub hl [0, 1] rfl)
  exact L2 B 0 q (by omega) (fun j hj => absurd hj (Nat.not_lt_zero j)) _ _ (hP.sub [0, 1, 2] rfl) (hD.sub [0, 1, 2] (by decide) rfl) hS ls (lv_sub hl [0, 1] rfl)

set_option maxHeartbeats 4000000 in
set_option maxRecDepth 100000 in
theorem m_onCycle (g : G5) (m0 : Nat) (lt : Nat) (er : Nat) (el : Nat) (cm_ : Nat) (sv : Nat) (md : Nat) (fmm : Nat) (lc : Nat) (lz : Nat) (af : Nat) (pt_ : Nat) (oc : Nat) (ty_ : Nat) (sz_ : Nat) (em : Nat) (k : Nat) (n : Nat) (s : List Nat) (h : List (List Nat)) (c : List Nat) (tk : Bool) (k0 : Nat) (n0 : Nat) (s0 : List Nat) (z : List Nat) (p : List Int) (B : Nat) (T : Nat) (fa : Nat → Int32) (si : Nat → Nat) (la : Nat → Nat) (x : Nat) (y : Nat) (hc : shp k n B T) (hfa : rb B fa si) (hli : LI B si la) (hx : x < B) (hy : y < B) (hxy : x ≠ y) : PuI yX12_isOnCycleOf cX12_isOnCycleOf 4 (some .boolean) 0 0 g [.ref m0, .int (nI x), .int (nI y)] [(m0, .inr (11, [.int (nI k), .int (nI n), .ref lt, .int (nI s.length), .ref er, .ref el, .int (nI h.length), .ref cm_, .int (nI c.length), .int (bI tk), .int (nI k0), .int (nI n0), .ref sv, .int (nI s0.length), .ref md, .int (nI z.length), .ref fmm, .ref lc, .ref lz, .ref af, .ref pt_, .int (nI p.length), .ref oc, .ref ty_, .ref sz_, .ref em])), (af, .inl (g.2.1, 256, .inl fa))] (bI (decide (la x = la y))) := by
  refine PuI.of (by decide +kernel) (Nat.le_of_ble_eq_true rfl) ?_
  intro p_ l_ e_ S_ m_ args below meth co X hr hlk hP hK ls hl
  have X : CallFix p_ m_ co cX12_isOnCycleOf 4 S_ args lw_all RX12 := X
  have hl : lv_has ls 4 [(0, .ref m0), (1, .int (nI x)), (2, .int (nI y))] := hl
  obtain ⟨hk2, hk4, hn1, hn6, hB, hT, hBT, hT2⟩ := hc.f
  have hB0 : 0 < B := by rw [hBT]; exact Nat.mul_pos (by omega) (by omega)
  obtain ⟨P, hP1, hPB, hPx⟩ := itF_back hli.1 hx
  refine lv_aload_n X.1 X.2.1 dX12_isOnCycleOf_0 rfl (lv_at hl 0 rfl) ?_
  refine va_get (D := g.1) (ci := 11) (v := .ref af) (C := RX12) (T := TX12) (N := 26) X.1 X.2.1 X.2.2.2.2 iwX12 X.2.2.2.1 hK hP 0 rfl rfl 19 (by decide) (X.2.2.2.2 _ q1039) (fun _ h9 => h9) rfl dX12_isOnCycleOf_1 ?_
  refine lv_iload_n X.1 X.2.1 dX12_isOnCycleOf_4 rfl (lv_at hl 1 rfl) ?_
  refine n_iald X hK hP 1 0 rfl rfl (by omega) (by decide) dX12_isOnCycleOf_5 ?_
  refine tp_i (y := (nI (itF si 1 x))) (hfa x hx) ?_
  refine lv_istore_n (lv' := [(3, .int (nI (itF si 1 x))), (0, .ref m0), (1, .int (nI x)), (2, .int (nI y))]) X.1 X.2.1 dX12_isOnCycleOf_6 rfl hl (by decide) rfl (fun ls hl => ?_)
  have L7 : ∀ (r : Nat) (t : Nat) (h1 : t + r = P) (ht1 : 1 ≤ t) (hm : ∀ w, 1 ≤ w → w < t → itF si w x ≠ y) (ls : Array Slot) (hl : lv_has ls 4 [(3, .int (nI (itF si t x))), (0, .ref m0), (1, .int (nI x)), (2, .int (nI y))]), W p_ l_ e_ { frames := 0, cells := 0, slots := 0, locals := 0 } S_ m_ args below meth co S_.heap [] 0 0 (MQ below (vp_Si (fun r => r = (bI (decide (la x = la y))))) args S_ 0 0 (fun _ => False)) (F0 m_ 7 ls []) := by
    intro r
    induction r with
    | zero =>
      intro t h1 ht1 hm ls hl
      have hlt := itF_lt hli.1.1 hx t
      have hPt : itF si t x = x := by rw [show t = P by omega]; exact hPx
      refine lv_iload_n X.1 X.2.1 dX12_isOnCycleOf_7 rfl (lv_at hl 0 rfl) ?_
      refine lv_iload_n X.1 X.2.1 dX12_isOnCycleOf_8 rfl (lv_at hl 2 rfl) ?_
      refine z_icmp_eq (tgt := 27) X dX12_isOnCycleOf_9 (by decide) (nI_toInt (by omega)) (nI_toInt (by omega)) (fun c9 => ?_) (fun c9 => ?_)
      · refine lv_iload_n X.1 X.2.1 dX12_isOnCycleOf_27 rfl (lv_at hl 0 rfl) ?_
        refine lv_iload_n X.1 X.2.1 dX12_isOnCycleOf_28 rfl (lv_at hl 3 rfl) ?_
        refine z_icmp_ne (tgt := 36) X dX12_isOnCycleOf_29 (by decide) (nI_toInt (by omega)) (nI_toInt (by omega)) (fun c29 => ?_) (fun c29 => ?_)
        · refine lv_iconst (v := (nI 0)) X.1 X.2.1 dX12_isOnCycleOf_36 (by decide) ?_
          exact PuI.ret X hr hlk dX12_isOnCycleOf_37 (bI_nar _) (by first | exact bt (decide_eq_true ((hli.2 x y hx hy).mpr ⟨t, by omega⟩)) | exact bf (decide_eq_false (fun e => cyc_no hli hx hy (by omega) hm (by omega) ht1 e)))
        · refine lv_iconst (v := (nI 1)) X.1 X.2.1 dX12_isOnCycleOf_32 (by decide) ?_
          refine lv_goto (tgt := 37) X.1 X.2.1 dX12_isOnCycleOf_33 (by decide) ?_
          exact PuI.ret X hr hlk dX12_isOnCycleOf_37 (bI_nar _) (by first | exact bt (decide_eq_true ((hli.2 x y hx hy).mpr ⟨t, by omega⟩)) | exact bf (decide_eq_false (fun e => cyc_no hli hx hy (by omega) hm (by omega) ht1 e)))
      · refine lv_iload_n X.1 X.2.1 dX12_isOnCycleOf_12 rfl (lv_at hl 0 rfl) ?_
        refine lv_iload_n X.1 X.2.1 dX12_isOnCycleOf_13 rfl (lv_at hl 3 rfl) ?_
        refine z_icmp_eq (tgt := 27) X dX12_isOnCycleOf_14 (by decide) (nI_toInt (by omega)) (nI_toInt (by omega)) (fun c14 => ?_) (fun c14 => ?_)
        · refine lv_iload_n X.1 X.2.1 dX12_isOnCycleOf_27 rfl (lv_at hl 0 rfl) ?_
          refine lv_iload_n X.1 X.2.1 dX12_isOnCycleOf_28 rfl (lv_at hl 3 rfl) ?_
          refine z_icmp_ne (tgt := 36) X dX12_isOnCycleOf_29 (by decide) (nI_toInt (by omega)) (nI_toInt (by omega)) (fun c29 => ?_) (fun c29 => ?_)
          · refine lv_iconst (v := (nI 0)) X.1 X.2.1 dX12_isOnCycleOf_36 (by decide) ?_
            exact PuI.ret X hr hlk dX12_isOnCycleOf_37 (bI_nar _) (by first | exact bt (decide_eq_true ((hli.2 x y hx hy).mpr ⟨t, by omega⟩)) | exact bf (decide_eq_false (fun e => cyc_no hli hx hy (by omega) hm (by omega) ht1 e)))
          · refine lv_iconst (v := (nI 1)) X.1 X.2.1 dX12_isOnCycleOf_32 (by decide) ?_
            refine lv_goto (tgt := 37) X.1 X.2.1 dX12_isOnCycleOf_33 (by decide) ?_
            exact PuI.ret X hr hlk dX12_isOnCycleOf_37 (bI_nar _) (by first | exact bt (decide_eq_true ((hli.2 x y hx hy).mpr ⟨t, by omega⟩)) | exact bf (decide_eq_false (fun e => cyc_no hli hx hy (by omega) hm (by omega) ht1 e)))
        · refine lv_aload_n X.1 X.2.1 dX12_isOnCycleOf_17 rfl (lv_at hl 1 rfl) ?_
          refine va_get (D := g.1) (ci := 11) (v := .ref af) (C := RX12) (T := TX12) (N := 26) X.1 X.2.1 X.2.2.2.2 iwX12 X.2.2.2.1 hK hP 0 rfl rfl 19 (by decide) (X.2.2.2.2 _ q1039) (fun _ h9 => h9) rfl dX12_isOnCycleOf_18 ?_
          refine lv_iload_n X.1 X.2.1 dX12_isOnCycleOf_21 rfl (lv_at hl 0 rfl) ?_
          refine n_iald X hK hP 1 0 rfl rfl (by omega) (by decide) dX12_isOnCycleOf_22 ?_
          refine tp_i (y := (nI (itF si (t + 1) x))) (hfa _ hlt) ?_
          refine lv_istore_n (lv' := [(3, .int (nI (itF si (t + 1) x))), (0, .ref m0), (1, .int (nI x)), (2, .int (nI y))]) X.1 X.2.1 dX12_isOnCycleOf_23 rfl hl (by decide) rfl (fun ls hl => ?_)
          refine lv_goto (tgt := 7) X.1 X.2.1 dX12_isOnCycleOf_24 (by decide) ?_
          exfalso; omega
    | succ r ih7 =>
      intro t h1 ht1 hm ls hl
      have hlt := itF_lt hli.1.1 hx t
      refine lv_iload_n X.1 X.2.1 dX12_isOnCycleOf_7 rfl (lv_at hl 0 rfl) ?_
      refine lv_iload_n X.1 X.2.1 dX12_isOnCycleOf_8 rfl (lv_at hl 2 rfl) ?_
      refine z_icmp_eq (tgt := 27) X dX12_isOnCycleOf_9 (by decide) (nI_toInt (by omega)) (nI_toInt (by omega)) (fun c9 => ?_) (fun c9 => ?_)
      · refine lv_iload_n X.1 X.2.1 dX12_isOnCycleOf_27 rfl (lv_at hl 0 rfl) ?_
        refine lv_iload_n X.1 X.2.1 dX12_isOnCycleOf_28 rfl (lv_at hl 3 rfl) ?_
        refine z_icmp_ne (tgt := 36) X dX12_isOnCycleOf_29 (by decide) (nI_toInt (by omega)) (nI_toInt (by omega)) (fun c29 => ?_) (fun c29 => ?_)
        · refine lv_iconst (v := (nI 0)) X.1 X.2.1 dX12_isOnCycleOf_36 (by decide) ?_
          exact PuI.ret X hr hlk dX12_isOnCycleOf_37 (bI_nar _) (by first | exact bt (decide_eq_true ((hli.2 x y hx hy).mpr ⟨t, by omega⟩)) | exact bf (decide_eq_false (fun e => cyc_no hli hx hy (by omega) hm (by omega) ht1 e)))
        · refine lv_iconst (v := (nI 1)) X.1 X.2.1 dX12_isOnCycleOf_32 (by decide) ?_
          refine lv_goto (tgt := 37) X.1 X.2.1 dX12_isOnCycleOf_33 (by decide) ?_
          exact PuI.ret X hr hlk dX12_isOnCycleOf_37 (bI_nar _) (by first | exact bt (decide_eq_true ((hli.2 x y hx hy).mpr ⟨t, by omega⟩)) | exact bf (decide_eq_false (fun e => cyc_no hli hx hy (by omega) hm (by omega) ht1 e)))
      · refine lv_iload_n X.1 X.2.1 dX12_isOnCycleOf_12 rfl (lv_at hl 0 rfl) ?_
        refine lv_iload_n X.1 X.2.1 dX12_isOnCycleOf_13 rfl (lv_at hl 3 rfl) ?_
        refine z_icmp_eq (tgt := 27) X dX12_isOnCycleOf_14 (by decide) (nI_toInt (by omega)) (nI_toInt (by omega)) (fun c14 => ?_) (fun c14 => ?_)
        · refine lv_iload_n X.1 X.2.1 dX12_isOnCycleOf_27 rfl (lv_at hl 0 rfl) ?_
          refine lv_iload_n X.1 X.2.1 dX12_isOnCycleOf_28 rfl (lv_at hl 3 rfl) ?_
          refine z_icmp_ne (tgt := 36) X dX12_isOnCycleOf_29 (by decide) (nI_toInt (by omega)) (nI_toInt (by omega)) (fun c29 => ?_) (fun c29 => ?_)
          · refine lv_iconst (v := (nI 0)) X.1 X.2.1 dX12_isOnCycleOf_36 (by decide) ?_
            exact PuI.ret X hr hlk dX12_isOnCycleOf_37 (bI_nar _) (by first | exact bt (decide_eq_true ((hli.2 x y hx hy).mpr ⟨t, by omega⟩)) | exact bf (decide_eq_false (fun e => cyc_no hli hx hy (by omega) hm (by omega) ht1 e)))
          · refine lv_iconst (v := (nI 1)) X.1 X.2.1 dX12_isOnCycleOf_32 (by decide) ?_
            refine lv_goto (tgt := 37) X.1 X.2.1 dX12_isOnCycleOf_33 (by decide) ?_
            exact PuI.ret X hr hlk dX12_isOnCycleOf_37 (bI_nar _) (by first | exact bt (decide_eq_true ((hli.2 x y hx hy).mpr ⟨t, by omega⟩)) | exact bf (decide_eq_false (fun e => cyc_no hli hx hy (by omega) hm (by omega) ht1 e)))
        · refine lv_aload_n X.1 X.2.1 dX12_isOnCycleOf_17 rfl (lv_at hl 1 rfl) ?_
          refine va_get (D := g.1) (ci := 11) (v := .ref af) (C := RX12) (T := TX12) (N := 26) X.1 X.2.1 X.2.2.2.2 iwX12 X.2.2.2.1 hK hP 0 rfl rfl 19 (by decide) (X.2.2.2.2 _ q1039) (fun _ h9 => h9) rfl dX12_isOnCycleOf_18 ?_
          refine lv_iload_n X.1 X.2.1 dX12_isOnCycleOf_21 rfl (lv_at hl 0 rfl) ?_
          refine n_iald X hK hP 1 0 rfl rfl (by omega) (by decide) dX12_isOnCycleOf_22 ?_
          refine tp_i (y := (nI (itF si (t + 1) x))) (hfa _ hlt) ?_
          refine lv_istore_n (lv' := [(3, .int (nI (itF si (t + 1) x))), (0, .ref m0), (1, .int (nI x)), (2, .int (nI y))]) X.1 X.2.1 dX12_isOnCycleOf_23 rfl hl (by decide) rfl (fun ls hl => ?_)
          refine lv_goto (tgt := 7) X.1 X.2.1 dX12_isOnCycleOf_24 (by decide) ?_
          exact ih7 (t + 1) (by omega) (by omega) (fun w h3 h4 => by (by_cases e : w = t) <;> first | (subst e; omega) | exact hm w h3 (by omega)) ls (lv_sub hl [0, 1, 2, 3] rfl)
  exact L7 (P - 1) 1 (by omega) (by omega) (fun w h3 h4 => by omega) ls (lv_sub hl [0, 1, 2, 3] rfl)

set_option maxHeartbeats 4000000 in
set_option maxRecDepth 100000 in
theorem m_joined (g : G5) (m0 : Nat) (lt : Nat) (er : Nat) (el : Nat) (cm_ : Nat) (sv : Nat) (md : Nat) (fmm : Nat) (lc : Nat) (lz : Nat) (af : Nat) (pt_ : Nat) (oc : Nat) (ty_ : Nat) (sz_ : Nat) (em : Nat) (k : Nat) (n : Nat) (s : List Nat) (h : List (List Nat)) (c : List Nat) (tk : Bool) (k0 : Nat) (n0 : Nat) (s0 : List Nat) (p : List Int) (fm_ : Nat → Int32) (fa : Nat → Int32) (B : Nat) (T : Nat) (pp : Nat) (hc : shp k n B T) (hp : pp < T) : MuV (S := (Nat → Int32) × (Nat → Int32)) yX12_joined cX12_joined 9 none 2 46 g [.ref m0, .int (nI pp)] [(m0, .inr (11, [.int (nI k), .int (nI n), .ref lt, .int (nI s.length), .ref er, .ref el, .int (nI h.length), .ref cm_, .int (nI c.length), .int (bI tk), .int (nI k0), .int (nI n0), .ref sv, .int (nI s0.length), .ref md, .int (nI (([] : List Nat).length)), .ref fmm, .ref lc, .ref lz, .ref af, .ref pt_, .int (nI p.length), .ref oc, .ref ty_, .ref sz_, .ref em])), (md, .inl (g.2.1, 256, .inl fm_)), (af, .inl (g.2.1, 256, .inl fa))] (fun u => rep u.1 (joL k T n B pp)) (fun u => [(m0, .inr (11, [.int (nI k), .int (nI n), .ref lt, .int (nI s.length), .ref er, .ref el, .int (nI h.length), .ref cm_, .int (nI c.length), .int (bI tk), .int (nI k0), .int (nI n0), .ref sv, .int (nI s0.length), .ref md, .int (nI ((joL k T n B pp).length)), .ref fmm, .ref lc, .ref lz, .ref af, .ref pt_, .int (nI p.length), .ref oc, .ref ty_, .ref sz_, .ref em])), (md, .inl (g.2.1, 256, .inl u.1)), (af, .inl (g.2.1, 256, .inl u.2))]) := by
  refine MuV.of (by decide +kernel) (Nat.le_of_ble_eq_true rfl) ?_
  intro p_ l_ e_ S_ m_ args below meth co X hr hlk hP hK A hA hD hS ls hl
  have X : CallFix p_ m_ co cX12_joined 9 S_ args lw_all RX12 := X
  have hl : lv_has ls 9 [(0, .ref m0), (1, .int (nI pp))] := hl
  obtain ⟨hk2, hk4, hn1, hn6, hB, hT, hBT, hT2⟩ := hc.f
  have hB0 : 0 < B := by rw [hBT]; exact Nat.mul_pos (by omega) (by omega)
  refine lv_iconst (v := (nI 0)) X.1 X.2.1 dX12_joined_0 (by decide) ?_
  refine lv_istore_n (lv' := [(2, .int (nI 0)), (0, .ref m0), (1, .int (nI pp))]) X.1 X.2.1 dX12_joined_1 rfl hl (by decide) rfl (fun ls hl => ?_)
  have L2 : ∀ (r : Nat) (i : Nat) (fa1 : Nat → Int32) (h1 : i + r = B) (hz1 : rb i fa1 (turnN k T)) (H : Heap) (locs : List Loc) (hP : PP g [(m0, .inr (11, [.int (nI k), .int (nI n), .ref lt, .int (nI s.length), .ref er, .ref el, .int (nI h.length), .ref cm_, .int (nI c.length), .int (bI tk), .int (nI k0), .int (nI n0), .ref sv, .int (nI s0.length), .ref md, .int (nI (([] : List Nat).length)), .ref fmm, .ref lc, .ref lz, .ref af, .ref pt_, .int (nI p.length), .ref oc, .ref ty_, .ref sz_, .ref em])), (md, .inl (g.2.1, 256, .inl fm_)), (af, .inl (g.2.1, 256, .inl fa1))] H) (hD : va_D A [(m0, .inr (11, [.int (nI k), .int (nI n), .ref lt, .int (nI s.length), .ref er, .ref el, .int (nI h.length), .ref cm_, .int (nI c.length), .int (bI tk), .int (nI k0), .int (nI n0), .ref sv, .int (nI s0.length), .ref md, .int (nI (([] : List Nat).length)), .ref fmm, .ref lc, .ref lz, .ref af, .ref pt_, .int (nI p.length), .ref oc, .ref ty_, .ref sz_, .ref em])), (md, .inl (g.2.1, 256, .inl fm_)), (af, .inl (g.2.1, 256, .inl fa1))]) (hS : va_S A S_.heap H locs) (ls : Array Slot) (hl : lv_has ls 9 [(2, .int (nI i)), (0, .ref m0), (1, .int (nI pp))]), W p_ l_ e_ { frames := 2, cells := 0, slots := 0, locals := 46 } S_ m_ args below meth co H locs 0 0 (MQ below (va_Qv (S := (Nat → Int32) × (Nat → Int32)) (fun u => rep u.1 (joL k T n B pp)) (MuB g A (fun u => [(m0, .inr (11, [.int (nI k), .int (nI n), .ref lt, .int (nI s.length), .ref er, .ref el, .int (nI h.length), .ref cm_, .int (nI c.length), .int (bI tk), .int (nI k0), .int (nI n0), .ref sv, .int (nI s0.length), .ref md, .int (nI ((joL k T n B pp).length)), .ref fmm, .ref lc, .ref lz, .ref af, .ref pt_, .int (nI p.length), .ref oc, .ref ty_, .ref sz_, .ref em])), (md, .inl (g.2.1, 256, .inl u.1)), (af, .inl (g.2.1, 256, .inl u.2))])) A) args S_ 0 0 A) (F0 m_ 2 ls []) := by
    intro r
    induction r with
    | zero =>
      intro i fa1 h1 hz1 H locs hP hD hS ls hl
      have hzB : rb B fa1 (turnN k T) := by rw [show B = i by omega]; exact hz1
      refine lv_iload_n X.1 X.2.1 dX12_joined_2 rfl (lv_at hl 0 rfl) ?_
      refine lv_aload_n X.1 X.2.1 dX12_joined_3 rfl (lv_at hl 1 rfl) ?_
      refine (m_blocks g m0 lt er el cm_ sv md fmm lc lz af pt_ oc ty_ sz_ em k n s h c tk k0 n0 s0 ([] : List Nat) p B T (by assumption)).callV (rest := [.int (nI i)]) X dX12_joined_4 q1109 tX12_blocks hK (hP.sub [0] rfl) 0 11 rfl rfl rfl hl ⟨⟨Nat.le_of_ble_eq_true rfl, Nat.le_of_ble_eq_true rfl⟩, Nat.le_of_ble_eq_true rfl, Nat.le_of_ble_eq_true rfl⟩ rfl rfl (Nat.le_of_ble_eq_true rfl) ?_
      refine z_icmp_ge (tgt := 31) X dX12_joined_7 (by decide) (nI_toInt (by omega)) (nI_toInt (by omega)) (fun c7 => ?_) (fun c7 => ?_)
      · refine lv_aload_n X.1 X.2.1 dX12_joined_31 rfl (lv_at hl 1 rfl) ?_
        refine va_get (D := g.1) (ci := 11) (v := .int (nI k)) (C := RX12) (T := TX12) (N := 26) X.1 X.2.1 X.2.2.2.2 iwX12 X.2.2.2.1 hK hP 0 rfl rfl 0 (by decide) (X.2.2.2.2 _ q1020) (fun _ h9 => h9) rfl dX12_joined_32 ?_
        refine lv_aload_n X.1 X.2.1 dX12_joined_35 rfl (lv_at hl 1 rfl) ?_
        refine va_get (D := g.1) (ci := 11) (v := .int (nI n)) (C := RX12) (T := TX12) (N := 26) X.1 X.2.1 X.2.2.2.2 iwX12 X.2.2.2.1 hK hP 0 rfl rfl 1 (by decide) (X.2.2.2.2 _ q1021) (fun _ h9 => h9) rfl dX12_joined_36 ?_
        refine lv_iconst (v := (nI 1)) X.1 X.2.1 dX12_joined_39 (by decide) ?_
        refine n_sub X dX12_joined_40 (by omega) ?_
        refine (c_mpower g k (n - 1) (by omega)).callS (rest := []) X dX12_joined_41 q1106 tX12_power hK (hP.sub [] rfl) hl ⟨⟨Nat.le_of_ble_eq_true rfl, Nat.le_of_ble_eq_true rfl⟩, Nat.le_of_ble_eq_true rfl, Nat.le_of_ble_eq_true rfl⟩ rfl rfl (Nat.le_of_ble_eq_true rfl) ?_
        refine tp_i (y := (nI T)) (by rw [hc.2.2]) ?_
        refine lv_istore_n (lv' := [(2, .int (nI T)), (0, .ref m0), (1, .int (nI pp))]) X.1 X.2.1 dX12_joined_44 rfl hl (by decide) rfl (fun ls hl => ?_)
        refine lv_iconst (v := (nI 0)) X.1 X.2.1 dX12_joined_45 (by decide) ?_
        refine lv_istore_n (lv' := [(3, .int (nI 0)), (2, .int (nI T)), (0, .ref m0), (1, .int (nI pp))]) X.1 X.2.1 dX12_joined_46 rfl hl (by decide) rfl (fun ls hl => ?_)
        have L47 : ∀ (r : Nat) (i : Nat) (st : (Nat → Nat) × (Nat → Nat)) (fa2 : Nat → Int32) (h1 : i + r = T) (hj : jOut k T pp r i st = joS k T n pp) (hfa : rb B fa2 st.1) (hli : LI B st.1 st.2) (H : Heap) (locs : List Loc) (hP : PP g [(m0, .inr (11, [.int (nI k), .int (nI n), .ref lt, .int (nI s.length), .ref er, .ref el, .int (nI h.length), .ref cm_, .int (nI c.length), .int (bI tk), .int (nI k0), .int (nI n0), .ref sv, .int (nI s0.length), .ref md, .int (nI (([] : List Nat).length)), .ref fmm, .ref lc, .ref lz, .ref af, .ref pt_, .int (nI p.length), .ref oc, .ref ty_, .ref sz_, .ref em])), (md, .inl (g.2.1, 256, .inl fm_)), (af, .inl (g.2.1, 256, .inl fa2))] H) (hD : va_D A [(m0, .inr (11, [.int (nI k), .int (nI n), .ref lt, .int (nI s.length), .ref er, .ref el, .int (nI h.length), .ref cm_, .int (nI c.length), .int (bI tk), .int (nI k0), .int (nI n0), .ref sv, .int (nI s0.length), .ref md, .int (nI (([] : List Nat).length)), .ref fmm, .ref lc, .ref lz, .ref af, .ref pt_, .int (nI p.length), .ref oc, .ref ty_, .ref sz_, .ref em])), (md, .inl (g.2.1, 256, .inl fm_)), (af, .inl (g.2.1, 256, .inl fa2))]) (hS : va_S A S_.heap H locs) (ls : Array Slot) (hl : lv_has ls 9 [(3, .int (nI i)), (2, .int (nI T)), (0, .ref m0), (1, .int (nI pp))]), W p_ l_ e_ { frames := 2, cells := 0, slots := 0, locals := 46 } S_ m_ args below meth co H locs 0 0 (MQ below (va_Qv (S := (Nat → Int32) × (Nat → Int32)) (fun u => rep u.1 (joL k T n B pp)) (MuB g A (fun u => [(m0, .inr (11, [.int (nI k), .int (nI n), .ref lt, .int (nI s.length), .ref er, .ref el, .int (nI h.length), .ref cm_, .int (nI c.length), .int (bI tk), .int (nI k0), .int (nI n0), .ref sv, .int (nI s0.length), .ref md, .int (nI ((joL k T n B pp).length)), .ref fmm, .ref lc, .ref lz, .ref af, .ref pt_, .int (nI p.length), .ref oc, .ref ty_, .ref sz_, .ref em])), (md, .inl (g.2.1, 256, .inl u.1)), (af, .inl (g.2.1, 256, .inl u.2))])) A) args S_ 0 0 A) (F0 m_ 47 ls []) := by
          intro r
          induction r with
          | zero =>
            intro i st fa2 h1 hj hfa hli H locs hP hD hS ls hl
            have e8 : st = joS k T n pp := hj
            refine lv_iload_n X.1 X.2.1 dX12_joined_47 rfl (lv_at hl 0 rfl) ?_
            refine lv_iload_n X.1 X.2.1 dX12_joined_48 rfl (lv_at hl 1 rfl) ?_
            refine z_icmp_ge (tgt := 143) X dX12_joined_49 (by decide) (nI_toInt (by omega)) (nI_toInt (by omega)) (fun c49 => ?_) (fun c49 => ?_)
            · refine lv_iconst (v := (nI 0)) X.1 X.2.1 dX12_joined_143 (by decide) ?_
              refine lv_istore_n (lv' := [(3, .int (nI 0)), (2, .int (nI T)), (0, .ref m0), (1, .int (nI pp))]) X.1 X.2.1 dX12_joined_144 rfl hl (by decide) rfl (fun ls hl => ?_)
              refine lv_iconst (v := (nI 0)) X.1 X.2.1 dX12_joined_145 (by decide) ?_
              refine lv_istore (lv' := [(4, .int (nI 0)), (3, .int (nI 0)), (2, .int (nI T)), (0, .ref m0), (1, .int (nI pp))]) X.1 X.2.1 dX12_joined_146 hl (by decide) rfl (fun ls hl => ?_)
              have L148 : ∀ (r : Nat) (b : Nat) (i : Nat) (z1 : List Nat) (fm1 : Nat → Int32) (h3 : i + r = B) (hl1 : z1.length = i) (hb : b < B) (hq : z1 ++ outL T st.1 r b = joL k T n B pp) (hf1 : rep fm1 z1) (H : Heap) (locs : List Loc) (hP : PP g [(m0, .inr (11, [.int (nI k), .int (nI n), .ref lt, .int (nI s.length), .ref er, .ref el, .int (nI h.length), .ref cm_, .int (nI c.length), .int (bI tk), .int (nI k0), .int (nI n0), .ref sv, .int (nI s0.length), .ref md, .int (nI z1.length), .ref fmm, .ref lc, .ref lz, .ref af, .ref pt_, .int (nI p.length), .ref oc, .ref ty_, .ref sz_, .ref em])), (md, .inl (g.2.1, 256, .inl fm1)), (af, .inl (g.2.1, 256, .inl fa2))] H) (hD : va_D A [(m0, .inr (11, [.int (nI k), .int (nI n), .ref lt, .int (nI s.length), .ref er, .ref el, .int (nI h.length), .ref cm_, .int (nI c.length), .int (bI tk), .int (nI k0), .int (nI n0), .ref sv, .int (nI s0.length), .ref md, .int (nI z1.length), .ref fmm, .ref lc, .ref lz, .ref af, .ref pt_, .int (nI p.length), .ref oc, .ref ty_, .ref sz_, .ref em])), (md, .inl (g.2.1, 256, .inl fm1)), (af, .inl (g.2.1, 256, .inl fa2))]) (hS : va_S A S_.heap H locs) (ls : Array Slot) (hl : lv_has ls 9 [(4, .int (nI i)), (3, .int (nI b)), (2, .int (nI T)), (0, .ref m0), (1, .int (nI pp))]), W p_ l_ e_ { frames := 2, cells := 0, slots := 0, locals := 46 } S_ m_ args below meth co H locs 0 0 (MQ below (va_Qv (S := (Nat → Int32) × (Nat → Int32)) (fun u => rep u.1 (joL k T n B pp)) (MuB g A (fun u => [(m0, .inr (11, [.int (nI k), .int (nI n), .ref lt, .int (nI s.length), .ref er, .ref el, .int (nI h.length), .ref cm_, .int (nI c.length), .int (bI tk), .int (nI k0), .int (nI n0), .ref sv, .int (nI s0.length), .ref md, .int (nI ((joL k T n B pp).length)), .ref fmm, .ref lc, .ref lz, .ref af, .ref pt_, .int (nI p.length), .ref oc, .ref ty_, .ref sz_, .ref em])), (md, .inl (g.2.1, 256, .inl u.1)), (af, .inl (g.2.1, 256, .inl u.2))])) A) args S_ 0 0 A) (F0 m_ 148 ls []) := by
                intro r
                induction r with
                | zero =>
                  intro b i z1 fm1 h3 hl1 hb hq hf1 H locs hP hD hS ls hl
                  have e9 : z1 = joL k T n B pp := by simpa [outL] using hq
                  refine lv_iload X.1 X.2.1 dX12_joined_148 (lv_at hl 0 rfl) ?_
                  refine lv_aload_n X.1 X.2.1 dX12_joined_150 rfl (lv_at hl 3 rfl) ?_
                  refine (m_blocks g m0 lt er el cm_ sv md fmm lc lz af pt_ oc ty_ sz_ em k n s h c tk k0 n0 s0 z1 p B T (by assumption)).callV (rest := [.int (nI i)]) X dX12_joined_151 q1109 tX12_blocks hK (hP.sub [0] rfl) 0 11 rfl rfl rfl hl ⟨⟨Nat.le_of_ble_eq_true rfl, Nat.le_of_ble_eq_true rfl⟩, Nat.le_of_ble_eq_true rfl, Nat.le_of_ble_eq_true rfl⟩ rfl rfl (Nat.le_of_ble_eq_true rfl) ?_
                  refine z_icmp_ge (tgt := 177) X dX12_joined_154 (by decide) (nI_toInt (by omega)) (nI_toInt (by omega)) (fun c154 => ?_) (fun c154 => ?_)
                  · have hP : PP g [(m0, .inr (11, [.int (nI k), .int (nI n), .ref lt, .int (nI s.length), .ref er, .ref el, .int (nI h.length), .ref cm_, .int (nI c.length), .int (bI tk), .int (nI k0), .int (nI n0), .ref sv, .int (nI s0.length), .ref md, .int (nI ((joL k T n B pp).length)), .ref fmm, .ref lc, .ref lz, .ref af, .ref pt_, .int (nI p.length), .ref oc, .ref ty_, .ref sz_, .ref em])), (md, .inl (g.2.1, 256, .inl fm1)), (af, .inl (g.2.1, 256, .inl fa2))] H := by rw [← e9]; exact hP
                    have hD : va_D A [(m0, .inr (11, [.int (nI k), .int (nI n), .ref lt, .int (nI s.length), .ref er, .ref el, .int (nI h.length), .ref cm_, .int (nI c.length), .int (bI tk), .int (nI k0), .int (nI n0), .ref sv, .int (nI s0.length), .ref md, .int (nI ((joL k T n B pp).length)), .ref fmm, .ref lc, .ref lz, .ref af, .ref pt_, .int (nI p.length), .ref oc, .ref ty_, .ref sz_, .ref em])), (md, .inl (g.2.1, 256, .inl fm1)), (af, .inl (g.2.1, 256, .inl fa2))] := by rw [← e9]; exact hD
                    exact MuV.ret X hr hlk hK hS dX12_joined_177 (fm1, fa2) (hP.sub [0, 1, 2] rfl) (hD.sub [0, 1, 2] (by decide) rfl) (rep_eq hf1 e9)
                  · exfalso; omega
                | succ r ih148 =>
                  intro b i z1 fm1 h3 hl1 hb hq hf1 H locs hP hD hS ls hl
                  refine lv_iload X.1 X.2.1 dX12_joined_148 (lv_at hl 0 rfl) ?_
                  refine lv_aload_n X.1 X.2.1 dX12_joined_150 rfl (lv_at hl 3 rfl) ?_
                  refine (m_blocks g m0 lt er el cm_ sv md fmm lc lz af pt_ oc ty_ sz_ em k n s h c tk k0 n0 s0 z1 p B T (by assumption)).callV (rest := [.int (nI i)]) X dX12_joined_151 q1109 tX12_blocks hK (hP.sub [0] rfl) 0 11 rfl rfl rfl hl ⟨⟨Nat.le_of_ble_eq_true rfl, Nat.le_of_ble_eq_true rfl⟩, Nat.le_of_ble_eq_true rfl, Nat.le_of_ble_eq_true rfl⟩ rfl rfl (Nat.le_of_ble_eq_true rfl) ?_
                  refine z_icmp_ge (tgt := 177) X dX12_joined_154 (by decide) (nI_toInt (by omega)) (nI_toInt (by omega)) (fun c154 => ?_) (fun c154 => ?_)
                  · exfalso; omega
                  · refine lv_aload_n X.1 X.2.1 dX12_joined_157 rfl (lv_at hl 3 rfl) ?_
                    refine lv_iload_n X.1 X.2.1 dX12_joined_158 rfl (lv_at hl 1 rfl) ?_
                    refine lv_iload_n X.1 X.2.1 dX12_joined_159 rfl (lv_at hl 2 rfl) ?_
                    refine n_div X dX12_joined_160 (by omega) (by omega) (by omega) ?_
                    refine (m_make g m0 lt er el cm_ sv md fmm lc lz af pt_ oc ty_ sz_ em k n s h c tk k0 n0 s0 z1 p fm1 (b / T) (by omega) (hf1)).callV (rest := []) (wr := [(af, .inl (g.2.1, 256, .inl fa2))]) X dX12_joined_161 q1141 tX12_make hK hP hD hS hA [0, 1] [2] (by decide) rfl rfl (by decide) (by decide) 0 11 rfl rfl rfl hl ⟨⟨Nat.le_of_ble_eq_true rfl, Nat.le_of_ble_eq_true rfl⟩, Nat.le_of_ble_eq_true rfl, Nat.le_of_ble_eq_true rfl⟩ rfl rfl (Nat.le_of_ble_eq_true rfl) (fun u161 H locs hw161 hP hD hS => ?_)
                    obtain ⟨fm1_161, rfl⟩ : ∃ z, z = u161 := ⟨_, rfl⟩
                    have hP : PP g [(af, .inl (g.2.1, 256, .inl fa2)), (m0, .inr (11, [.int (nI k), .int (nI n), .ref lt, .int (nI s.length), .ref er, .ref el, .int (nI h.length), .ref cm_, .int (nI c.length), .int (bI tk), .int (nI k0), .int (nI n0), .ref sv, .int (nI s0.length), .ref md, .int (nI ((z1 ++ [(b / T)]).length)), .ref fmm, .ref lc, .ref lz, .ref af, .ref pt_, .int (nI p.length), .ref oc, .ref ty_, .ref sz_, .ref em])), (md, .inl (g.2.1, 256, .inl fm1_161))] H := hP
                    have hD : va_D A [(af, .inl (g.2.1, 256, .inl fa2)), (m0, .inr (11, [.int (nI k), .int (nI n), .ref lt, .int (nI s.length), .ref er, .ref el, .int (nI h.length), .ref cm_, .int (nI c.length), .int (bI tk), .int (nI k0), .int (nI n0), .ref sv, .int (nI s0.length), .ref md, .int (nI ((z1 ++ [(b / T)]).length)), .ref fmm, .ref lc, .ref lz, .ref af, .ref pt_, .int (nI p.length), .ref oc, .ref ty_, .ref sz_, .ref em])), (md, .inl (g.2.1, 256, .inl fm1_161))] := hD
                    try dsimp only at hw161
                    refine lv_aload_n X.1 X.2.1 dX12_joined_164 rfl (lv_at hl 3 rfl) ?_
                    refine va_get (D := g.1) (ci := 11) (v := .ref af) (C := RX12) (T := TX12) (N := 26) X.1 X.2.1 X.2.2.2.2 iwX12 X.2.2.2.1 hK hP 1 rfl rfl 19 (by decide) (X.2.2.2.2 _ q1039) (fun _ h9 => h9) rfl dX12_joined_165 ?_
                    refine lv_iload_n X.1 X.2.1 dX12_joined_168 rfl (lv_at hl 1 rfl) ?_
                    refine n_iald X hK hP 0 0 rfl rfl (by omega) (by decide) dX12_joined_169 ?_
                    have hsb := hli.1.1 b hb
                    refine tp_i (y := (nI (st.1 b))) (hfa b hb) ?_
                    refine lv_istore_n (lv' := [(3, .int (nI (st.1 b))), (4, .int (nI i)), (2, .int (nI T)), (0, .ref m0), (1, .int (nI pp))]) X.1 X.2.1 dX12_joined_170 rfl hl (by decide) rfl (fun ls hl => ?_)
                    refine lv_iinc (v := (nI (i + 1))) (lv' := [(4, .int (nI (i + 1))), (3, .int (nI (st.1 b))), (2, .int (nI T)), (0, .ref m0), (1, .int (nI pp))]) X.1 X.2.1 dX12_joined_171 hl (k := 1) rfl (nI_inc _) (by decide) rfl (fun ls hl => ?_)
                    refine lv_goto (tgt := 148) X.1 X.2.1 dX12_joined_174 (by decide) ?_
                    exact ih148 (st.1 b) (i + 1) (z1 ++ [b / T]) fm1_161 (by omega) (by simp; omega) (hsb) (by rw [outL] at hq; simpa using hq) (hw161) _ _ (hP.sub [1, 2, 0] rfl) (hD.sub [1, 2, 0] (by decide) rfl) hS ls (lv_sub hl [0, 1, 2, 3, 4] rfl)
              exact L148 B 0 0 ([] : List Nat) fm_ (by omega) (rfl) (B_pos hc) (by rw [e8]; rfl) (rep_nil) _ _ (hP.sub [0, 1, 2] rfl) (hD.sub [0, 1, 2] (by decide) rfl) hS ls (lv_sub hl [0, 1, 2, 3, 4] rfl)
            · exfalso; omega
          | succ r ih47 =>
            intro i st fa2 h1 hj hfa hli H locs hP hD hS ls hl
            refine lv_iload_n X.1 X.2.1 dX12_joined_47 rfl (lv_at hl 0 rfl) ?_
            refine lv_iload_n X.1 X.2.1 dX12_joined_48 rfl (lv_at hl 1 rfl) ?_
            refine z_icmp_ge (tgt := 143) X dX12_joined_49 (by decide) (nI_toInt (by omega)) (nI_toInt (by omega)) (fun c49 => ?_) (fun c49 => ?_)
            · exfalso; omega
            · refine lv_iload_n X.1 X.2.1 dX12_joined_52 rfl (lv_at hl 3 rfl) ?_
              refine lv_iload_n X.1 X.2.1 dX12_joined_53 rfl (lv_at hl 0 rfl) ?_
              refine n_add X dX12_joined_54 ?_
              refine lv_iload_n X.1 X.2.1 dX12_joined_55 rfl (lv_at hl 1 rfl) ?_
              refine n_rem X dX12_joined_56 (by omega) (by omega) (by omega) ?_
              have hut := md_lt hc (pp + i)
              refine lv_istore (lv' := [(4, .int (nI ((pp + i) % T))), (3, .int (nI i)), (2, .int (nI T)), (0, .ref m0), (1, .int (nI pp))]) X.1 X.2.1 dX12_joined_57 hl (by decide) rfl (fun ls hl => ?_)
              refine lv_iconst (v := (nI 0)) X.1 X.2.1 dX12_joined_59 (by decide) ?_
              refine lv_istore (lv' := [(5, .int (nI 0)), (4, .int (nI ((pp + i) % T))), (3, .int (nI i)), (2, .int (nI T)), (0, .ref m0), (1, .int (nI pp))]) X.1 X.2.1 dX12_joined_60 hl (by decide) rfl (fun ls hl => ?_)
              have L62 : ∀ (v : Nat) (x : Nat) (st1 : (Nat → Nat) × (Nat → Nat)) (fa3 : Nat → Int32) (h2 : x + v + 1 = k) (hj1 : jOut k T pp r (i + 1) (jIn T ((pp + i) % T) v x st1) = joS k T n pp) (hfa1 : rb B fa3 st1.1) (hli1 : LI B st1.1 st1.2) (H : Heap) (locs : List Loc) (hP : PP g [(m0, .inr (11, [.int (nI k), .int (nI n), .ref lt, .int (nI s.length), .ref er, .ref el, .int (nI h.length), .ref cm_, .int (nI c.length), .int (bI tk), .int (nI k0), .int (nI n0), .ref sv, .int (nI s0.length), .ref md, .int (nI (([] : List Nat).length)), .ref fmm, .ref lc, .ref lz, .ref af, .ref pt_, .int (nI p.length), .ref oc, .ref ty_, .ref sz_, .ref em])), (md, .inl (g.2.1, 256, .inl fm_)), (af, .inl (g.2.1, 256, .inl fa3))] H) (hD : va_D A [(m0, .inr (11, [.int (nI k), .int (nI n), .ref lt, .int (nI s.length), .ref er, .ref el, .int (nI h.length), .ref cm_, .int (nI c.length), .int (bI tk), .int (nI k0), .int (nI n0), .ref sv, .int (nI s0.length), .ref md, .int (nI (([] : List Nat).length)), .ref fmm, .ref lc, .ref lz, .ref af, .ref pt_, .int (nI p.length), .ref oc, .ref ty_, .ref sz_, .ref em])), (md, .inl (g.2.1, 256, .inl fm_)), (af, .inl (g.2.1, 256, .inl fa3))]) (hS : va_S A S_.heap H locs) (ls : Array Slot) (hl : lv_has ls 9 [(5, .int (nI x)), (4, .int (nI ((pp + i) % T))), (3, .int (nI i)), (2, .int (nI T)), (0, .ref m0), (1, .int (nI pp))]), W p_ l_ e_ { frames := 2, cells := 0, slots := 0, locals := 46 } S_ m_ args below meth co H locs 0 0 (MQ below (va_Qv (S := (Nat → Int32) × (Nat → Int32)) (fun u => rep u.1 (joL k T n B pp)) (MuB g A (fun u => [(m0, .inr (11, [.int (nI k), .int (nI n), .ref lt, .int (nI s.length), .ref er, .ref el, .int (nI h.length), .ref cm_, .int (nI c.length), .int (bI tk), .int (nI k0), .int (nI n0), .ref sv, .int (nI s0.length), .ref md, .int (nI ((joL k T n B pp).length)), .ref fmm, .ref lc, .ref lz, .ref af, .ref pt_, .int (nI p.length), .ref oc, .ref ty_, .ref sz_, .ref em])), (md, .inl (g.2.1, 256, .inl u.1)), (af, .inl (g.2.1, 256, .inl u.2))])) A) args S_ 0 0 A) (F0 m_ 62 ls []) := by
                intro v
                induction v with
                | zero =>
                  intro x st1 fa3 h2 hj1 hfa1 hli1 H locs hP hD hS ls hl
                  refine lv_iload X.1 X.2.1 dX12_joined_62 (lv_at hl 0 rfl) ?_
                  refine lv_aload_n X.1 X.2.1 dX12_joined_64 rfl (lv_at hl 4 rfl) ?_
                  refine va_get (D := g.1) (ci := 11) (v := .int (nI k)) (C := RX12) (T := TX12) (N := 26) X.1 X.2.1 X.2.2.2.2 iwX12 X.2.2.2.1 hK hP 0 rfl rfl 0 (by decide) (X.2.2.2.2 _ q1020) (fun _ h9 => h9) rfl dX12_joined_65 ?_
                  refine lv_iconst (v := (nI 1)) X.1 X.2.1 dX12_joined_68 (by decide) ?_
                  refine n_sub X dX12_joined_69 (by omega) ?_
                  refine z_icmp_ge (tgt := 137) X dX12_joined_70 (by decide) (nI_toInt (by omega)) (nI_toInt (by omega)) (fun c70 => ?_) (fun c70 => ?_)
                  · refine lv_iinc (v := (nI (i + 1))) (lv' := [(3, .int (nI (i + 1))), (5, .int (nI x)), (4, .int (nI ((pp + i) % T))), (2, .int (nI T)), (0, .ref m0), (1, .int (nI pp))]) X.1 X.2.1 dX12_joined_137 hl (k := 2) rfl (nI_inc _) (by decide) rfl (fun ls hl => ?_)
                    refine lv_goto (tgt := 47) X.1 X.2.1 dX12_joined_140 (by decide) ?_
                    exact ih47 (i + 1) st1 fa3 (by omega) (hj1) (hfa1) (hli1) _ _ (hP.sub [0, 1, 2] rfl) (hD.sub [0, 1, 2] (by decide) rfl) hS ls (lv_sub hl [0, 3, 4, 5] rfl)
                  · exfalso; omega
                | succ v ih62 =>
                  intro x st1 fa3 h2 hj1 hfa1 hli1 H locs hP hD hS ls hl
                  refine lv_iload X.1 X.2.1 dX12_joined_62 (lv_at hl 0 rfl) ?_
                  refine lv_aload_n X.1 X.2.1 dX12_joined_64 rfl (lv_at hl 4 rfl) ?_
                  refine va_get (D := g.1) (ci := 11) (v := .int (nI k)) (C := RX12) (T := TX12) (N := 26) X.1 X.2.1 X.2.2.2.2 iwX12 X.2.2.2.1 hK hP 0 rfl rfl 0 (by decide) (X.2.2.2.2 _ q1020) (fun _ h9 => h9) rfl dX12_joined_65 ?_
                  refine lv_iconst (v := (nI 1)) X.1 X.2.1 dX12_joined_68 (by decide) ?_
                  refine n_sub X dX12_joined_69 (by omega) ?_
                  refine z_icmp_ge (tgt := 137) X dX12_joined_70 (by decide) (nI_toInt (by omega)) (nI_toInt (by omega)) (fun c70 => ?_) (fun c70 => ?_)
                  · exfalso; omega
                  · refine lv_iload X.1 X.2.1 dX12_joined_73 (lv_at hl 0 rfl) ?_
                    refine lv_iload_n X.1 X.2.1 dX12_joined_75 rfl (lv_at hl 3 rfl) ?_
                    refine n_mul X dX12_joined_76 ?_
                    refine lv_iload X.1 X.2.1 dX12_joined_77 (lv_at hl 1 rfl) ?_
                    refine n_add X dX12_joined_79 ?_
                    refine lv_istore (lv' := [(6, .int (nI (x * T + ((pp + i) % T)))), (5, .int (nI x)), (4, .int (nI ((pp + i) % T))), (3, .int (nI i)), (2, .int (nI T)), (0, .ref m0), (1, .int (nI pp))]) X.1 X.2.1 dX12_joined_80 hl (by decide) rfl (fun ls hl => ?_)
                    refine lv_iload X.1 X.2.1 dX12_joined_82 (lv_at hl 0 rfl) ?_
                    refine lv_iload_n X.1 X.2.1 dX12_joined_84 rfl (lv_at hl 4 rfl) ?_
                    refine n_add X dX12_joined_85 ?_
                    refine tp_i (y := (nI ((x + 1) * T + (pp + i) % T))) (by congr 1; rw [Nat.succ_mul]; omega) ?_
                    refine lv_istore (lv' := [(7, .int (nI ((x + 1) * T + (pp + i) % T))), (6, .int (nI (x * T + ((pp + i) % T)))), (5, .int (nI x)), (4, .int (nI ((pp + i) % T))), (3, .int (nI i)), (2, .int (nI T)), (0, .ref m0), (1, .int (nI pp))]) X.1 X.2.1 dX12_joined_86 hl (by decide) rfl (fun ls hl => ?_)
                    refine lv_aload_n X.1 X.2.1 dX12_joined_88 rfl (lv_at hl 6 rfl) ?_
                    refine lv_iload X.1 X.2.1 dX12_joined_89 (lv_at hl 1 rfl) ?_
                    refine lv_iload X.1 X.2.1 dX12_joined_91 (lv_at hl 0 rfl) ?_
                    have hx1 := hd_lt hc (x := x) (u := (pp + i) % T) (by omega) hut
                    have hx2 := hd_lt hc (x := x + 1) (u := (pp + i) % T) (by omega) hut
                    have hxn : x * T + (pp + i) % T ≠ (x + 1) * T + (pp + i) % T := by rw [Nat.succ_mul]; omega
                    refine (m_onCycle g m0 lt er el cm_ sv md fmm lc lz af pt_ oc ty_ sz_ em k n s h c tk k0 n0 s0 ([] : List Nat) p B T fa3 st1.1 st1.2 (x * T + ((pp + i) % T)) ((x + 1) * T + (pp + i) % T) (by assumption) (hfa1) (hli1) (by omega) (by omega) (hxn)).callV (rest := []) X dX12_joined_93 q1190 tX12_isOnCycleOf hK (hP.sub [0, 2] rfl) 0 11 rfl rfl rfl hl ⟨⟨Nat.le_of_ble_eq_true rfl, Nat.le_of_ble_eq_true rfl⟩, Nat.le_of_ble_eq_true rfl, Nat.le_of_ble_eq_true rfl⟩ rfl rfl (Nat.le_of_ble_eq_true rfl) ?_
                    refine b_if_ne (tgt := 131) X dX12_joined_96 (by decide) (fun c96 => ?_) (fun c96 => ?_)
                    · have hfa4 : rb B fa3 (jC st1 (x * T + (pp + i) % T) ((x + 1) * T + (pp + i) % T)).1 := by rw [show jC st1 _ _ = st1 from if_pos (of_decide_eq_true c96)]; exact hfa1
                      refine lv_iinc (v := (nI (x + 1))) (lv' := [(5, .int (nI (x + 1))), (7, .int (nI ((x + 1) * T + (pp + i) % T))), (6, .int (nI (x * T + ((pp + i) % T)))), (4, .int (nI ((pp + i) % T))), (3, .int (nI i)), (2, .int (nI T)), (0, .ref m0), (1, .int (nI pp))]) X.1 X.2.1 dX12_joined_131 hl (k := 2) rfl (nI_inc _) (by decide) rfl (fun ls hl => ?_)
                      refine lv_goto (tgt := 62) X.1 X.2.1 dX12_joined_134 (by decide) ?_
                      exact ih62 (x + 1) (jC st1 (x * T + (pp + i) % T) ((x + 1) * T + (pp + i) % T)) fa3 (by omega) (by rw [jIn] at hj1; exact hj1) (by first | exact hfa4 | (rw [e7]; exact rb_swp hfa1)) (LI_jC hli1 hx1 hx2) _ _ (hP.sub [0, 1, 2] rfl) (hD.sub [0, 1, 2] (by decide) rfl) hS ls (lv_sub hl [0, 3, 4, 5, 6, 7] rfl)
                    · have e7 : jC st1 (x * T + (pp + i) % T) ((x + 1) * T + (pp + i) % T) = (swp st1.1 (x * T + (pp + i) % T) ((x + 1) * T + (pp + i) % T), rlb st1.2 (x * T + (pp + i) % T) ((x + 1) * T + (pp + i) % T)) := if_neg (of_decide_eq_false c96)
                      refine lv_aload_n X.1 X.2.1 dX12_joined_99 rfl (lv_at hl 6 rfl) ?_
                      refine va_get (D := g.1) (ci := 11) (v := .ref af) (C := RX12) (T := TX12) (N := 26) X.1 X.2.1 X.2.2.2.2 iwX12 X.2.2.2.1 hK hP 0 rfl rfl 19 (by decide) (X.2.2.2.2 _ q1039) (fun _ h9 => h9) rfl dX12_joined_100 ?_
                      refine lv_iload X.1 X.2.1 dX12_joined_103 (lv_at hl 1 rfl) ?_
                      refine n_iald X hK hP 2 0 rfl rfl (by omega) (by decide) dX12_joined_105 ?_
                      refine tp_i (y := (nI (st1.1 (x * T + (pp + i) % T)))) (hfa1 _ hx1) ?_
                      refine lv_istore (lv' := [(8, .int (nI (st1.1 (x * T + (pp + i) % T)))), (7, .int (nI ((x + 1) * T + (pp + i) % T))), (6, .int (nI (x * T + ((pp + i) % T)))), (5, .int (nI x)), (4, .int (nI ((pp + i) % T))), (3, .int (nI i)), (2, .int (nI T)), (0, .ref m0), (1, .int (nI pp))]) X.1 X.2.1 dX12_joined_106 hl (by decide) rfl (fun ls hl => ?_)
                      refine lv_aload_n X.1 X.2.1 dX12_joined_108 rfl (lv_at hl 7 rfl) ?_
                      refine va_get (D := g.1) (ci := 11) (v := .ref af) (C := RX12) (T := TX12) (N := 26) X.1 X.2.1 X.2.2.2.2 iwX12 X.2.2.2.1 hK hP 0 rfl rfl 19 (by decide) (X.2.2.2.2 _ q1039) (fun _ h9 => h9) rfl dX12_joined_109 ?_
                      refine lv_iload X.1 X.2.1 dX12_joined_112 (lv_at hl 2 rfl) ?_
                      refine lv_aload_n X.1 X.2.1 dX12_joined_114 rfl (lv_at hl 7 rfl) ?_
                      refine va_get (D := g.1) (ci := 11) (v := .ref af) (C := RX12) (T := TX12) (N := 26) X.1 X.2.1 X.2.2.2.2 iwX12 X.2.2.2.1 hK hP 0 rfl rfl 19 (by decide) (X.2.2.2.2 _ q1039) (fun _ h9 => h9) rfl dX12_joined_115 ?_
                      refine lv_iload X.1 X.2.1 dX12_joined_118 (lv_at hl 1 rfl) ?_
                      refine n_iald X hK hP 2 0 rfl rfl (by omega) (by decide) dX12_joined_120 ?_
                      refine tp_i (y := (nI (st1.1 ((x + 1) * T + (pp + i) % T)))) (hfa1 _ hx2) ?_
                      refine n_iast X hK hP hD hS 2 0 rfl rfl (by omega) (by decide) dX12_joined_121 (fun H locs hP hD hS => ?_)
                      have hP : PP g [(m0, .inr (11, [.int (nI k), .int (nI n), .ref lt, .int (nI s.length), .ref er, .ref el, .int (nI h.length), .ref cm_, .int (nI c.length), .int (bI tk), .int (nI k0), .int (nI n0), .ref sv, .int (nI s0.length), .ref md, .int (nI (([] : List Nat).length)), .ref fmm, .ref lc, .ref lz, .ref af, .ref pt_, .int (nI p.length), .ref oc, .ref ty_, .ref sz_, .ref em])), (md, .inl (g.2.1, 256, .inl fm_)), (af, .inl (g.2.1, 256, .inl (upd fa3 (x * T + ((pp + i) % T)) (nI (st1.1 ((x + 1) * T + (pp + i) % T))))))] H := hP
                      have hD : va_D A [(m0, .inr (11, [.int (nI k), .int (nI n), .ref lt, .int (nI s.length), .ref er, .ref el, .int (nI h.length), .ref cm_, .int (nI c.length), .int (bI tk), .int (nI k0), .int (nI n0), .ref sv, .int (nI s0.length), .ref md, .int (nI (([] : List Nat).length)), .ref fmm, .ref lc, .ref lz, .ref af, .ref pt_, .int (nI p.length), .ref oc, .ref ty_, .ref sz_, .ref em])), (md, .inl (g.2.1, 256, .inl fm_)), (af, .inl (g.2.1, 256, .inl (upd fa3 (x * T + ((pp + i) % T)) (nI (st1.1 ((x + 1) * T + (pp + i) % T))))))] := hD
                      refine lv_aload_n X.1 X.2.1 dX12_joined_122 rfl (lv_at hl 7 rfl) ?_
                      refine va_get (D := g.1) (ci := 11) (v := .ref af) (C := RX12) (T := TX12) (N := 26) X.1 X.2.1 X.2.2.2.2 iwX12 X.2.2.2.1 hK hP 0 rfl rfl 19 (by decide) (X.2.2.2.2 _ q1039) (fun _ h9 => h9) rfl dX12_joined_123 ?_
                      refine lv_iload X.1 X.2.1 dX12_joined_126 (lv_at hl 1 rfl) ?_
                      refine lv_iload X.1 X.2.1 dX12_joined_128 (lv_at hl 0 rfl) ?_
                      refine n_iast X hK hP hD hS 2 0 rfl rfl (by omega) (by decide) dX12_joined_130 (fun H locs hP hD hS => ?_)
                      have hP : PP g [(m0, .inr (11, [.int (nI k), .int (nI n), .ref lt, .int (nI s.length), .ref er, .ref el, .int (nI h.length), .ref cm_, .int (nI c.length), .int (bI tk), .int (nI k0), .int (nI n0), .ref sv, .int (nI s0.length), .ref md, .int (nI (([] : List Nat).length)), .ref fmm, .ref lc, .ref lz, .ref af, .ref pt_, .int (nI p.length), .ref oc, .ref ty_, .ref sz_, .ref em])), (md, .inl (g.2.1, 256, .inl fm_)), (af, .inl (g.2.1, 256, .inl (upd (upd fa3 (x * T + ((pp + i) % T)) (nI (st1.1 ((x + 1) * T + (pp + i) % T)))) ((x + 1) * T + (pp + i) % T) (nI (st1.1 (x * T + (pp + i) % T))))))] H := hP
                      have hD : va_D A [(m0, .inr (11, [.int (nI k), .int (nI n), .ref lt, .int (nI s.length), .ref er, .ref el, .int (nI h.length), .ref cm_, .int (nI c.length), .int (bI tk), .int (nI k0), .int (nI n0), .ref sv, .int (nI s0.length), .ref md, .int (nI (([] : List Nat).length)), .ref fmm, .ref lc, .ref lz, .ref af, .ref pt_, .int (nI p.length), .ref oc, .ref ty_, .ref sz_, .ref em])), (md, .inl (g.2.1, 256, .inl fm_)), (af, .inl (g.2.1, 256, .inl (upd (upd fa3 (x * T + ((pp + i) % T)) (nI (st1.1 ((x + 1) * T + (pp + i) % T)))) ((x + 1) * T + (pp + i) % T) (nI (st1.1 (x * T + (pp + i) % T))))))] := hD
                      refine lv_iinc (v := (nI (x + 1))) (lv' := [(5, .int (nI (x + 1))), (8, .int (nI (st1.1 (x * T + (pp + i) % T)))), (7, .int (nI ((x + 1) * T + (pp + i) % T))), (6, .int (nI (x * T + ((pp + i) % T)))), (4, .int (nI ((pp + i) % T))), (3, .int (nI i)), (2, .int (nI T)), (0, .ref m0), (1, .int (nI pp))]) X.1 X.2.1 dX12_joined_131 hl (k := 3) rfl (nI_inc _) (by decide) rfl (fun ls hl => ?_)
                      refine lv_goto (tgt := 62) X.1 X.2.1 dX12_joined_134 (by decide) ?_
                      exact ih62 (x + 1) (jC st1 (x * T + (pp + i) % T) ((x + 1) * T + (pp + i) % T)) (upd (upd fa3 (x * T + ((pp + i) % T)) (nI (st1.1 ((x + 1) * T + (pp + i) % T)))) ((x + 1) * T + (pp + i) % T) (nI (st1.1 (x * T + (pp + i) % T)))) (by omega) (by rw [jIn] at hj1; exact hj1) (by first | exact hfa4 | (rw [e7]; exact rb_swp hfa1)) (LI_jC hli1 hx1 hx2) _ _ (hP.sub [0, 1, 2] rfl) (hD.sub [0, 1, 2] (by decide) rfl) hS ls (lv_sub hl [0, 4, 5, 6, 7, 8] rfl)
              exact L62 (k - 1) 0 st fa2 (by omega) (by rw [jOut] at hj; exact hj) (hfa) (hli) _ _ (hP.sub [0, 1, 2] rfl) (hD.sub [0, 1, 2] (by decide) rfl) hS ls (lv_sub hl [0, 1, 2, 3, 4, 5] rfl)
        exact L47 T 0 (turnN k T, lrN k T n) fa1 (by omega) (rfl) (hzB) (LI_start hc) _ _ (hP.sub [0, 1, 2] rfl) (hD.sub [0, 1, 2] (by decide) rfl) hS ls (lv_sub hl [0, 1, 2, 3] rfl)
      · exfalso; omega
    | succ r ih2 =>
      intro i fa1 h1 hz1 H locs hP hD hS ls hl
      refine lv_iload_n X.1 X.2.1 dX12_joined_2 rfl (lv_at hl 0 rfl) ?_
      refine lv_aload_n X.1 X.2.1 dX12_joined_3 rfl (lv_at hl 1 rfl) ?_
      refine (m_blocks g m0 lt er el cm_ sv md fmm lc lz af pt_ oc ty_ sz_ em k n s h c tk k0 n0 s0 ([] : List Nat) p B T (by assumption)).callV (rest := [.int (nI i)]) X dX12_joined_4 q1109 tX12_blocks hK (hP.sub [0] rfl) 0 11 rfl rfl rfl hl ⟨⟨Nat.le_of_ble_eq_true rfl, Nat.le_of_ble_eq_true rfl⟩, Nat.le_of_ble_eq_true rfl, Nat.le_of_ble_eq_true rfl⟩ rfl rfl (Nat.le_of_ble_eq_true rfl) ?_
      refine z_icmp_ge (tgt := 31) X dX12_joined_7 (by decide) (nI_toInt (by omega)) (nI_toInt (by omega)) (fun c7 => ?_) (fun c7 => ?_)
      · exfalso; omega
      · refine lv_aload_n X.1 X.2.1 dX12_joined_10 rfl (lv_at hl 1 rfl) ?_
        refine va_get (D := g.1) (ci := 11) (v := .ref af) (C := RX12) (T := TX12) (N := 26) X.1 X.2.1 X.2.2.2.2 iwX12 X.2.2.2.1 hK hP 0 rfl rfl 19 (by decide) (X.2.2.2.2 _ q1039) (fun _ h9 => h9) rfl dX12_joined_11 ?_
        refine lv_iload_n X.1 X.2.1 dX12_joined_14 rfl (lv_at hl 0 rfl) ?_
        refine lv_aload_n X.1 X.2.1 dX12_joined_15 rfl (lv_at hl 1 rfl) ?_
        refine lv_iload_n X.1 X.2.1 dX12_joined_16 rfl (lv_at hl 0 rfl) ?_
        refine lv_aload_n X.1 X.2.1 dX12_joined_17 rfl (lv_at hl 1 rfl) ?_
        refine va_get (D := g.1) (ci := 11) (v := .int (nI n)) (C := RX12) (T := TX12) (N := 26) X.1 X.2.1 X.2.2.2.2 iwX12 X.2.2.2.1 hK hP 0 rfl rfl 1 (by decide) (X.2.2.2.2 _ q1021) (fun _ h9 => h9) rfl dX12_joined_18 ?_
        refine (m_turned g m0 lt er el cm_ sv md fmm lc lz af pt_ oc ty_ sz_ em k n s h c tk k0 n0 s0 ([] : List Nat) p n B T i (hc) (by omega)).callV (rest := [.int (nI i), .ref af]) X dX12_joined_21 q1157 tX12_turned hK (hP.sub [0] rfl) 0 11 rfl rfl rfl hl ⟨⟨Nat.le_of_ble_eq_true rfl, Nat.le_of_ble_eq_true rfl⟩, Nat.le_of_ble_eq_true rfl, Nat.le_of_ble_eq_true rfl⟩ rfl rfl (Nat.le_of_ble_eq_true rfl) ?_
        refine n_iast X hK hP hD hS 2 0 rfl rfl (by omega) (by decide) dX12_joined_24 (fun H locs hP hD hS => ?_)
        have hP : PP g [(m0, .inr (11, [.int (nI k), .int (nI n), .ref lt, .int (nI s.length), .ref er, .ref el, .int (nI h.length), .ref cm_, .int (nI c.length), .int (bI tk), .int (nI k0), .int (nI n0), .ref sv, .int (nI s0.length), .ref md, .int (nI (([] : List Nat).length)), .ref fmm, .ref lc, .ref lz, .ref af, .ref pt_, .int (nI p.length), .ref oc, .ref ty_, .ref sz_, .ref em])), (md, .inl (g.2.1, 256, .inl fm_)), (af, .inl (g.2.1, 256, .inl (upd fa1 i (nI (turnN k T i)))))] H := hP
        have hD : va_D A [(m0, .inr (11, [.int (nI k), .int (nI n), .ref lt, .int (nI s.length), .ref er, .ref el, .int (nI h.length), .ref cm_, .int (nI c.length), .int (bI tk), .int (nI k0), .int (nI n0), .ref sv, .int (nI s0.length), .ref md, .int (nI (([] : List Nat).length)), .ref fmm, .ref lc, .ref lz, .ref af, .ref pt_, .int (nI p.length), .ref oc, .ref ty_, .ref sz_, .ref em])), (md, .inl (g.2.1, 256, .inl fm_)), (af, .inl (g.2.1, 256, .inl (upd fa1 i (nI (turnN k T i)))))] := hD
        refine lv_iinc (v := (nI (i + 1))) (lv' := [(2, .int (nI (i + 1))), (0, .ref m0), (1, .int (nI pp))]) X.1 X.2.1 dX12_joined_25 hl (k := 0) rfl (nI_inc _) (by decide) rfl (fun ls hl => ?_)
        refine lv_goto (tgt := 2) X.1 X.2.1 dX12_joined_28 (by decide) ?_
        exact ih2 (i + 1) (upd fa1 i (nI (turnN k T i))) (by omega) (rb_start hz1) _ _ (hP.sub [0, 1, 2] rfl) (hD.sub [0, 1, 2] (by decide) rfl) hS ls (lv_sub hl [0, 1, 2] rfl)
  exact L2 B 0 fa (by omega) (fun j hj => absurd hj (Nat.not_lt_zero j)) _ _ (hP.sub [0, 1, 2] rfl) (hD.sub [0, 1, 2] (by decide) rfl) hS ls (lv_sub hl [0, 1, 2] rfl)
