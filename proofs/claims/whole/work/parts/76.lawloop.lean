theorem and63 (x : Int32) : ∃ j : Nat, j < 64 ∧ x &&& nI 63 = nI j := by
  refine ⟨x.toBitVec.toNat % 64, Nat.mod_lt _ (by decide), ?_⟩
  apply Int32.toBitVec_inj.1
  apply BitVec.eq_of_toNat_eq
  rw [Int32.toBitVec_and, BitVec.toNat_and]
  show x.toBitVec.toNat &&& (2 ^ 6 - 1) = (BitVec.ofNat 32 (x.toBitVec.toNat % 64)).toNat
  have h := Nat.mod_lt x.toBitVec.toNat (show 0 < 64 by decide)
  rw [Nat.and_two_pow_sub_one_eq_mod, BitVec.toNat_ofNat]
  exact (Nat.mod_eq_of_lt (Nat.lt_trans h (by decide))).symm
theorem case52 {P : Nat → Prop} (h0 : P 0) (h1 : P 1) (h2 : P 2) (h3 : P 3) (h4 : P 4) (h5 : P 5) (h6 : P 6) (h7 : P 7) (h8 : P 8) (h9 : P 9) (h10 : P 10) (h11 : P 11) (h12 : P 12) (h13 : P 13) (h14 : P 14) (h15 : P 15) (h16 : P 16) (h17 : P 17) (h18 : P 18) (h19 : P 19) (h20 : P 20) (h21 : P 21) (h22 : P 22) (h23 : P 23) (h24 : P 24) (h25 : P 25) (h26 : P 26) (h27 : P 27) (h28 : P 28) (h29 : P 29) (h30 : P 30) (h31 : P 31) (h32 : P 32) (h33 : P 33) (h34 : P 34) (h35 : P 35) (h36 : P 36) (h37 : P 37) (h38 : P 38) (h39 : P 39) (h40 : P 40) (h41 : P 41) (h42 : P 42) (h43 : P 43) (h44 : P 44) (h45 : P 45) (h46 : P 46) (h47 : P 47) (h48 : P 48) (h49 : P 49) (h50 : P 50) (h51 : P 51) (hd : ∀ j, 52 ≤ j → j < 64 → P j) : ∀ j, j < 64 → P j
  | 0, _ => h0
  | 1, _ => h1
  | 2, _ => h2
  | 3, _ => h3
  | 4, _ => h4
  | 5, _ => h5
  | 6, _ => h6
  | 7, _ => h7
  | 8, _ => h8
  | 9, _ => h9
  | 10, _ => h10
  | 11, _ => h11
  | 12, _ => h12
  | 13, _ => h13
  | 14, _ => h14
  | 15, _ => h15
  | 16, _ => h16
  | 17, _ => h17
  | 18, _ => h18
  | 19, _ => h19
  | 20, _ => h20
  | 21, _ => h21
  | 22, _ => h22
  | 23, _ => h23
  | 24, _ => h24
  | 25, _ => h25
  | 26, _ => h26
  | 27, _ => h27
  | 28, _ => h28
  | 29, _ => h29
  | 30, _ => h30
  | 31, _ => h31
  | 32, _ => h32
  | 33, _ => h33
  | 34, _ => h34
  | 35, _ => h35
  | 36, _ => h36
  | 37, _ => h37
  | 38, _ => h38
  | 39, _ => h39
  | 40, _ => h40
  | 41, _ => h41
  | 42, _ => h42
  | 43, _ => h43
  | 44, _ => h44
  | 45, _ => h45
  | 46, _ => h46
  | 47, _ => h47
  | 48, _ => h48
  | 49, _ => h49
  | 50, _ => h50
  | 51, _ => h51
  | j + 52, hj => hd (j + 52) (by omega) hj

set_option maxHeartbeats 4000000 in
set_option maxRecDepth 100000 in
theorem law_next {p_ : Program} {l_ : Launch} {e_ : Env} {S_ : State} {m_ : MethodId} {args : Array Value} {below : List Frame} {meth : Method} {co : Code} {g : G5} {A : Nat → Prop} {b L : Nat} {xs : Nat → Int32} {b0 m0 : Nat} {Q : State → Prop} {adK adV : Nat → Nat} {fm : Value} (X : CallFix p_ m_ co cL_law 4 S_ args lw_all RL) (hK : KK g S_) (hA : ∀ q, S_.heap.size ≤ q → A q) (hE : SEa adK adV fm A S_ S_.heap) (hX : va_X b L xs S_ S_.heap) (hbl : b < S_.heap.size) (hbA : ¬ A b) (hL : L ≤ 2560) {i : Nat} (hi : i + 5 ≤ L) (ih : LK p_ l_ e_ S_ m_ args below meth co g A b b0 m0 Q 18 (i + 5)) : LK p_ l_ e_ S_ m_ args below meth co g A b b0 m0 Q 1473 i := by
  intro sa qa da ka o ca pa ha na ta ua qb db km kb fo fb sb cb cc_ pb hr_ hz_ nw nb tc_ uc_ lt er el cm_ sv md fmm lc lz af pt_ oc ty_ sz_ em k n B T s h c p tk k0 n0 s0 t0 v0 t1 v1 f z fd qk q su cy fc fp nx fr fz f0 g0 g1 xf xe xl xc x0 xz xd xq xa xb xg xp xo fy fz_ fg H locs ls hP hD hS hF hl
  refine lv_iinc (v := nI (i + 5)) (lv' := [(3, .int (nI (i + 5))), (2, .ref m0), (1, .ref b0), (0, .ref b)]) X.1 X.2.1 dL_law_1473 hl (k := 0) rfl (nI_add _ 5) (by decide) rfl (fun ls hl => ?_)
  refine lv_goto (tgt := 18) X.1 X.2.1 dL_law_1476 (by decide) ?_
  exact ih sa qa da ka o ca pa ha na ta ua qb db km kb fo fb sb cb cc_ pb hr_ hz_ nw nb tc_ uc_ lt er el cm_ sv md fmm lc lz af pt_ oc ty_ sz_ em k n B T s h c p tk k0 n0 s0 t0 v0 t1 v1 f z fd qk q su cy fc fp nx fr fz f0 g0 g1 xf xe xl xc x0 xz xd xq xa xb xg xp xo fy fz_ fg H locs ls hP hD hS hF hl

set_option maxHeartbeats 4000000 in
set_option maxRecDepth 100000 in
theorem law_sw {p_ : Program} {l_ : Launch} {e_ : Env} {S_ : State} {m_ : MethodId} {args : Array Value} {below : List Frame} {meth : Method} {co : Code} {g : G5} {A : Nat → Prop} {b L : Nat} {xs : Nat → Int32} {b0 m0 : Nat} {Q : State → Prop} {adK adV : Nat → Nat} {fm : Value} (X : CallFix p_ m_ co cL_law 4 S_ args lw_all RL) (hK : KK g S_) (hA : ∀ q, S_.heap.size ≤ q → A q) (hE : SEa adK adV fm A S_ S_.heap) (hX : va_X b L xs S_ S_.heap) (hbl : b < S_.heap.size) (hbA : ¬ A b) (hL : L ≤ 2560) {i : Nat} (hi : i + 5 ≤ L) {H : Heap} {locs : List Loc} {ls : Array Slot} {sa : Nat} {qa : Nat} {da : Nat} {ka : Nat} {o : Nat} {ca : Nat} {pa : Nat} {ha : Nat} {na : Nat} {ta : Nat} {ua : Nat} {qb : Nat} {db : Nat} {km : Nat} {kb : Nat} {fo : Nat} {fb : Nat} {sb : Nat} {cb : Nat} {cc_ : Nat} {pb : Nat} {hr_ : Nat} {hz_ : Nat} {nw : Nat} {nb : Nat} {tc_ : Nat} {uc_ : Nat} {lt : Nat} {er : Nat} {el : Nat} {cm_ : Nat} {sv : Nat} {md : Nat} {fmm : Nat} {lc : Nat} {lz : Nat} {af : Nat} {pt_ : Nat} {oc : Nat} {ty_ : Nat} {sz_ : Nat} {em : Nat} {k : Nat} {n : Nat} {B : Nat} {T : Nat} {s : List Nat} {h : List (List Nat)} {c : List Nat} {p : List Int} {tk : Bool} {k0 : Nat} {n0 : Nat} {s0 : List Nat} {t0 : Int} {v0 : List Int32} {t1 : Int} {v1 : List Int32} {f : Nat → Int32} {z : List Nat} {fd : Nat → Int32} {qk : Nat → Bool} {q : Nat → Bool} {su : Nat → Int32} {cy : Nat → Int32} {fc : Nat → Int32} {fp : Nat → Int32} {nx : Nat} {fr : Nat → Int32} {fz : Nat → Int32} {f0 : Nat → Int32} {g0 : Nat → Int32} {g1 : Nat → Int32} {xf : Nat → Int32} {xe : Nat → Int32} {xl : Nat → Int32} {xc : Nat → Int32} {x0 : Nat → Int32} {xz : List Nat} {xd : Nat → Int32} {xq : Nat → Bool} {xa : Nat → Int32} {xb : Nat → Int32} {xg : Nat → Int32} {xp : Nat → Int32} {xo : Nat → Bool} {fy : Nat → Int32} {fz_ : Nat → Int32} {fg : Nat → Int32} (hP : PP g [(b0, .inr (10, [.ref sa, .ref qa, .ref da, .ref ka, .ref o, .ref ca, .ref pa, .ref ha, .ref na, .ref ta, .ref ua])), (sa, .inr (6, [.int (nI k), .int (nI n), .int (nI B), .int (nI T)])), (qa, .inr (9, [.ref qb, .int (nI s.length)])), (qb, .inl (g.2.1, 256, .inl f)), (da, .inr (9, [.ref db, .int (nI z.length)])), (db, .inl (g.2.1, 256, .inl fd)), (ka, .inr (0, [.ref km])), (km, .inr (4, [.ref kb])), (kb, .inl (g.2.2.1, 256, .inl (mf qk))), (o, .inr (1, [.ref fo, .ref sb, .ref cb])), (fo, .inr (4, [.ref fb])), (fb, .inl (g.2.2.1, 256, .inl (mf q))), (sb, .inl (g.2.1, 256, .inl su)), (cb, .inl (g.2.1, 256, .inl cy)), (ca, .inr (2, [.ref cc_, .int (nI c.length)])), (cc_, .inl (g.2.2.2, 20, .inl fc)), (pa, .inr (5, [.ref pb, .int (nI p.length)])), (pb, .inl (g.2.1, 8, .inl fp)), (ha, .inr (3, [.ref hr_, .ref hz_, .int (nI nx), .int (nI h.length)])), (hr_, .inl (g.2.1, 1536, .inl fr)), (hz_, .inl (g.2.1, 6, .inl fz)), (na, .inr (7, [.ref nw, .int (nI k0), .int (nI n0), .int (bI tk)])), (nw, .inr (9, [.ref nb, .int (nI s0.length)])), (nb, .inl (g.2.1, 256, .inl f0)), (ta, .inr (8, [.ref tc_, .int (iI t0), .int (nI v0.length)])), (tc_, .inl (g.2.1, 256, .inl g0)), (ua, .inr (8, [.ref uc_, .int (iI t1), .int (nI v1.length)])), (uc_, .inl (g.2.1, 256, .inl g1)), (m0, .inr (11, [.int (nI k), .int (nI n), .ref lt, .int (nI s.length), .ref er, .ref el, .int (nI h.length), .ref cm_, .int (nI c.length), .int (bI tk), .int (nI k0), .int (nI n0), .ref sv, .int (nI s0.length), .ref md, .int (nI xz.length), .ref fmm, .ref lc, .ref lz, .ref af, .ref pt_, .int (nI p.length), .ref oc, .ref ty_, .ref sz_, .ref em])), (lt, .inl (g.2.1, 256, .inl xf)), (er, .inl (g.2.1, 1536, .inl xe)), (el, .inl (g.2.1, 6, .inl xl)), (cm_, .inl (g.2.1, 20, .inl xc)), (sv, .inl (g.2.1, 256, .inl x0)), (md, .inl (g.2.1, 256, .inl xd)), (fmm, .inl (g.2.2.1, 256, .inl (mf xq))), (lc, .inl (g.2.1, 256, .inl xa)), (lz, .inl (g.2.1, 256, .inl xb)), (af, .inl (g.2.1, 256, .inl xg)), (pt_, .inl (g.2.1, 8, .inl xp)), (oc, .inl (g.2.2.1, 256, .inl (mf xo))), (ty_, .inl (g.2.1, 2, .inl fy)), (sz_, .inl (g.2.1, 2, .inl fz_)), (em, .inl (g.2.1, 512, .inl fg))] H) (hD : va_D A [(b0, .inr (10, [.ref sa, .ref qa, .ref da, .ref ka, .ref o, .ref ca, .ref pa, .ref ha, .ref na, .ref ta, .ref ua])), (sa, .inr (6, [.int (nI k), .int (nI n), .int (nI B), .int (nI T)])), (qa, .inr (9, [.ref qb, .int (nI s.length)])), (qb, .inl (g.2.1, 256, .inl f)), (da, .inr (9, [.ref db, .int (nI z.length)])), (db, .inl (g.2.1, 256, .inl fd)), (ka, .inr (0, [.ref km])), (km, .inr (4, [.ref kb])), (kb, .inl (g.2.2.1, 256, .inl (mf qk))), (o, .inr (1, [.ref fo, .ref sb, .ref cb])), (fo, .inr (4, [.ref fb])), (fb, .inl (g.2.2.1, 256, .inl (mf q))), (sb, .inl (g.2.1, 256, .inl su)), (cb, .inl (g.2.1, 256, .inl cy)), (ca, .inr (2, [.ref cc_, .int (nI c.length)])), (cc_, .inl (g.2.2.2, 20, .inl fc)), (pa, .inr (5, [.ref pb, .int (nI p.length)])), (pb, .inl (g.2.1, 8, .inl fp)), (ha, .inr (3, [.ref hr_, .ref hz_, .int (nI nx), .int (nI h.length)])), (hr_, .inl (g.2.1, 1536, .inl fr)), (hz_, .inl (g.2.1, 6, .inl fz)), (na, .inr (7, [.ref nw, .int (nI k0), .int (nI n0), .int (bI tk)])), (nw, .inr (9, [.ref nb, .int (nI s0.length)])), (nb, .inl (g.2.1, 256, .inl f0)), (ta, .inr (8, [.ref tc_, .int (iI t0), .int (nI v0.length)])), (tc_, .inl (g.2.1, 256, .inl g0)), (ua, .inr (8, [.ref uc_, .int (iI t1), .int (nI v1.length)])), (uc_, .inl (g.2.1, 256, .inl g1)), (m0, .inr (11, [.int (nI k), .int (nI n), .ref lt, .int (nI s.length), .ref er, .ref el, .int (nI h.length), .ref cm_, .int (nI c.length), .int (bI tk), .int (nI k0), .int (nI n0), .ref sv, .int (nI s0.length), .ref md, .int (nI xz.length), .ref fmm, .ref lc, .ref lz, .ref af, .ref pt_, .int (nI p.length), .ref oc, .ref ty_, .ref sz_, .ref em])), (lt, .inl (g.2.1, 256, .inl xf)), (er, .inl (g.2.1, 1536, .inl xe)), (el, .inl (g.2.1, 6, .inl xl)), (cm_, .inl (g.2.1, 20, .inl xc)), (sv, .inl (g.2.1, 256, .inl x0)), (md, .inl (g.2.1, 256, .inl xd)), (fmm, .inl (g.2.2.1, 256, .inl (mf xq))), (lc, .inl (g.2.1, 256, .inl xa)), (lz, .inl (g.2.1, 256, .inl xb)), (af, .inl (g.2.1, 256, .inl xg)), (pt_, .inl (g.2.1, 8, .inl xp)), (oc, .inl (g.2.2.1, 256, .inl (mf xo))), (ty_, .inl (g.2.1, 2, .inl fy)), (sz_, .inl (g.2.1, 2, .inl fz_)), (em, .inl (g.2.1, 512, .inl fg))]) (hS : va_S A S_.heap H locs) (hF : LFa k n B T s h c p tk k0 n0 s0 t0 v0 t1 v1 f z fd qk q su cy fc fp nx fr fz f0 g0 g1 xf xe xl xc x0 xz xd xq xa xb xg xp xo fy fz_ fg) (hl : lv_has ls 4 [(3, .int (nI i)), (2, .ref m0), (1, .ref b0), (0, .ref b)]) (kk : LK p_ l_ e_ S_ m_ args below meth co g A b b0 m0 Q 1473 i) : ∀ j, j < 64 → W p_ l_ e_ room_1 S_ m_ args below meth co H locs 44 8079 Q (F0 m_ 32 ls [.int (nI j)]) := by
  refine case52 (P := fun j => W p_ l_ e_ room_1 S_ m_ args below meth co H locs 44 8079 Q (F0 m_ 32 ls [.int (nI j)])) ?_ ?_ ?_ ?_ ?_ ?_ ?_ ?_ ?_ ?_ ?_ ?_ ?_ ?_ ?_ ?_ ?_ ?_ ?_ ?_ ?_ ?_ ?_ ?_ ?_ ?_ ?_ ?_ ?_ ?_ ?_ ?_ ?_ ?_ ?_ ?_ ?_ ?_ ?_ ?_ ?_ ?_ ?_ ?_ ?_ ?_ ?_ ?_ ?_ ?_ ?_ ?_ ?_
  · exact lv_tableIn (tgt := 256) X.1 X.2.1 dL_law_32 (by decide) (by decide) rfl (by decide) (law_0 X hK hA hE hX hbl hbA hL hi hP hD hS hF hl kk)
  · exact lv_tableIn (tgt := 289) X.1 X.2.1 dL_law_32 (by decide) (by decide) rfl (by decide) (law_1 X hK hA hE hX hbl hbA hL hi hP hD hS hF hl kk)
  · exact lv_tableIn (tgt := 302) X.1 X.2.1 dL_law_32 (by decide) (by decide) rfl (by decide) (law_2 X hK hA hE hX hbl hbA hL hi hP hD hS hF hl kk)
  · exact lv_tableIn (tgt := 315) X.1 X.2.1 dL_law_32 (by decide) (by decide) rfl (by decide) (law_3 X hK hA hE hX hbl hbA hL hi hP hD hS hF hl kk)
  · exact lv_tableIn (tgt := 328) X.1 X.2.1 dL_law_32 (by decide) (by decide) rfl (by decide) (law_4 X hK hA hE hX hbl hbA hL hi hP hD hS hF hl kk)
  · exact lv_tableIn (tgt := 351) X.1 X.2.1 dL_law_32 (by decide) (by decide) rfl (by decide) (law_5 X hK hA hE hX hbl hbA hL hi hP hD hS hF hl kk)
  · exact lv_tableIn (tgt := 384) X.1 X.2.1 dL_law_32 (by decide) (by decide) rfl (by decide) (law_6 X hK hA hE hX hbl hbA hL hi hP hD hS hF hl kk)
  · exact lv_tableIn (tgt := 407) X.1 X.2.1 dL_law_32 (by decide) (by decide) rfl (by decide) (law_7 X hK hA hE hX hbl hbA hL hi hP hD hS hF hl kk)
  · exact lv_tableIn (tgt := 420) X.1 X.2.1 dL_law_32 (by decide) (by decide) rfl (by decide) (law_8 X hK hA hE hX hbl hbA hL hi hP hD hS hF hl kk)
  · exact lv_tableIn (tgt := 453) X.1 X.2.1 dL_law_32 (by decide) (by decide) rfl (by decide) (law_9 X hK hA hE hX hbl hbA hL hi hP hD hS hF hl kk)
  · exact lv_tableIn (tgt := 476) X.1 X.2.1 dL_law_32 (by decide) (by decide) rfl (by decide) (law_10 X hK hA hE hX hbl hbA hL hi hP hD hS hF hl kk)
  · exact lv_tableIn (tgt := 499) X.1 X.2.1 dL_law_32 (by decide) (by decide) rfl (by decide) (law_11 X hK hA hE hX hbl hbA hL hi hP hD hS hF hl kk)
  · exact lv_tableIn (tgt := 512) X.1 X.2.1 dL_law_32 (by decide) (by decide) rfl (by decide) (law_12 X hK hA hE hX hbl hbA hL hi hP hD hS hF hl kk)
  · exact lv_tableIn (tgt := 525) X.1 X.2.1 dL_law_32 (by decide) (by decide) rfl (by decide) (law_13 X hK hA hE hX hbl hbA hL hi hP hD hS hF hl kk)
  · exact lv_tableIn (tgt := 558) X.1 X.2.1 dL_law_32 (by decide) (by decide) rfl (by decide) (law_14 X hK hA hE hX hbl hbA hL hi hP hD hS hF hl kk)
  · exact lv_tableIn (tgt := 611) X.1 X.2.1 dL_law_32 (by decide) (by decide) rfl (by decide) (law_15 X hK hA hE hX hbl hbA hL hi hP hD hS hF hl kk)
  · exact lv_tableIn (tgt := 634) X.1 X.2.1 dL_law_32 (by decide) (by decide) rfl (by decide) (law_16 X hK hA hE hX hbl hbA hL hi hP hD hS hF hl kk)
  · exact lv_tableIn (tgt := 657) X.1 X.2.1 dL_law_32 (by decide) (by decide) rfl (by decide) (law_17 X hK hA hE hX hbl hbA hL hi hP hD hS hF hl kk)
  · exact lv_tableIn (tgt := 680) X.1 X.2.1 dL_law_32 (by decide) (by decide) rfl (by decide) (law_18 X hK hA hE hX hbl hbA hL hi hP hD hS hF hl kk)
  · exact lv_tableIn (tgt := 703) X.1 X.2.1 dL_law_32 (by decide) (by decide) rfl (by decide) (law_19 X hK hA hE hX hbl hbA hL hi hP hD hS hF hl kk)
  · exact lv_tableIn (tgt := 726) X.1 X.2.1 dL_law_32 (by decide) (by decide) rfl (by decide) (law_20 X hK hA hE hX hbl hbA hL hi hP hD hS hF hl kk)
  · exact lv_tableIn (tgt := 759) X.1 X.2.1 dL_law_32 (by decide) (by decide) rfl (by decide) (law_21 X hK hA hE hX hbl hbA hL hi hP hD hS hF hl kk)
  · exact lv_tableIn (tgt := 772) X.1 X.2.1 dL_law_32 (by decide) (by decide) rfl (by decide) (law_22 X hK hA hE hX hbl hbA hL hi hP hD hS hF hl kk)
  · exact lv_tableIn (tgt := 795) X.1 X.2.1 dL_law_32 (by decide) (by decide) rfl (by decide) (law_23 X hK hA hE hX hbl hbA hL hi hP hD hS hF hl kk)
  · exact lv_tableIn (tgt := 808) X.1 X.2.1 dL_law_32 (by decide) (by decide) rfl (by decide) (law_24 X hK hA hE hX hbl hbA hL hi hP hD hS hF hl kk)
  · exact lv_tableIn (tgt := 831) X.1 X.2.1 dL_law_32 (by decide) (by decide) rfl (by decide) (law_25 X hK hA hE hX hbl hbA hL hi hP hD hS hF hl kk)
  · exact lv_tableIn (tgt := 844) X.1 X.2.1 dL_law_32 (by decide) (by decide) rfl (by decide) (law_26 X hK hA hE hX hbl hbA hL hi hP hD hS hF hl kk)
  · exact lv_tableIn (tgt := 857) X.1 X.2.1 dL_law_32 (by decide) (by decide) rfl (by decide) (law_27 X hK hA hE hX hbl hbA hL hi hP hD hS hF hl kk)
  · exact lv_tableIn (tgt := 880) X.1 X.2.1 dL_law_32 (by decide) (by decide) rfl (by decide) (law_28 X hK hA hE hX hbl hbA hL hi hP hD hS hF hl kk)
  · exact lv_tableIn (tgt := 913) X.1 X.2.1 dL_law_32 (by decide) (by decide) rfl (by decide) (law_29 X hK hA hE hX hbl hbA hL hi hP hD hS hF hl kk)
  · exact lv_tableIn (tgt := 936) X.1 X.2.1 dL_law_32 (by decide) (by decide) rfl (by decide) (law_30 X hK hA hE hX hbl hbA hL hi hP hD hS hF hl kk)
  · exact lv_tableIn (tgt := 959) X.1 X.2.1 dL_law_32 (by decide) (by decide) rfl (by decide) (law_31 X hK hA hE hX hbl hbA hL hi hP hD hS hF hl kk)
  · exact lv_tableIn (tgt := 982) X.1 X.2.1 dL_law_32 (by decide) (by decide) rfl (by decide) (law_32 X hK hA hE hX hbl hbA hL hi hP hD hS hF hl kk)
  · exact lv_tableIn (tgt := 1005) X.1 X.2.1 dL_law_32 (by decide) (by decide) rfl (by decide) (law_33 X hK hA hE hX hbl hbA hL hi hP hD hS hF hl kk)
  · exact lv_tableIn (tgt := 1028) X.1 X.2.1 dL_law_32 (by decide) (by decide) rfl (by decide) (law_34 X hK hA hE hX hbl hbA hL hi hP hD hS hF hl kk)
  · exact lv_tableIn (tgt := 1061) X.1 X.2.1 dL_law_32 (by decide) (by decide) rfl (by decide) (law_35 X hK hA hE hX hbl hbA hL hi hP hD hS hF hl kk)
  · exact lv_tableIn (tgt := 1084) X.1 X.2.1 dL_law_32 (by decide) (by decide) rfl (by decide) (law_36 X hK hA hE hX hbl hbA hL hi hP hD hS hF hl kk)
  · exact lv_tableIn (tgt := 1097) X.1 X.2.1 dL_law_32 (by decide) (by decide) rfl (by decide) (law_37 X hK hA hE hX hbl hbA hL hi hP hD hS hF hl kk)
  · exact lv_tableIn (tgt := 1110) X.1 X.2.1 dL_law_32 (by decide) (by decide) rfl (by decide) (law_38 X hK hA hE hX hbl hbA hL hi hP hD hS hF hl kk)
  · exact lv_tableIn (tgt := 1133) X.1 X.2.1 dL_law_32 (by decide) (by decide) rfl (by decide) (law_39 X hK hA hE hX hbl hbA hL hi hP hD hS hF hl kk)
  · exact lv_tableIn (tgt := 1156) X.1 X.2.1 dL_law_32 (by decide) (by decide) rfl (by decide) (law_40 X hK hA hE hX hbl hbA hL hi hP hD hS hF hl kk)
  · exact lv_tableIn (tgt := 1189) X.1 X.2.1 dL_law_32 (by decide) (by decide) rfl (by decide) (law_41 X hK hA hE hX hbl hbA hL hi hP hD hS hF hl kk)
  · exact lv_tableIn (tgt := 1212) X.1 X.2.1 dL_law_32 (by decide) (by decide) rfl (by decide) (law_42 X hK hA hE hX hbl hbA hL hi hP hD hS hF hl kk)
  · exact lv_tableIn (tgt := 1236) X.1 X.2.1 dL_law_32 (by decide) (by decide) rfl (by decide) (law_43 X hK hA hE hX hbl hbA hL hi hP hD hS hF hl kk)
  · exact lv_tableIn (tgt := 1249) X.1 X.2.1 dL_law_32 (by decide) (by decide) rfl (by decide) (law_44 X hK hA hE hX hbl hbA hL hi hP hD hS hF hl kk)
  · exact lv_tableIn (tgt := 1262) X.1 X.2.1 dL_law_32 (by decide) (by decide) rfl (by decide) (law_45 X hK hA hE hX hbl hbA hL hi hP hD hS hF hl kk)
  · exact lv_tableIn (tgt := 1275) X.1 X.2.1 dL_law_32 (by decide) (by decide) rfl (by decide) (law_46 X hK hA hE hX hbl hbA hL hi hP hD hS hF hl kk)
  · exact lv_tableIn (tgt := 1288) X.1 X.2.1 dL_law_32 (by decide) (by decide) rfl (by decide) (law_47 X hK hA hE hX hbl hbA hL hi hP hD hS hF hl kk)
  · exact lv_tableIn (tgt := 1331) X.1 X.2.1 dL_law_32 (by decide) (by decide) rfl (by decide) (law_48 X hK hA hE hX hbl hbA hL hi hP hD hS hF hl kk)
  · exact lv_tableIn (tgt := 1374) X.1 X.2.1 dL_law_32 (by decide) (by decide) rfl (by decide) (law_49 X hK hA hE hX hbl hbA hL hi hP hD hS hF hl kk)
  · exact lv_tableIn (tgt := 1407) X.1 X.2.1 dL_law_32 (by decide) (by decide) rfl (by decide) (law_50 X hK hA hE hX hbl hbA hL hi hP hD hS hF hl kk)
  · exact lv_tableIn (tgt := 1440) X.1 X.2.1 dL_law_32 (by decide) (by decide) rfl (by decide) (law_51 X hK hA hE hX hbl hbA hL hi hP hD hS hF hl kk)
  · intro j h1 h2
    exact lv_tableOut (tgt := 1473) X.1 X.2.1 dL_law_32 (Or.inr (by rw [nI_toInt (by omega)]; omega)) (by decide) (kk sa qa da ka o ca pa ha na ta ua qb db km kb fo fb sb cb cc_ pb hr_ hz_ nw nb tc_ uc_ lt er el cm_ sv md fmm lc lz af pt_ oc ty_ sz_ em k n B T s h c p tk k0 n0 s0 t0 v0 t1 v1 f z fd qk q su cy fc fp nx fr fz f0 g0 g1 xf xe xl xc x0 xz xd xq xa xb xg xp xo fy fz_ fg H locs ls hP hD hS hF hl)

set_option maxHeartbeats 4000000 in
set_option maxRecDepth 100000 in
theorem law_loop {p_ : Program} {l_ : Launch} {e_ : Env} {S_ : State} {m_ : MethodId} {args : Array Value} {below : List Frame} {meth : Method} {co : Code} {g : G5} {A : Nat → Prop} {b L : Nat} {xs : Nat → Int32} {b0 m0 : Nat} {Q : State → Prop} {adK adV : Nat → Nat} {fm : Value} (X : CallFix p_ m_ co cL_law 4 S_ args lw_all RL) (hK : KK g S_) (hA : ∀ q, S_.heap.size ≤ q → A q) (hE : SEa adK adV fm A S_ S_.heap) (hX : va_X b L xs S_ S_.heap) (hbl : b < S_.heap.size) (hbA : ¬ A b) (hL : L ≤ 2560) (hend : ∀ (H : Heap) (locs : List Loc) (ls : Array Slot), va_S A S_.heap H locs → W p_ l_ e_ room_1 S_ m_ args below meth co H locs 44 8079 Q (F0 m_ 1479 ls [])) : ∀ (r i : Nat), L ≤ i + r → i ≤ L → LK p_ l_ e_ S_ m_ args below meth co g A b b0 m0 Q 18 i := by
  intro r
  induction r with
  | zero =>
    intro i hr hiL sa qa da ka o ca pa ha na ta ua qb db km kb fo fb sb cb cc_ pb hr_ hz_ nw nb tc_ uc_ lt er el cm_ sv md fmm lc lz af pt_ oc ty_ sz_ em k n B T s h c p tk k0 n0 s0 t0 v0 t1 v1 f z fd qk q su cy fc fp nx fr fz f0 g0 g1 xf xe xl xc x0 xz xd xq xa xb xg xp xo fy fz_ fg H locs ls hP hD hS hF hl
    refine lv_iload_n X.1 X.2.1 dL_law_18 rfl (lv_at hl 0 rfl) ?_
    refine lv_aload_n X.1 X.2.1 dL_law_19 rfl (lv_at hl 3 rfl) ?_
    refine va_slen X.1 X.2.1 hX hbl hbA hS dL_law_20 ?_
    refine tp_i (y := nI L) rfl ?_
    refine lv_iconst (v := nI 5) X.1 X.2.1 dL_law_21 (by decide) ?_
    refine lv_isub X.1 X.2.1 dL_law_22 ?_
    refine tp_i (y := iI ((L : Int) - ((5 : Nat) : Int))) (by rw [nI_iI, nI_iI, iI_sub]) ?_
    refine z_icmp_gt (tgt := 1479) X dL_law_23 (by decide) (nI_toInt (by omega)) (iI_toInt (by omega) (by omega)) (fun c23 => ?_) (fun c23 => ?_)
    · exact hend _ _ _ hS
    · exfalso; omega
  | succ r ih =>
    intro i hr hiL sa qa da ka o ca pa ha na ta ua qb db km kb fo fb sb cb cc_ pb hr_ hz_ nw nb tc_ uc_ lt er el cm_ sv md fmm lc lz af pt_ oc ty_ sz_ em k n B T s h c p tk k0 n0 s0 t0 v0 t1 v1 f z fd qk q su cy fc fp nx fr fz f0 g0 g1 xf xe xl xc x0 xz xd xq xa xb xg xp xo fy fz_ fg H locs ls hP hD hS hF hl
    refine lv_iload_n X.1 X.2.1 dL_law_18 rfl (lv_at hl 0 rfl) ?_
    refine lv_aload_n X.1 X.2.1 dL_law_19 rfl (lv_at hl 3 rfl) ?_
    refine va_slen X.1 X.2.1 hX hbl hbA hS dL_law_20 ?_
    refine tp_i (y := nI L) rfl ?_
    refine lv_iconst (v := nI 5) X.1 X.2.1 dL_law_21 (by decide) ?_
    refine lv_isub X.1 X.2.1 dL_law_22 ?_
    refine tp_i (y := iI ((L : Int) - ((5 : Nat) : Int))) (by rw [nI_iI, nI_iI, iI_sub]) ?_
    refine z_icmp_gt (tgt := 1479) X dL_law_23 (by decide) (nI_toInt (by omega)) (iI_toInt (by omega) (by omega)) (fun c23 => ?_) (fun c23 => ?_)
    · exact hend _ _ _ hS
    · refine lv_aload_n X.1 X.2.1 dL_law_26 rfl (lv_at hl 3 rfl) ?_
      refine lv_iload_n X.1 X.2.1 dL_law_27 rfl (lv_at hl 0 rfl) ?_
      refine va_sld X.1 X.2.1 hX hbl hbA hS (vp_in_nI (by omega) (by omega)) dL_law_28 ?_
      refine lv_bipush (v := nI 63) X.1 X.2.1 dL_law_29 (by decide) ?_
      refine lv_iand X.1 X.2.1 dL_law_31 ?_
      obtain ⟨j, hj, e63⟩ := and63 (xs (nI i).toNatClampNeg)
      refine tp_i (y := nI j) e63 ?_
      exact law_sw X hK hA hE hX hbl hbA hL (by omega) hP hD hS hF hl (law_next X hK hA hE hX hbl hbA hL (by omega) (ih (i + 5) (by omega) (by omega))) j hj
