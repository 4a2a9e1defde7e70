/-! constructors: words of the nest, contracts that make cells -/
def NWs : List Cond := [.methodLinkNest RX11 9 yX6_init RX11, .methodLinkNest RX11 18 yX10_init RX11, .methodLinkNest RX11 28 yX0_init RX11, .methodLinkNest RX0 11 yX4_init RX11, .methodLinkNest RX11 35 yX1_init RX11, .methodLinkNest RX1 11 yX4_init RX11, .methodLinkNest RX11 42 yX2_init RX11, .methodLinkNest RX11 49 yX5_init RX11, .methodLinkNest RX11 56 yX3_init RX11, .methodLinkNest RX11 63 yX7_init RX11, .methodLinkNest RX7 9 yX10_init RX11, .methodLinkNest RX11 70 yX9_init RX11]
def isNest : Cond → Bool
  | .methodLinkNest _ _ _ _ => true
  | _ => false
theorem NWs_nest : ∀ w ∈ NWs, isNest w = true := by decide +kernel
def NW (U : State) : Prop := ∀ w ∈ NWs, va_Nw w U
theorem nest_tab {w : Cond} (h : isNest w = true) : w.onTables = true := by
  cases w <;> first | rfl | cases h
theorem nest_warm {w : Cond} (h : isNest w = true) {s U : State} (hW : s.WarmedH U.vm) (hZ : va_Nw w s) : va_Nw w U := by
  cases w <;> first | exact va_Nw.warmM hW hZ | cases h
theorem NW.warm {s U : State} (hW : s.WarmedH U.vm) (h : NW s) : NW U := fun w hw => nest_warm (NWs_nest w hw) hW (h w hw)
theorem NW.same {u U : State} (hv : u.vm = U.vm) (h : NW u) : NW U := fun w hw => va_Nw.same (nest_tab (NWs_nest w hw)) hv (h w hw)
/-- the words of a constructor that is called -/
def TI (y : MethodName) (bytes : ByteArray) (maxL : Nat) : Prop :=
  (Cond.instanceMethod y ∈ lw_all ∧ Cond.initialized y.cls ∈ lw_all ∧ Cond.code y bytes maxL none ∈ lw_all) ∧ y.name = "<init>" ∧ (y.cls ≠ "java/lang/invoke/MethodHandle" ∧ y.cls ≠ "java/lang/invoke/VarHandle" ∧ (parseMethodDescriptor y.desc).map (fun d => d.parameters.length) = some 0)
theorem gId {y : MethodName} {bytes : ByteArray} {maxL : Nat} (h : TI y bytes maxL) : GoodIn lw_all (wz y bytes maxL none) := by
  intro w hw
  refine gdin ?_
  rcases List.mem_cons.mp hw with rfl | hw
  · exact h.1.2.2
  · exact hw
def NwV {S : Type} (y : MethodName) (bytes : ByteArray) (maxL : Nat) (fr mc ms lo : Nat) (g : G5) (b : Nat) (cs0 : va_W) (post : S → Prop) (cs1 : S → va_W) : Prop :=
  ∀ l sz, Met l y (wz y bytes maxL none) { frames := fr, cells := mc, slots := ms, locals := lo } (va_Pc [.ref b] (fun U => U.heap.size = sz ∧ PP g cs0 U.heap ∧ KK g U ∧ va_D (fun _ => True) cs0 ∧ NW U)) (va_Qv post (MuB g (va_A cs0 sz) cs1) (va_A cs0 sz)) mc ms (va_A cs0 sz)
theorem nw_blind {g : G5} {cs0 : va_W} {av : List Value} {sz : Nat} : FrameBlind (va_Pc av (fun U => U.heap.size = sz ∧ PP g cs0 U.heap ∧ KK g U ∧ va_D (fun _ => True) cs0 ∧ NW U)) := fun a U gg mk q => by
  obtain ⟨q0, q1, qP, qK, qD, qN⟩ := q
  exact ⟨q0, q1, qP, va_K.moved (u := U) (U := U.calling gg mk a) (Vm.Alike.refl U.vm) qK, qD, NW.same (u := U) (U := U.calling gg mk a) rfl qN⟩
theorem NwV.of {y : MethodName} {bytes : ByteArray} {maxL : Nat} {fr mc ms lo : Nat} {g : G5} {b : Nat} {cs0 : va_W} {S : Type} {post : S → Prop} {cs1 : S → va_W} (hy : plainName y.cls = true) (hi : y.name = "<init>") (hn : 1 ≤ maxL)
    (body : ∀ (p : Program) (l : Launch) (e : Env) (s : State) (m : MethodId) (args : Array Value) (below : List Frame) (meth : Method) (c : Code), CallFix p m c bytes maxL s args lw_all y.cls → meth.sig.returnType = none → meth.locks = false → meth.name = "<init>" → NW s → PP g cs0 s.heap → KK g s → ∀ A : Nat → Prop, (∀ q, s.heap.size ≤ q → A q) → va_D A cs0 → va_S A s.heap s.heap [] → ∀ ls : Array Slot, lv_has ls maxL [(0, .ref b)] → W p l e { frames := fr, cells := mc, slots := ms, locals := lo } s m args below meth c s.heap [] 0 0 (MQ below (va_Qv post (MuB g A cs1) A) args s mc ms A) (F0 m 0 ls [])) : NwV y bytes maxL fr mc ms lo g b cs0 post cs1 := by
  intro l sz
  refine Met.ofW (cc := bytes) (maxL := maxL) (ret := none) hy rfl ?_
  intro p e s m args below meth c s₁ B hml hv
  obtain ⟨rfl, hsz, hP, hK, hD0, hN⟩ := hv
  subst hsz
  have hts0 := atoms_spec (ws := wz y bytes maxL none) B.pre
  have hin : meth.name = "<init>" := (name_of_methodNamed B.named B.method).1.trans hi
  have hl := lv_entry [.ref b] (n := maxL) hn
  rw [lg_entry_eq]
  exact body p l e s m _ below meth c ⟨B.exec, B.bytes, hml, findClass_of_methodNamed B.named, fun w h => hts0 w (List.mem_cons_of_mem _ h)⟩ B.returns B.notSynchronized hin hN hP hK _ (fun q h => Or.inr h) hD0.self va_S.rf _ hl
section NVN
variable {p : Program} {l : Launch} {e : Env} {R : Room} {s : State} {m : MethodId} {args : Array Value} {below : List Frame} {meth : Method} {c : Code} {H : Heap} {locs : List Loc} {cells slots : Nat} {Q : State → Prop}
variable {cc : ByteArray} {pc nL : Nat} {ls : Array Slot} {rest : List Value} {own : String} {A : Nat → Prop} {g : G5} {y : MethodName} {bytes : ByteArray} {maxL fr mc ms lo b idx : Nat} {cs0 : va_W} {lv0 : List (Nat × Value)} {st0 : List Value}
theorem NwV.ret {S : Type} {post : S → Prop} {cs1 : S → va_W} (X : CallFix p m c cc nL s args lw_all own) (hr : meth.sig.returnType = none) (hlk : meth.locks = false) (hK : KK g s) (hS : va_S A s.heap H locs) (hdg : decode cc pc = .ok (.return_, 1)) (u : S) (hP : PP g (cs1 u) H) (hD : va_D A (cs1 u)) (hv : post u) : W p l e R s m args below meth c H locs cells slots (MQ below (va_Qv post (MuB g A cs1) A) args s cells slots A) (F0 m pc ls []) :=
  W.vret X.1 X.2.1 hr (fun t ht hW => ⟨⟨u, rfl, hv, by rw [ht]; exact hP, va_K.moved hW.alike hK, hD⟩, hS.F ht⟩) hS.2.2 hdg hlk
theorem NwV.callN {S : Type} {post : S → Prop} {cs1 : S → va_W} (hM : NwV y bytes maxL fr mc ms lo g b cs0 post cs1) (X : CallFix p m c cc nL s args lw_all own) (hdg : decode cc pc = .ok (.invokespecial idx, 3)) {host : String} (hl : Cond.methodLinkNest own idx y host ∈ NWs) (hT : TI y bytes maxL) (hN : NW s) (hK : KK g s) {ws wr : va_W} (hP : PP g ws H) (hD : va_D A ws) (hS : va_S A s.heap H locs) (hA : ∀ q, s.heap.size ≤ q → A q) (isC isR : List Nat) (hnC : va_nd isC = true) (hC : isC.map (fun i => ws[i]?) = cs0.map some) (hRr : isR.map (fun i => ws[i]?) = wr.map some) (hn2 : va_nd isR = true) (hdis : ∀ i ∈ isR, i ∉ isC) (hsz : lv_has ls nL lv0) (hR : (fr + 1 ≤ R.frames ∧ 8 + (maxL + 11) + lo ≤ R.locals) ∧ cells + mc ≤ R.cells ∧ slots + ms ≤ R.slots) (hst : st0 = .ref b :: rest) (hW : (rest.map fun v => v.category).sum ≤ 8)
    (kk : ∀ (u : S) (H1 : Heap) (locs1 : List Loc), post u → PP g (wr ++ cs1 u) H1 → va_D A (wr ++ cs1 u) → va_S A s.heap H1 locs1 → W p l e R s m args below meth c H1 locs1 (cells + mc) (slots + ms) Q (F0 m (pc + 3) ls rest)) : W p l e R s m args below meth c H locs cells slots Q (F0 m pc ls st0) := by
  subst hst
  obtain ⟨hPc, hDc⟩ := mu_pre (wr := wr) hK hP hD isC hnC hC
  have hFc := va_free (wc := cs0) hD hS hA isC hC
  exact va_callv (va_runIN (As := []) (rest := rest) X (hM l H.size) ⟨va_cnB 0 X.2.2.2.2 (gId hT) rfl rfl rfl (hN _ hl) (X.2.2.2.2 _ hT.1.2.1) hT.2.2 hR.1, hT.2.1, X.2.2.2.2 _ hT.1.1⟩ ⟨nw_blind, fun U hU hW => ⟨rfl, by rw [hU], by rw [hU]; exact hPc, va_K.moved hW.alike hK, hDc, hN.warm hW⟩⟩ rfl rfl hsz.1 rfl (lv_room hW) hdg hR.2) hS (fun q _ h => hFc q h) hFc (fun u t H1 locs1 ht hvm hw hB hz1 hk1 hS1 => by
    obtain ⟨hP1, hK1, hD1⟩ := hB
    rw [ht] at hP1
    obtain ⟨hP2, hD2⟩ := va_join (wr := wr) (w1 := cs1 u) hP hD isC isR hC hRr hn2 hdis hk1 hFc hP1 hD1
    exact kk u H1 locs1 hw hP2 hD2 hS1)
theorem NwV.callI {S : Type} {post : S → Prop} {cs1 : S → va_W} (hM : NwV y bytes maxL fr mc ms lo g b cs0 post cs1) (X : CallFix p m c cc nL s args lw_all own) (hdg : decode cc pc = .ok (.invokespecial idx, 3)) (hl : Cond.methodLink own idx y ∈ lw_all) (hT : TI y bytes maxL) (hN : NW s) (hK : KK g s) {ws wr : va_W} (hP : PP g ws H) (hD : va_D A ws) (hS : va_S A s.heap H locs) (hA : ∀ q, s.heap.size ≤ q → A q) (isC isR : List Nat) (hnC : va_nd isC = true) (hC : isC.map (fun i => ws[i]?) = cs0.map some) (hRr : isR.map (fun i => ws[i]?) = wr.map some) (hn2 : va_nd isR = true) (hdis : ∀ i ∈ isR, i ∉ isC) (hsz : lv_has ls nL lv0) (hR : (fr + 1 ≤ R.frames ∧ 8 + (maxL + 11) + lo ≤ R.locals) ∧ cells + mc ≤ R.cells ∧ slots + ms ≤ R.slots) (hst : st0 = .ref b :: rest) (hW : (rest.map fun v => v.category).sum ≤ 8)
    (kk : ∀ (u : S) (H1 : Heap) (locs1 : List Loc), post u → PP g (wr ++ cs1 u) H1 → va_D A (wr ++ cs1 u) → va_S A s.heap H1 locs1 → W p l e R s m args below meth c H1 locs1 (cells + mc) (slots + ms) Q (F0 m (pc + 3) ls rest)) : W p l e R s m args below meth c H locs cells slots Q (F0 m pc ls st0) := by
  subst hst
  obtain ⟨hPc, hDc⟩ := mu_pre (wr := wr) hK hP hD isC hnC hC
  have hFc := va_free (wc := cs0) hD hS hA isC hC
  exact va_callv (va_runI (As := []) (rest := rest) X (hM l H.size) (cwI 0 X.2.2.2.2 (gId hT) rfl rfl rfl (X.2.2.2.2 _ hT.1.2.1) (X.2.2.2.2 _ hl) (X.2.2.2.2 _ hT.1.1) hT.2.1 hT.2.2 hR.1) ⟨nw_blind, fun U hU hW => ⟨rfl, by rw [hU], by rw [hU]; exact hPc, va_K.moved hW.alike hK, hDc, hN.warm hW⟩⟩ rfl rfl hsz.1 rfl (lv_room hW) hdg hR.2) hS (fun q _ h => hFc q h) hFc (fun u t H1 locs1 ht hvm hw hB hz1 hk1 hS1 => by
    obtain ⟨hP1, hK1, hD1⟩ := hB
    rw [ht] at hP1
    obtain ⟨hP2, hD2⟩ := va_join (wr := wr) (w1 := cs1 u) hP hD isC isR hC hRr hn2 hdis hk1 hFc hP1 hD1
    exact kk u H1 locs1 hw hP2 hD2 hS1)
theorem n_newa (X : CallFix p m c cc nL s args lw_all own) {atype : ArrayType} {ty : FieldType} (hty : newarray.typeOf atype = ty) (harr : Cond.arrayClass ty ∈ lw_all) (hu : ∀ c1 c2 : ClassId, va_RA s c1 ty → va_RA s c2 ty → c1 = c2) (hd : defaultValue ty = .int 0) (hK : KK g s) {ws : va_W} (hP : PP g ws H) (hD : va_D A ws) (hS : va_S A s.heap H locs) (hA : ∀ q, s.heap.size ≤ q → A q) (t0 : Nat) {cA : ClassId} (ht : (tys3 g)[t0]? = some (cA, ty)) {n : Nat} (hn : n < 2 ^ 31) (hbytes : n * componentBytes ty ≤ 536870912) (hcells : cells + 1 ≤ R.cells) (hslots : slots + n ≤ R.slots) (hdg : decode cc pc = .ok (.newarray atype, 2))
    (kk : ∀ (q : Nat) (H1 : Heap), PP g (ws ++ [(q, .inl (cA, n, .inl (fun _ => nI 0)))]) H1 → va_D A (ws ++ [(q, .inl (cA, n, .inl (fun _ => nI 0)))]) → va_S A s.heap H1 locs → W p l e R s m args below meth c H1 locs (cells + 1) (slots + n) Q (F0 m (pc + 2) ls (.ref q :: rest))) : W p l e R s m args below meth c H locs cells slots Q (F0 m pc ls (.int (nI n) :: rest)) := by
  refine va_newa (a0 := (n, .inl (fun _ => nI 0))) X.1 X.2.1 (X.2.2.2.2 _ (by rw [hty]; exact harr)) hty hK hP hD hS hA (fun c1 => ?_) ?_ (nI_clamp hn) hbytes hcells hslots hdg (fun q c1 H1 hK1 hP1 hD1 hS1 => ?_)
  · rw [hd]
    rfl
  · intro h
    have h2 := (z_lt _ _).mp h
    rw [nI_toInt hn] at h2
    have h3 : (0 : Int32).toInt = 0 := rfl
    omega
  · have e : c1 = cA := hu c1 cA (hK1.2 3 _ rfl).2 (hK.2 t0 _ ht).2
    subst e
    exact kk q H1 hP1 hD1 hS1
end NVN
