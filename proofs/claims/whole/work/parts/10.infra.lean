/-! one kit of tables for every method: classes, array classes, worlds; contracts of pure methods (PuI, PuL) and of methods that change cells (MuI, MuV) -/
abbrev cls : List vw_C := [(RX0, TX0, 1), (RX1, TX1, 3), (RX2, TX2, 2), (RX3, TX3, 4), (RX4, TX4, 1), (RX5, TX5, 2), (RX6, TX6, 4), (RX7, TX7, 4), (RX9, TX9, 3), (RX10, TX10, 2), (RX11, TX11, 11), (RX12, TX12, 26)]
abbrev G5 : Type := va_G × ClassId × ClassId × ClassId
abbrev tys3 (g : G5) : List (ClassId × FieldType) := [(g.2.1, .int), (g.2.2.1, .boolean), (g.2.2.2, .char)]
abbrev PP (g : G5) (ws : va_W) (H : Heap) : Prop := va_P g.1 cls ws H
abbrev KK (g : G5) (U : State) : Prop := va_K g.1 cls (tys3 g) U
abbrev wz (y : MethodName) (bytes : ByteArray) (maxL : Nat) (ret : Option FieldType) : List Cond := .code y bytes maxL ret :: lw_all
def bI (b : Bool) : Int32 := if b then 1 else 0
theorem bI_nar (b : Bool) : narrow .boolean (.int (bI b)) = .int (bI b) := by cases b <;> rfl
theorem nI_nar (n : Int32) : narrow .int (.int n) = .int n := rfl
/-- the words of an instance method that is called -/
def TV (C : String) (y : MethodName) (bytes : ByteArray) (maxL : Nat) (ret : Option FieldType) (n : Nat) : Prop :=
  (Cond.instanceMethod y ∈ lw_all ∧ Cond.selects C y y ∈ lw_all ∧ Cond.initialized C ∈ lw_all ∧ Cond.code y bytes maxL ret ∈ lw_all) ∧ (y.cls = C ∧ y.cls ≠ "java/lang/invoke/MethodHandle" ∧ y.cls ≠ "java/lang/invoke/VarHandle" ∧ (parseMethodDescriptor y.desc).map (fun d => d.parameters.length) = some n)
/-- the words of a static method that is called -/
def TS (y : MethodName) (bytes : ByteArray) (maxL : Nat) (ret : Option FieldType) (n : Nat) : Prop :=
  (Cond.static y ∈ lw_all ∧ Cond.initialized y.cls ∈ lw_all ∧ Cond.code y bytes maxL ret ∈ lw_all) ∧ (y.cls ≠ "java/lang/invoke/MethodHandle" ∧ y.cls ≠ "java/lang/invoke/VarHandle" ∧ (parseMethodDescriptor y.desc).map (fun d => d.parameters.length) = some n)
theorem gdin {w : Cond} (h : w ∈ lw_all) : w ∈ lw_all ∧ ((w.onTables && w.keeps) = true ∨ ∃ ty, w = .arrayClass ty) := lw_all_good w h
theorem gVd {own C : String} {idx n maxL : Nat} {y : MethodName} {bytes : ByteArray} {ret : Option FieldType} (hl : Cond.methodLink own idx y ∈ lw_all) (h : TV C y bytes maxL ret n) : GoodIn lw_all (wsV own idx C y (wz y bytes maxL ret)) := by
  intro w hw
  refine gdin ?_
  simp only [wsV, wz, List.mem_append, List.mem_cons, List.not_mem_nil, or_false] at hw
  rcases hw with (rfl | rfl | rfl | rfl) | rfl | hw
  · exact hl
  · exact h.1.1
  · exact h.1.2.1
  · exact h.1.2.2.1
  · exact h.1.2.2.2
  · exact hw
theorem gSd {own : String} {idx n maxL : Nat} {y : MethodName} {bytes : ByteArray} {ret : Option FieldType} (hl : Cond.methodLink own idx y ∈ lw_all) (h : TS y bytes maxL ret n) : GoodIn lw_all (va_wsS own idx y (wz y bytes maxL ret)) := by
  intro w hw
  refine gdin ?_
  simp only [va_wsS, wz, List.mem_append, List.mem_cons, List.not_mem_nil, or_false] at hw
  rcases hw with (rfl | rfl | rfl) | rfl | hw
  · exact hl
  · exact h.1.1
  · exact h.1.2.1
  · exact h.1.2.2
  · exact hw
def PuI (y : MethodName) (bytes : ByteArray) (maxL : Nat) (ret : Option FieldType) (fr lo : Nat) (g : G5) (av : List Value) (cs : va_W) (v : Int32) : Prop :=
  ∀ l, Met l y (wz y bytes maxL ret) { frames := fr, cells := 0, slots := 0, locals := lo } (va_Pc av (fun U => PP g cs U.heap ∧ KK g U)) (vp_Si (fun r => r = v)) 0 0 (fun _ => False)
def PuL (y : MethodName) (bytes : ByteArray) (maxL : Nat) (ret : Option FieldType) (fr lo : Nat) (g : G5) (av : List Value) (cs : va_W) (v : Int64) : Prop :=
  ∀ l, Met l y (wz y bytes maxL ret) { frames := fr, cells := 0, slots := 0, locals := lo } (va_Pc av (fun U => PP g cs U.heap ∧ KK g U)) (vp_Sl (fun r => r = v)) 0 0 (fun _ => False)
def PuD (y : MethodName) (bytes : ByteArray) (maxL : Nat) (ret : Option FieldType) (fr lo : Nat) (g : G5) (av : List Value) (cs : va_W) (v : UInt64) : Prop :=
  ∀ l, Met l y (wz y bytes maxL ret) { frames := fr, cells := 0, slots := 0, locals := lo } (va_Pc av (fun U => PP g cs U.heap ∧ KK g U)) (vp_Sd (fun r => r = v)) 0 0 (fun _ => False)
abbrev MuB {S : Type} (g : G5) (A : Nat → Prop) (cs1 : S → va_W) : S → State → Prop := fun u t => PP g (cs1 u) t.heap ∧ KK g t ∧ va_D A (cs1 u)
def MuI {S : Type} (y : MethodName) (bytes : ByteArray) (maxL : Nat) (ret : Option FieldType) (fr lo : Nat) (g : G5) (av : List Value) (cs0 : va_W) (post : Int32 → S → Prop) (cs1 : S → va_W) : Prop :=
  ∀ l sz, Met l y (wz y bytes maxL ret) { frames := fr, cells := 0, slots := 0, locals := lo } (va_Pc av (fun U => U.heap.size = sz ∧ PP g cs0 U.heap ∧ KK g U ∧ va_D (fun _ => True) cs0)) (va_Qi post (MuB g (va_A cs0 sz) cs1) (va_A cs0 sz)) 0 0 (va_A cs0 sz)
def MuV {S : Type} (y : MethodName) (bytes : ByteArray) (maxL : Nat) (ret : Option FieldType) (fr lo : Nat) (g : G5) (av : List Value) (cs0 : va_W) (post : S → Prop) (cs1 : S → va_W) : Prop :=
  ∀ l sz, Met l y (wz y bytes maxL ret) { frames := fr, cells := 0, slots := 0, locals := lo } (va_Pc av (fun U => U.heap.size = sz ∧ PP g cs0 U.heap ∧ KK g U ∧ va_D (fun _ => True) cs0)) (va_Qv post (MuB g (va_A cs0 sz) cs1) (va_A cs0 sz)) 0 0 (va_A cs0 sz)
section ENTRY
variable {y : MethodName} {bytes : ByteArray} {maxL : Nat} {ret : Option FieldType} {fr lo : Nat} {g : G5} {av : List Value} {cs cs0 : va_W}
theorem PuI.of {v : Int32} (hy : plainName y.cls = true) (hn : (lg_sl av).length ≤ maxL)
    (body : ∀ (p : Program) (l : Launch) (e : Env) (s : State) (m : MethodId) (args : Array Value) (below : List Frame) (meth : Method) (c : Code), CallFix p m c bytes maxL s args lw_all y.cls → meth.sig.returnType = ret → meth.locks = false → PP g cs s.heap → KK g s → ∀ ls : Array Slot, lv_has ls maxL (lv_args 0 av) → W p l e { frames := fr, cells := 0, slots := 0, locals := lo } s m args below meth c s.heap [] 0 0 (MQ below (vp_Si (fun r => r = v)) args s 0 0 (fun _ => False)) (F0 m 0 ls [])) : PuI y bytes maxL ret fr lo g av cs v := by
  intro l
  refine Met.ofW (cc := bytes) (maxL := maxL) (ret := ret) hy rfl ?_
  intro p e s m args below meth c s₁ B hml hv
  obtain ⟨rfl, hP, hK⟩ := hv
  have hts0 := atoms_spec (ws := wz y bytes maxL ret) B.pre
  have hl := lv_entry av (n := maxL) hn
  rw [lg_entry_eq]
  exact body p l e s m _ below meth c ⟨B.exec, B.bytes, hml, findClass_of_methodNamed B.named, fun w h => hts0 w (List.mem_cons_of_mem _ h)⟩ B.returns B.notSynchronized hP hK _ hl
theorem PuL.of {v : Int64} (hy : plainName y.cls = true) (hn : (lg_sl av).length ≤ maxL)
    (body : ∀ (p : Program) (l : Launch) (e : Env) (s : State) (m : MethodId) (args : Array Value) (below : List Frame) (meth : Method) (c : Code), CallFix p m c bytes maxL s args lw_all y.cls → meth.sig.returnType = ret → meth.locks = false → PP g cs s.heap → KK g s → ∀ ls : Array Slot, lv_has ls maxL (lv_args 0 av) → W p l e { frames := fr, cells := 0, slots := 0, locals := lo } s m args below meth c s.heap [] 0 0 (MQ below (vp_Sl (fun r => r = v)) args s 0 0 (fun _ => False)) (F0 m 0 ls [])) : PuL y bytes maxL ret fr lo g av cs v := by
  intro l
  refine Met.ofW (cc := bytes) (maxL := maxL) (ret := ret) hy rfl ?_
  intro p e s m args below meth c s₁ B hml hv
  obtain ⟨rfl, hP, hK⟩ := hv
  have hts0 := atoms_spec (ws := wz y bytes maxL ret) B.pre
  have hl := lv_entry av (n := maxL) hn
  rw [lg_entry_eq]
  exact body p l e s m _ below meth c ⟨B.exec, B.bytes, hml, findClass_of_methodNamed B.named, fun w h => hts0 w (List.mem_cons_of_mem _ h)⟩ B.returns B.notSynchronized hP hK _ hl
theorem PuD.of {v : UInt64} (hy : plainName y.cls = true) (hn : (lg_sl av).length ≤ maxL)
    (body : ∀ (p : Program) (l : Launch) (e : Env) (s : State) (m : MethodId) (args : Array Value) (below : List Frame) (meth : Method) (c : Code), CallFix p m c bytes maxL s args lw_all y.cls → meth.sig.returnType = ret → meth.locks = false → PP g cs s.heap → KK g s → ∀ ls : Array Slot, lv_has ls maxL (lv_args 0 av) → W p l e { frames := fr, cells := 0, slots := 0, locals := lo } s m args below meth c s.heap [] 0 0 (MQ below (vp_Sd (fun r => r = v)) args s 0 0 (fun _ => False)) (F0 m 0 ls [])) : PuD y bytes maxL ret fr lo g av cs v := by
  intro l
  refine Met.ofW (cc := bytes) (maxL := maxL) (ret := ret) hy rfl ?_
  intro p e s m args below meth c s₁ B hml hv
  obtain ⟨rfl, hP, hK⟩ := hv
  have hts0 := atoms_spec (ws := wz y bytes maxL ret) B.pre
  have hl := lv_entry av (n := maxL) hn
  rw [lg_entry_eq]
  exact body p l e s m _ below meth c ⟨B.exec, B.bytes, hml, findClass_of_methodNamed B.named, fun w h => hts0 w (List.mem_cons_of_mem _ h)⟩ B.returns B.notSynchronized hP hK _ hl
theorem MuI.of {S : Type} {post : Int32 → S → Prop} {cs1 : S → va_W} (hy : plainName y.cls = true) (hn : (lg_sl av).length ≤ maxL)
    (body : ∀ (p : Program) (l : Launch) (e : Env) (s : State) (m : MethodId) (args : Array Value) (below : List Frame) (meth : Method) (c : Code), CallFix p m c bytes maxL s args lw_all y.cls → meth.sig.returnType = ret → meth.locks = false → PP g cs0 s.heap → KK g s → ∀ A : Nat → Prop, (∀ q, s.heap.size ≤ q → A q) → va_D A cs0 → va_S A s.heap s.heap [] → ∀ ls : Array Slot, lv_has ls maxL (lv_args 0 av) → W p l e { frames := fr, cells := 0, slots := 0, locals := lo } s m args below meth c s.heap [] 0 0 (MQ below (va_Qi post (MuB g A cs1) A) args s 0 0 A) (F0 m 0 ls [])) : MuI y bytes maxL ret fr lo g av cs0 post cs1 := by
  intro l sz
  refine Met.ofW (cc := bytes) (maxL := maxL) (ret := ret) hy rfl ?_
  intro p e s m args below meth c s₁ B hml hv
  obtain ⟨rfl, hsz, hP, hK, hD0⟩ := hv
  subst hsz
  have hts0 := atoms_spec (ws := wz y bytes maxL ret) B.pre
  have hl := lv_entry av (n := maxL) hn
  rw [lg_entry_eq]
  exact body p l e s m _ below meth c ⟨B.exec, B.bytes, hml, findClass_of_methodNamed B.named, fun w h => hts0 w (List.mem_cons_of_mem _ h)⟩ B.returns B.notSynchronized hP hK _ (fun q h => Or.inr h) hD0.self va_S.rf _ hl
theorem MuV.of {S : Type} {post : S → Prop} {cs1 : S → va_W} (hy : plainName y.cls = true) (hn : (lg_sl av).length ≤ maxL)
    (body : ∀ (p : Program) (l : Launch) (e : Env) (s : State) (m : MethodId) (args : Array Value) (below : List Frame) (meth : Method) (c : Code), CallFix p m c bytes maxL s args lw_all y.cls → meth.sig.returnType = ret → meth.locks = false → PP g cs0 s.heap → KK g s → ∀ A : Nat → Prop, (∀ q, s.heap.size ≤ q → A q) → va_D A cs0 → va_S A s.heap s.heap [] → ∀ ls : Array Slot, lv_has ls maxL (lv_args 0 av) → W p l e { frames := fr, cells := 0, slots := 0, locals := lo } s m args below meth c s.heap [] 0 0 (MQ below (va_Qv post (MuB g A cs1) A) args s 0 0 A) (F0 m 0 ls [])) : MuV y bytes maxL ret fr lo g av cs0 post cs1 := by
  intro l sz
  refine Met.ofW (cc := bytes) (maxL := maxL) (ret := ret) hy rfl ?_
  intro p e s m args below meth c s₁ B hml hv
  obtain ⟨rfl, hsz, hP, hK, hD0⟩ := hv
  subst hsz
  have hts0 := atoms_spec (ws := wz y bytes maxL ret) B.pre
  have hl := lv_entry av (n := maxL) hn
  rw [lg_entry_eq]
  exact body p l e s m _ below meth c ⟨B.exec, B.bytes, hml, findClass_of_methodNamed B.named, fun w h => hts0 w (List.mem_cons_of_mem _ h)⟩ B.returns B.notSynchronized hP hK _ (fun q h => Or.inr h) hD0.self va_S.rf _ hl
end ENTRY
section NV
variable {p : Program} {l : Launch} {e : Env} {R : Room} {s : State} {m : MethodId} {args : Array Value} {below : List Frame} {meth : Method} {c : Code} {H : Heap} {locs : List Loc} {cells slots : Nat} {Q : State → Prop}
variable {cc : ByteArray} {pc nL : Nat} {ls : Array Slot} {rest : List Value} {own : String} {A : Nat → Prop} {g : G5}
theorem PuI.ret {ty : FieldType} (X : CallFix p m c cc nL s args lw_all own) (hr : meth.sig.returnType = some ty) (hlk : meth.locks = false) {v w : Int32} (hdg : decode cc pc = .ok (.ireturn, 1)) (hn : narrow ty (.int w) = .int w) (hv : v = w) : W p l e R s m args below meth c s.heap [] 0 0 (MQ below (vp_Si (fun r => r = w)) args s 0 0 (fun _ => False)) (F0 m pc ls [.int v]) := by
  subst hv
  exact W.zret X.1 X.2.1 hr hn (fun t ht hW => ⟨v, rfl, rfl, ht⟩) (fun q h => absurd h List.not_mem_nil) hdg hlk
theorem PuL.ret (X : CallFix p m c cc nL s args lw_all own) (hr : meth.sig.returnType = some .long) (hlk : meth.locks = false) {v w : Int64} (hdg : decode cc pc = .ok (.lreturn, 1)) (hv : v = w) : W p l e R s m args below meth c s.heap [] 0 0 (MQ below (vp_Sl (fun r => r = w)) args s 0 0 (fun _ => False)) (F0 m pc ls [.long v]) := by
  subst hv
  exact W.lret X.1 X.2.1 hr (fun t ht hW => ⟨v, rfl, rfl, ht⟩) (fun q h => absurd h List.not_mem_nil) hdg hlk
theorem PuD.ret (X : CallFix p m c cc nL s args lw_all own) (hr : meth.sig.returnType = some .double) (hlk : meth.locks = false) {v w : UInt64} (hdg : decode cc pc = .ok (.dreturn, 1)) (hv : v = w) : W p l e R s m args below meth c s.heap [] 0 0 (MQ below (vp_Sd (fun r => r = w)) args s 0 0 (fun _ => False)) (F0 m pc ls [.double v]) := by
  subst hv
  exact W.dret X.1 X.2.1 hr (fun t ht hW => ⟨v, rfl, rfl, ht⟩) (fun q h => absurd h List.not_mem_nil) hdg hlk
theorem MuI.ret {S : Type} {post : Int32 → S → Prop} {cs1 : S → va_W} {ty : FieldType} (X : CallFix p m c cc nL s args lw_all own) (hr : meth.sig.returnType = some ty) (hlk : meth.locks = false) {v : Int32} (hK : KK g s) (hS : va_S A s.heap H locs) (hdg : decode cc pc = .ok (.ireturn, 1)) (hn : narrow ty (.int v) = .int v) (u : S) (hP : PP g (cs1 u) H) (hD : va_D A (cs1 u)) (hv : post v u) : W p l e R s m args below meth c H locs 0 0 (MQ below (va_Qi post (MuB g A cs1) A) args s 0 0 A) (F0 m pc ls [.int v]) :=
  W.zret X.1 X.2.1 hr hn (fun t ht hW => ⟨⟨v, u, rfl, hv, by rw [ht]; exact hP, va_K.moved hW.alike hK, hD⟩, hS.F ht⟩) hS.2.2 hdg hlk
theorem MuV.ret {S : Type} {post : S → Prop} {cs1 : S → va_W} (X : CallFix p m c cc nL s args lw_all own) (hr : meth.sig.returnType = none) (hlk : meth.locks = false) (hK : KK g s) (hS : va_S A s.heap H locs) (hdg : decode cc pc = .ok (.return_, 1)) (u : S) (hP : PP g (cs1 u) H) (hD : va_D A (cs1 u)) (hv : post u) : W p l e R s m args below meth c H locs 0 0 (MQ below (va_Qv post (MuB g A cs1) A) args s 0 0 A) (F0 m pc ls []) :=
  W.vret X.1 X.2.1 hr (fun t ht hW => ⟨⟨u, rfl, hv, by rw [ht]; exact hP, va_K.moved hW.alike hK, hD⟩, hS.F ht⟩) hS.2.2 hdg hlk
section CALL
variable {y : MethodName} {bytes : ByteArray} {maxL n idx : Nat} {ret : Option FieldType} {fr lo : Nat} {C : String} {b : Addr} {As st0 : List Value} {cs cs0 : va_W} {lv0 : List (Nat × Value)}
theorem pu_blind {av : List Value} : FrameBlind (va_Pc av (fun U => PP g cs U.heap ∧ KK g U)) := fun a U gg mk q => by
  obtain ⟨q0, qP, qK⟩ := q
  exact ⟨q0, qP, va_K.moved (u := U) (U := U.calling gg mk a) (Vm.Alike.refl U.vm) qK⟩
theorem mu_blind {av : List Value} {sz : Nat} : FrameBlind (va_Pc av (fun U => U.heap.size = sz ∧ PP g cs0 U.heap ∧ KK g U ∧ va_D (fun _ => True) cs0)) := fun a U gg mk q => by
  obtain ⟨q0, q1, qP, qK, qD⟩ := q
  exact ⟨q0, q1, qP, va_K.moved (u := U) (U := U.calling gg mk a) (Vm.Alike.refl U.vm) qK, qD⟩
theorem PuI.callV {v : Int32} (hM : PuI y bytes maxL ret fr lo g (.ref b :: As) cs v) (X : CallFix p m c cc nL s args lw_all own) (hdg : decode cc pc = .ok (.invokevirtual idx, 3)) (hl : Cond.methodLink own idx y ∈ lw_all) (hT : TV C y bytes maxL ret n) (hK : KK g s) (hP : PP g cs H) (q0 ci : Nat) {qc : vw_C} {fs : List Value} (he : cs[q0]? = some (b, .inr (ci, fs))) (hc : cls[ci]? = some qc) (hC : qc.1 = C) (hsz : lv_has ls nL lv0) (hR : (fr + 1 ≤ R.frames ∧ 8 + (maxL + 11) + lo ≤ R.locals) ∧ cells ≤ R.cells ∧ slots ≤ R.slots) (hn : As.length = n) (hst : st0 = As.reverse ++ .ref b :: rest) (hW : (rest.map fun v => v.category).sum ≤ 8)
    (kk : W p l e R s m args below meth c H locs cells slots Q (F0 m (pc + 3) ls (.int v :: rest))) : W p l e R s m args below meth c H locs cells slots Q (F0 m pc ls st0) := by
  subst hst
  subst hC
  exact vp_callSi (post := fun r => r = v) (W.runV (As := As) (rest := rest) X (hM l) (cwV n X.2.2.2.2 (gVd hl hT) rfl rfl rfl hT.2 hR.1) ⟨pu_blind, va_recv hK hP hc he, fun U hU hW => ⟨rfl, by rw [hU]; exact hP, va_K.moved hW.alike hK⟩⟩ rfl hn hsz.1 rfl (lv_room hW) hdg hR.2) (fun r hr => by subst hr; exact kk)
theorem PuL.callV {v : Int64} (hM : PuL y bytes maxL ret fr lo g (.ref b :: As) cs v) (X : CallFix p m c cc nL s args lw_all own) (hdg : decode cc pc = .ok (.invokevirtual idx, 3)) (hl : Cond.methodLink own idx y ∈ lw_all) (hT : TV C y bytes maxL ret n) (hK : KK g s) (hP : PP g cs H) (q0 ci : Nat) {qc : vw_C} {fs : List Value} (he : cs[q0]? = some (b, .inr (ci, fs))) (hc : cls[ci]? = some qc) (hC : qc.1 = C) (hsz : lv_has ls nL lv0) (hR : (fr + 1 ≤ R.frames ∧ 8 + (maxL + 11) + lo ≤ R.locals) ∧ cells ≤ R.cells ∧ slots ≤ R.slots) (hn : As.length = n) (hst : st0 = As.reverse ++ .ref b :: rest) (hW : (rest.map fun v => v.category).sum ≤ 8)
    (kk : W p l e R s m args below meth c H locs cells slots Q (F0 m (pc + 3) ls (.long v :: rest))) : W p l e R s m args below meth c H locs cells slots Q (F0 m pc ls st0) := by
  subst hst
  subst hC
  exact vp_callSl (post := fun r => r = v) (W.runV (As := As) (rest := rest) X (hM l) (cwV n X.2.2.2.2 (gVd hl hT) rfl rfl rfl hT.2 hR.1) ⟨pu_blind, va_recv hK hP hc he, fun U hU hW => ⟨rfl, by rw [hU]; exact hP, va_K.moved hW.alike hK⟩⟩ rfl hn hsz.1 rfl (lv_room hW) hdg hR.2) (fun r hr => by subst hr; exact kk)
theorem PuI.callS {v : Int32} (hM : PuI y bytes maxL ret fr lo g As cs v) (X : CallFix p m c cc nL s args lw_all own) (hdg : decode cc pc = .ok (.invokestatic idx, 3)) (hl : Cond.methodLink own idx y ∈ lw_all) (hT : TS y bytes maxL ret n) (hK : KK g s) (hP : PP g cs H) (hsz : lv_has ls nL lv0) (hR : (fr + 1 ≤ R.frames ∧ 8 + (maxL + 11) + lo ≤ R.locals) ∧ cells ≤ R.cells ∧ slots ≤ R.slots) (hn : As.length = n) (hst : st0 = As.reverse ++ rest) (hW : (rest.map fun v => v.category).sum ≤ 8)
    (kk : W p l e R s m args below meth c H locs cells slots Q (F0 m (pc + 3) ls (.int v :: rest))) : W p l e R s m args below meth c H locs cells slots Q (F0 m pc ls st0) := by
  subst hst
  exact vp_callSi (post := fun r => r = v) (W.runS (As := As) (rest := rest) X (hM l) (va_cwS n X.2.2.2.2 (gSd hl hT) rfl rfl rfl hT.2 hR.1) ⟨pu_blind, fun U hU hW => ⟨rfl, by rw [hU]; exact hP, va_K.moved hW.alike hK⟩⟩ rfl hn hsz.1 rfl (lv_room hW) hdg hR.2) (fun r hr => by subst hr; exact kk)
theorem PuL.callS {v : Int64} (hM : PuL y bytes maxL ret fr lo g As cs v) (X : CallFix p m c cc nL s args lw_all own) (hdg : decode cc pc = .ok (.invokestatic idx, 3)) (hl : Cond.methodLink own idx y ∈ lw_all) (hT : TS y bytes maxL ret n) (hK : KK g s) (hP : PP g cs H) (hsz : lv_has ls nL lv0) (hR : (fr + 1 ≤ R.frames ∧ 8 + (maxL + 11) + lo ≤ R.locals) ∧ cells ≤ R.cells ∧ slots ≤ R.slots) (hn : As.length = n) (hst : st0 = As.reverse ++ rest) (hW : (rest.map fun v => v.category).sum ≤ 8)
    (kk : W p l e R s m args below meth c H locs cells slots Q (F0 m (pc + 3) ls (.long v :: rest))) : W p l e R s m args below meth c H locs cells slots Q (F0 m pc ls st0) := by
  subst hst
  exact vp_callSl (post := fun r => r = v) (W.runS (As := As) (rest := rest) X (hM l) (va_cwS n X.2.2.2.2 (gSd hl hT) rfl rfl rfl hT.2 hR.1) ⟨pu_blind, fun U hU hW => ⟨rfl, by rw [hU]; exact hP, va_K.moved hW.alike hK⟩⟩ rfl hn hsz.1 rfl (lv_room hW) hdg hR.2) (fun r hr => by subst hr; exact kk)
theorem PuD.callS {v : UInt64} (hM : PuD y bytes maxL ret fr lo g As cs v) (X : CallFix p m c cc nL s args lw_all own) (hdg : decode cc pc = .ok (.invokestatic idx, 3)) (hl : Cond.methodLink own idx y ∈ lw_all) (hT : TS y bytes maxL ret n) (hK : KK g s) (hP : PP g cs H) (hsz : lv_has ls nL lv0) (hR : (fr + 1 ≤ R.frames ∧ 8 + (maxL + 11) + lo ≤ R.locals) ∧ cells ≤ R.cells ∧ slots ≤ R.slots) (hn : As.length = n) (hst : st0 = As.reverse ++ rest) (hW : (rest.map fun v => v.category).sum ≤ 8)
    (kk : W p l e R s m args below meth c H locs cells slots Q (F0 m (pc + 3) ls (.double v :: rest))) : W p l e R s m args below meth c H locs cells slots Q (F0 m pc ls st0) := by
  subst hst
  exact vp_callSd (post := fun r => r = v) (W.runS (As := As) (rest := rest) X (hM l) (va_cwS n X.2.2.2.2 (gSd hl hT) rfl rfl rfl hT.2 hR.1) ⟨pu_blind, fun U hU hW => ⟨rfl, by rw [hU]; exact hP, va_K.moved hW.alike hK⟩⟩ rfl hn hsz.1 rfl (lv_room hW) hdg hR.2) (fun r hr => by subst hr; exact kk)
/-- what a call of a method that changes cells needs of the caller's world: its cells (places isC), the rest (places isR) -/
theorem mu_pre {ws wr : va_W} (hK : KK g s) (hP : PP g ws H) (hD : va_D A ws) (isC : List Nat) (hnC : va_nd isC = true) (hC : isC.map (fun i => ws[i]?) = cs0.map some) : PP g cs0 H ∧ va_D (fun _ => True) cs0 := by
  have hD0 : va_D A cs0 := hD.sub isC hnC hC
  refine ⟨?_, hD0.weaken (fun _ _ _ _ => trivial)⟩
  intro k q hk
  have h1 : (isC.map (fun i => ws[i]?))[k]? = some (some q) := by rw [hC, List.getElem?_map, hk]; rfl
  rw [List.getElem?_map] at h1
  cases hi : isC[k]? with
  | none => rw [hi] at h1; cases h1
  | some i => rw [hi] at h1; exact hP i q (Option.some.inj h1)
theorem MuI.callV {S : Type} {post : Int32 → S → Prop} {cs1 : S → va_W} (hM : MuI y bytes maxL ret fr lo g (.ref b :: As) cs0 post cs1) (X : CallFix p m c cc nL s args lw_all own) (hdg : decode cc pc = .ok (.invokevirtual idx, 3)) (hl : Cond.methodLink own idx y ∈ lw_all) (hT : TV C y bytes maxL ret n) (hK : KK g s) {ws wr : va_W} (hP : PP g ws H) (hD : va_D A ws) (hS : va_S A s.heap H locs) (hA : ∀ q, s.heap.size ≤ q → A q) (isC isR : List Nat) (hnC : va_nd isC = true) (hC : isC.map (fun i => ws[i]?) = cs0.map some) (hRr : isR.map (fun i => ws[i]?) = wr.map some) (hn2 : va_nd isR = true) (hdis : ∀ i ∈ isR, i ∉ isC) (q0 ci : Nat) {qc : vw_C} {fs : List Value} (he : cs0[q0]? = some (b, .inr (ci, fs))) (hc : cls[ci]? = some qc) (hC2 : qc.1 = C) (hsz : lv_has ls nL lv0) (hR : (fr + 1 ≤ R.frames ∧ 8 + (maxL + 11) + lo ≤ R.locals) ∧ cells ≤ R.cells ∧ slots ≤ R.slots) (hn : As.length = n) (hst : st0 = As.reverse ++ .ref b :: rest) (hW : (rest.map fun v => v.category).sum ≤ 8)
    (kk : ∀ (r : Int32) (u : S) (H1 : Heap) (locs1 : List Loc), post r u → PP g (wr ++ cs1 u) H1 → va_D A (wr ++ cs1 u) → va_S A s.heap H1 locs1 → W p l e R s m args below meth c H1 locs1 cells slots Q (F0 m (pc + 3) ls (.int r :: rest))) : W p l e R s m args below meth c H locs cells slots Q (F0 m pc ls st0) := by
  subst hst
  subst hC2
  obtain ⟨hPc, hDc⟩ := mu_pre (wr := wr) hK hP hD isC hnC hC
  have hFc := va_free (wc := cs0) hD hS hA isC hC
  exact va_calli (va_runV (As := As) (rest := rest) X (hM l H.size) (cwV n X.2.2.2.2 (gVd hl hT) rfl rfl rfl hT.2 hR.1) ⟨mu_blind, va_recv hK hPc hc he, fun U hU hW => ⟨rfl, by rw [hU], by rw [hU]; exact hPc, va_K.moved hW.alike hK, hDc⟩⟩ rfl hn hsz.1 rfl (lv_room hW) hdg hR.2) hS (fun q _ h => hFc q h) hFc (fun r u t H1 locs1 ht hvm hw hB hz1 hk1 hS1 => by
    obtain ⟨hP1, hK1, hD1⟩ := hB
    rw [ht] at hP1
    obtain ⟨hP2, hD2⟩ := va_join (wr := wr) (w1 := cs1 u) hP hD isC isR hC hRr hn2 hdis hk1 hFc hP1 hD1
    exact kk r u H1 locs1 hw hP2 hD2 hS1)
theorem MuV.callV {S : Type} {post : S → Prop} {cs1 : S → va_W} (hM : MuV y bytes maxL ret fr lo g (.ref b :: As) cs0 post cs1) (X : CallFix p m c cc nL s args lw_all own) (hdg : decode cc pc = .ok (.invokevirtual idx, 3)) (hl : Cond.methodLink own idx y ∈ lw_all) (hT : TV C y bytes maxL ret n) (hK : KK g s) {ws wr : va_W} (hP : PP g ws H) (hD : va_D A ws) (hS : va_S A s.heap H locs) (hA : ∀ q, s.heap.size ≤ q → A q) (isC isR : List Nat) (hnC : va_nd isC = true) (hC : isC.map (fun i => ws[i]?) = cs0.map some) (hRr : isR.map (fun i => ws[i]?) = wr.map some) (hn2 : va_nd isR = true) (hdis : ∀ i ∈ isR, i ∉ isC) (q0 ci : Nat) {qc : vw_C} {fs : List Value} (he : cs0[q0]? = some (b, .inr (ci, fs))) (hc : cls[ci]? = some qc) (hC2 : qc.1 = C) (hsz : lv_has ls nL lv0) (hR : (fr + 1 ≤ R.frames ∧ 8 + (maxL + 11) + lo ≤ R.locals) ∧ cells ≤ R.cells ∧ slots ≤ R.slots) (hn : As.length = n) (hst : st0 = As.reverse ++ .ref b :: rest) (hW : (rest.map fun v => v.category).sum ≤ 8)
    (kk : ∀ (u : S) (H1 : Heap) (locs1 : List Loc), post u → PP g (wr ++ cs1 u) H1 → va_D A (wr ++ cs1 u) → va_S A s.heap H1 locs1 → W p l e R s m args below meth c H1 locs1 cells slots Q (F0 m (pc + 3) ls rest)) : W p l e R s m args below meth c H locs cells slots Q (F0 m pc ls st0) := by
  subst hst
  subst hC2
  obtain ⟨hPc, hDc⟩ := mu_pre (wr := wr) hK hP hD isC hnC hC
  have hFc := va_free (wc := cs0) hD hS hA isC hC
  exact va_callv (va_runV (As := As) (rest := rest) X (hM l H.size) (cwV n X.2.2.2.2 (gVd hl hT) rfl rfl rfl hT.2 hR.1) ⟨mu_blind, va_recv hK hPc hc he, fun U hU hW => ⟨rfl, by rw [hU], by rw [hU]; exact hPc, va_K.moved hW.alike hK, hDc⟩⟩ rfl hn hsz.1 rfl (lv_room hW) hdg hR.2) hS (fun q _ h => hFc q h) hFc (fun u t H1 locs1 ht hvm hw hB hz1 hk1 hS1 => by
    obtain ⟨hP1, hK1, hD1⟩ := hB
    rw [ht] at hP1
    obtain ⟨hP2, hD2⟩ := va_join (wr := wr) (w1 := cs1 u) hP hD isC isR hC hRr hn2 hdis hk1 hFc hP1 hD1
    exact kk u H1 locs1 hw hP2 hD2 hS1)
end CALL
end NV
