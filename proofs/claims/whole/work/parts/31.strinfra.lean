/-! methods that read the program's texts: what they need of the start -/
abbrev lenS : List Nat := [6, 6, 8, 6]
abbrev bytS : List (List Int32) := [[103, 114, 101, 101, 100, 121], [108, 121, 110, 100, 111, 110], [110, 101, 99, 107, 108, 97, 99, 101], [106, 111, 105, 110, 101, 100]]
def namS : List (List Nat) := [[103, 114, 101, 101, 100, 121], [108, 121, 110, 100, 111, 110], [110, 101, 99, 107, 108, 97, 99, 101], [106, 111, 105, 110, 101, 100]]
def chS (i j : Nat) : Nat := (namS.getD i []).getD j 0
theorem chS_ok : ∀ i, i < 4 → ∀ j, j < lenS.getD i 0 → (((bytS.getD i []).getD j 0 &&& nI 255).toUInt32 % 65536).toInt32 = nI (chS i j) ∧ chS i j < 128 := by decide +kernel
def SEa (adK adV : Nat → Nat) (fm : Value) (A : Nat → Prop) (U : State) (H : Heap) : Prop :=
  vk_S 4 lenS bytS adK adV A U H ∧ va_Z "java/lang/String" "COMPACT_STRINGS" "Z" (.int 1) A U H ∧ va_Z "jdk/internal/util/Preconditions" "SIOOBE_FORMATTER" "Ljava/util/function/BiFunction;" fm A U H ∧ (fm = .null ∨ ∃ t, fm = .ref t) ∧
  (vk_R RX2 48 "greedy" (adK 0) U ∧ vk_R RX2 50 "lyndon" (adK 1) U ∧ vk_R RX2 52 "necklace" (adK 2) U ∧ vk_R RX2 54 "joined" (adK 3) U) ∧
  (vk_R RX12 163 "greedy" (adK 0) U ∧ vk_R RX12 168 "lyndon" (adK 1) U ∧ vk_R RX12 169 "necklace" (adK 2) U ∧ vk_R RX12 171 "joined" (adK 3) U)
abbrev SE0 (adK adV : Nat → Nat) (fm : Value) (U : State) : Prop := SEa adK adV fm (fun _ => False) U U.heap
theorem SEa.warm {adK adV : Nat → Nat} {fm : Value} {A : Nat → Prop} {s U : State} {H : Heap} (hW : s.WarmedH U.vm) (h : SEa adK adV fm A s H) : SEa adK adV fm A U H := by
  obtain ⟨h1, h2, h3, h4, ⟨a1, a2, a3, a4⟩, ⟨b1, b2, b3, b4⟩⟩ := h
  exact ⟨h1.moved hW.alike, h2.moved hW.alike, h3.moved hW.alike, h4, ⟨a1.warm hW, a2.warm hW, a3.warm hW, a4.warm hW⟩, ⟨b1.warm hW, b2.warm hW, b3.warm hW, b4.warm hW⟩⟩
theorem SEa.same {adK adV : Nat → Nat} {fm : Value} {A : Nat → Prop} {u U : State} {H : Heap} (hv : U.vm = u.vm) (h : SEa adK adV fm A u H) : SEa adK adV fm A U H := by
  obtain ⟨h1, h2, h3, h4, ⟨a1, a2, a3, a4⟩, ⟨b1, b2, b3, b4⟩⟩ := h
  have ha : u.vm.Alike U.vm := by rw [hv]; exact Vm.Alike.refl _
  exact ⟨h1.moved ha, h2.moved ha, h3.moved ha, h4, ⟨a1.same hv, a2.same hv, a3.same hv, a4.same hv⟩, ⟨b1.same hv, b2.same hv, b3.same hv, b4.same hv⟩⟩
theorem SEa.kept {adK adV : Nat → Nat} {fm : Value} {A : Nat → Prop} {U : State} {H H1 : Heap} (h : SEa adK adV fm A U H) (hq : ∀ a : Nat, a < H.size → ¬ A a → H1[a]? = H[a]?) : SEa adK adV fm A U H1 := by
  obtain ⟨h1, h2, h3, h4⟩ := h
  exact ⟨h1.kept hq, h2.kept hq, h3.kept hq, h4⟩
theorem SEa.narrow {adK adV : Nat → Nat} {fm : Value} {A B : Nat → Prop} {U : State} {H : Heap} (h : SEa adK adV fm A U H) (hAB : ∀ q, B q → A q) : SEa adK adV fm B U H := by
  obtain ⟨h1, h2, h3, h4⟩ := h
  exact ⟨h1.narrow hAB, h2.narrow hAB, h3.narrow hAB, h4⟩
def PuE (y : MethodName) (bytes : ByteArray) (maxL : Nat) (ret : Option FieldType) (fr lo : Nat) (g : G5) (adK adV : Nat → Nat) (fm : Value) (av : List Value) (cs : va_W) (v : Int32) : Prop :=
  ∀ l, Met l y (wz y bytes maxL ret) { frames := fr, cells := 0, slots := 0, locals := lo } (va_Pc av (fun U => PP g cs U.heap ∧ KK g U ∧ SE0 adK adV fm U)) (vp_Si (fun r => r = v)) 0 0 (fun _ => False)
def PuVE (y : MethodName) (bytes : ByteArray) (maxL : Nat) (ret : Option FieldType) (fr lo : Nat) (g : G5) (adK adV : Nat → Nat) (fm : Value) (av : List Value) (cs : va_W) : Prop :=
  ∀ l, Met l y (wz y bytes maxL ret) { frames := fr, cells := 0, slots := 0, locals := lo } (va_Pc av (fun U => PP g cs U.heap ∧ KK g U ∧ SE0 adK adV fm U)) (va_Sv (fun _ => True)) 0 0 (fun _ => False)
def PuRE (y : MethodName) (bytes : ByteArray) (maxL : Nat) (ret : Option FieldType) (fr lo : Nat) (g : G5) (adK adV : Nat → Nat) (fm : Value) (av : List Value) (cs : va_W) (i : Nat) : Prop :=
  ∀ l, Met l y (wz y bytes maxL ret) { frames := fr, cells := 0, slots := 0, locals := lo } (va_Pc av (fun U => PP g cs U.heap ∧ KK g U ∧ SE0 adK adV fm U)) (va_Sr (fun k => k = i) (fun k => .ref (adK k))) 0 0 (fun _ => False)
def MuIE {S : Type} (y : MethodName) (bytes : ByteArray) (maxL : Nat) (ret : Option FieldType) (fr lo : Nat) (g : G5) (adK adV : Nat → Nat) (fm : Value) (av : List Value) (cs0 : va_W) (post : Int32 → S → Prop) (cs1 : S → va_W) : Prop :=
  ∀ l sz, Met l y (wz y bytes maxL ret) { frames := fr, cells := 0, slots := 0, locals := lo } (va_Pc av (fun U => U.heap.size = sz ∧ PP g cs0 U.heap ∧ KK g U ∧ va_D (fun _ => True) cs0 ∧ SEa adK adV fm (va_A cs0 sz) U U.heap)) (va_Qi post (MuB g (va_A cs0 sz) cs1) (va_A cs0 sz)) 0 0 (va_A cs0 sz)
section ENTRY
variable {y : MethodName} {bytes : ByteArray} {maxL : Nat} {ret : Option FieldType} {fr lo : Nat} {g : G5} {av : List Value} {cs cs0 : va_W} {adK adV : Nat → Nat} {fm : Value}
theorem PuE.of {v : Int32} (hy : plainFor y = true) (hn : (lg_sl av).length ≤ maxL)
    (body : ∀ (p : Program) (l : Launch) (e : Env) (s : State) (m : MethodId) (args : Array Value) (below : List Frame) (meth : Method) (c : Code), CallFix p m c bytes maxL s args lw_all y.cls → meth.sig.returnType = ret → meth.locks = false → PP g cs s.heap → KK g s → SE0 adK adV fm s → ∀ ls : Array Slot, lv_has ls maxL (lv_args 0 av) → W p l e { frames := fr, cells := 0, slots := 0, locals := lo } s m args below meth c s.heap [] 0 0 (MQ below (vp_Si (fun r => r = v)) args s 0 0 (fun _ => False)) (F0 m 0 ls [])) : PuE y bytes maxL ret fr lo g adK adV fm av cs v := by
  intro l
  refine va_MetF (cc := bytes) (maxL := maxL) (ret := ret) hy rfl ?_
  intro p e s m args below meth c s₁ B hml hv
  obtain ⟨rfl, hP, hK, hE⟩ := hv
  have hts0 := atoms_spec (ws := wz y bytes maxL ret) B.pre
  have hl := lv_entry av (n := maxL) hn
  rw [lg_entry_eq]
  exact body p l e s m _ below meth c ⟨B.exec, B.bytes, hml, findClass_of_methodNamed B.named, fun w h => hts0 w (List.mem_cons_of_mem _ h)⟩ B.returns B.notSynchronized hP hK hE _ hl
theorem PuVE.of (hy : plainFor y = true) (hn : (lg_sl av).length ≤ maxL)
    (body : ∀ (p : Program) (l : Launch) (e : Env) (s : State) (m : MethodId) (args : Array Value) (below : List Frame) (meth : Method) (c : Code), CallFix p m c bytes maxL s args lw_all y.cls → meth.sig.returnType = ret → meth.locks = false → PP g cs s.heap → KK g s → SE0 adK adV fm s → ∀ ls : Array Slot, lv_has ls maxL (lv_args 0 av) → W p l e { frames := fr, cells := 0, slots := 0, locals := lo } s m args below meth c s.heap [] 0 0 (MQ below (va_Sv (fun _ => True)) args s 0 0 (fun _ => False)) (F0 m 0 ls [])) : PuVE y bytes maxL ret fr lo g adK adV fm av cs := by
  intro l
  refine va_MetF (cc := bytes) (maxL := maxL) (ret := ret) hy rfl ?_
  intro p e s m args below meth c s₁ B hml hv
  obtain ⟨rfl, hP, hK, hE⟩ := hv
  have hts0 := atoms_spec (ws := wz y bytes maxL ret) B.pre
  have hl := lv_entry av (n := maxL) hn
  rw [lg_entry_eq]
  exact body p l e s m _ below meth c ⟨B.exec, B.bytes, hml, findClass_of_methodNamed B.named, fun w h => hts0 w (List.mem_cons_of_mem _ h)⟩ B.returns B.notSynchronized hP hK hE _ hl
theorem PuRE.of {i : Nat} (hy : plainFor y = true) (hn : (lg_sl av).length ≤ maxL)
    (body : ∀ (p : Program) (l : Launch) (e : Env) (s : State) (m : MethodId) (args : Array Value) (below : List Frame) (meth : Method) (c : Code), CallFix p m c bytes maxL s args lw_all y.cls → meth.sig.returnType = ret → meth.locks = false → PP g cs s.heap → KK g s → SE0 adK adV fm s → ∀ ls : Array Slot, lv_has ls maxL (lv_args 0 av) → W p l e { frames := fr, cells := 0, slots := 0, locals := lo } s m args below meth c s.heap [] 0 0 (MQ below (va_Sr (fun k => k = i) (fun k => .ref (adK k))) args s 0 0 (fun _ => False)) (F0 m 0 ls [])) : PuRE y bytes maxL ret fr lo g adK adV fm av cs i := by
  intro l
  refine va_MetF (cc := bytes) (maxL := maxL) (ret := ret) hy rfl ?_
  intro p e s m args below meth c s₁ B hml hv
  obtain ⟨rfl, hP, hK, hE⟩ := hv
  have hts0 := atoms_spec (ws := wz y bytes maxL ret) B.pre
  have hl := lv_entry av (n := maxL) hn
  rw [lg_entry_eq]
  exact body p l e s m _ below meth c ⟨B.exec, B.bytes, hml, findClass_of_methodNamed B.named, fun w h => hts0 w (List.mem_cons_of_mem _ h)⟩ B.returns B.notSynchronized hP hK hE _ hl
theorem MuIE.of {S : Type} {post : Int32 → S → Prop} {cs1 : S → va_W} (hy : plainName y.cls = true) (hn : (lg_sl av).length ≤ maxL)
    (body : ∀ (p : Program) (l : Launch) (e : Env) (s : State) (m : MethodId) (args : Array Value) (below : List Frame) (meth : Method) (c : Code), CallFix p m c bytes maxL s args lw_all y.cls → meth.sig.returnType = ret → meth.locks = false → PP g cs0 s.heap → KK g s → ∀ A : Nat → Prop, (∀ q, s.heap.size ≤ q → A q) → va_D A cs0 → va_S A s.heap s.heap [] → SEa adK adV fm A s s.heap → ∀ ls : Array Slot, lv_has ls maxL (lv_args 0 av) → W p l e { frames := fr, cells := 0, slots := 0, locals := lo } s m args below meth c s.heap [] 0 0 (MQ below (va_Qi post (MuB g A cs1) A) args s 0 0 A) (F0 m 0 ls [])) : MuIE y bytes maxL ret fr lo g adK adV fm av cs0 post cs1 := by
  intro l sz
  refine Met.ofW (cc := bytes) (maxL := maxL) (ret := ret) hy rfl ?_
  intro p e s m args below meth c s₁ B hml hv
  obtain ⟨rfl, hsz, hP, hK, hD0, hE⟩ := hv
  subst hsz
  have hts0 := atoms_spec (ws := wz y bytes maxL ret) B.pre
  have hl := lv_entry av (n := maxL) hn
  rw [lg_entry_eq]
  exact body p l e s m _ below meth c ⟨B.exec, B.bytes, hml, findClass_of_methodNamed B.named, fun w h => hts0 w (List.mem_cons_of_mem _ h)⟩ B.returns B.notSynchronized hP hK _ (fun q h => Or.inr h) hD0.self va_S.rf hE _ hl
end ENTRY
section NV
variable {p : Program} {l : Launch} {e : Env} {R : Room} {s : State} {m : MethodId} {args : Array Value} {below : List Frame} {meth : Method} {c : Code} {H : Heap} {locs : List Loc} {cells slots : Nat} {Q : State → Prop}
variable {cc : ByteArray} {pc nL : Nat} {ls : Array Slot} {rest : List Value} {own : String} {A : Nat → Prop} {g : G5}
variable {y : MethodName} {bytes : ByteArray} {maxL n idx : Nat} {ret : Option FieldType} {fr lo : Nat} {C : String} {b : Addr} {As st0 : List Value} {cs cs0 : va_W} {lv0 : List (Nat × Value)} {adK adV : Nat → Nat} {fm : Value}
theorem PuVE.done (X : CallFix p m c cc nL s args lw_all own) (hr : meth.sig.returnType = none) (hlk : meth.locks = false) (hdg : decode cc pc = .ok (.return_, 1)) : W p l e R s m args below meth c s.heap [] 0 0 (MQ below (va_Sv (fun _ => True)) args s 0 0 (fun _ => False)) (F0 m pc ls []) :=
  W.vret X.1 X.2.1 hr (fun t ht hW => ⟨rfl, trivial, ht⟩) (fun q h => absurd h List.not_mem_nil) hdg hlk
theorem PuRE.done {i j : Nat} (X : CallFix p m c cc nL s args lw_all own) (hr : meth.sig.returnType = some (.object "java/lang/String")) (hlk : meth.locks = false) (hdg : decode cc pc = .ok (.areturn, 1)) (hj : j = i) : W p l e R s m args below meth c s.heap [] 0 0 (MQ below (va_Sr (fun k => k = i) (fun k => .ref (adK k))) args s 0 0 (fun _ => False)) (F0 m pc ls [.ref (adK j)]) := by
  subst hj
  exact W.aret X.1 X.2.1 hr (Or.inl ⟨_, rfl⟩) (Or.inr ⟨_, rfl⟩) (fun t ht hW => ⟨j, rfl, rfl, ht⟩) (fun q h => absurd h List.not_mem_nil) hdg hlk
theorem pe_blind {av : List Value} : FrameBlind (va_Pc av (fun U => PP g cs U.heap ∧ KK g U ∧ SE0 adK adV fm U)) := fun a U gg mk q => by
  obtain ⟨q0, qP, qK, qE⟩ := q
  exact ⟨q0, qP, va_K.moved (u := U) (U := U.calling gg mk a) (Vm.Alike.refl U.vm) qK, SEa.same (u := U) rfl qE⟩
theorem me_blind {av : List Value} {sz : Nat} : FrameBlind (va_Pc av (fun U => U.heap.size = sz ∧ PP g cs0 U.heap ∧ KK g U ∧ va_D (fun _ => True) cs0 ∧ SEa adK adV fm (va_A cs0 sz) U U.heap)) := fun a U gg mk q => by
  obtain ⟨q0, q1, qP, qK, qD, qE⟩ := q
  exact ⟨q0, q1, qP, va_K.moved (u := U) (U := U.calling gg mk a) (Vm.Alike.refl U.vm) qK, qD, SEa.same (u := U) rfl qE⟩
/-- what is needed of the texts at a heap H that is reached -/
abbrev SEh (adK adV : Nat → Nat) (fm : Value) (s : State) (H : Heap) : Prop := SEa adK adV fm (fun _ => False) s H
theorem PuE.callV {v : Int32} (hM : PuE y bytes maxL ret fr lo g adK adV fm (.ref b :: As) cs v) (X : CallFix p m c cc nL s args lw_all own) (hdg : decode cc pc = .ok (.invokevirtual idx, 3)) (hl : Cond.methodLink own idx y ∈ lw_all) (hT : TV C y bytes maxL ret n) (hK : KK g s) (hP : PP g cs H) (hE : SEh adK adV fm s H) (hrv : ∃ cell : Cell, H[b]? = some cell ∧ cell.vm.isStatics = false ∧ s.vm.findClass C = some cell.cls) (hsz : lv_has ls nL lv0) (hR : (fr + 1 ≤ R.frames ∧ 8 + (maxL + 11) + lo ≤ R.locals) ∧ cells ≤ R.cells ∧ slots ≤ R.slots) (hn : As.length = n) (hst : st0 = As.reverse ++ .ref b :: rest) (hW : (rest.map fun v => v.category).sum ≤ 8)
    (kk : W p l e R s m args below meth c H locs cells slots Q (F0 m (pc + 3) ls (.int v :: rest))) : W p l e R s m args below meth c H locs cells slots Q (F0 m pc ls st0) := by
  subst hst
  exact vp_callSi (post := fun r => r = v) (W.runV (As := As) (rest := rest) X (hM l) (cwV n X.2.2.2.2 (gVd hl hT) rfl rfl rfl hT.2 hR.1) ⟨pe_blind, hrv, fun U hU hW => ⟨rfl, by rw [hU]; exact hP, va_K.moved hW.alike hK, by show SEa adK adV fm (fun _ => False) U U.heap; rw [hU]; exact hE.warm hW⟩⟩ rfl hn hsz.1 rfl (lv_room hW) hdg hR.2) (fun r hr => by subst hr; exact kk)
theorem PuE.callS {v : Int32} (hM : PuE y bytes maxL ret fr lo g adK adV fm As cs v) (X : CallFix p m c cc nL s args lw_all own) (hdg : decode cc pc = .ok (.invokestatic idx, 3)) (hl : Cond.methodLink own idx y ∈ lw_all) (hT : TS y bytes maxL ret n) (hK : KK g s) (hP : PP g cs H) (hE : SEh adK adV fm s H) (hsz : lv_has ls nL lv0) (hR : (fr + 1 ≤ R.frames ∧ 8 + (maxL + 11) + lo ≤ R.locals) ∧ cells ≤ R.cells ∧ slots ≤ R.slots) (hn : As.length = n) (hst : st0 = As.reverse ++ rest) (hW : (rest.map fun v => v.category).sum ≤ 8)
    (kk : W p l e R s m args below meth c H locs cells slots Q (F0 m (pc + 3) ls (.int v :: rest))) : W p l e R s m args below meth c H locs cells slots Q (F0 m pc ls st0) := by
  subst hst
  exact vp_callSi (post := fun r => r = v) (W.runS (As := As) (rest := rest) X (hM l) (va_cwS n X.2.2.2.2 (gSd hl hT) rfl rfl rfl hT.2 hR.1) ⟨pe_blind, fun U hU hW => ⟨rfl, by rw [hU]; exact hP, va_K.moved hW.alike hK, by show SEa adK adV fm (fun _ => False) U U.heap; rw [hU]; exact hE.warm hW⟩⟩ rfl hn hsz.1 rfl (lv_room hW) hdg hR.2) (fun r hr => by subst hr; exact kk)
theorem PuVE.callS (hM : PuVE y bytes maxL ret fr lo g adK adV fm As cs) (X : CallFix p m c cc nL s args lw_all own) (hdg : decode cc pc = .ok (.invokestatic idx, 3)) (hl : Cond.methodLink own idx y ∈ lw_all) (hT : TS y bytes maxL ret n) (hK : KK g s) (hP : PP g cs H) (hE : SEh adK adV fm s H) (hsz : lv_has ls nL lv0) (hR : (fr + 1 ≤ R.frames ∧ 8 + (maxL + 11) + lo ≤ R.locals) ∧ cells ≤ R.cells ∧ slots ≤ R.slots) (hn : As.length = n) (hst : st0 = As.reverse ++ rest) (hW : (rest.map fun v => v.category).sum ≤ 8)
    (kk : W p l e R s m args below meth c H locs cells slots Q (F0 m (pc + 3) ls rest)) : W p l e R s m args below meth c H locs cells slots Q (F0 m pc ls st0) := by
  subst hst
  exact va_csv (post := fun _ => True) (W.runS (As := As) (rest := rest) X (hM l) (va_cwS n X.2.2.2.2 (gSd hl hT) rfl rfl rfl hT.2 hR.1) ⟨pe_blind, fun U hU hW => ⟨rfl, by rw [hU]; exact hP, va_K.moved hW.alike hK, by show SEa adK adV fm (fun _ => False) U U.heap; rw [hU]; exact hE.warm hW⟩⟩ rfl hn hsz.1 rfl (lv_room hW) hdg hR.2) (fun _ => kk)
theorem PuRE.callS {i : Nat} (hM : PuRE y bytes maxL ret fr lo g adK adV fm As cs i) (X : CallFix p m c cc nL s args lw_all own) (hdg : decode cc pc = .ok (.invokestatic idx, 3)) (hl : Cond.methodLink own idx y ∈ lw_all) (hT : TS y bytes maxL ret n) (hK : KK g s) (hP : PP g cs H) (hE : SEh adK adV fm s H) (hsz : lv_has ls nL lv0) (hR : (fr + 1 ≤ R.frames ∧ 8 + (maxL + 11) + lo ≤ R.locals) ∧ cells ≤ R.cells ∧ slots ≤ R.slots) (hn : As.length = n) (hst : st0 = As.reverse ++ rest) (hW : (rest.map fun v => v.category).sum ≤ 8)
    (kk : W p l e R s m args below meth c H locs cells slots Q (F0 m (pc + 3) ls (.ref (adK i) :: rest))) : W p l e R s m args below meth c H locs cells slots Q (F0 m pc ls st0) := by
  subst hst
  exact va_csr (post := fun k => k = i) (ad := fun k => .ref (adK k)) (W.runS (As := As) (rest := rest) X (hM l) (va_cwS n X.2.2.2.2 (gSd hl hT) rfl rfl rfl hT.2 hR.1) ⟨pe_blind, fun U hU hW => ⟨rfl, by rw [hU]; exact hP, va_K.moved hW.alike hK, by show SEa adK adV fm (fun _ => False) U U.heap; rw [hU]; exact hE.warm hW⟩⟩ rfl hn hsz.1 rfl (lv_room hW) hdg hR.2) (fun k hk => by subst hk; exact kk)
end NV
