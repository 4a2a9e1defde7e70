/-! a pure method that answers a reference -/
def PuR (y : MethodName) (bytes : ByteArray) (maxL : Nat) (ret : Option FieldType) (fr lo : Nat) (g : G5) (av : List Value) (cs : va_W) (v : Nat) : Prop :=
  ∀ l, Met l y (wz y bytes maxL ret) { frames := fr, cells := 0, slots := 0, locals := lo } (va_Pc av (fun U => PP g cs U.heap ∧ KK g U)) (va_Sr (fun k => k = v) (fun k => .ref k)) 0 0 (fun _ => False)
theorem PuR.of {y : MethodName} {bytes : ByteArray} {maxL : Nat} {ret : Option FieldType} {fr lo : Nat} {g : G5} {av : List Value} {cs : va_W} {v : Nat} (hy : plainName y.cls = true) (hn : (lg_sl av).length ≤ maxL)
    (body : ∀ (p : Program) (l : Launch) (e : Env) (s : State) (m : MethodId) (args : Array Value) (below : List Frame) (meth : Method) (c : Code), CallFix p m c bytes maxL s args lw_all y.cls → meth.sig.returnType = ret → meth.locks = false → PP g cs s.heap → KK g s → ∀ ls : Array Slot, lv_has ls maxL (lv_args 0 av) → W p l e { frames := fr, cells := 0, slots := 0, locals := lo } s m args below meth c s.heap [] 0 0 (MQ below (va_Sr (fun k => k = v) (fun k => .ref k)) args s 0 0 (fun _ => False)) (F0 m 0 ls [])) : PuR y bytes maxL ret fr lo g av cs v := by
  intro l
  refine Met.ofW (cc := bytes) (maxL := maxL) (ret := ret) hy rfl ?_
  intro p e s m args below meth c s₁ B hml hv
  obtain ⟨rfl, hP, hK⟩ := hv
  have hts0 := atoms_spec (ws := wz y bytes maxL ret) B.pre
  have hl := lv_entry av (n := maxL) hn
  rw [lg_entry_eq]
  exact body p l e s m _ below meth c ⟨B.exec, B.bytes, hml, findClass_of_methodNamed B.named, fun w h => hts0 w (List.mem_cons_of_mem _ h)⟩ B.returns B.notSynchronized hP hK _ hl
section NV
variable {p : Program} {l : Launch} {e : Env} {R : Room} {s : State} {m : MethodId} {args : Array Value} {below : List Frame} {meth : Method} {c : Code} {H : Heap} {locs : List Loc} {cells slots : Nat} {Q : State → Prop}
variable {cc : ByteArray} {pc nL : Nat} {ls : Array Slot} {rest : List Value} {own : String} {A : Nat → Prop} {g : G5}
theorem PuR.done {i j : Nat} {cn : String} (X : CallFix p m c cc nL s args lw_all own) (hr : meth.sig.returnType = some (.object cn)) (hlk : meth.locks = false) (hdg : decode cc pc = .ok (.areturn, 1)) (hj : j = i) : W p l e R s m args below meth c s.heap [] 0 0 (MQ below (va_Sr (fun k => k = i) (fun k => .ref k)) args s 0 0 (fun _ => False)) (F0 m pc ls [.ref j]) := by
  subst hj
  exact W.aret X.1 X.2.1 hr (Or.inl ⟨_, rfl⟩) (Or.inr ⟨_, rfl⟩) (fun t ht hW => ⟨j, rfl, rfl, ht⟩) (fun q h => absurd h List.not_mem_nil) hdg hlk
theorem PuR.callV {y : MethodName} {bytes : ByteArray} {maxL n idx : Nat} {ret : Option FieldType} {fr lo : Nat} {C : String} {b : Addr} {As st0 : List Value} {cs : va_W} {lv0 : List (Nat × Value)} {v : Nat} (hM : PuR y bytes maxL ret fr lo g (.ref b :: As) cs v) (X : CallFix p m c cc nL s args lw_all own) (hdg : decode cc pc = .ok (.invokevirtual idx, 3)) (hl : Cond.methodLink own idx y ∈ lw_all) (hT : TV C y bytes maxL ret n) (hK : KK g s) (hP : PP g cs H) (q0 ci : Nat) {qc : vw_C} {fs : List Value} (he : cs[q0]? = some (b, .inr (ci, fs))) (hc : cls[ci]? = some qc) (hC : qc.1 = C) (hsz : lv_has ls nL lv0) (hR : (fr + 1 ≤ R.frames ∧ 8 + (maxL + 11) + lo ≤ R.locals) ∧ cells ≤ R.cells ∧ slots ≤ R.slots) (hn : As.length = n) (hst : st0 = As.reverse ++ .ref b :: rest) (hW : (rest.map fun v => v.category).sum ≤ 8)
    (kk : W p l e R s m args below meth c H locs cells slots Q (F0 m (pc + 3) ls (.ref v :: rest))) : W p l e R s m args below meth c H locs cells slots Q (F0 m pc ls st0) := by
  subst hst
  subst hC
  exact va_csr (post := fun k => k = v) (ad := fun k => .ref k) (W.runV (As := As) (rest := rest) X (hM l) (cwV n X.2.2.2.2 (gVd hl hT) rfl rfl rfl hT.2 hR.1) ⟨pu_blind, va_recv hK hP hc he, fun U hU hW => ⟨rfl, by rw [hU]; exact hP, va_K.moved hW.alike hK⟩⟩ rfl hn hsz.1 rfl (lv_room hW) hdg hR.2) (fun r hr => by subst hr; exact kk)
end NV
/-! the answers -/
def xN (x : Int32) : Nat := x.toInt.toNat
theorem xN_N {j : Nat} (h : j < 2 ^ 31) : xN (nI j) = j := by
  unfold xN
  rw [nI_toInt h]
  rfl
def a_blockAt (k n : Nat) (s : List Nat) (x : Int32) : Int32 := if hasB x s.length then nI (codeN k n s (xN x)) else (-2)
def a_positionOf (k n B : Nat) (s : List Nat) (x : Int32) : Int32 := if hasB x B then oI (fpO k n s (xN x)) else (-1)
def oAft (n : Nat) (s : List Nat) (o : Option Nat) : Int32 := match o with
  | none => (-2)
  | some j => nI (s.getD ((j + n) % s.length) 0)
def a_letterAfter (k n B : Nat) (s : List Nat) (x : Int32) : Int32 := if hasB x B then oAft n s (fpO k n s (xN x)) else (-1)
def a_occurrences (k n B : Nat) (s : List Nat) (x : Int32) : Int32 := if hasB x B then nI (cntL (eqC k n s (xN x)) s.length 0 0) else (-1)
def oDis (L : Nat) (o p : Option Nat) : Int32 := match o, p with
  | some i, some j => nI (if i ≤ j then j - i else j + L - i)
  | _, _ => (-2)
def a_distance (k n B : Nat) (s : List Nat) (x y : Int32) : Int32 := if hasB x B && hasB y B then oDis s.length (fpO k n s (xN x)) (fpO k n s (xN y)) else (-1)
def linN (n : Nat) (s : List Nat) : Nat := if s.length < 1 then 0 else s.length + n - 1
def a_linearLetter (n : Nat) (s : List Nat) (x : Int32) : Int32 := if hasB x (linN n s) then nI (s.getD (xN x % s.length) 0) else (-2)
def a_successorLetter (k n B T : Nat) (x : Int32) : Int32 := if hasB x B then nI (sucN k T n (xN x)) else (-1)
def folL (k T n : Nat) : Nat → Nat → Nat
  | 0, b => b
  | r + 1, b => folL k T n r (b % T * k + sucN k T n b)
def a_follow (k n B T : Nat) (x y : Int32) : Int32 := if hasB x B && hasB y 301 then nI (folL k T n (xN y) (xN x)) else (-1)
def a_isNecklace (k n B T : Nat) (x : Int32) : Int32 := if hasB x B then bI (leastB k T n (xN x)) else (-1)
def a_necklaceOf (k n B T : Nat) (x : Int32) : Int32 := if hasB x B then nI (lrN k T n (xN x)) else (-1)
def a_rotationCount (k n B T : Nat) (x : Int32) : Int32 := if hasB x B then nI (rtN k T n (xN x)) else (-1)
def lenB (n : Nat) (x : Int32) : Bool := decide (1 ≤ x.toInt ∧ x.toInt ≤ (n : Int))
def a_lyndonCount (k n : Nat) (x : Int32) : Int32 := if lenB n x then nI (cntL (lynB k (xN x)) (k ^ (xN x)) 0 0) else (-1)
def a_lyndonWord (k n : Nat) (x y : Int32) : Int32 := if lenB n x then nthL (lynB k (xN x)) y.toInt (k ^ (xN x)) 0 0 else (-1)
def a_countModulo (k n T : Nat) (x : Int32) : Int32 := if decide (2 ≤ x.toInt ∧ x.toInt ≤ 1000000000) then nI (cycN k n T (xN x)) else (-1)
def a_runCount (k : Nat) (s : List Nat) (x y : Int32) : Int32 := if hasB x k && lenB 256 y then nI (runsN s (xN x) (xN y)) else (-1)
def a_discrepancy (k : Nat) (s : List Nat) (x : Int32) : Int32 := if hasB x k then iI (spL s (xN x) k s.length 0 0 0 0) else (-1)
abbrev cutQ (n : Nat) (s : List Nat) (c : Nat) : Nat → Bool := fun i => repB s i (i + c) (n - 1)
def cutB (s : List Nat) (x : Int32) : Bool := decide (1 ≤ x.toInt ∧ x.toInt < (s.length : Int))
def a_firstCut (n : Nat) (s : List Nat) (x : Int32) : Int32 := if s.length < 1 then (-3) else if cutB s x then oI (firstL (cutQ n s (xN x)) s.length 0) else (-1)
theorem lenB_t {n : Nat} {x : Int32} (h : lenB n x = true) : ∃ j : Nat, j < 2 ^ 31 ∧ 1 ≤ j ∧ j ≤ n ∧ x = nI j := by
  unfold lenB at h
  obtain ⟨h1, h2⟩ := of_decide_eq_true h
  obtain ⟨j, hj, rfl⟩ := z_nat (x := x) (by omega)
  rw [nI_toInt hj] at h1 h2
  exact ⟨j, hj, by omega, by omega, rfl⟩
theorem cutB_t {s : List Nat} {x : Int32} (h : cutB s x = true) : ∃ j : Nat, j < 2 ^ 31 ∧ 1 ≤ j ∧ j < s.length ∧ x = nI j := by
  unfold cutB at h
  obtain ⟨h1, h2⟩ := of_decide_eq_true h
  obtain ⟨j, hj, rfl⟩ := z_nat (x := x) (by omega)
  rw [nI_toInt hj] at h1 h2
  exact ⟨j, hj, by omega, by omega, rfl⟩
theorem pow_le {k n B T m : Nat} (h : shp k n B T) (hm : m ≤ n) : k ^ m ≤ 256 := by
  obtain ⟨⟨a1, a2, a3, a4, a5⟩, a6, a7⟩ := h
  exact Nat.le_trans (Nat.pow_le_pow_right (by omega) hm) a5
