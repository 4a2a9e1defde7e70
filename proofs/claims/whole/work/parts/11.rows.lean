/-! rows over numbers: N: the Int32 of a natural number; compares in Int -/
theorem z_lt (a b : Int32) : a < b ↔ a.toInt < b.toInt := Int32.lt_iff_toInt_lt
theorem z_le (a b : Int32) : a ≤ b ↔ a.toInt ≤ b.toInt := Int32.le_iff_toInt_le
theorem z_eq (a b : Int32) : a = b ↔ a.toInt = b.toInt := ⟨fun h => by rw [h], fun h => Int32.toInt_inj.mp h⟩
theorem bI_0 (b : Bool) : bI b = 0 ↔ b = false := by cases b <;> decide
def iI (z : Int) : Int32 := Int32.ofInt z
theorem iI_toInt {z : Int} (h1 : -2147483648 ≤ z) (h2 : z < 2147483648) : (iI z).toInt = z := by
  unfold iI
  rw [Int32.toInt_ofInt]
  exact Int.bmod_eq_of_le (by show -(4294967296 / 2 : Int) ≤ z; omega) (by show z < ((4294967296 + 1) / 2 : Int); omega)
theorem nI_iI (n : Nat) : nI n = iI (n : Int) := by
  unfold nI iI
  apply Int32.toInt_inj.mp
  rw [Int32.toInt_ofInt, Int32.toInt_ofNat']
theorem iI_self (x : Int32) : iI x.toInt = x := Int32.ofInt_toInt x
theorem iI_add (a b : Int) : iI a + iI b = iI (a + b) := (Int32.ofInt_add a b).symm
theorem iI_mul (a b : Int) : iI a * iI b = iI (a * b) := (Int32.ofInt_mul a b).symm
theorem iI_sub (a b : Int) : iI a - iI b = iI (a - b) := (Int32.ofInt_sub a b).symm
section NV
variable {p : Program} {l : Launch} {e : Env} {R : Room} {s : State} {m : MethodId} {args : Array Value} {below : List Frame} {meth : Method} {c : Code} {H : Heap} {locs : List Loc} {cells slots : Nat} {Q : State → Prop}
variable {cc : ByteArray} {pc nL : Nat} {ls : Array Slot} {rest : List Value} {own : String}
theorem tp_i {x y : Int32} (h : x = y) (k : W p l e R s m args below meth c H locs cells slots Q (F0 m pc ls (.int y :: rest))) : W p l e R s m args below meth c H locs cells slots Q (F0 m pc ls (.int x :: rest)) := by
  rw [h]; exact k
theorem tp_l {x y : Int64} (h : x = y) (k : W p l e R s m args below meth c H locs cells slots Q (F0 m pc ls (.long y :: rest))) : W p l e R s m args below meth c H locs cells slots Q (F0 m pc ls (.long x :: rest)) := by
  rw [h]; exact k
theorem n_add (X : CallFix p m c cc nL s args lw_all own) {a b : Nat} (hdg : decode cc pc = .ok (.iadd, 1)) (k : W p l e R s m args below meth c H locs cells slots Q (F0 m (pc + 1) ls (.int (nI (a + b)) :: rest))) : W p l e R s m args below meth c H locs cells slots Q (F0 m pc ls (.int (nI b) :: .int (nI a) :: rest)) :=
  lv_iadd X.1 X.2.1 hdg (by rw [nI_add]; exact k)
theorem n_mul (X : CallFix p m c cc nL s args lw_all own) {a b : Nat} (hdg : decode cc pc = .ok (.imul, 1)) (k : W p l e R s m args below meth c H locs cells slots Q (F0 m (pc + 1) ls (.int (nI (a * b)) :: rest))) : W p l e R s m args below meth c H locs cells slots Q (F0 m pc ls (.int (nI b) :: .int (nI a) :: rest)) :=
  lv_imul X.1 X.2.1 hdg (by rw [pk_mul]; exact k)
theorem n_sub (X : CallFix p m c cc nL s args lw_all own) {a b : Nat} (hdg : decode cc pc = .ok (.isub, 1)) (h : b ≤ a) (k : W p l e R s m args below meth c H locs cells slots Q (F0 m (pc + 1) ls (.int (nI (a - b)) :: rest))) : W p l e R s m args below meth c H locs cells slots Q (F0 m pc ls (.int (nI b) :: .int (nI a) :: rest)) :=
  lv_isub X.1 X.2.1 hdg (by rw [pk_sub h]; exact k)
theorem n_div (X : CallFix p m c cc nL s args lw_all own) {a b : Nat} (hdg : decode cc pc = .ok (.idiv, 1)) (ha : a < 2 ^ 31) (h0 : 0 < b) (hb : b < 2 ^ 31) (k : W p l e R s m args below meth c H locs cells slots Q (F0 m (pc + 1) ls (.int (nI (a / b)) :: rest))) : W p l e R s m args below meth c H locs cells slots Q (F0 m pc ls (.int (nI b) :: .int (nI a) :: rest)) :=
  lv_idiv X.1 X.2.1 hdg (nI_ne0 h0 hb) (by rw [pk_div ha h0 hb]; exact k)
theorem n_rem (X : CallFix p m c cc nL s args lw_all own) {a b : Nat} (hdg : decode cc pc = .ok (.irem, 1)) (ha : a < 2 ^ 31) (h0 : 0 < b) (hb : b < 2 ^ 31) (k : W p l e R s m args below meth c H locs cells slots Q (F0 m (pc + 1) ls (.int (nI (a % b)) :: rest))) : W p l e R s m args below meth c H locs cells slots Q (F0 m pc ls (.int (nI b) :: .int (nI a) :: rest)) :=
  lv_irem X.1 X.2.1 hdg (nI_ne0 h0 hb) (by rw [pk_rem ha h0 hb]; exact k)
theorem z_icmp_eq (X : CallFix p m c cc nL s args lw_all own) {x y : Int32} {off : Int} {tgt : Nat} (hdg : decode cc pc = .ok (.if_icmp .eq off, 3)) (ht : (pc : Int) + off = (tgt : Int)) {xi yi : Int} (hx : x.toInt = xi) (hy : y.toInt = yi)
    (kt : xi = yi → W p l e R s m args below meth c H locs cells slots Q (F0 m tgt ls rest)) (kf : ¬ xi = yi → W p l e R s m args below meth c H locs cells slots Q (F0 m (pc + 3) ls rest)) : W p l e R s m args below meth c H locs cells slots Q (F0 m pc ls (.int y :: .int x :: rest)) :=
  lv_icmp_eq X.1 X.2.1 hdg ht (fun h => kt (by rw [← hx, ← hy, h])) (fun h => kf (fun q => h ((z_eq x y).mpr (by rw [hx, hy, q]))))
theorem z_icmp_ne (X : CallFix p m c cc nL s args lw_all own) {x y : Int32} {off : Int} {tgt : Nat} (hdg : decode cc pc = .ok (.if_icmp .ne off, 3)) (ht : (pc : Int) + off = (tgt : Int)) {xi yi : Int} (hx : x.toInt = xi) (hy : y.toInt = yi)
    (kt : ¬ xi = yi → W p l e R s m args below meth c H locs cells slots Q (F0 m tgt ls rest)) (kf : xi = yi → W p l e R s m args below meth c H locs cells slots Q (F0 m (pc + 3) ls rest)) : W p l e R s m args below meth c H locs cells slots Q (F0 m pc ls (.int y :: .int x :: rest)) :=
  lv_icmp_ne X.1 X.2.1 hdg ht (fun h => kt (fun q => h ((z_eq x y).mpr (by rw [hx, hy, q])))) (fun h => kf (by rw [← hx, ← hy, h]))
theorem z_icmp_ge (X : CallFix p m c cc nL s args lw_all own) {x y : Int32} {off : Int} {tgt : Nat} (hdg : decode cc pc = .ok (.if_icmp .ge off, 3)) (ht : (pc : Int) + off = (tgt : Int)) {xi yi : Int} (hx : x.toInt = xi) (hy : y.toInt = yi)
    (kt : yi ≤ xi → W p l e R s m args below meth c H locs cells slots Q (F0 m tgt ls rest)) (kf : xi < yi → W p l e R s m args below meth c H locs cells slots Q (F0 m (pc + 3) ls rest)) : W p l e R s m args below meth c H locs cells slots Q (F0 m pc ls (.int y :: .int x :: rest)) :=
  lv_icmp_ge X.1 X.2.1 hdg ht (fun h => kt (by have := (z_le y x).mp h; omega)) (fun h => kf (by have : ¬ y.toInt ≤ x.toInt := fun q => h ((z_le y x).mpr q); omega))
theorem z_icmp_lt (X : CallFix p m c cc nL s args lw_all own) {x y : Int32} {off : Int} {tgt : Nat} (hdg : decode cc pc = .ok (.if_icmp .lt off, 3)) (ht : (pc : Int) + off = (tgt : Int)) {xi yi : Int} (hx : x.toInt = xi) (hy : y.toInt = yi)
    (kt : xi < yi → W p l e R s m args below meth c H locs cells slots Q (F0 m tgt ls rest)) (kf : yi ≤ xi → W p l e R s m args below meth c H locs cells slots Q (F0 m (pc + 3) ls rest)) : W p l e R s m args below meth c H locs cells slots Q (F0 m pc ls (.int y :: .int x :: rest)) :=
  lv_icmp_lt X.1 X.2.1 hdg ht (fun h => kt (by have := (z_lt x y).mp h; omega)) (fun h => kf (by have : ¬ x.toInt < y.toInt := fun q => h ((z_lt x y).mpr q); omega))
theorem z_icmp_gt (X : CallFix p m c cc nL s args lw_all own) {x y : Int32} {off : Int} {tgt : Nat} (hdg : decode cc pc = .ok (.if_icmp .gt off, 3)) (ht : (pc : Int) + off = (tgt : Int)) {xi yi : Int} (hx : x.toInt = xi) (hy : y.toInt = yi)
    (kt : yi < xi → W p l e R s m args below meth c H locs cells slots Q (F0 m tgt ls rest)) (kf : xi ≤ yi → W p l e R s m args below meth c H locs cells slots Q (F0 m (pc + 3) ls rest)) : W p l e R s m args below meth c H locs cells slots Q (F0 m pc ls (.int y :: .int x :: rest)) :=
  lv_icmp_gt X.1 X.2.1 hdg ht (fun h => kt (by have := (z_lt y x).mp h; omega)) (fun h => kf (by have : ¬ y.toInt < x.toInt := fun q => h ((z_lt y x).mpr q); omega))
theorem z_icmp_le (X : CallFix p m c cc nL s args lw_all own) {x y : Int32} {off : Int} {tgt : Nat} (hdg : decode cc pc = .ok (.if_icmp .le off, 3)) (ht : (pc : Int) + off = (tgt : Int)) {xi yi : Int} (hx : x.toInt = xi) (hy : y.toInt = yi)
    (kt : xi ≤ yi → W p l e R s m args below meth c H locs cells slots Q (F0 m tgt ls rest)) (kf : yi < xi → W p l e R s m args below meth c H locs cells slots Q (F0 m (pc + 3) ls rest)) : W p l e R s m args below meth c H locs cells slots Q (F0 m pc ls (.int y :: .int x :: rest)) :=
  lv_icmp_le X.1 X.2.1 hdg ht (fun h => kt (by have := (z_le x y).mp h; omega)) (fun h => kf (by have : ¬ x.toInt ≤ y.toInt := fun q => h ((z_le x y).mpr q); omega))
theorem z_if_eq (X : CallFix p m c cc nL s args lw_all own) {x : Int32} {off : Int} {tgt : Nat} (hdg : decode cc pc = .ok (.ifCond .eq off, 3)) (ht : (pc : Int) + off = (tgt : Int)) {xi : Int} (hx : x.toInt = xi)
    (kt : xi = 0 → W p l e R s m args below meth c H locs cells slots Q (F0 m tgt ls rest)) (kf : ¬ xi = 0 → W p l e R s m args below meth c H locs cells slots Q (F0 m (pc + 3) ls rest)) : W p l e R s m args below meth c H locs cells slots Q (F0 m pc ls (.int x :: rest)) :=
  lv_if_eq X.1 X.2.1 hdg ht (fun h => kt (by rw [← hx, h]; rfl)) (fun h => kf (fun q => h ((z_eq x 0).mpr (by rw [hx, q]; rfl))))
theorem z_if_ne (X : CallFix p m c cc nL s args lw_all own) {x : Int32} {off : Int} {tgt : Nat} (hdg : decode cc pc = .ok (.ifCond .ne off, 3)) (ht : (pc : Int) + off = (tgt : Int)) {xi : Int} (hx : x.toInt = xi)
    (kt : ¬ xi = 0 → W p l e R s m args below meth c H locs cells slots Q (F0 m tgt ls rest)) (kf : xi = 0 → W p l e R s m args below meth c H locs cells slots Q (F0 m (pc + 3) ls rest)) : W p l e R s m args below meth c H locs cells slots Q (F0 m pc ls (.int x :: rest)) :=
  lv_if_ne X.1 X.2.1 hdg ht (fun h => kt (fun q => h ((z_eq x 0).mpr (by rw [hx, q]; rfl)))) (fun h => kf (by rw [← hx, h]; rfl))
theorem z_if_lt (X : CallFix p m c cc nL s args lw_all own) {x : Int32} {off : Int} {tgt : Nat} (hdg : decode cc pc = .ok (.ifCond .lt off, 3)) (ht : (pc : Int) + off = (tgt : Int)) {xi : Int} (hx : x.toInt = xi)
    (kt : xi < 0 → W p l e R s m args below meth c H locs cells slots Q (F0 m tgt ls rest)) (kf : 0 ≤ xi → W p l e R s m args below meth c H locs cells slots Q (F0 m (pc + 3) ls rest)) : W p l e R s m args below meth c H locs cells slots Q (F0 m pc ls (.int x :: rest)) :=
  lv_if_lt X.1 X.2.1 hdg ht (fun h => kt (by have h2 := (z_lt x 0).mp h; rw [hx] at h2; exact h2)) (fun h => kf (by
    have h2 : ¬ x.toInt < (0 : Int32).toInt := fun q => h ((z_lt x 0).mpr q)
    rw [hx, show (0 : Int32).toInt = 0 from rfl] at h2; omega))
theorem z_if_ge (X : CallFix p m c cc nL s args lw_all own) {x : Int32} {off : Int} {tgt : Nat} (hdg : decode cc pc = .ok (.ifCond .ge off, 3)) (ht : (pc : Int) + off = (tgt : Int)) {xi : Int} (hx : x.toInt = xi)
    (kt : 0 ≤ xi → W p l e R s m args below meth c H locs cells slots Q (F0 m tgt ls rest)) (kf : xi < 0 → W p l e R s m args below meth c H locs cells slots Q (F0 m (pc + 3) ls rest)) : W p l e R s m args below meth c H locs cells slots Q (F0 m pc ls (.int x :: rest)) :=
  lv_if_ge X.1 X.2.1 hdg ht (fun h => kt (by have h2 := (z_le 0 x).mp h; rw [hx] at h2; exact h2)) (fun h => kf (by
    have h2 : ¬ (0 : Int32).toInt ≤ x.toInt := fun q => h ((z_le 0 x).mpr q)
    rw [hx, show (0 : Int32).toInt = 0 from rfl] at h2; omega))
theorem z_if_gt (X : CallFix p m c cc nL s args lw_all own) {x : Int32} {off : Int} {tgt : Nat} (hdg : decode cc pc = .ok (.ifCond .gt off, 3)) (ht : (pc : Int) + off = (tgt : Int)) {xi : Int} (hx : x.toInt = xi)
    (kt : 0 < xi → W p l e R s m args below meth c H locs cells slots Q (F0 m tgt ls rest)) (kf : xi ≤ 0 → W p l e R s m args below meth c H locs cells slots Q (F0 m (pc + 3) ls rest)) : W p l e R s m args below meth c H locs cells slots Q (F0 m pc ls (.int x :: rest)) :=
  lv_if_gt X.1 X.2.1 hdg ht (fun h => kt (by have h2 := (z_lt 0 x).mp h; rw [hx] at h2; exact h2)) (fun h => kf (by
    have h2 : ¬ (0 : Int32).toInt < x.toInt := fun q => h ((z_lt 0 x).mpr q)
    rw [hx, show (0 : Int32).toInt = 0 from rfl] at h2; omega))
theorem z_if_le (X : CallFix p m c cc nL s args lw_all own) {x : Int32} {off : Int} {tgt : Nat} (hdg : decode cc pc = .ok (.ifCond .le off, 3)) (ht : (pc : Int) + off = (tgt : Int)) {xi : Int} (hx : x.toInt = xi)
    (kt : xi ≤ 0 → W p l e R s m args below meth c H locs cells slots Q (F0 m tgt ls rest)) (kf : 0 < xi → W p l e R s m args below meth c H locs cells slots Q (F0 m (pc + 3) ls rest)) : W p l e R s m args below meth c H locs cells slots Q (F0 m pc ls (.int x :: rest)) :=
  lv_if_le X.1 X.2.1 hdg ht (fun h => kt (by have h2 := (z_le x 0).mp h; rw [hx] at h2; exact h2)) (fun h => kf (by
    have h2 : ¬ x.toInt ≤ (0 : Int32).toInt := fun q => h ((z_le x 0).mpr q)
    rw [hx, show (0 : Int32).toInt = 0 from rfl] at h2; omega))
theorem b_if_eq (X : CallFix p m c cc nL s args lw_all own) {b : Bool} {off : Int} {tgt : Nat} (hdg : decode cc pc = .ok (.ifCond .eq off, 3)) (ht : (pc : Int) + off = (tgt : Int))
    (kt : b = false → W p l e R s m args below meth c H locs cells slots Q (F0 m tgt ls rest)) (kf : b = true → W p l e R s m args below meth c H locs cells slots Q (F0 m (pc + 3) ls rest)) : W p l e R s m args below meth c H locs cells slots Q (F0 m pc ls (.int (bI b) :: rest)) :=
  lv_if_eq X.1 X.2.1 hdg ht (fun h => kt ((bI_0 b).mp h)) (fun h => kf (by cases b with | true => rfl | false => exact absurd rfl h))
theorem b_if_ne (X : CallFix p m c cc nL s args lw_all own) {b : Bool} {off : Int} {tgt : Nat} (hdg : decode cc pc = .ok (.ifCond .ne off, 3)) (ht : (pc : Int) + off = (tgt : Int))
    (kt : b = true → W p l e R s m args below meth c H locs cells slots Q (F0 m tgt ls rest)) (kf : b = false → W p l e R s m args below meth c H locs cells slots Q (F0 m (pc + 3) ls rest)) : W p l e R s m args below meth c H locs cells slots Q (F0 m pc ls (.int (bI b) :: rest)) :=
  lv_if_ne X.1 X.2.1 hdg ht (fun h => kt (by cases b with | true => rfl | false => exact absurd rfl h)) (fun h => kf ((bI_0 b).mp h))
end NV
