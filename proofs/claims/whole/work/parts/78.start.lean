theorem arr_of {s : State} {args : Array Value} {ty : FieldType} (h : (Cond.arrayClass ty).before args s = true) : ∃ c : ClassId, ArrOfT s c ty ∧ s.vm.findClass ("[" ++ ty.toString) = some c := by
  obtain ⟨c, k, comp, h1, h2, h3⟩ := Cond.arrayClass_spec h
  exact ⟨c, fun n z => ⟨fun k h => (by cases h), k, h2, comp, h3⟩, h1⟩
/-- the classes as the tables have them -/
theorem law_K {s : State} {args : Array Value} (hts : ∀ w ∈ lw_all, w.before args s = true) : ∃ g : G5, KK g s := by
  have h0 : ∀ k : Nat, ∃ q : ClassId × (Nat → Nat), ∀ r : vw_C, cls[k]? = some r → u_Kn s r.1 r.2.1 r.2.2 q.1 q.2 := by
    intro k
    match k with
    | 0 =>
      obtain ⟨c, iS, h⟩ := u_known (C := RX0) (T := TX0) (N := 1) (n := 1) hts iwX0 (hts _ q115)
      exact ⟨(c, iS), fun r hr => by cases hr; exact h⟩
    | 1 =>
      obtain ⟨c, iS, h⟩ := u_known (C := RX1) (T := TX1) (N := 3) (n := 3) hts iwX1 (hts _ q136)
      exact ⟨(c, iS), fun r hr => by cases hr; exact h⟩
    | 2 =>
      obtain ⟨c, iS, h⟩ := u_known (C := RX2) (T := TX2) (N := 2) (n := 2) hts iwX2 (hts _ q154)
      exact ⟨(c, iS), fun r hr => by cases hr; exact h⟩
    | 3 =>
      obtain ⟨c, iS, h⟩ := u_known (C := RX3) (T := TX3) (N := 4) (n := 4) hts iwX3 (hts _ q181)
      exact ⟨(c, iS), fun r hr => by cases hr; exact h⟩
    | 4 =>
      obtain ⟨c, iS, h⟩ := u_known (C := RX4) (T := TX4) (N := 1) (n := 1) hts iwX4 (hts _ q121)
      exact ⟨(c, iS), fun r hr => by cases hr; exact h⟩
    | 5 =>
      obtain ⟨c, iS, h⟩ := u_known (C := RX5) (T := TX5) (N := 2) (n := 2) hts iwX5 (hts _ q168)
      exact ⟨(c, iS), fun r hr => by cases hr; exact h⟩
    | 6 =>
      obtain ⟨c, iS, h⟩ := u_known (C := RX6) (T := TX6) (N := 4) (n := 4) hts iwX6 (hts _ q82)
      exact ⟨(c, iS), fun r hr => by cases hr; exact h⟩
    | 7 =>
      obtain ⟨c, iS, h⟩ := u_known (C := RX7) (T := TX7) (N := 4) (n := 4) hts iwX7 (hts _ q200)
      exact ⟨(c, iS), fun r hr => by cases hr; exact h⟩
    | 8 =>
      obtain ⟨c, iS, h⟩ := u_known (C := RX9) (T := TX9) (N := 3) (n := 3) hts iwX9 (hts _ q221)
      exact ⟨(c, iS), fun r hr => by cases hr; exact h⟩
    | 9 =>
      obtain ⟨c, iS, h⟩ := u_known (C := RX10) (T := TX10) (N := 2) (n := 2) hts iwX10 (hts _ q101)
      exact ⟨(c, iS), fun r hr => by cases hr; exact h⟩
    | 10 =>
      obtain ⟨c, iS, h⟩ := u_known (C := RX11) (T := TX11) (N := 11) (n := 11) hts iwX11 (hts _ q74)
      exact ⟨(c, iS), fun r hr => by cases hr; exact h⟩
    | 11 =>
      obtain ⟨c, iS, h⟩ := u_known (C := RX12) (T := TX12) (N := 26) (n := 26) hts iwX12 (hts _ q1015)
      exact ⟨(c, iS), fun r hr => by cases hr; exact h⟩
    | k + 12 => exact ⟨(0, fun _ => 0), fun r hr => by simp [cls] at hr⟩
  obtain ⟨d, hd⟩ := Classical.axiomOfChoice h0
  obtain ⟨cI, i1, i2⟩ := arr_of (hts _ q113)
  obtain ⟨cZ, z1, z2⟩ := arr_of (hts _ q130)
  obtain ⟨cC, c1, c2⟩ := arr_of (hts _ q166)
  refine ⟨((fun k => (d k).1, fun k => (d k).2), cI, cZ, cC), fun k q hq => hd k q hq, fun k q hq => ?_⟩
  match k, hq with
  | 0, hq => cases hq; exact ⟨i1, i2⟩
  | 1, hq => cases hq; exact ⟨z1, z2⟩
  | 2, hq => cases hq; exact ⟨c1, c2⟩
  | k + 3, hq => simp [tys3] at hq
def tmS : Nat → Term := fun i => match i with
  | 0 => .string RX2 48
  | 1 => .string RX2 50
  | 2 => .string RX2 52
  | _ => .string RX2 54
abbrev flS : List Cond := flatC (Jvm.Cond.and given_1 narrow_1)
theorem fl_ex : ∀ i, i < 4 → Cond.exactly (tmS i) "java/lang/String" ∈ flS := by decide +kernel
theorem fl_co : ∀ i, i < 4 → Cond.eq (.field (tmS i) "java/lang/String" "coder" "B") (.int 0) ∈ flS := by decide +kernel
theorem fl_ar : ∀ i, i < 4 → Cond.arrayOf (.field (tmS i) "java/lang/String" "value" "[B") .byte ∈ flS := by decide +kernel
theorem fl_le : ∀ i, i < 4 → Cond.eq (.length (.field (tmS i) "java/lang/String" "value" "[B")) (.int (Int32.ofNat (lenS.getD i 0))) ∈ flS := by decide +kernel
theorem fl_el : ∀ i, i < 4 → ∀ j, j < lenS.getD i 0 → Cond.eq (.elem (.field (tmS i) "java/lang/String" "value" "[B") (.int (Int32.ofNat j))) (.int ((bytS.getD i []).getD j 0)) ∈ flS := by decide +kernel
theorem fl_ne : ∀ i, i < 4 → ∀ j, j < 4 → i ≠ j → Cond.not (Cond.eq (tmS i) (tmS j)) ∈ flS ∨ Cond.not (Cond.eq (tmS j) (tmS i)) ∈ flS := by decide +kernel
theorem fl_m0 : Cond.eq (.string RX2 48) (.string RX12 163) ∈ flS := by decide +kernel
theorem fl_m1 : Cond.eq (.string RX2 50) (.string RX12 168) ∈ flS := by decide +kernel
theorem fl_m2 : Cond.eq (.string RX2 52) (.string RX12 169) ∈ flS := by decide +kernel
theorem fl_m3 : Cond.eq (.string RX2 54) (.string RX12 171) ∈ flS := by decide +kernel
theorem fl_cs : Cond.eq (.static "java/lang/String" "COMPACT_STRINGS" "Z") (.int 1) ∈ flS := by decide +kernel
theorem fl_sf : Cond.isRef (.static "jdk/internal/util/Preconditions" "SIOOBE_FORMATTER" "Ljava/util/function/BiFunction;") ∈ flS := by decide +kernel
/-- the texts and statics at the start -/
theorem law_E {s : State} {args : Array Value} (hts : ∀ w ∈ lw_tbl, w.before args s = true) (hgv : (Jvm.Cond.and given_1 narrow_1).before args s = true) : ∃ (adK adV : Nat → Nat) (fm : Value), SEa adK adV fm (fun q : Nat => s.heap.size ≤ q) s s.heap := by
  have hs := flat_of_before _ hgv
  have hA : ∀ a : Nat, a < s.heap.size → ¬ (fun q : Nat => s.heap.size ≤ q) a := fun a h => Nat.not_le.mpr h
  obtain ⟨adK, adV, hS, ht⟩ := vk_Sof (args := args) (s := s) (N := 4) (tm := tmS) (len := lenS) (byt := bytS) (A := fun q : Nat => s.heap.size ≤ q) (by decide) (fun i hi => hs _ (fl_ex i hi)) (fun i hi => hs _ (fl_co i hi)) (fun i hi => hs _ (fl_ar i hi)) (fun i hi => hs _ (fl_le i hi)) (fun i hi j hj => hs _ (fl_el i hi j hj)) (fun i j hi hj hn => (fl_ne i hi j hj hn).elim (fun h => Or.inl (hs _ h)) (fun h => Or.inr (hs _ h))) hA
  have e0 : (Term.string RX2 48).eval args s none [] s = some (.ref (adK 0)) := ht 0 (by decide)
  have e1 : (Term.string RX2 50).eval args s none [] s = some (.ref (adK 1)) := ht 1 (by decide)
  have e2 : (Term.string RX2 52).eval args s none [] s = some (.ref (adK 2)) := ht 2 (by decide)
  have e3 : (Term.string RX2 54).eval args s none [] s = some (.ref (adK 3)) := ht 3 (by decide)
  have hZ1 : va_Z "java/lang/String" "COMPACT_STRINGS" "Z" (.int 1) (fun q : Nat => s.heap.size ≤ q) s s.heap := va_Zof (hts _ q541) (hts _ (lw_all_tbl q67)) (va_eqi (hs _ fl_cs)) hA
  have hR : ∀ (own tx : String) (k a : Nat), (Cond.stringRef own k tx).before args s = true → (Term.string own k).eval args s none [] s = some (.ref a) → vk_R own k tx a s := fun own tx k a h1 h2 => vk_R.of h1 h2
  have hq : va_Zq "jdk/internal/util/Preconditions" "SIOOBE_FORMATTER" "Ljava/util/function/BiFunction;" (fun q : Nat => s.heap.size ≤ q) s s.heap := va_Zqof (hts _ q557) (hts _ (lw_all_tbl q69)) (hs _ fl_sf) hA
  have hv : ((vk_R RX2 48 "greedy" (adK 0) s ∧ vk_R RX2 50 "lyndon" (adK 1) s ∧ vk_R RX2 52 "necklace" (adK 2) s ∧ vk_R RX2 54 "joined" (adK 3) s) ∧ (vk_R RX12 163 "greedy" (adK 0) s ∧ vk_R RX12 168 "lyndon" (adK 1) s ∧ vk_R RX12 169 "necklace" (adK 2) s ∧ vk_R RX12 171 "joined" (adK 3) s)) :=
    ⟨⟨hR _ _ _ _ (hts _ q520) e0, hR _ _ _ _ (hts _ q521) e1, hR _ _ _ _ (hts _ q522) e2, hR _ _ _ _ (hts _ q523) e3⟩, ⟨hR _ _ _ _ (hts _ q1207) (va_eqR (hs _ fl_m0) e0), hR _ _ _ _ (hts _ q1214) (va_eqR (hs _ fl_m1) e1), hR _ _ _ _ (hts _ q1215) (va_eqR (hs _ fl_m2) e2), hR _ _ _ _ (hts _ q1216) (va_eqR (hs _ fl_m3) e3)⟩⟩
  rcases hq with hq | ⟨t, hq⟩
  · exact ⟨adK, adV, .null, hS, hZ1, hq, Or.inl rfl, hv.1, hv.2⟩
  · exact ⟨adK, adV, .ref t, hS, hZ1, hq, Or.inr ⟨t, rfl⟩, hv.1, hv.2⟩
theorem NWs_in : ∀ w ∈ NWs, w ∈ lw_tbl := by
  intro w hw
  simp only [NWs, List.mem_cons, List.not_mem_nil, or_false] at hw
  rcases hw with rfl | rfl | rfl | rfl | rfl | rfl | rfl | rfl | rfl | rfl | rfl | rfl
  · exact q83
  · exact q102
  · exact q116
  · exact q122
  · exact q137
  · exact q142
  · exact q155
  · exact q169
  · exact q182
  · exact q201
  · exact q206
  · exact q222
theorem law_N {s : State} {args : Array Value} (hts : ∀ w ∈ lw_tbl, w.before args s = true) : NW s := fun w hw => va_Nw.of (nest_tab (NWs_nest w hw)) (hts w (NWs_in w hw))
