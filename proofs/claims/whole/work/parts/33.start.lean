/-! the start: what the law finds is what KV asks -/
def tmS (i : Nat) : Term := match strT[i]? with
  | some q => .string q.1 q.2.1
  | none => .int 0
def wS (i : Nat) : List Cond := Cond.exactly (tmS i) "java/lang/String" :: Cond.eq (.field (tmS i) "java/lang/String" "coder" "B") (.int 0) :: Cond.arrayOf (.field (tmS i) "java/lang/String" "value" "[B") .byte :: Cond.eq (.length (.field (tmS i) "java/lang/String" "value" "[B")) (.int (Int32.ofNat (strL.getD i 0))) :: (List.range (strL.getD i 0)).map (fun j => Cond.eq (.elem (.field (tmS i) "java/lang/String" "value" "[B") (.int (Int32.ofNat j))) (.int ((strB.getD i []).getD j 0)))
theorem st_fl : (flatC (Jvm.Cond.and given_1 narrow_1)).drop 75 = (List.range 34).flatMap wS := by decide +kernel
theorem st_in {i : Nat} (hi : i < 34) {w : Cond} (hw : w ∈ wS i) : w ∈ flatC (Jvm.Cond.and given_1 narrow_1) := by
  have h : w ∈ (flatC (Jvm.Cond.and given_1 narrow_1)).drop 75 := by
    rw [st_fl]
    exact List.mem_flatMap.mpr ⟨i, List.mem_range.mpr hi, hw⟩
  exact List.mem_of_mem_drop h
theorem st_w7 : ∀ q ∈ ncT, Cond.not (.castable q.1 q.2) ∈ flatC (Jvm.Cond.and given_1 narrow_1) := by decide +kernel
theorem st_w8 : ∀ i : Nat, i < 34 → ∀ j : Nat, j < 34 → strB.getD i [] = strB.getD j [] → i = j := by decide +kernel
theorem st_w9 : ∀ i : Nat, i < 34 → (strB.getD i []).length = strL.getD i 0 ∧ strL.getD i 0 < 2 ^ 31 := by decide +kernel
theorem st_w10 : ∀ i : Nat, i < 34 → ∀ j : Nat, j < 34 → Int32.ofNat (strL.getD i 0) = Int32.ofNat (strL.getD j 0) → strL.getD i 0 = strL.getD j 0 := by decide +kernel
theorem st_gd {l : List Int32} {k : Nat} (h : k < l.length) : l.getD k 0 = l[k] := by
  simp [h]
theorem st_texts {s : State} {b : Nat} (hgv : (Jvm.Cond.and given_1 narrow_1).before #[Value.ref b] s = true) {A : Nat → Prop} (hA : ∀ a : Nat, a < s.heap.size → ¬ A a) : ∃ adK adV : Nat → Nat, vk_S 34 strL strB adK adV A s s.heap ∧ (∀ i : Nat, i < 34 → (tmS i).eval #[Value.ref b] s none [] s = some (.ref (adK i))) ∧ ∀ i j : Nat, i < 34 → j < 34 → adV i = adV j → i = j := by
  have hs := flat_of_before _ hgv
  have h0 : ∀ i : Nat, ∃ q : Nat × Nat, i < 34 → (tmS i).eval #[Value.ref b] s none [] s = some (.ref q.1) ∧ va_O "java/lang/String" q.1 A s s.heap ∧ va_OF "java/lang/String" "coder" "B" (.int 0) q.1 A s s.heap ∧ va_OF "java/lang/String" "value" "[B" (.ref q.2) q.1 A s s.heap ∧ va_T .byte q.2 (strL.getD i 0) (fun j => .int ((strB.getD i []).getD j 0)) A s s.heap := by
    intro i
    by_cases hi : i < 34
    · have e1 := hs _ (st_in hi (List.mem_cons_self))
      have e2 := hs _ (st_in hi (List.mem_cons_of_mem _ List.mem_cons_self))
      have e3 := hs _ (st_in hi (List.mem_cons_of_mem _ (List.mem_cons_of_mem _ List.mem_cons_self)))
      have e4 := hs _ (st_in hi (List.mem_cons_of_mem _ (List.mem_cons_of_mem _ (List.mem_cons_of_mem _ List.mem_cons_self))))
      have e5 : ∀ j : Nat, j < strL.getD i 0 → _ := fun j hj => hs _ (st_in hi (List.mem_cons_of_mem _ (List.mem_cons_of_mem _ (List.mem_cons_of_mem _ (List.mem_cons_of_mem _ (List.mem_map.mpr ⟨j, List.mem_range.mpr hj, rfl⟩))))))
      obtain ⟨a, c, cA, kA, q1, q2, q3, q4, q5, q6, -⟩ := Cond.exactly_spec (args := #[Value.ref b]) (first := s) (o := none) (s := s) (idx := []) (t := tmS i) (cls := "java/lang/String") e1
      obtain ⟨t, ht, hT⟩ := va_Tof (f := fun j => .int ((strB.getD i []).getD j 0)) (A := A) (st_w9 i hi).2 e3 (va_eqt e4) (fun j hj => va_eqt (e5 j hj)) hA
      exact ⟨(a, t), fun _ => ⟨q1, ⟨cA, q3, q5, by rw [q6]; exact q2, hA a (Array.getElem?_eq_some_iff.mp q3).1⟩, vk_OFof q1 (va_eqt e2) hA, vk_OFof q1 ht hA, hT⟩⟩
    · exact ⟨(0, 0), fun h => absurd h hi⟩
  obtain ⟨ad, had⟩ := Classical.axiomOfChoice h0
  have hV : ∀ i j : Nat, i < 34 → j < 34 → (ad i).2 = (ad j).2 → i = j := by
    intro i j hi hj e
    have t1 := (had i hi).2.2.2.2
    have t2 := (had j hj).2.2.2.2
    rw [← e] at t2
    obtain ⟨c1, a1, -, -, -, a5, a6, -⟩ := t1
    obtain ⟨c2, b1, -, -, -, b5, b6, -⟩ := t2
    obtain rfl : c1 = c2 := Option.some.inj (a1.symm.trans b1)
    have hl : strL.getD i 0 = strL.getD j 0 := st_w10 i hi j hj (a5.symm.trans b5)
    refine st_w8 i hi j hj (List.ext_getElem ((st_w9 i hi).1.trans (hl.trans (st_w9 j hj).1.symm)) fun k k1 k2 => ?_)
    have z1 := a6 k (by rw [← (st_w9 i hi).1]; exact k1)
    have z2 := b6 k (by rw [← (st_w9 j hj).1]; exact k2)
    have z3 := Option.some.inj (z1.symm.trans z2)
    have z4 : (strB.getD i []).getD k 0 = (strB.getD j []).getD k 0 := by injection z3
    rw [st_gd k1, st_gd k2] at z4
    exact z4
  have hK : ∀ i j : Nat, i < 34 → j < 34 → (ad i).1 = (ad j).1 → i = j := by
    intro i j hi hj e
    have t1 := (had i hi).2.2.2.1
    have t2 := (had j hj).2.2.2.1
    rw [← e] at t2
    obtain ⟨cf, k, n, f, c1, a1, -, a3, -, a5, -⟩ := t1
    obtain ⟨cf2, k2, n2, f2, c2, b1, -, b3, -, b5, -⟩ := t2
    obtain rfl : c1 = c2 := Option.some.inj (a3.symm.trans b3)
    have z := Option.some.inj (a1.symm.trans b1)
    obtain rfl : f = f2 := by injection z with _ z; injection z with _ z; injection z with _ z
    have z3 := Option.some.inj (a5.symm.trans b5)
    exact hV i j hi hj (by injection z3)
  exact ⟨fun i => (ad i).1, fun i => (ad i).2, ⟨fun i hi => (had i hi).2, hK⟩, fun i hi => (had i hi).1, hV⟩
theorem st_arr {s : State} {A : Array Value} {ty : FieldType} (h : (Cond.arrayClass ty).before A s = true) : ∃ cA : ClassId, ArrOfT s cA ty ∧ s.vm.findClass ("[" ++ ty.toString) = some cA := by
  obtain ⟨c, k, comp, h1, h2, h3⟩ := Cond.arrayClass_spec (args := A) (first := s) (o := none) (s := s) (idx := []) h
  exact ⟨c, fun n z => ⟨fun k h => (by cases h), k, h2, comp, h3⟩, h1⟩
theorem st_arq {s : State} {A : Array Value} {n : String} (h : (Cond.arrayOver (.object n)).before A s = true) : ∃ cA : ClassId, ArrOfT s cA (.object n) ∧ va_RA s cA (.object n) := by
  obtain ⟨comp, c, k, h1, h2, h3, h4, h5⟩ := Cond.arrayOver_spec (args := A) (first := s) (o := none) (s := s) (idx := []) h
  exact ⟨c, fun n z => ⟨fun k h => (by cases h), k, h3, comp, h4⟩, k, comp, h3, h4, h1, h5⟩
theorem st_ok {w : Cond} {s : State} {A : Array Value} (ho : okW w = true) (h : w.before A s = true) : w.before #[] s = true := by
  unfold okW at ho
  split at ho
  · exact va_Nw.of rfl h
  · exact va_Nw.of rfl h
  · exact va_Nw.of rfl h
  · exact va_Nw.of rfl h
  · exact word_at (State.WarmedH.refl s) (good_of_word ho) h
theorem st_w6 : ∀ q ∈ strT, Cond.stringRef q.1 q.2.1 q.2.2.1 ∈ lw_tbl ∧ tmS q.2.2.2 = .string q.1 q.2.1 ∧ q.2.2.2 < 34 := List.forall_mem_cons.mpr ⟨⟨(tb3 (List.mem_of_getElem? (i := 143) rfl)), rfl, by decide⟩, List.forall_mem_cons.mpr ⟨⟨(tb3 (List.mem_of_getElem? (i := 185) rfl)), rfl, by decide⟩, List.forall_mem_cons.mpr ⟨⟨(tb4 (List.mem_of_getElem? (i := 3) rfl)), rfl, by decide⟩, List.forall_mem_cons.mpr ⟨⟨(tb4 (List.mem_of_getElem? (i := 52) rfl)), rfl, by decide⟩, List.forall_mem_cons.mpr ⟨⟨(tb4 (List.mem_of_getElem? (i := 105) rfl)), rfl, by decide⟩, List.forall_mem_cons.mpr ⟨⟨(tb5 (List.mem_of_getElem? (i := 54) rfl)), rfl, by decide⟩, List.forall_mem_cons.mpr ⟨⟨(tb5 (List.mem_of_getElem? (i := 175) rfl)), rfl, by decide⟩, List.forall_mem_cons.mpr ⟨⟨(tb5 (List.mem_of_getElem? (i := 235) rfl)), rfl, by decide⟩, List.forall_mem_cons.mpr ⟨⟨(tb8 (List.mem_of_getElem? (i := 60) rfl)), rfl, by decide⟩, List.forall_mem_cons.mpr ⟨⟨(tb8 (List.mem_of_getElem? (i := 83) rfl)), rfl, by decide⟩, List.forall_mem_cons.mpr ⟨⟨(tb8 (List.mem_of_getElem? (i := 84) rfl)), rfl, by decide⟩, List.forall_mem_cons.mpr ⟨⟨(tb8 (List.mem_of_getElem? (i := 85) rfl)), rfl, by decide⟩, List.forall_mem_cons.mpr ⟨⟨(tb8 (List.mem_of_getElem? (i := 106) rfl)), rfl, by decide⟩, List.forall_mem_cons.mpr ⟨⟨(tb8 (List.mem_of_getElem? (i := 107) rfl)), rfl, by decide⟩, List.forall_mem_cons.mpr ⟨⟨(tb8 (List.mem_of_getElem? (i := 108) rfl)), rfl, by decide⟩, List.forall_mem_cons.mpr ⟨⟨(tb8 (List.mem_of_getElem? (i := 109) rfl)), rfl, by decide⟩, List.forall_mem_cons.mpr ⟨⟨(tb8 (List.mem_of_getElem? (i := 110) rfl)), rfl, by decide⟩, List.forall_mem_cons.mpr ⟨⟨(tb8 (List.mem_of_getElem? (i := 111) rfl)), rfl, by decide⟩, List.forall_mem_cons.mpr ⟨⟨(tb8 (List.mem_of_getElem? (i := 112) rfl)), rfl, by decide⟩, List.forall_mem_cons.mpr ⟨⟨(tb8 (List.mem_of_getElem? (i := 113) rfl)), rfl, by decide⟩, List.forall_mem_cons.mpr ⟨⟨(tb8 (List.mem_of_getElem? (i := 114) rfl)), rfl, by decide⟩, List.forall_mem_cons.mpr ⟨⟨(tb8 (List.mem_of_getElem? (i := 115) rfl)), rfl, by decide⟩, List.forall_mem_cons.mpr ⟨⟨(tb8 (List.mem_of_getElem? (i := 116) rfl)), rfl, by decide⟩, List.forall_mem_cons.mpr ⟨⟨(tb8 (List.mem_of_getElem? (i := 117) rfl)), rfl, by decide⟩, List.forall_mem_cons.mpr ⟨⟨(tb8 (List.mem_of_getElem? (i := 118) rfl)), rfl, by decide⟩, List.forall_mem_cons.mpr ⟨⟨(tb8 (List.mem_of_getElem? (i := 119) rfl)), rfl, by decide⟩, List.forall_mem_cons.mpr ⟨⟨(tb8 (List.mem_of_getElem? (i := 124) rfl)), rfl, by decide⟩, List.forall_mem_cons.mpr ⟨⟨(tb8 (List.mem_of_getElem? (i := 125) rfl)), rfl, by decide⟩, List.forall_mem_cons.mpr ⟨⟨(tb8 (List.mem_of_getElem? (i := 134) rfl)), rfl, by decide⟩, List.forall_mem_cons.mpr ⟨⟨(tb8 (List.mem_of_getElem? (i := 135) rfl)), rfl, by decide⟩, List.forall_mem_cons.mpr ⟨⟨(tb8 (List.mem_of_getElem? (i := 136) rfl)), rfl, by decide⟩, List.forall_mem_cons.mpr ⟨⟨(tb8 (List.mem_of_getElem? (i := 137) rfl)), rfl, by decide⟩, List.forall_mem_cons.mpr ⟨⟨(tb8 (List.mem_of_getElem? (i := 138) rfl)), rfl, by decide⟩, List.forall_mem_cons.mpr ⟨⟨(tb8 (List.mem_of_getElem? (i := 139) rfl)), rfl, by decide⟩, fun _ h => nomatch h⟩⟩⟩⟩⟩⟩⟩⟩⟩⟩⟩⟩⟩⟩⟩⟩⟩⟩⟩⟩⟩⟩⟩⟩⟩⟩⟩⟩⟩⟩⟩⟩⟩⟩
theorem st_KV {s : State} {b : Nat} (hts : ∀ w ∈ lw_tbl, w.before #[Value.ref b] s = true) (hgv : (Jvm.Cond.and given_1 narrow_1).before #[Value.ref b] s = true) : ∃ g : GG, g.2.2.1 = s.heap ∧ KV g s s.heap ∧ ∀ i j : Nat, i < 34 → j < 34 → g.2.2.2.2 i = g.2.2.2.2 j → i = j := by
  have hs := flat_of_before _ hgv
  have hA : ∀ a : Nat, a < s.heap.size → ¬ s.heap.size ≤ a := fun a h => Nat.not_le.mpr h
  obtain ⟨c0, i0, k0⟩ := u_known (C := RX0) (T := TX0) (N := 2) (n := 2) hts iw_X0 (hts _ (tb2 (List.mem_of_getElem? (i := 91) rfl)))
  obtain ⟨c1, i1, k1⟩ := u_known (C := RX1) (T := TX1) (N := 10) (n := 10) hts iw_X1 (hts _ (tb1 (List.mem_of_getElem? (i := 167) rfl)))
  obtain ⟨c2, i2, k2⟩ := u_known (C := RX2) (T := TX2) (N := 5) (n := 5) hts iw_X2 (hts _ (tb1 (List.mem_of_getElem? (i := 97) rfl)))
  obtain ⟨c3, i3, k3⟩ := u_known (C := RX3) (T := TX3) (N := 1) (n := 1) hts iw_X3 (hts _ (tb1 (List.mem_of_getElem? (i := 85) rfl)))
  obtain ⟨c4, i4, k4⟩ := u_known (C := RX4) (T := TX4) (N := 7) (n := 7) hts iw_X4 (hts _ (tb1 (List.mem_of_getElem? (i := 125) rfl)))
  obtain ⟨c5, i5, k5⟩ := u_known (C := RX5) (T := TX5) (N := 3) (n := 3) hts iw_X5 (hts _ (tb4 (List.mem_of_getElem? (i := 214) rfl)))
  obtain ⟨c6, i6, k6⟩ := u_known (C := RX6) (T := TX6) (N := 10) (n := 10) hts iw_X6 (hts _ (tb1 (List.mem_of_getElem? (i := 39) rfl)))
  obtain ⟨c7, i7, k7⟩ := u_known (C := RX7) (T := TX7) (N := 13) (n := 13) hts iw_X7 (hts _ (tb1 (List.mem_of_getElem? (i := 79) rfl)))
  obtain ⟨c8, i8, k8⟩ := u_known (C := RX8) (T := TX8) (N := 9) (n := 9) hts iw_X8 (hts _ (tb2 (List.mem_of_getElem? (i := 104) rfl)))
  obtain ⟨c9, i9, k9⟩ := u_known (C := RX9) (T := TX9) (N := 9) (n := 9) hts iw_X9 (hts _ (tb1 (List.mem_of_getElem? (i := 223) rfl)))
  obtain ⟨c10, i10, k10⟩ := u_known (C := RX10) (T := TX10) (N := 9) (n := 9) hts iw_X10 (hts _ (tb6 (List.mem_of_getElem? (i := 27) rfl)))
  obtain ⟨c11, i11, k11⟩ := u_known (C := RX11) (T := TX11) (N := 6) (n := 6) hts iw_X11 (hts _ (tb1 (List.mem_of_getElem? (i := 31) rfl)))
  obtain ⟨c12, i12, k12⟩ := u_known (C := RX12) (T := TX12) (N := 28) (n := 28) hts iw_X12 (hts _ (tb7 (List.mem_of_getElem? (i := 91) rfl)))
  obtain ⟨a0, r0, f0⟩ := st_arr (hts _ (tb1 (List.mem_of_getElem? (i := 77) rfl)))
  obtain ⟨a1, r1, f1⟩ := st_arr (hts _ (tb3 (List.mem_of_getElem? (i := 169) rfl)))
  obtain ⟨a2, r2, f2⟩ := st_arr (hts _ (tb7 (List.mem_of_getElem? (i := 181) rfl)))
  obtain ⟨a3, r3, f3⟩ := st_arr (hts _ (tb9 (List.mem_of_getElem? (i := 210) rfl)))
  obtain ⟨a4, r4, f4⟩ := st_arq (n := RX5) (hts _ (tb2 (List.mem_of_getElem? (i := 23) rfl)))
  obtain ⟨adK, adV, hS, hT, hV⟩ := st_texts hgv (A := fun q => s.heap.size ≤ q) hA
  refine ⟨((fun k => match k with | 0 => c0 | 1 => c1 | 2 => c2 | 3 => c3 | 4 => c4 | 5 => c5 | 6 => c6 | 7 => c7 | 8 => c8 | 9 => c9 | 10 => c10 | 11 => c11 | _ => c12, fun k => match k with | 0 => i0 | 1 => i1 | 2 => i2 | 3 => i3 | 4 => i4 | 5 => i5 | 6 => i6 | 7 => i7 | 8 => i8 | 9 => i9 | 10 => i10 | 11 => i11 | _ => i12), (fun k => match k with | 0 => a0 | 1 => a1 | 2 => a2 | 3 => a3 | _ => a4), s.heap, adK, adV), rfl, ⟨⟨?_, ?_⟩, fun w hw ho => st_ok ho (hts w hw), ⟨?_, ?_⟩, ?_, hS, ?_, ?_, ?_, ?_⟩, hV⟩
  · intro k q hq
    match k, hq with
    | 0, hq => cases hq; exact k0
    | 1, hq => cases hq; exact k1
    | 2, hq => cases hq; exact k2
    | 3, hq => cases hq; exact k3
    | 4, hq => cases hq; exact k4
    | 5, hq => cases hq; exact k5
    | 6, hq => cases hq; exact k6
    | 7, hq => cases hq; exact k7
    | 8, hq => cases hq; exact k8
    | 9, hq => cases hq; exact k9
    | 10, hq => cases hq; exact k10
    | 11, hq => cases hq; exact k11
    | 12, hq => cases hq; exact k12
    | k + 13, hq => simp [vwCl] at hq
  · intro k q hq
    match k, hq with
    | 0, hq => cases hq; exact ⟨r0, f0⟩
    | 1, hq => cases hq; exact ⟨r1, f1⟩
    | 2, hq => cases hq; exact ⟨r2, f2⟩
    | 3, hq => cases hq; exact ⟨r3, f3⟩
    | 4, hq => cases hq; exact ⟨r4, f4⟩
    | k + 5, hq => simp [gT] at hq
  · exact vx_Zqof (hts _ (tb3 (List.mem_of_getElem? (i := 128) rfl))) (hts _ (tb1 (List.mem_of_getElem? (i := 12) rfl))) (hs _ (by decide +kernel)) hA
  · exact vx_Zqof (hts _ (tb3 (List.mem_of_getElem? (i := 130) rfl))) (hts _ (tb1 (List.mem_of_getElem? (i := 12) rfl))) (hs _ (by decide +kernel)) hA
  · intro q hq
    obtain ⟨h1, h2, h3⟩ := st_w6 q hq
    have h4 := hT _ h3
    rw [h2] at h4
    exact vk_R.of (A := #[Value.ref b]) (hts _ h1) h4
  · exact va_AO.of (hts _ (tb2 (List.mem_of_getElem? (i := 23) rfl)))
  · exact fun q hq => va_Nc.of (hs _ (st_w7 q hq))
  · exact va_Zof (hts _ (tb4 (List.mem_of_getElem? (i := 62) rfl))) (hts _ (tb1 (List.mem_of_getElem? (i := 19) rfl))) (va_eqt (hs _ (by decide +kernel))) hA
  · exact va_Zqof (hts _ (tb4 (List.mem_of_getElem? (i := 78) rfl))) (hts _ (tb1 (List.mem_of_getElem? (i := 21) rfl))) (hs _ (by decide +kernel)) hA
def R_law : String := "GrassFieldLaw"
def lw_P (b : Addr) (xs : List Int32) (args : Array Value) (s : State) : Prop := args = #[.ref b] ∧ s.IntsAt b xs ∧ xs.length ≤ 3072 ∧ (Jvm.Cond.and given_1 narrow_1).before args s = true
def lw_Q (_ : Array Value) (s : State) (o : Outcome) (t : State) : Prop := o = .returned (some (.int 1)) ∧ Framed s o t [] 600000 7000000
def lw_Z (below : List Frame) (a : Array Value) (s : State) : State → Prop := fun t => ∃ o, t.status = .running ∧ Ended t below o ∧ lw_Q a s o t
/-- the law's own end, with 1 on the stack, nothing written that was there before, its room as the claim has it -/
theorem lw_ret {p : Program} {l : Launch} {e : Env} {s : State} {m : MethodId} {below : List Frame} {meth : Method} {c : Code} {b : Nat} (hx : p.tables.exec = Jvm.exec) (hb : c.code = code) (hr : meth.sig.returnType = ret) (hlocks : meth.locks = false) {pc : Nat} {H : Heap} {ls : Array Slot} (hdg : decode code pc = .ok (.ireturn, 1)) : W p l e room_1 s m #[Value.ref b] below meth c H [] 600000 7000000 (lw_Z below #[Value.ref b] s) (F0 m pc ls [.int 1]) := by
  intro T hT X
  obtain ⟨fs, hret, hrun, hended, hW, hframe⟩ := X.leave (v := some (.int 1)) (hlocks := hlocks) (fun h => by rw [hr] at h; cases h)
  have hmeth' : T.vm.method? m = some meth := X.method'
  refine ⟨T.setFrames fs, ?_, .returned (some (.int 1)), hrun, hended, rfl, ⟨_, rfl⟩, hW, hframe⟩
  jvm_step X.here [X.here.top, hx, hb, hdg, hmeth', hr, ret, narrow_b1]
  (try refine ⟨rfl, ?_⟩); (try refine ⟨rfl, ?_⟩)
  first | (intro acts; rw [hret _ acts rfl rfl rfl]) | rw [hret _ _ rfl rfl rfl]
  exact Steps.refl _
/-- what holds at the law's entry: the machine, the code, the tables' words (any of lw_tbl by 'hts w (by decide +kernel)'), the script of L ints xs at the cell b, what the Statement gives of the start (any of its parts by flat_of_before) -/
def lw_At (p : Program) (s : State) (m : MethodId) (meth : Method) (c : Code) (b L : Nat) (xs : Nat → Int32) : Prop :=
  p.tables.exec = Jvm.exec ∧ c.code = code ∧ meth.sig.returnType = ret ∧ c.maxLocals = 7 ∧ s.vm.findClass R_law = some m.cls ∧ (∀ w ∈ lw_tbl, w.before #[Value.ref b] s = true) ∧ va_X b L xs s s.heap ∧ b < s.heap.size ∧ meth.locks = false ∧ (Jvm.Cond.and given_1 narrow_1).before #[Value.ref b] s = true
theorem st_room {s : State} {pl : Platform} (h : s.hasRoom pl room_1 = true) : s.hasRoom pl (rmD 1050 400000 5000000) = true := by
  unfold State.hasRoom at h ⊢
  simp only [Bool.and_eq_true] at h ⊢
  obtain ⟨⟨⟨⟨h1, h2⟩, h7⟩, h8⟩, h9⟩ := h
  have h2 := of_decide_eq_true h2
  obtain ⟨g1, g2, g3, g4, g5⟩ := h2
  refine ⟨⟨⟨⟨h1, decide_eq_true ⟨?_, ?_, g3, g4, g5⟩⟩, ?_⟩, ?_⟩, h9⟩
  · exact Nat.le_trans (Nat.add_le_add_left (by decide) _) g1
  · exact Nat.le_trans (Nat.add_le_add_left (by decide) _) g2
  · exact decide_eq_true (Nat.le_trans (Nat.add_le_add_left (by decide) _) (of_decide_eq_true h7))
  · exact decide_eq_true (Nat.le_trans (Nat.add_le_add_left (by decide) _) (of_decide_eq_true h8))
theorem st_flags {l : Launch} (h : l.flags = flags0) : l.stackTraces = false := by
  unfold Launch.stackTraces
  rw [h]
  decide +kernel
theorem st_end {below : List Frame} {s : State} {g : GG} {args : Array Value} (hg : g.2.2.1 = s.heap) {t : State} (h : MQ below (QCx g (QI fun r _ => r = 1)) args s 400000 5000000 (gA g) t) : lw_Z below args s t := by
  obtain ⟨o, h1, h2, ⟨v, h', rfl, ⟨r, rfl, rfl⟩, -⟩, L, hF, hL⟩ := h
  refine ⟨_, h1, h2, rfl, ?_⟩
  exact ⟨⟨_, rfl⟩, hF.2.1, State.sameButNew.drop_fresh (L := []) (J := L) (State.sameButNew.mono hF.2.2 (by decide) (by decide)) (fun x hx => by have := hL x hx; unfold gA at this; rw [hg] at this; exact this)⟩
/-- the abstract heap at the start: only the texts -/
def hE (adK adV : Nat → Nat) : AH := (fun _ => 0, fun _ => 0, fun _ _ => 0, fun _ _ => none, fun _ _ => 0, fun a => (List.range 34).find? (fun i => adK i == a), fun a => (List.range 34).find? (fun i => adV i == a))
theorem hE_find {ad : Nat → Nat} (hi : ∀ i j : Nat, i < 34 → j < 34 → ad i = ad j → i = j) : (∀ i : Nat, i < 34 → (List.range 34).find? (fun k => ad k == ad i) = some i) ∧ ∀ a i : Nat, (List.range 34).find? (fun k => ad k == a) = some i → i < 34 ∧ a = ad i := by
  have h2 : ∀ a i : Nat, (List.range 34).find? (fun k => ad k == a) = some i → i < 34 ∧ a = ad i := by
    intro a i h
    have h1 := List.find?_some h
    exact ⟨List.mem_range.mp (List.mem_of_find?_eq_some h), (eq_of_beq h1).symm⟩
  refine ⟨fun i h => ?_, h2⟩
  cases hf : (List.range 34).find? (fun k => ad k == ad i) with
  | none =>
    have := List.find?_eq_none.mp hf i (List.mem_range.mpr h)
    exact absurd (beq_self_eq_true (ad i)) this
  | some j =>
    obtain ⟨j1, j2⟩ := h2 _ _ hf
    rw [hi j i j1 h j2.symm]
theorem hE_HC {g : GG} {s : State} (hg : g.2.2.1 = s.heap) (h1 : ∀ i j : Nat, i < 34 → j < 34 → g.2.2.2.1 i = g.2.2.2.1 j → i = j) (h2 : ∀ i j : Nat, i < 34 → j < 34 → g.2.2.2.2 i = g.2.2.2.2 j → i = j) : HC g (hE g.2.2.2.1 g.2.2.2.2) s.heap := by
  refine ⟨by rw [hg]; exact Nat.le_refl _, fun q _ => by rw [hg], fun a ha => absurd rfl ha, ?_, ?_, ?_⟩
  · exact fun i hi => ⟨(hE_find h1).1 i hi, (hE_find h2).1 i hi⟩
  · exact (hE_find h1).2
  · exact (hE_find h2).2
/-- what is left to be shown: the told program answers 1 -/
def MATH : Prop := ∀ (xs : Nat → Int32) (L b : Nat) (adK adV : Nat → Nat), L ≤ 3072 → (∀ i j : Nat, i < 34 → j < 34 → adK i = adK j → i = j) → (∀ i j : Nat, i < 34 → j < 34 → adV i = adV j → i = j) → w_L_law_ xs L b (hE adK adV) (fun r _ => r = 1)
theorem st_main (hM : MATH) {p : Program} {e : Env} {s : State} {m : MethodId} {below : List Frame} {meth : Method} {c : Code} (l : Launch) (hflags : l.flags = flags0) {b L : Nat} {xs : Nat → Int32} (hL : L ≤ 3072) (C0 : lw_At p s m meth c b L xs) : W p l e room_1 s m #[Value.ref b] below meth c s.heap [] 0 0 (lw_Z below #[Value.ref b] s) (entryFrame m ([Value.ref b] : List Value).toArray 7) := by
  obtain ⟨hx, hb, hr, hml, hown, hts, hX, hbl, hlocks, hgv⟩ := C0
  obtain ⟨g, hg, hkv, hV⟩ := st_KV hts hgv
  have hK := hkv.2.2.2.2.1.2
  have C : CXT p l s m #[Value.ref b] meth c RL cL_law_ 7 g := ⟨hx, hb, hml, hown, hkv, hlocks, st_flags hflags, by rw [hg]; exact Nat.le_refl _, fun q _ => by rw [hg]⟩
  have hv := s_L_law_ (e := e) (below := below) C hr ⟨by rw [hg]; exact hbl, hX⟩ (hM xs L b g.2.2.2.1 g.2.2.2.2 hL hK hV)
  have hl0 := lv_entry ([.ref b]) (n := 7) (Nat.le_of_ble_eq_true rfl)
  rw [lg_entry_eq]
  have hw := hv s.heap [] _ (hE_HC hg hK hV) ⟨hl0, fun q hq => by rw [List.mem_singleton.mp hq]; rfl⟩ (fun q hq => by cases hq)
  intro T hT X
  obtain ⟨t, a1, a2⟩ := hw T hT ⟨X.admits, X.cas, X.clock, X.frames, st_room X.room, X.hears, X.method, X.code, X.here, X.tail, X.warmed, X.limits, X.bytes, X.same⟩
  exact ⟨t, a1, st_end hg a2⟩
