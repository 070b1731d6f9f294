/-! constructors -/
theorem mem_sub {L L2 : List Nat} (h : ∀ j, j ∈ L → j ∈ L2) {j : Nat} (hj : j ∈ L) : j ∈ L2 := h j hj
section INITS
variable {hB h : AH} {D0 : Nat → Prop} {A0 A : Nat → Nat} {L : List Nat} {P : List (Nat × Nat)} {W : List (Nat × Nat × Int32)}
theorem al_c10 (HA : AL hB D0 A0 L P W A h) {v0 : Nat} (w_v0 : v0 = A 10) (ho : 10 ∈ L) (hN : ∀ j, j ∈ [1107, 1106, 1105, 1104, 1103, 1102, 1101] → ¬ D0 j ∧ j ∉ L) {K : AH → Prop} (kk : ∀ A' h', AL hB D0 A0 (1107 :: 1106 :: 1105 :: 1104 :: 1103 :: 1102 :: 1101 :: L) ((10, 7) :: (10, 6) :: (10, 5) :: (10, 4) :: (10, 3) :: (10, 2) :: (10, 1) :: P) (W) A' h' → (∀ j, j ∉ [1107, 1106, 1105, 1104, 1103, 1102, 1101] → A' j = A j) → K h') : w_X10_init v0 h K := by
  dsimp only [w_X10_init]
  refine al_A HA (id := 1101) rfl (hN 1101 (by decide)).1 (hN 1101 (by decide)).2 (fun a1 h1 H1 => ?_)
  have w_v0 := w_v0.trans (va_ne (f := A) (k := 1101) (v := a1) (by decide)).symm
  have w_a1 : a1 = (va_up A 1101 a1) 1101 := (va_up_self _ _ _).symm
  refine al_P H1 (o := 10) (k := 1) (t := 1101) w_v0 w_a1 (List.mem_cons_of_mem _ ho) (Or.inl List.mem_cons_self) rfl rfl (fun h2 H2 => ?_)
  refine al_A H2 (id := 1102) rfl (hN 1102 (by decide)).1 (nm (hN 1102 (by decide)).2 (by decide)) (fun a2 h3 H3 => ?_)
  have w_v0 := w_v0.trans (va_ne (f := (va_up A 1101 a1)) (k := 1102) (v := a2) (by decide)).symm
  have w_a1 := w_a1.trans (va_ne (f := (va_up A 1101 a1)) (k := 1102) (v := a2) (by decide)).symm
  have w_a2 : a2 = (va_up (va_up A 1101 a1) 1102 a2) 1102 := (va_up_self _ _ _).symm
  refine al_P H3 (o := 10) (k := 2) (t := 1102) w_v0 w_a2 (List.mem_cons_of_mem _ (List.mem_cons_of_mem _ ho)) (Or.inl List.mem_cons_self) rfl rfl (fun h4 H4 => ?_)
  refine al_A H4 (id := 1103) rfl (hN 1103 (by decide)).1 (nm (nm (hN 1103 (by decide)).2 (by decide)) (by decide)) (fun a3 h5 H5 => ?_)
  have w_v0 := w_v0.trans (va_ne (f := (va_up (va_up A 1101 a1) 1102 a2)) (k := 1103) (v := a3) (by decide)).symm
  have w_a1 := w_a1.trans (va_ne (f := (va_up (va_up A 1101 a1) 1102 a2)) (k := 1103) (v := a3) (by decide)).symm
  have w_a2 := w_a2.trans (va_ne (f := (va_up (va_up A 1101 a1) 1102 a2)) (k := 1103) (v := a3) (by decide)).symm
  have w_a3 : a3 = (va_up (va_up (va_up A 1101 a1) 1102 a2) 1103 a3) 1103 := (va_up_self _ _ _).symm
  refine al_P H5 (o := 10) (k := 3) (t := 1103) w_v0 w_a3 (List.mem_cons_of_mem _ (List.mem_cons_of_mem _ (List.mem_cons_of_mem _ ho))) (Or.inl List.mem_cons_self) rfl rfl (fun h6 H6 => ?_)
  refine al_A H6 (id := 1104) rfl (hN 1104 (by decide)).1 (nm (nm (nm (hN 1104 (by decide)).2 (by decide)) (by decide)) (by decide)) (fun a4 h7 H7 => ?_)
  have w_v0 := w_v0.trans (va_ne (f := (va_up (va_up (va_up A 1101 a1) 1102 a2) 1103 a3)) (k := 1104) (v := a4) (by decide)).symm
  have w_a1 := w_a1.trans (va_ne (f := (va_up (va_up (va_up A 1101 a1) 1102 a2) 1103 a3)) (k := 1104) (v := a4) (by decide)).symm
  have w_a2 := w_a2.trans (va_ne (f := (va_up (va_up (va_up A 1101 a1) 1102 a2) 1103 a3)) (k := 1104) (v := a4) (by decide)).symm
  have w_a3 := w_a3.trans (va_ne (f := (va_up (va_up (va_up A 1101 a1) 1102 a2) 1103 a3)) (k := 1104) (v := a4) (by decide)).symm
  have w_a4 : a4 = (va_up (va_up (va_up (va_up A 1101 a1) 1102 a2) 1103 a3) 1104 a4) 1104 := (va_up_self _ _ _).symm
  refine al_P H7 (o := 10) (k := 4) (t := 1104) w_v0 w_a4 (List.mem_cons_of_mem _ (List.mem_cons_of_mem _ (List.mem_cons_of_mem _ (List.mem_cons_of_mem _ ho)))) (Or.inl List.mem_cons_self) rfl rfl (fun h8 H8 => ?_)
  refine al_A H8 (id := 1105) rfl (hN 1105 (by decide)).1 (nm (nm (nm (nm (hN 1105 (by decide)).2 (by decide)) (by decide)) (by decide)) (by decide)) (fun a5 h9 H9 => ?_)
  have w_v0 := w_v0.trans (va_ne (f := (va_up (va_up (va_up (va_up A 1101 a1) 1102 a2) 1103 a3) 1104 a4)) (k := 1105) (v := a5) (by decide)).symm
  have w_a1 := w_a1.trans (va_ne (f := (va_up (va_up (va_up (va_up A 1101 a1) 1102 a2) 1103 a3) 1104 a4)) (k := 1105) (v := a5) (by decide)).symm
  have w_a2 := w_a2.trans (va_ne (f := (va_up (va_up (va_up (va_up A 1101 a1) 1102 a2) 1103 a3) 1104 a4)) (k := 1105) (v := a5) (by decide)).symm
  have w_a3 := w_a3.trans (va_ne (f := (va_up (va_up (va_up (va_up A 1101 a1) 1102 a2) 1103 a3) 1104 a4)) (k := 1105) (v := a5) (by decide)).symm
  have w_a4 := w_a4.trans (va_ne (f := (va_up (va_up (va_up (va_up A 1101 a1) 1102 a2) 1103 a3) 1104 a4)) (k := 1105) (v := a5) (by decide)).symm
  have w_a5 : a5 = (va_up (va_up (va_up (va_up (va_up A 1101 a1) 1102 a2) 1103 a3) 1104 a4) 1105 a5) 1105 := (va_up_self _ _ _).symm
  refine al_P H9 (o := 10) (k := 5) (t := 1105) w_v0 w_a5 (List.mem_cons_of_mem _ (List.mem_cons_of_mem _ (List.mem_cons_of_mem _ (List.mem_cons_of_mem _ (List.mem_cons_of_mem _ ho))))) (Or.inl List.mem_cons_self) rfl rfl (fun h10 H10 => ?_)
  refine al_A H10 (id := 1106) rfl (hN 1106 (by decide)).1 (nm (nm (nm (nm (nm (hN 1106 (by decide)).2 (by decide)) (by decide)) (by decide)) (by decide)) (by decide)) (fun a6 h11 H11 => ?_)
  have w_v0 := w_v0.trans (va_ne (f := (va_up (va_up (va_up (va_up (va_up A 1101 a1) 1102 a2) 1103 a3) 1104 a4) 1105 a5)) (k := 1106) (v := a6) (by decide)).symm
  have w_a1 := w_a1.trans (va_ne (f := (va_up (va_up (va_up (va_up (va_up A 1101 a1) 1102 a2) 1103 a3) 1104 a4) 1105 a5)) (k := 1106) (v := a6) (by decide)).symm
  have w_a2 := w_a2.trans (va_ne (f := (va_up (va_up (va_up (va_up (va_up A 1101 a1) 1102 a2) 1103 a3) 1104 a4) 1105 a5)) (k := 1106) (v := a6) (by decide)).symm
  have w_a3 := w_a3.trans (va_ne (f := (va_up (va_up (va_up (va_up (va_up A 1101 a1) 1102 a2) 1103 a3) 1104 a4) 1105 a5)) (k := 1106) (v := a6) (by decide)).symm
  have w_a4 := w_a4.trans (va_ne (f := (va_up (va_up (va_up (va_up (va_up A 1101 a1) 1102 a2) 1103 a3) 1104 a4) 1105 a5)) (k := 1106) (v := a6) (by decide)).symm
  have w_a5 := w_a5.trans (va_ne (f := (va_up (va_up (va_up (va_up (va_up A 1101 a1) 1102 a2) 1103 a3) 1104 a4) 1105 a5)) (k := 1106) (v := a6) (by decide)).symm
  have w_a6 : a6 = (va_up (va_up (va_up (va_up (va_up (va_up A 1101 a1) 1102 a2) 1103 a3) 1104 a4) 1105 a5) 1106 a6) 1106 := (va_up_self _ _ _).symm
  refine al_P H11 (o := 10) (k := 6) (t := 1106) w_v0 w_a6 (List.mem_cons_of_mem _ (List.mem_cons_of_mem _ (List.mem_cons_of_mem _ (List.mem_cons_of_mem _ (List.mem_cons_of_mem _ (List.mem_cons_of_mem _ ho)))))) (Or.inl List.mem_cons_self) rfl rfl (fun h12 H12 => ?_)
  refine al_A H12 (id := 1107) rfl (hN 1107 (by decide)).1 (nm (nm (nm (nm (nm (nm (hN 1107 (by decide)).2 (by decide)) (by decide)) (by decide)) (by decide)) (by decide)) (by decide)) (fun a7 h13 H13 => ?_)
  have w_v0 := w_v0.trans (va_ne (f := (va_up (va_up (va_up (va_up (va_up (va_up A 1101 a1) 1102 a2) 1103 a3) 1104 a4) 1105 a5) 1106 a6)) (k := 1107) (v := a7) (by decide)).symm
  have w_a1 := w_a1.trans (va_ne (f := (va_up (va_up (va_up (va_up (va_up (va_up A 1101 a1) 1102 a2) 1103 a3) 1104 a4) 1105 a5) 1106 a6)) (k := 1107) (v := a7) (by decide)).symm
  have w_a2 := w_a2.trans (va_ne (f := (va_up (va_up (va_up (va_up (va_up (va_up A 1101 a1) 1102 a2) 1103 a3) 1104 a4) 1105 a5) 1106 a6)) (k := 1107) (v := a7) (by decide)).symm
  have w_a3 := w_a3.trans (va_ne (f := (va_up (va_up (va_up (va_up (va_up (va_up A 1101 a1) 1102 a2) 1103 a3) 1104 a4) 1105 a5) 1106 a6)) (k := 1107) (v := a7) (by decide)).symm
  have w_a4 := w_a4.trans (va_ne (f := (va_up (va_up (va_up (va_up (va_up (va_up A 1101 a1) 1102 a2) 1103 a3) 1104 a4) 1105 a5) 1106 a6)) (k := 1107) (v := a7) (by decide)).symm
  have w_a5 := w_a5.trans (va_ne (f := (va_up (va_up (va_up (va_up (va_up (va_up A 1101 a1) 1102 a2) 1103 a3) 1104 a4) 1105 a5) 1106 a6)) (k := 1107) (v := a7) (by decide)).symm
  have w_a6 := w_a6.trans (va_ne (f := (va_up (va_up (va_up (va_up (va_up (va_up A 1101 a1) 1102 a2) 1103 a3) 1104 a4) 1105 a5) 1106 a6)) (k := 1107) (v := a7) (by decide)).symm
  have w_a7 : a7 = (va_up (va_up (va_up (va_up (va_up (va_up (va_up A 1101 a1) 1102 a2) 1103 a3) 1104 a4) 1105 a5) 1106 a6) 1107 a7) 1107 := (va_up_self _ _ _).symm
  refine al_P H13 (o := 10) (k := 7) (t := 1107) w_v0 w_a7 (List.mem_cons_of_mem _ (List.mem_cons_of_mem _ (List.mem_cons_of_mem _ (List.mem_cons_of_mem _ (List.mem_cons_of_mem _ (List.mem_cons_of_mem _ (List.mem_cons_of_mem _ ho))))))) (Or.inl List.mem_cons_self) rfl rfl (fun h14 H14 => ?_)
  refine kk _ _ H14 (fun j hj => ?_)
  rw [va_ne (fun z => hj (by rw [z]; decide)), va_ne (fun z => hj (by rw [z]; decide)), va_ne (fun z => hj (by rw [z]; decide)), va_ne (fun z => hj (by rw [z]; decide)), va_ne (fun z => hj (by rw [z]; decide)), va_ne (fun z => hj (by rw [z]; decide)), va_ne (fun z => hj (by rw [z]; decide))]
theorem al_c3 (HA : AL hB D0 A0 L P W A h) {v0 : Nat} (w_v0 : v0 = A 3) (ho : 3 ∈ L) (hN : ∀ j, j ∈ [400] → ¬ D0 j ∧ j ∉ L) {K : AH → Prop} (kk : ∀ A' h', AL hB D0 A0 (400 :: L) ((3, 0) :: P) (W) A' h' → (∀ j, j ∉ [400] → A' j = A j) → K h') : w_X3_init v0 h K := by
  dsimp only [w_X3_init]
  refine al_A HA (id := 400) rfl (hN 400 (by decide)).1 (hN 400 (by decide)).2 (fun a1 h1 H1 => ?_)
  have w_v0 := w_v0.trans (va_ne (f := A) (k := 400) (v := a1) (by decide)).symm
  have w_a1 : a1 = (va_up A 400 a1) 400 := (va_up_self _ _ _).symm
  refine al_P H1 (o := 3) (k := 0) (t := 400) w_v0 w_a1 (List.mem_cons_of_mem _ ho) (Or.inl List.mem_cons_self) rfl rfl (fun h2 H2 => ?_)
  refine kk _ _ H2 (fun j hj => ?_)
  rw [va_ne (fun z => hj (by rw [z]; decide))]
theorem al_c2 (HA : AL hB D0 A0 L P W A h) {v0 : Nat} (w_v0 : v0 = A 2) (ho : 2 ∈ L) (hN : ∀ j, j ∈ [304, 303, 302, 301] → ¬ D0 j ∧ j ∉ L) {K : AH → Prop} (kk : ∀ A' h', AL hB D0 A0 (304 :: 303 :: 302 :: 301 :: L) ((2, 4) :: (2, 3) :: (2, 2) :: (2, 1) :: P) (W) A' h' → (∀ j, j ∉ [304, 303, 302, 301] → A' j = A j) → K h') : w_X2_init v0 h K := by
  dsimp only [w_X2_init]
  refine al_A HA (id := 301) rfl (hN 301 (by decide)).1 (hN 301 (by decide)).2 (fun a1 h1 H1 => ?_)
  have w_v0 := w_v0.trans (va_ne (f := A) (k := 301) (v := a1) (by decide)).symm
  have w_a1 : a1 = (va_up A 301 a1) 301 := (va_up_self _ _ _).symm
  refine al_P H1 (o := 2) (k := 1) (t := 301) w_v0 w_a1 (List.mem_cons_of_mem _ ho) (Or.inl List.mem_cons_self) rfl rfl (fun h2 H2 => ?_)
  refine al_A H2 (id := 302) rfl (hN 302 (by decide)).1 (nm (hN 302 (by decide)).2 (by decide)) (fun a2 h3 H3 => ?_)
  have w_v0 := w_v0.trans (va_ne (f := (va_up A 301 a1)) (k := 302) (v := a2) (by decide)).symm
  have w_a1 := w_a1.trans (va_ne (f := (va_up A 301 a1)) (k := 302) (v := a2) (by decide)).symm
  have w_a2 : a2 = (va_up (va_up A 301 a1) 302 a2) 302 := (va_up_self _ _ _).symm
  refine al_P H3 (o := 2) (k := 2) (t := 302) w_v0 w_a2 (List.mem_cons_of_mem _ (List.mem_cons_of_mem _ ho)) (Or.inl List.mem_cons_self) rfl rfl (fun h4 H4 => ?_)
  refine al_A H4 (id := 303) rfl (hN 303 (by decide)).1 (nm (nm (hN 303 (by decide)).2 (by decide)) (by decide)) (fun a3 h5 H5 => ?_)
  have w_v0 := w_v0.trans (va_ne (f := (va_up (va_up A 301 a1) 302 a2)) (k := 303) (v := a3) (by decide)).symm
  have w_a1 := w_a1.trans (va_ne (f := (va_up (va_up A 301 a1) 302 a2)) (k := 303) (v := a3) (by decide)).symm
  have w_a2 := w_a2.trans (va_ne (f := (va_up (va_up A 301 a1) 302 a2)) (k := 303) (v := a3) (by decide)).symm
  have w_a3 : a3 = (va_up (va_up (va_up A 301 a1) 302 a2) 303 a3) 303 := (va_up_self _ _ _).symm
  refine al_P H5 (o := 2) (k := 3) (t := 303) w_v0 w_a3 (List.mem_cons_of_mem _ (List.mem_cons_of_mem _ (List.mem_cons_of_mem _ ho))) (Or.inl List.mem_cons_self) rfl rfl (fun h6 H6 => ?_)
  refine al_A H6 (id := 304) rfl (hN 304 (by decide)).1 (nm (nm (nm (hN 304 (by decide)).2 (by decide)) (by decide)) (by decide)) (fun a4 h7 H7 => ?_)
  have w_v0 := w_v0.trans (va_ne (f := (va_up (va_up (va_up A 301 a1) 302 a2) 303 a3)) (k := 304) (v := a4) (by decide)).symm
  have w_a1 := w_a1.trans (va_ne (f := (va_up (va_up (va_up A 301 a1) 302 a2) 303 a3)) (k := 304) (v := a4) (by decide)).symm
  have w_a2 := w_a2.trans (va_ne (f := (va_up (va_up (va_up A 301 a1) 302 a2) 303 a3)) (k := 304) (v := a4) (by decide)).symm
  have w_a3 := w_a3.trans (va_ne (f := (va_up (va_up (va_up A 301 a1) 302 a2) 303 a3)) (k := 304) (v := a4) (by decide)).symm
  have w_a4 : a4 = (va_up (va_up (va_up (va_up A 301 a1) 302 a2) 303 a3) 304 a4) 304 := (va_up_self _ _ _).symm
  refine al_P H7 (o := 2) (k := 4) (t := 304) w_v0 w_a4 (List.mem_cons_of_mem _ (List.mem_cons_of_mem _ (List.mem_cons_of_mem _ (List.mem_cons_of_mem _ ho)))) (Or.inl List.mem_cons_self) rfl rfl (fun h8 H8 => ?_)
  refine kk _ _ H8 (fun j hj => ?_)
  rw [va_ne (fun z => hj (by rw [z]; decide)), va_ne (fun z => hj (by rw [z]; decide)), va_ne (fun z => hj (by rw [z]; decide)), va_ne (fun z => hj (by rw [z]; decide))]
theorem al_c4 (HA : AL hB D0 A0 L P W A h) {v0 : Nat} (w_v0 : v0 = A 4) (ho : 4 ∈ L) (hN : ∀ j, j ∈ [506, 505, 504, 503, 502, 501] → ¬ D0 j ∧ j ∉ L) {K : AH → Prop} (kk : ∀ A' h', AL hB D0 A0 (506 :: 505 :: 504 :: 503 :: 502 :: 501 :: L) ((4, 6) :: (4, 5) :: (4, 4) :: (4, 3) :: (4, 2) :: (4, 1) :: P) (W) A' h' → (∀ j, j ∉ [506, 505, 504, 503, 502, 501] → A' j = A j) → K h') : w_X4_init v0 h K := by
  dsimp only [w_X4_init]
  refine al_A HA (id := 501) rfl (hN 501 (by decide)).1 (hN 501 (by decide)).2 (fun a1 h1 H1 => ?_)
  have w_v0 := w_v0.trans (va_ne (f := A) (k := 501) (v := a1) (by decide)).symm
  have w_a1 : a1 = (va_up A 501 a1) 501 := (va_up_self _ _ _).symm
  refine al_P H1 (o := 4) (k := 1) (t := 501) w_v0 w_a1 (List.mem_cons_of_mem _ ho) (Or.inl List.mem_cons_self) rfl rfl (fun h2 H2 => ?_)
  refine al_A H2 (id := 502) rfl (hN 502 (by decide)).1 (nm (hN 502 (by decide)).2 (by decide)) (fun a2 h3 H3 => ?_)
  have w_v0 := w_v0.trans (va_ne (f := (va_up A 501 a1)) (k := 502) (v := a2) (by decide)).symm
  have w_a1 := w_a1.trans (va_ne (f := (va_up A 501 a1)) (k := 502) (v := a2) (by decide)).symm
  have w_a2 : a2 = (va_up (va_up A 501 a1) 502 a2) 502 := (va_up_self _ _ _).symm
  refine al_P H3 (o := 4) (k := 2) (t := 502) w_v0 w_a2 (List.mem_cons_of_mem _ (List.mem_cons_of_mem _ ho)) (Or.inl List.mem_cons_self) rfl rfl (fun h4 H4 => ?_)
  refine al_A H4 (id := 503) rfl (hN 503 (by decide)).1 (nm (nm (hN 503 (by decide)).2 (by decide)) (by decide)) (fun a3 h5 H5 => ?_)
  have w_v0 := w_v0.trans (va_ne (f := (va_up (va_up A 501 a1) 502 a2)) (k := 503) (v := a3) (by decide)).symm
  have w_a1 := w_a1.trans (va_ne (f := (va_up (va_up A 501 a1) 502 a2)) (k := 503) (v := a3) (by decide)).symm
  have w_a2 := w_a2.trans (va_ne (f := (va_up (va_up A 501 a1) 502 a2)) (k := 503) (v := a3) (by decide)).symm
  have w_a3 : a3 = (va_up (va_up (va_up A 501 a1) 502 a2) 503 a3) 503 := (va_up_self _ _ _).symm
  refine al_P H5 (o := 4) (k := 3) (t := 503) w_v0 w_a3 (List.mem_cons_of_mem _ (List.mem_cons_of_mem _ (List.mem_cons_of_mem _ ho))) (Or.inl List.mem_cons_self) rfl rfl (fun h6 H6 => ?_)
  refine al_A H6 (id := 504) rfl (hN 504 (by decide)).1 (nm (nm (nm (hN 504 (by decide)).2 (by decide)) (by decide)) (by decide)) (fun a4 h7 H7 => ?_)
  have w_v0 := w_v0.trans (va_ne (f := (va_up (va_up (va_up A 501 a1) 502 a2) 503 a3)) (k := 504) (v := a4) (by decide)).symm
  have w_a1 := w_a1.trans (va_ne (f := (va_up (va_up (va_up A 501 a1) 502 a2) 503 a3)) (k := 504) (v := a4) (by decide)).symm
  have w_a2 := w_a2.trans (va_ne (f := (va_up (va_up (va_up A 501 a1) 502 a2) 503 a3)) (k := 504) (v := a4) (by decide)).symm
  have w_a3 := w_a3.trans (va_ne (f := (va_up (va_up (va_up A 501 a1) 502 a2) 503 a3)) (k := 504) (v := a4) (by decide)).symm
  have w_a4 : a4 = (va_up (va_up (va_up (va_up A 501 a1) 502 a2) 503 a3) 504 a4) 504 := (va_up_self _ _ _).symm
  refine al_P H7 (o := 4) (k := 4) (t := 504) w_v0 w_a4 (List.mem_cons_of_mem _ (List.mem_cons_of_mem _ (List.mem_cons_of_mem _ (List.mem_cons_of_mem _ ho)))) (Or.inl List.mem_cons_self) rfl rfl (fun h8 H8 => ?_)
  refine al_A H8 (id := 505) rfl (hN 505 (by decide)).1 (nm (nm (nm (nm (hN 505 (by decide)).2 (by decide)) (by decide)) (by decide)) (by decide)) (fun a5 h9 H9 => ?_)
  have w_v0 := w_v0.trans (va_ne (f := (va_up (va_up (va_up (va_up A 501 a1) 502 a2) 503 a3) 504 a4)) (k := 505) (v := a5) (by decide)).symm
  have w_a1 := w_a1.trans (va_ne (f := (va_up (va_up (va_up (va_up A 501 a1) 502 a2) 503 a3) 504 a4)) (k := 505) (v := a5) (by decide)).symm
  have w_a2 := w_a2.trans (va_ne (f := (va_up (va_up (va_up (va_up A 501 a1) 502 a2) 503 a3) 504 a4)) (k := 505) (v := a5) (by decide)).symm
  have w_a3 := w_a3.trans (va_ne (f := (va_up (va_up (va_up (va_up A 501 a1) 502 a2) 503 a3) 504 a4)) (k := 505) (v := a5) (by decide)).symm
  have w_a4 := w_a4.trans (va_ne (f := (va_up (va_up (va_up (va_up A 501 a1) 502 a2) 503 a3) 504 a4)) (k := 505) (v := a5) (by decide)).symm
  have w_a5 : a5 = (va_up (va_up (va_up (va_up (va_up A 501 a1) 502 a2) 503 a3) 504 a4) 505 a5) 505 := (va_up_self _ _ _).symm
  refine al_P H9 (o := 4) (k := 5) (t := 505) w_v0 w_a5 (List.mem_cons_of_mem _ (List.mem_cons_of_mem _ (List.mem_cons_of_mem _ (List.mem_cons_of_mem _ (List.mem_cons_of_mem _ ho))))) (Or.inl List.mem_cons_self) rfl rfl (fun h10 H10 => ?_)
  refine al_A H10 (id := 506) rfl (hN 506 (by decide)).1 (nm (nm (nm (nm (nm (hN 506 (by decide)).2 (by decide)) (by decide)) (by decide)) (by decide)) (by decide)) (fun a6 h11 H11 => ?_)
  have w_v0 := w_v0.trans (va_ne (f := (va_up (va_up (va_up (va_up (va_up A 501 a1) 502 a2) 503 a3) 504 a4) 505 a5)) (k := 506) (v := a6) (by decide)).symm
  have w_a1 := w_a1.trans (va_ne (f := (va_up (va_up (va_up (va_up (va_up A 501 a1) 502 a2) 503 a3) 504 a4) 505 a5)) (k := 506) (v := a6) (by decide)).symm
  have w_a2 := w_a2.trans (va_ne (f := (va_up (va_up (va_up (va_up (va_up A 501 a1) 502 a2) 503 a3) 504 a4) 505 a5)) (k := 506) (v := a6) (by decide)).symm
  have w_a3 := w_a3.trans (va_ne (f := (va_up (va_up (va_up (va_up (va_up A 501 a1) 502 a2) 503 a3) 504 a4) 505 a5)) (k := 506) (v := a6) (by decide)).symm
  have w_a4 := w_a4.trans (va_ne (f := (va_up (va_up (va_up (va_up (va_up A 501 a1) 502 a2) 503 a3) 504 a4) 505 a5)) (k := 506) (v := a6) (by decide)).symm
  have w_a5 := w_a5.trans (va_ne (f := (va_up (va_up (va_up (va_up (va_up A 501 a1) 502 a2) 503 a3) 504 a4) 505 a5)) (k := 506) (v := a6) (by decide)).symm
  have w_a6 : a6 = (va_up (va_up (va_up (va_up (va_up (va_up A 501 a1) 502 a2) 503 a3) 504 a4) 505 a5) 506 a6) 506 := (va_up_self _ _ _).symm
  refine al_P H11 (o := 4) (k := 6) (t := 506) w_v0 w_a6 (List.mem_cons_of_mem _ (List.mem_cons_of_mem _ (List.mem_cons_of_mem _ (List.mem_cons_of_mem _ (List.mem_cons_of_mem _ (List.mem_cons_of_mem _ ho)))))) (Or.inl List.mem_cons_self) rfl rfl (fun h12 H12 => ?_)
  refine kk _ _ H12 (fun j hj => ?_)
  rw [va_ne (fun z => hj (by rw [z]; decide)), va_ne (fun z => hj (by rw [z]; decide)), va_ne (fun z => hj (by rw [z]; decide)), va_ne (fun z => hj (by rw [z]; decide)), va_ne (fun z => hj (by rw [z]; decide)), va_ne (fun z => hj (by rw [z]; decide))]
theorem al_c1 (HA : AL hB D0 A0 L P W A h) {v0 : Nat} (w_v0 : v0 = A 1) (ho : 1 ∈ L) (hN : ∀ j, j ∈ [206, 205, 204, 203, 202, 201] → ¬ D0 j ∧ j ∉ L) {K : AH → Prop} (kk : ∀ A' h', AL hB D0 A0 (206 :: 205 :: 204 :: 203 :: 202 :: 201 :: L) ((1, 6) :: (1, 5) :: (1, 4) :: (1, 3) :: (1, 2) :: (1, 1) :: P) ((1, 7, (9 : Int32)) :: W) A' h' → (∀ j, j ∉ [206, 205, 204, 203, 202, 201] → A' j = A j) → K h') : w_X1_init v0 h K := by
  dsimp only [w_X1_init]
  refine al_A HA (id := 201) rfl (hN 201 (by decide)).1 (hN 201 (by decide)).2 (fun a1 h1 H1 => ?_)
  have w_v0 := w_v0.trans (va_ne (f := A) (k := 201) (v := a1) (by decide)).symm
  have w_a1 : a1 = (va_up A 201 a1) 201 := (va_up_self _ _ _).symm
  refine al_P H1 (o := 1) (k := 1) (t := 201) w_v0 w_a1 (List.mem_cons_of_mem _ ho) (Or.inl List.mem_cons_self) rfl rfl (fun h2 H2 => ?_)
  refine al_A H2 (id := 202) rfl (hN 202 (by decide)).1 (nm (hN 202 (by decide)).2 (by decide)) (fun a2 h3 H3 => ?_)
  have w_v0 := w_v0.trans (va_ne (f := (va_up A 201 a1)) (k := 202) (v := a2) (by decide)).symm
  have w_a1 := w_a1.trans (va_ne (f := (va_up A 201 a1)) (k := 202) (v := a2) (by decide)).symm
  have w_a2 : a2 = (va_up (va_up A 201 a1) 202 a2) 202 := (va_up_self _ _ _).symm
  refine al_P H3 (o := 1) (k := 2) (t := 202) w_v0 w_a2 (List.mem_cons_of_mem _ (List.mem_cons_of_mem _ ho)) (Or.inl List.mem_cons_self) rfl rfl (fun h4 H4 => ?_)
  refine al_A H4 (id := 203) rfl (hN 203 (by decide)).1 (nm (nm (hN 203 (by decide)).2 (by decide)) (by decide)) (fun a3 h5 H5 => ?_)
  have w_v0 := w_v0.trans (va_ne (f := (va_up (va_up A 201 a1) 202 a2)) (k := 203) (v := a3) (by decide)).symm
  have w_a1 := w_a1.trans (va_ne (f := (va_up (va_up A 201 a1) 202 a2)) (k := 203) (v := a3) (by decide)).symm
  have w_a2 := w_a2.trans (va_ne (f := (va_up (va_up A 201 a1) 202 a2)) (k := 203) (v := a3) (by decide)).symm
  have w_a3 : a3 = (va_up (va_up (va_up A 201 a1) 202 a2) 203 a3) 203 := (va_up_self _ _ _).symm
  refine al_P H5 (o := 1) (k := 3) (t := 203) w_v0 w_a3 (List.mem_cons_of_mem _ (List.mem_cons_of_mem _ (List.mem_cons_of_mem _ ho))) (Or.inl List.mem_cons_self) rfl rfl (fun h6 H6 => ?_)
  refine al_A H6 (id := 204) rfl (hN 204 (by decide)).1 (nm (nm (nm (hN 204 (by decide)).2 (by decide)) (by decide)) (by decide)) (fun a4 h7 H7 => ?_)
  have w_v0 := w_v0.trans (va_ne (f := (va_up (va_up (va_up A 201 a1) 202 a2) 203 a3)) (k := 204) (v := a4) (by decide)).symm
  have w_a1 := w_a1.trans (va_ne (f := (va_up (va_up (va_up A 201 a1) 202 a2) 203 a3)) (k := 204) (v := a4) (by decide)).symm
  have w_a2 := w_a2.trans (va_ne (f := (va_up (va_up (va_up A 201 a1) 202 a2) 203 a3)) (k := 204) (v := a4) (by decide)).symm
  have w_a3 := w_a3.trans (va_ne (f := (va_up (va_up (va_up A 201 a1) 202 a2) 203 a3)) (k := 204) (v := a4) (by decide)).symm
  have w_a4 : a4 = (va_up (va_up (va_up (va_up A 201 a1) 202 a2) 203 a3) 204 a4) 204 := (va_up_self _ _ _).symm
  refine al_P H7 (o := 1) (k := 4) (t := 204) w_v0 w_a4 (List.mem_cons_of_mem _ (List.mem_cons_of_mem _ (List.mem_cons_of_mem _ (List.mem_cons_of_mem _ ho)))) (Or.inl List.mem_cons_self) rfl rfl (fun h8 H8 => ?_)
  refine al_A H8 (id := 205) rfl (hN 205 (by decide)).1 (nm (nm (nm (nm (hN 205 (by decide)).2 (by decide)) (by decide)) (by decide)) (by decide)) (fun a5 h9 H9 => ?_)
  have w_v0 := w_v0.trans (va_ne (f := (va_up (va_up (va_up (va_up A 201 a1) 202 a2) 203 a3) 204 a4)) (k := 205) (v := a5) (by decide)).symm
  have w_a1 := w_a1.trans (va_ne (f := (va_up (va_up (va_up (va_up A 201 a1) 202 a2) 203 a3) 204 a4)) (k := 205) (v := a5) (by decide)).symm
  have w_a2 := w_a2.trans (va_ne (f := (va_up (va_up (va_up (va_up A 201 a1) 202 a2) 203 a3) 204 a4)) (k := 205) (v := a5) (by decide)).symm
  have w_a3 := w_a3.trans (va_ne (f := (va_up (va_up (va_up (va_up A 201 a1) 202 a2) 203 a3) 204 a4)) (k := 205) (v := a5) (by decide)).symm
  have w_a4 := w_a4.trans (va_ne (f := (va_up (va_up (va_up (va_up A 201 a1) 202 a2) 203 a3) 204 a4)) (k := 205) (v := a5) (by decide)).symm
  have w_a5 : a5 = (va_up (va_up (va_up (va_up (va_up A 201 a1) 202 a2) 203 a3) 204 a4) 205 a5) 205 := (va_up_self _ _ _).symm
  refine al_P H9 (o := 1) (k := 5) (t := 205) w_v0 w_a5 (List.mem_cons_of_mem _ (List.mem_cons_of_mem _ (List.mem_cons_of_mem _ (List.mem_cons_of_mem _ (List.mem_cons_of_mem _ ho))))) (Or.inl List.mem_cons_self) rfl rfl (fun h10 H10 => ?_)
  refine al_A H10 (id := 206) rfl (hN 206 (by decide)).1 (nm (nm (nm (nm (nm (hN 206 (by decide)).2 (by decide)) (by decide)) (by decide)) (by decide)) (by decide)) (fun a6 h11 H11 => ?_)
  have w_v0 := w_v0.trans (va_ne (f := (va_up (va_up (va_up (va_up (va_up A 201 a1) 202 a2) 203 a3) 204 a4) 205 a5)) (k := 206) (v := a6) (by decide)).symm
  have w_a1 := w_a1.trans (va_ne (f := (va_up (va_up (va_up (va_up (va_up A 201 a1) 202 a2) 203 a3) 204 a4) 205 a5)) (k := 206) (v := a6) (by decide)).symm
  have w_a2 := w_a2.trans (va_ne (f := (va_up (va_up (va_up (va_up (va_up A 201 a1) 202 a2) 203 a3) 204 a4) 205 a5)) (k := 206) (v := a6) (by decide)).symm
  have w_a3 := w_a3.trans (va_ne (f := (va_up (va_up (va_up (va_up (va_up A 201 a1) 202 a2) 203 a3) 204 a4) 205 a5)) (k := 206) (v := a6) (by decide)).symm
  have w_a4 := w_a4.trans (va_ne (f := (va_up (va_up (va_up (va_up (va_up A 201 a1) 202 a2) 203 a3) 204 a4) 205 a5)) (k := 206) (v := a6) (by decide)).symm
  have w_a5 := w_a5.trans (va_ne (f := (va_up (va_up (va_up (va_up (va_up A 201 a1) 202 a2) 203 a3) 204 a4) 205 a5)) (k := 206) (v := a6) (by decide)).symm
  have w_a6 : a6 = (va_up (va_up (va_up (va_up (va_up (va_up A 201 a1) 202 a2) 203 a3) 204 a4) 205 a5) 206 a6) 206 := (va_up_self _ _ _).symm
  refine al_P H11 (o := 1) (k := 6) (t := 206) w_v0 w_a6 (List.mem_cons_of_mem _ (List.mem_cons_of_mem _ (List.mem_cons_of_mem _ (List.mem_cons_of_mem _ (List.mem_cons_of_mem _ (List.mem_cons_of_mem _ ho)))))) (Or.inl List.mem_cons_self) rfl rfl (fun h12 H12 => ?_)
  refine al_I H12 (o := 1) (k := 7) w_v0 (List.mem_cons_of_mem _ (List.mem_cons_of_mem _ (List.mem_cons_of_mem _ (List.mem_cons_of_mem _ (List.mem_cons_of_mem _ (List.mem_cons_of_mem _ ho)))))) rfl (fun h13 H13 => ?_)
  refine kk _ _ H13 (fun j hj => ?_)
  rw [va_ne (fun z => hj (by rw [z]; decide)), va_ne (fun z => hj (by rw [z]; decide)), va_ne (fun z => hj (by rw [z]; decide)), va_ne (fun z => hj (by rw [z]; decide)), va_ne (fun z => hj (by rw [z]; decide)), va_ne (fun z => hj (by rw [z]; decide))]
theorem al_c9 (HA : AL hB D0 A0 L P W A h) {v0 : Nat} (w_v0 : v0 = A 9) (ho : 9 ∈ L) (hN : ∀ j, j ∈ [1008, 1007, 1006, 1004, 1003, 1002, 1001] → ¬ D0 j ∧ j ∉ L) {K : AH → Prop} (kk : ∀ A' h', AL hB D0 A0 (1008 :: 1007 :: 1006 :: 1004 :: 1003 :: 1002 :: 1001 :: L) ((9, 8) :: (9, 7) :: (9, 6) :: (9, 4) :: (9, 3) :: (9, 2) :: (9, 1) :: P) (W) A' h' → (∀ j, j ∉ [1008, 1007, 1006, 1004, 1003, 1002, 1001] → A' j = A j) → K h') : w_X9_init v0 h K := by
  dsimp only [w_X9_init]
  refine al_A HA (id := 1001) rfl (hN 1001 (by decide)).1 (hN 1001 (by decide)).2 (fun a1 h1 H1 => ?_)
  have w_v0 := w_v0.trans (va_ne (f := A) (k := 1001) (v := a1) (by decide)).symm
  have w_a1 : a1 = (va_up A 1001 a1) 1001 := (va_up_self _ _ _).symm
  refine al_P H1 (o := 9) (k := 1) (t := 1001) w_v0 w_a1 (List.mem_cons_of_mem _ ho) (Or.inl List.mem_cons_self) rfl rfl (fun h2 H2 => ?_)
  refine al_A H2 (id := 1002) rfl (hN 1002 (by decide)).1 (nm (hN 1002 (by decide)).2 (by decide)) (fun a2 h3 H3 => ?_)
  have w_v0 := w_v0.trans (va_ne (f := (va_up A 1001 a1)) (k := 1002) (v := a2) (by decide)).symm
  have w_a1 := w_a1.trans (va_ne (f := (va_up A 1001 a1)) (k := 1002) (v := a2) (by decide)).symm
  have w_a2 : a2 = (va_up (va_up A 1001 a1) 1002 a2) 1002 := (va_up_self _ _ _).symm
  refine al_P H3 (o := 9) (k := 2) (t := 1002) w_v0 w_a2 (List.mem_cons_of_mem _ (List.mem_cons_of_mem _ ho)) (Or.inl List.mem_cons_self) rfl rfl (fun h4 H4 => ?_)
  refine al_A H4 (id := 1003) rfl (hN 1003 (by decide)).1 (nm (nm (hN 1003 (by decide)).2 (by decide)) (by decide)) (fun a3 h5 H5 => ?_)
  have w_v0 := w_v0.trans (va_ne (f := (va_up (va_up A 1001 a1) 1002 a2)) (k := 1003) (v := a3) (by decide)).symm
  have w_a1 := w_a1.trans (va_ne (f := (va_up (va_up A 1001 a1) 1002 a2)) (k := 1003) (v := a3) (by decide)).symm
  have w_a2 := w_a2.trans (va_ne (f := (va_up (va_up A 1001 a1) 1002 a2)) (k := 1003) (v := a3) (by decide)).symm
  have w_a3 : a3 = (va_up (va_up (va_up A 1001 a1) 1002 a2) 1003 a3) 1003 := (va_up_self _ _ _).symm
  refine al_P H5 (o := 9) (k := 3) (t := 1003) w_v0 w_a3 (List.mem_cons_of_mem _ (List.mem_cons_of_mem _ (List.mem_cons_of_mem _ ho))) (Or.inl List.mem_cons_self) rfl rfl (fun h6 H6 => ?_)
  refine al_A H6 (id := 1004) rfl (hN 1004 (by decide)).1 (nm (nm (nm (hN 1004 (by decide)).2 (by decide)) (by decide)) (by decide)) (fun a4 h7 H7 => ?_)
  have w_v0 := w_v0.trans (va_ne (f := (va_up (va_up (va_up A 1001 a1) 1002 a2) 1003 a3)) (k := 1004) (v := a4) (by decide)).symm
  have w_a1 := w_a1.trans (va_ne (f := (va_up (va_up (va_up A 1001 a1) 1002 a2) 1003 a3)) (k := 1004) (v := a4) (by decide)).symm
  have w_a2 := w_a2.trans (va_ne (f := (va_up (va_up (va_up A 1001 a1) 1002 a2) 1003 a3)) (k := 1004) (v := a4) (by decide)).symm
  have w_a3 := w_a3.trans (va_ne (f := (va_up (va_up (va_up A 1001 a1) 1002 a2) 1003 a3)) (k := 1004) (v := a4) (by decide)).symm
  have w_a4 : a4 = (va_up (va_up (va_up (va_up A 1001 a1) 1002 a2) 1003 a3) 1004 a4) 1004 := (va_up_self _ _ _).symm
  refine al_P H7 (o := 9) (k := 4) (t := 1004) w_v0 w_a4 (List.mem_cons_of_mem _ (List.mem_cons_of_mem _ (List.mem_cons_of_mem _ (List.mem_cons_of_mem _ ho)))) (Or.inl List.mem_cons_self) rfl rfl (fun h8 H8 => ?_)
  refine al_A H8 (id := 1006) rfl (hN 1006 (by decide)).1 (nm (nm (nm (nm (hN 1006 (by decide)).2 (by decide)) (by decide)) (by decide)) (by decide)) (fun a5 h9 H9 => ?_)
  have w_v0 := w_v0.trans (va_ne (f := (va_up (va_up (va_up (va_up A 1001 a1) 1002 a2) 1003 a3) 1004 a4)) (k := 1006) (v := a5) (by decide)).symm
  have w_a1 := w_a1.trans (va_ne (f := (va_up (va_up (va_up (va_up A 1001 a1) 1002 a2) 1003 a3) 1004 a4)) (k := 1006) (v := a5) (by decide)).symm
  have w_a2 := w_a2.trans (va_ne (f := (va_up (va_up (va_up (va_up A 1001 a1) 1002 a2) 1003 a3) 1004 a4)) (k := 1006) (v := a5) (by decide)).symm
  have w_a3 := w_a3.trans (va_ne (f := (va_up (va_up (va_up (va_up A 1001 a1) 1002 a2) 1003 a3) 1004 a4)) (k := 1006) (v := a5) (by decide)).symm
  have w_a4 := w_a4.trans (va_ne (f := (va_up (va_up (va_up (va_up A 1001 a1) 1002 a2) 1003 a3) 1004 a4)) (k := 1006) (v := a5) (by decide)).symm
  have w_a5 : a5 = (va_up (va_up (va_up (va_up (va_up A 1001 a1) 1002 a2) 1003 a3) 1004 a4) 1006 a5) 1006 := (va_up_self _ _ _).symm
  refine al_P H9 (o := 9) (k := 6) (t := 1006) w_v0 w_a5 (List.mem_cons_of_mem _ (List.mem_cons_of_mem _ (List.mem_cons_of_mem _ (List.mem_cons_of_mem _ (List.mem_cons_of_mem _ ho))))) (Or.inl List.mem_cons_self) rfl rfl (fun h10 H10 => ?_)
  refine al_A H10 (id := 1007) rfl (hN 1007 (by decide)).1 (nm (nm (nm (nm (nm (hN 1007 (by decide)).2 (by decide)) (by decide)) (by decide)) (by decide)) (by decide)) (fun a6 h11 H11 => ?_)
  have w_v0 := w_v0.trans (va_ne (f := (va_up (va_up (va_up (va_up (va_up A 1001 a1) 1002 a2) 1003 a3) 1004 a4) 1006 a5)) (k := 1007) (v := a6) (by decide)).symm
  have w_a1 := w_a1.trans (va_ne (f := (va_up (va_up (va_up (va_up (va_up A 1001 a1) 1002 a2) 1003 a3) 1004 a4) 1006 a5)) (k := 1007) (v := a6) (by decide)).symm
  have w_a2 := w_a2.trans (va_ne (f := (va_up (va_up (va_up (va_up (va_up A 1001 a1) 1002 a2) 1003 a3) 1004 a4) 1006 a5)) (k := 1007) (v := a6) (by decide)).symm
  have w_a3 := w_a3.trans (va_ne (f := (va_up (va_up (va_up (va_up (va_up A 1001 a1) 1002 a2) 1003 a3) 1004 a4) 1006 a5)) (k := 1007) (v := a6) (by decide)).symm
  have w_a4 := w_a4.trans (va_ne (f := (va_up (va_up (va_up (va_up (va_up A 1001 a1) 1002 a2) 1003 a3) 1004 a4) 1006 a5)) (k := 1007) (v := a6) (by decide)).symm
  have w_a5 := w_a5.trans (va_ne (f := (va_up (va_up (va_up (va_up (va_up A 1001 a1) 1002 a2) 1003 a3) 1004 a4) 1006 a5)) (k := 1007) (v := a6) (by decide)).symm
  have w_a6 : a6 = (va_up (va_up (va_up (va_up (va_up (va_up A 1001 a1) 1002 a2) 1003 a3) 1004 a4) 1006 a5) 1007 a6) 1007 := (va_up_self _ _ _).symm
  refine al_P H11 (o := 9) (k := 7) (t := 1007) w_v0 w_a6 (List.mem_cons_of_mem _ (List.mem_cons_of_mem _ (List.mem_cons_of_mem _ (List.mem_cons_of_mem _ (List.mem_cons_of_mem _ (List.mem_cons_of_mem _ ho)))))) (Or.inl List.mem_cons_self) rfl rfl (fun h12 H12 => ?_)
  refine al_A H12 (id := 1008) rfl (hN 1008 (by decide)).1 (nm (nm (nm (nm (nm (nm (hN 1008 (by decide)).2 (by decide)) (by decide)) (by decide)) (by decide)) (by decide)) (by decide)) (fun a7 h13 H13 => ?_)
  have w_v0 := w_v0.trans (va_ne (f := (va_up (va_up (va_up (va_up (va_up (va_up A 1001 a1) 1002 a2) 1003 a3) 1004 a4) 1006 a5) 1007 a6)) (k := 1008) (v := a7) (by decide)).symm
  have w_a1 := w_a1.trans (va_ne (f := (va_up (va_up (va_up (va_up (va_up (va_up A 1001 a1) 1002 a2) 1003 a3) 1004 a4) 1006 a5) 1007 a6)) (k := 1008) (v := a7) (by decide)).symm
  have w_a2 := w_a2.trans (va_ne (f := (va_up (va_up (va_up (va_up (va_up (va_up A 1001 a1) 1002 a2) 1003 a3) 1004 a4) 1006 a5) 1007 a6)) (k := 1008) (v := a7) (by decide)).symm
  have w_a3 := w_a3.trans (va_ne (f := (va_up (va_up (va_up (va_up (va_up (va_up A 1001 a1) 1002 a2) 1003 a3) 1004 a4) 1006 a5) 1007 a6)) (k := 1008) (v := a7) (by decide)).symm
  have w_a4 := w_a4.trans (va_ne (f := (va_up (va_up (va_up (va_up (va_up (va_up A 1001 a1) 1002 a2) 1003 a3) 1004 a4) 1006 a5) 1007 a6)) (k := 1008) (v := a7) (by decide)).symm
  have w_a5 := w_a5.trans (va_ne (f := (va_up (va_up (va_up (va_up (va_up (va_up A 1001 a1) 1002 a2) 1003 a3) 1004 a4) 1006 a5) 1007 a6)) (k := 1008) (v := a7) (by decide)).symm
  have w_a6 := w_a6.trans (va_ne (f := (va_up (va_up (va_up (va_up (va_up (va_up A 1001 a1) 1002 a2) 1003 a3) 1004 a4) 1006 a5) 1007 a6)) (k := 1008) (v := a7) (by decide)).symm
  have w_a7 : a7 = (va_up (va_up (va_up (va_up (va_up (va_up (va_up A 1001 a1) 1002 a2) 1003 a3) 1004 a4) 1006 a5) 1007 a6) 1008 a7) 1008 := (va_up_self _ _ _).symm
  refine al_P H13 (o := 9) (k := 8) (t := 1008) w_v0 w_a7 (List.mem_cons_of_mem _ (List.mem_cons_of_mem _ (List.mem_cons_of_mem _ (List.mem_cons_of_mem _ (List.mem_cons_of_mem _ (List.mem_cons_of_mem _ (List.mem_cons_of_mem _ ho))))))) (Or.inl List.mem_cons_self) rfl rfl (fun h14 H14 => ?_)
  refine kk _ _ H14 (fun j hj => ?_)
  rw [va_ne (fun z => hj (by rw [z]; decide)), va_ne (fun z => hj (by rw [z]; decide)), va_ne (fun z => hj (by rw [z]; decide)), va_ne (fun z => hj (by rw [z]; decide)), va_ne (fun z => hj (by rw [z]; decide)), va_ne (fun z => hj (by rw [z]; decide)), va_ne (fun z => hj (by rw [z]; decide))]
theorem al_c7 (HA : AL hB D0 A0 L P W A h) {v0 : Nat} (w_v0 : v0 = A 7) (ho : 7 ∈ L) (hN : ∀ j, j ∈ [808, 807, 805, 1008, 1007, 1006, 1004, 1003, 1002, 1001, 9, 206, 205, 204, 203, 202, 201, 1, 506, 505, 504, 503, 502, 501, 4, 304, 303, 302, 301, 2, 400, 3] → ¬ D0 j ∧ j ∉ L) {K : AH → Prop} (kk : ∀ A' h', AL hB D0 A0 (808 :: 807 :: 805 :: 1008 :: 1007 :: 1006 :: 1004 :: 1003 :: 1002 :: 1001 :: 9 :: 206 :: 205 :: 204 :: 203 :: 202 :: 201 :: 1 :: 506 :: 505 :: 504 :: 503 :: 502 :: 501 :: 4 :: 304 :: 303 :: 302 :: 301 :: 2 :: 400 :: 3 :: L) ((7, 8) :: (7, 7) :: (7, 5) :: (7, 4) :: (9, 8) :: (9, 7) :: (9, 6) :: (9, 4) :: (9, 3) :: (9, 2) :: (9, 1) :: (7, 3) :: (1, 6) :: (1, 5) :: (1, 4) :: (1, 3) :: (1, 2) :: (1, 1) :: (7, 2) :: (4, 6) :: (4, 5) :: (4, 4) :: (4, 3) :: (4, 2) :: (4, 1) :: (7, 1) :: (2, 4) :: (2, 3) :: (2, 2) :: (2, 1) :: (7, 0) :: (3, 0) :: P) ((7, 10, (1876 : Int32)) :: (1, 7, (9 : Int32)) :: W) A' h' → (∀ j, j ∉ [808, 807, 805, 1008, 1007, 1006, 1004, 1003, 1002, 1001, 9, 206, 205, 204, 203, 202, 201, 1, 506, 505, 504, 503, 502, 501, 4, 304, 303, 302, 301, 2, 400, 3] → A' j = A j) → K h') : w_X7_init v0 h K := by
  dsimp only [w_X7_init]
  refine al_O HA (id := 3) rfl (by decide) (hN 3 (by decide)).1 (hN 3 (by decide)).2 (fun a1 h1 H1 => ?_)
  have w_v0 := w_v0.trans (va_ne (f := A) (k := 3) (v := a1) (by decide)).symm
  have w_a1 : a1 = (va_up A 3 a1) 3 := (va_up_self _ _ _).symm
  refine al_c3 H1 w_a1 List.mem_cons_self (fun j hj => ⟨(hN j (mem_sub (by decide) hj)).1, (nm (hN j (mem_sub (by decide) hj)).2 (fun z => absurd hj (by rw [z]; decide)))⟩) (fun A2 h2 H2 e2 => ?_)
  have w_v0 := w_v0.trans (e2 7 (by decide)).symm
  have w_a1 := w_a1.trans (e2 3 (by decide)).symm
  refine al_P H2 (o := 7) (k := 0) (t := 3) w_v0 w_a1 (List.mem_cons_of_mem _ (List.mem_cons_of_mem _ ho)) (Or.inl (List.mem_cons_of_mem _ List.mem_cons_self)) rfl rfl (fun h3 H3 => ?_)
  refine al_O H3 (id := 2) rfl (by decide) (hN 2 (by decide)).1 (nm (nm (hN 2 (by decide)).2 (by decide)) (by decide)) (fun a2 h4 H4 => ?_)
  have w_v0 := w_v0.trans (va_ne (f := A2) (k := 2) (v := a2) (by decide)).symm
  have w_a1 := w_a1.trans (va_ne (f := A2) (k := 2) (v := a2) (by decide)).symm
  have w_a2 : a2 = (va_up A2 2 a2) 2 := (va_up_self _ _ _).symm
  refine al_c2 H4 w_a2 List.mem_cons_self (fun j hj => ⟨(hN j (mem_sub (by decide) hj)).1, (nm (nm (nm (hN j (mem_sub (by decide) hj)).2 (fun z => absurd hj (by rw [z]; decide))) (fun z => absurd hj (by rw [z]; decide))) (fun z => absurd hj (by rw [z]; decide)))⟩) (fun A5 h5 H5 e5 => ?_)
  have w_v0 := w_v0.trans (e5 7 (by decide)).symm
  have w_a1 := w_a1.trans (e5 3 (by decide)).symm
  have w_a2 := w_a2.trans (e5 2 (by decide)).symm
  refine al_P H5 (o := 7) (k := 1) (t := 2) w_v0 w_a2 (List.mem_cons_of_mem _ (List.mem_cons_of_mem _ (List.mem_cons_of_mem _ (List.mem_cons_of_mem _ (List.mem_cons_of_mem _ (List.mem_cons_of_mem _ (List.mem_cons_of_mem _ ho))))))) (Or.inl (List.mem_cons_of_mem _ (List.mem_cons_of_mem _ (List.mem_cons_of_mem _ (List.mem_cons_of_mem _ List.mem_cons_self))))) rfl rfl (fun h6 H6 => ?_)
  refine al_O H6 (id := 4) rfl (by decide) (hN 4 (by decide)).1 (nm (nm (nm (nm (nm (nm (nm (hN 4 (by decide)).2 (by decide)) (by decide)) (by decide)) (by decide)) (by decide)) (by decide)) (by decide)) (fun a3 h7 H7 => ?_)
  have w_v0 := w_v0.trans (va_ne (f := A5) (k := 4) (v := a3) (by decide)).symm
  have w_a1 := w_a1.trans (va_ne (f := A5) (k := 4) (v := a3) (by decide)).symm
  have w_a2 := w_a2.trans (va_ne (f := A5) (k := 4) (v := a3) (by decide)).symm
  have w_a3 : a3 = (va_up A5 4 a3) 4 := (va_up_self _ _ _).symm
  refine al_c4 H7 w_a3 List.mem_cons_self (fun j hj => ⟨(hN j (mem_sub (by decide) hj)).1, (nm (nm (nm (nm (nm (nm (nm (nm (hN j (mem_sub (by decide) hj)).2 (fun z => absurd hj (by rw [z]; decide))) (fun z => absurd hj (by rw [z]; decide))) (fun z => absurd hj (by rw [z]; decide))) (fun z => absurd hj (by rw [z]; decide))) (fun z => absurd hj (by rw [z]; decide))) (fun z => absurd hj (by rw [z]; decide))) (fun z => absurd hj (by rw [z]; decide))) (fun z => absurd hj (by rw [z]; decide)))⟩) (fun A8 h8 H8 e8 => ?_)
  have w_v0 := w_v0.trans (e8 7 (by decide)).symm
  have w_a1 := w_a1.trans (e8 3 (by decide)).symm
  have w_a2 := w_a2.trans (e8 2 (by decide)).symm
  have w_a3 := w_a3.trans (e8 4 (by decide)).symm
  refine al_P H8 (o := 7) (k := 2) (t := 4) w_v0 w_a3 (List.mem_cons_of_mem _ (List.mem_cons_of_mem _ (List.mem_cons_of_mem _ (List.mem_cons_of_mem _ (List.mem_cons_of_mem _ (List.mem_cons_of_mem _ (List.mem_cons_of_mem _ (List.mem_cons_of_mem _ (List.mem_cons_of_mem _ (List.mem_cons_of_mem _ (List.mem_cons_of_mem _ (List.mem_cons_of_mem _ (List.mem_cons_of_mem _ (List.mem_cons_of_mem _ ho)))))))))))))) (Or.inl (List.mem_cons_of_mem _ (List.mem_cons_of_mem _ (List.mem_cons_of_mem _ (List.mem_cons_of_mem _ (List.mem_cons_of_mem _ (List.mem_cons_of_mem _ List.mem_cons_self))))))) rfl rfl (fun h9 H9 => ?_)
  refine al_O H9 (id := 1) rfl (by decide) (hN 1 (by decide)).1 (nm (nm (nm (nm (nm (nm (nm (nm (nm (nm (nm (nm (nm (nm (hN 1 (by decide)).2 (by decide)) (by decide)) (by decide)) (by decide)) (by decide)) (by decide)) (by decide)) (by decide)) (by decide)) (by decide)) (by decide)) (by decide)) (by decide)) (by decide)) (fun a4 h10 H10 => ?_)
  have w_v0 := w_v0.trans (va_ne (f := A8) (k := 1) (v := a4) (by decide)).symm
  have w_a1 := w_a1.trans (va_ne (f := A8) (k := 1) (v := a4) (by decide)).symm
  have w_a2 := w_a2.trans (va_ne (f := A8) (k := 1) (v := a4) (by decide)).symm
  have w_a3 := w_a3.trans (va_ne (f := A8) (k := 1) (v := a4) (by decide)).symm
  have w_a4 : a4 = (va_up A8 1 a4) 1 := (va_up_self _ _ _).symm
  refine al_c1 H10 w_a4 List.mem_cons_self (fun j hj => ⟨(hN j (mem_sub (by decide) hj)).1, (nm (nm (nm (nm (nm (nm (nm (nm (nm (nm (nm (nm (nm (nm (nm (hN j (mem_sub (by decide) hj)).2 (fun z => absurd hj (by rw [z]; decide))) (fun z => absurd hj (by rw [z]; decide))) (fun z => absurd hj (by rw [z]; decide))) (fun z => absurd hj (by rw [z]; decide))) (fun z => absurd hj (by rw [z]; decide))) (fun z => absurd hj (by rw [z]; decide))) (fun z => absurd hj (by rw [z]; decide))) (fun z => absurd hj (by rw [z]; decide))) (fun z => absurd hj (by rw [z]; decide))) (fun z => absurd hj (by rw [z]; decide))) (fun z => absurd hj (by rw [z]; decide))) (fun z => absurd hj (by rw [z]; decide))) (fun z => absurd hj (by rw [z]; decide))) (fun z => absurd hj (by rw [z]; decide))) (fun z => absurd hj (by rw [z]; decide)))⟩) (fun A11 h11 H11 e11 => ?_)
  have w_v0 := w_v0.trans (e11 7 (by decide)).symm
  have w_a1 := w_a1.trans (e11 3 (by decide)).symm
  have w_a2 := w_a2.trans (e11 2 (by decide)).symm
  have w_a3 := w_a3.trans (e11 4 (by decide)).symm
  have w_a4 := w_a4.trans (e11 1 (by decide)).symm
  refine al_P H11 (o := 7) (k := 3) (t := 1) w_v0 w_a4 (List.mem_cons_of_mem _ (List.mem_cons_of_mem _ (List.mem_cons_of_mem _ (List.mem_cons_of_mem _ (List.mem_cons_of_mem _ (List.mem_cons_of_mem _ (List.mem_cons_of_mem _ (List.mem_cons_of_mem _ (List.mem_cons_of_mem _ (List.mem_cons_of_mem _ (List.mem_cons_of_mem _ (List.mem_cons_of_mem _ (List.mem_cons_of_mem _ (List.mem_cons_of_mem _ (List.mem_cons_of_mem _ (List.mem_cons_of_mem _ (List.mem_cons_of_mem _ (List.mem_cons_of_mem _ (List.mem_cons_of_mem _ (List.mem_cons_of_mem _ (List.mem_cons_of_mem _ ho))))))))))))))))))))) (Or.inl (List.mem_cons_of_mem _ (List.mem_cons_of_mem _ (List.mem_cons_of_mem _ (List.mem_cons_of_mem _ (List.mem_cons_of_mem _ (List.mem_cons_of_mem _ List.mem_cons_self))))))) rfl rfl (fun h12 H12 => ?_)
  refine al_O H12 (id := 9) rfl (by decide) (hN 9 (by decide)).1 (nm (nm (nm (nm (nm (nm (nm (nm (nm (nm (nm (nm (nm (nm (nm (nm (nm (nm (nm (nm (nm (hN 9 (by decide)).2 (by decide)) (by decide)) (by decide)) (by decide)) (by decide)) (by decide)) (by decide)) (by decide)) (by decide)) (by decide)) (by decide)) (by decide)) (by decide)) (by decide)) (by decide)) (by decide)) (by decide)) (by decide)) (by decide)) (by decide)) (by decide)) (fun a5 h13 H13 => ?_)
  have w_v0 := w_v0.trans (va_ne (f := A11) (k := 9) (v := a5) (by decide)).symm
  have w_a1 := w_a1.trans (va_ne (f := A11) (k := 9) (v := a5) (by decide)).symm
  have w_a2 := w_a2.trans (va_ne (f := A11) (k := 9) (v := a5) (by decide)).symm
  have w_a3 := w_a3.trans (va_ne (f := A11) (k := 9) (v := a5) (by decide)).symm
  have w_a4 := w_a4.trans (va_ne (f := A11) (k := 9) (v := a5) (by decide)).symm
  have w_a5 : a5 = (va_up A11 9 a5) 9 := (va_up_self _ _ _).symm
  refine al_c9 H13 w_a5 List.mem_cons_self (fun j hj => ⟨(hN j (mem_sub (by decide) hj)).1, (nm (nm (nm (nm (nm (nm (nm (nm (nm (nm (nm (nm (nm (nm (nm (nm (nm (nm (nm (nm (nm (nm (hN j (mem_sub (by decide) hj)).2 (fun z => absurd hj (by rw [z]; decide))) (fun z => absurd hj (by rw [z]; decide))) (fun z => absurd hj (by rw [z]; decide))) (fun z => absurd hj (by rw [z]; decide))) (fun z => absurd hj (by rw [z]; decide))) (fun z => absurd hj (by rw [z]; decide))) (fun z => absurd hj (by rw [z]; decide))) (fun z => absurd hj (by rw [z]; decide))) (fun z => absurd hj (by rw [z]; decide))) (fun z => absurd hj (by rw [z]; decide))) (fun z => absurd hj (by rw [z]; decide))) (fun z => absurd hj (by rw [z]; decide))) (fun z => absurd hj (by rw [z]; decide))) (fun z => absurd hj (by rw [z]; decide))) (fun z => absurd hj (by rw [z]; decide))) (fun z => absurd hj (by rw [z]; decide))) (fun z => absurd hj (by rw [z]; decide))) (fun z => absurd hj (by rw [z]; decide))) (fun z => absurd hj (by rw [z]; decide))) (fun z => absurd hj (by rw [z]; decide))) (fun z => absurd hj (by rw [z]; decide))) (fun z => absurd hj (by rw [z]; decide)))⟩) (fun A14 h14 H14 e14 => ?_)
  have w_v0 := w_v0.trans (e14 7 (by decide)).symm
  have w_a1 := w_a1.trans (e14 3 (by decide)).symm
  have w_a2 := w_a2.trans (e14 2 (by decide)).symm
  have w_a3 := w_a3.trans (e14 4 (by decide)).symm
  have w_a4 := w_a4.trans (e14 1 (by decide)).symm
  have w_a5 := w_a5.trans (e14 9 (by decide)).symm
  refine al_P H14 (o := 7) (k := 4) (t := 9) w_v0 w_a5 (List.mem_cons_of_mem _ (List.mem_cons_of_mem _ (List.mem_cons_of_mem _ (List.mem_cons_of_mem _ (List.mem_cons_of_mem _ (List.mem_cons_of_mem _ (List.mem_cons_of_mem _ (List.mem_cons_of_mem _ (List.mem_cons_of_mem _ (List.mem_cons_of_mem _ (List.mem_cons_of_mem _ (List.mem_cons_of_mem _ (List.mem_cons_of_mem _ (List.mem_cons_of_mem _ (List.mem_cons_of_mem _ (List.mem_cons_of_mem _ (List.mem_cons_of_mem _ (List.mem_cons_of_mem _ (List.mem_cons_of_mem _ (List.mem_cons_of_mem _ (List.mem_cons_of_mem _ (List.mem_cons_of_mem _ (List.mem_cons_of_mem _ (List.mem_cons_of_mem _ (List.mem_cons_of_mem _ (List.mem_cons_of_mem _ (List.mem_cons_of_mem _ (List.mem_cons_of_mem _ (List.mem_cons_of_mem _ ho))))))))))))))))))))))))))))) (Or.inl (List.mem_cons_of_mem _ (List.mem_cons_of_mem _ (List.mem_cons_of_mem _ (List.mem_cons_of_mem _ (List.mem_cons_of_mem _ (List.mem_cons_of_mem _ (List.mem_cons_of_mem _ List.mem_cons_self)))))))) rfl rfl (fun h15 H15 => ?_)
  refine al_A H15 (id := 805) rfl (hN 805 (by decide)).1 (nm (nm (nm (nm (nm (nm (nm (nm (nm (nm (nm (nm (nm (nm (nm (nm (nm (nm (nm (nm (nm (nm (nm (nm (nm (nm (nm (nm (nm (hN 805 (by decide)).2 (by decide)) (by decide)) (by decide)) (by decide)) (by decide)) (by decide)) (by decide)) (by decide)) (by decide)) (by decide)) (by decide)) (by decide)) (by decide)) (by decide)) (by decide)) (by decide)) (by decide)) (by decide)) (by decide)) (by decide)) (by decide)) (by decide)) (by decide)) (by decide)) (by decide)) (by decide)) (by decide)) (by decide)) (by decide)) (fun a6 h16 H16 => ?_)
  have w_v0 := w_v0.trans (va_ne (f := A14) (k := 805) (v := a6) (by decide)).symm
  have w_a1 := w_a1.trans (va_ne (f := A14) (k := 805) (v := a6) (by decide)).symm
  have w_a2 := w_a2.trans (va_ne (f := A14) (k := 805) (v := a6) (by decide)).symm
  have w_a3 := w_a3.trans (va_ne (f := A14) (k := 805) (v := a6) (by decide)).symm
  have w_a4 := w_a4.trans (va_ne (f := A14) (k := 805) (v := a6) (by decide)).symm
  have w_a5 := w_a5.trans (va_ne (f := A14) (k := 805) (v := a6) (by decide)).symm
  have w_a6 : a6 = (va_up A14 805 a6) 805 := (va_up_self _ _ _).symm
  refine al_P H16 (o := 7) (k := 5) (t := 805) w_v0 w_a6 (List.mem_cons_of_mem _ (List.mem_cons_of_mem _ (List.mem_cons_of_mem _ (List.mem_cons_of_mem _ (List.mem_cons_of_mem _ (List.mem_cons_of_mem _ (List.mem_cons_of_mem _ (List.mem_cons_of_mem _ (List.mem_cons_of_mem _ (List.mem_cons_of_mem _ (List.mem_cons_of_mem _ (List.mem_cons_of_mem _ (List.mem_cons_of_mem _ (List.mem_cons_of_mem _ (List.mem_cons_of_mem _ (List.mem_cons_of_mem _ (List.mem_cons_of_mem _ (List.mem_cons_of_mem _ (List.mem_cons_of_mem _ (List.mem_cons_of_mem _ (List.mem_cons_of_mem _ (List.mem_cons_of_mem _ (List.mem_cons_of_mem _ (List.mem_cons_of_mem _ (List.mem_cons_of_mem _ (List.mem_cons_of_mem _ (List.mem_cons_of_mem _ (List.mem_cons_of_mem _ (List.mem_cons_of_mem _ (List.mem_cons_of_mem _ ho)))))))))))))))))))))))))))))) (Or.inl List.mem_cons_self) rfl rfl (fun h17 H17 => ?_)
  refine al_A H17 (id := 807) rfl (hN 807 (by decide)).1 (nm (nm (nm (nm (nm (nm (nm (nm (nm (nm (nm (nm (nm (nm (nm (nm (nm (nm (nm (nm (nm (nm (nm (nm (nm (nm (nm (nm (nm (nm (hN 807 (by decide)).2 (by decide)) (by decide)) (by decide)) (by decide)) (by decide)) (by decide)) (by decide)) (by decide)) (by decide)) (by decide)) (by decide)) (by decide)) (by decide)) (by decide)) (by decide)) (by decide)) (by decide)) (by decide)) (by decide)) (by decide)) (by decide)) (by decide)) (by decide)) (by decide)) (by decide)) (by decide)) (by decide)) (by decide)) (by decide)) (by decide)) (fun a7 h18 H18 => ?_)
  have w_v0 := w_v0.trans (va_ne (f := (va_up A14 805 a6)) (k := 807) (v := a7) (by decide)).symm
  have w_a1 := w_a1.trans (va_ne (f := (va_up A14 805 a6)) (k := 807) (v := a7) (by decide)).symm
  have w_a2 := w_a2.trans (va_ne (f := (va_up A14 805 a6)) (k := 807) (v := a7) (by decide)).symm
  have w_a3 := w_a3.trans (va_ne (f := (va_up A14 805 a6)) (k := 807) (v := a7) (by decide)).symm
  have w_a4 := w_a4.trans (va_ne (f := (va_up A14 805 a6)) (k := 807) (v := a7) (by decide)).symm
  have w_a5 := w_a5.trans (va_ne (f := (va_up A14 805 a6)) (k := 807) (v := a7) (by decide)).symm
  have w_a6 := w_a6.trans (va_ne (f := (va_up A14 805 a6)) (k := 807) (v := a7) (by decide)).symm
  have w_a7 : a7 = (va_up (va_up A14 805 a6) 807 a7) 807 := (va_up_self _ _ _).symm
  refine al_P H18 (o := 7) (k := 7) (t := 807) w_v0 w_a7 (List.mem_cons_of_mem _ (List.mem_cons_of_mem _ (List.mem_cons_of_mem _ (List.mem_cons_of_mem _ (List.mem_cons_of_mem _ (List.mem_cons_of_mem _ (List.mem_cons_of_mem _ (List.mem_cons_of_mem _ (List.mem_cons_of_mem _ (List.mem_cons_of_mem _ (List.mem_cons_of_mem _ (List.mem_cons_of_mem _ (List.mem_cons_of_mem _ (List.mem_cons_of_mem _ (List.mem_cons_of_mem _ (List.mem_cons_of_mem _ (List.mem_cons_of_mem _ (List.mem_cons_of_mem _ (List.mem_cons_of_mem _ (List.mem_cons_of_mem _ (List.mem_cons_of_mem _ (List.mem_cons_of_mem _ (List.mem_cons_of_mem _ (List.mem_cons_of_mem _ (List.mem_cons_of_mem _ (List.mem_cons_of_mem _ (List.mem_cons_of_mem _ (List.mem_cons_of_mem _ (List.mem_cons_of_mem _ (List.mem_cons_of_mem _ (List.mem_cons_of_mem _ ho))))))))))))))))))))))))))))))) (Or.inl List.mem_cons_self) rfl rfl (fun h19 H19 => ?_)
  refine al_A H19 (id := 808) rfl (hN 808 (by decide)).1 (nm (nm (nm (nm (nm (nm (nm (nm (nm (nm (nm (nm (nm (nm (nm (nm (nm (nm (nm (nm (nm (nm (nm (nm (nm (nm (nm (nm (nm (nm (nm (hN 808 (by decide)).2 (by decide)) (by decide)) (by decide)) (by decide)) (by decide)) (by decide)) (by decide)) (by decide)) (by decide)) (by decide)) (by decide)) (by decide)) (by decide)) (by decide)) (by decide)) (by decide)) (by decide)) (by decide)) (by decide)) (by decide)) (by decide)) (by decide)) (by decide)) (by decide)) (by decide)) (by decide)) (by decide)) (by decide)) (by decide)) (by decide)) (by decide)) (fun a8 h20 H20 => ?_)
  have w_v0 := w_v0.trans (va_ne (f := (va_up (va_up A14 805 a6) 807 a7)) (k := 808) (v := a8) (by decide)).symm
  have w_a1 := w_a1.trans (va_ne (f := (va_up (va_up A14 805 a6) 807 a7)) (k := 808) (v := a8) (by decide)).symm
  have w_a2 := w_a2.trans (va_ne (f := (va_up (va_up A14 805 a6) 807 a7)) (k := 808) (v := a8) (by decide)).symm
  have w_a3 := w_a3.trans (va_ne (f := (va_up (va_up A14 805 a6) 807 a7)) (k := 808) (v := a8) (by decide)).symm
  have w_a4 := w_a4.trans (va_ne (f := (va_up (va_up A14 805 a6) 807 a7)) (k := 808) (v := a8) (by decide)).symm
  have w_a5 := w_a5.trans (va_ne (f := (va_up (va_up A14 805 a6) 807 a7)) (k := 808) (v := a8) (by decide)).symm
  have w_a6 := w_a6.trans (va_ne (f := (va_up (va_up A14 805 a6) 807 a7)) (k := 808) (v := a8) (by decide)).symm
  have w_a7 := w_a7.trans (va_ne (f := (va_up (va_up A14 805 a6) 807 a7)) (k := 808) (v := a8) (by decide)).symm
  have w_a8 : a8 = (va_up (va_up (va_up A14 805 a6) 807 a7) 808 a8) 808 := (va_up_self _ _ _).symm
  refine al_P H20 (o := 7) (k := 8) (t := 808) w_v0 w_a8 (List.mem_cons_of_mem _ (List.mem_cons_of_mem _ (List.mem_cons_of_mem _ (List.mem_cons_of_mem _ (List.mem_cons_of_mem _ (List.mem_cons_of_mem _ (List.mem_cons_of_mem _ (List.mem_cons_of_mem _ (List.mem_cons_of_mem _ (List.mem_cons_of_mem _ (List.mem_cons_of_mem _ (List.mem_cons_of_mem _ (List.mem_cons_of_mem _ (List.mem_cons_of_mem _ (List.mem_cons_of_mem _ (List.mem_cons_of_mem _ (List.mem_cons_of_mem _ (List.mem_cons_of_mem _ (List.mem_cons_of_mem _ (List.mem_cons_of_mem _ (List.mem_cons_of_mem _ (List.mem_cons_of_mem _ (List.mem_cons_of_mem _ (List.mem_cons_of_mem _ (List.mem_cons_of_mem _ (List.mem_cons_of_mem _ (List.mem_cons_of_mem _ (List.mem_cons_of_mem _ (List.mem_cons_of_mem _ (List.mem_cons_of_mem _ (List.mem_cons_of_mem _ (List.mem_cons_of_mem _ ho)))))))))))))))))))))))))))))))) (Or.inl List.mem_cons_self) rfl rfl (fun h21 H21 => ?_)
  refine al_I H21 (o := 7) (k := 10) w_v0 (List.mem_cons_of_mem _ (List.mem_cons_of_mem _ (List.mem_cons_of_mem _ (List.mem_cons_of_mem _ (List.mem_cons_of_mem _ (List.mem_cons_of_mem _ (List.mem_cons_of_mem _ (List.mem_cons_of_mem _ (List.mem_cons_of_mem _ (List.mem_cons_of_mem _ (List.mem_cons_of_mem _ (List.mem_cons_of_mem _ (List.mem_cons_of_mem _ (List.mem_cons_of_mem _ (List.mem_cons_of_mem _ (List.mem_cons_of_mem _ (List.mem_cons_of_mem _ (List.mem_cons_of_mem _ (List.mem_cons_of_mem _ (List.mem_cons_of_mem _ (List.mem_cons_of_mem _ (List.mem_cons_of_mem _ (List.mem_cons_of_mem _ (List.mem_cons_of_mem _ (List.mem_cons_of_mem _ (List.mem_cons_of_mem _ (List.mem_cons_of_mem _ (List.mem_cons_of_mem _ (List.mem_cons_of_mem _ (List.mem_cons_of_mem _ (List.mem_cons_of_mem _ (List.mem_cons_of_mem _ ho)))))))))))))))))))))))))))))))) rfl (fun h22 H22 => ?_)
  refine kk _ _ H22 (fun j hj => ?_)
  rw [va_ne (fun z => hj (by rw [z]; decide)), va_ne (fun z => hj (by rw [z]; decide)), va_ne (fun z => hj (by rw [z]; decide)), e14 j (fun z => hj (mem_sub (by decide) z)), va_ne (fun z => hj (by rw [z]; decide)), e11 j (fun z => hj (mem_sub (by decide) z)), va_ne (fun z => hj (by rw [z]; decide)), e8 j (fun z => hj (mem_sub (by decide) z)), va_ne (fun z => hj (by rw [z]; decide)), e5 j (fun z => hj (mem_sub (by decide) z)), va_ne (fun z => hj (by rw [z]; decide)), e2 j (fun z => hj (mem_sub (by decide) z)), va_ne (fun z => hj (by rw [z]; decide))]
theorem al_c3k (HA : AL hB D0 A0 L P W A h) {v0 : Nat} (w_v0 : v0 = A 5003) (ho : 5003 ∈ L) (hN : ∀ j, j ∈ [5400] → ¬ D0 j ∧ j ∉ L) {K : AH → Prop} (kk : ∀ A' h', AL hB D0 A0 (5400 :: L) ((5003, 0) :: P) (W) A' h' → (∀ j, j ∉ [5400] → A' j = A j) → K h') : w_X3_init v0 h K := by
  dsimp only [w_X3_init]
  refine al_A HA (id := 5400) rfl (hN 5400 (by decide)).1 (hN 5400 (by decide)).2 (fun a1 h1 H1 => ?_)
  have w_v0 := w_v0.trans (va_ne (f := A) (k := 5400) (v := a1) (by decide)).symm
  have w_a1 : a1 = (va_up A 5400 a1) 5400 := (va_up_self _ _ _).symm
  refine al_P H1 (o := 5003) (k := 0) (t := 5400) w_v0 w_a1 (List.mem_cons_of_mem _ ho) (Or.inl List.mem_cons_self) rfl rfl (fun h2 H2 => ?_)
  refine kk _ _ H2 (fun j hj => ?_)
  rw [va_ne (fun z => hj (by rw [z]; decide))]
theorem al_c2k (HA : AL hB D0 A0 L P W A h) {v0 : Nat} (w_v0 : v0 = A 5002) (ho : 5002 ∈ L) (hN : ∀ j, j ∈ [5304, 5303, 5302, 5301] → ¬ D0 j ∧ j ∉ L) {K : AH → Prop} (kk : ∀ A' h', AL hB D0 A0 (5304 :: 5303 :: 5302 :: 5301 :: L) ((5002, 4) :: (5002, 3) :: (5002, 2) :: (5002, 1) :: P) (W) A' h' → (∀ j, j ∉ [5304, 5303, 5302, 5301] → A' j = A j) → K h') : w_X2_init v0 h K := by
  dsimp only [w_X2_init]
  refine al_A HA (id := 5301) rfl (hN 5301 (by decide)).1 (hN 5301 (by decide)).2 (fun a1 h1 H1 => ?_)
  have w_v0 := w_v0.trans (va_ne (f := A) (k := 5301) (v := a1) (by decide)).symm
  have w_a1 : a1 = (va_up A 5301 a1) 5301 := (va_up_self _ _ _).symm
  refine al_P H1 (o := 5002) (k := 1) (t := 5301) w_v0 w_a1 (List.mem_cons_of_mem _ ho) (Or.inl List.mem_cons_self) rfl rfl (fun h2 H2 => ?_)
  refine al_A H2 (id := 5302) rfl (hN 5302 (by decide)).1 (nm (hN 5302 (by decide)).2 (by decide)) (fun a2 h3 H3 => ?_)
  have w_v0 := w_v0.trans (va_ne (f := (va_up A 5301 a1)) (k := 5302) (v := a2) (by decide)).symm
  have w_a1 := w_a1.trans (va_ne (f := (va_up A 5301 a1)) (k := 5302) (v := a2) (by decide)).symm
  have w_a2 : a2 = (va_up (va_up A 5301 a1) 5302 a2) 5302 := (va_up_self _ _ _).symm
  refine al_P H3 (o := 5002) (k := 2) (t := 5302) w_v0 w_a2 (List.mem_cons_of_mem _ (List.mem_cons_of_mem _ ho)) (Or.inl List.mem_cons_self) rfl rfl (fun h4 H4 => ?_)
  refine al_A H4 (id := 5303) rfl (hN 5303 (by decide)).1 (nm (nm (hN 5303 (by decide)).2 (by decide)) (by decide)) (fun a3 h5 H5 => ?_)
  have w_v0 := w_v0.trans (va_ne (f := (va_up (va_up A 5301 a1) 5302 a2)) (k := 5303) (v := a3) (by decide)).symm
  have w_a1 := w_a1.trans (va_ne (f := (va_up (va_up A 5301 a1) 5302 a2)) (k := 5303) (v := a3) (by decide)).symm
  have w_a2 := w_a2.trans (va_ne (f := (va_up (va_up A 5301 a1) 5302 a2)) (k := 5303) (v := a3) (by decide)).symm
  have w_a3 : a3 = (va_up (va_up (va_up A 5301 a1) 5302 a2) 5303 a3) 5303 := (va_up_self _ _ _).symm
  refine al_P H5 (o := 5002) (k := 3) (t := 5303) w_v0 w_a3 (List.mem_cons_of_mem _ (List.mem_cons_of_mem _ (List.mem_cons_of_mem _ ho))) (Or.inl List.mem_cons_self) rfl rfl (fun h6 H6 => ?_)
  refine al_A H6 (id := 5304) rfl (hN 5304 (by decide)).1 (nm (nm (nm (hN 5304 (by decide)).2 (by decide)) (by decide)) (by decide)) (fun a4 h7 H7 => ?_)
  have w_v0 := w_v0.trans (va_ne (f := (va_up (va_up (va_up A 5301 a1) 5302 a2) 5303 a3)) (k := 5304) (v := a4) (by decide)).symm
  have w_a1 := w_a1.trans (va_ne (f := (va_up (va_up (va_up A 5301 a1) 5302 a2) 5303 a3)) (k := 5304) (v := a4) (by decide)).symm
  have w_a2 := w_a2.trans (va_ne (f := (va_up (va_up (va_up A 5301 a1) 5302 a2) 5303 a3)) (k := 5304) (v := a4) (by decide)).symm
  have w_a3 := w_a3.trans (va_ne (f := (va_up (va_up (va_up A 5301 a1) 5302 a2) 5303 a3)) (k := 5304) (v := a4) (by decide)).symm
  have w_a4 : a4 = (va_up (va_up (va_up (va_up A 5301 a1) 5302 a2) 5303 a3) 5304 a4) 5304 := (va_up_self _ _ _).symm
  refine al_P H7 (o := 5002) (k := 4) (t := 5304) w_v0 w_a4 (List.mem_cons_of_mem _ (List.mem_cons_of_mem _ (List.mem_cons_of_mem _ (List.mem_cons_of_mem _ ho)))) (Or.inl List.mem_cons_self) rfl rfl (fun h8 H8 => ?_)
  refine kk _ _ H8 (fun j hj => ?_)
  rw [va_ne (fun z => hj (by rw [z]; decide)), va_ne (fun z => hj (by rw [z]; decide)), va_ne (fun z => hj (by rw [z]; decide)), va_ne (fun z => hj (by rw [z]; decide))]
theorem al_c4k (HA : AL hB D0 A0 L P W A h) {v0 : Nat} (w_v0 : v0 = A 5004) (ho : 5004 ∈ L) (hN : ∀ j, j ∈ [5506, 5505, 5504, 5503, 5502, 5501] → ¬ D0 j ∧ j ∉ L) {K : AH → Prop} (kk : ∀ A' h', AL hB D0 A0 (5506 :: 5505 :: 5504 :: 5503 :: 5502 :: 5501 :: L) ((5004, 6) :: (5004, 5) :: (5004, 4) :: (5004, 3) :: (5004, 2) :: (5004, 1) :: P) (W) A' h' → (∀ j, j ∉ [5506, 5505, 5504, 5503, 5502, 5501] → A' j = A j) → K h') : w_X4_init v0 h K := by
  dsimp only [w_X4_init]
  refine al_A HA (id := 5501) rfl (hN 5501 (by decide)).1 (hN 5501 (by decide)).2 (fun a1 h1 H1 => ?_)
  have w_v0 := w_v0.trans (va_ne (f := A) (k := 5501) (v := a1) (by decide)).symm
  have w_a1 : a1 = (va_up A 5501 a1) 5501 := (va_up_self _ _ _).symm
  refine al_P H1 (o := 5004) (k := 1) (t := 5501) w_v0 w_a1 (List.mem_cons_of_mem _ ho) (Or.inl List.mem_cons_self) rfl rfl (fun h2 H2 => ?_)
  refine al_A H2 (id := 5502) rfl (hN 5502 (by decide)).1 (nm (hN 5502 (by decide)).2 (by decide)) (fun a2 h3 H3 => ?_)
  have w_v0 := w_v0.trans (va_ne (f := (va_up A 5501 a1)) (k := 5502) (v := a2) (by decide)).symm
  have w_a1 := w_a1.trans (va_ne (f := (va_up A 5501 a1)) (k := 5502) (v := a2) (by decide)).symm
  have w_a2 : a2 = (va_up (va_up A 5501 a1) 5502 a2) 5502 := (va_up_self _ _ _).symm
  refine al_P H3 (o := 5004) (k := 2) (t := 5502) w_v0 w_a2 (List.mem_cons_of_mem _ (List.mem_cons_of_mem _ ho)) (Or.inl List.mem_cons_self) rfl rfl (fun h4 H4 => ?_)
  refine al_A H4 (id := 5503) rfl (hN 5503 (by decide)).1 (nm (nm (hN 5503 (by decide)).2 (by decide)) (by decide)) (fun a3 h5 H5 => ?_)
  have w_v0 := w_v0.trans (va_ne (f := (va_up (va_up A 5501 a1) 5502 a2)) (k := 5503) (v := a3) (by decide)).symm
  have w_a1 := w_a1.trans (va_ne (f := (va_up (va_up A 5501 a1) 5502 a2)) (k := 5503) (v := a3) (by decide)).symm
  have w_a2 := w_a2.trans (va_ne (f := (va_up (va_up A 5501 a1) 5502 a2)) (k := 5503) (v := a3) (by decide)).symm
  have w_a3 : a3 = (va_up (va_up (va_up A 5501 a1) 5502 a2) 5503 a3) 5503 := (va_up_self _ _ _).symm
  refine al_P H5 (o := 5004) (k := 3) (t := 5503) w_v0 w_a3 (List.mem_cons_of_mem _ (List.mem_cons_of_mem _ (List.mem_cons_of_mem _ ho))) (Or.inl List.mem_cons_self) rfl rfl (fun h6 H6 => ?_)
  refine al_A H6 (id := 5504) rfl (hN 5504 (by decide)).1 (nm (nm (nm (hN 5504 (by decide)).2 (by decide)) (by decide)) (by decide)) (fun a4 h7 H7 => ?_)
  have w_v0 := w_v0.trans (va_ne (f := (va_up (va_up (va_up A 5501 a1) 5502 a2) 5503 a3)) (k := 5504) (v := a4) (by decide)).symm
  have w_a1 := w_a1.trans (va_ne (f := (va_up (va_up (va_up A 5501 a1) 5502 a2) 5503 a3)) (k := 5504) (v := a4) (by decide)).symm
  have w_a2 := w_a2.trans (va_ne (f := (va_up (va_up (va_up A 5501 a1) 5502 a2) 5503 a3)) (k := 5504) (v := a4) (by decide)).symm
  have w_a3 := w_a3.trans (va_ne (f := (va_up (va_up (va_up A 5501 a1) 5502 a2) 5503 a3)) (k := 5504) (v := a4) (by decide)).symm
  have w_a4 : a4 = (va_up (va_up (va_up (va_up A 5501 a1) 5502 a2) 5503 a3) 5504 a4) 5504 := (va_up_self _ _ _).symm
  refine al_P H7 (o := 5004) (k := 4) (t := 5504) w_v0 w_a4 (List.mem_cons_of_mem _ (List.mem_cons_of_mem _ (List.mem_cons_of_mem _ (List.mem_cons_of_mem _ ho)))) (Or.inl List.mem_cons_self) rfl rfl (fun h8 H8 => ?_)
  refine al_A H8 (id := 5505) rfl (hN 5505 (by decide)).1 (nm (nm (nm (nm (hN 5505 (by decide)).2 (by decide)) (by decide)) (by decide)) (by decide)) (fun a5 h9 H9 => ?_)
  have w_v0 := w_v0.trans (va_ne (f := (va_up (va_up (va_up (va_up A 5501 a1) 5502 a2) 5503 a3) 5504 a4)) (k := 5505) (v := a5) (by decide)).symm
  have w_a1 := w_a1.trans (va_ne (f := (va_up (va_up (va_up (va_up A 5501 a1) 5502 a2) 5503 a3) 5504 a4)) (k := 5505) (v := a5) (by decide)).symm
  have w_a2 := w_a2.trans (va_ne (f := (va_up (va_up (va_up (va_up A 5501 a1) 5502 a2) 5503 a3) 5504 a4)) (k := 5505) (v := a5) (by decide)).symm
  have w_a3 := w_a3.trans (va_ne (f := (va_up (va_up (va_up (va_up A 5501 a1) 5502 a2) 5503 a3) 5504 a4)) (k := 5505) (v := a5) (by decide)).symm
  have w_a4 := w_a4.trans (va_ne (f := (va_up (va_up (va_up (va_up A 5501 a1) 5502 a2) 5503 a3) 5504 a4)) (k := 5505) (v := a5) (by decide)).symm
  have w_a5 : a5 = (va_up (va_up (va_up (va_up (va_up A 5501 a1) 5502 a2) 5503 a3) 5504 a4) 5505 a5) 5505 := (va_up_self _ _ _).symm
  refine al_P H9 (o := 5004) (k := 5) (t := 5505) w_v0 w_a5 (List.mem_cons_of_mem _ (List.mem_cons_of_mem _ (List.mem_cons_of_mem _ (List.mem_cons_of_mem _ (List.mem_cons_of_mem _ ho))))) (Or.inl List.mem_cons_self) rfl rfl (fun h10 H10 => ?_)
  refine al_A H10 (id := 5506) rfl (hN 5506 (by decide)).1 (nm (nm (nm (nm (nm (hN 5506 (by decide)).2 (by decide)) (by decide)) (by decide)) (by decide)) (by decide)) (fun a6 h11 H11 => ?_)
  have w_v0 := w_v0.trans (va_ne (f := (va_up (va_up (va_up (va_up (va_up A 5501 a1) 5502 a2) 5503 a3) 5504 a4) 5505 a5)) (k := 5506) (v := a6) (by decide)).symm
  have w_a1 := w_a1.trans (va_ne (f := (va_up (va_up (va_up (va_up (va_up A 5501 a1) 5502 a2) 5503 a3) 5504 a4) 5505 a5)) (k := 5506) (v := a6) (by decide)).symm
  have w_a2 := w_a2.trans (va_ne (f := (va_up (va_up (va_up (va_up (va_up A 5501 a1) 5502 a2) 5503 a3) 5504 a4) 5505 a5)) (k := 5506) (v := a6) (by decide)).symm
  have w_a3 := w_a3.trans (va_ne (f := (va_up (va_up (va_up (va_up (va_up A 5501 a1) 5502 a2) 5503 a3) 5504 a4) 5505 a5)) (k := 5506) (v := a6) (by decide)).symm
  have w_a4 := w_a4.trans (va_ne (f := (va_up (va_up (va_up (va_up (va_up A 5501 a1) 5502 a2) 5503 a3) 5504 a4) 5505 a5)) (k := 5506) (v := a6) (by decide)).symm
  have w_a5 := w_a5.trans (va_ne (f := (va_up (va_up (va_up (va_up (va_up A 5501 a1) 5502 a2) 5503 a3) 5504 a4) 5505 a5)) (k := 5506) (v := a6) (by decide)).symm
  have w_a6 : a6 = (va_up (va_up (va_up (va_up (va_up (va_up A 5501 a1) 5502 a2) 5503 a3) 5504 a4) 5505 a5) 5506 a6) 5506 := (va_up_self _ _ _).symm
  refine al_P H11 (o := 5004) (k := 6) (t := 5506) w_v0 w_a6 (List.mem_cons_of_mem _ (List.mem_cons_of_mem _ (List.mem_cons_of_mem _ (List.mem_cons_of_mem _ (List.mem_cons_of_mem _ (List.mem_cons_of_mem _ ho)))))) (Or.inl List.mem_cons_self) rfl rfl (fun h12 H12 => ?_)
  refine kk _ _ H12 (fun j hj => ?_)
  rw [va_ne (fun z => hj (by rw [z]; decide)), va_ne (fun z => hj (by rw [z]; decide)), va_ne (fun z => hj (by rw [z]; decide)), va_ne (fun z => hj (by rw [z]; decide)), va_ne (fun z => hj (by rw [z]; decide)), va_ne (fun z => hj (by rw [z]; decide))]
theorem al_c1k (HA : AL hB D0 A0 L P W A h) {v0 : Nat} (w_v0 : v0 = A 5001) (ho : 5001 ∈ L) (hN : ∀ j, j ∈ [5206, 5205, 5204, 5203, 5202, 5201] → ¬ D0 j ∧ j ∉ L) {K : AH → Prop} (kk : ∀ A' h', AL hB D0 A0 (5206 :: 5205 :: 5204 :: 5203 :: 5202 :: 5201 :: L) ((5001, 6) :: (5001, 5) :: (5001, 4) :: (5001, 3) :: (5001, 2) :: (5001, 1) :: P) ((5001, 7, (9 : Int32)) :: W) A' h' → (∀ j, j ∉ [5206, 5205, 5204, 5203, 5202, 5201] → A' j = A j) → K h') : w_X1_init v0 h K := by
  dsimp only [w_X1_init]
  refine al_A HA (id := 5201) rfl (hN 5201 (by decide)).1 (hN 5201 (by decide)).2 (fun a1 h1 H1 => ?_)
  have w_v0 := w_v0.trans (va_ne (f := A) (k := 5201) (v := a1) (by decide)).symm
  have w_a1 : a1 = (va_up A 5201 a1) 5201 := (va_up_self _ _ _).symm
  refine al_P H1 (o := 5001) (k := 1) (t := 5201) w_v0 w_a1 (List.mem_cons_of_mem _ ho) (Or.inl List.mem_cons_self) rfl rfl (fun h2 H2 => ?_)
  refine al_A H2 (id := 5202) rfl (hN 5202 (by decide)).1 (nm (hN 5202 (by decide)).2 (by decide)) (fun a2 h3 H3 => ?_)
  have w_v0 := w_v0.trans (va_ne (f := (va_up A 5201 a1)) (k := 5202) (v := a2) (by decide)).symm
  have w_a1 := w_a1.trans (va_ne (f := (va_up A 5201 a1)) (k := 5202) (v := a2) (by decide)).symm
  have w_a2 : a2 = (va_up (va_up A 5201 a1) 5202 a2) 5202 := (va_up_self _ _ _).symm
  refine al_P H3 (o := 5001) (k := 2) (t := 5202) w_v0 w_a2 (List.mem_cons_of_mem _ (List.mem_cons_of_mem _ ho)) (Or.inl List.mem_cons_self) rfl rfl (fun h4 H4 => ?_)
  refine al_A H4 (id := 5203) rfl (hN 5203 (by decide)).1 (nm (nm (hN 5203 (by decide)).2 (by decide)) (by decide)) (fun a3 h5 H5 => ?_)
  have w_v0 := w_v0.trans (va_ne (f := (va_up (va_up A 5201 a1) 5202 a2)) (k := 5203) (v := a3) (by decide)).symm
  have w_a1 := w_a1.trans (va_ne (f := (va_up (va_up A 5201 a1) 5202 a2)) (k := 5203) (v := a3) (by decide)).symm
  have w_a2 := w_a2.trans (va_ne (f := (va_up (va_up A 5201 a1) 5202 a2)) (k := 5203) (v := a3) (by decide)).symm
  have w_a3 : a3 = (va_up (va_up (va_up A 5201 a1) 5202 a2) 5203 a3) 5203 := (va_up_self _ _ _).symm
  refine al_P H5 (o := 5001) (k := 3) (t := 5203) w_v0 w_a3 (List.mem_cons_of_mem _ (List.mem_cons_of_mem _ (List.mem_cons_of_mem _ ho))) (Or.inl List.mem_cons_self) rfl rfl (fun h6 H6 => ?_)
  refine al_A H6 (id := 5204) rfl (hN 5204 (by decide)).1 (nm (nm (nm (hN 5204 (by decide)).2 (by decide)) (by decide)) (by decide)) (fun a4 h7 H7 => ?_)
  have w_v0 := w_v0.trans (va_ne (f := (va_up (va_up (va_up A 5201 a1) 5202 a2) 5203 a3)) (k := 5204) (v := a4) (by decide)).symm
  have w_a1 := w_a1.trans (va_ne (f := (va_up (va_up (va_up A 5201 a1) 5202 a2) 5203 a3)) (k := 5204) (v := a4) (by decide)).symm
  have w_a2 := w_a2.trans (va_ne (f := (va_up (va_up (va_up A 5201 a1) 5202 a2) 5203 a3)) (k := 5204) (v := a4) (by decide)).symm
  have w_a3 := w_a3.trans (va_ne (f := (va_up (va_up (va_up A 5201 a1) 5202 a2) 5203 a3)) (k := 5204) (v := a4) (by decide)).symm
  have w_a4 : a4 = (va_up (va_up (va_up (va_up A 5201 a1) 5202 a2) 5203 a3) 5204 a4) 5204 := (va_up_self _ _ _).symm
  refine al_P H7 (o := 5001) (k := 4) (t := 5204) w_v0 w_a4 (List.mem_cons_of_mem _ (List.mem_cons_of_mem _ (List.mem_cons_of_mem _ (List.mem_cons_of_mem _ ho)))) (Or.inl List.mem_cons_self) rfl rfl (fun h8 H8 => ?_)
  refine al_A H8 (id := 5205) rfl (hN 5205 (by decide)).1 (nm (nm (nm (nm (hN 5205 (by decide)).2 (by decide)) (by decide)) (by decide)) (by decide)) (fun a5 h9 H9 => ?_)
  have w_v0 := w_v0.trans (va_ne (f := (va_up (va_up (va_up (va_up A 5201 a1) 5202 a2) 5203 a3) 5204 a4)) (k := 5205) (v := a5) (by decide)).symm
  have w_a1 := w_a1.trans (va_ne (f := (va_up (va_up (va_up (va_up A 5201 a1) 5202 a2) 5203 a3) 5204 a4)) (k := 5205) (v := a5) (by decide)).symm
  have w_a2 := w_a2.trans (va_ne (f := (va_up (va_up (va_up (va_up A 5201 a1) 5202 a2) 5203 a3) 5204 a4)) (k := 5205) (v := a5) (by decide)).symm
  have w_a3 := w_a3.trans (va_ne (f := (va_up (va_up (va_up (va_up A 5201 a1) 5202 a2) 5203 a3) 5204 a4)) (k := 5205) (v := a5) (by decide)).symm
  have w_a4 := w_a4.trans (va_ne (f := (va_up (va_up (va_up (va_up A 5201 a1) 5202 a2) 5203 a3) 5204 a4)) (k := 5205) (v := a5) (by decide)).symm
  have w_a5 : a5 = (va_up (va_up (va_up (va_up (va_up A 5201 a1) 5202 a2) 5203 a3) 5204 a4) 5205 a5) 5205 := (va_up_self _ _ _).symm
  refine al_P H9 (o := 5001) (k := 5) (t := 5205) w_v0 w_a5 (List.mem_cons_of_mem _ (List.mem_cons_of_mem _ (List.mem_cons_of_mem _ (List.mem_cons_of_mem _ (List.mem_cons_of_mem _ ho))))) (Or.inl List.mem_cons_self) rfl rfl (fun h10 H10 => ?_)
  refine al_A H10 (id := 5206) rfl (hN 5206 (by decide)).1 (nm (nm (nm (nm (nm (hN 5206 (by decide)).2 (by decide)) (by decide)) (by decide)) (by decide)) (by decide)) (fun a6 h11 H11 => ?_)
  have w_v0 := w_v0.trans (va_ne (f := (va_up (va_up (va_up (va_up (va_up A 5201 a1) 5202 a2) 5203 a3) 5204 a4) 5205 a5)) (k := 5206) (v := a6) (by decide)).symm
  have w_a1 := w_a1.trans (va_ne (f := (va_up (va_up (va_up (va_up (va_up A 5201 a1) 5202 a2) 5203 a3) 5204 a4) 5205 a5)) (k := 5206) (v := a6) (by decide)).symm
  have w_a2 := w_a2.trans (va_ne (f := (va_up (va_up (va_up (va_up (va_up A 5201 a1) 5202 a2) 5203 a3) 5204 a4) 5205 a5)) (k := 5206) (v := a6) (by decide)).symm
  have w_a3 := w_a3.trans (va_ne (f := (va_up (va_up (va_up (va_up (va_up A 5201 a1) 5202 a2) 5203 a3) 5204 a4) 5205 a5)) (k := 5206) (v := a6) (by decide)).symm
  have w_a4 := w_a4.trans (va_ne (f := (va_up (va_up (va_up (va_up (va_up A 5201 a1) 5202 a2) 5203 a3) 5204 a4) 5205 a5)) (k := 5206) (v := a6) (by decide)).symm
  have w_a5 := w_a5.trans (va_ne (f := (va_up (va_up (va_up (va_up (va_up A 5201 a1) 5202 a2) 5203 a3) 5204 a4) 5205 a5)) (k := 5206) (v := a6) (by decide)).symm
  have w_a6 : a6 = (va_up (va_up (va_up (va_up (va_up (va_up A 5201 a1) 5202 a2) 5203 a3) 5204 a4) 5205 a5) 5206 a6) 5206 := (va_up_self _ _ _).symm
  refine al_P H11 (o := 5001) (k := 6) (t := 5206) w_v0 w_a6 (List.mem_cons_of_mem _ (List.mem_cons_of_mem _ (List.mem_cons_of_mem _ (List.mem_cons_of_mem _ (List.mem_cons_of_mem _ (List.mem_cons_of_mem _ ho)))))) (Or.inl List.mem_cons_self) rfl rfl (fun h12 H12 => ?_)
  refine al_I H12 (o := 5001) (k := 7) w_v0 (List.mem_cons_of_mem _ (List.mem_cons_of_mem _ (List.mem_cons_of_mem _ (List.mem_cons_of_mem _ (List.mem_cons_of_mem _ (List.mem_cons_of_mem _ ho)))))) rfl (fun h13 H13 => ?_)
  refine kk _ _ H13 (fun j hj => ?_)
  rw [va_ne (fun z => hj (by rw [z]; decide)), va_ne (fun z => hj (by rw [z]; decide)), va_ne (fun z => hj (by rw [z]; decide)), va_ne (fun z => hj (by rw [z]; decide)), va_ne (fun z => hj (by rw [z]; decide)), va_ne (fun z => hj (by rw [z]; decide))]
theorem al_c9k (HA : AL hB D0 A0 L P W A h) {v0 : Nat} (w_v0 : v0 = A 5009) (ho : 5009 ∈ L) (hN : ∀ j, j ∈ [6008, 6007, 6006, 6004, 6003, 6002, 6001] → ¬ D0 j ∧ j ∉ L) {K : AH → Prop} (kk : ∀ A' h', AL hB D0 A0 (6008 :: 6007 :: 6006 :: 6004 :: 6003 :: 6002 :: 6001 :: L) ((5009, 8) :: (5009, 7) :: (5009, 6) :: (5009, 4) :: (5009, 3) :: (5009, 2) :: (5009, 1) :: P) (W) A' h' → (∀ j, j ∉ [6008, 6007, 6006, 6004, 6003, 6002, 6001] → A' j = A j) → K h') : w_X9_init v0 h K := by
  dsimp only [w_X9_init]
  refine al_A HA (id := 6001) rfl (hN 6001 (by decide)).1 (hN 6001 (by decide)).2 (fun a1 h1 H1 => ?_)
  have w_v0 := w_v0.trans (va_ne (f := A) (k := 6001) (v := a1) (by decide)).symm
  have w_a1 : a1 = (va_up A 6001 a1) 6001 := (va_up_self _ _ _).symm
  refine al_P H1 (o := 5009) (k := 1) (t := 6001) w_v0 w_a1 (List.mem_cons_of_mem _ ho) (Or.inl List.mem_cons_self) rfl rfl (fun h2 H2 => ?_)
  refine al_A H2 (id := 6002) rfl (hN 6002 (by decide)).1 (nm (hN 6002 (by decide)).2 (by decide)) (fun a2 h3 H3 => ?_)
  have w_v0 := w_v0.trans (va_ne (f := (va_up A 6001 a1)) (k := 6002) (v := a2) (by decide)).symm
  have w_a1 := w_a1.trans (va_ne (f := (va_up A 6001 a1)) (k := 6002) (v := a2) (by decide)).symm
  have w_a2 : a2 = (va_up (va_up A 6001 a1) 6002 a2) 6002 := (va_up_self _ _ _).symm
  refine al_P H3 (o := 5009) (k := 2) (t := 6002) w_v0 w_a2 (List.mem_cons_of_mem _ (List.mem_cons_of_mem _ ho)) (Or.inl List.mem_cons_self) rfl rfl (fun h4 H4 => ?_)
  refine al_A H4 (id := 6003) rfl (hN 6003 (by decide)).1 (nm (nm (hN 6003 (by decide)).2 (by decide)) (by decide)) (fun a3 h5 H5 => ?_)
  have w_v0 := w_v0.trans (va_ne (f := (va_up (va_up A 6001 a1) 6002 a2)) (k := 6003) (v := a3) (by decide)).symm
  have w_a1 := w_a1.trans (va_ne (f := (va_up (va_up A 6001 a1) 6002 a2)) (k := 6003) (v := a3) (by decide)).symm
  have w_a2 := w_a2.trans (va_ne (f := (va_up (va_up A 6001 a1) 6002 a2)) (k := 6003) (v := a3) (by decide)).symm
  have w_a3 : a3 = (va_up (va_up (va_up A 6001 a1) 6002 a2) 6003 a3) 6003 := (va_up_self _ _ _).symm
  refine al_P H5 (o := 5009) (k := 3) (t := 6003) w_v0 w_a3 (List.mem_cons_of_mem _ (List.mem_cons_of_mem _ (List.mem_cons_of_mem _ ho))) (Or.inl List.mem_cons_self) rfl rfl (fun h6 H6 => ?_)
  refine al_A H6 (id := 6004) rfl (hN 6004 (by decide)).1 (nm (nm (nm (hN 6004 (by decide)).2 (by decide)) (by decide)) (by decide)) (fun a4 h7 H7 => ?_)
  have w_v0 := w_v0.trans (va_ne (f := (va_up (va_up (va_up A 6001 a1) 6002 a2) 6003 a3)) (k := 6004) (v := a4) (by decide)).symm
  have w_a1 := w_a1.trans (va_ne (f := (va_up (va_up (va_up A 6001 a1) 6002 a2) 6003 a3)) (k := 6004) (v := a4) (by decide)).symm
  have w_a2 := w_a2.trans (va_ne (f := (va_up (va_up (va_up A 6001 a1) 6002 a2) 6003 a3)) (k := 6004) (v := a4) (by decide)).symm
  have w_a3 := w_a3.trans (va_ne (f := (va_up (va_up (va_up A 6001 a1) 6002 a2) 6003 a3)) (k := 6004) (v := a4) (by decide)).symm
  have w_a4 : a4 = (va_up (va_up (va_up (va_up A 6001 a1) 6002 a2) 6003 a3) 6004 a4) 6004 := (va_up_self _ _ _).symm
  refine al_P H7 (o := 5009) (k := 4) (t := 6004) w_v0 w_a4 (List.mem_cons_of_mem _ (List.mem_cons_of_mem _ (List.mem_cons_of_mem _ (List.mem_cons_of_mem _ ho)))) (Or.inl List.mem_cons_self) rfl rfl (fun h8 H8 => ?_)
  refine al_A H8 (id := 6006) rfl (hN 6006 (by decide)).1 (nm (nm (nm (nm (hN 6006 (by decide)).2 (by decide)) (by decide)) (by decide)) (by decide)) (fun a5 h9 H9 => ?_)
  have w_v0 := w_v0.trans (va_ne (f := (va_up (va_up (va_up (va_up A 6001 a1) 6002 a2) 6003 a3) 6004 a4)) (k := 6006) (v := a5) (by decide)).symm
  have w_a1 := w_a1.trans (va_ne (f := (va_up (va_up (va_up (va_up A 6001 a1) 6002 a2) 6003 a3) 6004 a4)) (k := 6006) (v := a5) (by decide)).symm
  have w_a2 := w_a2.trans (va_ne (f := (va_up (va_up (va_up (va_up A 6001 a1) 6002 a2) 6003 a3) 6004 a4)) (k := 6006) (v := a5) (by decide)).symm
  have w_a3 := w_a3.trans (va_ne (f := (va_up (va_up (va_up (va_up A 6001 a1) 6002 a2) 6003 a3) 6004 a4)) (k := 6006) (v := a5) (by decide)).symm
  have w_a4 := w_a4.trans (va_ne (f := (va_up (va_up (va_up (va_up A 6001 a1) 6002 a2) 6003 a3) 6004 a4)) (k := 6006) (v := a5) (by decide)).symm
  have w_a5 : a5 = (va_up (va_up (va_up (va_up (va_up A 6001 a1) 6002 a2) 6003 a3) 6004 a4) 6006 a5) 6006 := (va_up_self _ _ _).symm
  refine al_P H9 (o := 5009) (k := 6) (t := 6006) w_v0 w_a5 (List.mem_cons_of_mem _ (List.mem_cons_of_mem _ (List.mem_cons_of_mem _ (List.mem_cons_of_mem _ (List.mem_cons_of_mem _ ho))))) (Or.inl List.mem_cons_self) rfl rfl (fun h10 H10 => ?_)
  refine al_A H10 (id := 6007) rfl (hN 6007 (by decide)).1 (nm (nm (nm (nm (nm (hN 6007 (by decide)).2 (by decide)) (by decide)) (by decide)) (by decide)) (by decide)) (fun a6 h11 H11 => ?_)
  have w_v0 := w_v0.trans (va_ne (f := (va_up (va_up (va_up (va_up (va_up A 6001 a1) 6002 a2) 6003 a3) 6004 a4) 6006 a5)) (k := 6007) (v := a6) (by decide)).symm
  have w_a1 := w_a1.trans (va_ne (f := (va_up (va_up (va_up (va_up (va_up A 6001 a1) 6002 a2) 6003 a3) 6004 a4) 6006 a5)) (k := 6007) (v := a6) (by decide)).symm
  have w_a2 := w_a2.trans (va_ne (f := (va_up (va_up (va_up (va_up (va_up A 6001 a1) 6002 a2) 6003 a3) 6004 a4) 6006 a5)) (k := 6007) (v := a6) (by decide)).symm
  have w_a3 := w_a3.trans (va_ne (f := (va_up (va_up (va_up (va_up (va_up A 6001 a1) 6002 a2) 6003 a3) 6004 a4) 6006 a5)) (k := 6007) (v := a6) (by decide)).symm
  have w_a4 := w_a4.trans (va_ne (f := (va_up (va_up (va_up (va_up (va_up A 6001 a1) 6002 a2) 6003 a3) 6004 a4) 6006 a5)) (k := 6007) (v := a6) (by decide)).symm
  have w_a5 := w_a5.trans (va_ne (f := (va_up (va_up (va_up (va_up (va_up A 6001 a1) 6002 a2) 6003 a3) 6004 a4) 6006 a5)) (k := 6007) (v := a6) (by decide)).symm
  have w_a6 : a6 = (va_up (va_up (va_up (va_up (va_up (va_up A 6001 a1) 6002 a2) 6003 a3) 6004 a4) 6006 a5) 6007 a6) 6007 := (va_up_self _ _ _).symm
  refine al_P H11 (o := 5009) (k := 7) (t := 6007) w_v0 w_a6 (List.mem_cons_of_mem _ (List.mem_cons_of_mem _ (List.mem_cons_of_mem _ (List.mem_cons_of_mem _ (List.mem_cons_of_mem _ (List.mem_cons_of_mem _ ho)))))) (Or.inl List.mem_cons_self) rfl rfl (fun h12 H12 => ?_)
  refine al_A H12 (id := 6008) rfl (hN 6008 (by decide)).1 (nm (nm (nm (nm (nm (nm (hN 6008 (by decide)).2 (by decide)) (by decide)) (by decide)) (by decide)) (by decide)) (by decide)) (fun a7 h13 H13 => ?_)
  have w_v0 := w_v0.trans (va_ne (f := (va_up (va_up (va_up (va_up (va_up (va_up A 6001 a1) 6002 a2) 6003 a3) 6004 a4) 6006 a5) 6007 a6)) (k := 6008) (v := a7) (by decide)).symm
  have w_a1 := w_a1.trans (va_ne (f := (va_up (va_up (va_up (va_up (va_up (va_up A 6001 a1) 6002 a2) 6003 a3) 6004 a4) 6006 a5) 6007 a6)) (k := 6008) (v := a7) (by decide)).symm
  have w_a2 := w_a2.trans (va_ne (f := (va_up (va_up (va_up (va_up (va_up (va_up A 6001 a1) 6002 a2) 6003 a3) 6004 a4) 6006 a5) 6007 a6)) (k := 6008) (v := a7) (by decide)).symm
  have w_a3 := w_a3.trans (va_ne (f := (va_up (va_up (va_up (va_up (va_up (va_up A 6001 a1) 6002 a2) 6003 a3) 6004 a4) 6006 a5) 6007 a6)) (k := 6008) (v := a7) (by decide)).symm
  have w_a4 := w_a4.trans (va_ne (f := (va_up (va_up (va_up (va_up (va_up (va_up A 6001 a1) 6002 a2) 6003 a3) 6004 a4) 6006 a5) 6007 a6)) (k := 6008) (v := a7) (by decide)).symm
  have w_a5 := w_a5.trans (va_ne (f := (va_up (va_up (va_up (va_up (va_up (va_up A 6001 a1) 6002 a2) 6003 a3) 6004 a4) 6006 a5) 6007 a6)) (k := 6008) (v := a7) (by decide)).symm
  have w_a6 := w_a6.trans (va_ne (f := (va_up (va_up (va_up (va_up (va_up (va_up A 6001 a1) 6002 a2) 6003 a3) 6004 a4) 6006 a5) 6007 a6)) (k := 6008) (v := a7) (by decide)).symm
  have w_a7 : a7 = (va_up (va_up (va_up (va_up (va_up (va_up (va_up A 6001 a1) 6002 a2) 6003 a3) 6004 a4) 6006 a5) 6007 a6) 6008 a7) 6008 := (va_up_self _ _ _).symm
  refine al_P H13 (o := 5009) (k := 8) (t := 6008) w_v0 w_a7 (List.mem_cons_of_mem _ (List.mem_cons_of_mem _ (List.mem_cons_of_mem _ (List.mem_cons_of_mem _ (List.mem_cons_of_mem _ (List.mem_cons_of_mem _ (List.mem_cons_of_mem _ ho))))))) (Or.inl List.mem_cons_self) rfl rfl (fun h14 H14 => ?_)
  refine kk _ _ H14 (fun j hj => ?_)
  rw [va_ne (fun z => hj (by rw [z]; decide)), va_ne (fun z => hj (by rw [z]; decide)), va_ne (fun z => hj (by rw [z]; decide)), va_ne (fun z => hj (by rw [z]; decide)), va_ne (fun z => hj (by rw [z]; decide)), va_ne (fun z => hj (by rw [z]; decide)), va_ne (fun z => hj (by rw [z]; decide))]
theorem al_c7k (HA : AL hB D0 A0 L P W A h) {v0 : Nat} (w_v0 : v0 = A 5007) (ho : 5007 ∈ L) (hN : ∀ j, j ∈ [5808, 5807, 5805, 6008, 6007, 6006, 6004, 6003, 6002, 6001, 5009, 5206, 5205, 5204, 5203, 5202, 5201, 5001, 5506, 5505, 5504, 5503, 5502, 5501, 5004, 5304, 5303, 5302, 5301, 5002, 5400, 5003] → ¬ D0 j ∧ j ∉ L) {K : AH → Prop} (kk : ∀ A' h', AL hB D0 A0 (5808 :: 5807 :: 5805 :: 6008 :: 6007 :: 6006 :: 6004 :: 6003 :: 6002 :: 6001 :: 5009 :: 5206 :: 5205 :: 5204 :: 5203 :: 5202 :: 5201 :: 5001 :: 5506 :: 5505 :: 5504 :: 5503 :: 5502 :: 5501 :: 5004 :: 5304 :: 5303 :: 5302 :: 5301 :: 5002 :: 5400 :: 5003 :: L) ((5007, 8) :: (5007, 7) :: (5007, 5) :: (5007, 4) :: (5009, 8) :: (5009, 7) :: (5009, 6) :: (5009, 4) :: (5009, 3) :: (5009, 2) :: (5009, 1) :: (5007, 3) :: (5001, 6) :: (5001, 5) :: (5001, 4) :: (5001, 3) :: (5001, 2) :: (5001, 1) :: (5007, 2) :: (5004, 6) :: (5004, 5) :: (5004, 4) :: (5004, 3) :: (5004, 2) :: (5004, 1) :: (5007, 1) :: (5002, 4) :: (5002, 3) :: (5002, 2) :: (5002, 1) :: (5007, 0) :: (5003, 0) :: P) ((5007, 10, (1876 : Int32)) :: (5001, 7, (9 : Int32)) :: W) A' h' → (∀ j, j ∉ [5808, 5807, 5805, 6008, 6007, 6006, 6004, 6003, 6002, 6001, 5009, 5206, 5205, 5204, 5203, 5202, 5201, 5001, 5506, 5505, 5504, 5503, 5502, 5501, 5004, 5304, 5303, 5302, 5301, 5002, 5400, 5003] → A' j = A j) → K h') : w_X7_init v0 h K := by
  dsimp only [w_X7_init]
  refine al_O HA (id := 5003) rfl (by decide) (hN 5003 (by decide)).1 (hN 5003 (by decide)).2 (fun a1 h1 H1 => ?_)
  have w_v0 := w_v0.trans (va_ne (f := A) (k := 5003) (v := a1) (by decide)).symm
  have w_a1 : a1 = (va_up A 5003 a1) 5003 := (va_up_self _ _ _).symm
  refine al_c3k H1 w_a1 List.mem_cons_self (fun j hj => ⟨(hN j (mem_sub (by decide) hj)).1, (nm (hN j (mem_sub (by decide) hj)).2 (fun z => absurd hj (by rw [z]; decide)))⟩) (fun A2 h2 H2 e2 => ?_)
  have w_v0 := w_v0.trans (e2 5007 (by decide)).symm
  have w_a1 := w_a1.trans (e2 5003 (by decide)).symm
  refine al_P H2 (o := 5007) (k := 0) (t := 5003) w_v0 w_a1 (List.mem_cons_of_mem _ (List.mem_cons_of_mem _ ho)) (Or.inl (List.mem_cons_of_mem _ List.mem_cons_self)) rfl rfl (fun h3 H3 => ?_)
  refine al_O H3 (id := 5002) rfl (by decide) (hN 5002 (by decide)).1 (nm (nm (hN 5002 (by decide)).2 (by decide)) (by decide)) (fun a2 h4 H4 => ?_)
  have w_v0 := w_v0.trans (va_ne (f := A2) (k := 5002) (v := a2) (by decide)).symm
  have w_a1 := w_a1.trans (va_ne (f := A2) (k := 5002) (v := a2) (by decide)).symm
  have w_a2 : a2 = (va_up A2 5002 a2) 5002 := (va_up_self _ _ _).symm
  refine al_c2k H4 w_a2 List.mem_cons_self (fun j hj => ⟨(hN j (mem_sub (by decide) hj)).1, (nm (nm (nm (hN j (mem_sub (by decide) hj)).2 (fun z => absurd hj (by rw [z]; decide))) (fun z => absurd hj (by rw [z]; decide))) (fun z => absurd hj (by rw [z]; decide)))⟩) (fun A5 h5 H5 e5 => ?_)
  have w_v0 := w_v0.trans (e5 5007 (by decide)).symm
  have w_a1 := w_a1.trans (e5 5003 (by decide)).symm
  have w_a2 := w_a2.trans (e5 5002 (by decide)).symm
  refine al_P H5 (o := 5007) (k := 1) (t := 5002) w_v0 w_a2 (List.mem_cons_of_mem _ (List.mem_cons_of_mem _ (List.mem_cons_of_mem _ (List.mem_cons_of_mem _ (List.mem_cons_of_mem _ (List.mem_cons_of_mem _ (List.mem_cons_of_mem _ ho))))))) (Or.inl (List.mem_cons_of_mem _ (List.mem_cons_of_mem _ (List.mem_cons_of_mem _ (List.mem_cons_of_mem _ List.mem_cons_self))))) rfl rfl (fun h6 H6 => ?_)
  refine al_O H6 (id := 5004) rfl (by decide) (hN 5004 (by decide)).1 (nm (nm (nm (nm (nm (nm (nm (hN 5004 (by decide)).2 (by decide)) (by decide)) (by decide)) (by decide)) (by decide)) (by decide)) (by decide)) (fun a3 h7 H7 => ?_)
  have w_v0 := w_v0.trans (va_ne (f := A5) (k := 5004) (v := a3) (by decide)).symm
  have w_a1 := w_a1.trans (va_ne (f := A5) (k := 5004) (v := a3) (by decide)).symm
  have w_a2 := w_a2.trans (va_ne (f := A5) (k := 5004) (v := a3) (by decide)).symm
  have w_a3 : a3 = (va_up A5 5004 a3) 5004 := (va_up_self _ _ _).symm
  refine al_c4k H7 w_a3 List.mem_cons_self (fun j hj => ⟨(hN j (mem_sub (by decide) hj)).1, (nm (nm (nm (nm (nm (nm (nm (nm (hN j (mem_sub (by decide) hj)).2 (fun z => absurd hj (by rw [z]; decide))) (fun z => absurd hj (by rw [z]; decide))) (fun z => absurd hj (by rw [z]; decide))) (fun z => absurd hj (by rw [z]; decide))) (fun z => absurd hj (by rw [z]; decide))) (fun z => absurd hj (by rw [z]; decide))) (fun z => absurd hj (by rw [z]; decide))) (fun z => absurd hj (by rw [z]; decide)))⟩) (fun A8 h8 H8 e8 => ?_)
  have w_v0 := w_v0.trans (e8 5007 (by decide)).symm
  have w_a1 := w_a1.trans (e8 5003 (by decide)).symm
  have w_a2 := w_a2.trans (e8 5002 (by decide)).symm
  have w_a3 := w_a3.trans (e8 5004 (by decide)).symm
  refine al_P H8 (o := 5007) (k := 2) (t := 5004) w_v0 w_a3 (List.mem_cons_of_mem _ (List.mem_cons_of_mem _ (List.mem_cons_of_mem _ (List.mem_cons_of_mem _ (List.mem_cons_of_mem _ (List.mem_cons_of_mem _ (List.mem_cons_of_mem _ (List.mem_cons_of_mem _ (List.mem_cons_of_mem _ (List.mem_cons_of_mem _ (List.mem_cons_of_mem _ (List.mem_cons_of_mem _ (List.mem_cons_of_mem _ (List.mem_cons_of_mem _ ho)))))))))))))) (Or.inl (List.mem_cons_of_mem _ (List.mem_cons_of_mem _ (List.mem_cons_of_mem _ (List.mem_cons_of_mem _ (List.mem_cons_of_mem _ (List.mem_cons_of_mem _ List.mem_cons_self))))))) rfl rfl (fun h9 H9 => ?_)
  refine al_O H9 (id := 5001) rfl (by decide) (hN 5001 (by decide)).1 (nm (nm (nm (nm (nm (nm (nm (nm (nm (nm (nm (nm (nm (nm (hN 5001 (by decide)).2 (by decide)) (by decide)) (by decide)) (by decide)) (by decide)) (by decide)) (by decide)) (by decide)) (by decide)) (by decide)) (by decide)) (by decide)) (by decide)) (by decide)) (fun a4 h10 H10 => ?_)
  have w_v0 := w_v0.trans (va_ne (f := A8) (k := 5001) (v := a4) (by decide)).symm
  have w_a1 := w_a1.trans (va_ne (f := A8) (k := 5001) (v := a4) (by decide)).symm
  have w_a2 := w_a2.trans (va_ne (f := A8) (k := 5001) (v := a4) (by decide)).symm
  have w_a3 := w_a3.trans (va_ne (f := A8) (k := 5001) (v := a4) (by decide)).symm
  have w_a4 : a4 = (va_up A8 5001 a4) 5001 := (va_up_self _ _ _).symm
  refine al_c1k H10 w_a4 List.mem_cons_self (fun j hj => ⟨(hN j (mem_sub (by decide) hj)).1, (nm (nm (nm (nm (nm (nm (nm (nm (nm (nm (nm (nm (nm (nm (nm (hN j (mem_sub (by decide) hj)).2 (fun z => absurd hj (by rw [z]; decide))) (fun z => absurd hj (by rw [z]; decide))) (fun z => absurd hj (by rw [z]; decide))) (fun z => absurd hj (by rw [z]; decide))) (fun z => absurd hj (by rw [z]; decide))) (fun z => absurd hj (by rw [z]; decide))) (fun z => absurd hj (by rw [z]; decide))) (fun z => absurd hj (by rw [z]; decide))) (fun z => absurd hj (by rw [z]; decide))) (fun z => absurd hj (by rw [z]; decide))) (fun z => absurd hj (by rw [z]; decide))) (fun z => absurd hj (by rw [z]; decide))) (fun z => absurd hj (by rw [z]; decide))) (fun z => absurd hj (by rw [z]; decide))) (fun z => absurd hj (by rw [z]; decide)))⟩) (fun A11 h11 H11 e11 => ?_)
  have w_v0 := w_v0.trans (e11 5007 (by decide)).symm
  have w_a1 := w_a1.trans (e11 5003 (by decide)).symm
  have w_a2 := w_a2.trans (e11 5002 (by decide)).symm
  have w_a3 := w_a3.trans (e11 5004 (by decide)).symm
  have w_a4 := w_a4.trans (e11 5001 (by decide)).symm
  refine al_P H11 (o := 5007) (k := 3) (t := 5001) w_v0 w_a4 (List.mem_cons_of_mem _ (List.mem_cons_of_mem _ (List.mem_cons_of_mem _ (List.mem_cons_of_mem _ (List.mem_cons_of_mem _ (List.mem_cons_of_mem _ (List.mem_cons_of_mem _ (List.mem_cons_of_mem _ (List.mem_cons_of_mem _ (List.mem_cons_of_mem _ (List.mem_cons_of_mem _ (List.mem_cons_of_mem _ (List.mem_cons_of_mem _ (List.mem_cons_of_mem _ (List.mem_cons_of_mem _ (List.mem_cons_of_mem _ (List.mem_cons_of_mem _ (List.mem_cons_of_mem _ (List.mem_cons_of_mem _ (List.mem_cons_of_mem _ (List.mem_cons_of_mem _ ho))))))))))))))))))))) (Or.inl (List.mem_cons_of_mem _ (List.mem_cons_of_mem _ (List.mem_cons_of_mem _ (List.mem_cons_of_mem _ (List.mem_cons_of_mem _ (List.mem_cons_of_mem _ List.mem_cons_self))))))) rfl rfl (fun h12 H12 => ?_)
  refine al_O H12 (id := 5009) rfl (by decide) (hN 5009 (by decide)).1 (nm (nm (nm (nm (nm (nm (nm (nm (nm (nm (nm (nm (nm (nm (nm (nm (nm (nm (nm (nm (nm (hN 5009 (by decide)).2 (by decide)) (by decide)) (by decide)) (by decide)) (by decide)) (by decide)) (by decide)) (by decide)) (by decide)) (by decide)) (by decide)) (by decide)) (by decide)) (by decide)) (by decide)) (by decide)) (by decide)) (by decide)) (by decide)) (by decide)) (by decide)) (fun a5 h13 H13 => ?_)
  have w_v0 := w_v0.trans (va_ne (f := A11) (k := 5009) (v := a5) (by decide)).symm
  have w_a1 := w_a1.trans (va_ne (f := A11) (k := 5009) (v := a5) (by decide)).symm
  have w_a2 := w_a2.trans (va_ne (f := A11) (k := 5009) (v := a5) (by decide)).symm
  have w_a3 := w_a3.trans (va_ne (f := A11) (k := 5009) (v := a5) (by decide)).symm
  have w_a4 := w_a4.trans (va_ne (f := A11) (k := 5009) (v := a5) (by decide)).symm
  have w_a5 : a5 = (va_up A11 5009 a5) 5009 := (va_up_self _ _ _).symm
  refine al_c9k H13 w_a5 List.mem_cons_self (fun j hj => ⟨(hN j (mem_sub (by decide) hj)).1, (nm (nm (nm (nm (nm (nm (nm (nm (nm (nm (nm (nm (nm (nm (nm (nm (nm (nm (nm (nm (nm (nm (hN j (mem_sub (by decide) hj)).2 (fun z => absurd hj (by rw [z]; decide))) (fun z => absurd hj (by rw [z]; decide))) (fun z => absurd hj (by rw [z]; decide))) (fun z => absurd hj (by rw [z]; decide))) (fun z => absurd hj (by rw [z]; decide))) (fun z => absurd hj (by rw [z]; decide))) (fun z => absurd hj (by rw [z]; decide))) (fun z => absurd hj (by rw [z]; decide))) (fun z => absurd hj (by rw [z]; decide))) (fun z => absurd hj (by rw [z]; decide))) (fun z => absurd hj (by rw [z]; decide))) (fun z => absurd hj (by rw [z]; decide))) (fun z => absurd hj (by rw [z]; decide))) (fun z => absurd hj (by rw [z]; decide))) (fun z => absurd hj (by rw [z]; decide))) (fun z => absurd hj (by rw [z]; decide))) (fun z => absurd hj (by rw [z]; decide))) (fun z => absurd hj (by rw [z]; decide))) (fun z => absurd hj (by rw [z]; decide))) (fun z => absurd hj (by rw [z]; decide))) (fun z => absurd hj (by rw [z]; decide))) (fun z => absurd hj (by rw [z]; decide)))⟩) (fun A14 h14 H14 e14 => ?_)
  have w_v0 := w_v0.trans (e14 5007 (by decide)).symm
  have w_a1 := w_a1.trans (e14 5003 (by decide)).symm
  have w_a2 := w_a2.trans (e14 5002 (by decide)).symm
  have w_a3 := w_a3.trans (e14 5004 (by decide)).symm
  have w_a4 := w_a4.trans (e14 5001 (by decide)).symm
  have w_a5 := w_a5.trans (e14 5009 (by decide)).symm
  refine al_P H14 (o := 5007) (k := 4) (t := 5009) w_v0 w_a5 (List.mem_cons_of_mem _ (List.mem_cons_of_mem _ (List.mem_cons_of_mem _ (List.mem_cons_of_mem _ (List.mem_cons_of_mem _ (List.mem_cons_of_mem _ (List.mem_cons_of_mem _ (List.mem_cons_of_mem _ (List.mem_cons_of_mem _ (List.mem_cons_of_mem _ (List.mem_cons_of_mem _ (List.mem_cons_of_mem _ (List.mem_cons_of_mem _ (List.mem_cons_of_mem _ (List.mem_cons_of_mem _ (List.mem_cons_of_mem _ (List.mem_cons_of_mem _ (List.mem_cons_of_mem _ (List.mem_cons_of_mem _ (List.mem_cons_of_mem _ (List.mem_cons_of_mem _ (List.mem_cons_of_mem _ (List.mem_cons_of_mem _ (List.mem_cons_of_mem _ (List.mem_cons_of_mem _ (List.mem_cons_of_mem _ (List.mem_cons_of_mem _ (List.mem_cons_of_mem _ (List.mem_cons_of_mem _ ho))))))))))))))))))))))))))))) (Or.inl (List.mem_cons_of_mem _ (List.mem_cons_of_mem _ (List.mem_cons_of_mem _ (List.mem_cons_of_mem _ (List.mem_cons_of_mem _ (List.mem_cons_of_mem _ (List.mem_cons_of_mem _ List.mem_cons_self)))))))) rfl rfl (fun h15 H15 => ?_)
  refine al_A H15 (id := 5805) rfl (hN 5805 (by decide)).1 (nm (nm (nm (nm (nm (nm (nm (nm (nm (nm (nm (nm (nm (nm (nm (nm (nm (nm (nm (nm (nm (nm (nm (nm (nm (nm (nm (nm (nm (hN 5805 (by decide)).2 (by decide)) (by decide)) (by decide)) (by decide)) (by decide)) (by decide)) (by decide)) (by decide)) (by decide)) (by decide)) (by decide)) (by decide)) (by decide)) (by decide)) (by decide)) (by decide)) (by decide)) (by decide)) (by decide)) (by decide)) (by decide)) (by decide)) (by decide)) (by decide)) (by decide)) (by decide)) (by decide)) (by decide)) (by decide)) (fun a6 h16 H16 => ?_)
  have w_v0 := w_v0.trans (va_ne (f := A14) (k := 5805) (v := a6) (by decide)).symm
  have w_a1 := w_a1.trans (va_ne (f := A14) (k := 5805) (v := a6) (by decide)).symm
  have w_a2 := w_a2.trans (va_ne (f := A14) (k := 5805) (v := a6) (by decide)).symm
  have w_a3 := w_a3.trans (va_ne (f := A14) (k := 5805) (v := a6) (by decide)).symm
  have w_a4 := w_a4.trans (va_ne (f := A14) (k := 5805) (v := a6) (by decide)).symm
  have w_a5 := w_a5.trans (va_ne (f := A14) (k := 5805) (v := a6) (by decide)).symm
  have w_a6 : a6 = (va_up A14 5805 a6) 5805 := (va_up_self _ _ _).symm
  refine al_P H16 (o := 5007) (k := 5) (t := 5805) w_v0 w_a6 (List.mem_cons_of_mem _ (List.mem_cons_of_mem _ (List.mem_cons_of_mem _ (List.mem_cons_of_mem _ (List.mem_cons_of_mem _ (List.mem_cons_of_mem _ (List.mem_cons_of_mem _ (List.mem_cons_of_mem _ (List.mem_cons_of_mem _ (List.mem_cons_of_mem _ (List.mem_cons_of_mem _ (List.mem_cons_of_mem _ (List.mem_cons_of_mem _ (List.mem_cons_of_mem _ (List.mem_cons_of_mem _ (List.mem_cons_of_mem _ (List.mem_cons_of_mem _ (List.mem_cons_of_mem _ (List.mem_cons_of_mem _ (List.mem_cons_of_mem _ (List.mem_cons_of_mem _ (List.mem_cons_of_mem _ (List.mem_cons_of_mem _ (List.mem_cons_of_mem _ (List.mem_cons_of_mem _ (List.mem_cons_of_mem _ (List.mem_cons_of_mem _ (List.mem_cons_of_mem _ (List.mem_cons_of_mem _ (List.mem_cons_of_mem _ ho)))))))))))))))))))))))))))))) (Or.inl List.mem_cons_self) rfl rfl (fun h17 H17 => ?_)
  refine al_A H17 (id := 5807) rfl (hN 5807 (by decide)).1 (nm (nm (nm (nm (nm (nm (nm (nm (nm (nm (nm (nm (nm (nm (nm (nm (nm (nm (nm (nm (nm (nm (nm (nm (nm (nm (nm (nm (nm (nm (hN 5807 (by decide)).2 (by decide)) (by decide)) (by decide)) (by decide)) (by decide)) (by decide)) (by decide)) (by decide)) (by decide)) (by decide)) (by decide)) (by decide)) (by decide)) (by decide)) (by decide)) (by decide)) (by decide)) (by decide)) (by decide)) (by decide)) (by decide)) (by decide)) (by decide)) (by decide)) (by decide)) (by decide)) (by decide)) (by decide)) (by decide)) (by decide)) (fun a7 h18 H18 => ?_)
  have w_v0 := w_v0.trans (va_ne (f := (va_up A14 5805 a6)) (k := 5807) (v := a7) (by decide)).symm
  have w_a1 := w_a1.trans (va_ne (f := (va_up A14 5805 a6)) (k := 5807) (v := a7) (by decide)).symm
  have w_a2 := w_a2.trans (va_ne (f := (va_up A14 5805 a6)) (k := 5807) (v := a7) (by decide)).symm
  have w_a3 := w_a3.trans (va_ne (f := (va_up A14 5805 a6)) (k := 5807) (v := a7) (by decide)).symm
  have w_a4 := w_a4.trans (va_ne (f := (va_up A14 5805 a6)) (k := 5807) (v := a7) (by decide)).symm
  have w_a5 := w_a5.trans (va_ne (f := (va_up A14 5805 a6)) (k := 5807) (v := a7) (by decide)).symm
  have w_a6 := w_a6.trans (va_ne (f := (va_up A14 5805 a6)) (k := 5807) (v := a7) (by decide)).symm
  have w_a7 : a7 = (va_up (va_up A14 5805 a6) 5807 a7) 5807 := (va_up_self _ _ _).symm
  refine al_P H18 (o := 5007) (k := 7) (t := 5807) w_v0 w_a7 (List.mem_cons_of_mem _ (List.mem_cons_of_mem _ (List.mem_cons_of_mem _ (List.mem_cons_of_mem _ (List.mem_cons_of_mem _ (List.mem_cons_of_mem _ (List.mem_cons_of_mem _ (List.mem_cons_of_mem _ (List.mem_cons_of_mem _ (List.mem_cons_of_mem _ (List.mem_cons_of_mem _ (List.mem_cons_of_mem _ (List.mem_cons_of_mem _ (List.mem_cons_of_mem _ (List.mem_cons_of_mem _ (List.mem_cons_of_mem _ (List.mem_cons_of_mem _ (List.mem_cons_of_mem _ (List.mem_cons_of_mem _ (List.mem_cons_of_mem _ (List.mem_cons_of_mem _ (List.mem_cons_of_mem _ (List.mem_cons_of_mem _ (List.mem_cons_of_mem _ (List.mem_cons_of_mem _ (List.mem_cons_of_mem _ (List.mem_cons_of_mem _ (List.mem_cons_of_mem _ (List.mem_cons_of_mem _ (List.mem_cons_of_mem _ (List.mem_cons_of_mem _ ho))))))))))))))))))))))))))))))) (Or.inl List.mem_cons_self) rfl rfl (fun h19 H19 => ?_)
  refine al_A H19 (id := 5808) rfl (hN 5808 (by decide)).1 (nm (nm (nm (nm (nm (nm (nm (nm (nm (nm (nm (nm (nm (nm (nm (nm (nm (nm (nm (nm (nm (nm (nm (nm (nm (nm (nm (nm (nm (nm (nm (hN 5808 (by decide)).2 (by decide)) (by decide)) (by decide)) (by decide)) (by decide)) (by decide)) (by decide)) (by decide)) (by decide)) (by decide)) (by decide)) (by decide)) (by decide)) (by decide)) (by decide)) (by decide)) (by decide)) (by decide)) (by decide)) (by decide)) (by decide)) (by decide)) (by decide)) (by decide)) (by decide)) (by decide)) (by decide)) (by decide)) (by decide)) (by decide)) (by decide)) (fun a8 h20 H20 => ?_)
  have w_v0 := w_v0.trans (va_ne (f := (va_up (va_up A14 5805 a6) 5807 a7)) (k := 5808) (v := a8) (by decide)).symm
  have w_a1 := w_a1.trans (va_ne (f := (va_up (va_up A14 5805 a6) 5807 a7)) (k := 5808) (v := a8) (by decide)).symm
  have w_a2 := w_a2.trans (va_ne (f := (va_up (va_up A14 5805 a6) 5807 a7)) (k := 5808) (v := a8) (by decide)).symm
  have w_a3 := w_a3.trans (va_ne (f := (va_up (va_up A14 5805 a6) 5807 a7)) (k := 5808) (v := a8) (by decide)).symm
  have w_a4 := w_a4.trans (va_ne (f := (va_up (va_up A14 5805 a6) 5807 a7)) (k := 5808) (v := a8) (by decide)).symm
  have w_a5 := w_a5.trans (va_ne (f := (va_up (va_up A14 5805 a6) 5807 a7)) (k := 5808) (v := a8) (by decide)).symm
  have w_a6 := w_a6.trans (va_ne (f := (va_up (va_up A14 5805 a6) 5807 a7)) (k := 5808) (v := a8) (by decide)).symm
  have w_a7 := w_a7.trans (va_ne (f := (va_up (va_up A14 5805 a6) 5807 a7)) (k := 5808) (v := a8) (by decide)).symm
  have w_a8 : a8 = (va_up (va_up (va_up A14 5805 a6) 5807 a7) 5808 a8) 5808 := (va_up_self _ _ _).symm
  refine al_P H20 (o := 5007) (k := 8) (t := 5808) w_v0 w_a8 (List.mem_cons_of_mem _ (List.mem_cons_of_mem _ (List.mem_cons_of_mem _ (List.mem_cons_of_mem _ (List.mem_cons_of_mem _ (List.mem_cons_of_mem _ (List.mem_cons_of_mem _ (List.mem_cons_of_mem _ (List.mem_cons_of_mem _ (List.mem_cons_of_mem _ (List.mem_cons_of_mem _ (List.mem_cons_of_mem _ (List.mem_cons_of_mem _ (List.mem_cons_of_mem _ (List.mem_cons_of_mem _ (List.mem_cons_of_mem _ (List.mem_cons_of_mem _ (List.mem_cons_of_mem _ (List.mem_cons_of_mem _ (List.mem_cons_of_mem _ (List.mem_cons_of_mem _ (List.mem_cons_of_mem _ (List.mem_cons_of_mem _ (List.mem_cons_of_mem _ (List.mem_cons_of_mem _ (List.mem_cons_of_mem _ (List.mem_cons_of_mem _ (List.mem_cons_of_mem _ (List.mem_cons_of_mem _ (List.mem_cons_of_mem _ (List.mem_cons_of_mem _ (List.mem_cons_of_mem _ ho)))))))))))))))))))))))))))))))) (Or.inl List.mem_cons_self) rfl rfl (fun h21 H21 => ?_)
  refine al_I H21 (o := 5007) (k := 10) w_v0 (List.mem_cons_of_mem _ (List.mem_cons_of_mem _ (List.mem_cons_of_mem _ (List.mem_cons_of_mem _ (List.mem_cons_of_mem _ (List.mem_cons_of_mem _ (List.mem_cons_of_mem _ (List.mem_cons_of_mem _ (List.mem_cons_of_mem _ (List.mem_cons_of_mem _ (List.mem_cons_of_mem _ (List.mem_cons_of_mem _ (List.mem_cons_of_mem _ (List.mem_cons_of_mem _ (List.mem_cons_of_mem _ (List.mem_cons_of_mem _ (List.mem_cons_of_mem _ (List.mem_cons_of_mem _ (List.mem_cons_of_mem _ (List.mem_cons_of_mem _ (List.mem_cons_of_mem _ (List.mem_cons_of_mem _ (List.mem_cons_of_mem _ (List.mem_cons_of_mem _ (List.mem_cons_of_mem _ (List.mem_cons_of_mem _ (List.mem_cons_of_mem _ (List.mem_cons_of_mem _ (List.mem_cons_of_mem _ (List.mem_cons_of_mem _ (List.mem_cons_of_mem _ (List.mem_cons_of_mem _ ho)))))))))))))))))))))))))))))))) rfl (fun h22 H22 => ?_)
  refine kk _ _ H22 (fun j hj => ?_)
  rw [va_ne (fun z => hj (by rw [z]; decide)), va_ne (fun z => hj (by rw [z]; decide)), va_ne (fun z => hj (by rw [z]; decide)), e14 j (fun z => hj (mem_sub (by decide) z)), va_ne (fun z => hj (by rw [z]; decide)), e11 j (fun z => hj (mem_sub (by decide) z)), va_ne (fun z => hj (by rw [z]; decide)), e8 j (fun z => hj (mem_sub (by decide) z)), va_ne (fun z => hj (by rw [z]; decide)), e5 j (fun z => hj (mem_sub (by decide) z)), va_ne (fun z => hj (by rw [z]; decide)), e2 j (fun z => hj (mem_sub (by decide) z)), va_ne (fun z => hj (by rw [z]; decide))]
theorem al_c6 (HA : AL hB D0 A0 L P W A h) {v0 : Nat} (w_v0 : v0 = A 6) (ho : 6 ∈ L) (hN : ∀ j, j ∈ [708, 704, 703, 700] → ¬ D0 j ∧ j ∉ L) {K : AH → Prop} (kk : ∀ A' h', AL hB D0 A0 (708 :: 704 :: 703 :: 700 :: L) ((6, 8) :: (6, 4) :: (6, 3) :: (6, 0) :: P) ((6, 2, (-1 : Int32)) :: W) A' h' → (∀ j, j ∉ [708, 704, 703, 700] → A' j = A j) → K h') : w_X6_init v0 h K := by
  dsimp only [w_X6_init]
  refine al_A HA (id := 700) rfl (hN 700 (by decide)).1 (hN 700 (by decide)).2 (fun a1 h1 H1 => ?_)
  have w_v0 := w_v0.trans (va_ne (f := A) (k := 700) (v := a1) (by decide)).symm
  have w_a1 : a1 = (va_up A 700 a1) 700 := (va_up_self _ _ _).symm
  refine al_P H1 (o := 6) (k := 0) (t := 700) w_v0 w_a1 (List.mem_cons_of_mem _ ho) (Or.inl List.mem_cons_self) rfl rfl (fun h2 H2 => ?_)
  refine al_I H2 (o := 6) (k := 2) w_v0 (List.mem_cons_of_mem _ ho) rfl (fun h3 H3 => ?_)
  refine al_A H3 (id := 703) rfl (hN 703 (by decide)).1 (nm (hN 703 (by decide)).2 (by decide)) (fun a2 h4 H4 => ?_)
  have w_v0 := w_v0.trans (va_ne (f := (va_up A 700 a1)) (k := 703) (v := a2) (by decide)).symm
  have w_a1 := w_a1.trans (va_ne (f := (va_up A 700 a1)) (k := 703) (v := a2) (by decide)).symm
  have w_a2 : a2 = (va_up (va_up A 700 a1) 703 a2) 703 := (va_up_self _ _ _).symm
  refine al_P H4 (o := 6) (k := 3) (t := 703) w_v0 w_a2 (List.mem_cons_of_mem _ (List.mem_cons_of_mem _ ho)) (Or.inl List.mem_cons_self) rfl rfl (fun h5 H5 => ?_)
  refine al_A H5 (id := 704) rfl (hN 704 (by decide)).1 (nm (nm (hN 704 (by decide)).2 (by decide)) (by decide)) (fun a3 h6 H6 => ?_)
  have w_v0 := w_v0.trans (va_ne (f := (va_up (va_up A 700 a1) 703 a2)) (k := 704) (v := a3) (by decide)).symm
  have w_a1 := w_a1.trans (va_ne (f := (va_up (va_up A 700 a1) 703 a2)) (k := 704) (v := a3) (by decide)).symm
  have w_a2 := w_a2.trans (va_ne (f := (va_up (va_up A 700 a1) 703 a2)) (k := 704) (v := a3) (by decide)).symm
  have w_a3 : a3 = (va_up (va_up (va_up A 700 a1) 703 a2) 704 a3) 704 := (va_up_self _ _ _).symm
  refine al_P H6 (o := 6) (k := 4) (t := 704) w_v0 w_a3 (List.mem_cons_of_mem _ (List.mem_cons_of_mem _ (List.mem_cons_of_mem _ ho))) (Or.inl List.mem_cons_self) rfl rfl (fun h7 H7 => ?_)
  refine al_A H7 (id := 708) rfl (hN 708 (by decide)).1 (nm (nm (nm (hN 708 (by decide)).2 (by decide)) (by decide)) (by decide)) (fun a4 h8 H8 => ?_)
  have w_v0 := w_v0.trans (va_ne (f := (va_up (va_up (va_up A 700 a1) 703 a2) 704 a3)) (k := 708) (v := a4) (by decide)).symm
  have w_a1 := w_a1.trans (va_ne (f := (va_up (va_up (va_up A 700 a1) 703 a2) 704 a3)) (k := 708) (v := a4) (by decide)).symm
  have w_a2 := w_a2.trans (va_ne (f := (va_up (va_up (va_up A 700 a1) 703 a2) 704 a3)) (k := 708) (v := a4) (by decide)).symm
  have w_a3 := w_a3.trans (va_ne (f := (va_up (va_up (va_up A 700 a1) 703 a2) 704 a3)) (k := 708) (v := a4) (by decide)).symm
  have w_a4 : a4 = (va_up (va_up (va_up (va_up A 700 a1) 703 a2) 704 a3) 708 a4) 708 := (va_up_self _ _ _).symm
  refine al_P H8 (o := 6) (k := 8) (t := 708) w_v0 w_a4 (List.mem_cons_of_mem _ (List.mem_cons_of_mem _ (List.mem_cons_of_mem _ (List.mem_cons_of_mem _ ho)))) (Or.inl List.mem_cons_self) rfl rfl (fun h9 H9 => ?_)
  refine kk _ _ H9 (fun j hj => ?_)
  rw [va_ne (fun z => hj (by rw [z]; decide)), va_ne (fun z => hj (by rw [z]; decide)), va_ne (fun z => hj (by rw [z]; decide)), va_ne (fun z => hj (by rw [z]; decide))]
theorem al_c0 (HA : AL hB D0 A0 L P W A h) {v0 v1 : Nat} (w_v0 : v0 = A 0) (w_v1 : v1 = A 7) (hv1 : 7 ∈ L ∨ D0 7) (ho : 0 ∈ L) (hN : ∀ j, j ∈ [101] → ¬ D0 j ∧ j ∉ L) {K : AH → Prop} (kk : ∀ A' h', AL hB D0 A0 (101 :: L) ((0, 0) :: (0, 1) :: P) (W) A' h' → (∀ j, j ∉ [101] → A' j = A j) → K h') : w_X0_init v0 v1 h K := by
  dsimp only [w_X0_init]
  refine al_A HA (id := 101) rfl (hN 101 (by decide)).1 (hN 101 (by decide)).2 (fun a1 h1 H1 => ?_)
  have w_v0 := w_v0.trans (va_ne (f := A) (k := 101) (v := a1) (by decide)).symm
  have w_v1 := w_v1.trans (va_ne (f := A) (k := 101) (v := a1) (by decide)).symm
  have w_a1 : a1 = (va_up A 101 a1) 101 := (va_up_self _ _ _).symm
  refine al_P H1 (o := 0) (k := 1) (t := 101) w_v0 w_a1 (List.mem_cons_of_mem _ ho) (Or.inl List.mem_cons_self) rfl rfl (fun h2 H2 => ?_)
  refine al_P H2 (o := 0) (k := 0) (t := 7) w_v0 w_v1 (List.mem_cons_of_mem _ ho) (hv1.elim (fun z => Or.inl (List.mem_cons_of_mem _ z)) Or.inr) rfl rfl (fun h3 H3 => ?_)
  refine kk _ _ H3 (fun j hj => ?_)
  rw [va_ne (fun z => hj (by rw [z]; decide))]
theorem al_c8 (HA : AL hB D0 A0 L P W A h) {v0 v1 : Nat} (w_v0 : v0 = A 8) (w_v1 : v1 = A 7) (hv1 : 7 ∈ L ∨ D0 7) (ho : 8 ∈ L) (hN : ∀ j, j ∈ [908, 907, 905, 904, 903, 902, 901] → ¬ D0 j ∧ j ∉ L) {K : AH → Prop} (kk : ∀ A' h', AL hB D0 A0 (908 :: 907 :: 905 :: 904 :: 903 :: 902 :: 901 :: L) ((8, 0) :: (8, 8) :: (8, 7) :: (8, 5) :: (8, 4) :: (8, 3) :: (8, 2) :: (8, 1) :: P) (W) A' h' → (∀ j, j ∉ [908, 907, 905, 904, 903, 902, 901] → A' j = A j) → K h') : w_X8_init v0 v1 h K := by
  dsimp only [w_X8_init]
  refine al_A HA (id := 901) rfl (hN 901 (by decide)).1 (hN 901 (by decide)).2 (fun a1 h1 H1 => ?_)
  have w_v0 := w_v0.trans (va_ne (f := A) (k := 901) (v := a1) (by decide)).symm
  have w_v1 := w_v1.trans (va_ne (f := A) (k := 901) (v := a1) (by decide)).symm
  have w_a1 : a1 = (va_up A 901 a1) 901 := (va_up_self _ _ _).symm
  refine al_P H1 (o := 8) (k := 1) (t := 901) w_v0 w_a1 (List.mem_cons_of_mem _ ho) (Or.inl List.mem_cons_self) rfl rfl (fun h2 H2 => ?_)
  refine al_A H2 (id := 902) rfl (hN 902 (by decide)).1 (nm (hN 902 (by decide)).2 (by decide)) (fun a2 h3 H3 => ?_)
  have w_v0 := w_v0.trans (va_ne (f := (va_up A 901 a1)) (k := 902) (v := a2) (by decide)).symm
  have w_v1 := w_v1.trans (va_ne (f := (va_up A 901 a1)) (k := 902) (v := a2) (by decide)).symm
  have w_a1 := w_a1.trans (va_ne (f := (va_up A 901 a1)) (k := 902) (v := a2) (by decide)).symm
  have w_a2 : a2 = (va_up (va_up A 901 a1) 902 a2) 902 := (va_up_self _ _ _).symm
  refine al_P H3 (o := 8) (k := 2) (t := 902) w_v0 w_a2 (List.mem_cons_of_mem _ (List.mem_cons_of_mem _ ho)) (Or.inl List.mem_cons_self) rfl rfl (fun h4 H4 => ?_)
  refine al_A H4 (id := 903) rfl (hN 903 (by decide)).1 (nm (nm (hN 903 (by decide)).2 (by decide)) (by decide)) (fun a3 h5 H5 => ?_)
  have w_v0 := w_v0.trans (va_ne (f := (va_up (va_up A 901 a1) 902 a2)) (k := 903) (v := a3) (by decide)).symm
  have w_v1 := w_v1.trans (va_ne (f := (va_up (va_up A 901 a1) 902 a2)) (k := 903) (v := a3) (by decide)).symm
  have w_a1 := w_a1.trans (va_ne (f := (va_up (va_up A 901 a1) 902 a2)) (k := 903) (v := a3) (by decide)).symm
  have w_a2 := w_a2.trans (va_ne (f := (va_up (va_up A 901 a1) 902 a2)) (k := 903) (v := a3) (by decide)).symm
  have w_a3 : a3 = (va_up (va_up (va_up A 901 a1) 902 a2) 903 a3) 903 := (va_up_self _ _ _).symm
  refine al_P H5 (o := 8) (k := 3) (t := 903) w_v0 w_a3 (List.mem_cons_of_mem _ (List.mem_cons_of_mem _ (List.mem_cons_of_mem _ ho))) (Or.inl List.mem_cons_self) rfl rfl (fun h6 H6 => ?_)
  refine al_A H6 (id := 904) rfl (hN 904 (by decide)).1 (nm (nm (nm (hN 904 (by decide)).2 (by decide)) (by decide)) (by decide)) (fun a4 h7 H7 => ?_)
  have w_v0 := w_v0.trans (va_ne (f := (va_up (va_up (va_up A 901 a1) 902 a2) 903 a3)) (k := 904) (v := a4) (by decide)).symm
  have w_v1 := w_v1.trans (va_ne (f := (va_up (va_up (va_up A 901 a1) 902 a2) 903 a3)) (k := 904) (v := a4) (by decide)).symm
  have w_a1 := w_a1.trans (va_ne (f := (va_up (va_up (va_up A 901 a1) 902 a2) 903 a3)) (k := 904) (v := a4) (by decide)).symm
  have w_a2 := w_a2.trans (va_ne (f := (va_up (va_up (va_up A 901 a1) 902 a2) 903 a3)) (k := 904) (v := a4) (by decide)).symm
  have w_a3 := w_a3.trans (va_ne (f := (va_up (va_up (va_up A 901 a1) 902 a2) 903 a3)) (k := 904) (v := a4) (by decide)).symm
  have w_a4 : a4 = (va_up (va_up (va_up (va_up A 901 a1) 902 a2) 903 a3) 904 a4) 904 := (va_up_self _ _ _).symm
  refine al_P H7 (o := 8) (k := 4) (t := 904) w_v0 w_a4 (List.mem_cons_of_mem _ (List.mem_cons_of_mem _ (List.mem_cons_of_mem _ (List.mem_cons_of_mem _ ho)))) (Or.inl List.mem_cons_self) rfl rfl (fun h8 H8 => ?_)
  refine al_A H8 (id := 905) rfl (hN 905 (by decide)).1 (nm (nm (nm (nm (hN 905 (by decide)).2 (by decide)) (by decide)) (by decide)) (by decide)) (fun a5 h9 H9 => ?_)
  have w_v0 := w_v0.trans (va_ne (f := (va_up (va_up (va_up (va_up A 901 a1) 902 a2) 903 a3) 904 a4)) (k := 905) (v := a5) (by decide)).symm
  have w_v1 := w_v1.trans (va_ne (f := (va_up (va_up (va_up (va_up A 901 a1) 902 a2) 903 a3) 904 a4)) (k := 905) (v := a5) (by decide)).symm
  have w_a1 := w_a1.trans (va_ne (f := (va_up (va_up (va_up (va_up A 901 a1) 902 a2) 903 a3) 904 a4)) (k := 905) (v := a5) (by decide)).symm
  have w_a2 := w_a2.trans (va_ne (f := (va_up (va_up (va_up (va_up A 901 a1) 902 a2) 903 a3) 904 a4)) (k := 905) (v := a5) (by decide)).symm
  have w_a3 := w_a3.trans (va_ne (f := (va_up (va_up (va_up (va_up A 901 a1) 902 a2) 903 a3) 904 a4)) (k := 905) (v := a5) (by decide)).symm
  have w_a4 := w_a4.trans (va_ne (f := (va_up (va_up (va_up (va_up A 901 a1) 902 a2) 903 a3) 904 a4)) (k := 905) (v := a5) (by decide)).symm
  have w_a5 : a5 = (va_up (va_up (va_up (va_up (va_up A 901 a1) 902 a2) 903 a3) 904 a4) 905 a5) 905 := (va_up_self _ _ _).symm
  refine al_P H9 (o := 8) (k := 5) (t := 905) w_v0 w_a5 (List.mem_cons_of_mem _ (List.mem_cons_of_mem _ (List.mem_cons_of_mem _ (List.mem_cons_of_mem _ (List.mem_cons_of_mem _ ho))))) (Or.inl List.mem_cons_self) rfl rfl (fun h10 H10 => ?_)
  refine al_A H10 (id := 907) rfl (hN 907 (by decide)).1 (nm (nm (nm (nm (nm (hN 907 (by decide)).2 (by decide)) (by decide)) (by decide)) (by decide)) (by decide)) (fun a6 h11 H11 => ?_)
  have w_v0 := w_v0.trans (va_ne (f := (va_up (va_up (va_up (va_up (va_up A 901 a1) 902 a2) 903 a3) 904 a4) 905 a5)) (k := 907) (v := a6) (by decide)).symm
  have w_v1 := w_v1.trans (va_ne (f := (va_up (va_up (va_up (va_up (va_up A 901 a1) 902 a2) 903 a3) 904 a4) 905 a5)) (k := 907) (v := a6) (by decide)).symm
  have w_a1 := w_a1.trans (va_ne (f := (va_up (va_up (va_up (va_up (va_up A 901 a1) 902 a2) 903 a3) 904 a4) 905 a5)) (k := 907) (v := a6) (by decide)).symm
  have w_a2 := w_a2.trans (va_ne (f := (va_up (va_up (va_up (va_up (va_up A 901 a1) 902 a2) 903 a3) 904 a4) 905 a5)) (k := 907) (v := a6) (by decide)).symm
  have w_a3 := w_a3.trans (va_ne (f := (va_up (va_up (va_up (va_up (va_up A 901 a1) 902 a2) 903 a3) 904 a4) 905 a5)) (k := 907) (v := a6) (by decide)).symm
  have w_a4 := w_a4.trans (va_ne (f := (va_up (va_up (va_up (va_up (va_up A 901 a1) 902 a2) 903 a3) 904 a4) 905 a5)) (k := 907) (v := a6) (by decide)).symm
  have w_a5 := w_a5.trans (va_ne (f := (va_up (va_up (va_up (va_up (va_up A 901 a1) 902 a2) 903 a3) 904 a4) 905 a5)) (k := 907) (v := a6) (by decide)).symm
  have w_a6 : a6 = (va_up (va_up (va_up (va_up (va_up (va_up A 901 a1) 902 a2) 903 a3) 904 a4) 905 a5) 907 a6) 907 := (va_up_self _ _ _).symm
  refine al_P H11 (o := 8) (k := 7) (t := 907) w_v0 w_a6 (List.mem_cons_of_mem _ (List.mem_cons_of_mem _ (List.mem_cons_of_mem _ (List.mem_cons_of_mem _ (List.mem_cons_of_mem _ (List.mem_cons_of_mem _ ho)))))) (Or.inl List.mem_cons_self) rfl rfl (fun h12 H12 => ?_)
  refine al_A H12 (id := 908) rfl (hN 908 (by decide)).1 (nm (nm (nm (nm (nm (nm (hN 908 (by decide)).2 (by decide)) (by decide)) (by decide)) (by decide)) (by decide)) (by decide)) (fun a7 h13 H13 => ?_)
  have w_v0 := w_v0.trans (va_ne (f := (va_up (va_up (va_up (va_up (va_up (va_up A 901 a1) 902 a2) 903 a3) 904 a4) 905 a5) 907 a6)) (k := 908) (v := a7) (by decide)).symm
  have w_v1 := w_v1.trans (va_ne (f := (va_up (va_up (va_up (va_up (va_up (va_up A 901 a1) 902 a2) 903 a3) 904 a4) 905 a5) 907 a6)) (k := 908) (v := a7) (by decide)).symm
  have w_a1 := w_a1.trans (va_ne (f := (va_up (va_up (va_up (va_up (va_up (va_up A 901 a1) 902 a2) 903 a3) 904 a4) 905 a5) 907 a6)) (k := 908) (v := a7) (by decide)).symm
  have w_a2 := w_a2.trans (va_ne (f := (va_up (va_up (va_up (va_up (va_up (va_up A 901 a1) 902 a2) 903 a3) 904 a4) 905 a5) 907 a6)) (k := 908) (v := a7) (by decide)).symm
  have w_a3 := w_a3.trans (va_ne (f := (va_up (va_up (va_up (va_up (va_up (va_up A 901 a1) 902 a2) 903 a3) 904 a4) 905 a5) 907 a6)) (k := 908) (v := a7) (by decide)).symm
  have w_a4 := w_a4.trans (va_ne (f := (va_up (va_up (va_up (va_up (va_up (va_up A 901 a1) 902 a2) 903 a3) 904 a4) 905 a5) 907 a6)) (k := 908) (v := a7) (by decide)).symm
  have w_a5 := w_a5.trans (va_ne (f := (va_up (va_up (va_up (va_up (va_up (va_up A 901 a1) 902 a2) 903 a3) 904 a4) 905 a5) 907 a6)) (k := 908) (v := a7) (by decide)).symm
  have w_a6 := w_a6.trans (va_ne (f := (va_up (va_up (va_up (va_up (va_up (va_up A 901 a1) 902 a2) 903 a3) 904 a4) 905 a5) 907 a6)) (k := 908) (v := a7) (by decide)).symm
  have w_a7 : a7 = (va_up (va_up (va_up (va_up (va_up (va_up (va_up A 901 a1) 902 a2) 903 a3) 904 a4) 905 a5) 907 a6) 908 a7) 908 := (va_up_self _ _ _).symm
  refine al_P H13 (o := 8) (k := 8) (t := 908) w_v0 w_a7 (List.mem_cons_of_mem _ (List.mem_cons_of_mem _ (List.mem_cons_of_mem _ (List.mem_cons_of_mem _ (List.mem_cons_of_mem _ (List.mem_cons_of_mem _ (List.mem_cons_of_mem _ ho))))))) (Or.inl List.mem_cons_self) rfl rfl (fun h14 H14 => ?_)
  refine al_P H14 (o := 8) (k := 0) (t := 7) w_v0 w_v1 (List.mem_cons_of_mem _ (List.mem_cons_of_mem _ (List.mem_cons_of_mem _ (List.mem_cons_of_mem _ (List.mem_cons_of_mem _ (List.mem_cons_of_mem _ (List.mem_cons_of_mem _ ho))))))) (hv1.elim (fun z => Or.inl (List.mem_cons_of_mem _ (List.mem_cons_of_mem _ (List.mem_cons_of_mem _ (List.mem_cons_of_mem _ (List.mem_cons_of_mem _ (List.mem_cons_of_mem _ (List.mem_cons_of_mem _ z)))))))) Or.inr) rfl rfl (fun h15 H15 => ?_)
  refine kk _ _ H15 (fun j hj => ?_)
  rw [va_ne (fun z => hj (by rw [z]; decide)), va_ne (fun z => hj (by rw [z]; decide)), va_ne (fun z => hj (by rw [z]; decide)), va_ne (fun z => hj (by rw [z]; decide)), va_ne (fun z => hj (by rw [z]; decide)), va_ne (fun z => hj (by rw [z]; decide)), va_ne (fun z => hj (by rw [z]; decide))]
theorem al_c11 (HA : AL hB D0 A0 L P W A h) {v0 : Nat} (w_v0 : v0 = A 11) (ho : 11 ∈ L) (hN : ∀ j, j ∈ [908, 907, 905, 904, 903, 902, 901, 8, 101, 0, 808, 807, 805, 1008, 1007, 1006, 1004, 1003, 1002, 1001, 9, 206, 205, 204, 203, 202, 201, 1, 506, 505, 504, 503, 502, 501, 4, 304, 303, 302, 301, 2, 400, 3, 7, 708, 704, 703, 700, 6] → ¬ D0 j ∧ j ∉ L) {K : AH → Prop} (kk : ∀ A' h', AL hB D0 A0 (908 :: 907 :: 905 :: 904 :: 903 :: 902 :: 901 :: 8 :: 101 :: 0 :: 808 :: 807 :: 805 :: 1008 :: 1007 :: 1006 :: 1004 :: 1003 :: 1002 :: 1001 :: 9 :: 206 :: 205 :: 204 :: 203 :: 202 :: 201 :: 1 :: 506 :: 505 :: 504 :: 503 :: 502 :: 501 :: 4 :: 304 :: 303 :: 302 :: 301 :: 2 :: 400 :: 3 :: 7 :: 708 :: 704 :: 703 :: 700 :: 6 :: L) ((11, 3) :: (8, 0) :: (8, 8) :: (8, 7) :: (8, 5) :: (8, 4) :: (8, 3) :: (8, 2) :: (8, 1) :: (11, 2) :: (0, 0) :: (0, 1) :: (11, 1) :: (7, 8) :: (7, 7) :: (7, 5) :: (7, 4) :: (9, 8) :: (9, 7) :: (9, 6) :: (9, 4) :: (9, 3) :: (9, 2) :: (9, 1) :: (7, 3) :: (1, 6) :: (1, 5) :: (1, 4) :: (1, 3) :: (1, 2) :: (1, 1) :: (7, 2) :: (4, 6) :: (4, 5) :: (4, 4) :: (4, 3) :: (4, 2) :: (4, 1) :: (7, 1) :: (2, 4) :: (2, 3) :: (2, 2) :: (2, 1) :: (7, 0) :: (3, 0) :: (11, 0) :: (6, 8) :: (6, 4) :: (6, 3) :: (6, 0) :: P) ((7, 10, (1876 : Int32)) :: (1, 7, (9 : Int32)) :: (6, 2, (-1 : Int32)) :: W) A' h' → (∀ j, j ∉ [908, 907, 905, 904, 903, 902, 901, 8, 101, 0, 808, 807, 805, 1008, 1007, 1006, 1004, 1003, 1002, 1001, 9, 206, 205, 204, 203, 202, 201, 1, 506, 505, 504, 503, 502, 501, 4, 304, 303, 302, 301, 2, 400, 3, 7, 708, 704, 703, 700, 6] → A' j = A j) → K h') : w_X11_init v0 h K := by
  dsimp only [w_X11_init]
  refine al_O HA (id := 6) rfl (by decide) (hN 6 (by decide)).1 (hN 6 (by decide)).2 (fun a1 h1 H1 => ?_)
  have w_v0 := w_v0.trans (va_ne (f := A) (k := 6) (v := a1) (by decide)).symm
  have w_a1 : a1 = (va_up A 6 a1) 6 := (va_up_self _ _ _).symm
  refine al_c6 H1 w_a1 List.mem_cons_self (fun j hj => ⟨(hN j (mem_sub (by decide) hj)).1, (nm (hN j (mem_sub (by decide) hj)).2 (fun z => absurd hj (by rw [z]; decide)))⟩) (fun A2 h2 H2 e2 => ?_)
  have w_v0 := w_v0.trans (e2 11 (by decide)).symm
  have w_a1 := w_a1.trans (e2 6 (by decide)).symm
  refine al_P H2 (o := 11) (k := 0) (t := 6) w_v0 w_a1 (List.mem_cons_of_mem _ (List.mem_cons_of_mem _ (List.mem_cons_of_mem _ (List.mem_cons_of_mem _ (List.mem_cons_of_mem _ ho))))) (Or.inl (List.mem_cons_of_mem _ (List.mem_cons_of_mem _ (List.mem_cons_of_mem _ (List.mem_cons_of_mem _ List.mem_cons_self))))) rfl rfl (fun h3 H3 => ?_)
  refine al_O H3 (id := 7) rfl (by decide) (hN 7 (by decide)).1 (nm (nm (nm (nm (nm (hN 7 (by decide)).2 (by decide)) (by decide)) (by decide)) (by decide)) (by decide)) (fun a2 h4 H4 => ?_)
  have w_v0 := w_v0.trans (va_ne (f := A2) (k := 7) (v := a2) (by decide)).symm
  have w_a1 := w_a1.trans (va_ne (f := A2) (k := 7) (v := a2) (by decide)).symm
  have w_a2 : a2 = (va_up A2 7 a2) 7 := (va_up_self _ _ _).symm
  refine al_c7 H4 w_a2 List.mem_cons_self (fun j hj => ⟨(hN j (mem_sub (by decide) hj)).1, (nm (nm (nm (nm (nm (nm (hN j (mem_sub (by decide) hj)).2 (fun z => absurd hj (by rw [z]; decide))) (fun z => absurd hj (by rw [z]; decide))) (fun z => absurd hj (by rw [z]; decide))) (fun z => absurd hj (by rw [z]; decide))) (fun z => absurd hj (by rw [z]; decide))) (fun z => absurd hj (by rw [z]; decide)))⟩) (fun A5 h5 H5 e5 => ?_)
  have w_v0 := w_v0.trans (e5 11 (by decide)).symm
  have w_a1 := w_a1.trans (e5 6 (by decide)).symm
  have w_a2 := w_a2.trans (e5 7 (by decide)).symm
  refine al_P H5 (o := 11) (k := 1) (t := 7) w_v0 w_a2 (List.mem_cons_of_mem _ (List.mem_cons_of_mem _ (List.mem_cons_of_mem _ (List.mem_cons_of_mem _ (List.mem_cons_of_mem _ (List.mem_cons_of_mem _ (List.mem_cons_of_mem _ (List.mem_cons_of_mem _ (List.mem_cons_of_mem _ (List.mem_cons_of_mem _ (List.mem_cons_of_mem _ (List.mem_cons_of_mem _ (List.mem_cons_of_mem _ (List.mem_cons_of_mem _ (List.mem_cons_of_mem _ (List.mem_cons_of_mem _ (List.mem_cons_of_mem _ (List.mem_cons_of_mem _ (List.mem_cons_of_mem _ (List.mem_cons_of_mem _ (List.mem_cons_of_mem _ (List.mem_cons_of_mem _ (List.mem_cons_of_mem _ (List.mem_cons_of_mem _ (List.mem_cons_of_mem _ (List.mem_cons_of_mem _ (List.mem_cons_of_mem _ (List.mem_cons_of_mem _ (List.mem_cons_of_mem _ (List.mem_cons_of_mem _ (List.mem_cons_of_mem _ (List.mem_cons_of_mem _ (List.mem_cons_of_mem _ (List.mem_cons_of_mem _ (List.mem_cons_of_mem _ (List.mem_cons_of_mem _ (List.mem_cons_of_mem _ (List.mem_cons_of_mem _ ho)))))))))))))))))))))))))))))))))))))) (Or.inl (List.mem_cons_of_mem _ (List.mem_cons_of_mem _ (List.mem_cons_of_mem _ (List.mem_cons_of_mem _ (List.mem_cons_of_mem _ (List.mem_cons_of_mem _ (List.mem_cons_of_mem _ (List.mem_cons_of_mem _ (List.mem_cons_of_mem _ (List.mem_cons_of_mem _ (List.mem_cons_of_mem _ (List.mem_cons_of_mem _ (List.mem_cons_of_mem _ (List.mem_cons_of_mem _ (List.mem_cons_of_mem _ (List.mem_cons_of_mem _ (List.mem_cons_of_mem _ (List.mem_cons_of_mem _ (List.mem_cons_of_mem _ (List.mem_cons_of_mem _ (List.mem_cons_of_mem _ (List.mem_cons_of_mem _ (List.mem_cons_of_mem _ (List.mem_cons_of_mem _ (List.mem_cons_of_mem _ (List.mem_cons_of_mem _ (List.mem_cons_of_mem _ (List.mem_cons_of_mem _ (List.mem_cons_of_mem _ (List.mem_cons_of_mem _ (List.mem_cons_of_mem _ (List.mem_cons_of_mem _ List.mem_cons_self))))))))))))))))))))))))))))))))) rfl rfl (fun h6 H6 => ?_)
  refine al_O H6 (id := 0) rfl (by decide) (hN 0 (by decide)).1 (nm (nm (nm (nm (nm (nm (nm (nm (nm (nm (nm (nm (nm (nm (nm (nm (nm (nm (nm (nm (nm (nm (nm (nm (nm (nm (nm (nm (nm (nm (nm (nm (nm (nm (nm (nm (nm (nm (hN 0 (by decide)).2 (by decide)) (by decide)) (by decide)) (by decide)) (by decide)) (by decide)) (by decide)) (by decide)) (by decide)) (by decide)) (by decide)) (by decide)) (by decide)) (by decide)) (by decide)) (by decide)) (by decide)) (by decide)) (by decide)) (by decide)) (by decide)) (by decide)) (by decide)) (by decide)) (by decide)) (by decide)) (by decide)) (by decide)) (by decide)) (by decide)) (by decide)) (by decide)) (by decide)) (by decide)) (by decide)) (by decide)) (by decide)) (by decide)) (fun a3 h7 H7 => ?_)
  have w_v0 := w_v0.trans (va_ne (f := A5) (k := 0) (v := a3) (by decide)).symm
  have w_a1 := w_a1.trans (va_ne (f := A5) (k := 0) (v := a3) (by decide)).symm
  have w_a2 := w_a2.trans (va_ne (f := A5) (k := 0) (v := a3) (by decide)).symm
  have w_a3 : a3 = (va_up A5 0 a3) 0 := (va_up_self _ _ _).symm
  refine al_F H7 (o := 11) (k := 1) (t := 7) w_v0 List.mem_cons_self rfl rfl ?_
  generalize w_a4 : (va_up A5 0 a3) 7 = a4
  have w_a4 := w_a4.symm
  refine al_c0 H7 w_a3 w_a4 (Or.inl (List.mem_cons_of_mem _ (List.mem_cons_of_mem _ (List.mem_cons_of_mem _ (List.mem_cons_of_mem _ (List.mem_cons_of_mem _ (List.mem_cons_of_mem _ (List.mem_cons_of_mem _ (List.mem_cons_of_mem _ (List.mem_cons_of_mem _ (List.mem_cons_of_mem _ (List.mem_cons_of_mem _ (List.mem_cons_of_mem _ (List.mem_cons_of_mem _ (List.mem_cons_of_mem _ (List.mem_cons_of_mem _ (List.mem_cons_of_mem _ (List.mem_cons_of_mem _ (List.mem_cons_of_mem _ (List.mem_cons_of_mem _ (List.mem_cons_of_mem _ (List.mem_cons_of_mem _ (List.mem_cons_of_mem _ (List.mem_cons_of_mem _ (List.mem_cons_of_mem _ (List.mem_cons_of_mem _ (List.mem_cons_of_mem _ (List.mem_cons_of_mem _ (List.mem_cons_of_mem _ (List.mem_cons_of_mem _ (List.mem_cons_of_mem _ (List.mem_cons_of_mem _ (List.mem_cons_of_mem _ (List.mem_cons_of_mem _ List.mem_cons_self)))))))))))))))))))))))))))))))))) List.mem_cons_self (fun j hj => ⟨(hN j (mem_sub (by decide) hj)).1, (nm (nm (nm (nm (nm (nm (nm (nm (nm (nm (nm (nm (nm (nm (nm (nm (nm (nm (nm (nm (nm (nm (nm (nm (nm (nm (nm (nm (nm (nm (nm (nm (nm (nm (nm (nm (nm (nm (nm (hN j (mem_sub (by decide) hj)).2 (fun z => absurd hj (by rw [z]; decide))) (fun z => absurd hj (by rw [z]; decide))) (fun z => absurd hj (by rw [z]; decide))) (fun z => absurd hj (by rw [z]; decide))) (fun z => absurd hj (by rw [z]; decide))) (fun z => absurd hj (by rw [z]; decide))) (fun z => absurd hj (by rw [z]; decide))) (fun z => absurd hj (by rw [z]; decide))) (fun z => absurd hj (by rw [z]; decide))) (fun z => absurd hj (by rw [z]; decide))) (fun z => absurd hj (by rw [z]; decide))) (fun z => absurd hj (by rw [z]; decide))) (fun z => absurd hj (by rw [z]; decide))) (fun z => absurd hj (by rw [z]; decide))) (fun z => absurd hj (by rw [z]; decide))) (fun z => absurd hj (by rw [z]; decide))) (fun z => absurd hj (by rw [z]; decide))) (fun z => absurd hj (by rw [z]; decide))) (fun z => absurd hj (by rw [z]; decide))) (fun z => absurd hj (by rw [z]; decide))) (fun z => absurd hj (by rw [z]; decide))) (fun z => absurd hj (by rw [z]; decide))) (fun z => absurd hj (by rw [z]; decide))) (fun z => absurd hj (by rw [z]; decide))) (fun z => absurd hj (by rw [z]; decide))) (fun z => absurd hj (by rw [z]; decide))) (fun z => absurd hj (by rw [z]; decide))) (fun z => absurd hj (by rw [z]; decide))) (fun z => absurd hj (by rw [z]; decide))) (fun z => absurd hj (by rw [z]; decide))) (fun z => absurd hj (by rw [z]; decide))) (fun z => absurd hj (by rw [z]; decide))) (fun z => absurd hj (by rw [z]; decide))) (fun z => absurd hj (by rw [z]; decide))) (fun z => absurd hj (by rw [z]; decide))) (fun z => absurd hj (by rw [z]; decide))) (fun z => absurd hj (by rw [z]; decide))) (fun z => absurd hj (by rw [z]; decide))) (fun z => absurd hj (by rw [z]; decide)))⟩) (fun A8 h8 H8 e8 => ?_)
  have w_v0 := w_v0.trans (e8 11 (by decide)).symm
  have w_a1 := w_a1.trans (e8 6 (by decide)).symm
  have w_a2 := w_a2.trans (e8 7 (by decide)).symm
  have w_a3 := w_a3.trans (e8 0 (by decide)).symm
  have w_a4 := w_a4.trans (e8 7 (by decide)).symm
  refine al_P H8 (o := 11) (k := 2) (t := 0) w_v0 w_a3 (List.mem_cons_of_mem _ (List.mem_cons_of_mem _ (List.mem_cons_of_mem _ (List.mem_cons_of_mem _ (List.mem_cons_of_mem _ (List.mem_cons_of_mem _ (List.mem_cons_of_mem _ (List.mem_cons_of_mem _ (List.mem_cons_of_mem _ (List.mem_cons_of_mem _ (List.mem_cons_of_mem _ (List.mem_cons_of_mem _ (List.mem_cons_of_mem _ (List.mem_cons_of_mem _ (List.mem_cons_of_mem _ (List.mem_cons_of_mem _ (List.mem_cons_of_mem _ (List.mem_cons_of_mem _ (List.mem_cons_of_mem _ (List.mem_cons_of_mem _ (List.mem_cons_of_mem _ (List.mem_cons_of_mem _ (List.mem_cons_of_mem _ (List.mem_cons_of_mem _ (List.mem_cons_of_mem _ (List.mem_cons_of_mem _ (List.mem_cons_of_mem _ (List.mem_cons_of_mem _ (List.mem_cons_of_mem _ (List.mem_cons_of_mem _ (List.mem_cons_of_mem _ (List.mem_cons_of_mem _ (List.mem_cons_of_mem _ (List.mem_cons_of_mem _ (List.mem_cons_of_mem _ (List.mem_cons_of_mem _ (List.mem_cons_of_mem _ (List.mem_cons_of_mem _ (List.mem_cons_of_mem _ (List.mem_cons_of_mem _ ho)))))))))))))))))))))))))))))))))))))))) (Or.inl (List.mem_cons_of_mem _ List.mem_cons_self)) rfl rfl (fun h9 H9 => ?_)
  refine al_O H9 (id := 8) rfl (by decide) (hN 8 (by decide)).1 (nm (nm (nm (nm (nm (nm (nm (nm (nm (nm (nm (nm (nm (nm (nm (nm (nm (nm (nm (nm (nm (nm (nm (nm (nm (nm (nm (nm (nm (nm (nm (nm (nm (nm (nm (nm (nm (nm (nm (nm (hN 8 (by decide)).2 (by decide)) (by decide)) (by decide)) (by decide)) (by decide)) (by decide)) (by decide)) (by decide)) (by decide)) (by decide)) (by decide)) (by decide)) (by decide)) (by decide)) (by decide)) (by decide)) (by decide)) (by decide)) (by decide)) (by decide)) (by decide)) (by decide)) (by decide)) (by decide)) (by decide)) (by decide)) (by decide)) (by decide)) (by decide)) (by decide)) (by decide)) (by decide)) (by decide)) (by decide)) (by decide)) (by decide)) (by decide)) (by decide)) (by decide)) (by decide)) (fun a5 h10 H10 => ?_)
  have w_v0 := w_v0.trans (va_ne (f := A8) (k := 8) (v := a5) (by decide)).symm
  have w_a1 := w_a1.trans (va_ne (f := A8) (k := 8) (v := a5) (by decide)).symm
  have w_a2 := w_a2.trans (va_ne (f := A8) (k := 8) (v := a5) (by decide)).symm
  have w_a3 := w_a3.trans (va_ne (f := A8) (k := 8) (v := a5) (by decide)).symm
  have w_a4 := w_a4.trans (va_ne (f := A8) (k := 8) (v := a5) (by decide)).symm
  have w_a5 : a5 = (va_up A8 8 a5) 8 := (va_up_self _ _ _).symm
  refine al_F H10 (o := 11) (k := 1) (t := 7) w_v0 (List.mem_cons_of_mem _ (List.mem_cons_of_mem _ (List.mem_cons_of_mem _ List.mem_cons_self))) rfl rfl ?_
  generalize w_a6 : (va_up A8 8 a5) 7 = a6
  have w_a6 := w_a6.symm
  refine al_c8 H10 w_a5 w_a6 (Or.inl (List.mem_cons_of_mem _ (List.mem_cons_of_mem _ (List.mem_cons_of_mem _ (List.mem_cons_of_mem _ (List.mem_cons_of_mem _ (List.mem_cons_of_mem _ (List.mem_cons_of_mem _ (List.mem_cons_of_mem _ (List.mem_cons_of_mem _ (List.mem_cons_of_mem _ (List.mem_cons_of_mem _ (List.mem_cons_of_mem _ (List.mem_cons_of_mem _ (List.mem_cons_of_mem _ (List.mem_cons_of_mem _ (List.mem_cons_of_mem _ (List.mem_cons_of_mem _ (List.mem_cons_of_mem _ (List.mem_cons_of_mem _ (List.mem_cons_of_mem _ (List.mem_cons_of_mem _ (List.mem_cons_of_mem _ (List.mem_cons_of_mem _ (List.mem_cons_of_mem _ (List.mem_cons_of_mem _ (List.mem_cons_of_mem _ (List.mem_cons_of_mem _ (List.mem_cons_of_mem _ (List.mem_cons_of_mem _ (List.mem_cons_of_mem _ (List.mem_cons_of_mem _ (List.mem_cons_of_mem _ (List.mem_cons_of_mem _ (List.mem_cons_of_mem _ (List.mem_cons_of_mem _ List.mem_cons_self)))))))))))))))))))))))))))))))))))) List.mem_cons_self (fun j hj => ⟨(hN j (mem_sub (by decide) hj)).1, (nm (nm (nm (nm (nm (nm (nm (nm (nm (nm (nm (nm (nm (nm (nm (nm (nm (nm (nm (nm (nm (nm (nm (nm (nm (nm (nm (nm (nm (nm (nm (nm (nm (nm (nm (nm (nm (nm (nm (nm (nm (hN j (mem_sub (by decide) hj)).2 (fun z => absurd hj (by rw [z]; decide))) (fun z => absurd hj (by rw [z]; decide))) (fun z => absurd hj (by rw [z]; decide))) (fun z => absurd hj (by rw [z]; decide))) (fun z => absurd hj (by rw [z]; decide))) (fun z => absurd hj (by rw [z]; decide))) (fun z => absurd hj (by rw [z]; decide))) (fun z => absurd hj (by rw [z]; decide))) (fun z => absurd hj (by rw [z]; decide))) (fun z => absurd hj (by rw [z]; decide))) (fun z => absurd hj (by rw [z]; decide))) (fun z => absurd hj (by rw [z]; decide))) (fun z => absurd hj (by rw [z]; decide))) (fun z => absurd hj (by rw [z]; decide))) (fun z => absurd hj (by rw [z]; decide))) (fun z => absurd hj (by rw [z]; decide))) (fun z => absurd hj (by rw [z]; decide))) (fun z => absurd hj (by rw [z]; decide))) (fun z => absurd hj (by rw [z]; decide))) (fun z => absurd hj (by rw [z]; decide))) (fun z => absurd hj (by rw [z]; decide))) (fun z => absurd hj (by rw [z]; decide))) (fun z => absurd hj (by rw [z]; decide))) (fun z => absurd hj (by rw [z]; decide))) (fun z => absurd hj (by rw [z]; decide))) (fun z => absurd hj (by rw [z]; decide))) (fun z => absurd hj (by rw [z]; decide))) (fun z => absurd hj (by rw [z]; decide))) (fun z => absurd hj (by rw [z]; decide))) (fun z => absurd hj (by rw [z]; decide))) (fun z => absurd hj (by rw [z]; decide))) (fun z => absurd hj (by rw [z]; decide))) (fun z => absurd hj (by rw [z]; decide))) (fun z => absurd hj (by rw [z]; decide))) (fun z => absurd hj (by rw [z]; decide))) (fun z => absurd hj (by rw [z]; decide))) (fun z => absurd hj (by rw [z]; decide))) (fun z => absurd hj (by rw [z]; decide))) (fun z => absurd hj (by rw [z]; decide))) (fun z => absurd hj (by rw [z]; decide))) (fun z => absurd hj (by rw [z]; decide)))⟩) (fun A11 h11 H11 e11 => ?_)
  have w_v0 := w_v0.trans (e11 11 (by decide)).symm
  have w_a1 := w_a1.trans (e11 6 (by decide)).symm
  have w_a2 := w_a2.trans (e11 7 (by decide)).symm
  have w_a3 := w_a3.trans (e11 0 (by decide)).symm
  have w_a4 := w_a4.trans (e11 7 (by decide)).symm
  have w_a5 := w_a5.trans (e11 8 (by decide)).symm
  have w_a6 := w_a6.trans (e11 7 (by decide)).symm
  refine al_P H11 (o := 11) (k := 3) (t := 8) w_v0 w_a5 (List.mem_cons_of_mem _ (List.mem_cons_of_mem _ (List.mem_cons_of_mem _ (List.mem_cons_of_mem _ (List.mem_cons_of_mem _ (List.mem_cons_of_mem _ (List.mem_cons_of_mem _ (List.mem_cons_of_mem _ (List.mem_cons_of_mem _ (List.mem_cons_of_mem _ (List.mem_cons_of_mem _ (List.mem_cons_of_mem _ (List.mem_cons_of_mem _ (List.mem_cons_of_mem _ (List.mem_cons_of_mem _ (List.mem_cons_of_mem _ (List.mem_cons_of_mem _ (List.mem_cons_of_mem _ (List.mem_cons_of_mem _ (List.mem_cons_of_mem _ (List.mem_cons_of_mem _ (List.mem_cons_of_mem _ (List.mem_cons_of_mem _ (List.mem_cons_of_mem _ (List.mem_cons_of_mem _ (List.mem_cons_of_mem _ (List.mem_cons_of_mem _ (List.mem_cons_of_mem _ (List.mem_cons_of_mem _ (List.mem_cons_of_mem _ (List.mem_cons_of_mem _ (List.mem_cons_of_mem _ (List.mem_cons_of_mem _ (List.mem_cons_of_mem _ (List.mem_cons_of_mem _ (List.mem_cons_of_mem _ (List.mem_cons_of_mem _ (List.mem_cons_of_mem _ (List.mem_cons_of_mem _ (List.mem_cons_of_mem _ (List.mem_cons_of_mem _ (List.mem_cons_of_mem _ (List.mem_cons_of_mem _ (List.mem_cons_of_mem _ (List.mem_cons_of_mem _ (List.mem_cons_of_mem _ (List.mem_cons_of_mem _ (List.mem_cons_of_mem _ ho)))))))))))))))))))))))))))))))))))))))))))))))) (Or.inl (List.mem_cons_of_mem _ (List.mem_cons_of_mem _ (List.mem_cons_of_mem _ (List.mem_cons_of_mem _ (List.mem_cons_of_mem _ (List.mem_cons_of_mem _ (List.mem_cons_of_mem _ List.mem_cons_self)))))))) rfl rfl (fun h12 H12 => ?_)
  refine kk _ _ H12 (fun j hj => ?_)
  rw [e11 j (fun z => hj (mem_sub (by decide) z)), va_ne (fun z => hj (by rw [z]; decide)), e8 j (fun z => hj (mem_sub (by decide) z)), va_ne (fun z => hj (by rw [z]; decide)), e5 j (fun z => hj (mem_sub (by decide) z)), va_ne (fun z => hj (by rw [z]; decide)), e2 j (fun z => hj (mem_sub (by decide) z)), va_ne (fun z => hj (by rw [z]; decide))]
theorem al_c12 (HA : AL hB D0 A0 L P W A h) {v0 : Nat} (w_v0 : v0 = A 12) (ho : 12 ∈ L) (hN : ∀ j, j ∈ [1327, 1325, 1323, 1322, 1321, 1319, 1318, 1314, 1311, 1304, 1302, 1301] → ¬ D0 j ∧ j ∉ L) {K : AH → Prop} (kk : ∀ A' h', AL hB D0 A0 (1327 :: 1325 :: 1323 :: 1322 :: 1321 :: 1319 :: 1318 :: 1314 :: 1311 :: 1304 :: 1302 :: 1301 :: L) ((12, 27) :: (12, 25) :: (12, 23) :: (12, 22) :: (12, 21) :: (12, 19) :: (12, 18) :: (12, 14) :: (12, 11) :: (12, 4) :: (12, 2) :: (12, 1) :: P) ((1301, 10, (9 : Int32)) :: (1301, 8, (1876 : Int32)) :: (12, 10, (-1 : Int32)) :: W) A' h' → (∀ j, j ∉ [1327, 1325, 1323, 1322, 1321, 1319, 1318, 1314, 1311, 1304, 1302, 1301] → A' j = A j) → K h') : w_X12_init v0 h K := by
  dsimp only [w_X12_init]
  refine al_A HA (id := 1301) rfl (hN 1301 (by decide)).1 (hN 1301 (by decide)).2 (fun a1 h1 H1 => ?_)
  have w_v0 := w_v0.trans (va_ne (f := A) (k := 1301) (v := a1) (by decide)).symm
  have w_a1 : a1 = (va_up A 1301 a1) 1301 := (va_up_self _ _ _).symm
  refine al_P H1 (o := 12) (k := 1) (t := 1301) w_v0 w_a1 (List.mem_cons_of_mem _ ho) (Or.inl List.mem_cons_self) rfl rfl (fun h2 H2 => ?_)
  refine al_A H2 (id := 1302) rfl (hN 1302 (by decide)).1 (nm (hN 1302 (by decide)).2 (by decide)) (fun a2 h3 H3 => ?_)
  have w_v0 := w_v0.trans (va_ne (f := (va_up A 1301 a1)) (k := 1302) (v := a2) (by decide)).symm
  have w_a1 := w_a1.trans (va_ne (f := (va_up A 1301 a1)) (k := 1302) (v := a2) (by decide)).symm
  have w_a2 : a2 = (va_up (va_up A 1301 a1) 1302 a2) 1302 := (va_up_self _ _ _).symm
  refine al_P H3 (o := 12) (k := 2) (t := 1302) w_v0 w_a2 (List.mem_cons_of_mem _ (List.mem_cons_of_mem _ ho)) (Or.inl List.mem_cons_self) rfl rfl (fun h4 H4 => ?_)
  refine al_A H4 (id := 1304) rfl (hN 1304 (by decide)).1 (nm (nm (hN 1304 (by decide)).2 (by decide)) (by decide)) (fun a3 h5 H5 => ?_)
  have w_v0 := w_v0.trans (va_ne (f := (va_up (va_up A 1301 a1) 1302 a2)) (k := 1304) (v := a3) (by decide)).symm
  have w_a1 := w_a1.trans (va_ne (f := (va_up (va_up A 1301 a1) 1302 a2)) (k := 1304) (v := a3) (by decide)).symm
  have w_a2 := w_a2.trans (va_ne (f := (va_up (va_up A 1301 a1) 1302 a2)) (k := 1304) (v := a3) (by decide)).symm
  have w_a3 : a3 = (va_up (va_up (va_up A 1301 a1) 1302 a2) 1304 a3) 1304 := (va_up_self _ _ _).symm
  refine al_P H5 (o := 12) (k := 4) (t := 1304) w_v0 w_a3 (List.mem_cons_of_mem _ (List.mem_cons_of_mem _ (List.mem_cons_of_mem _ ho))) (Or.inl List.mem_cons_self) rfl rfl (fun h6 H6 => ?_)
  refine al_I H6 (o := 12) (k := 10) w_v0 (List.mem_cons_of_mem _ (List.mem_cons_of_mem _ (List.mem_cons_of_mem _ ho))) rfl (fun h7 H7 => ?_)
  refine al_A H7 (id := 1311) rfl (hN 1311 (by decide)).1 (nm (nm (nm (hN 1311 (by decide)).2 (by decide)) (by decide)) (by decide)) (fun a4 h8 H8 => ?_)
  have w_v0 := w_v0.trans (va_ne (f := (va_up (va_up (va_up A 1301 a1) 1302 a2) 1304 a3)) (k := 1311) (v := a4) (by decide)).symm
  have w_a1 := w_a1.trans (va_ne (f := (va_up (va_up (va_up A 1301 a1) 1302 a2) 1304 a3)) (k := 1311) (v := a4) (by decide)).symm
  have w_a2 := w_a2.trans (va_ne (f := (va_up (va_up (va_up A 1301 a1) 1302 a2) 1304 a3)) (k := 1311) (v := a4) (by decide)).symm
  have w_a3 := w_a3.trans (va_ne (f := (va_up (va_up (va_up A 1301 a1) 1302 a2) 1304 a3)) (k := 1311) (v := a4) (by decide)).symm
  have w_a4 : a4 = (va_up (va_up (va_up (va_up A 1301 a1) 1302 a2) 1304 a3) 1311 a4) 1311 := (va_up_self _ _ _).symm
  refine al_P H8 (o := 12) (k := 11) (t := 1311) w_v0 w_a4 (List.mem_cons_of_mem _ (List.mem_cons_of_mem _ (List.mem_cons_of_mem _ (List.mem_cons_of_mem _ ho)))) (Or.inl List.mem_cons_self) rfl rfl (fun h9 H9 => ?_)
  refine al_A H9 (id := 1314) rfl (hN 1314 (by decide)).1 (nm (nm (nm (nm (hN 1314 (by decide)).2 (by decide)) (by decide)) (by decide)) (by decide)) (fun a5 h10 H10 => ?_)
  have w_v0 := w_v0.trans (va_ne (f := (va_up (va_up (va_up (va_up A 1301 a1) 1302 a2) 1304 a3) 1311 a4)) (k := 1314) (v := a5) (by decide)).symm
  have w_a1 := w_a1.trans (va_ne (f := (va_up (va_up (va_up (va_up A 1301 a1) 1302 a2) 1304 a3) 1311 a4)) (k := 1314) (v := a5) (by decide)).symm
  have w_a2 := w_a2.trans (va_ne (f := (va_up (va_up (va_up (va_up A 1301 a1) 1302 a2) 1304 a3) 1311 a4)) (k := 1314) (v := a5) (by decide)).symm
  have w_a3 := w_a3.trans (va_ne (f := (va_up (va_up (va_up (va_up A 1301 a1) 1302 a2) 1304 a3) 1311 a4)) (k := 1314) (v := a5) (by decide)).symm
  have w_a4 := w_a4.trans (va_ne (f := (va_up (va_up (va_up (va_up A 1301 a1) 1302 a2) 1304 a3) 1311 a4)) (k := 1314) (v := a5) (by decide)).symm
  have w_a5 : a5 = (va_up (va_up (va_up (va_up (va_up A 1301 a1) 1302 a2) 1304 a3) 1311 a4) 1314 a5) 1314 := (va_up_self _ _ _).symm
  refine al_P H10 (o := 12) (k := 14) (t := 1314) w_v0 w_a5 (List.mem_cons_of_mem _ (List.mem_cons_of_mem _ (List.mem_cons_of_mem _ (List.mem_cons_of_mem _ (List.mem_cons_of_mem _ ho))))) (Or.inl List.mem_cons_self) rfl rfl (fun h11 H11 => ?_)
  refine al_A H11 (id := 1318) rfl (hN 1318 (by decide)).1 (nm (nm (nm (nm (nm (hN 1318 (by decide)).2 (by decide)) (by decide)) (by decide)) (by decide)) (by decide)) (fun a6 h12 H12 => ?_)
  have w_v0 := w_v0.trans (va_ne (f := (va_up (va_up (va_up (va_up (va_up A 1301 a1) 1302 a2) 1304 a3) 1311 a4) 1314 a5)) (k := 1318) (v := a6) (by decide)).symm
  have w_a1 := w_a1.trans (va_ne (f := (va_up (va_up (va_up (va_up (va_up A 1301 a1) 1302 a2) 1304 a3) 1311 a4) 1314 a5)) (k := 1318) (v := a6) (by decide)).symm
  have w_a2 := w_a2.trans (va_ne (f := (va_up (va_up (va_up (va_up (va_up A 1301 a1) 1302 a2) 1304 a3) 1311 a4) 1314 a5)) (k := 1318) (v := a6) (by decide)).symm
  have w_a3 := w_a3.trans (va_ne (f := (va_up (va_up (va_up (va_up (va_up A 1301 a1) 1302 a2) 1304 a3) 1311 a4) 1314 a5)) (k := 1318) (v := a6) (by decide)).symm
  have w_a4 := w_a4.trans (va_ne (f := (va_up (va_up (va_up (va_up (va_up A 1301 a1) 1302 a2) 1304 a3) 1311 a4) 1314 a5)) (k := 1318) (v := a6) (by decide)).symm
  have w_a5 := w_a5.trans (va_ne (f := (va_up (va_up (va_up (va_up (va_up A 1301 a1) 1302 a2) 1304 a3) 1311 a4) 1314 a5)) (k := 1318) (v := a6) (by decide)).symm
  have w_a6 : a6 = (va_up (va_up (va_up (va_up (va_up (va_up A 1301 a1) 1302 a2) 1304 a3) 1311 a4) 1314 a5) 1318 a6) 1318 := (va_up_self _ _ _).symm
  refine al_P H12 (o := 12) (k := 18) (t := 1318) w_v0 w_a6 (List.mem_cons_of_mem _ (List.mem_cons_of_mem _ (List.mem_cons_of_mem _ (List.mem_cons_of_mem _ (List.mem_cons_of_mem _ (List.mem_cons_of_mem _ ho)))))) (Or.inl List.mem_cons_self) rfl rfl (fun h13 H13 => ?_)
  refine al_A H13 (id := 1319) rfl (hN 1319 (by decide)).1 (nm (nm (nm (nm (nm (nm (hN 1319 (by decide)).2 (by decide)) (by decide)) (by decide)) (by decide)) (by decide)) (by decide)) (fun a7 h14 H14 => ?_)
  have w_v0 := w_v0.trans (va_ne (f := (va_up (va_up (va_up (va_up (va_up (va_up A 1301 a1) 1302 a2) 1304 a3) 1311 a4) 1314 a5) 1318 a6)) (k := 1319) (v := a7) (by decide)).symm
  have w_a1 := w_a1.trans (va_ne (f := (va_up (va_up (va_up (va_up (va_up (va_up A 1301 a1) 1302 a2) 1304 a3) 1311 a4) 1314 a5) 1318 a6)) (k := 1319) (v := a7) (by decide)).symm
  have w_a2 := w_a2.trans (va_ne (f := (va_up (va_up (va_up (va_up (va_up (va_up A 1301 a1) 1302 a2) 1304 a3) 1311 a4) 1314 a5) 1318 a6)) (k := 1319) (v := a7) (by decide)).symm
  have w_a3 := w_a3.trans (va_ne (f := (va_up (va_up (va_up (va_up (va_up (va_up A 1301 a1) 1302 a2) 1304 a3) 1311 a4) 1314 a5) 1318 a6)) (k := 1319) (v := a7) (by decide)).symm
  have w_a4 := w_a4.trans (va_ne (f := (va_up (va_up (va_up (va_up (va_up (va_up A 1301 a1) 1302 a2) 1304 a3) 1311 a4) 1314 a5) 1318 a6)) (k := 1319) (v := a7) (by decide)).symm
  have w_a5 := w_a5.trans (va_ne (f := (va_up (va_up (va_up (va_up (va_up (va_up A 1301 a1) 1302 a2) 1304 a3) 1311 a4) 1314 a5) 1318 a6)) (k := 1319) (v := a7) (by decide)).symm
  have w_a6 := w_a6.trans (va_ne (f := (va_up (va_up (va_up (va_up (va_up (va_up A 1301 a1) 1302 a2) 1304 a3) 1311 a4) 1314 a5) 1318 a6)) (k := 1319) (v := a7) (by decide)).symm
  have w_a7 : a7 = (va_up (va_up (va_up (va_up (va_up (va_up (va_up A 1301 a1) 1302 a2) 1304 a3) 1311 a4) 1314 a5) 1318 a6) 1319 a7) 1319 := (va_up_self _ _ _).symm
  refine al_P H14 (o := 12) (k := 19) (t := 1319) w_v0 w_a7 (List.mem_cons_of_mem _ (List.mem_cons_of_mem _ (List.mem_cons_of_mem _ (List.mem_cons_of_mem _ (List.mem_cons_of_mem _ (List.mem_cons_of_mem _ (List.mem_cons_of_mem _ ho))))))) (Or.inl List.mem_cons_self) rfl rfl (fun h15 H15 => ?_)
  refine al_A H15 (id := 1321) rfl (hN 1321 (by decide)).1 (nm (nm (nm (nm (nm (nm (nm (hN 1321 (by decide)).2 (by decide)) (by decide)) (by decide)) (by decide)) (by decide)) (by decide)) (by decide)) (fun a8 h16 H16 => ?_)
  have w_v0 := w_v0.trans (va_ne (f := (va_up (va_up (va_up (va_up (va_up (va_up (va_up A 1301 a1) 1302 a2) 1304 a3) 1311 a4) 1314 a5) 1318 a6) 1319 a7)) (k := 1321) (v := a8) (by decide)).symm
  have w_a1 := w_a1.trans (va_ne (f := (va_up (va_up (va_up (va_up (va_up (va_up (va_up A 1301 a1) 1302 a2) 1304 a3) 1311 a4) 1314 a5) 1318 a6) 1319 a7)) (k := 1321) (v := a8) (by decide)).symm
  have w_a2 := w_a2.trans (va_ne (f := (va_up (va_up (va_up (va_up (va_up (va_up (va_up A 1301 a1) 1302 a2) 1304 a3) 1311 a4) 1314 a5) 1318 a6) 1319 a7)) (k := 1321) (v := a8) (by decide)).symm
  have w_a3 := w_a3.trans (va_ne (f := (va_up (va_up (va_up (va_up (va_up (va_up (va_up A 1301 a1) 1302 a2) 1304 a3) 1311 a4) 1314 a5) 1318 a6) 1319 a7)) (k := 1321) (v := a8) (by decide)).symm
  have w_a4 := w_a4.trans (va_ne (f := (va_up (va_up (va_up (va_up (va_up (va_up (va_up A 1301 a1) 1302 a2) 1304 a3) 1311 a4) 1314 a5) 1318 a6) 1319 a7)) (k := 1321) (v := a8) (by decide)).symm
  have w_a5 := w_a5.trans (va_ne (f := (va_up (va_up (va_up (va_up (va_up (va_up (va_up A 1301 a1) 1302 a2) 1304 a3) 1311 a4) 1314 a5) 1318 a6) 1319 a7)) (k := 1321) (v := a8) (by decide)).symm
  have w_a6 := w_a6.trans (va_ne (f := (va_up (va_up (va_up (va_up (va_up (va_up (va_up A 1301 a1) 1302 a2) 1304 a3) 1311 a4) 1314 a5) 1318 a6) 1319 a7)) (k := 1321) (v := a8) (by decide)).symm
  have w_a7 := w_a7.trans (va_ne (f := (va_up (va_up (va_up (va_up (va_up (va_up (va_up A 1301 a1) 1302 a2) 1304 a3) 1311 a4) 1314 a5) 1318 a6) 1319 a7)) (k := 1321) (v := a8) (by decide)).symm
  have w_a8 : a8 = (va_up (va_up (va_up (va_up (va_up (va_up (va_up (va_up A 1301 a1) 1302 a2) 1304 a3) 1311 a4) 1314 a5) 1318 a6) 1319 a7) 1321 a8) 1321 := (va_up_self _ _ _).symm
  refine al_P H16 (o := 12) (k := 21) (t := 1321) w_v0 w_a8 (List.mem_cons_of_mem _ (List.mem_cons_of_mem _ (List.mem_cons_of_mem _ (List.mem_cons_of_mem _ (List.mem_cons_of_mem _ (List.mem_cons_of_mem _ (List.mem_cons_of_mem _ (List.mem_cons_of_mem _ ho)))))))) (Or.inl List.mem_cons_self) rfl rfl (fun h17 H17 => ?_)
  refine al_A H17 (id := 1322) rfl (hN 1322 (by decide)).1 (nm (nm (nm (nm (nm (nm (nm (nm (hN 1322 (by decide)).2 (by decide)) (by decide)) (by decide)) (by decide)) (by decide)) (by decide)) (by decide)) (by decide)) (fun a9 h18 H18 => ?_)
  have w_v0 := w_v0.trans (va_ne (f := (va_up (va_up (va_up (va_up (va_up (va_up (va_up (va_up A 1301 a1) 1302 a2) 1304 a3) 1311 a4) 1314 a5) 1318 a6) 1319 a7) 1321 a8)) (k := 1322) (v := a9) (by decide)).symm
  have w_a1 := w_a1.trans (va_ne (f := (va_up (va_up (va_up (va_up (va_up (va_up (va_up (va_up A 1301 a1) 1302 a2) 1304 a3) 1311 a4) 1314 a5) 1318 a6) 1319 a7) 1321 a8)) (k := 1322) (v := a9) (by decide)).symm
  have w_a2 := w_a2.trans (va_ne (f := (va_up (va_up (va_up (va_up (va_up (va_up (va_up (va_up A 1301 a1) 1302 a2) 1304 a3) 1311 a4) 1314 a5) 1318 a6) 1319 a7) 1321 a8)) (k := 1322) (v := a9) (by decide)).symm
  have w_a3 := w_a3.trans (va_ne (f := (va_up (va_up (va_up (va_up (va_up (va_up (va_up (va_up A 1301 a1) 1302 a2) 1304 a3) 1311 a4) 1314 a5) 1318 a6) 1319 a7) 1321 a8)) (k := 1322) (v := a9) (by decide)).symm
  have w_a4 := w_a4.trans (va_ne (f := (va_up (va_up (va_up (va_up (va_up (va_up (va_up (va_up A 1301 a1) 1302 a2) 1304 a3) 1311 a4) 1314 a5) 1318 a6) 1319 a7) 1321 a8)) (k := 1322) (v := a9) (by decide)).symm
  have w_a5 := w_a5.trans (va_ne (f := (va_up (va_up (va_up (va_up (va_up (va_up (va_up (va_up A 1301 a1) 1302 a2) 1304 a3) 1311 a4) 1314 a5) 1318 a6) 1319 a7) 1321 a8)) (k := 1322) (v := a9) (by decide)).symm
  have w_a6 := w_a6.trans (va_ne (f := (va_up (va_up (va_up (va_up (va_up (va_up (va_up (va_up A 1301 a1) 1302 a2) 1304 a3) 1311 a4) 1314 a5) 1318 a6) 1319 a7) 1321 a8)) (k := 1322) (v := a9) (by decide)).symm
  have w_a7 := w_a7.trans (va_ne (f := (va_up (va_up (va_up (va_up (va_up (va_up (va_up (va_up A 1301 a1) 1302 a2) 1304 a3) 1311 a4) 1314 a5) 1318 a6) 1319 a7) 1321 a8)) (k := 1322) (v := a9) (by decide)).symm
  have w_a8 := w_a8.trans (va_ne (f := (va_up (va_up (va_up (va_up (va_up (va_up (va_up (va_up A 1301 a1) 1302 a2) 1304 a3) 1311 a4) 1314 a5) 1318 a6) 1319 a7) 1321 a8)) (k := 1322) (v := a9) (by decide)).symm
  have w_a9 : a9 = (va_up (va_up (va_up (va_up (va_up (va_up (va_up (va_up (va_up A 1301 a1) 1302 a2) 1304 a3) 1311 a4) 1314 a5) 1318 a6) 1319 a7) 1321 a8) 1322 a9) 1322 := (va_up_self _ _ _).symm
  refine al_P H18 (o := 12) (k := 22) (t := 1322) w_v0 w_a9 (List.mem_cons_of_mem _ (List.mem_cons_of_mem _ (List.mem_cons_of_mem _ (List.mem_cons_of_mem _ (List.mem_cons_of_mem _ (List.mem_cons_of_mem _ (List.mem_cons_of_mem _ (List.mem_cons_of_mem _ (List.mem_cons_of_mem _ ho))))))))) (Or.inl List.mem_cons_self) rfl rfl (fun h19 H19 => ?_)
  refine al_A H19 (id := 1323) rfl (hN 1323 (by decide)).1 (nm (nm (nm (nm (nm (nm (nm (nm (nm (hN 1323 (by decide)).2 (by decide)) (by decide)) (by decide)) (by decide)) (by decide)) (by decide)) (by decide)) (by decide)) (by decide)) (fun a10 h20 H20 => ?_)
  have w_v0 := w_v0.trans (va_ne (f := (va_up (va_up (va_up (va_up (va_up (va_up (va_up (va_up (va_up A 1301 a1) 1302 a2) 1304 a3) 1311 a4) 1314 a5) 1318 a6) 1319 a7) 1321 a8) 1322 a9)) (k := 1323) (v := a10) (by decide)).symm
  have w_a1 := w_a1.trans (va_ne (f := (va_up (va_up (va_up (va_up (va_up (va_up (va_up (va_up (va_up A 1301 a1) 1302 a2) 1304 a3) 1311 a4) 1314 a5) 1318 a6) 1319 a7) 1321 a8) 1322 a9)) (k := 1323) (v := a10) (by decide)).symm
  have w_a2 := w_a2.trans (va_ne (f := (va_up (va_up (va_up (va_up (va_up (va_up (va_up (va_up (va_up A 1301 a1) 1302 a2) 1304 a3) 1311 a4) 1314 a5) 1318 a6) 1319 a7) 1321 a8) 1322 a9)) (k := 1323) (v := a10) (by decide)).symm
  have w_a3 := w_a3.trans (va_ne (f := (va_up (va_up (va_up (va_up (va_up (va_up (va_up (va_up (va_up A 1301 a1) 1302 a2) 1304 a3) 1311 a4) 1314 a5) 1318 a6) 1319 a7) 1321 a8) 1322 a9)) (k := 1323) (v := a10) (by decide)).symm
  have w_a4 := w_a4.trans (va_ne (f := (va_up (va_up (va_up (va_up (va_up (va_up (va_up (va_up (va_up A 1301 a1) 1302 a2) 1304 a3) 1311 a4) 1314 a5) 1318 a6) 1319 a7) 1321 a8) 1322 a9)) (k := 1323) (v := a10) (by decide)).symm
  have w_a5 := w_a5.trans (va_ne (f := (va_up (va_up (va_up (va_up (va_up (va_up (va_up (va_up (va_up A 1301 a1) 1302 a2) 1304 a3) 1311 a4) 1314 a5) 1318 a6) 1319 a7) 1321 a8) 1322 a9)) (k := 1323) (v := a10) (by decide)).symm
  have w_a6 := w_a6.trans (va_ne (f := (va_up (va_up (va_up (va_up (va_up (va_up (va_up (va_up (va_up A 1301 a1) 1302 a2) 1304 a3) 1311 a4) 1314 a5) 1318 a6) 1319 a7) 1321 a8) 1322 a9)) (k := 1323) (v := a10) (by decide)).symm
  have w_a7 := w_a7.trans (va_ne (f := (va_up (va_up (va_up (va_up (va_up (va_up (va_up (va_up (va_up A 1301 a1) 1302 a2) 1304 a3) 1311 a4) 1314 a5) 1318 a6) 1319 a7) 1321 a8) 1322 a9)) (k := 1323) (v := a10) (by decide)).symm
  have w_a8 := w_a8.trans (va_ne (f := (va_up (va_up (va_up (va_up (va_up (va_up (va_up (va_up (va_up A 1301 a1) 1302 a2) 1304 a3) 1311 a4) 1314 a5) 1318 a6) 1319 a7) 1321 a8) 1322 a9)) (k := 1323) (v := a10) (by decide)).symm
  have w_a9 := w_a9.trans (va_ne (f := (va_up (va_up (va_up (va_up (va_up (va_up (va_up (va_up (va_up A 1301 a1) 1302 a2) 1304 a3) 1311 a4) 1314 a5) 1318 a6) 1319 a7) 1321 a8) 1322 a9)) (k := 1323) (v := a10) (by decide)).symm
  have w_a10 : a10 = (va_up (va_up (va_up (va_up (va_up (va_up (va_up (va_up (va_up (va_up A 1301 a1) 1302 a2) 1304 a3) 1311 a4) 1314 a5) 1318 a6) 1319 a7) 1321 a8) 1322 a9) 1323 a10) 1323 := (va_up_self _ _ _).symm
  refine al_P H20 (o := 12) (k := 23) (t := 1323) w_v0 w_a10 (List.mem_cons_of_mem _ (List.mem_cons_of_mem _ (List.mem_cons_of_mem _ (List.mem_cons_of_mem _ (List.mem_cons_of_mem _ (List.mem_cons_of_mem _ (List.mem_cons_of_mem _ (List.mem_cons_of_mem _ (List.mem_cons_of_mem _ (List.mem_cons_of_mem _ ho)))))))))) (Or.inl List.mem_cons_self) rfl rfl (fun h21 H21 => ?_)
  refine al_A H21 (id := 1325) rfl (hN 1325 (by decide)).1 (nm (nm (nm (nm (nm (nm (nm (nm (nm (nm (hN 1325 (by decide)).2 (by decide)) (by decide)) (by decide)) (by decide)) (by decide)) (by decide)) (by decide)) (by decide)) (by decide)) (by decide)) (fun a11 h22 H22 => ?_)
  have w_v0 := w_v0.trans (va_ne (f := (va_up (va_up (va_up (va_up (va_up (va_up (va_up (va_up (va_up (va_up A 1301 a1) 1302 a2) 1304 a3) 1311 a4) 1314 a5) 1318 a6) 1319 a7) 1321 a8) 1322 a9) 1323 a10)) (k := 1325) (v := a11) (by decide)).symm
  have w_a1 := w_a1.trans (va_ne (f := (va_up (va_up (va_up (va_up (va_up (va_up (va_up (va_up (va_up (va_up A 1301 a1) 1302 a2) 1304 a3) 1311 a4) 1314 a5) 1318 a6) 1319 a7) 1321 a8) 1322 a9) 1323 a10)) (k := 1325) (v := a11) (by decide)).symm
  have w_a2 := w_a2.trans (va_ne (f := (va_up (va_up (va_up (va_up (va_up (va_up (va_up (va_up (va_up (va_up A 1301 a1) 1302 a2) 1304 a3) 1311 a4) 1314 a5) 1318 a6) 1319 a7) 1321 a8) 1322 a9) 1323 a10)) (k := 1325) (v := a11) (by decide)).symm
  have w_a3 := w_a3.trans (va_ne (f := (va_up (va_up (va_up (va_up (va_up (va_up (va_up (va_up (va_up (va_up A 1301 a1) 1302 a2) 1304 a3) 1311 a4) 1314 a5) 1318 a6) 1319 a7) 1321 a8) 1322 a9) 1323 a10)) (k := 1325) (v := a11) (by decide)).symm
  have w_a4 := w_a4.trans (va_ne (f := (va_up (va_up (va_up (va_up (va_up (va_up (va_up (va_up (va_up (va_up A 1301 a1) 1302 a2) 1304 a3) 1311 a4) 1314 a5) 1318 a6) 1319 a7) 1321 a8) 1322 a9) 1323 a10)) (k := 1325) (v := a11) (by decide)).symm
  have w_a5 := w_a5.trans (va_ne (f := (va_up (va_up (va_up (va_up (va_up (va_up (va_up (va_up (va_up (va_up A 1301 a1) 1302 a2) 1304 a3) 1311 a4) 1314 a5) 1318 a6) 1319 a7) 1321 a8) 1322 a9) 1323 a10)) (k := 1325) (v := a11) (by decide)).symm
  have w_a6 := w_a6.trans (va_ne (f := (va_up (va_up (va_up (va_up (va_up (va_up (va_up (va_up (va_up (va_up A 1301 a1) 1302 a2) 1304 a3) 1311 a4) 1314 a5) 1318 a6) 1319 a7) 1321 a8) 1322 a9) 1323 a10)) (k := 1325) (v := a11) (by decide)).symm
  have w_a7 := w_a7.trans (va_ne (f := (va_up (va_up (va_up (va_up (va_up (va_up (va_up (va_up (va_up (va_up A 1301 a1) 1302 a2) 1304 a3) 1311 a4) 1314 a5) 1318 a6) 1319 a7) 1321 a8) 1322 a9) 1323 a10)) (k := 1325) (v := a11) (by decide)).symm
  have w_a8 := w_a8.trans (va_ne (f := (va_up (va_up (va_up (va_up (va_up (va_up (va_up (va_up (va_up (va_up A 1301 a1) 1302 a2) 1304 a3) 1311 a4) 1314 a5) 1318 a6) 1319 a7) 1321 a8) 1322 a9) 1323 a10)) (k := 1325) (v := a11) (by decide)).symm
  have w_a9 := w_a9.trans (va_ne (f := (va_up (va_up (va_up (va_up (va_up (va_up (va_up (va_up (va_up (va_up A 1301 a1) 1302 a2) 1304 a3) 1311 a4) 1314 a5) 1318 a6) 1319 a7) 1321 a8) 1322 a9) 1323 a10)) (k := 1325) (v := a11) (by decide)).symm
  have w_a10 := w_a10.trans (va_ne (f := (va_up (va_up (va_up (va_up (va_up (va_up (va_up (va_up (va_up (va_up A 1301 a1) 1302 a2) 1304 a3) 1311 a4) 1314 a5) 1318 a6) 1319 a7) 1321 a8) 1322 a9) 1323 a10)) (k := 1325) (v := a11) (by decide)).symm
  have w_a11 : a11 = (va_up (va_up (va_up (va_up (va_up (va_up (va_up (va_up (va_up (va_up (va_up A 1301 a1) 1302 a2) 1304 a3) 1311 a4) 1314 a5) 1318 a6) 1319 a7) 1321 a8) 1322 a9) 1323 a10) 1325 a11) 1325 := (va_up_self _ _ _).symm
  refine al_P H22 (o := 12) (k := 25) (t := 1325) w_v0 w_a11 (List.mem_cons_of_mem _ (List.mem_cons_of_mem _ (List.mem_cons_of_mem _ (List.mem_cons_of_mem _ (List.mem_cons_of_mem _ (List.mem_cons_of_mem _ (List.mem_cons_of_mem _ (List.mem_cons_of_mem _ (List.mem_cons_of_mem _ (List.mem_cons_of_mem _ (List.mem_cons_of_mem _ ho))))))))))) (Or.inl List.mem_cons_self) rfl rfl (fun h23 H23 => ?_)
  refine al_A H23 (id := 1327) rfl (hN 1327 (by decide)).1 (nm (nm (nm (nm (nm (nm (nm (nm (nm (nm (nm (hN 1327 (by decide)).2 (by decide)) (by decide)) (by decide)) (by decide)) (by decide)) (by decide)) (by decide)) (by decide)) (by decide)) (by decide)) (by decide)) (fun a12 h24 H24 => ?_)
  have w_v0 := w_v0.trans (va_ne (f := (va_up (va_up (va_up (va_up (va_up (va_up (va_up (va_up (va_up (va_up (va_up A 1301 a1) 1302 a2) 1304 a3) 1311 a4) 1314 a5) 1318 a6) 1319 a7) 1321 a8) 1322 a9) 1323 a10) 1325 a11)) (k := 1327) (v := a12) (by decide)).symm
  have w_a1 := w_a1.trans (va_ne (f := (va_up (va_up (va_up (va_up (va_up (va_up (va_up (va_up (va_up (va_up (va_up A 1301 a1) 1302 a2) 1304 a3) 1311 a4) 1314 a5) 1318 a6) 1319 a7) 1321 a8) 1322 a9) 1323 a10) 1325 a11)) (k := 1327) (v := a12) (by decide)).symm
  have w_a2 := w_a2.trans (va_ne (f := (va_up (va_up (va_up (va_up (va_up (va_up (va_up (va_up (va_up (va_up (va_up A 1301 a1) 1302 a2) 1304 a3) 1311 a4) 1314 a5) 1318 a6) 1319 a7) 1321 a8) 1322 a9) 1323 a10) 1325 a11)) (k := 1327) (v := a12) (by decide)).symm
  have w_a3 := w_a3.trans (va_ne (f := (va_up (va_up (va_up (va_up (va_up (va_up (va_up (va_up (va_up (va_up (va_up A 1301 a1) 1302 a2) 1304 a3) 1311 a4) 1314 a5) 1318 a6) 1319 a7) 1321 a8) 1322 a9) 1323 a10) 1325 a11)) (k := 1327) (v := a12) (by decide)).symm
  have w_a4 := w_a4.trans (va_ne (f := (va_up (va_up (va_up (va_up (va_up (va_up (va_up (va_up (va_up (va_up (va_up A 1301 a1) 1302 a2) 1304 a3) 1311 a4) 1314 a5) 1318 a6) 1319 a7) 1321 a8) 1322 a9) 1323 a10) 1325 a11)) (k := 1327) (v := a12) (by decide)).symm
  have w_a5 := w_a5.trans (va_ne (f := (va_up (va_up (va_up (va_up (va_up (va_up (va_up (va_up (va_up (va_up (va_up A 1301 a1) 1302 a2) 1304 a3) 1311 a4) 1314 a5) 1318 a6) 1319 a7) 1321 a8) 1322 a9) 1323 a10) 1325 a11)) (k := 1327) (v := a12) (by decide)).symm
  have w_a6 := w_a6.trans (va_ne (f := (va_up (va_up (va_up (va_up (va_up (va_up (va_up (va_up (va_up (va_up (va_up A 1301 a1) 1302 a2) 1304 a3) 1311 a4) 1314 a5) 1318 a6) 1319 a7) 1321 a8) 1322 a9) 1323 a10) 1325 a11)) (k := 1327) (v := a12) (by decide)).symm
  have w_a7 := w_a7.trans (va_ne (f := (va_up (va_up (va_up (va_up (va_up (va_up (va_up (va_up (va_up (va_up (va_up A 1301 a1) 1302 a2) 1304 a3) 1311 a4) 1314 a5) 1318 a6) 1319 a7) 1321 a8) 1322 a9) 1323 a10) 1325 a11)) (k := 1327) (v := a12) (by decide)).symm
  have w_a8 := w_a8.trans (va_ne (f := (va_up (va_up (va_up (va_up (va_up (va_up (va_up (va_up (va_up (va_up (va_up A 1301 a1) 1302 a2) 1304 a3) 1311 a4) 1314 a5) 1318 a6) 1319 a7) 1321 a8) 1322 a9) 1323 a10) 1325 a11)) (k := 1327) (v := a12) (by decide)).symm
  have w_a9 := w_a9.trans (va_ne (f := (va_up (va_up (va_up (va_up (va_up (va_up (va_up (va_up (va_up (va_up (va_up A 1301 a1) 1302 a2) 1304 a3) 1311 a4) 1314 a5) 1318 a6) 1319 a7) 1321 a8) 1322 a9) 1323 a10) 1325 a11)) (k := 1327) (v := a12) (by decide)).symm
  have w_a10 := w_a10.trans (va_ne (f := (va_up (va_up (va_up (va_up (va_up (va_up (va_up (va_up (va_up (va_up (va_up A 1301 a1) 1302 a2) 1304 a3) 1311 a4) 1314 a5) 1318 a6) 1319 a7) 1321 a8) 1322 a9) 1323 a10) 1325 a11)) (k := 1327) (v := a12) (by decide)).symm
  have w_a11 := w_a11.trans (va_ne (f := (va_up (va_up (va_up (va_up (va_up (va_up (va_up (va_up (va_up (va_up (va_up A 1301 a1) 1302 a2) 1304 a3) 1311 a4) 1314 a5) 1318 a6) 1319 a7) 1321 a8) 1322 a9) 1323 a10) 1325 a11)) (k := 1327) (v := a12) (by decide)).symm
  have w_a12 : a12 = (va_up (va_up (va_up (va_up (va_up (va_up (va_up (va_up (va_up (va_up (va_up (va_up A 1301 a1) 1302 a2) 1304 a3) 1311 a4) 1314 a5) 1318 a6) 1319 a7) 1321 a8) 1322 a9) 1323 a10) 1325 a11) 1327 a12) 1327 := (va_up_self _ _ _).symm
  refine al_P H24 (o := 12) (k := 27) (t := 1327) w_v0 w_a12 (List.mem_cons_of_mem _ (List.mem_cons_of_mem _ (List.mem_cons_of_mem _ (List.mem_cons_of_mem _ (List.mem_cons_of_mem _ (List.mem_cons_of_mem _ (List.mem_cons_of_mem _ (List.mem_cons_of_mem _ (List.mem_cons_of_mem _ (List.mem_cons_of_mem _ (List.mem_cons_of_mem _ (List.mem_cons_of_mem _ ho)))))))))))) (Or.inl List.mem_cons_self) rfl rfl (fun h25 H25 => ?_)
  refine al_F H25 (o := 12) (k := 1) (t := 1301) w_v0 (List.mem_cons_of_mem _ (List.mem_cons_of_mem _ (List.mem_cons_of_mem _ (List.mem_cons_of_mem _ (List.mem_cons_of_mem _ (List.mem_cons_of_mem _ (List.mem_cons_of_mem _ (List.mem_cons_of_mem _ (List.mem_cons_of_mem _ (List.mem_cons_of_mem _ (List.mem_cons_of_mem _ List.mem_cons_self))))))))))) rfl rfl ?_
  generalize w_a13 : (va_up (va_up (va_up (va_up (va_up (va_up (va_up (va_up (va_up (va_up (va_up (va_up A 1301 a1) 1302 a2) 1304 a3) 1311 a4) 1314 a5) 1318 a6) 1319 a7) 1321 a8) 1322 a9) 1323 a10) 1325 a11) 1327 a12) 1301 = a13
  have w_a13 := w_a13.symm
  refine al_T H25 (o := 1301) (k := 8) w_a13 (List.mem_cons_of_mem _ (List.mem_cons_of_mem _ (List.mem_cons_of_mem _ (List.mem_cons_of_mem _ (List.mem_cons_of_mem _ (List.mem_cons_of_mem _ (List.mem_cons_of_mem _ (List.mem_cons_of_mem _ (List.mem_cons_of_mem _ (List.mem_cons_of_mem _ (List.mem_cons_of_mem _ List.mem_cons_self))))))))))) rfl (by decide) rfl (by decide) (fun h26 H26 => ?_)
  refine al_F H26 (o := 12) (k := 1) (t := 1301) w_v0 (List.mem_cons_of_mem _ (List.mem_cons_of_mem _ (List.mem_cons_of_mem _ (List.mem_cons_of_mem _ (List.mem_cons_of_mem _ (List.mem_cons_of_mem _ (List.mem_cons_of_mem _ (List.mem_cons_of_mem _ (List.mem_cons_of_mem _ (List.mem_cons_of_mem _ (List.mem_cons_of_mem _ List.mem_cons_self))))))))))) rfl rfl ?_
  generalize w_a14 : (va_up (va_up (va_up (va_up (va_up (va_up (va_up (va_up (va_up (va_up (va_up (va_up A 1301 a1) 1302 a2) 1304 a3) 1311 a4) 1314 a5) 1318 a6) 1319 a7) 1321 a8) 1322 a9) 1323 a10) 1325 a11) 1327 a12) 1301 = a14
  have w_a14 := w_a14.symm
  refine al_T H26 (o := 1301) (k := 10) w_a14 (List.mem_cons_of_mem _ (List.mem_cons_of_mem _ (List.mem_cons_of_mem _ (List.mem_cons_of_mem _ (List.mem_cons_of_mem _ (List.mem_cons_of_mem _ (List.mem_cons_of_mem _ (List.mem_cons_of_mem _ (List.mem_cons_of_mem _ (List.mem_cons_of_mem _ (List.mem_cons_of_mem _ List.mem_cons_self))))))))))) rfl (by decide) rfl (by decide) (fun h27 H27 => ?_)
  refine kk _ _ H27 (fun j hj => ?_)
  rw [va_ne (fun z => hj (by rw [z]; decide)), va_ne (fun z => hj (by rw [z]; decide)), va_ne (fun z => hj (by rw [z]; decide)), va_ne (fun z => hj (by rw [z]; decide)), va_ne (fun z => hj (by rw [z]; decide)), va_ne (fun z => hj (by rw [z]; decide)), va_ne (fun z => hj (by rw [z]; decide)), va_ne (fun z => hj (by rw [z]; decide)), va_ne (fun z => hj (by rw [z]; decide)), va_ne (fun z => hj (by rw [z]; decide)), va_ne (fun z => hj (by rw [z]; decide)), va_ne (fun z => hj (by rw [z]; decide))]
end INITS
abbrev nwWaysL : List Nat := [1107, 1106, 1105, 1104, 1103, 1102, 1101, 10]
abbrev nwWaysP : List (Nat × Nat) := [(10, 7), (10, 6), (10, 5), (10, 4), (10, 3), (10, 2), (10, 1)]
abbrev nwWaysW : List (Nat × Nat × Int32) := []
abbrev nwKeptL : List Nat := [5808, 5807, 5805, 6008, 6007, 6006, 6004, 6003, 6002, 6001, 5009, 5206, 5205, 5204, 5203, 5202, 5201, 5001, 5506, 5505, 5504, 5503, 5502, 5501, 5004, 5304, 5303, 5302, 5301, 5002, 5400, 5003, 5007]
abbrev nwKeptP : List (Nat × Nat) := [(5007, 8), (5007, 7), (5007, 5), (5007, 4), (5009, 8), (5009, 7), (5009, 6), (5009, 4), (5009, 3), (5009, 2), (5009, 1), (5007, 3), (5001, 6), (5001, 5), (5001, 4), (5001, 3), (5001, 2), (5001, 1), (5007, 2), (5004, 6), (5004, 5), (5004, 4), (5004, 3), (5004, 2), (5004, 1), (5007, 1), (5002, 4), (5002, 3), (5002, 2), (5002, 1), (5007, 0), (5003, 0)]
abbrev nwKeptW : List (Nat × Nat × Int32) := [(5007, 10, (1876 : Int32)), (5001, 7, (9 : Int32))]
abbrev nwStartL : List Nat := [1327, 1325, 1323, 1322, 1321, 1319, 1318, 1314, 1311, 1304, 1302, 1301, 12, 908, 907, 905, 904, 903, 902, 901, 8, 101, 0, 808, 807, 805, 1008, 1007, 1006, 1004, 1003, 1002, 1001, 9, 206, 205, 204, 203, 202, 201, 1, 506, 505, 504, 503, 502, 501, 4, 304, 303, 302, 301, 2, 400, 3, 7, 708, 704, 703, 700, 6, 11]
abbrev nwStartP : List (Nat × Nat) := [(12, 27), (12, 25), (12, 23), (12, 22), (12, 21), (12, 19), (12, 18), (12, 14), (12, 11), (12, 4), (12, 2), (12, 1), (11, 3), (8, 0), (8, 8), (8, 7), (8, 5), (8, 4), (8, 3), (8, 2), (8, 1), (11, 2), (0, 0), (0, 1), (11, 1), (7, 8), (7, 7), (7, 5), (7, 4), (9, 8), (9, 7), (9, 6), (9, 4), (9, 3), (9, 2), (9, 1), (7, 3), (1, 6), (1, 5), (1, 4), (1, 3), (1, 2), (1, 1), (7, 2), (4, 6), (4, 5), (4, 4), (4, 3), (4, 2), (4, 1), (7, 1), (2, 4), (2, 3), (2, 2), (2, 1), (7, 0), (3, 0), (11, 0), (6, 8), (6, 4), (6, 3), (6, 0)]
abbrev nwStartW : List (Nat × Nat × Int32) := [(1301, 10, (9 : Int32)), (1301, 8, (1876 : Int32)), (12, 10, (-1 : Int32)), (7, 10, (1876 : Int32)), (1, 7, (9 : Int32)), (6, 2, (-1 : Int32))]
