theorem cl_X6_73 : CLk RX6 73 yX6_readAtom cX6_readAtom 2 (some .boolean) 1 := ⟨Or.inl (tb4 (List.mem_of_getElem? (i := 181) rfl)), (tb4 (List.mem_of_getElem? (i := 184) rfl)), (tb1 (List.mem_of_getElem? (i := 2) rfl)), by decide +kernel, by decide +kernel, by decide +kernel⟩
theorem im_X6_readAtom : Cond.instanceMethod yX6_readAtom ∈ lw_tbl := (tb4 (List.mem_of_getElem? (i := 183) rfl))
theorem se_X6_readAtom : Cond.selects RX6 yX6_readAtom yX6_readAtom ∈ lw_tbl := (tbp2 1 rfl)
theorem cl_X6_85 : CLk RX6 85 yX6_readComparison cX6_readComparison 2 (some .boolean) 0 := ⟨Or.inl (tb4 (List.mem_of_getElem? (i := 197) rfl)), (tb4 (List.mem_of_getElem? (i := 200) rfl)), (tb1 (List.mem_of_getElem? (i := 2) rfl)), by decide +kernel, by decide +kernel, by decide +kernel⟩
theorem im_X6_readComparison : Cond.instanceMethod yX6_readComparison ∈ lw_tbl := (tb4 (List.mem_of_getElem? (i := 199) rfl))
theorem se_X6_readComparison : Cond.selects RX6 yX6_readComparison yX6_readComparison ∈ lw_tbl := (tbp2 5 rfl)
theorem cl_X6_82 : CLk RX6 82 yX6_readHeld cX6_readHeld 1 (some .boolean) 0 := ⟨Or.inl (tb4 (List.mem_of_getElem? (i := 193) rfl)), (tb4 (List.mem_of_getElem? (i := 196) rfl)), (tb1 (List.mem_of_getElem? (i := 2) rfl)), by decide +kernel, by decide +kernel, by decide +kernel⟩
theorem im_X6_readHeld : Cond.instanceMethod yX6_readHeld ∈ lw_tbl := (tb4 (List.mem_of_getElem? (i := 195) rfl))
theorem se_X6_readHeld : Cond.selects RX6 yX6_readHeld yX6_readHeld ∈ lw_tbl := (tbp2 4 rfl)
theorem cl_X6_79 : CLk RX6 79 yX6_readInner cX6_readInner 2 (some .boolean) 1 := ⟨Or.inl (tb4 (List.mem_of_getElem? (i := 189) rfl)), (tb4 (List.mem_of_getElem? (i := 192) rfl)), (tb1 (List.mem_of_getElem? (i := 2) rfl)), by decide +kernel, by decide +kernel, by decide +kernel⟩
theorem im_X6_readInner : Cond.instanceMethod yX6_readInner ∈ lw_tbl := (tb4 (List.mem_of_getElem? (i := 191) rfl))
theorem se_X6_readInner : Cond.selects RX6 yX6_readInner yX6_readInner ∈ lw_tbl := (tbp2 3 rfl)
theorem cl_X6_76 : CLk RX6 76 yX6_readNot cX6_readNot 2 (some .boolean) 1 := ⟨Or.inl (tb4 (List.mem_of_getElem? (i := 185) rfl)), (tb4 (List.mem_of_getElem? (i := 188) rfl)), (tb1 (List.mem_of_getElem? (i := 2) rfl)), by decide +kernel, by decide +kernel, by decide +kernel⟩
theorem im_X6_readNot : Cond.instanceMethod yX6_readNot ∈ lw_tbl := (tb4 (List.mem_of_getElem? (i := 187) rfl))
theorem se_X6_readNot : Cond.selects RX6 yX6_readNot yX6_readNot ∈ lw_tbl := (tbp2 2 rfl)
theorem cl_X6_56 : CLk RX6 56 yX6_readAny cX6_readAny 5 (some .boolean) 1 := ⟨Or.inl (tb4 (List.mem_of_getElem? (i := 177) rfl)), (tb4 (List.mem_of_getElem? (i := 180) rfl)), (tb1 (List.mem_of_getElem? (i := 2) rfl)), by decide +kernel, by decide +kernel, by decide +kernel⟩
theorem im_X6_readAny : Cond.instanceMethod yX6_readAny ∈ lw_tbl := (tb4 (List.mem_of_getElem? (i := 179) rfl))
theorem se_X6_readAny : Cond.selects RX6 yX6_readAny yX6_readAny ∈ lw_tbl := (tbp2 0 rfl)
-- GrassField$Reader.readAny(I)Z
theorem dX6_readAny_0 : decode cX6_readAny 0 = .ok (.aload_n 0, 1) := by decide +kernel
theorem dX6_readAny_1 : decode cX6_readAny 1 = .ok (.iload_n 1, 1) := by decide +kernel
theorem dX6_readAny_2 : decode cX6_readAny 2 = .ok (.invokevirtual 73, 3) := by decide +kernel
theorem dX6_readAny_5 : decode cX6_readAny 5 = .ok (.ifCond .ne 5, 3) := by decide +kernel
theorem dX6_readAny_8 : decode cX6_readAny 8 = .ok (.iconst 0, 1) := by decide +kernel
theorem dX6_readAny_9 : decode cX6_readAny 9 = .ok (.ireturn, 1) := by decide +kernel
theorem dX6_readAny_10 : decode cX6_readAny 10 = .ok (.iconst 0, 1) := by decide +kernel
theorem dX6_readAny_11 : decode cX6_readAny 11 = .ok (.istore_n 2, 1) := by decide +kernel
theorem dX6_readAny_12 : decode cX6_readAny 12 = .ok (.iconst 0, 1) := by decide +kernel
theorem dX6_readAny_13 : decode cX6_readAny 13 = .ok (.istore_n 3, 1) := by decide +kernel
theorem dX6_readAny_14 : decode cX6_readAny 14 = .ok (.iload_n 3, 1) := by decide +kernel
theorem dX6_readAny_15 : decode cX6_readAny 15 = .ok (.sipush 400, 3) := by decide +kernel
theorem dX6_readAny_18 : decode cX6_readAny 18 = .ok (.if_icmp .ge 103, 3) := by decide +kernel
theorem dX6_readAny_21 : decode cX6_readAny 21 = .ok (.aload_n 0, 1) := by decide +kernel
theorem dX6_readAny_22 : decode cX6_readAny 22 = .ok (.getfield 43, 3) := by decide +kernel
theorem dX6_readAny_25 : decode cX6_readAny 25 = .ok (.sipush 1006, 3) := by decide +kernel
theorem dX6_readAny_28 : decode cX6_readAny 28 = .ok (.if_icmp .eq 13, 3) := by decide +kernel
theorem dX6_readAny_31 : decode cX6_readAny 31 = .ok (.aload_n 0, 1) := by decide +kernel
theorem dX6_readAny_32 : decode cX6_readAny 32 = .ok (.getfield 43, 3) := by decide +kernel
theorem dX6_readAny_35 : decode cX6_readAny 35 = .ok (.sipush 1007, 3) := by decide +kernel
theorem dX6_readAny_38 : decode cX6_readAny 38 = .ok (.if_icmp .ne 83, 3) := by decide +kernel
theorem dX6_readAny_41 : decode cX6_readAny 41 = .ok (.aload_n 0, 1) := by decide +kernel
theorem dX6_readAny_42 : decode cX6_readAny 42 = .ok (.getfield 43, 3) := by decide +kernel
theorem dX6_readAny_45 : decode cX6_readAny 45 = .ok (.sipush 1006, 3) := by decide +kernel
theorem dX6_readAny_48 : decode cX6_readAny 48 = .ok (.if_icmp .ne 7, 3) := by decide +kernel
theorem dX6_readAny_51 : decode cX6_readAny 51 = .ok (.iconst 1, 1) := by decide +kernel
theorem dX6_readAny_52 : decode cX6_readAny 52 = .ok (.goto 4, 3) := by decide +kernel
theorem dX6_readAny_55 : decode cX6_readAny 55 = .ok (.iconst 0, 1) := by decide +kernel
theorem dX6_readAny_56 : decode cX6_readAny 56 = .ok (.istore 4, 2) := by decide +kernel
theorem dX6_readAny_58 : decode cX6_readAny 58 = .ok (.iload 4, 2) := by decide +kernel
theorem dX6_readAny_60 : decode cX6_readAny 60 = .ok (.ifCond .ne 14, 3) := by decide +kernel
theorem dX6_readAny_63 : decode cX6_readAny 63 = .ok (.iload_n 2, 1) := by decide +kernel
theorem dX6_readAny_64 : decode cX6_readAny 64 = .ok (.ifCond .eq 10, 3) := by decide +kernel
theorem dX6_readAny_67 : decode cX6_readAny 67 = .ok (.aload_n 0, 1) := by decide +kernel
theorem dX6_readAny_68 : decode cX6_readAny 68 = .ok (.bipush 8, 2) := by decide +kernel
theorem dX6_readAny_70 : decode cX6_readAny 70 = .ok (.iconst 0, 1) := by decide +kernel
theorem dX6_readAny_71 : decode cX6_readAny 71 = .ok (.invokevirtual 60, 3) := by decide +kernel
theorem dX6_readAny_74 : decode cX6_readAny 74 = .ok (.iload_n 2, 1) := by decide +kernel
theorem dX6_readAny_75 : decode cX6_readAny 75 = .ok (.ifCond .ne 8, 3) := by decide +kernel
theorem dX6_readAny_78 : decode cX6_readAny 78 = .ok (.iload 4, 2) := by decide +kernel
theorem dX6_readAny_80 : decode cX6_readAny 80 = .ok (.ifCond .ne 7, 3) := by decide +kernel
theorem dX6_readAny_83 : decode cX6_readAny 83 = .ok (.iconst 1, 1) := by decide +kernel
theorem dX6_readAny_84 : decode cX6_readAny 84 = .ok (.goto 4, 3) := by decide +kernel
theorem dX6_readAny_87 : decode cX6_readAny 87 = .ok (.iconst 0, 1) := by decide +kernel
theorem dX6_readAny_88 : decode cX6_readAny 88 = .ok (.istore_n 2, 1) := by decide +kernel
theorem dX6_readAny_89 : decode cX6_readAny 89 = .ok (.aload_n 0, 1) := by decide +kernel
theorem dX6_readAny_90 : decode cX6_readAny 90 = .ok (.invokevirtual 53, 3) := by decide +kernel
theorem dX6_readAny_93 : decode cX6_readAny 93 = .ok (.aload_n 0, 1) := by decide +kernel
theorem dX6_readAny_94 : decode cX6_readAny 94 = .ok (.iload_n 1, 1) := by decide +kernel
theorem dX6_readAny_95 : decode cX6_readAny 95 = .ok (.invokevirtual 73, 3) := by decide +kernel
theorem dX6_readAny_98 : decode cX6_readAny 98 = .ok (.ifCond .ne 5, 3) := by decide +kernel
theorem dX6_readAny_101 : decode cX6_readAny 101 = .ok (.iconst 0, 1) := by decide +kernel
theorem dX6_readAny_102 : decode cX6_readAny 102 = .ok (.ireturn, 1) := by decide +kernel
theorem dX6_readAny_103 : decode cX6_readAny 103 = .ok (.iload 4, 2) := by decide +kernel
theorem dX6_readAny_105 : decode cX6_readAny 105 = .ok (.ifCond .eq 10, 3) := by decide +kernel
theorem dX6_readAny_108 : decode cX6_readAny 108 = .ok (.aload_n 0, 1) := by decide +kernel
theorem dX6_readAny_109 : decode cX6_readAny 109 = .ok (.bipush 7, 2) := by decide +kernel
theorem dX6_readAny_111 : decode cX6_readAny 111 = .ok (.iconst 0, 1) := by decide +kernel
theorem dX6_readAny_112 : decode cX6_readAny 112 = .ok (.invokevirtual 60, 3) := by decide +kernel
theorem dX6_readAny_115 : decode cX6_readAny 115 = .ok (.iinc 3 1, 3) := by decide +kernel
theorem dX6_readAny_118 : decode cX6_readAny 118 = .ok (.goto (-104), 3) := by decide +kernel
theorem dX6_readAny_121 : decode cX6_readAny 121 = .ok (.iload_n 2, 1) := by decide +kernel
theorem dX6_readAny_122 : decode cX6_readAny 122 = .ok (.ifCond .eq 10, 3) := by decide +kernel
theorem dX6_readAny_125 : decode cX6_readAny 125 = .ok (.aload_n 0, 1) := by decide +kernel
theorem dX6_readAny_126 : decode cX6_readAny 126 = .ok (.bipush 8, 2) := by decide +kernel
theorem dX6_readAny_128 : decode cX6_readAny 128 = .ok (.iconst 0, 1) := by decide +kernel
theorem dX6_readAny_129 : decode cX6_readAny 129 = .ok (.invokevirtual 60, 3) := by decide +kernel
theorem dX6_readAny_132 : decode cX6_readAny 132 = .ok (.iconst 1, 1) := by decide +kernel
theorem dX6_readAny_133 : decode cX6_readAny 133 = .ok (.ireturn, 1) := by decide +kernel
def w_X6_readAny_132 (r_X6_readAny : Nat → Int32 → AH → (Int32 → AH → Prop) → Prop) (r_X6_readAtom : Nat → Int32 → AH → (Int32 → AH → Prop) → Prop) (r_X6_readInner : Nat → Int32 → AH → (Int32 → AH → Prop) → Prop) (r_X6_readNot : Nat → Int32 → AH → (Int32 → AH → Prop) → Prop) (h : AH) (Q : Int32 → AH → Prop) : Prop :=
  Q (1 : Int32) h
def w_X6_readAny_121 (r_X6_readAny : Nat → Int32 → AH → (Int32 → AH → Prop) → Prop) (r_X6_readAtom : Nat → Int32 → AH → (Int32 → AH → Prop) → Prop) (r_X6_readInner : Nat → Int32 → AH → (Int32 → AH → Prop) → Prop) (r_X6_readNot : Nat → Int32 → AH → (Int32 → AH → Prop) → Prop) (v0 : Nat) (v2 : Int32) (h : AH) (Q : Int32 → AH → Prop) : Prop :=
  br (v2 = 0) (
    w_X6_readAny_132 r_X6_readAny r_X6_readAtom r_X6_readInner r_X6_readNot h Q) (
    vr h v0 6 (
    w_X6_addStep v0 (8 : Int32) (0 : Int32) h (fun h =>
    w_X6_readAny_132 r_X6_readAny r_X6_readAtom r_X6_readInner r_X6_readNot h Q)))
def w_X6_readAny_115 (r_X6_readAny : Nat → Int32 → AH → (Int32 → AH → Prop) → Prop) (r_X6_readAtom : Nat → Int32 → AH → (Int32 → AH → Prop) → Prop) (r_X6_readInner : Nat → Int32 → AH → (Int32 → AH → Prop) → Prop) (r_X6_readNot : Nat → Int32 → AH → (Int32 → AH → Prop) → Prop) (x101 : AH → Prop) (x121 : Int32 → AH → Prop) (k : Int32 → Int32 → AH → Prop) (v0 : Nat) (v1 : Int32) (v2 : Int32) (v3 : Int32) (h : AH) (Q : Int32 → AH → Prop) : Prop :=
  k v2 (v3 + 1) h
def w_X6_readAny_101 (r_X6_readAny : Nat → Int32 → AH → (Int32 → AH → Prop) → Prop) (r_X6_readAtom : Nat → Int32 → AH → (Int32 → AH → Prop) → Prop) (r_X6_readInner : Nat → Int32 → AH → (Int32 → AH → Prop) → Prop) (r_X6_readNot : Nat → Int32 → AH → (Int32 → AH → Prop) → Prop) (h : AH) (Q : Int32 → AH → Prop) : Prop :=
  Q (0 : Int32) h
def w_X6_readAny_88 (r_X6_readAny : Nat → Int32 → AH → (Int32 → AH → Prop) → Prop) (r_X6_readAtom : Nat → Int32 → AH → (Int32 → AH → Prop) → Prop) (r_X6_readInner : Nat → Int32 → AH → (Int32 → AH → Prop) → Prop) (r_X6_readNot : Nat → Int32 → AH → (Int32 → AH → Prop) → Prop) (x101 : AH → Prop) (x121 : Int32 → AH → Prop) (k : Int32 → Int32 → AH → Prop) (v0 : Nat) (v1 : Int32) (v3 : Int32) (v4 : Int32) (t0 : Int32) (h : AH) (Q : Int32 → AH → Prop) : Prop :=
  vr h v0 6 (
  w_X6_goOn v0 h (fun h =>
  vr h v0 6 (
  r_X6_readAtom v0 v1 h (fun x1 h =>
  br (x1 = 0) (
    x101  h) (
    br (v4 = 0) (
      w_X6_readAny_115 r_X6_readAny r_X6_readAtom r_X6_readInner r_X6_readNot x101 x121 k v0 v1 t0 v3 h Q) (
      vr h v0 6 (
      w_X6_addStep v0 (7 : Int32) (0 : Int32) h (fun h =>
      w_X6_readAny_115 r_X6_readAny r_X6_readAtom r_X6_readInner r_X6_readNot x101 x121 k v0 v1 t0 v3 h Q))))))))
def w_X6_readAny_83 (r_X6_readAny : Nat → Int32 → AH → (Int32 → AH → Prop) → Prop) (r_X6_readAtom : Nat → Int32 → AH → (Int32 → AH → Prop) → Prop) (r_X6_readInner : Nat → Int32 → AH → (Int32 → AH → Prop) → Prop) (r_X6_readNot : Nat → Int32 → AH → (Int32 → AH → Prop) → Prop) (x101 : AH → Prop) (x121 : Int32 → AH → Prop) (k : Int32 → Int32 → AH → Prop) (v0 : Nat) (v1 : Int32) (v3 : Int32) (v4 : Int32) (h : AH) (Q : Int32 → AH → Prop) : Prop :=
  w_X6_readAny_88 r_X6_readAny r_X6_readAtom r_X6_readInner r_X6_readNot x101 x121 k v0 v1 v3 v4 (1 : Int32) h Q
def w_X6_readAny_74 (r_X6_readAny : Nat → Int32 → AH → (Int32 → AH → Prop) → Prop) (r_X6_readAtom : Nat → Int32 → AH → (Int32 → AH → Prop) → Prop) (r_X6_readInner : Nat → Int32 → AH → (Int32 → AH → Prop) → Prop) (r_X6_readNot : Nat → Int32 → AH → (Int32 → AH → Prop) → Prop) (x101 : AH → Prop) (x121 : Int32 → AH → Prop) (k : Int32 → Int32 → AH → Prop) (v0 : Nat) (v1 : Int32) (v2 : Int32) (v3 : Int32) (v4 : Int32) (h : AH) (Q : Int32 → AH → Prop) : Prop :=
  br (v2 = 0) (
    br (v4 = 0) (
      w_X6_readAny_83 r_X6_readAny r_X6_readAtom r_X6_readInner r_X6_readNot x101 x121 k v0 v1 v3 v4 h Q) (
      w_X6_readAny_88 r_X6_readAny r_X6_readAtom r_X6_readInner r_X6_readNot x101 x121 k v0 v1 v3 v4 (0 : Int32) h Q)) (
    w_X6_readAny_83 r_X6_readAny r_X6_readAtom r_X6_readInner r_X6_readNot x101 x121 k v0 v1 v3 v4 h Q)
def w_X6_readAny_56 (r_X6_readAny : Nat → Int32 → AH → (Int32 → AH → Prop) → Prop) (r_X6_readAtom : Nat → Int32 → AH → (Int32 → AH → Prop) → Prop) (r_X6_readInner : Nat → Int32 → AH → (Int32 → AH → Prop) → Prop) (r_X6_readNot : Nat → Int32 → AH → (Int32 → AH → Prop) → Prop) (x101 : AH → Prop) (x121 : Int32 → AH → Prop) (k : Int32 → Int32 → AH → Prop) (v0 : Nat) (v1 : Int32) (v2 : Int32) (v3 : Int32) (t0 : Int32) (h : AH) (Q : Int32 → AH → Prop) : Prop :=
  br (t0 = 0) (
    br (v2 = 0) (
      w_X6_readAny_74 r_X6_readAny r_X6_readAtom r_X6_readInner r_X6_readNot x101 x121 k v0 v1 v2 v3 t0 h Q) (
      vr h v0 6 (
      w_X6_addStep v0 (8 : Int32) (0 : Int32) h (fun h =>
      w_X6_readAny_74 r_X6_readAny r_X6_readAtom r_X6_readInner r_X6_readNot x101 x121 k v0 v1 v2 v3 t0 h Q)))) (
    w_X6_readAny_74 r_X6_readAny r_X6_readAtom r_X6_readInner r_X6_readNot x101 x121 k v0 v1 v2 v3 t0 h Q)
def w_X6_readAny_41 (r_X6_readAny : Nat → Int32 → AH → (Int32 → AH → Prop) → Prop) (r_X6_readAtom : Nat → Int32 → AH → (Int32 → AH → Prop) → Prop) (r_X6_readInner : Nat → Int32 → AH → (Int32 → AH → Prop) → Prop) (r_X6_readNot : Nat → Int32 → AH → (Int32 → AH → Prop) → Prop) (x101 : AH → Prop) (x121 : Int32 → AH → Prop) (k : Int32 → Int32 → AH → Prop) (v0 : Nat) (v1 : Int32) (v2 : Int32) (v3 : Int32) (h : AH) (Q : Int32 → AH → Prop) : Prop :=
  fI h v0 6 6 fun x1 =>
  br (x1 = (1006 : Int32)) (
    w_X6_readAny_56 r_X6_readAny r_X6_readAtom r_X6_readInner r_X6_readNot x101 x121 k v0 v1 v2 v3 (1 : Int32) h Q) (
    w_X6_readAny_56 r_X6_readAny r_X6_readAtom r_X6_readInner r_X6_readNot x101 x121 k v0 v1 v2 v3 (0 : Int32) h Q)
def w_X6_readAny_14 (r_X6_readAny : Nat → Int32 → AH → (Int32 → AH → Prop) → Prop) (r_X6_readAtom : Nat → Int32 → AH → (Int32 → AH → Prop) → Prop) (r_X6_readInner : Nat → Int32 → AH → (Int32 → AH → Prop) → Prop) (r_X6_readNot : Nat → Int32 → AH → (Int32 → AH → Prop) → Prop) (x101 : AH → Prop) (x121 : Int32 → AH → Prop) (k : Int32 → Int32 → AH → Prop) (v0 : Nat) (v1 : Int32) (v2 : Int32) (v3 : Int32) (h : AH) (Q : Int32 → AH → Prop) : Prop :=
  br ((400 : Int32) ≤ v3) (
    x121 v2 h) (
    fI h v0 6 6 fun x1 =>
    br (x1 = (1006 : Int32)) (
      w_X6_readAny_41 r_X6_readAny r_X6_readAtom r_X6_readInner r_X6_readNot x101 x121 k v0 v1 v2 v3 h Q) (
      fI h v0 6 6 fun x2 =>
      br (x2 = (1007 : Int32)) (
        w_X6_readAny_41 r_X6_readAny r_X6_readAtom r_X6_readInner r_X6_readNot x101 x121 k v0 v1 v2 v3 h Q) (
        x121 v2 h)))
def g_X6_readAny (r_X6_readAny : Nat → Int32 → AH → (Int32 → AH → Prop) → Prop) (r_X6_readAtom : Nat → Int32 → AH → (Int32 → AH → Prop) → Prop) (r_X6_readInner : Nat → Int32 → AH → (Int32 → AH → Prop) → Prop) (r_X6_readNot : Nat → Int32 → AH → (Int32 → AH → Prop) → Prop) (v0 : Nat) (v1 : Int32) (h : AH) (Q : Int32 → AH → Prop) : Prop :=
  vr h v0 6 (
  r_X6_readAtom v0 v1 h (fun x1 h =>
  br (x1 = 0) (
    Q (0 : Int32) h) (
    lp (fun (k2 : Int32 × Int32 × AH → Prop) (s2 : Int32 × Int32 × AH) => w_X6_readAny_14 r_X6_readAny r_X6_readAtom r_X6_readInner r_X6_readNot (fun  h => w_X6_readAny_101 r_X6_readAny r_X6_readAtom r_X6_readInner r_X6_readNot h Q) (fun (y2 : Int32) h => w_X6_readAny_121 r_X6_readAny r_X6_readAtom r_X6_readInner r_X6_readNot v0 y2 h Q) (fun (y2 : Int32) (y3 : Int32) h => k2 (y2, y3, h)) v0 v1 s2.1 s2.2.1 s2.2.2 Q) ((0 : Int32), (0 : Int32), h))))
set_option maxRecDepth 100000 in
set_option maxHeartbeats 4000000 in
theorem s_X6_readAny_132 {p : Program} {l : Launch} {e : Env} {s : State} {m : MethodId} {args : Array Value} {below : List Frame} {meth : Method} {c : Code} {g : GG} {d9 dr : Nat} {r_X6_readAny : Nat → Int32 → AH → (Int32 → AH → Prop) → Prop} {r_X6_readAtom : Nat → Int32 → AH → (Int32 → AH → Prop) → Prop} {r_X6_readInner : Nat → Int32 → AH → (Int32 → AH → Prop) → Prop} {r_X6_readNot : Nat → Int32 → AH → (Int32 → AH → Prop) → Prop}  {Q : Int32 → AH → Prop}  (C : CXT p l s m args meth c RX6 cX6_readAny 5 g) (hr : meth.sig.returnType = (some .boolean)) (hdr : dr + 1 ≤ d9) (hdc : 4 ≤ d9) (h_X6_readAny : ∀ (a0 : Nat) (a1 : Int32) (h : AH) (Q : Int32 → AH → Prop), r_X6_readAny a0 a1 h Q → CT l yX6_readAny cX6_readAny 5 (some .boolean) dr 0 0 [.ref a0, .int a1] h (QI Q)) (h_X6_readAtom : ∀ (a0 : Nat) (a1 : Int32) (h : AH) (Q : Int32 → AH → Prop), r_X6_readAtom a0 a1 h Q → CT l yX6_readAtom cX6_readAtom 2 (some .boolean) dr 0 0 [.ref a0, .int a1] h (QI Q)) (h_X6_readInner : ∀ (a0 : Nat) (a1 : Int32) (h : AH) (Q : Int32 → AH → Prop), r_X6_readInner a0 a1 h Q → CT l yX6_readInner cX6_readInner 2 (some .boolean) dr 0 0 [.ref a0, .int a1] h (QI Q)) (h_X6_readNot : ∀ (a0 : Nat) (a1 : Int32) (h : AH) (Q : Int32 → AH → Prop), r_X6_readNot a0 a1 h Q → CT l yX6_readNot cX6_readNot 2 (some .boolean) dr 0 0 [.ref a0, .int a1] h (QI Q))  : ∀  (h : AH), w_X6_readAny_132 r_X6_readAny r_X6_readAtom r_X6_readInner r_X6_readNot h Q → V p l e s m args below meth c g d9 0 0 5 0 0 (MQ below (QCx g (QI Q)) args s 0 0 (gA g)) 132 [] [] h := by
  intro  h hw
  refine v_iconst (v := 1) C dX6_readAny_132 (by decide) ?_
  exact (rt_MQ C _).2.1 _ _ _ _ _ _ _ hr rfl dX6_readAny_133 (by decide) (by decide) ⟨_, rfl, hw⟩
set_option maxRecDepth 100000 in
set_option maxHeartbeats 4000000 in
theorem s_X6_readAny_121 {p : Program} {l : Launch} {e : Env} {s : State} {m : MethodId} {args : Array Value} {below : List Frame} {meth : Method} {c : Code} {g : GG} {d9 dr : Nat} {r_X6_readAny : Nat → Int32 → AH → (Int32 → AH → Prop) → Prop} {r_X6_readAtom : Nat → Int32 → AH → (Int32 → AH → Prop) → Prop} {r_X6_readInner : Nat → Int32 → AH → (Int32 → AH → Prop) → Prop} {r_X6_readNot : Nat → Int32 → AH → (Int32 → AH → Prop) → Prop}  {Q : Int32 → AH → Prop}  (C : CXT p l s m args meth c RX6 cX6_readAny 5 g) (hr : meth.sig.returnType = (some .boolean)) (hdr : dr + 1 ≤ d9) (hdc : 4 ≤ d9) (h_X6_readAny : ∀ (a0 : Nat) (a1 : Int32) (h : AH) (Q : Int32 → AH → Prop), r_X6_readAny a0 a1 h Q → CT l yX6_readAny cX6_readAny 5 (some .boolean) dr 0 0 [.ref a0, .int a1] h (QI Q)) (h_X6_readAtom : ∀ (a0 : Nat) (a1 : Int32) (h : AH) (Q : Int32 → AH → Prop), r_X6_readAtom a0 a1 h Q → CT l yX6_readAtom cX6_readAtom 2 (some .boolean) dr 0 0 [.ref a0, .int a1] h (QI Q)) (h_X6_readInner : ∀ (a0 : Nat) (a1 : Int32) (h : AH) (Q : Int32 → AH → Prop), r_X6_readInner a0 a1 h Q → CT l yX6_readInner cX6_readInner 2 (some .boolean) dr 0 0 [.ref a0, .int a1] h (QI Q)) (h_X6_readNot : ∀ (a0 : Nat) (a1 : Int32) (h : AH) (Q : Int32 → AH → Prop), r_X6_readNot a0 a1 h Q → CT l yX6_readNot cX6_readNot 2 (some .boolean) dr 0 0 [.ref a0, .int a1] h (QI Q))  : ∀ (v0 : Nat) (v2 : Int32) (h : AH), w_X6_readAny_121 r_X6_readAny r_X6_readAtom r_X6_readInner r_X6_readNot v0 v2 h Q → V p l e s m args below meth c g d9 0 0 5 0 0 (MQ below (QCx g (QI Q)) args s 0 0 (gA g)) 121 [(0, .ref v0), (2, .int v2)] [] h := by
  intro v0 v2 h hw
  refine v_iload_n C dX6_readAny_121 1 rfl rfl ?_
  refine v_if_eq (tgt := 132) C dX6_readAny_122 (by decide) (fun c_122 => ?_) (fun c_122 => ?_)
  · have hw := hw.1 c_122
    refine v_sub [] rfl ?_
    exact s_X6_readAny_132 C hr hdr hdc h_X6_readAny h_X6_readAtom h_X6_readInner h_X6_readNot   _ hw
  · have hw := hw.2 c_122
    refine v_aload_n C dX6_readAny_125 0 rfl rfl ?_
    refine v_bipush (v := 8) C dX6_readAny_126 (by decide) ?_
    refine v_iconst (v := 0) C dX6_readAny_128 (by decide) ?_
    refine w_callVv (st := []) C cl_X6_60 im_X6_addStep se_X6_addStep rfl hw.1 (s_X6_addStep hw.2) rfl dX6_readAny_129 rfl (by decide) (by omega) (by decide) (by decide) (by decide) (fun h hw => ?_)
    refine v_sub [] rfl ?_
    exact s_X6_readAny_132 C hr hdr hdc h_X6_readAny h_X6_readAtom h_X6_readInner h_X6_readNot   _ hw
set_option maxRecDepth 100000 in
set_option maxHeartbeats 4000000 in
theorem s_X6_readAny_115 {p : Program} {l : Launch} {e : Env} {s : State} {m : MethodId} {args : Array Value} {below : List Frame} {meth : Method} {c : Code} {g : GG} {d9 dr : Nat} {r_X6_readAny : Nat → Int32 → AH → (Int32 → AH → Prop) → Prop} {r_X6_readAtom : Nat → Int32 → AH → (Int32 → AH → Prop) → Prop} {r_X6_readInner : Nat → Int32 → AH → (Int32 → AH → Prop) → Prop} {r_X6_readNot : Nat → Int32 → AH → (Int32 → AH → Prop) → Prop} {v0 : Nat} {v1 : Int32} {Q : Int32 → AH → Prop} {x101 : AH → Prop} {x121 : Int32 → AH → Prop} {k : Int32 → Int32 → AH → Prop} (C : CXT p l s m args meth c RX6 cX6_readAny 5 g) (hr : meth.sig.returnType = (some .boolean)) (hdr : dr + 1 ≤ d9) (hdc : 4 ≤ d9) (h_X6_readAny : ∀ (a0 : Nat) (a1 : Int32) (h : AH) (Q : Int32 → AH → Prop), r_X6_readAny a0 a1 h Q → CT l yX6_readAny cX6_readAny 5 (some .boolean) dr 0 0 [.ref a0, .int a1] h (QI Q)) (h_X6_readAtom : ∀ (a0 : Nat) (a1 : Int32) (h : AH) (Q : Int32 → AH → Prop), r_X6_readAtom a0 a1 h Q → CT l yX6_readAtom cX6_readAtom 2 (some .boolean) dr 0 0 [.ref a0, .int a1] h (QI Q)) (h_X6_readInner : ∀ (a0 : Nat) (a1 : Int32) (h : AH) (Q : Int32 → AH → Prop), r_X6_readInner a0 a1 h Q → CT l yX6_readInner cX6_readInner 2 (some .boolean) dr 0 0 [.ref a0, .int a1] h (QI Q)) (h_X6_readNot : ∀ (a0 : Nat) (a1 : Int32) (h : AH) (Q : Int32 → AH → Prop), r_X6_readNot a0 a1 h Q → CT l yX6_readNot cX6_readNot 2 (some .boolean) dr 0 0 [.ref a0, .int a1] h (QI Q)) (hx101 : ∀  (h : AH), x101  h → V p l e s m args below meth c g d9 0 0 5 0 0 (MQ below (QCx g (QI Q)) args s 0 0 (gA g)) 101 [] [] h) (hx121 : ∀ (y2 : Int32) (h : AH), x121 y2 h → V p l e s m args below meth c g d9 0 0 5 0 0 (MQ below (QCx g (QI Q)) args s 0 0 (gA g)) 121 [(0, .ref v0), (2, .int y2)] [] h) (hk : ∀ (y2 : Int32) (y3 : Int32) (h : AH), k y2 y3 h → V p l e s m args below meth c g d9 0 0 5 0 0 (MQ below (QCx g (QI Q)) args s 0 0 (gA g)) 14 [(0, .ref v0), (1, .int v1), (2, .int y2), (3, .int y3)] [] h) : ∀ (v2 : Int32) (v3 : Int32) (h : AH), w_X6_readAny_115 r_X6_readAny r_X6_readAtom r_X6_readInner r_X6_readNot x101 x121 k v0 v1 v2 v3 h Q → V p l e s m args below meth c g d9 0 0 5 0 0 (MQ below (QCx g (QI Q)) args s 0 0 (gA g)) 115 [(0, .ref v0), (1, .int v1), (2, .int v2), (3, .int v3)] [] h := by
  intro v2 v3 h hw
  refine v_iinc (v := 1) (ls' := [(3, .int (v3 + 1)), (0, .ref v0), (1, .int v1), (2, .int v2)]) C dX6_readAny_115 3 rfl (by decide) (by decide) rfl ?_
  refine v_goto (tgt := 14) C dX6_readAny_118 (by decide) ?_
  refine v_sub [1, 2, 3, 0] rfl ?_
  exact hk _ _ _ hw
set_option maxRecDepth 100000 in
set_option maxHeartbeats 4000000 in
theorem s_X6_readAny_101 {p : Program} {l : Launch} {e : Env} {s : State} {m : MethodId} {args : Array Value} {below : List Frame} {meth : Method} {c : Code} {g : GG} {d9 dr : Nat} {r_X6_readAny : Nat → Int32 → AH → (Int32 → AH → Prop) → Prop} {r_X6_readAtom : Nat → Int32 → AH → (Int32 → AH → Prop) → Prop} {r_X6_readInner : Nat → Int32 → AH → (Int32 → AH → Prop) → Prop} {r_X6_readNot : Nat → Int32 → AH → (Int32 → AH → Prop) → Prop}  {Q : Int32 → AH → Prop}  (C : CXT p l s m args meth c RX6 cX6_readAny 5 g) (hr : meth.sig.returnType = (some .boolean)) (hdr : dr + 1 ≤ d9) (hdc : 4 ≤ d9) (h_X6_readAny : ∀ (a0 : Nat) (a1 : Int32) (h : AH) (Q : Int32 → AH → Prop), r_X6_readAny a0 a1 h Q → CT l yX6_readAny cX6_readAny 5 (some .boolean) dr 0 0 [.ref a0, .int a1] h (QI Q)) (h_X6_readAtom : ∀ (a0 : Nat) (a1 : Int32) (h : AH) (Q : Int32 → AH → Prop), r_X6_readAtom a0 a1 h Q → CT l yX6_readAtom cX6_readAtom 2 (some .boolean) dr 0 0 [.ref a0, .int a1] h (QI Q)) (h_X6_readInner : ∀ (a0 : Nat) (a1 : Int32) (h : AH) (Q : Int32 → AH → Prop), r_X6_readInner a0 a1 h Q → CT l yX6_readInner cX6_readInner 2 (some .boolean) dr 0 0 [.ref a0, .int a1] h (QI Q)) (h_X6_readNot : ∀ (a0 : Nat) (a1 : Int32) (h : AH) (Q : Int32 → AH → Prop), r_X6_readNot a0 a1 h Q → CT l yX6_readNot cX6_readNot 2 (some .boolean) dr 0 0 [.ref a0, .int a1] h (QI Q))  : ∀  (h : AH), w_X6_readAny_101 r_X6_readAny r_X6_readAtom r_X6_readInner r_X6_readNot h Q → V p l e s m args below meth c g d9 0 0 5 0 0 (MQ below (QCx g (QI Q)) args s 0 0 (gA g)) 101 [] [] h := by
  intro  h hw
  refine v_iconst (v := 0) C dX6_readAny_101 (by decide) ?_
  exact (rt_MQ C _).2.1 _ _ _ _ _ _ _ hr rfl dX6_readAny_102 (by decide) (by decide) ⟨_, rfl, hw⟩
set_option maxRecDepth 100000 in
set_option maxHeartbeats 4000000 in
theorem s_X6_readAny_88 {p : Program} {l : Launch} {e : Env} {s : State} {m : MethodId} {args : Array Value} {below : List Frame} {meth : Method} {c : Code} {g : GG} {d9 dr : Nat} {r_X6_readAny : Nat → Int32 → AH → (Int32 → AH → Prop) → Prop} {r_X6_readAtom : Nat → Int32 → AH → (Int32 → AH → Prop) → Prop} {r_X6_readInner : Nat → Int32 → AH → (Int32 → AH → Prop) → Prop} {r_X6_readNot : Nat → Int32 → AH → (Int32 → AH → Prop) → Prop} {v0 : Nat} {v1 : Int32} {Q : Int32 → AH → Prop} {x101 : AH → Prop} {x121 : Int32 → AH → Prop} {k : Int32 → Int32 → AH → Prop} (C : CXT p l s m args meth c RX6 cX6_readAny 5 g) (hr : meth.sig.returnType = (some .boolean)) (hdr : dr + 1 ≤ d9) (hdc : 4 ≤ d9) (h_X6_readAny : ∀ (a0 : Nat) (a1 : Int32) (h : AH) (Q : Int32 → AH → Prop), r_X6_readAny a0 a1 h Q → CT l yX6_readAny cX6_readAny 5 (some .boolean) dr 0 0 [.ref a0, .int a1] h (QI Q)) (h_X6_readAtom : ∀ (a0 : Nat) (a1 : Int32) (h : AH) (Q : Int32 → AH → Prop), r_X6_readAtom a0 a1 h Q → CT l yX6_readAtom cX6_readAtom 2 (some .boolean) dr 0 0 [.ref a0, .int a1] h (QI Q)) (h_X6_readInner : ∀ (a0 : Nat) (a1 : Int32) (h : AH) (Q : Int32 → AH → Prop), r_X6_readInner a0 a1 h Q → CT l yX6_readInner cX6_readInner 2 (some .boolean) dr 0 0 [.ref a0, .int a1] h (QI Q)) (h_X6_readNot : ∀ (a0 : Nat) (a1 : Int32) (h : AH) (Q : Int32 → AH → Prop), r_X6_readNot a0 a1 h Q → CT l yX6_readNot cX6_readNot 2 (some .boolean) dr 0 0 [.ref a0, .int a1] h (QI Q)) (hx101 : ∀  (h : AH), x101  h → V p l e s m args below meth c g d9 0 0 5 0 0 (MQ below (QCx g (QI Q)) args s 0 0 (gA g)) 101 [] [] h) (hx121 : ∀ (y2 : Int32) (h : AH), x121 y2 h → V p l e s m args below meth c g d9 0 0 5 0 0 (MQ below (QCx g (QI Q)) args s 0 0 (gA g)) 121 [(0, .ref v0), (2, .int y2)] [] h) (hk : ∀ (y2 : Int32) (y3 : Int32) (h : AH), k y2 y3 h → V p l e s m args below meth c g d9 0 0 5 0 0 (MQ below (QCx g (QI Q)) args s 0 0 (gA g)) 14 [(0, .ref v0), (1, .int v1), (2, .int y2), (3, .int y3)] [] h) : ∀ (v3 : Int32) (v4 : Int32) (t0 : Int32) (h : AH), w_X6_readAny_88 r_X6_readAny r_X6_readAtom r_X6_readInner r_X6_readNot x101 x121 k v0 v1 v3 v4 t0 h Q → V p l e s m args below meth c g d9 0 0 5 0 0 (MQ below (QCx g (QI Q)) args s 0 0 (gA g)) 88 [(0, .ref v0), (1, .int v1), (3, .int v3), (4, .int v4)] [.int t0] h := by
  intro v3 v4 t0 h hw
  refine v_istore_n (ls' := [(2, .int t0), (0, .ref v0), (1, .int v1), (3, .int v3), (4, .int v4)]) C dX6_readAny_88 rfl (by decide) rfl ?_
  refine v_aload_n C dX6_readAny_89 1 rfl rfl ?_
  refine w_callVv (st := []) C cl_X6_53 im_X6_goOn se_X6_goOn rfl hw.1 (s_X6_goOn hw.2) rfl dX6_readAny_90 rfl (by decide) (by omega) (by decide) (by decide) (by decide) (fun h hw => ?_)
  refine v_aload_n C dX6_readAny_93 1 rfl rfl ?_
  refine v_iload_n C dX6_readAny_94 2 rfl rfl ?_
  refine w_callVi (st := []) C cl_X6_73 im_X6_readAtom se_X6_readAtom rfl hw.1 (h_X6_readAtom _ _ _ _ hw.2) rfl dX6_readAny_95 rfl (by decide) (by omega) (by decide) (by decide) (by decide) (fun x1 h hw => ?_)
  refine v_if_ne (tgt := 103) C dX6_readAny_98 (by decide) (fun c_98 => ?_) (fun c_98 => ?_)
  · have hw := hw.2 c_98
    refine v_iload C dX6_readAny_103 4 rfl ?_
    refine v_if_eq (tgt := 115) C dX6_readAny_105 (by decide) (fun c_105 => ?_) (fun c_105 => ?_)
    · have hw := hw.1 c_105
      refine v_sub [1, 2, 0, 3] rfl ?_
      exact s_X6_readAny_115 C hr hdr hdc h_X6_readAny h_X6_readAtom h_X6_readInner h_X6_readNot hx101 hx121 hk _ _ _ hw
    · have hw := hw.2 c_105
      refine v_aload_n C dX6_readAny_108 1 rfl rfl ?_
      refine v_bipush (v := 7) C dX6_readAny_109 (by decide) ?_
      refine v_iconst (v := 0) C dX6_readAny_111 (by decide) ?_
      refine w_callVv (st := []) C cl_X6_60 im_X6_addStep se_X6_addStep rfl hw.1 (s_X6_addStep hw.2) rfl dX6_readAny_112 rfl (by decide) (by omega) (by decide) (by decide) (by decide) (fun h hw => ?_)
      refine v_sub [1, 2, 0, 3] rfl ?_
      exact s_X6_readAny_115 C hr hdr hdc h_X6_readAny h_X6_readAtom h_X6_readInner h_X6_readNot hx101 hx121 hk _ _ _ hw
  · have hw := hw.1 c_98
    refine v_sub [] rfl ?_
    exact hx101  _ hw
set_option maxRecDepth 100000 in
set_option maxHeartbeats 4000000 in
theorem s_X6_readAny_83 {p : Program} {l : Launch} {e : Env} {s : State} {m : MethodId} {args : Array Value} {below : List Frame} {meth : Method} {c : Code} {g : GG} {d9 dr : Nat} {r_X6_readAny : Nat → Int32 → AH → (Int32 → AH → Prop) → Prop} {r_X6_readAtom : Nat → Int32 → AH → (Int32 → AH → Prop) → Prop} {r_X6_readInner : Nat → Int32 → AH → (Int32 → AH → Prop) → Prop} {r_X6_readNot : Nat → Int32 → AH → (Int32 → AH → Prop) → Prop} {v0 : Nat} {v1 : Int32} {Q : Int32 → AH → Prop} {x101 : AH → Prop} {x121 : Int32 → AH → Prop} {k : Int32 → Int32 → AH → Prop} (C : CXT p l s m args meth c RX6 cX6_readAny 5 g) (hr : meth.sig.returnType = (some .boolean)) (hdr : dr + 1 ≤ d9) (hdc : 4 ≤ d9) (h_X6_readAny : ∀ (a0 : Nat) (a1 : Int32) (h : AH) (Q : Int32 → AH → Prop), r_X6_readAny a0 a1 h Q → CT l yX6_readAny cX6_readAny 5 (some .boolean) dr 0 0 [.ref a0, .int a1] h (QI Q)) (h_X6_readAtom : ∀ (a0 : Nat) (a1 : Int32) (h : AH) (Q : Int32 → AH → Prop), r_X6_readAtom a0 a1 h Q → CT l yX6_readAtom cX6_readAtom 2 (some .boolean) dr 0 0 [.ref a0, .int a1] h (QI Q)) (h_X6_readInner : ∀ (a0 : Nat) (a1 : Int32) (h : AH) (Q : Int32 → AH → Prop), r_X6_readInner a0 a1 h Q → CT l yX6_readInner cX6_readInner 2 (some .boolean) dr 0 0 [.ref a0, .int a1] h (QI Q)) (h_X6_readNot : ∀ (a0 : Nat) (a1 : Int32) (h : AH) (Q : Int32 → AH → Prop), r_X6_readNot a0 a1 h Q → CT l yX6_readNot cX6_readNot 2 (some .boolean) dr 0 0 [.ref a0, .int a1] h (QI Q)) (hx101 : ∀  (h : AH), x101  h → V p l e s m args below meth c g d9 0 0 5 0 0 (MQ below (QCx g (QI Q)) args s 0 0 (gA g)) 101 [] [] h) (hx121 : ∀ (y2 : Int32) (h : AH), x121 y2 h → V p l e s m args below meth c g d9 0 0 5 0 0 (MQ below (QCx g (QI Q)) args s 0 0 (gA g)) 121 [(0, .ref v0), (2, .int y2)] [] h) (hk : ∀ (y2 : Int32) (y3 : Int32) (h : AH), k y2 y3 h → V p l e s m args below meth c g d9 0 0 5 0 0 (MQ below (QCx g (QI Q)) args s 0 0 (gA g)) 14 [(0, .ref v0), (1, .int v1), (2, .int y2), (3, .int y3)] [] h) : ∀ (v3 : Int32) (v4 : Int32) (h : AH), w_X6_readAny_83 r_X6_readAny r_X6_readAtom r_X6_readInner r_X6_readNot x101 x121 k v0 v1 v3 v4 h Q → V p l e s m args below meth c g d9 0 0 5 0 0 (MQ below (QCx g (QI Q)) args s 0 0 (gA g)) 83 [(0, .ref v0), (1, .int v1), (3, .int v3), (4, .int v4)] [] h := by
  intro v3 v4 h hw
  refine v_iconst (v := 1) C dX6_readAny_83 (by decide) ?_
  refine v_goto (tgt := 88) C dX6_readAny_84 (by decide) ?_
  exact s_X6_readAny_88 C hr hdr hdc h_X6_readAny h_X6_readAtom h_X6_readInner h_X6_readNot hx101 hx121 hk _ _ _ _ hw
set_option maxRecDepth 100000 in
set_option maxHeartbeats 4000000 in
theorem s_X6_readAny_74 {p : Program} {l : Launch} {e : Env} {s : State} {m : MethodId} {args : Array Value} {below : List Frame} {meth : Method} {c : Code} {g : GG} {d9 dr : Nat} {r_X6_readAny : Nat → Int32 → AH → (Int32 → AH → Prop) → Prop} {r_X6_readAtom : Nat → Int32 → AH → (Int32 → AH → Prop) → Prop} {r_X6_readInner : Nat → Int32 → AH → (Int32 → AH → Prop) → Prop} {r_X6_readNot : Nat → Int32 → AH → (Int32 → AH → Prop) → Prop} {v0 : Nat} {v1 : Int32} {Q : Int32 → AH → Prop} {x101 : AH → Prop} {x121 : Int32 → AH → Prop} {k : Int32 → Int32 → AH → Prop} (C : CXT p l s m args meth c RX6 cX6_readAny 5 g) (hr : meth.sig.returnType = (some .boolean)) (hdr : dr + 1 ≤ d9) (hdc : 4 ≤ d9) (h_X6_readAny : ∀ (a0 : Nat) (a1 : Int32) (h : AH) (Q : Int32 → AH → Prop), r_X6_readAny a0 a1 h Q → CT l yX6_readAny cX6_readAny 5 (some .boolean) dr 0 0 [.ref a0, .int a1] h (QI Q)) (h_X6_readAtom : ∀ (a0 : Nat) (a1 : Int32) (h : AH) (Q : Int32 → AH → Prop), r_X6_readAtom a0 a1 h Q → CT l yX6_readAtom cX6_readAtom 2 (some .boolean) dr 0 0 [.ref a0, .int a1] h (QI Q)) (h_X6_readInner : ∀ (a0 : Nat) (a1 : Int32) (h : AH) (Q : Int32 → AH → Prop), r_X6_readInner a0 a1 h Q → CT l yX6_readInner cX6_readInner 2 (some .boolean) dr 0 0 [.ref a0, .int a1] h (QI Q)) (h_X6_readNot : ∀ (a0 : Nat) (a1 : Int32) (h : AH) (Q : Int32 → AH → Prop), r_X6_readNot a0 a1 h Q → CT l yX6_readNot cX6_readNot 2 (some .boolean) dr 0 0 [.ref a0, .int a1] h (QI Q)) (hx101 : ∀  (h : AH), x101  h → V p l e s m args below meth c g d9 0 0 5 0 0 (MQ below (QCx g (QI Q)) args s 0 0 (gA g)) 101 [] [] h) (hx121 : ∀ (y2 : Int32) (h : AH), x121 y2 h → V p l e s m args below meth c g d9 0 0 5 0 0 (MQ below (QCx g (QI Q)) args s 0 0 (gA g)) 121 [(0, .ref v0), (2, .int y2)] [] h) (hk : ∀ (y2 : Int32) (y3 : Int32) (h : AH), k y2 y3 h → V p l e s m args below meth c g d9 0 0 5 0 0 (MQ below (QCx g (QI Q)) args s 0 0 (gA g)) 14 [(0, .ref v0), (1, .int v1), (2, .int y2), (3, .int y3)] [] h) : ∀ (v2 : Int32) (v3 : Int32) (v4 : Int32) (h : AH), w_X6_readAny_74 r_X6_readAny r_X6_readAtom r_X6_readInner r_X6_readNot x101 x121 k v0 v1 v2 v3 v4 h Q → V p l e s m args below meth c g d9 0 0 5 0 0 (MQ below (QCx g (QI Q)) args s 0 0 (gA g)) 74 [(0, .ref v0), (1, .int v1), (2, .int v2), (3, .int v3), (4, .int v4)] [] h := by
  intro v2 v3 v4 h hw
  refine v_iload_n C dX6_readAny_74 2 rfl rfl ?_
  refine v_if_ne (tgt := 83) C dX6_readAny_75 (by decide) (fun c_75 => ?_) (fun c_75 => ?_)
  · have hw := hw.2 c_75
    refine v_sub [0, 1, 3, 4] rfl ?_
    exact s_X6_readAny_83 C hr hdr hdc h_X6_readAny h_X6_readAtom h_X6_readInner h_X6_readNot hx101 hx121 hk _ _ _ hw
  · have hw := hw.1 c_75
    refine v_iload C dX6_readAny_78 4 rfl ?_
    refine v_if_ne (tgt := 87) C dX6_readAny_80 (by decide) (fun c_80 => ?_) (fun c_80 => ?_)
    · have hw := hw.2 c_80
      refine v_iconst (v := 0) C dX6_readAny_87 (by decide) ?_
      refine v_sub [0, 1, 3, 4] rfl ?_
      exact s_X6_readAny_88 C hr hdr hdc h_X6_readAny h_X6_readAtom h_X6_readInner h_X6_readNot hx101 hx121 hk _ _ _ _ hw
    · have hw := hw.1 c_80
      refine v_sub [0, 1, 3, 4] rfl ?_
      exact s_X6_readAny_83 C hr hdr hdc h_X6_readAny h_X6_readAtom h_X6_readInner h_X6_readNot hx101 hx121 hk _ _ _ hw
set_option maxRecDepth 100000 in
set_option maxHeartbeats 4000000 in
theorem s_X6_readAny_56 {p : Program} {l : Launch} {e : Env} {s : State} {m : MethodId} {args : Array Value} {below : List Frame} {meth : Method} {c : Code} {g : GG} {d9 dr : Nat} {r_X6_readAny : Nat → Int32 → AH → (Int32 → AH → Prop) → Prop} {r_X6_readAtom : Nat → Int32 → AH → (Int32 → AH → Prop) → Prop} {r_X6_readInner : Nat → Int32 → AH → (Int32 → AH → Prop) → Prop} {r_X6_readNot : Nat → Int32 → AH → (Int32 → AH → Prop) → Prop} {v0 : Nat} {v1 : Int32} {Q : Int32 → AH → Prop} {x101 : AH → Prop} {x121 : Int32 → AH → Prop} {k : Int32 → Int32 → AH → Prop} (C : CXT p l s m args meth c RX6 cX6_readAny 5 g) (hr : meth.sig.returnType = (some .boolean)) (hdr : dr + 1 ≤ d9) (hdc : 4 ≤ d9) (h_X6_readAny : ∀ (a0 : Nat) (a1 : Int32) (h : AH) (Q : Int32 → AH → Prop), r_X6_readAny a0 a1 h Q → CT l yX6_readAny cX6_readAny 5 (some .boolean) dr 0 0 [.ref a0, .int a1] h (QI Q)) (h_X6_readAtom : ∀ (a0 : Nat) (a1 : Int32) (h : AH) (Q : Int32 → AH → Prop), r_X6_readAtom a0 a1 h Q → CT l yX6_readAtom cX6_readAtom 2 (some .boolean) dr 0 0 [.ref a0, .int a1] h (QI Q)) (h_X6_readInner : ∀ (a0 : Nat) (a1 : Int32) (h : AH) (Q : Int32 → AH → Prop), r_X6_readInner a0 a1 h Q → CT l yX6_readInner cX6_readInner 2 (some .boolean) dr 0 0 [.ref a0, .int a1] h (QI Q)) (h_X6_readNot : ∀ (a0 : Nat) (a1 : Int32) (h : AH) (Q : Int32 → AH → Prop), r_X6_readNot a0 a1 h Q → CT l yX6_readNot cX6_readNot 2 (some .boolean) dr 0 0 [.ref a0, .int a1] h (QI Q)) (hx101 : ∀  (h : AH), x101  h → V p l e s m args below meth c g d9 0 0 5 0 0 (MQ below (QCx g (QI Q)) args s 0 0 (gA g)) 101 [] [] h) (hx121 : ∀ (y2 : Int32) (h : AH), x121 y2 h → V p l e s m args below meth c g d9 0 0 5 0 0 (MQ below (QCx g (QI Q)) args s 0 0 (gA g)) 121 [(0, .ref v0), (2, .int y2)] [] h) (hk : ∀ (y2 : Int32) (y3 : Int32) (h : AH), k y2 y3 h → V p l e s m args below meth c g d9 0 0 5 0 0 (MQ below (QCx g (QI Q)) args s 0 0 (gA g)) 14 [(0, .ref v0), (1, .int v1), (2, .int y2), (3, .int y3)] [] h) : ∀ (v2 : Int32) (v3 : Int32) (t0 : Int32) (h : AH), w_X6_readAny_56 r_X6_readAny r_X6_readAtom r_X6_readInner r_X6_readNot x101 x121 k v0 v1 v2 v3 t0 h Q → V p l e s m args below meth c g d9 0 0 5 0 0 (MQ below (QCx g (QI Q)) args s 0 0 (gA g)) 56 [(0, .ref v0), (1, .int v1), (2, .int v2), (3, .int v3)] [.int t0] h := by
  intro v2 v3 t0 h hw
  refine v_istore (ls' := [(4, .int t0), (0, .ref v0), (1, .int v1), (2, .int v2), (3, .int v3)]) C dX6_readAny_56 (by decide) rfl ?_
  refine v_iload C dX6_readAny_58 0 rfl ?_
  refine v_if_ne (tgt := 74) C dX6_readAny_60 (by decide) (fun c_60 => ?_) (fun c_60 => ?_)
  · have hw := hw.2 c_60
    refine v_sub [1, 2, 3, 4, 0] rfl ?_
    exact s_X6_readAny_74 C hr hdr hdc h_X6_readAny h_X6_readAtom h_X6_readInner h_X6_readNot hx101 hx121 hk _ _ _ _ hw
  · have hw := hw.1 c_60
    refine v_iload_n C dX6_readAny_63 3 rfl rfl ?_
    refine v_if_eq (tgt := 74) C dX6_readAny_64 (by decide) (fun c_64 => ?_) (fun c_64 => ?_)
    · have hw := hw.1 c_64
      refine v_sub [1, 2, 3, 4, 0] rfl ?_
      exact s_X6_readAny_74 C hr hdr hdc h_X6_readAny h_X6_readAtom h_X6_readInner h_X6_readNot hx101 hx121 hk _ _ _ _ hw
    · have hw := hw.2 c_64
      refine v_aload_n C dX6_readAny_67 1 rfl rfl ?_
      refine v_bipush (v := 8) C dX6_readAny_68 (by decide) ?_
      refine v_iconst (v := 0) C dX6_readAny_70 (by decide) ?_
      refine w_callVv (st := []) C cl_X6_60 im_X6_addStep se_X6_addStep rfl hw.1 (s_X6_addStep hw.2) rfl dX6_readAny_71 rfl (by decide) (by omega) (by decide) (by decide) (by decide) (fun h hw => ?_)
      refine v_sub [1, 2, 3, 4, 0] rfl ?_
      exact s_X6_readAny_74 C hr hdr hdc h_X6_readAny h_X6_readAtom h_X6_readInner h_X6_readNot hx101 hx121 hk _ _ _ _ hw
set_option maxRecDepth 100000 in
set_option maxHeartbeats 4000000 in
theorem s_X6_readAny_41 {p : Program} {l : Launch} {e : Env} {s : State} {m : MethodId} {args : Array Value} {below : List Frame} {meth : Method} {c : Code} {g : GG} {d9 dr : Nat} {r_X6_readAny : Nat → Int32 → AH → (Int32 → AH → Prop) → Prop} {r_X6_readAtom : Nat → Int32 → AH → (Int32 → AH → Prop) → Prop} {r_X6_readInner : Nat → Int32 → AH → (Int32 → AH → Prop) → Prop} {r_X6_readNot : Nat → Int32 → AH → (Int32 → AH → Prop) → Prop} {v0 : Nat} {v1 : Int32} {Q : Int32 → AH → Prop} {x101 : AH → Prop} {x121 : Int32 → AH → Prop} {k : Int32 → Int32 → AH → Prop} (C : CXT p l s m args meth c RX6 cX6_readAny 5 g) (hr : meth.sig.returnType = (some .boolean)) (hdr : dr + 1 ≤ d9) (hdc : 4 ≤ d9) (h_X6_readAny : ∀ (a0 : Nat) (a1 : Int32) (h : AH) (Q : Int32 → AH → Prop), r_X6_readAny a0 a1 h Q → CT l yX6_readAny cX6_readAny 5 (some .boolean) dr 0 0 [.ref a0, .int a1] h (QI Q)) (h_X6_readAtom : ∀ (a0 : Nat) (a1 : Int32) (h : AH) (Q : Int32 → AH → Prop), r_X6_readAtom a0 a1 h Q → CT l yX6_readAtom cX6_readAtom 2 (some .boolean) dr 0 0 [.ref a0, .int a1] h (QI Q)) (h_X6_readInner : ∀ (a0 : Nat) (a1 : Int32) (h : AH) (Q : Int32 → AH → Prop), r_X6_readInner a0 a1 h Q → CT l yX6_readInner cX6_readInner 2 (some .boolean) dr 0 0 [.ref a0, .int a1] h (QI Q)) (h_X6_readNot : ∀ (a0 : Nat) (a1 : Int32) (h : AH) (Q : Int32 → AH → Prop), r_X6_readNot a0 a1 h Q → CT l yX6_readNot cX6_readNot 2 (some .boolean) dr 0 0 [.ref a0, .int a1] h (QI Q)) (hx101 : ∀  (h : AH), x101  h → V p l e s m args below meth c g d9 0 0 5 0 0 (MQ below (QCx g (QI Q)) args s 0 0 (gA g)) 101 [] [] h) (hx121 : ∀ (y2 : Int32) (h : AH), x121 y2 h → V p l e s m args below meth c g d9 0 0 5 0 0 (MQ below (QCx g (QI Q)) args s 0 0 (gA g)) 121 [(0, .ref v0), (2, .int y2)] [] h) (hk : ∀ (y2 : Int32) (y3 : Int32) (h : AH), k y2 y3 h → V p l e s m args below meth c g d9 0 0 5 0 0 (MQ below (QCx g (QI Q)) args s 0 0 (gA g)) 14 [(0, .ref v0), (1, .int v1), (2, .int y2), (3, .int y3)] [] h) : ∀ (v2 : Int32) (v3 : Int32) (h : AH), w_X6_readAny_41 r_X6_readAny r_X6_readAtom r_X6_readInner r_X6_readNot x101 x121 k v0 v1 v2 v3 h Q → V p l e s m args below meth c g d9 0 0 5 0 0 (MQ below (QCx g (QI Q)) args s 0 0 (gA g)) 41 [(0, .ref v0), (1, .int v1), (2, .int v2), (3, .int v3)] [] h := by
  intro v2 v3 h hw
  refine v_aload_n C dX6_readAny_41 0 rfl rfl ?_
  refine w_getI C fl_X6_43 dX6_readAny_42 rfl hw (fun x1 hw => ?_)
  refine v_sipush (v := 1006) C dX6_readAny_45 (by decide) ?_
  refine v_icmp_ne (tgt := 55) C dX6_readAny_48 (by decide) (fun c_48 => ?_) (fun c_48 => ?_)
  · have hw := hw.2 c_48
    refine v_iconst (v := 0) C dX6_readAny_55 (by decide) ?_
    exact s_X6_readAny_56 C hr hdr hdc h_X6_readAny h_X6_readAtom h_X6_readInner h_X6_readNot hx101 hx121 hk _ _ _ _ hw
  · have hw := hw.1 c_48
    refine v_iconst (v := 1) C dX6_readAny_51 (by decide) ?_
    refine v_goto (tgt := 56) C dX6_readAny_52 (by decide) ?_
    exact s_X6_readAny_56 C hr hdr hdc h_X6_readAny h_X6_readAtom h_X6_readInner h_X6_readNot hx101 hx121 hk _ _ _ _ hw
set_option maxRecDepth 100000 in
set_option maxHeartbeats 4000000 in
theorem s_X6_readAny_14 {p : Program} {l : Launch} {e : Env} {s : State} {m : MethodId} {args : Array Value} {below : List Frame} {meth : Method} {c : Code} {g : GG} {d9 dr : Nat} {r_X6_readAny : Nat → Int32 → AH → (Int32 → AH → Prop) → Prop} {r_X6_readAtom : Nat → Int32 → AH → (Int32 → AH → Prop) → Prop} {r_X6_readInner : Nat → Int32 → AH → (Int32 → AH → Prop) → Prop} {r_X6_readNot : Nat → Int32 → AH → (Int32 → AH → Prop) → Prop} {v0 : Nat} {v1 : Int32} {Q : Int32 → AH → Prop} {x101 : AH → Prop} {x121 : Int32 → AH → Prop} {k : Int32 → Int32 → AH → Prop} (C : CXT p l s m args meth c RX6 cX6_readAny 5 g) (hr : meth.sig.returnType = (some .boolean)) (hdr : dr + 1 ≤ d9) (hdc : 4 ≤ d9) (h_X6_readAny : ∀ (a0 : Nat) (a1 : Int32) (h : AH) (Q : Int32 → AH → Prop), r_X6_readAny a0 a1 h Q → CT l yX6_readAny cX6_readAny 5 (some .boolean) dr 0 0 [.ref a0, .int a1] h (QI Q)) (h_X6_readAtom : ∀ (a0 : Nat) (a1 : Int32) (h : AH) (Q : Int32 → AH → Prop), r_X6_readAtom a0 a1 h Q → CT l yX6_readAtom cX6_readAtom 2 (some .boolean) dr 0 0 [.ref a0, .int a1] h (QI Q)) (h_X6_readInner : ∀ (a0 : Nat) (a1 : Int32) (h : AH) (Q : Int32 → AH → Prop), r_X6_readInner a0 a1 h Q → CT l yX6_readInner cX6_readInner 2 (some .boolean) dr 0 0 [.ref a0, .int a1] h (QI Q)) (h_X6_readNot : ∀ (a0 : Nat) (a1 : Int32) (h : AH) (Q : Int32 → AH → Prop), r_X6_readNot a0 a1 h Q → CT l yX6_readNot cX6_readNot 2 (some .boolean) dr 0 0 [.ref a0, .int a1] h (QI Q)) (hx101 : ∀  (h : AH), x101  h → V p l e s m args below meth c g d9 0 0 5 0 0 (MQ below (QCx g (QI Q)) args s 0 0 (gA g)) 101 [] [] h) (hx121 : ∀ (y2 : Int32) (h : AH), x121 y2 h → V p l e s m args below meth c g d9 0 0 5 0 0 (MQ below (QCx g (QI Q)) args s 0 0 (gA g)) 121 [(0, .ref v0), (2, .int y2)] [] h) (hk : ∀ (y2 : Int32) (y3 : Int32) (h : AH), k y2 y3 h → V p l e s m args below meth c g d9 0 0 5 0 0 (MQ below (QCx g (QI Q)) args s 0 0 (gA g)) 14 [(0, .ref v0), (1, .int v1), (2, .int y2), (3, .int y3)] [] h) : ∀ (v2 : Int32) (v3 : Int32) (h : AH), w_X6_readAny_14 r_X6_readAny r_X6_readAtom r_X6_readInner r_X6_readNot x101 x121 k v0 v1 v2 v3 h Q → V p l e s m args below meth c g d9 0 0 5 0 0 (MQ below (QCx g (QI Q)) args s 0 0 (gA g)) 14 [(0, .ref v0), (1, .int v1), (2, .int v2), (3, .int v3)] [] h := by
  intro v2 v3 h hw
  refine v_iload_n C dX6_readAny_14 3 rfl rfl ?_
  refine v_sipush (v := 400) C dX6_readAny_15 (by decide) ?_
  refine v_icmp_ge (tgt := 121) C dX6_readAny_18 (by decide) (fun c_18 => ?_) (fun c_18 => ?_)
  · have hw := hw.1 c_18
    refine v_sub [0, 2] rfl ?_
    exact hx121 _ _ hw
  · have hw := hw.2 c_18
    refine v_aload_n C dX6_readAny_21 0 rfl rfl ?_
    refine w_getI C fl_X6_43 dX6_readAny_22 rfl hw (fun x1 hw => ?_)
    refine v_sipush (v := 1006) C dX6_readAny_25 (by decide) ?_
    refine v_icmp_eq (tgt := 41) C dX6_readAny_28 (by decide) (fun c_28 => ?_) (fun c_28 => ?_)
    · have hw := hw.1 c_28
      exact s_X6_readAny_41 C hr hdr hdc h_X6_readAny h_X6_readAtom h_X6_readInner h_X6_readNot hx101 hx121 hk _ _ _ hw
    · have hw := hw.2 c_28
      refine v_aload_n C dX6_readAny_31 0 rfl rfl ?_
      refine w_getI C fl_X6_43 dX6_readAny_32 rfl hw (fun x2 hw => ?_)
      refine v_sipush (v := 1007) C dX6_readAny_35 (by decide) ?_
      refine v_icmp_ne (tgt := 121) C dX6_readAny_38 (by decide) (fun c_38 => ?_) (fun c_38 => ?_)
      · have hw := hw.2 c_38
        refine v_sub [0, 2] rfl ?_
        exact hx121 _ _ hw
      · have hw := hw.1 c_38
        exact s_X6_readAny_41 C hr hdr hdc h_X6_readAny h_X6_readAtom h_X6_readInner h_X6_readNot hx101 hx121 hk _ _ _ hw
set_option maxRecDepth 100000 in
set_option maxHeartbeats 4000000 in
theorem t_X6_readAny {l : Launch} {d9 dr : Nat} {r_X6_readAny : Nat → Int32 → AH → (Int32 → AH → Prop) → Prop} {r_X6_readAtom : Nat → Int32 → AH → (Int32 → AH → Prop) → Prop} {r_X6_readInner : Nat → Int32 → AH → (Int32 → AH → Prop) → Prop} {r_X6_readNot : Nat → Int32 → AH → (Int32 → AH → Prop) → Prop} {v0 : Nat} {v1 : Int32} {h : AH} {Q : Int32 → AH → Prop} (hdr : dr + 1 ≤ d9) (hdc : 4 ≤ d9) (h_X6_readAny : ∀ (a0 : Nat) (a1 : Int32) (h : AH) (Q : Int32 → AH → Prop), r_X6_readAny a0 a1 h Q → CT l yX6_readAny cX6_readAny 5 (some .boolean) dr 0 0 [.ref a0, .int a1] h (QI Q)) (h_X6_readAtom : ∀ (a0 : Nat) (a1 : Int32) (h : AH) (Q : Int32 → AH → Prop), r_X6_readAtom a0 a1 h Q → CT l yX6_readAtom cX6_readAtom 2 (some .boolean) dr 0 0 [.ref a0, .int a1] h (QI Q)) (h_X6_readInner : ∀ (a0 : Nat) (a1 : Int32) (h : AH) (Q : Int32 → AH → Prop), r_X6_readInner a0 a1 h Q → CT l yX6_readInner cX6_readInner 2 (some .boolean) dr 0 0 [.ref a0, .int a1] h (QI Q)) (h_X6_readNot : ∀ (a0 : Nat) (a1 : Int32) (h : AH) (Q : Int32 → AH → Prop), r_X6_readNot a0 a1 h Q → CT l yX6_readNot cX6_readNot 2 (some .boolean) dr 0 0 [.ref a0, .int a1] h (QI Q)) (hw : g_X6_readAny r_X6_readAny r_X6_readAtom r_X6_readInner r_X6_readNot v0 v1 h Q) : CT l yX6_readAny cX6_readAny 5 (some .boolean) d9 0 0 [.ref v0, .int v1] h (QI Q) := by
  refine CT.of (by decide) ⟨rfl, ⟨rfl, trivial⟩⟩ (Nat.le_of_ble_eq_true rfl) ?_
  intro p e s m args below meth c g C hr hin
  refine v_eq (pc' := 0) (ls' := [(0, .ref v0), (1, .int v1)]) rfl rfl rfl rfl ?_
  refine v_aload_n C dX6_readAny_0 0 rfl rfl ?_
  refine v_iload_n C dX6_readAny_1 1 rfl rfl ?_
  refine w_callVi (st := []) C cl_X6_73 im_X6_readAtom se_X6_readAtom rfl hw.1 (h_X6_readAtom _ _ _ _ hw.2) rfl dX6_readAny_2 rfl (by decide) (by omega) (by decide) (by decide) (by decide) (fun x1 h hw => ?_)
  refine v_if_ne (tgt := 10) C dX6_readAny_5 (by decide) (fun c_5 => ?_) (fun c_5 => ?_)
  · have hw := hw.2 c_5
    refine v_iconst (v := 0) C dX6_readAny_10 (by decide) ?_
    refine v_istore_n (ls' := [(2, .int (0 : Int32)), (0, .ref v0), (1, .int v1)]) C dX6_readAny_11 rfl (by decide) rfl ?_
    refine v_iconst (v := 0) C dX6_readAny_12 (by decide) ?_
    refine v_istore_n (ls' := [(3, .int (0 : Int32)), (2, .int (0 : Int32)), (0, .ref v0), (1, .int v1)]) C dX6_readAny_13 rfl (by decide) rfl ?_
    refine v_sub [2, 3, 1, 0] rfl ?_
    refine lp_walk (P := fun (s' : Int32 × Int32 × AH) => V p l e s m args below meth c g d9 0 0 5 0 0 (MQ below (QCx g (QI Q)) args s 0 0 (gA g)) 14 [(0, .ref v0), (1, .int v1), (2, .int (s'.1)), (3, .int (s'.2.1))] [] s'.2.2) (fun k2 hk2 s' hw => ?_) ((0 : Int32), (0 : Int32), h) hw
    exact s_X6_readAny_14 C hr hdr hdc h_X6_readAny h_X6_readAtom h_X6_readInner h_X6_readNot (fun  h hw => s_X6_readAny_101 C hr hdr hdc h_X6_readAny h_X6_readAtom h_X6_readInner h_X6_readNot   h hw) (fun y2 h hw => s_X6_readAny_121 C hr hdr hdc h_X6_readAny h_X6_readAtom h_X6_readInner h_X6_readNot  _ _ h hw) (fun y2 y3 h hw => hk2 (y2, y3, h) hw) _ _ _ hw
  · have hw := hw.1 c_5
    refine v_iconst (v := 0) C dX6_readAny_8 (by decide) ?_
    exact (rt_MQ C _).2.1 _ _ _ _ _ _ _ hr rfl dX6_readAny_9 (by decide) (by decide) ⟨_, rfl, hw⟩
-- GrassField$Reader.readAtom(I)Z
theorem dX6_readAtom_0 : decode cX6_readAtom 0 = .ok (.aload_n 0, 1) := by decide +kernel
theorem dX6_readAtom_1 : decode cX6_readAtom 1 = .ok (.getfield 43, 3) := by decide +kernel
theorem dX6_readAtom_4 : decode cX6_readAtom 4 = .ok (.sipush 1008, 3) := by decide +kernel
theorem dX6_readAtom_7 : decode cX6_readAtom 7 = .ok (.if_icmp .ne 24, 3) := by decide +kernel
theorem dX6_readAtom_10 : decode cX6_readAtom 10 = .ok (.iload_n 1, 1) := by decide +kernel
theorem dX6_readAtom_11 : decode cX6_readAtom 11 = .ok (.bipush 6, 2) := by decide +kernel
theorem dX6_readAtom_13 : decode cX6_readAtom 13 = .ok (.if_icmp .ge 13, 3) := by decide +kernel
theorem dX6_readAtom_16 : decode cX6_readAtom 16 = .ok (.aload_n 0, 1) := by decide +kernel
theorem dX6_readAtom_17 : decode cX6_readAtom 17 = .ok (.iload_n 1, 1) := by decide +kernel
theorem dX6_readAtom_18 : decode cX6_readAtom 18 = .ok (.iconst 1, 1) := by decide +kernel
theorem dX6_readAtom_19 : decode cX6_readAtom 19 = .ok (.iadd, 1) := by decide +kernel
theorem dX6_readAtom_20 : decode cX6_readAtom 20 = .ok (.invokevirtual 76, 3) := by decide +kernel
theorem dX6_readAtom_23 : decode cX6_readAtom 23 = .ok (.goto 7, 3) := by decide +kernel
theorem dX6_readAtom_26 : decode cX6_readAtom 26 = .ok (.aload_n 0, 1) := by decide +kernel
theorem dX6_readAtom_27 : decode cX6_readAtom 27 = .ok (.invokevirtual 50, 3) := by decide +kernel
theorem dX6_readAtom_30 : decode cX6_readAtom 30 = .ok (.ireturn, 1) := by decide +kernel
theorem dX6_readAtom_31 : decode cX6_readAtom 31 = .ok (.aload_n 0, 1) := by decide +kernel
theorem dX6_readAtom_32 : decode cX6_readAtom 32 = .ok (.getfield 43, 3) := by decide +kernel
theorem dX6_readAtom_35 : decode cX6_readAtom 35 = .ok (.bipush 40, 2) := by decide +kernel
theorem dX6_readAtom_37 : decode cX6_readAtom 37 = .ok (.if_icmp .ne 24, 3) := by decide +kernel
theorem dX6_readAtom_40 : decode cX6_readAtom 40 = .ok (.iload_n 1, 1) := by decide +kernel
theorem dX6_readAtom_41 : decode cX6_readAtom 41 = .ok (.bipush 6, 2) := by decide +kernel
theorem dX6_readAtom_43 : decode cX6_readAtom 43 = .ok (.if_icmp .ge 13, 3) := by decide +kernel
theorem dX6_readAtom_46 : decode cX6_readAtom 46 = .ok (.aload_n 0, 1) := by decide +kernel
theorem dX6_readAtom_47 : decode cX6_readAtom 47 = .ok (.iload_n 1, 1) := by decide +kernel
theorem dX6_readAtom_48 : decode cX6_readAtom 48 = .ok (.iconst 1, 1) := by decide +kernel
theorem dX6_readAtom_49 : decode cX6_readAtom 49 = .ok (.iadd, 1) := by decide +kernel
theorem dX6_readAtom_50 : decode cX6_readAtom 50 = .ok (.invokevirtual 79, 3) := by decide +kernel
theorem dX6_readAtom_53 : decode cX6_readAtom 53 = .ok (.goto 7, 3) := by decide +kernel
theorem dX6_readAtom_56 : decode cX6_readAtom 56 = .ok (.aload_n 0, 1) := by decide +kernel
theorem dX6_readAtom_57 : decode cX6_readAtom 57 = .ok (.invokevirtual 50, 3) := by decide +kernel
theorem dX6_readAtom_60 : decode cX6_readAtom 60 = .ok (.ireturn, 1) := by decide +kernel
theorem dX6_readAtom_61 : decode cX6_readAtom 61 = .ok (.aload_n 0, 1) := by decide +kernel
theorem dX6_readAtom_62 : decode cX6_readAtom 62 = .ok (.getfield 67, 3) := by decide +kernel
theorem dX6_readAtom_65 : decode cX6_readAtom 65 = .ok (.sipush 1009, 3) := by decide +kernel
theorem dX6_readAtom_68 : decode cX6_readAtom 68 = .ok (.if_icmp .ne 43, 3) := by decide +kernel
theorem dX6_readAtom_71 : decode cX6_readAtom 71 = .ok (.aload_n 0, 1) := by decide +kernel
theorem dX6_readAtom_72 : decode cX6_readAtom 72 = .ok (.getfield 43, 3) := by decide +kernel
theorem dX6_readAtom_75 : decode cX6_readAtom 75 = .ok (.sipush 1016, 3) := by decide +kernel
theorem dX6_readAtom_78 : decode cX6_readAtom 78 = .ok (.if_icmp .eq 13, 3) := by decide +kernel
theorem dX6_readAtom_81 : decode cX6_readAtom 81 = .ok (.aload_n 0, 1) := by decide +kernel
theorem dX6_readAtom_82 : decode cX6_readAtom 82 = .ok (.getfield 43, 3) := by decide +kernel
theorem dX6_readAtom_85 : decode cX6_readAtom 85 = .ok (.sipush 1017, 3) := by decide +kernel
theorem dX6_readAtom_88 : decode cX6_readAtom 88 = .ok (.if_icmp .ne 23, 3) := by decide +kernel
theorem dX6_readAtom_91 : decode cX6_readAtom 91 = .ok (.aload_n 0, 1) := by decide +kernel
theorem dX6_readAtom_92 : decode cX6_readAtom 92 = .ok (.iconst 1, 1) := by decide +kernel
theorem dX6_readAtom_93 : decode cX6_readAtom 93 = .ok (.aload_n 0, 1) := by decide +kernel
theorem dX6_readAtom_94 : decode cX6_readAtom 94 = .ok (.getfield 43, 3) := by decide +kernel
theorem dX6_readAtom_97 : decode cX6_readAtom 97 = .ok (.aload_n 0, 1) := by decide +kernel
theorem dX6_readAtom_98 : decode cX6_readAtom 98 = .ok (.getfield 67, 3) := by decide +kernel
theorem dX6_readAtom_101 : decode cX6_readAtom 101 = .ok (.isub, 1) := by decide +kernel
theorem dX6_readAtom_102 : decode cX6_readAtom 102 = .ok (.invokevirtual 60, 3) := by decide +kernel
theorem dX6_readAtom_105 : decode cX6_readAtom 105 = .ok (.aload_n 0, 1) := by decide +kernel
theorem dX6_readAtom_106 : decode cX6_readAtom 106 = .ok (.invokevirtual 53, 3) := by decide +kernel
theorem dX6_readAtom_109 : decode cX6_readAtom 109 = .ok (.iconst 1, 1) := by decide +kernel
theorem dX6_readAtom_110 : decode cX6_readAtom 110 = .ok (.ireturn, 1) := by decide +kernel
theorem dX6_readAtom_111 : decode cX6_readAtom 111 = .ok (.aload_n 0, 1) := by decide +kernel
theorem dX6_readAtom_112 : decode cX6_readAtom 112 = .ok (.getfield 67, 3) := by decide +kernel
theorem dX6_readAtom_115 : decode cX6_readAtom 115 = .ok (.sipush 1018, 3) := by decide +kernel
theorem dX6_readAtom_118 : decode cX6_readAtom 118 = .ok (.if_icmp .ne 18, 3) := by decide +kernel
theorem dX6_readAtom_121 : decode cX6_readAtom 121 = .ok (.aload_n 0, 1) := by decide +kernel
theorem dX6_readAtom_122 : decode cX6_readAtom 122 = .ok (.getfield 43, 3) := by decide +kernel
theorem dX6_readAtom_125 : decode cX6_readAtom 125 = .ok (.sipush 1025, 3) := by decide +kernel
theorem dX6_readAtom_128 : decode cX6_readAtom 128 = .ok (.if_icmp .ne 8, 3) := by decide +kernel
theorem dX6_readAtom_131 : decode cX6_readAtom 131 = .ok (.aload_n 0, 1) := by decide +kernel
theorem dX6_readAtom_132 : decode cX6_readAtom 132 = .ok (.invokevirtual 82, 3) := by decide +kernel
theorem dX6_readAtom_135 : decode cX6_readAtom 135 = .ok (.ireturn, 1) := by decide +kernel
theorem dX6_readAtom_136 : decode cX6_readAtom 136 = .ok (.aload_n 0, 1) := by decide +kernel
theorem dX6_readAtom_137 : decode cX6_readAtom 137 = .ok (.invokevirtual 85, 3) := by decide +kernel
theorem dX6_readAtom_140 : decode cX6_readAtom 140 = .ok (.ireturn, 1) := by decide +kernel
def w_X6_readAtom_136 (r_X6_readAny : Nat → Int32 → AH → (Int32 → AH → Prop) → Prop) (r_X6_readAtom : Nat → Int32 → AH → (Int32 → AH → Prop) → Prop) (r_X6_readInner : Nat → Int32 → AH → (Int32 → AH → Prop) → Prop) (r_X6_readNot : Nat → Int32 → AH → (Int32 → AH → Prop) → Prop) (v0 : Nat) (h : AH) (Q : Int32 → AH → Prop) : Prop :=
  vr h v0 6 (
  w_X6_readComparison v0 h (fun x1 h =>
  z1 x1 (Q x1 h)))
def w_X6_readAtom_111 (r_X6_readAny : Nat → Int32 → AH → (Int32 → AH → Prop) → Prop) (r_X6_readAtom : Nat → Int32 → AH → (Int32 → AH → Prop) → Prop) (r_X6_readInner : Nat → Int32 → AH → (Int32 → AH → Prop) → Prop) (r_X6_readNot : Nat → Int32 → AH → (Int32 → AH → Prop) → Prop) (v0 : Nat) (h : AH) (Q : Int32 → AH → Prop) : Prop :=
  fI h v0 6 7 fun x1 =>
  br (x1 = (1018 : Int32)) (
    fI h v0 6 6 fun x2 =>
    br (x2 = (1025 : Int32)) (
      vr h v0 6 (
      w_X6_readHeld v0 h (fun x3 h =>
      z1 x3 (Q x3 h)))) (
      w_X6_readAtom_136 r_X6_readAny r_X6_readAtom r_X6_readInner r_X6_readNot v0 h Q)) (
    w_X6_readAtom_136 r_X6_readAny r_X6_readAtom r_X6_readInner r_X6_readNot v0 h Q)
def w_X6_readAtom_91 (r_X6_readAny : Nat → Int32 → AH → (Int32 → AH → Prop) → Prop) (r_X6_readAtom : Nat → Int32 → AH → (Int32 → AH → Prop) → Prop) (r_X6_readInner : Nat → Int32 → AH → (Int32 → AH → Prop) → Prop) (r_X6_readNot : Nat → Int32 → AH → (Int32 → AH → Prop) → Prop) (v0 : Nat) (h : AH) (Q : Int32 → AH → Prop) : Prop :=
  fI h v0 6 6 fun x1 =>
  fI h v0 6 7 fun x2 =>
  vr h v0 6 (
  w_X6_addStep v0 (1 : Int32) (x1 - x2) h (fun h =>
  vr h v0 6 (
  w_X6_goOn v0 h (fun h =>
  Q (1 : Int32) h))))
def w_X6_readAtom_60 (r_X6_readAny : Nat → Int32 → AH → (Int32 → AH → Prop) → Prop) (r_X6_readAtom : Nat → Int32 → AH → (Int32 → AH → Prop) → Prop) (r_X6_readInner : Nat → Int32 → AH → (Int32 → AH → Prop) → Prop) (r_X6_readNot : Nat → Int32 → AH → (Int32 → AH → Prop) → Prop) (t0 : Int32) (h : AH) (Q : Int32 → AH → Prop) : Prop :=
  z1 t0 (Q t0 h)
def w_X6_readAtom_30 (r_X6_readAny : Nat → Int32 → AH → (Int32 → AH → Prop) → Prop) (r_X6_readAtom : Nat → Int32 → AH → (Int32 → AH → Prop) → Prop) (r_X6_readInner : Nat → Int32 → AH → (Int32 → AH → Prop) → Prop) (r_X6_readNot : Nat → Int32 → AH → (Int32 → AH → Prop) → Prop) (t0 : Int32) (h : AH) (Q : Int32 → AH → Prop) : Prop :=
  z1 t0 (Q t0 h)
def g_X6_readAtom (r_X6_readAny : Nat → Int32 → AH → (Int32 → AH → Prop) → Prop) (r_X6_readAtom : Nat → Int32 → AH → (Int32 → AH → Prop) → Prop) (r_X6_readInner : Nat → Int32 → AH → (Int32 → AH → Prop) → Prop) (r_X6_readNot : Nat → Int32 → AH → (Int32 → AH → Prop) → Prop) (v0 : Nat) (v1 : Int32) (h : AH) (Q : Int32 → AH → Prop) : Prop :=
  fI h v0 6 6 fun x1 =>
  br (x1 = (1008 : Int32)) (
    br ((6 : Int32) ≤ v1) (
      vr h v0 6 (
      w_X6_refuse v0 h (fun x8 h =>
      w_X6_readAtom_30 r_X6_readAny r_X6_readAtom r_X6_readInner r_X6_readNot x8 h Q))) (
      vr h v0 6 (
      r_X6_readNot v0 (v1 + (1 : Int32)) h (fun x9 h =>
      w_X6_readAtom_30 r_X6_readAny r_X6_readAtom r_X6_readInner r_X6_readNot x9 h Q)))) (
    fI h v0 6 6 fun x2 =>
    br (x2 = (40 : Int32)) (
      br ((6 : Int32) ≤ v1) (
        vr h v0 6 (
        w_X6_refuse v0 h (fun x6 h =>
        w_X6_readAtom_60 r_X6_readAny r_X6_readAtom r_X6_readInner r_X6_readNot x6 h Q))) (
        vr h v0 6 (
        r_X6_readInner v0 (v1 + (1 : Int32)) h (fun x7 h =>
        w_X6_readAtom_60 r_X6_readAny r_X6_readAtom r_X6_readInner r_X6_readNot x7 h Q)))) (
      fI h v0 6 7 fun x3 =>
      br (x3 = (1009 : Int32)) (
        fI h v0 6 6 fun x4 =>
        br (x4 = (1016 : Int32)) (
          w_X6_readAtom_91 r_X6_readAny r_X6_readAtom r_X6_readInner r_X6_readNot v0 h Q) (
          fI h v0 6 6 fun x5 =>
          br (x5 = (1017 : Int32)) (
            w_X6_readAtom_91 r_X6_readAny r_X6_readAtom r_X6_readInner r_X6_readNot v0 h Q) (
            w_X6_readAtom_111 r_X6_readAny r_X6_readAtom r_X6_readInner r_X6_readNot v0 h Q))) (
        w_X6_readAtom_111 r_X6_readAny r_X6_readAtom r_X6_readInner r_X6_readNot v0 h Q)))
set_option maxRecDepth 100000 in
set_option maxHeartbeats 4000000 in
theorem s_X6_readAtom_136 {p : Program} {l : Launch} {e : Env} {s : State} {m : MethodId} {args : Array Value} {below : List Frame} {meth : Method} {c : Code} {g : GG} {d9 dr : Nat} {r_X6_readAny : Nat → Int32 → AH → (Int32 → AH → Prop) → Prop} {r_X6_readAtom : Nat → Int32 → AH → (Int32 → AH → Prop) → Prop} {r_X6_readInner : Nat → Int32 → AH → (Int32 → AH → Prop) → Prop} {r_X6_readNot : Nat → Int32 → AH → (Int32 → AH → Prop) → Prop}  {Q : Int32 → AH → Prop}  (C : CXT p l s m args meth c RX6 cX6_readAtom 2 g) (hr : meth.sig.returnType = (some .boolean)) (hdr : dr + 1 ≤ d9) (hdc : 4 ≤ d9) (h_X6_readAny : ∀ (a0 : Nat) (a1 : Int32) (h : AH) (Q : Int32 → AH → Prop), r_X6_readAny a0 a1 h Q → CT l yX6_readAny cX6_readAny 5 (some .boolean) dr 0 0 [.ref a0, .int a1] h (QI Q)) (h_X6_readAtom : ∀ (a0 : Nat) (a1 : Int32) (h : AH) (Q : Int32 → AH → Prop), r_X6_readAtom a0 a1 h Q → CT l yX6_readAtom cX6_readAtom 2 (some .boolean) dr 0 0 [.ref a0, .int a1] h (QI Q)) (h_X6_readInner : ∀ (a0 : Nat) (a1 : Int32) (h : AH) (Q : Int32 → AH → Prop), r_X6_readInner a0 a1 h Q → CT l yX6_readInner cX6_readInner 2 (some .boolean) dr 0 0 [.ref a0, .int a1] h (QI Q)) (h_X6_readNot : ∀ (a0 : Nat) (a1 : Int32) (h : AH) (Q : Int32 → AH → Prop), r_X6_readNot a0 a1 h Q → CT l yX6_readNot cX6_readNot 2 (some .boolean) dr 0 0 [.ref a0, .int a1] h (QI Q))  : ∀ (v0 : Nat) (h : AH), w_X6_readAtom_136 r_X6_readAny r_X6_readAtom r_X6_readInner r_X6_readNot v0 h Q → V p l e s m args below meth c g d9 0 0 2 0 0 (MQ below (QCx g (QI Q)) args s 0 0 (gA g)) 136 [(0, .ref v0)] [] h := by
  intro v0 h hw
  refine v_aload_n C dX6_readAtom_136 0 rfl rfl ?_
  refine w_callVi (st := []) C cl_X6_85 im_X6_readComparison se_X6_readComparison rfl hw.1 (s_X6_readComparison hw.2) rfl dX6_readAtom_137 rfl (by decide) (by omega) (by decide) (by decide) (by decide) (fun x1 h hw => ?_)
  exact (rt_MQ C _).2.1 _ _ _ _ _ _ _ hr (by rcases hw.1 with z | z <;> rw [z] <;> rfl) dX6_readAtom_140 (by decide) (by decide) ⟨_, rfl, hw.2⟩
set_option maxRecDepth 100000 in
set_option maxHeartbeats 4000000 in
theorem s_X6_readAtom_111 {p : Program} {l : Launch} {e : Env} {s : State} {m : MethodId} {args : Array Value} {below : List Frame} {meth : Method} {c : Code} {g : GG} {d9 dr : Nat} {r_X6_readAny : Nat → Int32 → AH → (Int32 → AH → Prop) → Prop} {r_X6_readAtom : Nat → Int32 → AH → (Int32 → AH → Prop) → Prop} {r_X6_readInner : Nat → Int32 → AH → (Int32 → AH → Prop) → Prop} {r_X6_readNot : Nat → Int32 → AH → (Int32 → AH → Prop) → Prop}  {Q : Int32 → AH → Prop}  (C : CXT p l s m args meth c RX6 cX6_readAtom 2 g) (hr : meth.sig.returnType = (some .boolean)) (hdr : dr + 1 ≤ d9) (hdc : 4 ≤ d9) (h_X6_readAny : ∀ (a0 : Nat) (a1 : Int32) (h : AH) (Q : Int32 → AH → Prop), r_X6_readAny a0 a1 h Q → CT l yX6_readAny cX6_readAny 5 (some .boolean) dr 0 0 [.ref a0, .int a1] h (QI Q)) (h_X6_readAtom : ∀ (a0 : Nat) (a1 : Int32) (h : AH) (Q : Int32 → AH → Prop), r_X6_readAtom a0 a1 h Q → CT l yX6_readAtom cX6_readAtom 2 (some .boolean) dr 0 0 [.ref a0, .int a1] h (QI Q)) (h_X6_readInner : ∀ (a0 : Nat) (a1 : Int32) (h : AH) (Q : Int32 → AH → Prop), r_X6_readInner a0 a1 h Q → CT l yX6_readInner cX6_readInner 2 (some .boolean) dr 0 0 [.ref a0, .int a1] h (QI Q)) (h_X6_readNot : ∀ (a0 : Nat) (a1 : Int32) (h : AH) (Q : Int32 → AH → Prop), r_X6_readNot a0 a1 h Q → CT l yX6_readNot cX6_readNot 2 (some .boolean) dr 0 0 [.ref a0, .int a1] h (QI Q))  : ∀ (v0 : Nat) (h : AH), w_X6_readAtom_111 r_X6_readAny r_X6_readAtom r_X6_readInner r_X6_readNot v0 h Q → V p l e s m args below meth c g d9 0 0 2 0 0 (MQ below (QCx g (QI Q)) args s 0 0 (gA g)) 111 [(0, .ref v0)] [] h := by
  intro v0 h hw
  refine v_aload_n C dX6_readAtom_111 0 rfl rfl ?_
  refine w_getI C fl_X6_67 dX6_readAtom_112 rfl hw (fun x1 hw => ?_)
  refine v_sipush (v := 1018) C dX6_readAtom_115 (by decide) ?_
  refine v_icmp_ne (tgt := 136) C dX6_readAtom_118 (by decide) (fun c_118 => ?_) (fun c_118 => ?_)
  · have hw := hw.2 c_118
    exact s_X6_readAtom_136 C hr hdr hdc h_X6_readAny h_X6_readAtom h_X6_readInner h_X6_readNot  _ _ hw
  · have hw := hw.1 c_118
    refine v_aload_n C dX6_readAtom_121 0 rfl rfl ?_
    refine w_getI C fl_X6_43 dX6_readAtom_122 rfl hw (fun x2 hw => ?_)
    refine v_sipush (v := 1025) C dX6_readAtom_125 (by decide) ?_
    refine v_icmp_ne (tgt := 136) C dX6_readAtom_128 (by decide) (fun c_128 => ?_) (fun c_128 => ?_)
    · have hw := hw.2 c_128
      exact s_X6_readAtom_136 C hr hdr hdc h_X6_readAny h_X6_readAtom h_X6_readInner h_X6_readNot  _ _ hw
    · have hw := hw.1 c_128
      refine v_aload_n C dX6_readAtom_131 0 rfl rfl ?_
      refine w_callVi (st := []) C cl_X6_82 im_X6_readHeld se_X6_readHeld rfl hw.1 (s_X6_readHeld hw.2) rfl dX6_readAtom_132 rfl (by decide) (by omega) (by decide) (by decide) (by decide) (fun x3 h hw => ?_)
      exact (rt_MQ C _).2.1 _ _ _ _ _ _ _ hr (by rcases hw.1 with z | z <;> rw [z] <;> rfl) dX6_readAtom_135 (by decide) (by decide) ⟨_, rfl, hw.2⟩
set_option maxRecDepth 100000 in
set_option maxHeartbeats 4000000 in
theorem s_X6_readAtom_91 {p : Program} {l : Launch} {e : Env} {s : State} {m : MethodId} {args : Array Value} {below : List Frame} {meth : Method} {c : Code} {g : GG} {d9 dr : Nat} {r_X6_readAny : Nat → Int32 → AH → (Int32 → AH → Prop) → Prop} {r_X6_readAtom : Nat → Int32 → AH → (Int32 → AH → Prop) → Prop} {r_X6_readInner : Nat → Int32 → AH → (Int32 → AH → Prop) → Prop} {r_X6_readNot : Nat → Int32 → AH → (Int32 → AH → Prop) → Prop}  {Q : Int32 → AH → Prop}  (C : CXT p l s m args meth c RX6 cX6_readAtom 2 g) (hr : meth.sig.returnType = (some .boolean)) (hdr : dr + 1 ≤ d9) (hdc : 4 ≤ d9) (h_X6_readAny : ∀ (a0 : Nat) (a1 : Int32) (h : AH) (Q : Int32 → AH → Prop), r_X6_readAny a0 a1 h Q → CT l yX6_readAny cX6_readAny 5 (some .boolean) dr 0 0 [.ref a0, .int a1] h (QI Q)) (h_X6_readAtom : ∀ (a0 : Nat) (a1 : Int32) (h : AH) (Q : Int32 → AH → Prop), r_X6_readAtom a0 a1 h Q → CT l yX6_readAtom cX6_readAtom 2 (some .boolean) dr 0 0 [.ref a0, .int a1] h (QI Q)) (h_X6_readInner : ∀ (a0 : Nat) (a1 : Int32) (h : AH) (Q : Int32 → AH → Prop), r_X6_readInner a0 a1 h Q → CT l yX6_readInner cX6_readInner 2 (some .boolean) dr 0 0 [.ref a0, .int a1] h (QI Q)) (h_X6_readNot : ∀ (a0 : Nat) (a1 : Int32) (h : AH) (Q : Int32 → AH → Prop), r_X6_readNot a0 a1 h Q → CT l yX6_readNot cX6_readNot 2 (some .boolean) dr 0 0 [.ref a0, .int a1] h (QI Q))  : ∀ (v0 : Nat) (h : AH), w_X6_readAtom_91 r_X6_readAny r_X6_readAtom r_X6_readInner r_X6_readNot v0 h Q → V p l e s m args below meth c g d9 0 0 2 0 0 (MQ below (QCx g (QI Q)) args s 0 0 (gA g)) 91 [(0, .ref v0)] [] h := by
  intro v0 h hw
  refine v_aload_n C dX6_readAtom_91 0 rfl rfl ?_
  refine v_iconst (v := 1) C dX6_readAtom_92 (by decide) ?_
  refine v_aload_n C dX6_readAtom_93 0 rfl rfl ?_
  refine w_getI C fl_X6_43 dX6_readAtom_94 rfl hw (fun x1 hw => ?_)
  refine v_aload_n C dX6_readAtom_97 0 rfl rfl ?_
  refine w_getI C fl_X6_67 dX6_readAtom_98 rfl hw (fun x2 hw => ?_)
  refine v_isub C dX6_readAtom_101 ?_
  refine w_callVv (st := []) C cl_X6_60 im_X6_addStep se_X6_addStep rfl hw.1 (s_X6_addStep hw.2) rfl dX6_readAtom_102 rfl (by decide) (by omega) (by decide) (by decide) (by decide) (fun h hw => ?_)
  refine v_aload_n C dX6_readAtom_105 0 rfl rfl ?_
  refine w_callVv (st := []) C cl_X6_53 im_X6_goOn se_X6_goOn rfl hw.1 (s_X6_goOn hw.2) rfl dX6_readAtom_106 rfl (by decide) (by omega) (by decide) (by decide) (by decide) (fun h hw => ?_)
  refine v_iconst (v := 1) C dX6_readAtom_109 (by decide) ?_
  exact (rt_MQ C _).2.1 _ _ _ _ _ _ _ hr rfl dX6_readAtom_110 (by decide) (by decide) ⟨_, rfl, hw⟩
set_option maxRecDepth 100000 in
set_option maxHeartbeats 4000000 in
theorem s_X6_readAtom_60 {p : Program} {l : Launch} {e : Env} {s : State} {m : MethodId} {args : Array Value} {below : List Frame} {meth : Method} {c : Code} {g : GG} {d9 dr : Nat} {r_X6_readAny : Nat → Int32 → AH → (Int32 → AH → Prop) → Prop} {r_X6_readAtom : Nat → Int32 → AH → (Int32 → AH → Prop) → Prop} {r_X6_readInner : Nat → Int32 → AH → (Int32 → AH → Prop) → Prop} {r_X6_readNot : Nat → Int32 → AH → (Int32 → AH → Prop) → Prop}  {Q : Int32 → AH → Prop}  (C : CXT p l s m args meth c RX6 cX6_readAtom 2 g) (hr : meth.sig.returnType = (some .boolean)) (hdr : dr + 1 ≤ d9) (hdc : 4 ≤ d9) (h_X6_readAny : ∀ (a0 : Nat) (a1 : Int32) (h : AH) (Q : Int32 → AH → Prop), r_X6_readAny a0 a1 h Q → CT l yX6_readAny cX6_readAny 5 (some .boolean) dr 0 0 [.ref a0, .int a1] h (QI Q)) (h_X6_readAtom : ∀ (a0 : Nat) (a1 : Int32) (h : AH) (Q : Int32 → AH → Prop), r_X6_readAtom a0 a1 h Q → CT l yX6_readAtom cX6_readAtom 2 (some .boolean) dr 0 0 [.ref a0, .int a1] h (QI Q)) (h_X6_readInner : ∀ (a0 : Nat) (a1 : Int32) (h : AH) (Q : Int32 → AH → Prop), r_X6_readInner a0 a1 h Q → CT l yX6_readInner cX6_readInner 2 (some .boolean) dr 0 0 [.ref a0, .int a1] h (QI Q)) (h_X6_readNot : ∀ (a0 : Nat) (a1 : Int32) (h : AH) (Q : Int32 → AH → Prop), r_X6_readNot a0 a1 h Q → CT l yX6_readNot cX6_readNot 2 (some .boolean) dr 0 0 [.ref a0, .int a1] h (QI Q))  : ∀ (t0 : Int32) (h : AH), w_X6_readAtom_60 r_X6_readAny r_X6_readAtom r_X6_readInner r_X6_readNot t0 h Q → V p l e s m args below meth c g d9 0 0 2 0 0 (MQ below (QCx g (QI Q)) args s 0 0 (gA g)) 60 [] [.int t0] h := by
  intro t0 h hw
  exact (rt_MQ C _).2.1 _ _ _ _ _ _ _ hr (by rcases hw.1 with z | z <;> rw [z] <;> rfl) dX6_readAtom_60 (by decide) (by decide) ⟨_, rfl, hw.2⟩
set_option maxRecDepth 100000 in
set_option maxHeartbeats 4000000 in
theorem s_X6_readAtom_30 {p : Program} {l : Launch} {e : Env} {s : State} {m : MethodId} {args : Array Value} {below : List Frame} {meth : Method} {c : Code} {g : GG} {d9 dr : Nat} {r_X6_readAny : Nat → Int32 → AH → (Int32 → AH → Prop) → Prop} {r_X6_readAtom : Nat → Int32 → AH → (Int32 → AH → Prop) → Prop} {r_X6_readInner : Nat → Int32 → AH → (Int32 → AH → Prop) → Prop} {r_X6_readNot : Nat → Int32 → AH → (Int32 → AH → Prop) → Prop}  {Q : Int32 → AH → Prop}  (C : CXT p l s m args meth c RX6 cX6_readAtom 2 g) (hr : meth.sig.returnType = (some .boolean)) (hdr : dr + 1 ≤ d9) (hdc : 4 ≤ d9) (h_X6_readAny : ∀ (a0 : Nat) (a1 : Int32) (h : AH) (Q : Int32 → AH → Prop), r_X6_readAny a0 a1 h Q → CT l yX6_readAny cX6_readAny 5 (some .boolean) dr 0 0 [.ref a0, .int a1] h (QI Q)) (h_X6_readAtom : ∀ (a0 : Nat) (a1 : Int32) (h : AH) (Q : Int32 → AH → Prop), r_X6_readAtom a0 a1 h Q → CT l yX6_readAtom cX6_readAtom 2 (some .boolean) dr 0 0 [.ref a0, .int a1] h (QI Q)) (h_X6_readInner : ∀ (a0 : Nat) (a1 : Int32) (h : AH) (Q : Int32 → AH → Prop), r_X6_readInner a0 a1 h Q → CT l yX6_readInner cX6_readInner 2 (some .boolean) dr 0 0 [.ref a0, .int a1] h (QI Q)) (h_X6_readNot : ∀ (a0 : Nat) (a1 : Int32) (h : AH) (Q : Int32 → AH → Prop), r_X6_readNot a0 a1 h Q → CT l yX6_readNot cX6_readNot 2 (some .boolean) dr 0 0 [.ref a0, .int a1] h (QI Q))  : ∀ (t0 : Int32) (h : AH), w_X6_readAtom_30 r_X6_readAny r_X6_readAtom r_X6_readInner r_X6_readNot t0 h Q → V p l e s m args below meth c g d9 0 0 2 0 0 (MQ below (QCx g (QI Q)) args s 0 0 (gA g)) 30 [] [.int t0] h := by
  intro t0 h hw
  exact (rt_MQ C _).2.1 _ _ _ _ _ _ _ hr (by rcases hw.1 with z | z <;> rw [z] <;> rfl) dX6_readAtom_30 (by decide) (by decide) ⟨_, rfl, hw.2⟩
set_option maxRecDepth 100000 in
set_option maxHeartbeats 4000000 in
theorem t_X6_readAtom {l : Launch} {d9 dr : Nat} {r_X6_readAny : Nat → Int32 → AH → (Int32 → AH → Prop) → Prop} {r_X6_readAtom : Nat → Int32 → AH → (Int32 → AH → Prop) → Prop} {r_X6_readInner : Nat → Int32 → AH → (Int32 → AH → Prop) → Prop} {r_X6_readNot : Nat → Int32 → AH → (Int32 → AH → Prop) → Prop} {v0 : Nat} {v1 : Int32} {h : AH} {Q : Int32 → AH → Prop} (hdr : dr + 1 ≤ d9) (hdc : 4 ≤ d9) (h_X6_readAny : ∀ (a0 : Nat) (a1 : Int32) (h : AH) (Q : Int32 → AH → Prop), r_X6_readAny a0 a1 h Q → CT l yX6_readAny cX6_readAny 5 (some .boolean) dr 0 0 [.ref a0, .int a1] h (QI Q)) (h_X6_readAtom : ∀ (a0 : Nat) (a1 : Int32) (h : AH) (Q : Int32 → AH → Prop), r_X6_readAtom a0 a1 h Q → CT l yX6_readAtom cX6_readAtom 2 (some .boolean) dr 0 0 [.ref a0, .int a1] h (QI Q)) (h_X6_readInner : ∀ (a0 : Nat) (a1 : Int32) (h : AH) (Q : Int32 → AH → Prop), r_X6_readInner a0 a1 h Q → CT l yX6_readInner cX6_readInner 2 (some .boolean) dr 0 0 [.ref a0, .int a1] h (QI Q)) (h_X6_readNot : ∀ (a0 : Nat) (a1 : Int32) (h : AH) (Q : Int32 → AH → Prop), r_X6_readNot a0 a1 h Q → CT l yX6_readNot cX6_readNot 2 (some .boolean) dr 0 0 [.ref a0, .int a1] h (QI Q)) (hw : g_X6_readAtom r_X6_readAny r_X6_readAtom r_X6_readInner r_X6_readNot v0 v1 h Q) : CT l yX6_readAtom cX6_readAtom 2 (some .boolean) d9 0 0 [.ref v0, .int v1] h (QI Q) := by
  refine CT.of (by decide) ⟨rfl, ⟨rfl, trivial⟩⟩ (Nat.le_of_ble_eq_true rfl) ?_
  intro p e s m args below meth c g C hr hin
  refine v_eq (pc' := 0) (ls' := [(0, .ref v0), (1, .int v1)]) rfl rfl rfl rfl ?_
  refine v_aload_n C dX6_readAtom_0 0 rfl rfl ?_
  refine w_getI C fl_X6_43 dX6_readAtom_1 rfl hw (fun x1 hw => ?_)
  refine v_sipush (v := 1008) C dX6_readAtom_4 (by decide) ?_
  refine v_icmp_ne (tgt := 31) C dX6_readAtom_7 (by decide) (fun c_7 => ?_) (fun c_7 => ?_)
  · have hw := hw.2 c_7
    refine v_aload_n C dX6_readAtom_31 0 rfl rfl ?_
    refine w_getI C fl_X6_43 dX6_readAtom_32 rfl hw (fun x2 hw => ?_)
    refine v_bipush (v := 40) C dX6_readAtom_35 (by decide) ?_
    refine v_icmp_ne (tgt := 61) C dX6_readAtom_37 (by decide) (fun c_37 => ?_) (fun c_37 => ?_)
    · have hw := hw.2 c_37
      refine v_aload_n C dX6_readAtom_61 0 rfl rfl ?_
      refine w_getI C fl_X6_67 dX6_readAtom_62 rfl hw (fun x3 hw => ?_)
      refine v_sipush (v := 1009) C dX6_readAtom_65 (by decide) ?_
      refine v_icmp_ne (tgt := 111) C dX6_readAtom_68 (by decide) (fun c_68 => ?_) (fun c_68 => ?_)
      · have hw := hw.2 c_68
        refine v_sub [0] rfl ?_
        exact s_X6_readAtom_111 C hr hdr hdc h_X6_readAny h_X6_readAtom h_X6_readInner h_X6_readNot  _ _ hw
      · have hw := hw.1 c_68
        refine v_aload_n C dX6_readAtom_71 0 rfl rfl ?_
        refine w_getI C fl_X6_43 dX6_readAtom_72 rfl hw (fun x4 hw => ?_)
        refine v_sipush (v := 1016) C dX6_readAtom_75 (by decide) ?_
        refine v_icmp_eq (tgt := 91) C dX6_readAtom_78 (by decide) (fun c_78 => ?_) (fun c_78 => ?_)
        · have hw := hw.1 c_78
          refine v_sub [0] rfl ?_
          exact s_X6_readAtom_91 C hr hdr hdc h_X6_readAny h_X6_readAtom h_X6_readInner h_X6_readNot  _ _ hw
        · have hw := hw.2 c_78
          refine v_aload_n C dX6_readAtom_81 0 rfl rfl ?_
          refine w_getI C fl_X6_43 dX6_readAtom_82 rfl hw (fun x5 hw => ?_)
          refine v_sipush (v := 1017) C dX6_readAtom_85 (by decide) ?_
          refine v_icmp_ne (tgt := 111) C dX6_readAtom_88 (by decide) (fun c_88 => ?_) (fun c_88 => ?_)
          · have hw := hw.2 c_88
            refine v_sub [0] rfl ?_
            exact s_X6_readAtom_111 C hr hdr hdc h_X6_readAny h_X6_readAtom h_X6_readInner h_X6_readNot  _ _ hw
          · have hw := hw.1 c_88
            refine v_sub [0] rfl ?_
            exact s_X6_readAtom_91 C hr hdr hdc h_X6_readAny h_X6_readAtom h_X6_readInner h_X6_readNot  _ _ hw
    · have hw := hw.1 c_37
      refine v_iload_n C dX6_readAtom_40 1 rfl rfl ?_
      refine v_bipush (v := 6) C dX6_readAtom_41 (by decide) ?_
      refine v_icmp_ge (tgt := 56) C dX6_readAtom_43 (by decide) (fun c_43 => ?_) (fun c_43 => ?_)
      · have hw := hw.1 c_43
        refine v_aload_n C dX6_readAtom_56 0 rfl rfl ?_
        refine w_callVi (st := []) C cl_X6_50 im_X6_refuse se_X6_refuse rfl hw.1 (s_X6_refuse hw.2) rfl dX6_readAtom_57 rfl (by decide) (by omega) (by decide) (by decide) (by decide) (fun x6 h hw => ?_)
        refine v_sub [] rfl ?_
        exact s_X6_readAtom_60 C hr hdr hdc h_X6_readAny h_X6_readAtom h_X6_readInner h_X6_readNot  _ _ hw
      · have hw := hw.2 c_43
        refine v_aload_n C dX6_readAtom_46 0 rfl rfl ?_
        refine v_iload_n C dX6_readAtom_47 1 rfl rfl ?_
        refine v_iconst (v := 1) C dX6_readAtom_48 (by decide) ?_
        refine v_iadd C dX6_readAtom_49 ?_
        refine w_callVi (st := []) C cl_X6_79 im_X6_readInner se_X6_readInner rfl hw.1 (h_X6_readInner _ _ _ _ hw.2) rfl dX6_readAtom_50 rfl (by decide) (by omega) (by decide) (by decide) (by decide) (fun x7 h hw => ?_)
        refine v_goto (tgt := 60) C dX6_readAtom_53 (by decide) ?_
        refine v_sub [] rfl ?_
        exact s_X6_readAtom_60 C hr hdr hdc h_X6_readAny h_X6_readAtom h_X6_readInner h_X6_readNot  _ _ hw
  · have hw := hw.1 c_7
    refine v_iload_n C dX6_readAtom_10 1 rfl rfl ?_
    refine v_bipush (v := 6) C dX6_readAtom_11 (by decide) ?_
    refine v_icmp_ge (tgt := 26) C dX6_readAtom_13 (by decide) (fun c_13 => ?_) (fun c_13 => ?_)
    · have hw := hw.1 c_13
      refine v_aload_n C dX6_readAtom_26 0 rfl rfl ?_
      refine w_callVi (st := []) C cl_X6_50 im_X6_refuse se_X6_refuse rfl hw.1 (s_X6_refuse hw.2) rfl dX6_readAtom_27 rfl (by decide) (by omega) (by decide) (by decide) (by decide) (fun x8 h hw => ?_)
      refine v_sub [] rfl ?_
      exact s_X6_readAtom_30 C hr hdr hdc h_X6_readAny h_X6_readAtom h_X6_readInner h_X6_readNot  _ _ hw
    · have hw := hw.2 c_13
      refine v_aload_n C dX6_readAtom_16 0 rfl rfl ?_
      refine v_iload_n C dX6_readAtom_17 1 rfl rfl ?_
      refine v_iconst (v := 1) C dX6_readAtom_18 (by decide) ?_
      refine v_iadd C dX6_readAtom_19 ?_
      refine w_callVi (st := []) C cl_X6_76 im_X6_readNot se_X6_readNot rfl hw.1 (h_X6_readNot _ _ _ _ hw.2) rfl dX6_readAtom_20 rfl (by decide) (by omega) (by decide) (by decide) (by decide) (fun x9 h hw => ?_)
      refine v_goto (tgt := 30) C dX6_readAtom_23 (by decide) ?_
      refine v_sub [] rfl ?_
      exact s_X6_readAtom_30 C hr hdr hdc h_X6_readAny h_X6_readAtom h_X6_readInner h_X6_readNot  _ _ hw
-- GrassField$Reader.readInner(I)Z
theorem dX6_readInner_0 : decode cX6_readInner 0 = .ok (.aload_n 0, 1) := by decide +kernel
theorem dX6_readInner_1 : decode cX6_readInner 1 = .ok (.invokevirtual 53, 3) := by decide +kernel
theorem dX6_readInner_4 : decode cX6_readInner 4 = .ok (.aload_n 0, 1) := by decide +kernel
theorem dX6_readInner_5 : decode cX6_readInner 5 = .ok (.iload_n 1, 1) := by decide +kernel
theorem dX6_readInner_6 : decode cX6_readInner 6 = .ok (.invokevirtual 56, 3) := by decide +kernel
theorem dX6_readInner_9 : decode cX6_readInner 9 = .ok (.ifCond .ne 5, 3) := by decide +kernel
theorem dX6_readInner_12 : decode cX6_readInner 12 = .ok (.iconst 0, 1) := by decide +kernel
theorem dX6_readInner_13 : decode cX6_readInner 13 = .ok (.ireturn, 1) := by decide +kernel
theorem dX6_readInner_14 : decode cX6_readInner 14 = .ok (.aload_n 0, 1) := by decide +kernel
theorem dX6_readInner_15 : decode cX6_readInner 15 = .ok (.getfield 43, 3) := by decide +kernel
theorem dX6_readInner_18 : decode cX6_readInner 18 = .ok (.bipush 41, 2) := by decide +kernel
theorem dX6_readInner_20 : decode cX6_readInner 20 = .ok (.if_icmp .eq 8, 3) := by decide +kernel
theorem dX6_readInner_23 : decode cX6_readInner 23 = .ok (.aload_n 0, 1) := by decide +kernel
theorem dX6_readInner_24 : decode cX6_readInner 24 = .ok (.invokevirtual 50, 3) := by decide +kernel
theorem dX6_readInner_27 : decode cX6_readInner 27 = .ok (.ireturn, 1) := by decide +kernel
theorem dX6_readInner_28 : decode cX6_readInner 28 = .ok (.aload_n 0, 1) := by decide +kernel
theorem dX6_readInner_29 : decode cX6_readInner 29 = .ok (.invokevirtual 53, 3) := by decide +kernel
theorem dX6_readInner_32 : decode cX6_readInner 32 = .ok (.iconst 1, 1) := by decide +kernel
theorem dX6_readInner_33 : decode cX6_readInner 33 = .ok (.ireturn, 1) := by decide +kernel
def g_X6_readInner (r_X6_readAny : Nat → Int32 → AH → (Int32 → AH → Prop) → Prop) (r_X6_readAtom : Nat → Int32 → AH → (Int32 → AH → Prop) → Prop) (r_X6_readInner : Nat → Int32 → AH → (Int32 → AH → Prop) → Prop) (r_X6_readNot : Nat → Int32 → AH → (Int32 → AH → Prop) → Prop) (v0 : Nat) (v1 : Int32) (h : AH) (Q : Int32 → AH → Prop) : Prop :=
  vr h v0 6 (
  w_X6_goOn v0 h (fun h =>
  vr h v0 6 (
  r_X6_readAny v0 v1 h (fun x1 h =>
  br (x1 = 0) (
    Q (0 : Int32) h) (
    fI h v0 6 6 fun x2 =>
    br (x2 = (41 : Int32)) (
      vr h v0 6 (
      w_X6_goOn v0 h (fun h =>
      Q (1 : Int32) h))) (
      vr h v0 6 (
      w_X6_refuse v0 h (fun x3 h =>
      z1 x3 (Q x3 h)))))))))
set_option maxRecDepth 100000 in
set_option maxHeartbeats 4000000 in
theorem t_X6_readInner {l : Launch} {d9 dr : Nat} {r_X6_readAny : Nat → Int32 → AH → (Int32 → AH → Prop) → Prop} {r_X6_readAtom : Nat → Int32 → AH → (Int32 → AH → Prop) → Prop} {r_X6_readInner : Nat → Int32 → AH → (Int32 → AH → Prop) → Prop} {r_X6_readNot : Nat → Int32 → AH → (Int32 → AH → Prop) → Prop} {v0 : Nat} {v1 : Int32} {h : AH} {Q : Int32 → AH → Prop} (hdr : dr + 1 ≤ d9) (hdc : 4 ≤ d9) (h_X6_readAny : ∀ (a0 : Nat) (a1 : Int32) (h : AH) (Q : Int32 → AH → Prop), r_X6_readAny a0 a1 h Q → CT l yX6_readAny cX6_readAny 5 (some .boolean) dr 0 0 [.ref a0, .int a1] h (QI Q)) (h_X6_readAtom : ∀ (a0 : Nat) (a1 : Int32) (h : AH) (Q : Int32 → AH → Prop), r_X6_readAtom a0 a1 h Q → CT l yX6_readAtom cX6_readAtom 2 (some .boolean) dr 0 0 [.ref a0, .int a1] h (QI Q)) (h_X6_readInner : ∀ (a0 : Nat) (a1 : Int32) (h : AH) (Q : Int32 → AH → Prop), r_X6_readInner a0 a1 h Q → CT l yX6_readInner cX6_readInner 2 (some .boolean) dr 0 0 [.ref a0, .int a1] h (QI Q)) (h_X6_readNot : ∀ (a0 : Nat) (a1 : Int32) (h : AH) (Q : Int32 → AH → Prop), r_X6_readNot a0 a1 h Q → CT l yX6_readNot cX6_readNot 2 (some .boolean) dr 0 0 [.ref a0, .int a1] h (QI Q)) (hw : g_X6_readInner r_X6_readAny r_X6_readAtom r_X6_readInner r_X6_readNot v0 v1 h Q) : CT l yX6_readInner cX6_readInner 2 (some .boolean) d9 0 0 [.ref v0, .int v1] h (QI Q) := by
  refine CT.of (by decide) ⟨rfl, ⟨rfl, trivial⟩⟩ (Nat.le_of_ble_eq_true rfl) ?_
  intro p e s m args below meth c g C hr hin
  refine v_eq (pc' := 0) (ls' := [(0, .ref v0), (1, .int v1)]) rfl rfl rfl rfl ?_
  refine v_aload_n C dX6_readInner_0 0 rfl rfl ?_
  refine w_callVv (st := []) C cl_X6_53 im_X6_goOn se_X6_goOn rfl hw.1 (s_X6_goOn hw.2) rfl dX6_readInner_1 rfl (by decide) (by omega) (by decide) (by decide) (by decide) (fun h hw => ?_)
  refine v_aload_n C dX6_readInner_4 0 rfl rfl ?_
  refine v_iload_n C dX6_readInner_5 1 rfl rfl ?_
  refine w_callVi (st := []) C cl_X6_56 im_X6_readAny se_X6_readAny rfl hw.1 (h_X6_readAny _ _ _ _ hw.2) rfl dX6_readInner_6 rfl (by decide) (by omega) (by decide) (by decide) (by decide) (fun x1 h hw => ?_)
  refine v_if_ne (tgt := 14) C dX6_readInner_9 (by decide) (fun c_9 => ?_) (fun c_9 => ?_)
  · have hw := hw.2 c_9
    refine v_aload_n C dX6_readInner_14 0 rfl rfl ?_
    refine w_getI C fl_X6_43 dX6_readInner_15 rfl hw (fun x2 hw => ?_)
    refine v_bipush (v := 41) C dX6_readInner_18 (by decide) ?_
    refine v_icmp_eq (tgt := 28) C dX6_readInner_20 (by decide) (fun c_20 => ?_) (fun c_20 => ?_)
    · have hw := hw.1 c_20
      refine v_aload_n C dX6_readInner_28 0 rfl rfl ?_
      refine w_callVv (st := []) C cl_X6_53 im_X6_goOn se_X6_goOn rfl hw.1 (s_X6_goOn hw.2) rfl dX6_readInner_29 rfl (by decide) (by omega) (by decide) (by decide) (by decide) (fun h hw => ?_)
      refine v_iconst (v := 1) C dX6_readInner_32 (by decide) ?_
      exact (rt_MQ C _).2.1 _ _ _ _ _ _ _ hr rfl dX6_readInner_33 (by decide) (by decide) ⟨_, rfl, hw⟩
    · have hw := hw.2 c_20
      refine v_aload_n C dX6_readInner_23 0 rfl rfl ?_
      refine w_callVi (st := []) C cl_X6_50 im_X6_refuse se_X6_refuse rfl hw.1 (s_X6_refuse hw.2) rfl dX6_readInner_24 rfl (by decide) (by omega) (by decide) (by decide) (by decide) (fun x3 h hw => ?_)
      exact (rt_MQ C _).2.1 _ _ _ _ _ _ _ hr (by rcases hw.1 with z | z <;> rw [z] <;> rfl) dX6_readInner_27 (by decide) (by decide) ⟨_, rfl, hw.2⟩
  · have hw := hw.1 c_9
    refine v_iconst (v := 0) C dX6_readInner_12 (by decide) ?_
    exact (rt_MQ C _).2.1 _ _ _ _ _ _ _ hr rfl dX6_readInner_13 (by decide) (by decide) ⟨_, rfl, hw⟩
-- GrassField$Reader.readNot(I)Z
theorem dX6_readNot_0 : decode cX6_readNot 0 = .ok (.aload_n 0, 1) := by decide +kernel
theorem dX6_readNot_1 : decode cX6_readNot 1 = .ok (.invokevirtual 53, 3) := by decide +kernel
theorem dX6_readNot_4 : decode cX6_readNot 4 = .ok (.aload_n 0, 1) := by decide +kernel
theorem dX6_readNot_5 : decode cX6_readNot 5 = .ok (.iload_n 1, 1) := by decide +kernel
theorem dX6_readNot_6 : decode cX6_readNot 6 = .ok (.invokevirtual 73, 3) := by decide +kernel
theorem dX6_readNot_9 : decode cX6_readNot 9 = .ok (.ifCond .ne 5, 3) := by decide +kernel
theorem dX6_readNot_12 : decode cX6_readNot 12 = .ok (.iconst 0, 1) := by decide +kernel
theorem dX6_readNot_13 : decode cX6_readNot 13 = .ok (.ireturn, 1) := by decide +kernel
theorem dX6_readNot_14 : decode cX6_readNot 14 = .ok (.aload_n 0, 1) := by decide +kernel
theorem dX6_readNot_15 : decode cX6_readNot 15 = .ok (.bipush 6, 2) := by decide +kernel
theorem dX6_readNot_17 : decode cX6_readNot 17 = .ok (.iconst 0, 1) := by decide +kernel
theorem dX6_readNot_18 : decode cX6_readNot 18 = .ok (.invokevirtual 60, 3) := by decide +kernel
theorem dX6_readNot_21 : decode cX6_readNot 21 = .ok (.iconst 1, 1) := by decide +kernel
theorem dX6_readNot_22 : decode cX6_readNot 22 = .ok (.ireturn, 1) := by decide +kernel
def g_X6_readNot (r_X6_readAny : Nat → Int32 → AH → (Int32 → AH → Prop) → Prop) (r_X6_readAtom : Nat → Int32 → AH → (Int32 → AH → Prop) → Prop) (r_X6_readInner : Nat → Int32 → AH → (Int32 → AH → Prop) → Prop) (r_X6_readNot : Nat → Int32 → AH → (Int32 → AH → Prop) → Prop) (v0 : Nat) (v1 : Int32) (h : AH) (Q : Int32 → AH → Prop) : Prop :=
  vr h v0 6 (
  w_X6_goOn v0 h (fun h =>
  vr h v0 6 (
  r_X6_readAtom v0 v1 h (fun x1 h =>
  br (x1 = 0) (
    Q (0 : Int32) h) (
    vr h v0 6 (
    w_X6_addStep v0 (6 : Int32) (0 : Int32) h (fun h =>
    Q (1 : Int32) h)))))))
set_option maxRecDepth 100000 in
set_option maxHeartbeats 4000000 in
theorem t_X6_readNot {l : Launch} {d9 dr : Nat} {r_X6_readAny : Nat → Int32 → AH → (Int32 → AH → Prop) → Prop} {r_X6_readAtom : Nat → Int32 → AH → (Int32 → AH → Prop) → Prop} {r_X6_readInner : Nat → Int32 → AH → (Int32 → AH → Prop) → Prop} {r_X6_readNot : Nat → Int32 → AH → (Int32 → AH → Prop) → Prop} {v0 : Nat} {v1 : Int32} {h : AH} {Q : Int32 → AH → Prop} (hdr : dr + 1 ≤ d9) (hdc : 4 ≤ d9) (h_X6_readAny : ∀ (a0 : Nat) (a1 : Int32) (h : AH) (Q : Int32 → AH → Prop), r_X6_readAny a0 a1 h Q → CT l yX6_readAny cX6_readAny 5 (some .boolean) dr 0 0 [.ref a0, .int a1] h (QI Q)) (h_X6_readAtom : ∀ (a0 : Nat) (a1 : Int32) (h : AH) (Q : Int32 → AH → Prop), r_X6_readAtom a0 a1 h Q → CT l yX6_readAtom cX6_readAtom 2 (some .boolean) dr 0 0 [.ref a0, .int a1] h (QI Q)) (h_X6_readInner : ∀ (a0 : Nat) (a1 : Int32) (h : AH) (Q : Int32 → AH → Prop), r_X6_readInner a0 a1 h Q → CT l yX6_readInner cX6_readInner 2 (some .boolean) dr 0 0 [.ref a0, .int a1] h (QI Q)) (h_X6_readNot : ∀ (a0 : Nat) (a1 : Int32) (h : AH) (Q : Int32 → AH → Prop), r_X6_readNot a0 a1 h Q → CT l yX6_readNot cX6_readNot 2 (some .boolean) dr 0 0 [.ref a0, .int a1] h (QI Q)) (hw : g_X6_readNot r_X6_readAny r_X6_readAtom r_X6_readInner r_X6_readNot v0 v1 h Q) : CT l yX6_readNot cX6_readNot 2 (some .boolean) d9 0 0 [.ref v0, .int v1] h (QI Q) := by
  refine CT.of (by decide) ⟨rfl, ⟨rfl, trivial⟩⟩ (Nat.le_of_ble_eq_true rfl) ?_
  intro p e s m args below meth c g C hr hin
  refine v_eq (pc' := 0) (ls' := [(0, .ref v0), (1, .int v1)]) rfl rfl rfl rfl ?_
  refine v_aload_n C dX6_readNot_0 0 rfl rfl ?_
  refine w_callVv (st := []) C cl_X6_53 im_X6_goOn se_X6_goOn rfl hw.1 (s_X6_goOn hw.2) rfl dX6_readNot_1 rfl (by decide) (by omega) (by decide) (by decide) (by decide) (fun h hw => ?_)
  refine v_aload_n C dX6_readNot_4 0 rfl rfl ?_
  refine v_iload_n C dX6_readNot_5 1 rfl rfl ?_
  refine w_callVi (st := []) C cl_X6_73 im_X6_readAtom se_X6_readAtom rfl hw.1 (h_X6_readAtom _ _ _ _ hw.2) rfl dX6_readNot_6 rfl (by decide) (by omega) (by decide) (by decide) (by decide) (fun x1 h hw => ?_)
  refine v_if_ne (tgt := 14) C dX6_readNot_9 (by decide) (fun c_9 => ?_) (fun c_9 => ?_)
  · have hw := hw.2 c_9
    refine v_aload_n C dX6_readNot_14 0 rfl rfl ?_
    refine v_bipush (v := 6) C dX6_readNot_15 (by decide) ?_
    refine v_iconst (v := 0) C dX6_readNot_17 (by decide) ?_
    refine w_callVv (st := []) C cl_X6_60 im_X6_addStep se_X6_addStep rfl hw.1 (s_X6_addStep hw.2) rfl dX6_readNot_18 rfl (by decide) (by omega) (by decide) (by decide) (by decide) (fun h hw => ?_)
    refine v_iconst (v := 1) C dX6_readNot_21 (by decide) ?_
    exact (rt_MQ C _).2.1 _ _ _ _ _ _ _ hr rfl dX6_readNot_22 (by decide) (by decide) ⟨_, rfl, hw⟩
  · have hw := hw.1 c_9
    refine v_iconst (v := 0) C dX6_readNot_12 (by decide) ?_
    exact (rt_MQ C _).2.1 _ _ _ _ _ _ _ hr rfl dX6_readNot_13 (by decide) (by decide) ⟨_, rfl, hw⟩
def GR_X6 : Nat → (Nat → Int32 → AH → (Int32 → AH → Prop) → Prop) × (Nat → Int32 → AH → (Int32 → AH → Prop) → Prop) × (Nat → Int32 → AH → (Int32 → AH → Prop) → Prop) × (Nat → Int32 → AH → (Int32 → AH → Prop) → Prop)
  | 0 => (fun _ _ _ _ => False, fun _ _ _ _ => False, fun _ _ _ _ => False, fun _ _ _ _ => False)
  | n + 1 => (g_X6_readAny (GR_X6 n).1 (GR_X6 n).2.1 (GR_X6 n).2.2.1 (GR_X6 n).2.2.2, g_X6_readAtom (GR_X6 n).1 (GR_X6 n).2.1 (GR_X6 n).2.2.1 (GR_X6 n).2.2.2, g_X6_readInner (GR_X6 n).1 (GR_X6 n).2.1 (GR_X6 n).2.2.1 (GR_X6 n).2.2.2, g_X6_readNot (GR_X6 n).1 (GR_X6 n).2.1 (GR_X6 n).2.2.1 (GR_X6 n).2.2.2)
theorem GS_X6 (l : Launch) : ∀ n : Nat, (∀ (a0 : Nat) (a1 : Int32) (h : AH) (Q : Int32 → AH → Prop), (GR_X6 n).1 a0 a1 h Q → CT l yX6_readAny cX6_readAny 5 (some .boolean) (4 + n) 0 0 [.ref a0, .int a1] h (QI Q)) ∧ (∀ (a0 : Nat) (a1 : Int32) (h : AH) (Q : Int32 → AH → Prop), (GR_X6 n).2.1 a0 a1 h Q → CT l yX6_readAtom cX6_readAtom 2 (some .boolean) (4 + n) 0 0 [.ref a0, .int a1] h (QI Q)) ∧ (∀ (a0 : Nat) (a1 : Int32) (h : AH) (Q : Int32 → AH → Prop), (GR_X6 n).2.2.1 a0 a1 h Q → CT l yX6_readInner cX6_readInner 2 (some .boolean) (4 + n) 0 0 [.ref a0, .int a1] h (QI Q)) ∧ (∀ (a0 : Nat) (a1 : Int32) (h : AH) (Q : Int32 → AH → Prop), (GR_X6 n).2.2.2 a0 a1 h Q → CT l yX6_readNot cX6_readNot 2 (some .boolean) (4 + n) 0 0 [.ref a0, .int a1] h (QI Q)) := by
  intro n
  induction n with
  | zero => exact ⟨fun _ _ _ _ hw => hw.elim, fun _ _ _ _ hw => hw.elim, fun _ _ _ _ hw => hw.elim, fun _ _ _ _ hw => hw.elim⟩
  | succ n ih =>
    obtain ⟨i0, i1, i2, i3⟩ := ih
    refine ⟨?_, ?_, ?_, ?_⟩
    · intro a0 a1 h Q hw
      exact t_X6_readAny (d9 := 4 + (n + 1)) (dr := 4 + n) (by omega) (by omega) i0 i1 i2 i3 hw
    · intro a0 a1 h Q hw
      exact t_X6_readAtom (d9 := 4 + (n + 1)) (dr := 4 + n) (by omega) (by omega) i0 i1 i2 i3 hw
    · intro a0 a1 h Q hw
      exact t_X6_readInner (d9 := 4 + (n + 1)) (dr := 4 + n) (by omega) (by omega) i0 i1 i2 i3 hw
    · intro a0 a1 h Q hw
      exact t_X6_readNot (d9 := 4 + (n + 1)) (dr := 4 + n) (by omega) (by omega) i0 i1 i2 i3 hw
def w_X6_readAny (v0 : Nat) (v1 : Int32) (h : AH) (Q : Int32 → AH → Prop) : Prop := (GR_X6 40).1 v0 v1 h Q
theorem s_X6_readAny {l : Launch} {v0 : Nat} {v1 : Int32} {h : AH} {Q : Int32 → AH → Prop} (hw : w_X6_readAny v0 v1 h Q) : CT l yX6_readAny cX6_readAny 5 (some .boolean) 44 0 0 [.ref v0, .int v1] h (QI Q) := (GS_X6 l 40).1 v0 v1 h Q hw
def w_X6_readAtom (v0 : Nat) (v1 : Int32) (h : AH) (Q : Int32 → AH → Prop) : Prop := (GR_X6 40).2.1 v0 v1 h Q
theorem s_X6_readAtom {l : Launch} {v0 : Nat} {v1 : Int32} {h : AH} {Q : Int32 → AH → Prop} (hw : w_X6_readAtom v0 v1 h Q) : CT l yX6_readAtom cX6_readAtom 2 (some .boolean) 44 0 0 [.ref v0, .int v1] h (QI Q) := (GS_X6 l 40).2.1 v0 v1 h Q hw
def w_X6_readInner (v0 : Nat) (v1 : Int32) (h : AH) (Q : Int32 → AH → Prop) : Prop := (GR_X6 40).2.2.1 v0 v1 h Q
theorem s_X6_readInner {l : Launch} {v0 : Nat} {v1 : Int32} {h : AH} {Q : Int32 → AH → Prop} (hw : w_X6_readInner v0 v1 h Q) : CT l yX6_readInner cX6_readInner 2 (some .boolean) 44 0 0 [.ref v0, .int v1] h (QI Q) := (GS_X6 l 40).2.2.1 v0 v1 h Q hw
def w_X6_readNot (v0 : Nat) (v1 : Int32) (h : AH) (Q : Int32 → AH → Prop) : Prop := (GR_X6 40).2.2.2 v0 v1 h Q
theorem s_X6_readNot {l : Launch} {v0 : Nat} {v1 : Int32} {h : AH} {Q : Int32 → AH → Prop} (hw : w_X6_readNot v0 v1 h Q) : CT l yX6_readNot cX6_readNot 2 (some .boolean) 44 0 0 [.ref v0, .int v1] h (QI Q) := (GS_X6 l 40).2.2.2 v0 v1 h Q hw
