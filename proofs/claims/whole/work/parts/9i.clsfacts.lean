/-! the class's facts -/
def fcP (wd : Nat → Int32) (j f : Nat) : Bool := sn wd f && decide (wd (349 + 6 * f) = nI j)
noncomputable def fcF (wd : Nat → Int32) (N : Nat → Nat) (j : Nat) : Int32 := if j < 4 then cnt (fcP wd j) (N 3) else if j = 4 then pcI (nI (ndN wd N 0 255)) else if j = 5 then cnt (ftB wd N) (N 5) else cnt (heP wd N 4) 256
noncomputable def fcH (wd : Nat → Int32) (N : Nat → Nat) (r : Nat) : Int32 := nI (lgH (clL (hxB wd N 0 r) 16) 1 ((clL (hxB wd N 0 r) 16).length - 1))
noncomputable def fcM (wd : Nat → Int32) (N : Nat → Nat) : Nat → Int32
  | 0 => 0
  | i + 1 => jmax (fcM wd N i) (fcH wd N i)
section CFACT
variable {A : Nat → Nat} {S : Nat → Prop} {h0 h : AH} {X : Nat → Nat → Int32} {wd : Nat → Int32} {N : Nat → Nat} {Q : Int32 → AH → Prop} {Qv : AH → Prop}
theorem c_gf4 (H : G A S h0 X h) (R : CR X wd) (O : Ok wd N) (C : CG X wd N) (F : ∀ j, j < 6 → X 908 j = fcF wd N j) (F7 : X 908 7 = 0) (k : ∀ X' h', G A S h0 X' h' → Off [902, 903, 904, 908] X X' → (∀ j, j < 7 → X' 908 j = fcF wd N j) → X' 908 7 = fcM wd N 16 → Qv h') : w_X8_gatherFacts_126 (A 8) h Qv := by
  unfold w_X8_gatherFacts_126
  refine fP (o := 8) H H.b rfl rfl ?_
  refine vG (o := 8) H H.b rfl ?_
  refine c_heapCount H R O C (fun X1 h1 H1 o1 => ?_)
  refine tG (id := 908) (n := 6) H1 H1.b rfl (by decide) rfl (by decide) (fun h2 H2 => ?_)
  have o2 : Off [902, 903, 904, 908] X (up X1 908 6 (cnt (heP wd N 4) 256)) := (o1.mono (by decide)).up (by decide) _ _
  have F2 : ∀ j, j < 7 → up X1 908 6 (cnt (heP wd N 4) 256) 908 j = fcF wd N j := fun j hj => by
    by_cases e : j = 6
    · subst e
      rw [up_same]
      unfold fcF
      rw [if_neg (by decide), if_neg (by decide), if_neg (by decide)]
    · rw [up_n _ _ _ e, o1 908 (by decide)]
      exact F j (by omega)
  have F72 : up X1 908 6 (cnt (heP wd N 4) 256) 908 7 = 0 := by rw [up_n _ _ _ (by decide), o1 908 (by decide)]; exact F7
  generalize up X1 908 6 (cnt (heP wd N 4) 256) = X2 at *
  refine lp_inv 16 (fun j (s : Int32 × AH) => s.1 = nI j ∧ ∃ X', G A S h0 X' s.2 ∧ Off [902, 903, 904, 908] X X' ∧ (∀ j, j < 7 → X' 908 j = fcF wd N j) ∧ X' 908 7 = fcM wd N j) (fun j s kk1 hj hI kk => ?_) (fun s kk1 hI => ?_) (Nat.zero_le _) ⟨rfl, X2, H2, o2, F2, F72⟩
  · obtain ⟨v, h3⟩ := s
    obtain ⟨e1, X3, H3, o3, F3, F73⟩ := hI
    dsimp only at e1 H3 ⊢
    subst e1
    have R3 := R.offL o3 (by decide)
    have C3 := C.off o3 (by decide)
    dsimp only [w_X8_gatherFacts_140]
    refine br_go (a := 16) hj (by decide) ?_
    refine fP (o := 8) H3 H3.b rfl rfl ?_
    refine fP (o := 8) H3 H3.b rfl rfl ?_
    refine aG (id := 908) (n := 7) H3 H3.b rfl (by decide) rfl (by decide) ?_
    refine vG (o := 8) H3 H3.b rfl ?_
    refine c_longestPiece (o := 1) H3 R3 O C3 hj (by decide) (fun X4 h4 H4 o4 => ?_)
    rw [F73]
    refine tG (id := 908) (n := 7) H4 H4.b rfl (by decide) rfl (by decide) (fun h5 H5 => ?_)
    refine kk _ ⟨(nI_succ j).symm, _, H5, (o3.tr (o4.mono (by decide))).up (by decide) _ _, fun i hi => ?_, up_same _ _ _ _⟩
    rw [up_n _ _ _ (by omega), o4 908 (by decide)]
    exact F3 i hi
  · obtain ⟨v, h3⟩ := s
    obtain ⟨e1, X3, H3, o3, F3, F73⟩ := hI
    dsimp only at e1 H3 ⊢
    subst e1
    dsimp only [w_X8_gatherFacts_140, w_X8_gatherFacts_176]
    exact br_end (a := 16) (k X3 h3 H3 o3 F3 F73)
theorem c_gf3 (H : G A S h0 X h) (R : CR X wd) (O : Ok wd N) (C : CG X wd N) (F : ∀ j, j < 4 → X 908 j = fcF wd N j) (F5 : X 908 5 = 0) (F7 : X 908 7 = 0) (k : ∀ X' h', G A S h0 X' h' → Off [902, 903, 904, 908] X X' → (∀ j, j < 7 → X' 908 j = fcF wd N j) → X' 908 7 = fcM wd N 16 → Qv h') : w_X8_gatherFacts_65 (A 8) h Qv := by
  obtain ⟨e5, h5⟩ := O.o
  unfold w_X8_gatherFacts_65
  refine fP (o := 8) H H.b rfl rfl ?_
  refine vG (o := 8) H H.b rfl ?_
  refine c_fewestGuns H R O C (fun X1 h1 H1 o1 => ?_)
  refine bitCount ?_
  refine tG (id := 908) (n := 4) H1 H1.b rfl (by decide) rfl (by decide) (fun h2 H2 => ?_)
  have o2 : Off [902, 908] X (up X1 908 4 (pcI (nI (ndN wd N 0 255)))) := (o1.mono (by decide)).up (by decide) _ _
  have F2 : ∀ j, j < 5 → up X1 908 4 (pcI (nI (ndN wd N 0 255))) 908 j = fcF wd N j := fun j hj => by
    by_cases e : j = 4
    · subst e
      rw [up_same]
      rfl
    · rw [up_n _ _ _ e, o1 908 (by decide)]
      exact F j (by omega)
  have F52 : up X1 908 4 (pcI (nI (ndN wd N 0 255))) 908 5 = 0 := by rw [up_n _ _ _ (by decide), o1 908 (by decide)]; exact F5
  have F72 : up X1 908 4 (pcI (nI (ndN wd N 0 255))) 908 7 = 0 := by rw [up_n _ _ _ (by decide), o1 908 (by decide)]; exact F7
  generalize up X1 908 4 (pcI (nI (ndN wd N 0 255))) = X2 at *
  refine lp_inv (N 5) (fun j (s : Int32 × AH) => s.1 = nI j ∧ ∃ X', G A S h0 X' s.2 ∧ Off [902, 908] X X' ∧ (∀ j, j < 5 → X' 908 j = fcF wd N j) ∧ X' 908 5 = cnt (ftB wd N) j ∧ X' 908 7 = 0) (fun j s kk1 hj hI kk => ?_) (fun s kk1 hI => ?_) (Nat.zero_le _) ⟨rfl, X2, H2, o2, F2, F52, F72⟩
  · obtain ⟨v, h3⟩ := s
    obtain ⟨e1, X3, H3, o3, F3, F53, F73⟩ := hI
    dsimp only at e1 H3 ⊢
    subst e1
    have R3 := R.offL o3 (by decide)
    dsimp only [w_X8_gatherFacts_84, w_X8_gatherFacts_118]
    refine fP (o := 8) H3 H3.b rfl rfl ?_
    refine fP (o := 7) H3 H3.b rfl rfl ?_
    refine fC_ (o := 9) H3 R3 H3.b rfl rfl ?_
    rw [e5]
    refine br_go hj (by omega) ?_
    refine fP (o := 8) H3 H3.b rfl rfl ?_
    refine aG (id := 908) (n := 5) H3 H3.b rfl (by decide) rfl (by decide) ?_
    refine vG (o := 8) H3 H3.b rfl ?_
    refine c_isBorneOut H3 R3 O hj ?_
    rw [F53]
    have key : ∀ b : Int32, b = bI (ftB wd N j) → tI h3 (A 908) 5 (cnt (ftB wd N) j + b) fun h => kk1 (nI j + 1, h) := by
      intro b hb
      refine tG (id := 908) (n := 5) H3 H3.b rfl (by decide) rfl (by decide) (fun h4 H4 => ?_)
      refine kk _ ⟨(nI_succ j).symm, _, H4, o3.up (by decide) _ _, fun i hi => ?_, ?_, ?_⟩
      · rw [up_n _ _ _ (by omega)]
        exact F3 i hi
      · rw [up_same, cnt_bI, hb]
      · rw [up_n _ _ _ (by decide)]
        exact F73
    exact br_bI (fun c => key 1 (bI_t c).symm) (fun c => key 0 (by rw [Bool.not_eq_true] at c; rw [c]; rfl))
  · obtain ⟨v, h3⟩ := s
    obtain ⟨e1, X3, H3, o3, F3, F53, F73⟩ := hI
    dsimp only at e1 H3 ⊢
    subst e1
    have R3 := R.offL o3 (by decide)
    have C3 := C.off o3 (by decide)
    dsimp only [w_X8_gatherFacts_84]
    refine fP (o := 8) H3 H3.b rfl rfl ?_
    refine fP (o := 7) H3 H3.b rfl rfl ?_
    refine fC_ (o := 9) H3 R3 H3.b rfl rfl ?_
    rw [e5]
    refine br_end ?_
    refine c_gf4 H3 R3 O C3 (fun j hj => ?_) F73 (fun X4 h4 H4 o4 => k X4 h4 H4 ((o3.mono (by decide)).tr o4))
    by_cases e : j = 5
    · subst e
      exact F53
    · exact F3 j (by omega)
theorem c_gatherFacts (H : G A S h0 X h) (R : CR X wd) (O : Ok wd N) (k : ∀ X' h', G A S h0 X' h' → Off [901, 902, 903, 904, 908] X X' → (∀ j, j < 7 → X' 908 j = fcF wd N j) → X' 908 7 = fcM wd N 16 → Qv h') : w_X8_gatherFacts (A 8) h Qv := by
  obtain ⟨e3, h3⟩ := O.f
  unfold w_X8_gatherFacts
  refine vG (o := 8) H H.b rfl ?_
  refine c_refresh H R O (fun X1 h1 H1 o1 R1 C1 => ?_)
  refine fP (o := 8) H1 H1.b rfl rfl ?_
  refine fP (o := 7) H1 H1.b rfl rfl ?_
  refine vG (o := 1) H1 H1.b rfl ?_
  refine c_nearRows H1 R1 O ?_
  refine fP (o := 8) H1 H1.b rfl rfl ?_
  refine c_fill (id := 908) (len := 8) H1 H1.b rfl (by decide) (fun X2 h2 H2 o2 Z2 => ?_)
  refine lp_inv (N 3) (fun j (s : Int32 × AH) => s.1 = nI j ∧ ∃ X', G A S h0 X' s.2 ∧ Off [908] X1 X' ∧ ∀ i, i < 8 → X' 908 i = if i < 4 then cnt (fcP wd i) j else 0) (fun j s kk1 hj hI kk => ?_) (fun s kk1 hI => ?_) (Nat.zero_le _) ⟨rfl, X2, H2, o2, fun i hi => by rw [Z2 i hi]; split <;> rfl⟩
  · obtain ⟨v, h3_⟩ := s
    obtain ⟨e1, X3, H3, o3, F3⟩ := hI
    dsimp only at e1 H3 ⊢
    subst e1
    have R3 := R1.offL o3 (by decide)
    dsimp only [w_X8_gatherFacts_27, w_X8_gatherFacts_59]
    refine fC_ (o := 1) H3 R3 H3.b rfl rfl ?_
    rw [e3]
    refine br_go hj (by omega) ?_
    refine vG (o := 1) H3 H3.b rfl ?_
    refine c_isSeen H3 R3 (by omega) ?_
    rw [snR_sn O hj]
    refine br_bI (fun c => ?_) (fun c => ?_)
    · obtain ⟨t, et, ht⟩ := (O.F hj).1.ex
      refine fP (o := 8) H3 H3.b rfl rfl ?_
      refine fP (o := 1) H3 H3.b rfl rfl ?_
      refine aC (id := 201) H3 R3 H3.b rfl (by decide) rfl rfl (by omega) ?_
      rw [et]
      refine aG (id := 908) (n := t) H3 H3.b rfl (by decide) rfl (by omega) ?_
      refine tG (id := 908) (n := t) H3 H3.b rfl (by decide) rfl (by omega) (fun h4 H4 => ?_)
      refine kk _ ⟨(nI_succ j).symm, _, H4, o3.up (by decide) _ _, fun i hi => ?_⟩
      by_cases e : i = t
      · subst e
        rw [up_same, F3 i hi, if_pos (by omega), if_pos (by omega), cnt, if_pos]
        unfold fcP
        rw [c, et, decide_eq_true rfl]
        rfl
      · rw [up_n _ _ _ e, F3 i hi]
        by_cases e4 : i < 4
        · rw [if_pos e4, if_pos e4, cnt, if_neg]
          unfold fcP
          rw [et, decide_eq_false (fun z => e ((nI_eq (by omega) (by omega)).mp z).symm), Bool.and_false]
          decide
        · rw [if_neg e4, if_neg e4]
    · refine kk _ ⟨(nI_succ j).symm, X3, H3, o3, fun i hi => ?_⟩
      rw [F3 i hi]
      by_cases e4 : i < 4
      · rw [if_pos e4, if_pos e4, cnt, if_neg]
        unfold fcP
        rw [Bool.not_eq_true] at c
        rw [c, Bool.false_and]
        decide
      · rw [if_neg e4, if_neg e4]
  · obtain ⟨v, h3_⟩ := s
    obtain ⟨e1, X3, H3, o3, F3⟩ := hI
    dsimp only at e1 H3 ⊢
    subst e1
    have R3 := R1.offL o3 (by decide)
    have C3 := C1.off o3 (by decide)
    dsimp only [w_X8_gatherFacts_27]
    refine fC_ (o := 1) H3 R3 H3.b rfl rfl ?_
    rw [e3]
    refine br_end ?_
    refine c_gf3 H3 R3 O C3 (fun j hj => ?_) (F3 5 (by decide)) (F3 7 (by decide)) (fun X4 h4 H4 o4 => k X4 h4 H4 (((o1.mono (by decide)).tr (o3.mono (by decide))).tr (o4.mono (by decide))))
    rw [F3 j (by omega), if_pos hj]
    unfold fcF
    rw [if_pos hj]
end CFACT
