/-! the reference's facts -/
theorem OZ.om {X X' : Nat → Nat → Int32} (a : OZ X X') : OM X X' := fun id n h => a id n (fun z => by
  rcases z with z | z
  · rw [z] at h; exact Bool.noConfusion (h.symm.trans (show mS 1323 n = true from mS_row rfl))
  · rw [z.1, z.2] at h; exact absurd h (by decide))
section MFACT
variable {A : Nat → Nat} {S : Nat → Prop} {h0 h : AH} {X : Nat → Nat → Int32} {wd : Nat → Int32} {N : Nat → Nat} {Q : Int32 → AH → Prop} {Qv : AH → Prop}
theorem m_as4 (H : G A S h0 X h) (M : MR X wd) (O : Ok wd N) (F : ∀ j, j < 6 → X 1314 j = fcF wd N j) (k : ∀ X' h', G A S h0 X' h' → OM X X' → (∀ j, j < 7 → X' 1314 j = fcF wd N j) → X' 12 17 = fcM wd N 16 → Qv h') : w_X12_asks_121 (A 12) h Qv := by
  unfold w_X12_asks_121
  refine fP (o := 12) H H.b rfl rfl ?_
  refine vG (o := 12) H H.b rfl ?_
  refine m_heapsOf (b := false) H M O (fun _ => ?_) (fun z => by cases z)
  refine tG (id := 1314) (n := 6) H H.b rfl (by decide) rfl (by decide) (fun h2 H2 => ?_)
  refine uG (o := 12) H2 H2.b rfl (fun h3 H3 => ?_)
  have o3 : OM X (up (up X 1314 6 (cnt (heP wd N 4) 256)) 12 17 0) := ((OM.rf X).up (mS_row rfl) _).up (by decide) _
  have F3 : ∀ j, j < 7 → up (up X 1314 6 (cnt (heP wd N 4) 256)) 12 17 0 1314 j = fcF wd N j := fun j hj => by
    rw [up_row _ _ _ (by decide)]
    by_cases e : j = 6
    · subst e
      rw [up_same]
      unfold fcF
      rw [if_neg (by decide), if_neg (by decide), if_neg (by decide)]
    · rw [up_n _ _ _ e]
      exact F j (by omega)
  have Z3 : up (up X 1314 6 (cnt (heP wd N 4) 256)) 12 17 0 12 17 = 0 := up_same _ _ _ _
  generalize up (up X 1314 6 (cnt (heP wd N 4) 256)) 12 17 0 = X3 at *
  refine lp_inv 16 (fun j (s : Int32 × AH) => s.1 = nI j ∧ ∃ X', G A S h0 X' s.2 ∧ OM X X' ∧ (∀ j, j < 7 → X' 1314 j = fcF wd N j) ∧ X' 12 17 = fcM wd N j) (fun j s kk1 hj hI kk => ?_) (fun s kk1 hI => ?_) (Nat.zero_le _) ⟨rfl, X3, H3, o3, F3, Z3⟩
  · obtain ⟨v, h4⟩ := s
    obtain ⟨e1, X4, H4, o4, F4, Z4⟩ := hI
    dsimp only at e1 H4 ⊢
    subst e1
    dsimp only [w_X12_asks_141]
    refine br_go (a := 16) hj (by decide) ?_
    refine fG (o := 12) H4 H4.b rfl ?_
    refine vG (o := 12) H4 H4.b rfl ?_
    refine m_longestHeld2 (o := 1) H4 (o4.MR M) O hj (by decide) (fun X5 h5 H5 o5 => ?_)
    rw [Z4]
    refine uG (o := 12) H5 H5.b rfl (fun h6 H6 => ?_)
    refine kk _ ⟨(nI_succ j).symm, _, H6, (o4.tr o5.om).up (by decide) _, fun i hi => ?_, up_same _ _ _ _⟩
    rw [up_row _ _ _ (by decide), o5 1314 i (by simp)]
    exact F4 i hi
  · obtain ⟨v, h4⟩ := s
    obtain ⟨e1, X4, H4, o4, F4, Z4⟩ := hI
    dsimp only at e1 H4 ⊢
    subst e1
    dsimp only [w_X12_asks_141, w_X12_asks_171]
    exact br_end (a := 16) (k X4 h4 H4 o4 F4 Z4)
theorem m_as3 (H : G A S h0 X h) (M : MR X wd) (O : Ok wd N) (F : ∀ j, j < 4 → X 1314 j = fcF wd N j) (F5 : X 1314 5 = 0) (k : ∀ X' h', G A S h0 X' h' → OM X X' → (∀ j, j < 7 → X' 1314 j = fcF wd N j) → X' 12 17 = fcM wd N 16 → Qv h') : w_X12_asks_64 (A 12) h Qv := by
  obtain ⟨e5, h5⟩ := O.o
  unfold w_X12_asks_64
  refine fP (o := 12) H H.b rfl rfl ?_
  refine vG (o := 12) H H.b rfl ?_
  refine m_neededIn H M O ?_
  refine bitCount ?_
  refine tG (id := 1314) (n := 4) H H.b rfl (by decide) rfl (by decide) (fun h2 H2 => ?_)
  have o2 : OM X (up X 1314 4 (pcI (nI (ndN wd N 0 255)))) := (OM.rf X).up (mS_row rfl) _
  have F2 : ∀ j, j < 5 → up X 1314 4 (pcI (nI (ndN wd N 0 255))) 1314 j = fcF wd N j := fun j hj => by
    by_cases e : j = 4
    · subst e
      rw [up_same]
      rfl
    · rw [up_n _ _ _ e]
      exact F j (by omega)
  have F52 : up X 1314 4 (pcI (nI (ndN wd N 0 255))) 1314 5 = 0 := by rw [up_n _ _ _ (by decide)]; exact F5
  generalize up X 1314 4 (pcI (nI (ndN wd N 0 255))) = X2 at *
  refine lp_inv (N 5) (fun j (s : Int32 × AH) => s.1 = nI j ∧ ∃ X', G A S h0 X' s.2 ∧ OM X X' ∧ (∀ j, j < 5 → X' 1314 j = fcF wd N j) ∧ X' 1314 5 = cnt (ftB wd N) j) (fun j s kk1 hj hI kk => ?_) (fun s kk1 hI => ?_) (Nat.zero_le _) ⟨rfl, X2, H2, o2, F2, F52⟩
  · obtain ⟨v, h3⟩ := s
    obtain ⟨e1, X3, H3, o3, F3, F53⟩ := hI
    dsimp only at e1 H3 ⊢
    subst e1
    have M3 := o3.MR M
    dsimp only [w_X12_asks_83, w_X12_asks_113]
    refine fP (o := 12) H3 H3.b rfl rfl ?_
    refine aM H3 M3 (n := 5) rfl (by decide) ?_
    rw [e5]
    refine br_go hj (by omega) ?_
    refine fP (o := 12) H3 H3.b rfl rfl ?_
    refine aG (id := 1314) (n := 5) H3 H3.b rfl (by decide) rfl (by decide) ?_
    refine vG (o := 12) H3 H3.b rfl ?_
    refine m_fitsAll H3 M3 O hj ?_
    rw [F53]
    have key : ∀ b : Int32, b = bI (ftB wd N j) → tI h3 (A 1314) 5 (cnt (ftB wd N) j + b) fun h => kk1 (nI j + 1, h) := by
      intro b hb
      refine tG (id := 1314) (n := 5) H3 H3.b rfl (by decide) rfl (by decide) (fun h4 H4 => ?_)
      refine kk _ ⟨(nI_succ j).symm, _, H4, o3.up (mS_row rfl) _, fun i hi => ?_, ?_⟩
      · rw [up_n _ _ _ (by omega)]
        exact F3 i hi
      · rw [up_same, cnt_bI, hb]
    exact br_bI (fun c => key 1 (bI_t c).symm) (fun c => key 0 (by rw [Bool.not_eq_true] at c; rw [c]; rfl))
  · obtain ⟨v, h3⟩ := s
    obtain ⟨e1, X3, H3, o3, F3, F53⟩ := hI
    dsimp only at e1 H3 ⊢
    subst e1
    have M3 := o3.MR M
    dsimp only [w_X12_asks_83]
    refine fP (o := 12) H3 H3.b rfl rfl ?_
    refine aM H3 M3 (n := 5) rfl (by decide) ?_
    rw [e5]
    refine br_end ?_
    refine m_as4 H3 M3 O (fun j hj => ?_) (fun X4 h4 H4 o4 => k X4 h4 H4 (o3.tr o4))
    by_cases e : j = 5
    · subst e
      exact F53
    · exact F3 j (by omega)
theorem m_asks (H : G A S h0 X h) (M : MR X wd) (O : Ok wd N) (k : ∀ X' h', G A S h0 X' h' → OM X X' → (∀ j, j < 7 → X' 1314 j = fcF wd N j) → X' 12 17 = fcM wd N 16 → Qv h') : w_X12_asks (A 12) h Qv := by
  obtain ⟨e3, h3⟩ := O.f
  unfold w_X12_asks
  have two : ∀ X1 h1, G A S h0 X1 h1 → OM X X1 → (∀ i, i < 7 → X1 1314 i = 0) → w_X12_asks_21 (A 12) h1 Qv := by
    intro X1 h1 H1 o1 Z1
    unfold w_X12_asks_21
    refine lp_inv (N 3) (fun j (s : Int32 × AH) => s.1 = nI j ∧ ∃ X', G A S h0 X' s.2 ∧ OM X X' ∧ ∀ i, i < 7 → X' 1314 i = if i < 4 then cnt (fcP wd i) j else 0) (fun j s kk1 hj hI kk => ?_) (fun s kk1 hI => ?_) (Nat.zero_le _) ⟨rfl, X1, H1, o1, fun i hi => by rw [Z1 i hi]; split <;> rfl⟩
    · obtain ⟨v, h3_⟩ := s
      obtain ⟨e1, X3, H3, o3, F3⟩ := hI
      dsimp only at e1 H3 ⊢
      subst e1
      have M3 := o3.MR M
      obtain ⟨t, et, ht⟩ := (O.F hj).1.ex
      dsimp only [w_X12_asks_23, w_X12_asks_56]
      refine vG (o := 12) H3 H3.b rfl ?_
      refine m_finds H3 M3 ?_
      rw [e3]
      refine br_go hj (by omega) ?_
      refine fP (o := 12) H3 H3.b rfl rfl ?_
      refine vG (o := 12) H3 H3.b rfl ?_
      refine m_ofFind_ (c := 0) H3 M3 (by omega) rfl (by decide) ?_
      rw [Nat.add_zero, et]
      refine aG (id := 1314) (n := t) H3 H3.b rfl (by decide) rfl (by omega) ?_
      refine vG (o := 12) H3 H3.b rfl ?_
      refine m_isSeen H3 M3 (by omega) ?_
      have key : ∀ b : Int32, b = bI (sn wd j) → tI h3_ (A 1314) (nI t) (X3 1314 t + b) fun h => kk1 (nI j + 1, h) := by
        intro b hb
        refine tG (id := 1314) (n := t) H3 H3.b rfl (by decide) rfl (by omega) (fun h4 H4 => ?_)
        refine kk _ ⟨(nI_succ j).symm, _, H4, o3.up (mS_row rfl) _, fun i hi => ?_⟩
        by_cases e : i = t
        · subst e
          rw [up_same, F3 i hi, if_pos (by omega), if_pos (by omega), cnt_bI, hb]
          unfold fcP
          rw [et, decide_eq_true rfl, Bool.and_true]
        · rw [up_n _ _ _ e, F3 i hi]
          by_cases e4 : i < 4
          · rw [if_pos e4, if_pos e4, cnt, if_neg]
            unfold fcP
            rw [et, decide_eq_false (fun z => e ((nI_eq (by omega) (by omega)).mp z).symm), Bool.and_false]
            decide
          · rw [if_neg e4, if_neg e4]
      exact br_bI (fun c => key 1 (bI_t c).symm) (fun c => key 0 (by rw [Bool.not_eq_true] at c; rw [c]; rfl))
    · obtain ⟨v, h3_⟩ := s
      obtain ⟨e1, X3, H3, o3, F3⟩ := hI
      dsimp only at e1 H3 ⊢
      subst e1
      have M3 := o3.MR M
      dsimp only [w_X12_asks_23]
      refine vG (o := 12) H3 H3.b rfl ?_
      refine m_finds H3 M3 ?_
      rw [e3]
      refine br_end ?_
      refine m_as3 H3 M3 O (fun j hj => ?_) (F3 5 (by decide)) (fun X4 h4 H4 o4 => k X4 h4 H4 (o3.tr o4))
      rw [F3 j (by omega), if_pos hj]
      unfold fcF
      rw [if_pos hj]
  refine lp_inv 7 (fun j (s : Int32 × AH) => s.1 = nI j ∧ ∃ X', G A S h0 X' s.2 ∧ OM X X' ∧ ∀ i, i < j → X' 1314 i = 0) (fun j s kk1 hj hI kk => ?_) (fun s kk1 hI => ?_) (Nat.zero_le _) ⟨rfl, X, H, OM.rf X, fun i hi => absurd hi (Nat.not_lt_zero _)⟩
  · obtain ⟨v, h1⟩ := s
    obtain ⟨e1, X1, H1, o1, Z1⟩ := hI
    dsimp only at e1 H1 ⊢
    subst e1
    dsimp only [w_X12_asks_2]
    refine br_go (a := 7) hj (by decide) ?_
    refine fP (o := 12) H1 H1.b rfl rfl ?_
    refine tG (id := 1314) (n := j) H1 H1.b rfl (by decide) rfl (by omega) (fun h2 H2 => ?_)
    refine kk _ ⟨(nI_succ j).symm, _, H2, o1.up (mS_row rfl) _, fun i hi => ?_⟩
    by_cases e : i = j
    · subst e
      exact up_same _ _ _ _
    · rw [up_n _ _ _ e]
      exact Z1 i (by omega)
  · obtain ⟨v, h1⟩ := s
    obtain ⟨e1, X1, H1, o1, Z1⟩ := hI
    dsimp only at e1 H1 ⊢
    subst e1
    dsimp only [w_X12_asks_2]
    exact br_end (a := 7) (two X1 h1 H1 o1 Z1)
end MFACT
