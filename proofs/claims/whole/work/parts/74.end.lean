/-! end, fault; the reference's image -/
section ENDF
variable {A : Nat → Nat} {S : Nat → Prop} {h0 h : AH} {X : Nat → Nat → Int32} {wd : Nat → Int32} {N : Nat → Nat} {Q : Int32 → AH → Prop} {Qv : AH → Prop} {a3 : Nat}
noncomputable def enV (T : Nat) (n : Int32) : Int32 := cIf (isN n (T + 1)) 1 0
noncomputable def enT (T : Nat) (n : Int32) : Nat := cIf (isN n (T + 1)) (nt n) T
theorem TC.less {tp : Nat → Nat} {T n : Nat} (C : TC X tp T) (h : n ≤ T) : TC (up X 6 1 (nI n)) tp n := ⟨up_same _ _ _ _, fun i hi => by rw [up_row _ _ _ (by decide)]; exact C.2 i (by omega)⟩
theorem TM.less {tp : Nat → Nat} {T n : Nat} (C : TM X tp T) (h : n ≤ T) : TM (up X 12 5 (nI n)) tp n := ⟨up_same _ _ _ _, fun i hi => by rw [up_row _ _ _ (by decide)]; exact C.2 i (by omega)⟩
theorem TM.th {tp : Nat → Nat} {T : Nat} (C : TM X tp T) (v : Int32) : TM (up X 12 0 v) tp T := ⟨by rw [up_n _ _ _ (by decide)]; exact C.1, fun i hi => by rw [up_row _ _ _ (by decide)]; exact C.2 i hi⟩
theorem c_end (H : G A S h0 X h) {tp : Nat → Nat} {T : Nat} (C : TC X tp T) (hT : T ≤ 400) {n : Int32} (k : ∀ X' h', G A S h0 X' h' → TF X X' → TC X' tp (enT T n) → Q (enV T n) h') : w_X11_end (A 11) n h Q := by
  have kf : ¬ isN n (T + 1) → Q 0 h := by
    intro z
    rw [enV, enT, cIf_f z, cIf_f z] at k
    exact k X h H (TF.rf _) C
  dsimp only [w_X11_end_15, w_X11_end]
  refine br_if (fun c => kf (fun z => ?_)) (fun c => ?_)
  · obtain ⟨j, h1, rfl⟩ := z
    exact absurd c (nI_pos (by omega))
  · obtain ⟨j, hj, rfl⟩ := nI_of c
    refine fP (o := 11) H H.b rfl rfl ?_
    refine fG (o := 6) H H.b rfl ?_
    rw [C.1]
    refine br_Le hj (by omega) (fun d => ?_) (fun d => kf (fun z => ?_))
    · have z : isN (nI j) (T + 1) := ⟨j, by omega, rfl⟩
      rw [enV, enT, cIf_t z, cIf_t z, nt_nI hj] at k
      refine fP (o := 11) H H.b rfl rfl ?_
      refine uG (o := 6) H H.b rfl (fun h1 H1 => ?_)
      refine k _ h1 H1 (fun id m q1 q2 => ?_) (C.less d)
      by_cases e : id = 6
      · subst e
        rw [up_n _ _ _ (fun y => q2 ⟨rfl, y⟩)]
      · rw [up_row _ _ _ e]
    · obtain ⟨i, h1, h2⟩ := z
      rw [nI_eq hj (by omega)] at h2
      omega
theorem m_end_ (H : G A S h0 X h) {tp : Nat → Nat} {T : Nat} (C : TM X tp T) (hT : T ≤ 400) {n : Int32} (k : ∀ X' h', G A S h0 X' h' → UF X X' → TM X' tp (enT T n) → Q (enV T n) h') : w_X12_end (A 12) n h Q := by
  dsimp only [w_X12_end_17, w_X12_end]
  refine uG (o := 12) H H.b rfl (fun h1 H1 => ?_)
  have C1 := C.th 0
  have u1 : UF X (up X 12 0 0) := fun id m q1 q2 q3 q4 => by
    by_cases e : id = 12
    · subst e
      rw [up_n _ _ _ (fun y => q2 ⟨rfl, y⟩)]
    · rw [up_row _ _ _ e]
  generalize up X 12 0 0 = X1 at *
  have kf : ¬ isN n (T + 1) → Q 0 h1 := by
    intro z
    rw [enV, enT, cIf_f z, cIf_f z] at k
    exact k X1 h1 H1 u1 C1
  refine br_if (fun c => kf (fun z => ?_)) (fun c => ?_)
  · obtain ⟨j, h1, rfl⟩ := z
    exact absurd c (nI_pos (by omega))
  · obtain ⟨j, hj, rfl⟩ := nI_of c
    refine fG (o := 12) H1 H1.b rfl ?_
    rw [C1.1]
    refine br_Le hj (by omega) (fun d => ?_) (fun d => kf (fun z => ?_))
    · have z : isN (nI j) (T + 1) := ⟨j, by omega, rfl⟩
      rw [enV, enT, cIf_t z, cIf_t z, nt_nI hj] at k
      refine uG (o := 12) H1 H1.b rfl (fun h2 H2 => ?_)
      refine k _ h2 H2 (fun id m q1 q2 q3 q4 => ?_) (C1.less d)
      by_cases e : id = 12
      · subst e
        rw [up_n _ _ _ (fun y => q4 ⟨rfl, y⟩)]
        exact u1 _ _ q1 q2 q3 q4
      · rw [up_row _ _ _ e]
        exact u1 _ _ q1 q2 q3 q4
    · obtain ⟨i, h1, h2⟩ := z
      rw [nI_eq hj (by omega)] at h2
      omega
theorem c_fault (H : G A S h0 X h) (k : Q (X 6 2) h) : w_X11_fault (A 11) h Q := by
  dsimp only [w_X11_fault]
  refine fP (o := 11) H H.b rfl rfl ?_
  exact fG (o := 6) H H.b rfl k
theorem m_fault_ (H : G A S h0 X h) (k : ∀ X' h', G A S h0 X' h' → OT X X' → Q (X 12 10) h') : w_X12_fault (A 12) h Q := by
  dsimp only [w_X12_fault]
  refine uG (o := 12) H H.b rfl (fun h1 H1 => ?_)
  refine fG (o := 12) H1 H1.b rfl ?_
  rw [up_n _ _ _ (by decide)]
  exact k _ h1 H1 ((OT.rf X).th 0)
/-- the reference's image holds wk -/
def IR (X : Nat → Nat → Int32) (wk : Nat → Int32) : Prop := ∀ w, w < 8645 → X 1302 w = wk w
theorem m_image_ (H : G A S h0 X h) (M : MR X wd) (k : ∀ X' h', G A S h0 X' h' → (∀ id n, id ≠ 1302 → ¬ (id = 12 ∧ (n = 0 ∨ n = 3)) → X' id n = X id n) → X' 12 3 = 1 → MR X' wd → IR X' wd → Qv h') : w_X12_image (A 12) h Qv := by
  unfold w_X12_image
  refine uG (o := 12) H H.b rfl (fun h1 H1 => ?_)
  have M1 := M.off (id := 12) (by decide) 0 0
  refine lp_inv 8645 (fun j (s : Int32 × AH) => s.1 = nI j ∧ ∃ X', G A S h0 X' s.2 ∧ (∀ id, id ≠ 1302 → X' id = up X 12 0 0 id) ∧ ∀ w, w < j → X' 1302 w = wd w) (fun j s kk1 hj hI kk => ?_) (fun s kk1 hI => ?_) (Nat.zero_le _) ⟨rfl, _, H1, fun _ _ => rfl, fun w hw => absurd hw (Nat.not_lt_zero _)⟩
  · obtain ⟨v, h2⟩ := s
    obtain ⟨e1, X2, H2, f2, c2⟩ := hI
    dsimp only at e1 H2 ⊢
    subst e1
    dsimp only [w_X12_image_7]
    refine br_go (a := 8645) hj (by decide) ?_
    refine fP (o := 12) H2 H2.b rfl rfl ?_
    refine fP (o := 12) H2 H2.b rfl rfl ?_
    refine aG (id := 1301) H2 H2.b rfl (by decide) rfl (by omega) ?_
    refine tG (id := 1302) H2 H2.b rfl (by decide) rfl (by omega) (fun h3 H3 => ?_)
    refine kk _ ⟨(nI_succ j).symm, _, H3, fun id hid => by rw [up_row _ _ _ hid]; exact f2 id hid, fun w hw => ?_⟩
    by_cases e : w = j
    · subst e
      rw [up_same, f2 1301 (by decide)]
      exact M1 w hj
    · rw [up_n _ _ _ e]
      exact c2 w (by omega)
  · obtain ⟨v, h2⟩ := s
    obtain ⟨e1, X2, H2, f2, c2⟩ := hI
    dsimp only at e1 H2 ⊢
    subst e1
    dsimp only [w_X12_image_7, w_X12_image_32]
    refine br_end (a := 8645) ?_
    refine uZG (o := 12) H2 H2.b rfl (Or.inr rfl) (fun h3 H3 => ?_)
    refine k _ h3 H3 (fun id n q1 q2 => ?_) (up_same _ _ _ _) (fun w hw => ?_) (fun w hw => ?_)
    · by_cases e : id = 12
      · subst e
        rw [up_n _ _ _ (fun y => q2 ⟨rfl, Or.inr y⟩), f2 12 q1, up_n _ _ _ (fun y => q2 ⟨rfl, Or.inl y⟩)]
      · rw [up_row _ _ _ e, f2 id q1, up_row _ _ _ e]
    · rw [up_row _ _ _ (by decide), f2 1301 (by decide)]
      exact M1 w hw
    · rw [up_row _ _ _ (by decide)]
      exact c2 w hw
theorem m_back_ (H : G A S h0 X h) {wk : Nat → Int32} (I : IR X wk) (k1 : X 12 3 = 0 → ∀ X' h', G A S h0 X' h' → OT X X' → Q 0 h') (k2 : ¬ X 12 3 = 0 → ∀ X' h', G A S h0 X' h' → OW X X' → MR X' wk → Q 1 h') : w_X12_back (A 12) h Q := by
  unfold w_X12_back
  refine uG (o := 12) H H.b rfl (fun h1 H1 => ?_)
  refine fG (o := 12) H1 H1.b rfl ?_
  rw [up_n _ _ _ (by decide)]
  refine br_if (fun c => k1 c _ h1 H1 ((OT.rf X).th 0)) (fun c => ?_)
  refine lp_inv 8645 (fun j (s : Int32 × AH) => s.1 = nI j ∧ ∃ X', G A S h0 X' s.2 ∧ (∀ id, id ≠ 1301 → X' id = up X 12 0 0 id) ∧ ∀ w, w < j → X' 1301 w = wk w) (fun j s kk1 hj hI kk => ?_) (fun s kk1 hI => ?_) (Nat.zero_le _) ⟨rfl, _, H1, fun _ _ => rfl, fun w hw => absurd hw (Nat.not_lt_zero _)⟩
  · obtain ⟨v, h2⟩ := s
    obtain ⟨e1, X2, H2, f2, c2⟩ := hI
    dsimp only at e1 H2 ⊢
    subst e1
    dsimp only [w_X12_back_16]
    refine br_go (a := 8645) hj (by decide) ?_
    refine fP (o := 12) H2 H2.b rfl rfl ?_
    refine fP (o := 12) H2 H2.b rfl rfl ?_
    refine aG (id := 1302) H2 H2.b rfl (by decide) rfl (by omega) ?_
    refine tG (id := 1301) H2 H2.b rfl (by decide) rfl (by omega) (fun h3 H3 => ?_)
    refine kk _ ⟨(nI_succ j).symm, _, H3, fun id hid => by rw [up_row _ _ _ hid]; exact f2 id hid, fun w hw => ?_⟩
    by_cases e : w = j
    · subst e
      rw [up_same, f2 1302 (by decide), up_row _ _ _ (by decide)]
      exact I w hj
    · rw [up_n _ _ _ e]
      exact c2 w (by omega)
  · obtain ⟨v, h2⟩ := s
    obtain ⟨e1, X2, H2, f2, c2⟩ := hI
    dsimp only at e1 H2 ⊢
    subst e1
    dsimp only [w_X12_back_16, w_X12_back_41]
    refine br_end (a := 8645) ?_
    refine k2 c X2 h2 H2 (fun id n q1 q2 q3 => ?_) c2
    rw [f2 id q3]
    by_cases e : id = 12
    · subst e
      rw [up_n _ _ _ (fun y => q2 ⟨rfl, y⟩)]
    · rw [up_row _ _ _ e]
end ENDF
