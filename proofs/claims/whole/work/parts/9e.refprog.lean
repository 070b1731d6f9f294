/-! the reference's laws and stories -/
def LR (wd : Nat → Int32) (b : Nat) (L : List (Nat × Seg)) : Prop := wd b = nI L.length ∧ (∀ j, j < L.length → wd (b + (1 + 3 * j)) = nI (L.getD j (0, [])).1 ∧ wd (b + (2 + 3 * j)) = nI (sgL (L.take j)).length ∧ wd (b + (3 + 3 * j)) = nI (sgL (L.take (j + 1))).length) ∧ ∀ j, j < (sgL L).length → wd (b + (31 + 2 * j)) = nI ((sgL L).getD j (0, 0)).1 ∧ wd (b + (32 + 2 * j)) = nI ((sgL L).getD j (0, 0)).2
def SR (wd : Nat → Int32) (b : Nat) (s : Seg) : Prop := wd (b + 2) = 0 ∧ wd (b + 3) = nI s.length ∧ ∀ j, j < s.length → wd (b + (31 + 2 * j)) = nI (s.getD j (0, 0)).1 ∧ wd (b + (32 + 2 * j)) = nI (s.getD j (0, 0)).2
def UX (X X' : Nat → Nat → Int32) : Prop := ∀ id n, ¬ (id = 12 ∧ (n = 0 ∨ n = 5 ∨ n = 6 ∨ n = 7 ∨ n = 8 ∨ n = 9 ∨ n = 10 ∨ n = 12 ∨ n = 13)) → id ≠ 1301 → X' id n = X id n
theorem UW.ux {X X' : Nat → Nat → Int32} (a : UW X X') : UX X X' := fun id n h g => a id n h (fun z => g z.1)
theorem UW.mr {X X' : Nat → Nat → Int32} {wd : Nat → Int32} (a : UW X X') (M : MR X wd) : MR X' wd := fun w hw => by rw [a 1301 w (fun z => by omega) (fun z => by omega)]; exact M w hw
theorem UX.m1 {X X' : Nat → Nat → Int32} (a : UX X X') (n : Nat) (v : Int32) : UX X (up X' 1301 n v) := fun id m h g => by rw [up_row _ _ _ g]; exact a id m h g
theorem UX.z0 {X X' : Nat → Nat → Int32} (a : UX X X') (v : Int32) : UX X (up X' 12 0 v) := fun id m h g => by
  by_cases e : id = 12
  · subst e
    rw [up_n _ _ _ (fun z => h ⟨rfl, Or.inl z⟩)]
    exact a 12 m h g
  · rw [up_row _ _ _ e]
    exact a id m h g
theorem UX.cp {X X' : Nat → Nat → Int32} (a : UX X X') (b i : Nat) : UX X (cpy X' b i) := fun id m h g => by rw [cpy_id g]; exact a id m h g
theorem LR.of {X X' : Nat → Nat → Int32} {b : Nat} {L : List (Nat × Seg)} (D : DL X L) (hL : L.length ≤ 10) (hs : (sgL L).length ≤ 400) (e : ∀ j, j < 831 → X' 1301 (b + j) = X 1301 (8645 + j)) : LR (X' 1301) b L := by
  refine ⟨(e 0 (by decide)).trans D.1, fun j hj => ?_, fun j hj => ?_⟩
  · obtain ⟨d1, d2, d3⟩ := D.2.1 j hj
    rw [e _ (by omega), e _ (by omega), e _ (by omega), show 8645 + (1 + 3 * j) = 8646 + 3 * j by omega, show 8645 + (2 + 3 * j) = 8647 + 3 * j by omega, show 8645 + (3 + 3 * j) = 8648 + 3 * j by omega]
    exact ⟨d1, d2, d3⟩
  · obtain ⟨d1, d2⟩ := D.2.2 j hj
    rw [e _ (by omega), e _ (by omega), show 8645 + (31 + 2 * j) = 8676 + 2 * j by omega, show 8645 + (32 + 2 * j) = 8677 + 2 * j by omega]
    exact ⟨d1, d2⟩
theorem SR.of {X X' : Nat → Nat → Int32} {b : Nat} {s : Seg} (D : DS X s) (hs : s.length ≤ 400) (e : ∀ j, j < 831 → X' 1301 (b + j) = X 1301 (8645 + j)) : SR (X' 1301) b s := by
  refine ⟨(e 2 (by decide)).trans D.1, (e 3 (by decide)).trans D.2.1, fun j hj => ?_⟩
  obtain ⟨d1, d2⟩ := D.2.2 j hj
  rw [e _ (by omega), e _ (by omega), show 8645 + (31 + 2 * j) = 8676 + 2 * j by omega, show 8645 + (32 + 2 * j) = 8677 + 2 * j by omega]
  exact ⟨d1, d2⟩
theorem nz_1 : ¬ ((1 : Int32) = 0) := by decide
section MPROG
variable {A : Nat → Nat} {S : Nat → Prop} {h0 h : AH} {X : Nat → Nat → Int32} {wd : Nat → Int32} {B : Nat → Nat} {n N : Nat} {Q : Int32 → AH → Prop}
theorem m_law (H : G A S h0 X h) (M : MR X wd) (C : TM X B n) (hn : n ≤ 400) (hB : ∀ i, i < n → B i < 256) (hN : wd 2 = nI N) (h4 : N ≤ 4)
    (k1 : ∀ L, pLaw (tkH B n) false = .ok L → N < 4 → ∀ X' h' wd', G A S h0 X' h' → UX X X' → X' 12 0 = 0 → X' 12 5 = 0 → X' 12 10 = -1 → MR X' wd' → LR wd' (1166 + 831 * N) L → wd' 2 = nI (N + 1) → (∀ w, w < 8645 → w ≠ 2 → (w < 1166 + 831 * N ∨ 1166 + 831 * N + 831 ≤ w) → wd' w = wd w) → Q (nI N) h')
    (k2 : ∀ L, pLaw (tkH B n) false = .ok L → N = 4 → ∀ X' h', G A S h0 X' h' → UX X X' → X' 12 0 = 2 → X' 12 5 = 0 → X' 12 10 = -1 → MR X' wd → Q 0 h')
    (k3 : ∀ e, pLaw (tkH B n) false = .error e → ∀ X' h', G A S h0 X' h' → UX X X' → X' 12 0 = 1 → X' 12 5 = 0 → X' 12 10 = nI (tkB B n e) → MR X' wd → Q 0 h') : w_X12_law (A 12) h Q := by
  dsimp only [w_X12_law]
  refine vG (o := 12) H H.b rfl ?_
  refine m_reads0 H C hn hB (fun L e l10 X1 h1 H1 u1 c0 c5 c10 D => ?_) (fun e z X1 h1 H1 u1 c0 c5 c10 => ?_)
  · refine br_F nz_1 ?_
    dsimp only [w_X12_law_14, w_X12_throwsIf, w_X12_throwsIf_9]
    refine vG (o := 12) H1 H1.b rfl ?_
    refine br_T rfl ⟨Or.inl rfl, br_T rfl ?_⟩
    have M1 := u1.mr M
    refine fP (o := 12) H1 H1.b rfl rfl ?_
    refine aM H1 M1 (n := 2) rfl (by decide) ?_
    rw [hN]
    refine br_Eq (b := 4) (by omega) (by decide) (fun d => ?_) (fun d => ?_)
    · dsimp only [w_X12_law_37, w_X12_law_44, w_X12_throwsIf, w_X12_throwsIf_9]
      refine vG (o := 12) H1 H1.b rfl ?_
      refine br_F nz_1 ?_
      refine uG (o := 12) H1 H1.b rfl (fun h2 H2 => ?_)
      exact ⟨Or.inr rfl, br_F nz_1 (k2 L e d _ h2 H2 (u1.ux.z0 _) (up_same _ _ _ _) ((up_n _ _ _ (by decide)).trans c5) ((up_n _ _ _ (by decide)).trans c10) (M1.off (by decide) _ _))⟩
    · dsimp only [w_X12_law_37, w_X12_throwsIf, w_X12_throwsIf_9]
      refine vG (o := 12) H1 H1.b rfl ?_
      refine br_T rfl ⟨Or.inl rfl, br_T rfl ?_⟩
      refine fP (o := 12) H1 H1.b rfl rfl ?_
      refine aM H1 M1 (n := 2) rfl (by decide) ?_
      rw [hN]
      refine vG (o := 12) H1 H1.b rfl ?_
      refine m_keeps H1 (t := N) (by omega) (fun h2 H2 => ?_)
      have o2 : ∀ w, w < 8645 → (w < 1166 + 831 * N ∨ 1166 + 831 * N + 831 ≤ w) → cpy X1 (1166 + 831 * N) 831 1301 w = wd w := fun w hw z => by rw [cpy_out z]; exact M1 w hw
      refine fP (o := 12) H2 H2.b rfl rfl ?_
      refine aG (id := 1301) (n := 2) H2 H2.b rfl (by decide) rfl (by decide) ?_
      rw [o2 2 (by decide) (by omega), hN]
      refine tG (id := 1301) (n := 2) H2 H2.b rfl (by decide) rfl (by decide) (fun h3 H3 => ?_)
      refine fP (o := 12) H3 H3.b rfl rfl ?_
      refine aG (id := 1301) (n := 2) H3 H3.b rfl (by decide) rfl (by decide) ?_
      rw [up_same]
      have e5 : nI N + 1 - 1 = nI N := by rw [← nI_succ, nI_pred]
      rw [e5]
      refine k1 L e (by omega) _ h3 (fun w => up (cpy X1 (1166 + 831 * N) 831) 1301 2 (nI N + 1) 1301 w) H3 ((u1.ux.cp _ _).m1 _ _) ?_ ?_ ?_ (fun w _ => rfl) ?_ ?_ (fun w hw h2' z => ?_)
      · rw [up_row _ _ _ (by decide), cpy_id (by decide)]; exact c0
      · rw [up_row _ _ _ (by decide), cpy_id (by decide)]; exact c5
      · rw [up_row _ _ _ (by decide), cpy_id (by decide)]; exact c10
      · have l4 := (law_ok hn e).2.1
        have l5 := sg_lw (a := L)
        exact LR.of (X' := up (cpy X1 (1166 + 831 * N) 831) 1301 2 (nI N + 1)) D l10 (by omega) (fun j hj => by rw [up_n _ _ _ (by omega), cpy_in hj])
      · show up _ _ _ _ _ _ = _
        rw [up_same, nI_succ]
      · show up _ _ _ _ _ _ = _
        rw [up_n _ _ _ h2']
        exact o2 w hw z
  · refine br_T rfl ?_
    dsimp only [w_X12_law_14, w_X12_law_44, w_X12_throwsIf, w_X12_throwsIf_9]
    refine vG (o := 12) H1 H1.b rfl ?_
    refine br_F nz_1 ?_
    refine uG (o := 12) H1 H1.b rfl (fun h2 H2 => ?_)
    exact ⟨Or.inr rfl, br_F nz_1 (k3 e z _ h2 H2 (u1.ux.z0 _) (up_same _ _ _ _) ((up_n _ _ _ (by decide)).trans c5) ((up_n _ _ _ (by decide)).trans c10) ((u1.mr M).off (by decide) _ _))⟩
theorem m_story (H : G A S h0 X h) (M : MR X wd) (C : TM X B n) (hn : n ≤ 400) (hB : ∀ i, i < n → B i < 256) (hN : wd 6 = nI N) (h5 : N ≤ 5) {v : Int32}
    (k1 : ∀ s, pStory (tkH B n) true = .ok s → 1 ≤ v → v ≤ 99 → N < 5 → ∀ X' h' wd', G A S h0 X' h' → UX X X' → X' 12 0 = 0 → X' 12 5 = 0 → X' 12 10 = -1 → MR X' wd' → SR wd' (1166 + 831 * (4 + N)) s → wd' (1161 + N) = v → wd' 6 = nI (N + 1) → (∀ w, w < 8645 → w ≠ 6 → w ≠ 1161 + N → (w < 1166 + 831 * (4 + N) ∨ 1166 + 831 * (4 + N) + 831 ≤ w) → wd' w = wd w) → Q (nI N) h')
    (k2 : ∀ s, pStory (tkH B n) true = .ok s → 1 ≤ v → v ≤ 99 → N = 5 → ∀ X' h', G A S h0 X' h' → UX X X' → X' 12 0 = 2 → X' 12 5 = 0 → X' 12 10 = -1 → MR X' wd → Q 0 h')
    (k3 : ∀ s, pStory (tkH B n) true = .ok s → (v < 1 ∨ 99 < v) → ∀ X' h', G A S h0 X' h' → UX X X' → X' 12 0 = 1 → X' 12 5 = 0 → X' 12 10 = -1 → MR X' wd → Q 0 h')
    (k4 : ∀ e, pStory (tkH B n) true = .error e → ∀ X' h', G A S h0 X' h' → UX X X' → X' 12 0 = 1 → X' 12 5 = 0 → X' 12 10 = nI (tkB B n e) → MR X' wd → Q 0 h') : w_X12_story (A 12) v h Q := by
  dsimp only [w_X12_story, w_X12_in, w_X12_in_14, w_X12_in_15, w_X12_story_19]
  refine vG (o := 12) H H.b rfl ?_
  have bad : ∀ (X1 : Nat → Nat → Int32) (h1 : AH) (f : Int32), G A S h0 X1 h1 → UW X X1 → X1 12 5 = 0 → X1 12 10 = f → (∀ X' h', G A S h0 X' h' → UX X X' → X' 12 0 = 1 → X' 12 5 = 0 → X' 12 10 = f → MR X' wd → Q 0 h') → w_X12_story_24 (A 12) v (A 12) 1 h1 Q := by
    intro X1 h1 f H1 u1 c5 c10 kk
    dsimp only [w_X12_story_24, w_X12_story_55, w_X12_throwsIf, w_X12_throwsIf_9]
    refine vG (o := 12) H1 H1.b rfl ?_
    refine br_F nz_1 ?_
    refine uG (o := 12) H1 H1.b rfl (fun h2 H2 => ?_)
    exact ⟨Or.inr rfl, br_F nz_1 (kk _ h2 H2 (u1.ux.z0 _) (up_same _ _ _ _) ((up_n _ _ _ (by decide)).trans c5) ((up_n _ _ _ (by decide)).trans c10) ((u1.mr M).off (by decide) _ _))⟩
  refine m_reads1 H C hn hB (fun s e X1 h1 H1 u1 c0 c5 c10 D => ?_) (fun e z X1 h1 H1 u1 c0 c5 c10 => br_T rfl (bad X1 h1 _ H1 u1 c5 c10 (k4 e z)))
  refine br_F nz_1 ?_
  refine br_if (fun w => ⟨Or.inl rfl, br_T rfl (bad X1 h1 _ H1 u1 c5 c10 (k3 s e (Or.inl w)))⟩) (fun w => ?_)
  refine br_if (fun w2 => ⟨Or.inl rfl, br_T rfl (bad X1 h1 _ H1 u1 c5 c10 (k3 s e (Or.inr w2)))⟩) (fun w2 => ?_)
  refine ⟨Or.inr rfl, br_F nz_1 ?_⟩
  have v1 : 1 ≤ v := Int32.not_lt.mp w
  have v2 : v ≤ 99 := Int32.not_lt.mp w2
  dsimp only [w_X12_story_24, w_X12_throwsIf, w_X12_throwsIf_9]
  refine vG (o := 12) H1 H1.b rfl ?_
  refine br_T rfl ⟨Or.inl rfl, br_T rfl ?_⟩
  have M1 := u1.mr M
  refine fP (o := 12) H1 H1.b rfl rfl ?_
  refine aM H1 M1 (n := 6) rfl (by decide) ?_
  rw [hN]
  refine br_Eq (b := 5) (by omega) (by decide) (fun d => ?_) (fun d => ?_)
  · dsimp only [w_X12_story_48, w_X12_story_55, w_X12_throwsIf, w_X12_throwsIf_9]
    refine vG (o := 12) H1 H1.b rfl ?_
    refine br_F nz_1 ?_
    refine uG (o := 12) H1 H1.b rfl (fun h2 H2 => ?_)
    exact ⟨Or.inr rfl, br_F nz_1 (k2 s e v1 v2 d _ h2 H2 (u1.ux.z0 _) (up_same _ _ _ _) ((up_n _ _ _ (by decide)).trans c5) ((up_n _ _ _ (by decide)).trans c10) (M1.off (by decide) _ _))⟩
  · dsimp only [w_X12_story_48, w_X12_throwsIf, w_X12_throwsIf_9]
    refine vG (o := 12) H1 H1.b rfl ?_
    refine br_T rfl ⟨Or.inl rfl, br_T rfl ?_⟩
    refine fP (o := 12) H1 H1.b rfl rfl ?_
    refine aM H1 M1 (n := 6) rfl (by decide) ?_
    rw [hN]
    refine vG (o := 12) H1 H1.b rfl ?_
    rw [show (4 : Int32) + nI N = nI (4 + N) from nI_add _ _]
    refine m_keeps H1 (t := 4 + N) (by omega) (fun h2 H2 => ?_)
    generalize hb : 1166 + 831 * (4 + N) = b at *
    have o2 : ∀ w, w < 8645 → (w < b ∨ b + 831 ≤ w) → cpy X1 b 831 1301 w = wd w := fun w hw z => by rw [cpy_out z]; exact M1 w hw
    refine fP (o := 12) H2 H2.b rfl rfl ?_
    refine tG (id := 1301) (n := 1161 + N) H2 H2.b rfl (by decide) (nI_add 1161 N) (by omega) (fun h3 H3 => ?_)
    refine fP (o := 12) H3 H3.b rfl rfl ?_
    refine aG (id := 1301) (n := 6) H3 H3.b rfl (by decide) rfl (by decide) ?_
    rw [up_n _ _ _ (by omega), o2 6 (by decide) (by omega), hN]
    refine tG (id := 1301) (n := 6) H3 H3.b rfl (by decide) rfl (by decide) (fun h4 H4 => ?_)
    refine k1 s e v1 v2 (by omega) _ h4 (fun w => up (up (cpy X1 b 831) 1301 (1161 + N) v) 1301 6 (nI N + 1) 1301 w) H4 (((u1.ux.cp _ _).m1 _ _).m1 _ _) ?_ ?_ ?_ (fun w _ => rfl) ?_ ?_ ?_ (fun w hw h6 h7 z => ?_)
    · rw [up_row _ _ _ (by decide), up_row _ _ _ (by decide), cpy_id (by decide)]; exact c0
    · rw [up_row _ _ _ (by decide), up_row _ _ _ (by decide), cpy_id (by decide)]; exact c5
    · rw [up_row _ _ _ (by decide), up_row _ _ _ (by decide), cpy_id (by decide)]; exact c10
    · have l4 := (story_ok hn e).2.2
      have l5 := seg_len (s := s)
      exact SR.of (X' := up (up (cpy X1 b 831) 1301 (1161 + N) v) 1301 6 (nI N + 1)) D (by omega) (fun j hj => by rw [up_n _ _ _ (by omega), up_n _ _ _ (by omega), cpy_in hj])
    · show up _ _ _ _ _ _ = _
      rw [up_n _ _ _ (by omega), up_same]
    · show up _ _ _ _ _ _ = _
      rw [up_same, nI_succ]
    · show up _ _ _ _ _ _ = _
      rw [up_n _ _ _ h6, up_n _ _ _ h7]
      exact o2 w hw z
end MPROG
