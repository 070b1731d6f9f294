/-! ways: the reference's gathers, handsOf, way -/
def gaL (wd : Nat → Int32) (N : Nat → Nat) (g : Nat) : Nat → List Nat
  | 0 => []
  | f + 1 => if (gaL wd N g f).length < 8 ∧ sureG wd N f = some g then gaL wd N g f ++ [f] else gaL wd N g f
theorem gaL_len {wd : Nat → Int32} {N : Nat → Nat} {g : Nat} : ∀ {n : Nat}, (gaL wd N g n).length ≤ 8 := by
  intro n
  induction n with
  | zero => exact Nat.zero_le _
  | succ n ih =>
    simp only [gaL]
    split
    · rename_i c
      rw [List.length_append, List.length_singleton]
      omega
    · exact ih
theorem gaL_lt {wd : Nat → Int32} {N : Nat → Nat} {g : Nat} : ∀ {n i : Nat}, i < (gaL wd N g n).length → (gaL wd N g n).getD i 0 < n := by
  intro n
  induction n with
  | zero => intro i h; exact absurd h (Nat.not_lt_zero _)
  | succ n ih =>
    intro i
    simp only [gaL]
    split
    · intro h
      rw [List.length_append, List.length_singleton] at h
      by_cases e : i < (gaL wd N g n).length
      · have := ih e
        simp only [List.getD_eq_getElem?_getD] at this ⊢
        rw [List.getElem?_append_left e]
        omega
      · have e2 : i = (gaL wd N g n).length := by omega
        simp only [List.getD_eq_getElem?_getD]
        rw [e2, List.getElem?_append_right (Nat.le_refl _), Nat.sub_self]
        simp
    · intro h
      have := ih h
      omega
theorem gaL_full {wd : Nat → Int32} {N : Nat → Nat} {g n : Nat} (h : 8 ≤ (gaL wd N g n).length) : ∀ d, gaL wd N g (n + d) = gaL wd N g n := by
  intro d
  induction d with
  | zero => rfl
  | succ d ih =>
    rw [← Nat.add_assoc]
    simp only [gaL]
    rw [ih, if_neg (fun z => by omega)]
theorem enM_100 {o : Option Nat} (h : ∀ t, o = some t → t ≤ 239) : ((100000 : Int32) ≤ enM o) ↔ o = none := by
  cases o with
  | none => exact ⟨fun _ => rfl, fun _ => Int32.le_refl _⟩
  | some t =>
    have := h t rfl
    refine ⟨fun e => ?_, fun e => by cases e⟩
    have e2 : nI 100000 ≤ nI t := e
    rw [nI_leI (by decide) (by omega)] at e2
    omega
theorem A_uniq {pos : Nat → Prop} {n : Nat} {t u : Nat → Nat} (T : IsA pos n t) (U : IsA pos n u) : ∀ (m s : Nat), s ≤ m → s < 2 ^ n → t s = u s := by
  intro m
  induction m with
  | zero =>
    intro s h _
    have : s = 0 := by omega
    subst this
    rw [T.1, U.1]
  | succ m ih =>
    intro s h hs
    by_cases c : s = 0
    · subst c
      rw [T.1, U.1]
    · obtain ⟨t1, t2, t3⟩ := T.2 s (by omega) hs
      obtain ⟨u1, u2, u3⟩ := U.2 s (by omega) hs
      have h1 : t s ≤ u s := by
        rcases u3 with u3 | ⟨p, p1, p2, p3, p4⟩
        · omega
        · have := xor_lt p1 p2
          have := t2 p p1 p2 p3
          rw [ih (s ^^^ p) (by omega) (by omega)] at this
          omega
      have h2 : u s ≤ t s := by
        rcases t3 with t3 | ⟨p, p1, p2, p3, p4⟩
        · omega
        · have := xor_lt p1 p2
          have := u2 p p1 p2 p3
          rw [← ih (s ^^^ p) (by omega) (by omega)] at this
          omega
      omega
/-- the fewest hands for all n cases -/
noncomputable def hv (pos : Nat → Prop) (n : Nat) : Nat := cIf (∃ u, IsA pos n u) (Classical.epsilon (IsA pos n) (2 ^ n - 1)) 0
theorem hv_eq {pos : Nat → Prop} {n : Nat} {u : Nat → Nat} (U : IsA pos n u) : hv pos n = u (2 ^ n - 1) := by
  have hx : ∃ u, IsA pos n u := ⟨u, U⟩
  unfold hv
  rw [cIf_t hx]
  have := Nat.two_pow_pos n
  exact A_uniq (Classical.epsilon_spec hx) U _ _ (Nat.le_refl _) (by omega)
section WAYR
variable {A : Nat → Nat} {S : Nat → Prop} {h0 h : AH} {X : Nat → Nat → Int32} {wd : Nat → Int32} {N : Nat → Nat} {Q : Int32 → AH → Prop} {Qv : AH → Prop} {n : Nat} {c : Nat → Nat}
theorem m_gathers (H : G A S h0 X h) (M : MR X wd) (O : Ok wd N) {g : Nat} (hg : g < N 0) (k : ∀ X' h', G A S h0 X' h' → OM X X' → RoL X' 1319 (gaL wd N g (N 3)) → X' 12 20 = nI (gaL wd N g (N 3)).length → Qv h') : w_X12_gathers (A 12) (nI g) h Qv := by
  obtain ⟨e3, h3⟩ := O.f
  have h8 := O.g.2
  dsimp only [w_X12_gathers]
  refine uG (o := 12) H H.b rfl (fun h1 H1 => ?_)
  refine lp_inv (N 3) (fun j (s : Int32 × AH) => s.1 = nI j ∧ ∃ X', G A S h0 X' s.2 ∧ OM X X' ∧ RoL X' 1319 (gaL wd N g j) ∧ X' 12 20 = nI (gaL wd N g j).length) (fun j s kk1 hj hI kk => ?_) (fun s kk1 hI => ?_) (Nat.zero_le _) ⟨rfl, _, H1, (OM.rf X).up (by decide) _, RoL.nil, up_same _ _ _ _⟩
  · obtain ⟨v, h2⟩ := s
    obtain ⟨e1, X2, H2, o2, L2, n2⟩ := hI
    dsimp only at e1 H2 ⊢
    subst e1
    have M2 := o2.MR M
    have hl := gaL_len (wd := wd) (N := N) (g := g) (n := j)
    dsimp only [w_X12_gathers_7, w_X12_gathers_56, w_X12_gathers_62]
    refine vG (o := 12) H2 H2.b rfl ?_
    refine m_finds H2 M2 ?_
    rw [e3]
    refine br_go hj (by omega) ?_
    refine fG (o := 12) H2 H2.b rfl ?_
    rw [n2]
    refine br_Le (a := 8) (by decide) (by omega) (fun c1 => ?_) (fun c1 => ?_)
    · obtain ⟨d, hd⟩ := Nat.exists_eq_add_of_lt hj
      have e := gaL_full c1 (d + 1)
      rw [← Nat.add_assoc, ← hd] at e
      exact k X2 h2 H2 o2 (by rw [e]; exact L2) (by rw [e]; exact n2)
    · refine vG (o := 12) H2 H2.b rfl ?_
      refine m_sureOf H2 M2 O (by omega) ?_
      have no : ¬ sureG wd N j = some g → kk1 (nI j + 1, h2) := by
        intro z
        refine kk _ ⟨(nI_succ j).symm, X2, H2, o2, ?_, ?_⟩
        · simp only [gaL]
          rw [if_neg (fun y => z y.2)]
          exact L2
        · simp only [gaL]
          rw [if_neg (fun y => z y.2)]
          exact n2
      refine br_if (fun d => ?_) (fun d => ?_)
      · have ds : sureG wd N j = some g := by
          cases z : sureG wd N j with
          | none => rw [z] at d; exact absurd d.symm (neg1_nI (by omega))
          | some g2 =>
            rw [z] at d
            have g3 := ((sureG_iff O).mp z).1
            rw [(nI_eq (by omega) (by omega)).mp d]
        refine fP (o := 12) H2 H2.b rfl rfl ?_
        refine fG (o := 12) H2 H2.b rfl ?_
        rw [n2]
        refine tG (id := 1319) H2 H2.b rfl (by decide) rfl (by omega) (fun h3_ H3 => ?_)
        refine fG (o := 12) H3 H3.b rfl ?_
        refine uG (o := 12) H3 H3.b rfl (fun h4 H4 => ?_)
        refine kk _ ⟨(nI_succ j).symm, _, H4, (o2.up (mS_row rfl) _).up (by decide) _, ?_, ?_⟩
        · simp only [gaL]
          rw [if_pos ⟨c1, ds⟩]
          refine RoL.off (L2.add j) ?_
          rw [up_row _ _ _ (by decide)]
        · simp only [gaL]
          rw [if_pos ⟨c1, ds⟩, up_same, up_row _ _ _ (by decide), n2, List.length_append, List.length_singleton, nI_succ]
      · refine no (fun z => d ?_)
        rw [z]
        rfl
  · obtain ⟨v, h2⟩ := s
    obtain ⟨e1, X2, H2, o2, L2, n2⟩ := hI
    dsimp only at e1 H2 ⊢
    subst e1
    dsimp only [w_X12_gathers_7, w_X12_gathers_62]
    refine vG (o := 12) H2 H2.b rfl ?_
    refine m_finds H2 (o2.MR M) ?_
    rw [e3]
    exact br_end (k X2 h2 H2 o2 L2 n2)
theorem m_handsOf (H : G A S h0 X h) (hX : X 12 20 = nI n) (hn : n ≤ 8) {F : Nat → Nat → Option Nat} (B : TB F) (E : TE 1321 enM n F X) (kk : ∀ X' h' t, G A S h0 X' h' → OM X X' → IsA (fun s => erl F s n ≠ none) n t → Q (nI (t (2 ^ n - 1))) h') : w_X12_handsOf (A 12) h Q := by
  have hp8 := p2_8 hn
  have hp0 := Nat.two_pow_pos n
  have hb : ∀ s t, erl F s n = some t → t ≤ 239 := fun s t ht => by
    obtain ⟨⟨i, i1, i2⟩, _⟩ := erl_some ht
    exact (B _ _ t i2).1
  generalize hpos : (fun s => erl F s n ≠ none) = pos at kk
  have hpos2 : ∀ s, pos s ↔ erl F s n ≠ none := fun s => by rw [← hpos]
  dsimp only [w_X12_handsOf]
  refine fP (o := 12) H H.b rfl rfl ?_
  refine tG (id := 1322) (n := 0) H H.b rfl (by decide) rfl (by omega) (fun h1 H1 => ?_)
  refine lp_inv (2 ^ n) (fun s (x : Int32 × AH) => 0 < s ∧ x.1 = nI s ∧ ∃ X' t, G A S h0 X' x.2 ∧ Off [1322] X X' ∧ (∀ j, j < s → X' 1322 j = nI (t j)) ∧ IsAp pos n t s) (fun s x kk2 hs hI kn => ?_) (fun x kk2 hI => ?_) (i := 1) (by omega) ⟨by decide, rfl, _, fun _ => 0, H1, (Off.rf _ _).up (by decide) _ _, fun j hj => ?_, rfl, fun s a b => by omega⟩
  · obtain ⟨v, h2⟩ := x
    obtain ⟨s0, e1, X2, t, H2, o2, V2, I2⟩ := hI
    dsimp only at s0 e1 H2 ⊢
    subst e1
    have tn : ∀ j, j < s → t j ≤ 9 := by
      intro j hj
      by_cases z : j = 0
      · subst z; rw [I2.1]; exact Nat.zero_le _
      · exact (I2.2 j (by omega) hj).1
    dsimp only [w_X12_handsOf_9]
    refine fG (o := 12) H2 H2.b rfl ?_
    rw [o2 12 (by decide), hX, sh1 (by omega)]
    refine br_go hs (by omega) ?_
    refine fP (o := 12) H2 H2.b rfl rfl ?_
    refine tG (id := 1322) H2 H2.b rfl (by decide) rfl (by omega) (fun h3 H3 => ?_)
    refine lp_ind (fun m (x : Int32 × AH) => ∃ p c X', p ≤ m ∧ x.1 = nI p ∧ sub_ p s ∧ G A S h0 X' x.2 ∧ Off [1322] X X' ∧ (∀ j, j < s → X' 1322 j = nI (t j)) ∧ X' 1322 s = nI c ∧ c ≤ 9 ∧ (∀ q, sub_ q s → p < q → pos q → c ≤ t (s ^^^ q) + 1) ∧ (c = 9 ∨ ∃ q, sub_ q s ∧ q ≠ 0 ∧ pos q ∧ c = t (s ^^^ q) + 1)) (fun m x k3 hI kn3 => ?_) s _ ⟨s, 9, _, Nat.le_refl _, rfl, sub_rf s, H3, o2.up (by decide) _ _, fun j hj => ?_, up_same _ _ _ _, Nat.le_refl _, fun q q1 q2 => ?_, Or.inl rfl⟩
    · obtain ⟨v, h4⟩ := x
      obtain ⟨p, c, X4, pm, e1, ps, H4, o4, V4, v4, cn, cl_, cr⟩ := hI
      dsimp only at e1 H4 ⊢
      subst e1
      have pl := sub_le_ ps
      dsimp only [w_X12_handsOf_29, w_X12_handsOf_71, w_X12_handsOf_80]
      by_cases p0 : p = 0
      · subst p0
        refine br_T (Int32.le_refl _) ?_
        refine kn _ ⟨by omega, (nI_succ s).symm, X4, put1 t s c, H4, o4, fun j hj => ?_, I2.put s0 cn (fun q q1 q2 q3 => cl_ q q1 (by omega) q3) cr⟩
        by_cases z : j = s
        · subst z; rw [put1_s]; exact v4
        · rw [put1_n z]; exact V4 j (by omega)
      · refine br_F (nI_ge (a := 0) (b := p) (by omega) (by omega)) ?_
        have nx : ∀ X5 h5 c', G A S h0 X5 h5 → Off [1322] X X5 → (∀ j, j < s → X5 1322 j = nI (t j)) → X5 1322 s = nI c' → c' ≤ 9 → (∀ q, sub_ q s → p ≤ q → pos q → c' ≤ t (s ^^^ q) + 1) → (c' = 9 ∨ ∃ q, sub_ q s ∧ q ≠ 0 ∧ pos q ∧ c' = t (s ^^^ q) + 1) → k3 ((nI p - 1) &&& nI s, h5) := by
          intro X5 h5 c' H5 o5 V5 v5 cn5 cl5 cr5
          have lt : (p - 1) &&& s ≤ p - 1 := Nat.and_le_left
          refine kn3 (m - 1) _ (by omega) ⟨(p - 1) &&& s, c', X5, by omega, ?_, sub_and, H5, o5, V5, v5, cn5, fun q q1 q2 q3 => ?_, cr5⟩
          · rw [sub_1 (by omega), nI_and]
          · refine cl5 q q1 (Nat.le_of_not_lt (fun z => ?_)) q3
            have := sub_next p p s q (Nat.le_refl _) ps (by omega) q1 z
            omega
        have E4 : TE 1321 enM n F X4 := fun a b ha hb => by rw [o4 1321 (by decide)]; exact E a b ha hb
        refine vG (o := 12) H4 H4.b rfl ?_
        refine m_earliest H4 (by rw [o4 12 (by decide)]; exact hX) hn B E4 (by omega) ?_
        refine br_if (fun c1 => ?_) (fun c1 => ?_)
        · rw [enM_100 (hb p)] at c1
          refine bd_i (nx X4 h4 c H4 o4 V4 v4 cn (fun q q1 q2 q3 => ?_) cr)
          refine cl_ q q1 (Nat.lt_of_le_of_ne q2 ?_) q3
          rintro rfl
          exact ((hpos2 _).mp q3) c1
        · rw [enM_100 (hb p)] at c1
          have pp := (hpos2 p).mpr c1
          have xl := xor_lt ps p0
          have tx := tn _ xl
          refine fP (o := 12) H4 H4.b rfl rfl ?_
          refine fP (o := 12) H4 H4.b rfl rfl ?_
          refine aG (id := 1322) H4 H4.b rfl (by decide) rfl (by omega) ?_
          refine fP (o := 12) H4 H4.b rfl rfl ?_
          rw [and_not ps]
          refine aG (id := 1322) H4 H4.b rfl (by decide) rfl (by omega) ?_
          rw [v4, V4 _ xl, Int32.add_comm, ← nI_succ, j_min (by omega) (by omega)]
          refine tG (id := 1322) H4 H4.b rfl (by decide) rfl (by omega) (fun h5 H5 => ?_)
          refine bd_i (nx _ h5 (min c (t (s ^^^ p) + 1)) H5 (o4.up (by decide) _ _) (fun j hj => by rw [up_n _ _ _ (by omega)]; exact V4 j hj) (up_same _ _ _ _) (by omega) (fun q q1 q2 q3 => ?_) ?_)
          · by_cases z : q = p
            · subst z; exact Nat.min_le_right _ _
            · exact Nat.le_trans (Nat.min_le_left _ _) (cl_ q q1 (by omega) q3)
          · rcases Nat.le_total c (t (s ^^^ p) + 1) with z | z
            · rw [Nat.min_eq_left z]; exact cr
            · rw [Nat.min_eq_right z]; exact Or.inr ⟨p, ps, p0, pp, rfl⟩
    · rw [up_n _ _ _ (by omega)]
      exact V2 j hj
    · have := sub_le_ q1
      omega
  · obtain ⟨v, h2⟩ := x
    obtain ⟨s0, e1, X2, t, H2, o2, V2, I2⟩ := hI
    dsimp only at s0 e1 H2 ⊢
    subst e1
    dsimp only [w_X12_handsOf_9, w_X12_handsOf_86]
    refine fG (o := 12) H2 H2.b rfl ?_
    rw [o2 12 (by decide), hX, sh1 (by omega)]
    refine br_end ?_
    refine fP (o := 12) H2 H2.b rfl rfl ?_
    refine fG (o := 12) H2 H2.b rfl ?_
    rw [o2 12 (by decide), hX, shf hn]
    refine aG (id := 1322) H2 H2.b rfl (by decide) rfl (by omega) ?_
    rw [V2 _ (by omega)]
    exact kk X2 h2 t H2 (fun id m hm => by
      have : id ≠ 1322 := by
        rintro rfl
        rw [mS_row (by rfl)] at hm
        cases hm
      rw [o2 id (by simpa using this)]) I2.a
  · rw [show j = 0 by omega, up_same]
    rfl
end WAYR
def waL (wd : Nat → Int32) (N : Nat → Nat) (g : Nat) : List Nat := gaL wd N g (N 3)
def waC (wd : Nat → Int32) (N : Nat → Nat) (g : Nat) : Nat → Nat := fun i => (waL wd N g).getD i 0
abbrev waF (wd : Nat → Int32) (N : Nat → Nat) (g : Nat) : Nat → Nat → Option Nat := Fc (frW wd (waC wd N g)) (tiW wd (waC wd N g)) (onW wd (waC wd N g)) (waL wd N g).length
abbrev waE (wd : Nat → Int32) (N : Nat → Nat) (g : Nat) : Option Nat := erl (waF wd N g) (2 ^ (waL wd N g).length - 1) (waL wd N g).length
abbrev waB (wd : Nat → Int32) (N : Nat → Nat) (g E : Nat) : Nat → Nat → Option Nat := Bc (frW wd (waC wd N g)) (tiW wd (waC wd N g)) (onW wd (waC wd N g)) (waL wd N g).length E
noncomputable def wayV (wd : Nat → Int32) (N : Nat → Nat) (g j : Nat) : Int32 :=
  if j = 0 then nI (hv (fun s => erl (waF wd N g) s (waL wd N g).length ≠ none) (waL wd N g).length)
  else if j = 1 then en1 (waE wd N g)
  else match waE wd N g with
    | none => -1
    | some E => match fsO (fun k => (waB wd N g E (2 ^ (waL wd N g).length - 1) k).isSome) (waL wd N g).length with
      | none => -1
      | some k => nI (waC wd N g k)
noncomputable def wayS (wd : Nat → Int32) (N : Nat → Nat) (p w : Int32) : Int32 × Int32 := cIf (isN p (N 0)) (cIf (isN w 3) (0, wayV wd N (nt p) (nt w)) (2, 0)) (1, 0)
theorem waC_lt {wd : Nat → Int32} {N : Nat → Nat} {g i : Nat} (h : i < (waL wd N g).length) : waC wd N g i < N 3 := gaL_lt h
/-- the forward table from one case alone -/
abbrev waK (wd : Nat → Int32) (N : Nat → Nat) (g k : Nat) : Nat → Nat → Option Nat := stS (frW wd (waC wd N g)) (tiW wd (waC wd N g)) (onW wd (waC wd N g)) (waL wd N g).length (iniT (waL wd N g).length (fun i => decide (i = k)) (frW wd (waC wd N g))) (2 ^ (waL wd N g).length)
theorem wa_first {wd : Nat → Int32} {N : Nat → Nat} {g E k : Nat} (O : Ok wd N) (hk : k < (waL wd N g).length) (hE : waE wd N g = some E) : erl (waK wd N g k) (2 ^ (waL wd N g).length - 1) (waL wd N g).length = some E ↔ (waB wd N g E (2 ^ (waL wd N g).length - 1) k).isSome = true := by
  have B := W_WB O (c := waC wd N g) (n := (waL wd N g).length) gaL_len (fun i hi => waC_lt hi)
  have e := way_first (s := 2 ^ (waL wd N g).length - 1) (C := 239) (fun i hi => (B.2.1 i hi).1) (fr2 := bF (tiW wd (waC wd N g))) (ti2 := bF (frW wd (waC wd N g))) (on2 := bO (onW wd (waC wd N g))) (fun i hi => by have := B.2.1 i hi; dsimp only [bF]; omega) (fun i hi => by have := B.2.1 i hi; dsimp only [bF]; omega) (fun k i => rfl) hk
    (T0 := T0c (waL wd N g).length (frW wd (waC wd N g))) (F0 := waF wd N g) (iniT_Ini (fun i _ => ⟨fun _ => trivial, fun _ => rfl⟩)) (Jn.stSI _) hE
    (T1 := iniT (waL wd N g).length (fun i => decide (i = k)) (frW wd (waC wd N g))) (F := waK wd N g k) (iniT_Ini (fun i _ => by rw [decide_eq_true_iff])) (Jn.stSI _)
    (T2 := T2c (waL wd N g).length (frW wd (waC wd N g)) (tiW wd (waC wd N g)) E) (B := waB wd N g E) (iniT_Ini (fun i hi => by rw [decide_eq_true_iff]; exact ⟨fun z => ⟨hi, z⟩, fun z => z.2⟩)) (Jn.stSI _)
  rw [e]
  cases waB wd N g E (2 ^ (waL wd N g).length - 1) k with
  | none => exact ⟨fun z => absurd rfl z, fun z => by cases z⟩
  | some t => exact ⟨fun _ => rfl, fun _ z => by cases z⟩
section WAYR2
variable {A : Nat → Nat} {S : Nat → Prop} {h0 h : AH} {X : Nat → Nat → Int32} {wd : Nat → Int32} {N : Nat → Nat} {Q : Int32 → AH → Prop} {Qv : AH → Prop}
theorem OM.of1 {X X' : Nat → Nat → Int32} (o : Off [1321] X X') : OM X X' := fun id m hm => by
  have : id ≠ 1321 := by
    rintro rfl
    rw [mS_row (by rfl)] at hm
    cases hm
  rw [o id (by simpa using this)]
theorem m_way_ (H : G A S h0 X h) (M : MR X wd) (O : Ok wd N) {p w : Int32} (k : ∀ X' h', G A S h0 X' h' → OT X X' → X' 12 0 = (wayS wd N p w).1 → Q (wayS wd N p w).2 h') : w_X12_way (A 12) p w h Q := by
  obtain ⟨e1, h8⟩ := O.g
  dsimp only [w_X12_way, w_X12_way_34, w_X12_way_41]
  refine m_ent H M (fun X1 h1 H1 M1 o1 t1 => ?_)
  clear H M
  refine vG (o := 12) H1 H1.b rfl ?_
  refine m_num H1 M1 (ix0 0) (by decide) (by omega) e1 (fun c1 => ?_) (fun c1 => ?_)
  · rw [wayS, cIf_t c1] at k
    obtain ⟨g, hg, rfl⟩ := c1
    rw [nt_nI (by omega)] at k
    refine vG (o := 12) H1 H1.b rfl ?_
    refine thr0 (br_T rfl ?_)
    refine m_rng (fun c2 => ?_) (fun c2 => ?_)
    · have c3 := (isN_le (m := 3) (by decide)).mp c2
      rw [cIf_t c3] at k
      obtain ⟨j, hj, rfl⟩ := c3
      rw [nt_nI (by omega)] at k
      dsimp only at k
      refine br_F (by decide) ?_
      refine vG (o := 12) H1 H1.b rfl ?_
      refine thr0 (br_T rfl ?_)
      refine vG (o := 12) H1 H1.b rfl ?_
      refine m_gathers H1 M1 O hg (fun X2 h2 H2 o2 L2 n2 => ?_)
      refine vG (o := 12) H2 H2.b rfl ?_
      have M2 := o2.MR M1
      have hl : (waL wd N g).length ≤ 8 := gaL_len
      have W2 : RW X2 (waL wd N g).length (waC wd N g) := ⟨n2, fun i hi => L2 i hi⟩
      have hc : ∀ i, i < (waL wd N g).length → waC wd N g i < N 3 := fun i hi => waC_lt hi
      have B := W_WB O (c := waC wd N g) hl hc
      have t2 : X2 12 0 = 0 := by rw [o2 12 0 (by decide)]; exact t1
      refine m_leads H2 M2 O W2 hl hc (Or.inl ⟨rfl, rfl⟩) (fun X3 h3 H3 o3 E3 => ?_)
      have BF : TB (waF wd N g) := Fc_TB B
      have o3' : OT X X3 := o1.tr ((OT.of o2).tr (OT.of (OM.of1 o3)))
      have t3 : X3 12 0 = 0 := by rw [o3 12 (by decide)]; exact t2
      have n3 : X3 12 20 = nI (waL wd N g).length := by rw [o3 12 (by decide)]; exact n2
      have p0 := Nat.two_pow_pos (waL wd N g).length
      have hbE : ∀ t, waE wd N g = some t → t ≤ 239 := fun t ht => by
        obtain ⟨⟨i, i1, i2⟩, _⟩ := erl_some ht
        exact (BF _ _ t i2).1
      refine br_Eq (a := j) (b := 0) (by omega) (by omega) (fun j0 => ?_) (fun j0 => ?_)
      · subst j0
        refine vG (o := 12) H3 H3.b rfl ?_
        refine m_handsOf H3 n3 hl BF E3 (fun X4 h4 t H4 o4 I4 => ?_)
        have z := k X4 h4 H4 (o3'.tr (OT.of o4)) (by rw [o4 12 0 (by decide)]; exact t3)
        rw [wayV, if_pos rfl, hv_eq I4] at z
        exact z
      · refine fG (o := 12) H3 H3.b rfl ?_
        rw [n3, shf hl]
        refine bd_i ?_
        refine vG (o := 12) H3 H3.b rfl ?_
        refine m_earliest H3 n3 hl BF E3 (by omega) ?_
        refine fG (o := 12) H3 H3.b rfl ?_
        rw [n3]
        have zn : waE wd N g = none → Q (-1) h3 := by
          intro z
          have y := k X3 h3 H3 o3' t3
          have v : wayV wd N g j = -1 := by
            rw [wayV, if_neg j0]
            by_cases j1 : j = 1
            · rw [if_pos j1, z]
              rfl
            · rw [if_neg j1, z]
          rw [v] at y
          exact y
        dsimp only [w_X12_way_93]
        refine br_Eq (b := 0) (by omega) (by omega) (fun l0 => ?_) (fun l0 => ?_)
        · refine zn ?_
          show erl _ _ _ = none
          rw [show (waL wd N g).length = 0 from l0]
          rfl
        · refine br_if (fun c4 => zn ((enM_m hbE).mp c4)) (fun c4 => ?_)
          rw [enM_m hbE] at c4
          cases hE0 : erl (waF wd N g) (2 ^ (waL wd N g).length - 1) (waL wd N g).length with
          | none => exact absurd hE0 c4
          | some E =>
            have hE : waE wd N g = some E := hE0
            have hE9 := hbE E hE
            refine br_Eq (a := j) (b := 1) (by omega) (by omega) (fun j1 => ?_) (fun j1 => ?_)
            · subst j1
              have y := k X3 h3 H3 o3' t3
              rw [wayV, if_neg (by decide), if_pos rfl, hE] at y
              exact y
            · have v : wayV wd N g j = match fsO (fun k => (waB wd N g E (2 ^ (waL wd N g).length - 1) k).isSome) (waL wd N g).length with
                  | none => -1
                  | some k => nI (waC wd N g k) := by
                rw [wayV, if_neg j0, if_neg j1, hE]
              rw [v] at k
              refine lp_inv (waL wd N g).length (fun i (x : Int32 × AH) => x.1 = nI i ∧ fsO (fun k => (waB wd N g E (2 ^ (waL wd N g).length - 1) k).isSome) i = none ∧ ∃ X', G A S h0 X' x.2 ∧ Off [1321] X3 X') (fun i x kk1 hi hI kn => ?_) (fun x kk1 hI => ?_) (Nat.zero_le _) ⟨rfl, rfl, X3, H3, Off.rf _ _⟩
              · obtain ⟨v4, h4⟩ := x
                obtain ⟨q1, q2, X4, H4, o4⟩ := hI
                dsimp only at q1 H4 ⊢
                subst q1
                dsimp only [w_X12_way_106, w_X12_way_131]
                have hi8 : i < 8 := by omega
                have W4 : RW X4 (waL wd N g).length (waC wd N g) := W2.off (by rw [o4 12 (by decide), o3 12 (by decide)]) (by rw [o4 1319 (by decide), o3 1319 (by decide)])
                have M4 := (M2.offL o3 (by decide)).offL o4 (by decide)
                refine fG (o := 12) H4 H4.b rfl ?_
                rw [W4.1]
                refine br_go hi (by omega) ?_
                refine vG (o := 12) H4 H4.b rfl ?_
                refine m_leads H4 M4 O W4 hl hc (Or.inr ⟨i, hi8, rfl, rfl⟩) (fun X5 h5 H5 o5 E5 => ?_)
                have n5 : X5 12 20 = nI (waL wd N g).length := by rw [o5 12 (by decide)]; exact W4.1
                have B5 : TB (waK wd N g i) := TB.stSI (iniT_TB (fun a ha _ => by have := B.2.1 a ha; omega)) (fun a ha => (B.2.1 a ha).2) _
                have hb5 : ∀ t, erl (waK wd N g i) (2 ^ (waL wd N g).length - 1) (waL wd N g).length = some t → t ≤ 239 := fun t ht => by
                  obtain ⟨⟨i, i1, i2⟩, _⟩ := erl_some ht
                  exact (B5 _ _ t i2).1
                refine vG (o := 12) H5 H5.b rfl ?_
                refine m_earliest H5 n5 hl B5 E5 (by omega) ?_
                have fe := wa_first O hi hE
                have o5' : OT X X5 := o3'.tr (OT.of (OM.of1 (o4.tr o5)))
                have t5 : X5 12 0 = 0 := by rw [o5 12 (by decide), o4 12 (by decide)]; exact t3
                refine br_if (fun d => ?_) (fun d => ?_)
                · have d2 : erl (waK wd N g i) (2 ^ (waL wd N g).length - 1) (waL wd N g).length = some E := by
                    cases z : erl (waK wd N g i) (2 ^ (waL wd N g).length - 1) (waL wd N g).length with
                    | none =>
                      rw [z] at d
                      have : some E = none := (enM_m (o := some E) (fun t ht => by cases ht; omega)).mp d.symm
                      cases this
                    | some u =>
                      rw [z] at d
                      have hu := hb5 u z
                      rw [(nI_eq (a := u) (b := E) (by omega) (by omega)).mp d]
                  have d3 := fe.mp d2
                  have y := k X5 h5 H5 o5' t5
                  rw [fsO_at hi q2 d3] at y
                  refine fP (o := 12) H5 H5.b rfl rfl ?_
                  refine aG (id := 1319) H5 H5.b rfl (by decide) rfl (by omega) ?_
                  rw [o5 1319 (by decide), W4.2 i hi]
                  exact y
                · refine kn _ ⟨(nI_succ i).symm, ?_, X5, H5, o4.tr o5⟩
                  simp only [fsO, q2]
                  rw [if_neg]
                  intro z
                  have := fe.mpr z
                  rw [this] at d
                  exact d rfl
              · obtain ⟨v4, h4⟩ := x
                obtain ⟨q1, q2, X4, H4, o4⟩ := hI
                dsimp only at q1 H4 ⊢
                subst q1
                dsimp only [w_X12_way_106, w_X12_way_145]
                refine fG (o := 12) H4 H4.b rfl ?_
                rw [o4 12 (by decide), n3]
                refine br_end ?_
                have y := k X4 h4 H4 (o3'.tr (OT.of (OM.of1 o4))) (by rw [o4 12 (by decide)]; exact t3)
                rw [q2] at y
                exact y
    · rw [cIf_f (fun z => c2 ((isN_le (m := 3) (by decide)).mpr z))] at k
      refine br_T rfl ?_
      refine vG (o := 12) H1 H1.b rfl ?_
      refine thr1 H1 (fun h2 H2 => br_F (by decide) (k _ _ H2 (o1.th 2) (up_same _ _ _ _)))
  · rw [wayS, cIf_f c1] at k
    refine vG (o := 12) H1 H1.b rfl ?_
    refine thr1 H1 (fun h2 H2 => br_F (by decide) (k _ _ H2 (o1.th 1) (up_same _ _ _ _)))
end WAYR2
