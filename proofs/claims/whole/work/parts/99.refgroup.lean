/-! the reference: conditions -/
def RSm (A : Nat → Nat) (S : Nat → Prop) (h0 : AH) (B : Nat → Nat) (n : Nat) (st : Bool) (d : Nat) (pa : Nat → Res) (w : AH → (Int32 → AH → Prop) → Prop) : Prop := ∀ X h i l Q, G A S h0 X h → MS X B n st i l d → i ≤ tkC B n → l.length ≤ tkN B n i → l.length ≤ 399 → RM A S h0 X B n st d l (pa i) Q → w h Q
theorem rAllL_stop {th : Nat → Nat} {pa : Nat → Res} {f i : Nat} {a : Seg} (h : ¬ th i = 1006) : rAllL th pa f i a = .ok (i, a) := by
  cases f with
  | zero => rfl
  | succ f =>
    simp only [rAllL]
    rw [if_neg h]
theorem rCondL_stop {th : Nat → Nat} {pa : Nat → Res} {f i : Nat} {a : Seg} (h : ¬ th i = 1007) : rCondL th pa f i a = .ok (i, a) := by
  cases f with
  | zero => rfl
  | succ f =>
    simp only [rCondL]
    rw [if_neg h]
theorem rAllL_bd {th te : Nat → Nat} {c : Nat} (T : TS th te c) {pa : Nat → Res} (B : PBd te c pa) : ∀ {f i : Nat} {a : Seg} {j : Nat} {s : Seg}, i ≤ c → a ≠ [] → rAllL th pa f i a = .ok (j, s) → i ≤ j ∧ j ≤ c ∧ (enc s).length + te i ≤ te j + (enc a).length ∧ s ≠ [] := by
  intro f
  induction f with
  | zero =>
    intro i a j s hi ha h
    simp only [rAllL] at h
    cases h
    exact ⟨Nat.le_refl _, hi, by omega, ha⟩
  | succ f ih =>
    intro i a j s hi ha h
    simp only [rAllL] at h
    split at h
    · rename_i d
      obtain ⟨u1, u2, u3⟩ := T.up (i := i) (by omega)
      cases e : pa (i + 1) with
      | error x => rw [e] at h; cases h
      | ok q =>
        obtain ⟨x, y⟩ := q
        rw [e] at h
        obtain ⟨w1, w2, w3, w4⟩ := B (i + 1) _ _ (by omega) e
        obtain ⟨z1, z2, z3, z4⟩ := ih w2 (by simp) h
        refine ⟨by omega, z2, ?_, z4⟩
        rw [enc_app, enc_app, enc_one, List.length_append, List.length_append, trS_len (by decide)] at z3
        omega
    · cases h
      exact ⟨Nat.le_refl _, hi, by omega, ha⟩
theorem rAll_bd {th te : Nat → Nat} {c : Nat} (T : TS th te c) {pa : Nat → Res} (B : PBd te c pa) : PBd te c (rAll th pa) := by
  intro i j s hi h
  unfold rAll at h
  cases e : pa i with
  | error x => rw [e] at h; cases h
  | ok q =>
    obtain ⟨x, y⟩ := q
    rw [e] at h
    obtain ⟨w1, w2, w3, w4⟩ := B i _ _ hi e
    obtain ⟨z1, z2, z3, z4⟩ := rAllL_bd T B w2 w4 h
    exact ⟨by omega, z2, by omega, z4⟩
section MGROUP
variable {A : Nat → Nat} {S : Nat → Prop} {h0 : AH} {B : Nat → Nat} {n : Nat} {st : Bool} {d : Nat}
theorem m_allOf {ra rt rc : Nat → AH → (Int32 → AH → Prop) → Prop} {pa : Nat → Res} (hn : n ≤ 400) (hB : ∀ i, i < n → B i < 256) (Bd : PBd (tkN B n) (tkC B n) pa) (hat : RSm A S h0 B n st d pa (rt (A 12))) : RSm A S h0 B n st d (rAll (tkH B n) pa) (g_X12_readAllOf ra rt rc (A 12)) := by
  have T := tok_TS (B := B) hn
  have hc := T.1
  intro X h i l Q H M hi hl hl2 k
  dsimp only [g_X12_readAllOf]
  refine vG (o := 12) H H.b rfl ?_
  unfold rAll at k
  refine hat X h i l _ H M hi hl hl2 ⟨fun j s e X1 h1 H1 u1 M1 => ?_, fun e z X1 h1 H1 u1 c1 => ?_⟩
  · rw [e] at k
    dsimp only at k
    obtain ⟨w1, w2, w3, w4⟩ := Bd i _ _ hi e
    have w5 := seg_len (s := s)
    refine br_F (by decide) ?_
    refine lp_ind (fun m (x : AH) => ∃ f i2 a X2, tkC B n ≤ i2 + m ∧ 401 ≤ f + i2 ∧ i2 ≤ tkC B n ∧ l.length + a.length ≤ tkN B n i2 ∧ rAllL (tkH B n) pa f i2 a = rAllL (tkH B n) pa k400 j s ∧ G A S h0 X2 x ∧ UR X X2 ∧ MS X2 B n st i2 (l ++ a) d) (fun m x kk hI kn => ?_) (tkC B n) h1 ⟨k400, j, s, X1, by omega, by rw [k400_eq]; omega, w2, by omega, rfl, H1, u1, M1⟩
    obtain ⟨f, i2, a, X2, f0, f1, b1, b2, f2, H2, u2, M2⟩ := hI
    dsimp only [w_X12_readAllOf_9, w_X12_readAllOf_25, w_X12_readAllOf_37]
    intro a1 ha1
    refine vG (o := 12) H2 H2.b rfl ?_
    refine m_passes H2 M2.1.1 hn hB M2.2 ha1 (by decide) (by decide) (fun y X3 h3 H3 u3 P3 c3 => ?_) (fun y X3 h3 H3 u3 P3 c3 => ?_)
    · have y2 : tkH B n i2 = 1006 := y
      obtain ⟨t1, t2, t3⟩ := T.up (i := i2) (by omega)
      obtain ⟨f, rfl⟩ : ∃ g, f = g + 1 := ⟨f - 1, by omega⟩
      simp only [rAllL] at f2
      rw [if_pos y2] at f2
      refine br_F (by decide) ?_
      refine vG (o := 12) H3 H3.b rfl ?_
      have M3 := M2.1.ub u3
      refine hat X3 h3 (i2 + 1) _ _ H3 ⟨M3, P3⟩ (by omega) (by rw [List.length_append]; omega) (by rw [List.length_append]; omega) ⟨fun j4 s4 e4 X4 h4 H4 u4 M4 => ?_, fun e4 z4 X4 h4 H4 u4 c4 => ?_⟩
      · rw [e4] at f2
        dsimp only at f2
        obtain ⟨y1, y2, y3, y4⟩ := Bd (i2 + 1) _ _ (by omega) e4
        have y5 := T.2.2.2.2.1 j4 y2
        have y6 := seg_len (s := s4)
        refine br_F (by decide) ?_
        refine vG (o := 12) H4 H4.b rfl ?_
        refine m_emits H4 M4.1 (by rw [List.length_append, List.length_append]; omega) (a := 16) (b := 0) rfl rfl (fun X5 h5 H5 u5 M5 e6 => ?_)
        refine kn (m - 1) _ (by omega) ⟨f, j4, a ++ s4 ++ [(16, 0)], X5, by omega, by omega, y2, ?_, f2, H5, ((u2.tr u3.ur).tr u4).tr u5, ?_, M4.2.of e6⟩
        · rw [List.length_append, List.length_append, List.length_singleton]
          omega
        · rw [← List.append_assoc, ← List.append_assoc]
          exact M5
      · rw [z4] at f2
        dsimp only at f2
        rw [← f2] at k
        exact br_T rfl (k.2 _ rfl X4 h4 H4 ((u2.tr u3.ur).tr u4) c4)
    · have y2 : ¬ tkH B n i2 = 1006 := y
      rw [rAllL_stop y2] at f2
      rw [← f2] at k
      exact br_T rfl (k.1 _ _ rfl X3 h3 H3 (u2.tr u3.ur) ⟨M2.1.ub u3, P3⟩)
  · rw [z] at k
    exact br_T rfl (k.2 _ rfl X1 h1 H1 u1 c1)
theorem m_cond {ra rt rc : Nat → AH → (Int32 → AH → Prop) → Prop} {pa : Nat → Res} (hn : n ≤ 400) (hB : ∀ i, i < n → B i < 256) (Bd : PBd (tkN B n) (tkC B n) pa) (hall : RSm A S h0 B n st d (rAll (tkH B n) pa) (ra (A 12))) : RSm A S h0 B n st d (pAnyF (tkH B n) pa) (g_X12_readCond ra rt rc (A 12)) := by
  have T := tok_TS (B := B) hn
  have hc := T.1
  have Ba := rAll_bd T Bd
  intro X h i l Q H M hi hl hl2 k
  rw [← rCond_eq T Bd hi] at k
  dsimp only [g_X12_readCond]
  refine vG (o := 12) H H.b rfl ?_
  unfold rCond at k
  refine hall X h i l _ H M hi hl hl2 ⟨fun j s e X1 h1 H1 u1 M1 => ?_, fun e z X1 h1 H1 u1 c1 => ?_⟩
  · rw [e] at k
    dsimp only at k
    obtain ⟨w1, w2, w3, w4⟩ := Ba i _ _ hi e
    have w5 := seg_len (s := s)
    refine br_F (by decide) ?_
    refine lp_ind (fun m (x : AH) => ∃ f i2 a X2, tkC B n ≤ i2 + m ∧ 401 ≤ f + i2 ∧ i2 ≤ tkC B n ∧ l.length + a.length ≤ tkN B n i2 ∧ rCondL (tkH B n) pa f i2 a = rCondL (tkH B n) pa k400 j s ∧ G A S h0 X2 x ∧ UR X X2 ∧ MS X2 B n st i2 (l ++ a) d) (fun m x kk hI kn => ?_) (tkC B n) h1 ⟨k400, j, s, X1, by omega, by rw [k400_eq]; omega, w2, by omega, rfl, H1, u1, M1⟩
    obtain ⟨f, i2, a, X2, f0, f1, b1, b2, f2, H2, u2, M2⟩ := hI
    dsimp only [w_X12_readCond_9, w_X12_readCond_25, w_X12_readCond_37]
    intro a1 ha1
    refine vG (o := 12) H2 H2.b rfl ?_
    refine m_passes H2 M2.1.1 hn hB M2.2 ha1 (by decide) (by decide) (fun y X3 h3 H3 u3 P3 c3 => ?_) (fun y X3 h3 H3 u3 P3 c3 => ?_)
    · have y2 : tkH B n i2 = 1007 := y
      obtain ⟨t1, t2, t3⟩ := T.up (i := i2) (by omega)
      obtain ⟨f, rfl⟩ : ∃ g, f = g + 1 := ⟨f - 1, by omega⟩
      simp only [rCondL] at f2
      rw [if_pos y2] at f2
      refine br_F (by decide) ?_
      refine vG (o := 12) H3 H3.b rfl ?_
      have M3 := M2.1.ub u3
      refine hall X3 h3 (i2 + 1) _ _ H3 ⟨M3, P3⟩ (by omega) (by rw [List.length_append]; omega) (by rw [List.length_append]; omega) ⟨fun j4 s4 e4 X4 h4 H4 u4 M4 => ?_, fun e4 z4 X4 h4 H4 u4 c4 => ?_⟩
      · rw [e4] at f2
        dsimp only at f2
        obtain ⟨y1, y2, y3, y4⟩ := Ba (i2 + 1) _ _ (by omega) e4
        have y5 := T.2.2.2.2.1 j4 y2
        have y6 := seg_len (s := s4)
        refine br_F (by decide) ?_
        refine vG (o := 12) H4 H4.b rfl ?_
        refine m_emits H4 M4.1 (by rw [List.length_append, List.length_append]; omega) (a := 17) (b := 0) rfl rfl (fun X5 h5 H5 u5 M5 e6 => ?_)
        refine kn (m - 1) _ (by omega) ⟨f, j4, a ++ s4 ++ [(17, 0)], X5, by omega, by omega, y2, ?_, f2, H5, ((u2.tr u3.ur).tr u4).tr u5, ?_, M4.2.of e6⟩
        · rw [List.length_append, List.length_append, List.length_singleton]
          omega
        · rw [← List.append_assoc, ← List.append_assoc]
          exact M5
      · rw [z4] at f2
        dsimp only at f2
        rw [← f2] at k
        exact br_T rfl (k.2 _ rfl X4 h4 H4 ((u2.tr u3.ur).tr u4) c4)
    · have y2 : ¬ tkH B n i2 = 1007 := y
      rw [rCondL_stop y2] at f2
      rw [← f2] at k
      exact br_T rfl (k.1 _ _ rfl X3 h3 H3 (u2.tr u3.ur) ⟨M2.1.ub u3, P3⟩)
  · rw [z] at k
    exact br_T rfl (k.2 _ rfl X1 h1 H1 u1 c1)
theorem MS.deep {X : Nat → Nat → Int32} {i : Nat} {l : Seg} (M : MS X B n st i l d) {d' : Nat} : MS (up X 12 9 (nI d')) B n st i l d' := ⟨M.1.deep, M.2.of (up_n _ _ _ (by decide))⟩
theorem m_atomF {ra rt rc : Nat → AH → (Int32 → AH → Prop) → Prop} {pn pc : Nat → Res} (hn : n ≤ 400) (hB : ∀ i, i < n → B i < 256) (hd : d ≤ 6) (Bn : PBd (tkN B n) (tkC B n) pn) (Bc : PBd (tkN B n) (tkC B n) pc) (h6 : d = 6 → pn = pBad ∧ pc = pBad) (hnot : d < 6 → RSm A S h0 B n st (d + 1) pn (rt (A 12))) (hcon : d < 6 → RSm A S h0 B n st (d + 1) pc (rc (A 12))) : RSm A S h0 B n st d (pAtF (tkH B n) st pn pc) (g_X12_readAtom ra rt rc (A 12)) := by
  have T := tok_TS (B := B) hn
  intro X h i l Q H M hi hl hl2 k
  dsimp only [g_X12_readAtom, w_X12_readAtom_151, w_X12_readAtom_181, w_X12_readAtom_188, w_X12_readAtom_202]
  unfold pAtF at k
  refine vG (o := 12) H H.b rfl ?_
  refine m_sign (c := 40) H M.1.1 hn hB M.2 rfl (fun y X1 h1 H1 u1 P1 c1 => ?_) (fun y X1 h1 H1 u1 P1 c1 => ?_)
  · rw [if_neg (by omega), if_pos y] at k
    have M1 := M.1.ub u1
    obtain ⟨t1, t2, t3⟩ := T.up (i := i) (by omega)
    refine br_F (by decide) ?_
    refine fG (o := 12) H1 H1.b rfl ?_
    rw [M1.2.2.2]
    refine br_Eq (b := 6) (by omega) (by decide) (fun z => ?_) (fun z => ?_)
    · obtain ⟨rfl, rfl⟩ := h6 z
      exact k.2 i rfl X1 h1 H1 u1.ur c1
    · refine fG (o := 12) H1 H1.b rfl ?_
      rw [M1.2.2.2, ← nI_succ]
      refine uG (o := 12) H1 H1.b rfl (fun h2 H2 => ?_)
      have M2 : MS _ B n st (i + 1) l (d + 1) := MS.deep ⟨M1, P1⟩
      have u2 := u1.ur.u9 (k := 9) (by omega) (nI (d + 1))
      refine vG (o := 12) H2 H2.b rfl ?_
      refine hcon (by omega) _ h2 (i + 1) l _ H2 M2 (by omega) (by omega) hl2 ⟨fun j s e X3 h3 H3 u3 M3 => ?_, fun e y3 X3 h3 H3 u3 c3 => ?_⟩
      · rw [e] at k
        dsimp only at k
        refine br_F (by decide) ?_
        refine fG (o := 12) H3 H3.b rfl ?_
        rw [M3.1.2.2.2, show (1 : Int32) = nI 1 from rfl, pk_sub (by omega), Nat.add_sub_cancel]
        refine uG (o := 12) H3 H3.b rfl (fun h4 H4 => ?_)
        have M4 : MS _ B n st j (l ++ s) d := MS.deep M3
        have u4 := u3.u9 (k := 9) (by omega) (nI d)
        refine vG (o := 12) H4 H4.b rfl ?_
        refine m_sign (c := 41) H4 M4.1.1 hn hB M4.2 rfl (fun y5 X5 h5 H5 u5 P5 c5 => ?_) (fun y5 X5 h5 H5 u5 P5 c5 => ?_)
        · rw [if_pos y5] at k
          exact ⟨Or.inr rfl, k.1 _ _ rfl X5 h5 H5 ((u2.tr u4).tr u5.ur) ⟨M4.1.ub u5, P5⟩⟩
        · rw [if_neg y5] at k
          exact ⟨Or.inl rfl, k.2 _ rfl X5 h5 H5 ((u2.tr u4).tr u5.ur) c5⟩
      · rw [y3] at k
        exact br_T rfl (k.2 _ rfl X3 h3 H3 (u2.tr u3) c3)
  · refine br_T rfl ?_
    intro a1 ha1
    have M1 := M.1.ub u1
    refine vG (o := 12) H1 H1.b rfl ?_
    refine m_passes H1 M1.1 hn hB P1 ha1 (by decide) (by decide) (fun y2 X2 h2 H2 u2 P2 c2 => ?_) (fun y2 X2 h2 H2 u2 P2 c2 => ?_)
    · have y3 : tkH B n i = 1008 := y2
      rw [if_pos y3] at k
      have M2 := M1.ub u2
      obtain ⟨t1, t2, t3⟩ := T.up (i := i) (by omega)
      refine br_F (by decide) ?_
      refine fG (o := 12) H2 H2.b rfl ?_
      rw [M2.2.2.2]
      refine br_Eq (b := 6) (by omega) (by decide) (fun z => ?_) (fun z => ?_)
      · obtain ⟨rfl, rfl⟩ := h6 z
        exact k.2 i rfl X2 h2 H2 (u1.tr u2).ur c2
      · refine fG (o := 12) H2 H2.b rfl ?_
        rw [M2.2.2.2, ← nI_succ]
        refine uG (o := 12) H2 H2.b rfl (fun h3 H3 => ?_)
        have M3 : MS _ B n st (i + 1) l (d + 1) := MS.deep ⟨M2, P2⟩
        have u3 := (u1.tr u2).ur.u9 (k := 9) (by omega) (nI (d + 1))
        refine vG (o := 12) H3 H3.b rfl ?_
        refine hnot (by omega) _ h3 (i + 1) l _ H3 M3 (by omega) (by omega) hl2 ⟨fun j s e X4 h4 H4 u4 M4 => ?_, fun e y4 X4 h4 H4 u4 c4 => ?_⟩
        · rw [e] at k
          dsimp only at k
          have hb := Bn (i + 1) _ _ (by omega) e
          have hs := seg_len (s := s)
          have hb4 := T.2.2.2.2.1 j hb.2.1
          refine br_F (by decide) ?_
          refine fG (o := 12) H4 H4.b rfl ?_
          rw [M4.1.2.2.2, show (1 : Int32) = nI 1 from rfl, pk_sub (by omega), Nat.add_sub_cancel]
          refine uG (o := 12) H4 H4.b rfl (fun h5 H5 => ?_)
          have M5 : MS _ B n st j (l ++ s) d := MS.deep M4
          have u5 := u4.u9 (k := 9) (by omega) (nI d)
          refine vG (o := 12) H5 H5.b rfl ?_
          refine m_emits H5 M5.1 (by rw [List.length_append]; omega) (a := 15) (b := 0) rfl rfl (fun X6 h6_ H6 u6 M6 e6 => ?_)
          refine k.1 _ _ rfl X6 h6_ H6 ((u3.tr u5).tr u6) ⟨?_, M5.2.of e6⟩
          rw [← List.append_assoc]
          exact M6
        · rw [y4] at k
          exact br_T rfl (k.2 _ rfl X4 h4 H4 (u3.tr u4) c4)
    · have y3 : ¬ tkH B n i = 1008 := y2
      rw [if_neg y3, if_neg y] at k
      refine br_T rfl ?_
      have M2 := M1.ub u2
      have u12 := (u1.tr u2).ur
      refine vG (o := 12) H2 H2.b rfl ?_
      have rd : ∀ X3 h3 v, G A S h0 X3 h3 → X3 12 12 = nI (l.length + 1) → X3 1301 (8677 + 2 * l.length) = v → (0 ≤ v → Q 1 h3) → (¬ 0 ≤ v → Q 0 h3) → fN h3 (A 12) 12 1 fun a8 => w_X12_textAt 9 h3 fun x9 h => fI h (A 12) 12 12 fun x10 => aI h a8 (x9 + 31 + 2 * x10 - 1) fun x11 => br (x11 < 0) (z1 0 (Q 0 h)) (z1 1 (Q 1 h)) := by
        intro X3 h3 v H3 e1 e2 k1 k2
        refine fP (o := 12) H3 H3.b rfl rfl ?_
        dsimp only [w_X12_textAt]
        refine fG (o := 12) H3 H3.b rfl ?_
        rw [e1]
        have e3 : (1166 : Int32) + (831 : Int32) * 9 + 31 + 2 * nI (l.length + 1) - 1 = nI (8677 + 2 * l.length) := by
          have : (1166 : Int32) + (831 : Int32) * 9 + 31 + 2 * nI (l.length + 1) = nI (8676 + 2 * (l.length + 1)) := ix2 8676 2 _
          rw [this, show (1 : Int32) = nI 1 from rfl, pk_sub (by omega)]
          congr 1
          omega
        rw [e3]
        refine aG (id := 1301) H3 H3.b rfl (by decide) rfl (by omega) ?_
        rw [e2]
        refine br_if (fun z => ⟨Or.inl rfl, k2 (fun w => Int32.not_lt.mpr w z)⟩) (fun z => ⟨Or.inr rfl, k1 (Int32.not_lt.mp z)⟩)
      refine m_readTag H2 hn hB ⟨M2, P2⟩ hl2 (fun z1_ z2 X3 h3 H3 u3 M3 => ?_) (fun z1_ z2 z3 X3 h3 H3 u3 M3 => ?_) (fun z1_ z2 z3 X3 h3 H3 u3 c8 c12 c13 => ?_) (fun z1_ z2 X3 h3 H3 u3 M3 => ?_)
      · rw [if_pos ⟨z1_, z2⟩] at k
        refine br_F (by decide) ?_
        have d3 := M3.1.2.2.1
        have d4 := (d3.2 l.length (by rw [List.length_append, List.length_singleton]; omega)).2
        rw [getS2] at d4
        have d5 := d3.1
        rw [List.length_append, List.length_singleton] at d5
        exact rd X3 h3 _ H3 d5 d4 (fun _ => k.1 _ _ rfl X3 h3 H3 (u12.tr u3) M3) (fun w => absurd (nI_pos' (n := 0) (by decide)) w)
      · rw [if_neg (fun w => by rw [z1_] at w; cases w.1), if_pos ⟨z1_, z2⟩] at k
        unfold pHeld at k
        rw [if_pos z3] at k
        refine br_F (by decide) ?_
        have d3 := M3.1.2.2.1
        have d4 := (d3.2 l.length (by rw [List.length_append, List.length_singleton]; omega)).2
        rw [getS2] at d4
        have d5 := d3.1
        rw [List.length_append, List.length_singleton] at d5
        have hth := T.2.2.2.2.2.2.1 (i + 1)
        exact rd X3 h3 _ H3 d5 d4 (fun _ => k.1 _ _ rfl X3 h3 H3 (u12.tr u3) M3) (fun w => absurd (nI_pos' (n := tkH B n (i + 1) - 2000) (by omega)) w)
      · rw [if_neg (fun w => by rw [z1_] at w; cases w.1), if_pos ⟨z1_, z2⟩] at k
        unfold pHeld at k
        rw [if_neg z3] at k
        refine br_F (by decide) ?_
        exact rd X3 h3 _ H3 c12 c13 (fun w => absurd w (by decide)) (fun _ => k.2 _ rfl X3 h3 H3 (u12.tr u3) c8)
      · rw [if_neg z1_, if_neg z2] at k
        unfold pCmp at k
        refine br_T rfl ?_
        refine vG (o := 12) H3 H3.b rfl ?_
        refine m_readSum H3 hn hB M3 hi hl hl2 ⟨fun j s e X4 h4 H4 u4 M4 => ?_, fun e y4 X4 h4 H4 u4 c4 => ?_⟩
        · rw [e] at k
          dsimp only at k
          obtain ⟨w1, w2, w3, w4⟩ := pSum_bd T i _ _ hi e
          have w5 := seg_len (s := s)
          have u14 := (u12.tr u3).tr u4
          refine br_F (by decide) ?_
          -- behind < or >
          have go : ∀ op (v : Int32) X5 h5, (tkH B n j = 60 ∨ tkH B n j = 62) → (if tkH B n j = 60 then 13 else 14) = op → ((op = 13 ∧ v = 1) ∨ (op = 14 ∧ v = 0)) → G A S h0 X5 h5 → UB X4 X5 → PT X5 B n (j + 1) → vr h5 (A 12) 12 (w_X12_readSum (A 12) h5 fun x1 h => br (x1 = 0) (Q 0 h) (br (v = 0) (vr h (A 12) 12 (w_X12_emits (A 12) 14 0 h fun h => Q 1 h)) (vr h (A 12) 12 (w_X12_emits (A 12) 13 0 h fun h => Q 1 h)))) := by
            intro op v X5 h5 ho hop hor H5 u5 P5
            rw [if_pos ho, hop] at k
            obtain ⟨t1, t2, t3⟩ := T.up (i := j) (by omega)
            refine vG (o := 12) H5 H5.b rfl ?_
            refine m_readSum H5 hn hB ⟨M4.1.ub u5, P5⟩ (by omega) (by rw [List.length_append]; omega) (by rw [List.length_append]; omega) ⟨fun j6 s6 e6 X6 h6_ H6 u6 M6 => ?_, fun e6 y6 X6 h6_ H6 u6 c6 => ?_⟩
            · rw [e6] at k
              obtain ⟨q1, q2, q3, q4⟩ := pSum_bd T (j + 1) _ _ (by omega) e6
              have q5 := T.2.2.2.2.1 j6 q2
              have q6 := seg_len (s := s6)
              refine br_F (by decide) ?_
              rcases hor with ⟨rfl, rfl⟩ | ⟨rfl, rfl⟩
              · refine br_F (by decide) ?_
                refine vG (o := 12) H6 H6.b rfl ?_
                refine m_emits H6 M6.1 (by rw [List.length_append, List.length_append]; omega) (a := 13) (b := 0) rfl rfl (fun X7 h7 H7 u7 M7 e7 => ?_)
                refine k.1 _ _ rfl X7 h7 H7 (((u14.tr u5.ur).tr u6).tr u7) ⟨?_, M6.2.of e7⟩
                rw [← List.append_assoc, ← List.append_assoc]
                exact M7
              · refine br_T rfl ?_
                refine vG (o := 12) H6 H6.b rfl ?_
                refine m_emits H6 M6.1 (by rw [List.length_append, List.length_append]; omega) (a := 14) (b := 0) rfl rfl (fun X7 h7 H7 u7 M7 e7 => ?_)
                refine k.1 _ _ rfl X7 h7 H7 (((u14.tr u5.ur).tr u6).tr u7) ⟨?_, M6.2.of e7⟩
                rw [← List.append_assoc, ← List.append_assoc]
                exact M7
            · rw [y6] at k
              exact br_T rfl (k.2 _ rfl X6 h6_ H6 ((u14.tr u5.ur).tr u6) c6)
          refine vG (o := 12) H4 H4.b rfl ?_
          refine m_sign (c := 60) H4 M4.1.1 hn hB M4.2 rfl (fun y5 X5 h5 H5 u5 P5 c5 => ?_) (fun y5 X5 h5 H5 u5 P5 c5 => ?_)
          · refine br_F (by decide) ?_
            exact go 13 1 X5 h5 (Or.inl y5) (if_pos y5) (Or.inl ⟨rfl, rfl⟩) H5 u5 P5
          · refine br_T rfl ?_
            refine vG (o := 12) H5 H5.b rfl ?_
            refine m_sign (c := 62) H5 (M4.1.ub u5).1 hn hB P5 rfl (fun y6 X6 h6_ H6 u6 P6 c6 => ?_) (fun y6 X6 h6_ H6 u6 P6 c6 => ?_)
            · refine br_F (by decide) ?_
              exact go 14 0 X6 h6_ (Or.inr y6) (if_neg y5) (Or.inr ⟨rfl, rfl⟩) H6 (u5.tr u6) P6
            · rw [if_neg (fun w => w.elim y5 y6)] at k
              exact br_T rfl (k.2 _ rfl X6 h6_ H6 ((u14.tr u5.ur).tr u6.ur) c6)
        · rw [y4] at k
          exact br_T rfl (k.2 _ rfl X4 h4 H4 ((u12.tr u3).tr u4) c4)
theorem GR12_s (m : Nat) : GR_X12 (m + 1) = (g_X12_readAllOf (GR_X12 m).1 (GR_X12 m).2.1 (GR_X12 m).2.2, g_X12_readAtom (GR_X12 m).1 (GR_X12 m).2.1 (GR_X12 m).2.2, g_X12_readCond (GR_X12 m).1 (GR_X12 m).2.1 (GR_X12 m).2.2) := rfl
theorem m_group (hn : n ≤ 400) (hB : ∀ i, i < n → B i < 256) : ∀ k m, k ≤ 6 → 3 * k + 1 ≤ m → RSm A S h0 B n st (6 - k) (pAt (tkH B n) st k) ((GR_X12 m).2.1 (A 12)) := by
  have T := tok_TS (B := B) hn
  intro k
  induction k with
  | zero =>
    intro m _ hm
    obtain ⟨m, rfl⟩ : ∃ g, m = g + 1 := ⟨m - 1, by omega⟩
    rw [GR12_s]
    exact m_atomF hn hB (Nat.le_refl _) pBad_bd pBad_bd (fun _ => ⟨rfl, rfl⟩) (fun z => absurd z (by decide)) (fun z => absurd z (by decide))
  | succ k ih =>
    intro m hk hm
    obtain ⟨m, rfl⟩ : ∃ g, m = g + 3 := ⟨m - 3, by omega⟩
    have e : 6 - (k + 1) + 1 = 6 - k := by omega
    rw [GR12_s]
    refine m_atomF hn hB (by omega) (pAt_bd T k) (pAnyF_bd T (pAt_bd T k)) (fun z => by omega) (fun _ => ?_) (fun _ => ?_)
    · rw [e]
      exact ih (m + 2) (by omega) (by omega)
    · rw [e, GR12_s]
      refine m_cond hn hB (pAt_bd T k) ?_
      rw [GR12_s]
      exact m_allOf hn hB (pAt_bd T k) (ih m (by omega) (by omega))
theorem m_condT (hn : n ≤ 400) (hB : ∀ i, i < n → B i < 256) : RSm A S h0 B n st 0 (pAnyF (tkH B n) (pAt (tkH B n) st k6)) (w_X12_readCond (A 12)) := by
  have T := tok_TS (B := B) hn
  intro X h i l Q H M hi hl hl2 k
  unfold w_X12_readCond
  rw [show (40 : Nat) = 38 + 1 + 1 from rfl, GR12_s]
  have hat := m_group (A := A) (S := S) (h0 := h0) (st := st) hn hB k6 38 (by rw [k6_eq]; decide) (by rw [k6_eq]; decide)
  rw [show 6 - k6 = 0 by rw [k6_eq]] at hat
  refine m_cond (ra := (GR_X12 (38 + 1)).1) hn hB (pAt_bd T k6) ?_ X h i l Q H M hi hl hl2 k
  rw [GR12_s]
  exact m_allOf hn hB (pAt_bd T k6) hat
end MGROUP
