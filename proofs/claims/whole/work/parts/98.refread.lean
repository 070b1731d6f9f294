/-! the reference reads as told -/
def UR (X X' : Nat → Nat → Int32) : Prop := ∀ id n, ¬ (id = 12 ∧ (n = 6 ∨ n = 8 ∨ n = 9 ∨ n = 12)) → ¬ (id = 1301 ∧ 8676 ≤ n) → X' id n = X id n
theorem UR.rf (X : Nat → Nat → Int32) : UR X X := fun _ _ _ _ => rfl
theorem UR.tr {X X' X'' : Nat → Nat → Int32} (a : UR X X') (b : UR X' X'') : UR X X'' := fun id n h g => (b id n h g).trans (a id n h g)
theorem UB.ur {X X' : Nat → Nat → Int32} (a : UB X X') : UR X X' := fun id n h _ => a id n (fun z => h ⟨z.1, z.2.elim Or.inl (fun y => Or.inr (Or.inl y))⟩)
theorem UR.u9 {X X' : Nat → Nat → Int32} (a : UR X X') {k : Nat} (hk : k = 6 ∨ k = 8 ∨ k = 9 ∨ k = 12) (v : Int32) : UR X (up X' 12 k v) := fun id n h g => by
  by_cases e : id = 12
  · subst e
    rw [up_n _ _ _ (fun z => h ⟨rfl, by rw [z]; exact hk⟩)]
    exact a 12 n h g
  · rw [up_row _ _ _ e]
    exact a id n h g
theorem UR.uW {X X' : Nat → Nat → Int32} (a : UR X X') {k : Nat} (hk : 8676 ≤ k) (v : Int32) : UR X (up X' 1301 k v) := fun id n h g => by
  by_cases e : id = 1301
  · subst e
    rw [up_n _ _ _ (fun z => g ⟨rfl, by rw [z]; exact hk⟩)]
    exact a 1301 n h g
  · rw [up_row _ _ _ e]
    exact a id n h g
/-- the draft's steps -/
def DR (X : Nat → Nat → Int32) (l : Seg) : Prop := X 12 12 = nI l.length ∧ ∀ j, j < l.length → X 1301 (8676 + 2 * j) = nI (l.getD j (0, 0)).1 ∧ X 1301 (8677 + 2 * j) = nI (l.getD j (0, 0)).2
def MS0 (X : Nat → Nat → Int32) (B : Nat → Nat) (n : Nat) (st : Bool) (l : Seg) (d : Nat) : Prop := MTp X B n ∧ X 12 13 = bI st ∧ DR X l ∧ X 12 9 = nI d
def MS (X : Nat → Nat → Int32) (B : Nat → Nat) (n : Nat) (st : Bool) (i : Nat) (l : Seg) (d : Nat) : Prop := MS0 X B n st l d ∧ PT X B n i
section MSS
variable {X X' : Nat → Nat → Int32} {B : Nat → Nat} {n : Nat} {st : Bool} {i : Nat} {l : Seg} {d : Nat}
theorem MS0.ub (M : MS0 X B n st l d) (u : UB X X') : MS0 X' B n st l d := by
  obtain ⟨m1, m2, m3, m4⟩ := M
  refine ⟨m1.ub u, by rw [u 12 13 (fun z => by omega)]; exact m2, ⟨by rw [u 12 12 (fun z => by omega)]; exact m3.1, fun j hj => ?_⟩, by rw [u 12 9 (fun z => by omega)]; exact m4⟩
  rw [u 1301 _ (fun z => absurd z.1 (by decide)), u 1301 _ (fun z => absurd z.1 (by decide))]
  exact m3.2 j hj
theorem MTp.ur (M : MTp X B n) (u : UR X X') : MTp X' B n := ⟨by rw [u 12 7 (fun z => by omega) (fun z => absurd z.1 (by decide))]; exact M.1, fun i hi => by rw [u 1304 i (fun z => absurd z.1 (by decide)) (fun z => absurd z.1 (by decide))]; exact M.2 i hi⟩
theorem MS0.deep (M : MS0 X B n st l d) {d' : Nat} : MS0 (up X 12 9 (nI d')) B n st l d' := by
  obtain ⟨m1, m2, m3, m4⟩ := M
  refine ⟨m1.ur ((UR.rf X).u9 (k := 9) (by omega) _), by rw [up_n _ _ _ (by decide)]; exact m2, ⟨by rw [up_n _ _ _ (by decide)]; exact m3.1, fun j hj => ?_⟩, up_same _ _ _ _⟩
  rw [up_row _ _ _ (by decide)]
  exact m3.2 j hj
theorem PT.of (P : PT X B n i) (h : X' 12 6 = X 12 6) : PT X' B n i := by
  obtain ⟨p, p1, p2⟩ := P
  exact ⟨p, h.trans p1, p2⟩
theorem seg_len : ∀ {s : Seg}, s.length ≤ (enc s).length := by
  intro s
  induction s with
  | nil => exact Nat.le_refl _
  | cons e s ih =>
    have h1 : 1 ≤ (trS e).length := by
      unfold trS
      split
      · exact Nat.le_refl _
      · split
        · exact Nat.le_add_left 1 2
        · split <;> exact Nat.le_refl _
    have e2 : enc (e :: s) = trS e ++ enc s := rfl
    rw [e2, List.length_append, List.length_cons]
    omega
theorem getS1 {l : Seg} {m : Nat × Nat} {j : Nat} (h : j < l.length) : (l ++ [m]).getD j (0, 0) = l.getD j (0, 0) := by
  rw [List.getD_eq_getElem?_getD, List.getD_eq_getElem?_getD, List.getElem?_append_left h]
theorem getS2 {l : Seg} {m : Nat × Nat} : (l ++ [m]).getD l.length (0, 0) = m := by
  rw [List.getD_eq_getElem?_getD, List.getElem?_append_right (Nat.le_refl _), Nat.sub_self]
  rfl
end MSS
/-- what a reader of the reference does -/
def RM (A : Nat → Nat) (S : Nat → Prop) (h0 : AH) (X : Nat → Nat → Int32) (B : Nat → Nat) (n : Nat) (st : Bool) (d : Nat) (l : Seg) (r : Res) (Q : Int32 → AH → Prop) : Prop :=
  (∀ j s, r = .ok (j, s) → ∀ X' h', G A S h0 X' h' → UR X X' → MS X' B n st j (l ++ s) d → Q 1 h') ∧ ∀ e, r = .error e → ∀ X' h', G A S h0 X' h' → UR X X' → X' 12 8 = nI (tkB B n e) → Q 0 h'
section MREAD
variable {A : Nat → Nat} {S : Nat → Prop} {h0 h : AH} {X : Nat → Nat → Int32} {Q : Int32 → AH → Prop} {Qv : AH → Prop} {B : Nat → Nat} {n i : Nat} {st : Bool} {l : Seg} {d : Nat}
theorem m_emit0 (H : G A S h0 X h) {m : Nat} (h12 : X 12 12 = nI m) (hm : m ≤ 399) {va vb : Int32} (k : ∀ X' h', G A S h0 X' h' → UR X X' → X' 12 12 = nI (m + 1) → (∀ j, j < m → X' 1301 (8676 + 2 * j) = X 1301 (8676 + 2 * j) ∧ X' 1301 (8677 + 2 * j) = X 1301 (8677 + 2 * j)) → X' 1301 (8676 + 2 * m) = va → X' 1301 (8677 + 2 * m) = vb → X' 12 6 = X 12 6 → X' 12 8 = X 12 8 → X' 12 9 = X 12 9 → Qv h') : w_X12_emits (A 12) va vb h Qv := by
  have e1 : (1166 : Int32) + (831 : Int32) * 9 + 31 + 2 * nI m = nI (8676 + 2 * m) := ix2 8676 2 m
  dsimp only [w_X12_emits, w_X12_textAt]
  refine fG (o := 12) H H.b rfl ?_
  rw [h12, e1]
  refine bd_i ?_
  refine fP (o := 12) H H.b rfl rfl ?_
  refine tG (id := 1301) H H.b rfl (by decide) rfl (by omega) (fun h1 H1 => ?_)
  refine fP (o := 12) H1 H1.b rfl rfl ?_
  refine tG (id := 1301) (n := 8676 + 2 * m + 1) H1 H1.b rfl (by decide) (nI_succ _).symm (by omega) (fun h2 H2 => ?_)
  refine fG (o := 12) H2 H2.b rfl ?_
  rw [up_row _ _ _ (by decide), up_row _ _ _ (by decide), h12, ← nI_succ]
  refine uG (o := 12) H2 H2.b rfl (fun h3 H3 => ?_)
  refine k _ h3 H3 ((((UR.rf X).uW (show 8676 ≤ 8676 + 2 * m by omega) _).uW (show 8676 ≤ 8676 + 2 * m + 1 by omega) _).u9 (k := 12) (by omega) _) (up_same _ _ _ _) (fun j hj => ?_) ?_ ?_ ?_ ?_ ?_
  · rw [up_row _ _ _ (by decide), up_n _ _ _ (by omega), up_n _ _ _ (by omega), up_n _ _ _ (by omega), up_n _ _ _ (by omega)]
    exact ⟨rfl, rfl⟩
  · rw [up_row _ _ _ (by decide), up_n _ _ _ (by omega), up_same]
  · rw [up_row _ _ _ (by decide), show 8677 + 2 * m = 8676 + 2 * m + 1 by omega, up_same]
  · rw [up_n _ _ _ (by decide), up_row _ _ _ (by decide), up_row _ _ _ (by decide)]
  · rw [up_n _ _ _ (by decide), up_row _ _ _ (by decide), up_row _ _ _ (by decide)]
  · rw [up_n _ _ _ (by decide), up_row _ _ _ (by decide), up_row _ _ _ (by decide)]
theorem m_emits (H : G A S h0 X h) (M : MS0 X B n st l d) (hl : l.length ≤ 399) {a b : Nat} {va vb : Int32} (ha : va = nI a) (hb : vb = nI b) (k : ∀ X' h', G A S h0 X' h' → UR X X' → MS0 X' B n st (l ++ [(a, b)]) d → X' 12 6 = X 12 6 → Qv h') : w_X12_emits (A 12) va vb h Qv := by
  subst ha hb
  obtain ⟨m1, m2, m3, m4⟩ := M
  refine m_emit0 H m3.1 hl (fun X1 h1 H1 u1 e1 e2 e3 e4 e5 e6 e7 => ?_)
  refine k X1 h1 H1 u1 ⟨m1.ur u1, by rw [u1 12 13 (fun z => by omega) (fun z => absurd z.1 (by decide))]; exact m2, ⟨by rw [List.length_append, List.length_singleton]; exact e1, fun j hj => ?_⟩, e7.trans m4⟩ e5
  rw [List.length_append, List.length_singleton] at hj
  by_cases c : j = l.length
  · rw [c, getS2]
    exact ⟨e3, e4⟩
  · rw [getS1 (by omega), (e2 j (by omega)).1, (e2 j (by omega)).2]
    exact m3.2 j (by omega)
theorem m_factAt (H : G A S h0 X h) (M : MTp X B n) (hn : n ≤ 400) (hB : ∀ i, i < n → B i < 256) (h13 : X 12 13 = bI st) (h6 : X 12 6 = nI (be B n 97 122 (tkB B n i))) (h8 : X 12 8 = nI (tkB B n i)) (k1 : ∀ f, f < 7 → tkH B n i = ff st + f → Q (nI f) h) (k2 : ¬ (ff st ≤ tkH B n i ∧ tkH B n i < ff st + 7) → Q (-1) h) : w_X12_factAt (A 12) h Q := by
  dsimp only [w_X12_factAt, w_X12_factAt_100, w_X12_factAt_194]
  refine fG (o := 12) H H.b rfl ?_
  rw [h13]
  refine br_bI (fun c => ?_) (fun c => ?_)
  · have ef : ff st = 1018 := by rw [c]; rfl
    rw [ef] at k1 k2
    intro a0 ha0
    refine vG (o := 12) H H.b rfl (m_isWord H M hn hB h6 h8 ha0 (t := 12) (by decide) (by decide) (br_bI (fun d0 => k1 0 (by decide) (of_decide_eq_true d0)) (fun d0 => ?_)))
    intro a1 ha1
    refine vG (o := 12) H H.b rfl (m_isWord H M hn hB h6 h8 ha1 (t := 13) (by decide) (by decide) (br_bI (fun d1 => k1 1 (by decide) (of_decide_eq_true d1)) (fun d1 => ?_)))
    intro a2 ha2
    refine vG (o := 12) H H.b rfl (m_isWord H M hn hB h6 h8 ha2 (t := 14) (by decide) (by decide) (br_bI (fun d2 => k1 2 (by decide) (of_decide_eq_true d2)) (fun d2 => ?_)))
    intro a3 ha3
    refine vG (o := 12) H H.b rfl (m_isWord H M hn hB h6 h8 ha3 (t := 15) (by decide) (by decide) (br_bI (fun d3 => k1 3 (by decide) (of_decide_eq_true d3)) (fun d3 => ?_)))
    intro a4 ha4
    refine vG (o := 12) H H.b rfl (m_isWord H M hn hB h6 h8 ha4 (t := 16) (by decide) (by decide) (br_bI (fun d4 => k1 4 (by decide) (of_decide_eq_true d4)) (fun d4 => ?_)))
    intro a5 ha5
    refine vG (o := 12) H H.b rfl (m_isWord H M hn hB h6 h8 ha5 (t := 17) (by decide) (by decide) (br_bI (fun d5 => k1 5 (by decide) (of_decide_eq_true d5)) (fun d5 => ?_)))
    intro a6 ha6
    refine vG (o := 12) H H.b rfl (m_isWord H M hn hB h6 h8 ha6 (t := 18) (by decide) (by decide) (br_bI (fun d6 => k1 6 (by decide) (of_decide_eq_true d6)) (fun d6 => k2 (fun z => ?_))))
    have g0 : ¬ tkH B n i = 1018 := fun z => d0 (decide_eq_true z)
    have g1 : ¬ tkH B n i = 1019 := fun z => d1 (decide_eq_true z)
    have g2 : ¬ tkH B n i = 1020 := fun z => d2 (decide_eq_true z)
    have g3 : ¬ tkH B n i = 1021 := fun z => d3 (decide_eq_true z)
    have g4 : ¬ tkH B n i = 1022 := fun z => d4 (decide_eq_true z)
    have g5 : ¬ tkH B n i = 1023 := fun z => d5 (decide_eq_true z)
    have g6 : ¬ tkH B n i = 1024 := fun z => d6 (decide_eq_true z)
    omega
  · have ef : ff st = 1009 := by rw [Bool.not_eq_true] at c; rw [c]; rfl
    rw [ef] at k1 k2
    intro a0 ha0
    refine vG (o := 12) H H.b rfl (m_isWord H M hn hB h6 h8 ha0 (t := 19) (by decide) (by decide) (br_bI (fun d0 => k1 0 (by decide) (of_decide_eq_true d0)) (fun d0 => ?_)))
    intro a1 ha1
    refine vG (o := 12) H H.b rfl (m_isWord H M hn hB h6 h8 ha1 (t := 20) (by decide) (by decide) (br_bI (fun d1 => k1 1 (by decide) (of_decide_eq_true d1)) (fun d1 => ?_)))
    intro a2 ha2
    refine vG (o := 12) H H.b rfl (m_isWord H M hn hB h6 h8 ha2 (t := 21) (by decide) (by decide) (br_bI (fun d2 => k1 2 (by decide) (of_decide_eq_true d2)) (fun d2 => ?_)))
    intro a3 ha3
    refine vG (o := 12) H H.b rfl (m_isWord H M hn hB h6 h8 ha3 (t := 22) (by decide) (by decide) (br_bI (fun d3 => k1 3 (by decide) (of_decide_eq_true d3)) (fun d3 => ?_)))
    intro a4 ha4
    refine vG (o := 12) H H.b rfl (m_isWord H M hn hB h6 h8 ha4 (t := 23) (by decide) (by decide) (br_bI (fun d4 => k1 4 (by decide) (of_decide_eq_true d4)) (fun d4 => ?_)))
    intro a5 ha5
    refine vG (o := 12) H H.b rfl (m_isWord H M hn hB h6 h8 ha5 (t := 24) (by decide) (by decide) (br_bI (fun d5 => k1 5 (by decide) (of_decide_eq_true d5)) (fun d5 => ?_)))
    intro a6 ha6
    refine vG (o := 12) H H.b rfl (m_isWord H M hn hB h6 h8 ha6 (t := 25) (by decide) (by decide) (br_bI (fun d6 => k1 6 (by decide) (of_decide_eq_true d6)) (fun d6 => k2 (fun z => ?_))))
    have g0 : ¬ tkH B n i = 1009 := fun z => d0 (decide_eq_true z)
    have g1 : ¬ tkH B n i = 1010 := fun z => d1 (decide_eq_true z)
    have g2 : ¬ tkH B n i = 1011 := fun z => d2 (decide_eq_true z)
    have g3 : ¬ tkH B n i = 1012 := fun z => d3 (decide_eq_true z)
    have g4 : ¬ tkH B n i = 1013 := fun z => d4 (decide_eq_true z)
    have g5 : ¬ tkH B n i = 1014 := fun z => d5 (decide_eq_true z)
    have g6 : ¬ tkH B n i = 1015 := fun z => d6 (decide_eq_true z)
    omega
theorem m_readFact (H : G A S h0 X h) (hn : n ≤ 400) (hB : ∀ i, i < n → B i < 256) (M : MS X B n st i l d) (hl : l.length ≤ 399) (k : RM A S h0 X B n st d l (pFact (tkH B n) st i) Q) : w_X12_readFact (A 12) h Q := by
  have hff := ff_or (st := st)
  dsimp only [w_X12_readFact, w_X12_readFact_19, w_X12_readFact_28]
  refine vG (o := 12) H H.b rfl ?_
  refine m_letters H M.1.1 hn hB M.2 (fun X1 h1 H1 u1 a1 b1 => ?_)
  have M1 := M.1.ub u1
  refine vG (o := 12) H1 H1.b rfl ?_
  unfold pFact at k
  refine m_factAt H1 M1.1 hn hB M1.2.1 a1 b1 (fun f hf e => ?_) (fun z => ?_)
  · rw [if_pos ⟨by omega, by omega⟩, show tkH B n i - ff st = f by omega] at k
    refine br_F (nI_nlt (a := f) (b := 0) (by omega) (by omega)) ?_
    refine vG (o := 12) H1 H1.b rfl ?_
    refine m_emits H1 M1 hl rfl rfl (fun X2 h2 H2 u2 M2 e6 => ?_)
    refine br_F (nI_nlt (a := f) (b := 0) (by omega) (by omega)) ⟨Or.inr rfl, k.1 _ _ rfl X2 h2 H2 (u1.ur.tr u2) ⟨M2, ?_⟩⟩
    exact (PT.word hn a1 (by omega) (by omega)).of e6
  · rw [if_neg z] at k
    exact br_T (by decide) (br_T (by decide) ⟨Or.inl rfl, k.2 _ rfl X1 h1 H1 u1.ur b1⟩)
theorem RM.z {r : Res} (k : RM A S h0 X B n st d l r Q) : RM A S h0 X B n st d l r (fun x h => z1 x (Q x h)) :=
  ⟨fun j s e X' h' H' o' C' => ⟨Or.inr rfl, k.1 j s e X' h' H' o' C'⟩, fun e z X' h' H' o' F' => ⟨Or.inl rfl, k.2 e z X' h' H' o' F'⟩⟩
theorem m_readPart (H : G A S h0 X h) (hn : n ≤ 400) (hB : ∀ i, i < n → B i < 256) (M : MS X B n st i l d) (hl : l.length ≤ tkN B n i) (hl2 : l.length ≤ 399) (k : RM A S h0 X B n st d l (pPart (tkH B n) st i) Q) : w_X12_readPart (A 12) h Q := by
  have T := tok_TS (B := B) hn
  have hff := ff_or (st := st)
  have hle := tkB_le (B := B) hn i
  obtain ⟨b1, b2, b3, b4⟩ := be_spec (B := B) (lo := 97) (hi := 122) hn (tkB B n i)
  have b5 := b4 hle
  dsimp only [w_X12_readPart]
  refine vG (o := 12) H H.b rfl ?_
  refine m_letters H M.1.1 hn hB M.2 (fun X1 h1 H1 u1 a1 c1 => ?_)
  have M1 := M.1.ub u1
  refine fG (o := 12) H1 H1.b rfl ?_
  refine fG (o := 12) H1 H1.b rfl ?_
  rw [a1, c1]
  unfold pPart at k
  refine br_Le (by omega) (by omega) (fun z => ?_) (fun z => ?_)
  · have hnl : inB B n 97 122 (tkB B n i) = false := by
      rw [show be B n 97 122 (tkB B n i) = tkB B n i by omega] at b3
      exact b3
    have hth := tk_nl hn hnl
    rw [be_stop hn hnl] at a1
    refine vG (o := 12) H1 H1.b rfl ?_
    refine m_number H1 M1.1 hn hB (PT.at hn a1) (fun y X2 h2 H2 u2 P2 c2 => ?_) (fun y X2 h2 H2 u2 c2 => ?_)
    · rw [if_pos y] at k
      have M2 := M1.ub u2
      obtain ⟨t1, t2, t3⟩ := T.up (i := i) (by omega)
      dsimp only [w_X12_emitsIf, w_X12_emitsIf_15]
      refine vG (o := 12) H2 H2.b rfl ?_
      refine vG (o := 12) H2 H2.b rfl ?_
      refine m_emits H2 M2 hl2 (a := 10) rfl rfl (fun X3 h3 H3 u3 M3 e6 => ?_)
      have P3 := P2.of e6
      have hth3 := T.2.2.2.2.2.2.1 i
      refine br_F (nI_nlt (a := tkH B n i - 2000) (b := 0) (by omega) (by omega)) ⟨Or.inr rfl, br_F (by decide) ?_⟩
      refine vG (o := 12) H3 H3.b rfl ?_
      have u13 := (u1.ur.tr u2.ur).tr u3
      refine m_sign (c := 42) H3 M3.1 hn hB P3 rfl (fun y2 X4 h4 H4 u4 P4 c4 => ?_) (fun y2 X4 h4 H4 u4 P4 c4 => ?_)
      · rw [if_pos y2] at k
        obtain ⟨v1, v2, v3⟩ := T.up (i := i + 1) (by omega)
        refine br_F (by decide) ?_
        refine vG (o := 12) H4 H4.b rfl ?_
        have M4 := M3.ub u4
        refine m_readFact H4 hn hB ⟨M4, P4⟩ (by rw [List.length_append, List.length_singleton]; omega) ⟨fun j s e X5 h5 H5 u5 M5 => ?_, fun e y5 X5 h5 H5 u5 c5 => ?_⟩
        · rw [show i + 1 + 1 = i + 2 from rfl] at e
          rw [e] at k
          have hb := pFact_bd T (i + 2) _ _ (by omega) e
          have hs := seg_len (s := s)
          have hb4 := T.2.2.2.2.1 j hb.2.1
          have e22 : tkN B n (i + 2) = tkN B n (i + 1 + 1) := rfl
          refine br_F (by decide) ?_
          refine vG (o := 12) H5 H5.b rfl ?_
          refine m_emits H5 M5.1 (by rw [List.length_append, List.length_append, List.length_singleton]; omega) (a := 11) (b := 0) rfl rfl (fun X6 h6 H6 u6 M6 e66 => ?_)
          refine k.1 _ _ rfl X6 h6 H6 (((u13.tr u4.ur).tr u5).tr u6) ⟨?_, M5.2.of e66⟩
          rw [← List.append_assoc, ← List.append_assoc]
          exact M6
        · rw [show i + 1 + 1 = i + 2 from rfl] at y5
          rw [y5] at k
          exact br_T rfl (k.2 _ rfl X5 h5 H5 ((u13.tr u4.ur).tr u5) c5)
      · rw [if_neg y2] at k
        exact br_T rfl (k.1 _ _ rfl X4 h4 H4 (u13.tr u4.ur) ⟨M3.ub u4, P4⟩)
    · rw [if_neg y] at k
      have hf : pFact (tkH B n) st i = .error i := by
        unfold pFact
        rw [if_neg (fun w => by omega)]
      rw [hf] at k
      dsimp only [w_X12_emitsIf, w_X12_emitsIf_15]
      refine vG (o := 12) H2 H2.b rfl ?_
      refine vG (o := 12) H2 H2.b rfl ?_
      have M2 := M1.ub u2
      refine m_emit0 H2 M2.2.2.1.1 hl2 (fun X3 h3 H3 u3 e1 e2 e3 e4 e5 e6 e7 => ?_)
      exact br_T (by decide) ⟨Or.inl rfl, br_T rfl (k.2 _ rfl X3 h3 H3 ((u1.ur.tr u2.ur).tr u3) (e6.trans c2))⟩
  · have hlt : inB B n 97 122 (tkB B n i) = true := b2 _ (Nat.le_refl _) z
    have hth2 : ¬ 2000 ≤ tkH B n i := fun y => by
      have := inB_iff.mp ((tk_num hn).mp y).1
      have := inB_iff.mp hlt
      omega
    rw [if_neg hth2] at k
    refine fG (o := 12) H1 H1.b rfl ?_
    rw [c1]
    refine uG (o := 12) H1 H1.b rfl (fun h2 H2 => ?_)
    refine vG (o := 12) H2 H2.b rfl ?_
    have u2 := (UB.rf X1).up (Or.inl (rfl : (6 : Nat) = 6)) (nI (tkB B n i))
    have k2 : RM A S h0 (up X1 12 6 (nI (tkB B n i))) B n st d l (pFact (tkH B n) st i) Q := ⟨fun j s e X' h' H' u' M' => k.1 j s e X' h' H' ((u1.tr u2).ur.tr u') M', fun e y X' h' H' u' c' => k.2 e y X' h' H' ((u1.tr u2).ur.tr u') c'⟩
    exact m_readFact H2 hn hB ⟨M1.ub u2, PT.at hn (up_same _ _ _ _)⟩ hl2 k2.z
theorem pSumL_stop {th : Nat → Nat} {st : Bool} {f i : Nat} {a : Seg} (h : ¬ th i = 43) : pSumL th st f i a = .ok (i, a) := by
  cases f with
  | zero => rfl
  | succ f =>
    simp only [pSumL]
    rw [if_neg h]
theorem m_readSum (H : G A S h0 X h) (hn : n ≤ 400) (hB : ∀ i, i < n → B i < 256) (M : MS X B n st i l d) (hi : i ≤ tkC B n) (hl : l.length ≤ tkN B n i) (hl2 : l.length ≤ 399) (k : RM A S h0 X B n st d l (pSum (tkH B n) st i) Q) : w_X12_readSum (A 12) h Q := by
  have T := tok_TS (B := B) hn
  have hc := T.1
  dsimp only [w_X12_readSum]
  refine vG (o := 12) H H.b rfl ?_
  unfold pSum at k
  refine m_readPart H hn hB M hl hl2 ⟨fun j s e X1 h1 H1 u1 M1 => ?_, fun e z X1 h1 H1 u1 c1 => ?_⟩
  · rw [e] at k
    dsimp only at k
    obtain ⟨w1, w2, w3, w4⟩ := pPart_bd T i _ _ hi e
    have w5 := seg_len (s := s)
    refine br_F (by decide) ?_
    refine lp_ind (fun m (x : AH) => ∃ f i2 a X2, tkC B n ≤ i2 + m ∧ 401 ≤ f + i2 ∧ i2 ≤ tkC B n ∧ l.length + a.length ≤ tkN B n i2 ∧ pSumL (tkH B n) st f i2 a = pSumL (tkH B n) st k400 j s ∧ G A S h0 X2 x ∧ UR X X2 ∧ MS X2 B n st i2 (l ++ a) d) (fun m x kk hI kn => ?_) (tkC B n) h1 ⟨k400, j, s, X1, by omega, by rw [k400_eq]; omega, w2, by omega, rfl, H1, u1, M1⟩
    obtain ⟨f, i2, a, X2, f0, f1, b1, b2, f2, H2, u2, M2⟩ := hI
    dsimp only [w_X12_readSum_9, w_X12_readSum_25, w_X12_readSum_37]
    refine vG (o := 12) H2 H2.b rfl ?_
    refine m_sign (c := 43) H2 M2.1.1 hn hB M2.2 rfl (fun y X3 h3 H3 u3 P3 c3 => ?_) (fun y X3 h3 H3 u3 P3 c3 => ?_)
    · obtain ⟨t1, t2, t3⟩ := T.up (i := i2) (by omega)
      obtain ⟨f, rfl⟩ : ∃ g, f = g + 1 := ⟨f - 1, by omega⟩
      simp only [pSumL] at f2
      rw [if_pos y] at f2
      refine br_F (by decide) ?_
      refine vG (o := 12) H3 H3.b rfl ?_
      have M3 := M2.1.ub u3
      refine m_readPart H3 hn hB ⟨M3, P3⟩ (by rw [List.length_append]; omega) (by rw [List.length_append]; omega) ⟨fun j4 s4 e4 X4 h4 H4 u4 M4 => ?_, fun e4 z4 X4 h4 H4 u4 c4 => ?_⟩
      · rw [e4] at f2
        dsimp only at f2
        obtain ⟨y1, y2, y3, y4⟩ := pPart_bd T (i2 + 1) _ _ (by omega) e4
        have y5 := T.2.2.2.2.1 j4 y2
        have y6 := seg_len (s := s4)
        refine br_F (by decide) ?_
        refine vG (o := 12) H4 H4.b rfl ?_
        refine m_emits H4 M4.1 (by rw [List.length_append, List.length_append]; omega) (a := 12) (b := 0) rfl rfl (fun X5 h5 H5 u5 M5 e6 => ?_)
        refine kn (m - 1) _ (by omega) ⟨f, j4, a ++ s4 ++ [(12, 0)], X5, by omega, by omega, y2, ?_, f2, H5, ((u2.tr u3.ur).tr u4).tr u5, ?_, M4.2.of e6⟩
        · rw [List.length_append, List.length_append, List.length_singleton]
          omega
        · rw [← List.append_assoc, ← List.append_assoc]
          exact M5
      · rw [z4] at f2
        dsimp only at f2
        rw [← f2] at k
        exact br_T rfl (k.2 _ rfl X4 h4 H4 ((u2.tr u3.ur).tr u4) c4)
    · rw [pSumL_stop y] at f2
      rw [← f2] at k
      exact br_T rfl (k.1 _ _ rfl X3 h3 H3 (u2.tr u3.ur) ⟨M2.1.ub u3, P3⟩)
  · rw [z] at k
    exact br_T rfl (k.2 _ rfl X1 h1 H1 u1 c1)
theorem m_readTag (H : G A S h0 X h) (hn : n ≤ 400) (hB : ∀ i, i < n → B i < 256) (M : MS X B n st i l d) (hl2 : l.length ≤ 399) (k1 : st = false → (tkH B n i = 1016 ∨ tkH B n i = 1017) → ∀ X' h', G A S h0 X' h' → UR X X' → MS X' B n st (i + 1) (l ++ [(tkH B n i - 1009, 0)]) d → Q 1 h') (k2 : st = true → tkH B n i = 1025 → 2000 ≤ tkH B n (i + 1) → ∀ X' h', G A S h0 X' h' → UR X X' → MS X' B n st (i + 2) (l ++ [(9, tkH B n (i + 1) - 2000)]) d → Q 1 h') (k3 : st = true → tkH B n i = 1025 → ¬ 2000 ≤ tkH B n (i + 1) → ∀ X' h', G A S h0 X' h' → UR X X' → X' 12 8 = nI (tkB B n (i + 1)) → X' 12 12 = nI (l.length + 1) → X' 1301 (8677 + 2 * l.length) = -1 → Q 1 h') (k4 : ¬ (st = false ∧ (tkH B n i = 1016 ∨ tkH B n i = 1017)) → ¬ (st = true ∧ tkH B n i = 1025) → ∀ X' h', G A S h0 X' h' → UR X X' → MS X' B n st i l d → Q 0 h') : w_X12_readTag (A 12) h Q := by
  dsimp only [w_X12_readTag, w_X12_readTag_58, w_X12_readTag_89]
  refine vG (o := 12) H H.b rfl ?_
  refine m_letters H M.1.1 hn hB M.2 (fun X1 h1 H1 u1 a1 b1 => ?_)
  have M1 := M.1.ub u1
  refine fG (o := 12) H1 H1.b rfl ?_
  rw [M1.2.1]
  have none_ : ¬ (st = false ∧ (tkH B n i = 1016 ∨ tkH B n i = 1017)) → ¬ (st = true ∧ tkH B n i = 1025) → fI h1 (A 12) 12 8 fun x2 => uI h1 (A 12) 12 6 x2 fun h => Q 0 h := by
    intro z1 z2
    refine fG (o := 12) H1 H1.b rfl ?_
    rw [b1]
    refine uG (o := 12) H1 H1.b rfl (fun h2 H2 => ?_)
    have u2 := (UB.rf X1).up (Or.inl (rfl : (6 : Nat) = 6)) (nI (tkB B n i))
    exact k4 z1 z2 _ h2 H2 (u1.tr u2).ur ⟨M1.ub u2, PT.at hn (up_same _ _ _ _)⟩
  refine br_bI (fun c => ?_) (fun c => ?_)
  · intro a6 ha6
    refine vG (o := 12) H1 H1.b rfl (m_isWord H1 M1.1 hn hB a1 b1 ha6 (t := 9) (by decide) (by decide) (br_bI (fun e => ?_) (fun e => ?_)))
    · have e2 : tkH B n i = 1025 := of_decide_eq_true e
      refine br_T (by decide) (br_T rfl ?_)
      refine vG (o := 12) H1 H1.b rfl ?_
      have P1 : PT X1 B n (i + 1) := PT.word hn a1 (by omega) (by omega)
      refine m_number H1 M1.1 hn hB P1 (fun y X2 h2 H2 u2 P2 c2 => ?_) (fun y X2 h2 H2 u2 c2 => ?_)
      · refine vG (o := 12) H2 H2.b rfl ?_
        refine m_emits H2 (M1.ub u2) hl2 (a := 9) rfl rfl (fun X3 h3 H3 u3 M3 e6 => ?_)
        exact k2 c e2 y X3 h3 H3 ((u1.tr u2).ur.tr u3) ⟨M3, P2.of e6⟩
      · refine vG (o := 12) H2 H2.b rfl ?_
        refine m_emit0 H2 (M1.ub u2).2.2.1.1 hl2 (fun X3 h3 H3 u3 e1 e3 e4 e5 e6 e7 e8 => ?_)
        exact k3 c e2 y X3 h3 H3 ((u1.tr u2).ur.tr u3) (e7.trans c2) e1 e5
    · refine br_F (by decide) (none_ (fun z => by rw [c] at z; cases z.1) (fun z => e (decide_eq_true z.2)))
  · rw [Bool.not_eq_true] at c
    intro a2 ha2
    have tag : ∀ t, (t = 7 ∨ t = 8) → tkH B n i = 1009 + t → vr h1 (A 12) 12 (w_X12_emits (A 12) (nI t) 0 h1 fun h => Q 1 h) := by
      intro t ht e2
      refine vG (o := 12) H1 H1.b rfl ?_
      refine m_emits H1 M1 hl2 (a := t) (b := 0) rfl rfl (fun X3 h3 H3 u3 M3 e6 => ?_)
      refine k1 c (by omega) X3 h3 H3 (u1.ur.tr u3) ⟨?_, (PT.word hn a1 (by omega) (by omega)).of e6⟩
      rw [show tkH B n i - 1009 = t by omega]
      exact M3
    refine vG (o := 12) H1 H1.b rfl (m_isWord H1 M1.1 hn hB a1 b1 ha2 (t := 10) (by decide) (by decide) (br_bI (fun e => ?_) (fun e => ?_)))
    · have e2 : tkH B n i = 1016 := of_decide_eq_true e
      exact br_T (by decide) (br_F (by decide) (tag 7 (Or.inl rfl) e2))
    · intro a4 ha4
      refine vG (o := 12) H1 H1.b rfl (m_isWord H1 M1.1 hn hB a1 b1 ha4 (t := 11) (by decide) (by decide) (br_bI (fun e3 => ?_) (fun e3 => ?_)))
      · have e2 : tkH B n i = 1017 := of_decide_eq_true e3
        exact br_T (by decide) (br_F (by decide) (tag 8 (Or.inr rfl) e2))
      · refine br_F (by decide) (none_ (fun z => z.2.elim (fun y => e (decide_eq_true y)) (fun y => e3 (decide_eq_true y))) (fun z => by rw [c] at z; cases z.1))
end MREAD
