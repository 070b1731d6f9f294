/-! the reference: lines, laws, stories -/
def sgL (a : List (Nat × Seg)) : Seg := a.flatMap (fun q => q.2)
theorem sgL_cons {x : Nat × Seg} {a : List (Nat × Seg)} : sgL (x :: a) = x.2 ++ sgL a := rfl
theorem sgL_app {a b : List (Nat × Seg)} : sgL (a ++ b) = sgL a ++ sgL b := List.flatMap_append
theorem sgL_one {c : Nat} {s : Seg} : sgL [(c, s)] = s := by simp [sgL]
theorem sg_split : ∀ {a : List (Nat × Seg)} {j : Nat}, j < a.length → ∃ R, sgL a = sgL (a.take j) ++ (a.getD j (0, [])).2 ++ R ∧ sgL (a.take (j + 1)) = sgL (a.take j) ++ (a.getD j (0, [])).2 := by
  intro a
  induction a with
  | nil => intro j h; exact absurd h (Nat.not_lt_zero _)
  | cons x xs ih =>
    intro j h
    cases j with
    | zero =>
      refine ⟨sgL xs, rfl, ?_⟩
      show x.2 ++ sgL [] = [] ++ x.2
      rw [List.nil_append]
      exact List.append_nil _
    | succ j =>
      obtain ⟨R, h1, h2⟩ := ih (by simpa using h)
      refine ⟨R, ?_, ?_⟩
      · show x.2 ++ sgL xs = x.2 ++ sgL (xs.take j) ++ (xs.getD j (0, [])).2 ++ R
        rw [h1]
        simp only [List.append_assoc]
      · show x.2 ++ sgL (xs.take (j + 1)) = x.2 ++ sgL (xs.take j) ++ (xs.getD j (0, [])).2
        rw [h2]
        simp only [List.append_assoc]
theorem take_app {x : Nat × Seg} : ∀ {a : List (Nat × Seg)} {j : Nat}, j ≤ a.length → (a ++ [x]).take j = a.take j := by
  intro a
  induction a with
  | nil =>
    intro j h
    have : j = 0 := by simpa using h
    subst this
    rfl
  | cons y a ih =>
    intro j h
    cases j with
    | zero => rfl
    | succ j =>
      show y :: (a ++ [x]).take j = y :: a.take j
      rw [ih (by simpa using h)]
theorem take_all : ∀ {a : List (Nat × Seg)} {j : Nat}, a.length ≤ j → a.take j = a := by
  intro a
  induction a with
  | nil => intro j _; cases j <;> rfl
  | cons y a ih =>
    intro j h
    cases j with
    | zero => simp at h
    | succ j =>
      show y :: a.take j = y :: a
      rw [ih (by simpa using h)]
theorem getL1 {a : List (Nat × Seg)} {x : Nat × Seg} {j : Nat} (h : j < a.length) : (a ++ [x]).getD j (0, []) = a.getD j (0, []) := by
  rw [List.getD_eq_getElem?_getD, List.getD_eq_getElem?_getD, List.getElem?_append_left h]
theorem getL2 {a : List (Nat × Seg)} {x : Nat × Seg} : (a ++ [x]).getD a.length (0, []) = x := by
  rw [List.getD_eq_getElem?_getD, List.getElem?_append_right (Nat.le_refl _), Nat.sub_self]
  rfl
theorem sg_lw : ∀ {a : List (Nat × Seg)}, (sgL a).length ≤ (lwE a).length := by
  intro a
  induction a with
  | nil => exact Nat.le_refl _
  | cons x a ih =>
    have e1 : lwE (x :: a) = lnE x.2 ++ [10001 + x.1] ++ lwE a := rfl
    have e2 : x.2.length ≤ (lnE x.2).length := by
      unfold lnE
      split
      · rename_i z
        rw [z]
        exact Nat.zero_le _
      · exact seg_len
    rw [e1, sgL_cons, List.length_append, List.length_append, List.length_append]
    omega
/-- the draft's lines -/
def LTr (X : Nat → Nat → Int32) (a : List (Nat × Seg)) : Prop := ∀ j, j < a.length → X 1301 (8646 + 3 * j) = nI (a.getD j (0, [])).1 ∧ X 1301 (8647 + 3 * j) = nI (sgL (a.take j)).length ∧ X 1301 (8648 + 3 * j) = nI (sgL (a.take (j + 1))).length
def UL (X X' : Nat → Nat → Int32) : Prop := ∀ id n, ¬ (id = 12 ∧ (n = 6 ∨ n = 8 ∨ n = 9 ∨ n = 12)) → ¬ (id = 1301 ∧ 8645 ≤ n) → X' id n = X id n
theorem UL.rf (X : Nat → Nat → Int32) : UL X X := fun _ _ _ _ => rfl
theorem UL.tr {X X' X'' : Nat → Nat → Int32} (a : UL X X') (b : UL X' X'') : UL X X'' := fun id n h g => (b id n h g).trans (a id n h g)
theorem UR.ul {X X' : Nat → Nat → Int32} (a : UR X X') : UL X X' := fun id n h g => a id n h (fun z => g ⟨z.1, by omega⟩)
theorem UL.uW {X X' : Nat → Nat → Int32} (a : UL X X') {k : Nat} (hk : 8645 ≤ k) (v : Int32) : UL X (up X' 1301 k v) := fun id n h g => by
  by_cases e : id = 1301
  · subst e
    rw [up_n _ _ _ (fun z => g ⟨rfl, by rw [z]; exact hk⟩)]
    exact a 1301 n h g
  · rw [up_row _ _ _ e]
    exact a id n h g
theorem LTr.ur {X X' : Nat → Nat → Int32} {a : List (Nat × Seg)} (L : LTr X a) (u : UR X X') (h10 : a.length ≤ 10) : LTr X' a := fun j hj => by
  rw [u 1301 _ (fun z => absurd z.1 (by decide)) (fun z => by omega), u 1301 _ (fun z => absurd z.1 (by decide)) (fun z => by omega), u 1301 _ (fun z => absurd z.1 (by decide)) (fun z => by omega)]
  exact L j hj
theorem MS0.line {X : Nat → Nat → Int32} {B : Nat → Nat} {n : Nat} {st : Bool} {l : Seg} {d : Nat} (M : MS0 X B n st l d) {k : Nat} (hk : k < 8676) (v : Int32) : MS0 (up X 1301 k v) B n st l d := by
  obtain ⟨m1, m2, m3, m4⟩ := M
  refine ⟨⟨by rw [up_row _ _ _ (by decide)]; exact m1.1, fun i hi => by rw [up_row _ _ _ (by decide)]; exact m1.2 i hi⟩, by rw [up_row _ _ _ (by decide)]; exact m2, ⟨by rw [up_row _ _ _ (by decide)]; exact m3.1, fun j hj => ?_⟩, by rw [up_row _ _ _ (by decide)]; exact m4⟩
  rw [up_n _ _ _ (by omega), up_n _ _ _ (by omega)]
  exact m3.2 j hj
theorem tk_end {B : Nat → Nat} {n : Nat} (hn : n ≤ 400) {i : Nat} : tkB B n i = n ↔ tkH B n i = 0 := by
  have hle := tkB_le (B := B) hn i
  constructor
  · intro h
    unfold tkH
    rw [h, if_neg (Nat.lt_irrefl _)]
  · intro h
    refine Decidable.byContradiction fun z => ?_
    rw [tkH_at (by omega)] at h
    exact (tkV_lt hn _).2 h
section MLAW
variable {A : Nat → Nat} {S : Nat → Prop} {h0 h : AH} {X : Nat → Nat → Int32} {Q : Int32 → AH → Prop} {Qv : AH → Prop} {B : Nat → Nat} {n i : Nat} {a : List (Nat × Seg)}
theorem m_readLine (H : G A S h0 X h) (hn : n ≤ 400) (hB : ∀ i, i < n → B i < 256) (M : MS X B n false i (sgL a) 0) (L : LTr X a) (hi : i ≤ tkC B n) (ha : a.length ≤ 9) (hl : (lwE a).length ≤ tkN B n i) (k1 : ∀ j c s, pLine (tkH B n) false i = .ok (j, c, s) → ∀ X' h', G A S h0 X' h' → UL X X' → MS X' B n false j (sgL (a ++ [(c, s)])) 0 → LTr X' (a ++ [(c, s)]) → Q 1 h') (k2 : ∀ e, pLine (tkH B n) false i = .error e → ∀ X' h', G A S h0 X' h' → UL X X' → X' 12 8 = nI (tkB B n e) → Q 0 h') : w_X12_readLine (A 12) (nI a.length) h Q := by
  have T := tok_TS (B := B) hn
  have hsl := sg_lw (a := a)
  dsimp only [w_X12_readLine]
  refine vG (o := 12) H H.b rfl ?_
  refine m_letters H M.1.1 hn hB M.2 (fun X1 h1 H1 u1 a1 b1 => ?_)
  have M1 := M.1.ub u1
  have L1 := L.ur u1.ur (by omega)
  refine br_Eq (b := 10) (by omega) (by decide) (fun z => by omega) (fun _ => ?_)
  dsimp only [w_X12_lineAt, w_X12_textAt]
  have e1 : (1166 : Int32) + (831 : Int32) * 9 + 1 + 3 * nI a.length = nI (8646 + 3 * a.length) := ix2 8646 3 _
  rw [e1]
  refine fP (o := 12) H1 H1.b rfl rfl ?_
  have bad : ¬ (1000 ≤ tkH B n i ∧ tkH B n i ≤ 1004) → w_X12_readLine_90 (A 12) (nI (8646 + 3 * a.length)) (A 1301) (nI (8646 + 3 * a.length)) (-1) h1 Q := by
    intro z
    dsimp only [w_X12_readLine_90]
    refine tG (id := 1301) H1 H1.b rfl (by decide) rfl (by omega) (fun h2 H2 => ?_)
    refine fP (o := 12) H2 H2.b rfl rfl ?_
    refine aG (id := 1301) H2 H2.b rfl (by decide) rfl (by omega) ?_
    rw [up_same]
    refine br_F (by decide) (k2 i ?_ _ h2 H2 (u1.ur.ul.uW (by omega) _) (by rw [up_row _ _ _ (by decide)]; exact b1))
    unfold pLine
    rw [if_neg z]
  have good : ∀ q, q < 5 → tkH B n i = 1000 + q → w_X12_readLine_90 (A 12) (nI (8646 + 3 * a.length)) (A 1301) (nI (8646 + 3 * a.length)) (nI q) h1 Q := by
    intro q hq e
    have hp : pLine (tkH B n) false i = (if tkH B n (i + 1) = 1005 then (match pAnyF (tkH B n) (pAt (tkH B n) false k6) (i + 2) with
      | .ok (j, s) => .ok (j, tkH B n i - 1000, s)
      | .error e => .error e) else .ok (i + 1, tkH B n i - 1000, [])) := by
      unfold pLine
      rw [if_pos ⟨by omega, by omega⟩]
      by_cases z : tkH B n (i + 1) = 1005
      · rw [if_pos z, if_pos z]
        cases pAnyF (tkH B n) (pAt (tkH B n) false k6) (i + 2) <;> rfl
      · rw [if_neg z, if_neg z]
    rw [hp, show tkH B n i - 1000 = q by omega] at k1 k2
    obtain ⟨t1, t2, t3⟩ := T.up (i := i) (by omega)
    have t4 := T.2.2.2.2.2.1 i t1 (Or.inl ⟨by omega, by omega⟩)
    dsimp only [w_X12_readLine_90]
    refine tG (id := 1301) H1 H1.b rfl (by decide) rfl (by omega) (fun h2 H2 => ?_)
    refine fP (o := 12) H2 H2.b rfl rfl ?_
    refine aG (id := 1301) H2 H2.b rfl (by decide) rfl (by omega) ?_
    rw [up_same]
    refine br_T (nI_pos' (by omega)) ?_
    refine fP (o := 12) H2 H2.b rfl rfl ?_
    refine fG (o := 12) H2 H2.b rfl ?_
    have M2 := M1.line (k := 8646 + 3 * a.length) (by omega) (nI q)
    rw [M2.2.2.1.1]
    refine tG (id := 1301) (n := 8646 + 3 * a.length + 1) H2 H2.b rfl (by decide) (nI_succ _).symm (by omega) (fun h3 H3 => ?_)
    have M3 := M2.line (k := 8646 + 3 * a.length + 1) (by omega) (nI (sgL a).length)
    refine uG (o := 12) H3 H3.b rfl (fun h4 H4 => ?_)
    have M4 : MS0 (up (up (up X1 1301 (8646 + 3 * a.length) (nI q)) 1301 (8646 + 3 * a.length + 1) (nI (sgL a).length)) 12 9 0) B n false (sgL a) 0 := M3.deep (d' := 0)
    have P4 : PT (up (up (up X1 1301 (8646 + 3 * a.length) (nI q)) 1301 (8646 + 3 * a.length + 1) (nI (sgL a).length)) 12 9 0) B n (i + 1) := (PT.word hn a1 (by omega) (by omega)).of (by rw [up_n _ _ _ (by decide), up_row _ _ _ (by decide), up_row _ _ _ (by decide)])
    have uu : UL X (up (up (up X1 1301 (8646 + 3 * a.length) (nI q)) 1301 (8646 + 3 * a.length + 1) (nI (sgL a).length)) 12 9 0) := ((u1.ur.ul.uW (show 8645 ≤ 8646 + 3 * a.length by omega) _).uW (show 8645 ≤ 8646 + 3 * a.length + 1 by omega) _).tr ((UR.rf _).u9 (k := 9) (by omega) _).ul
    have L4 : LTr (up (up (up X1 1301 (8646 + 3 * a.length) (nI q)) 1301 (8646 + 3 * a.length + 1) (nI (sgL a).length)) 12 9 0) a := fun j hj => by
      rw [up_row _ _ _ (by decide), up_n _ _ _ (by omega), up_n _ _ _ (by omega), up_n _ _ _ (by omega), up_n _ _ _ (by omega), up_n _ _ _ (by omega), up_n _ _ _ (by omega)]
      exact L1 j hj
    have r1 : up (up (up X1 1301 (8646 + 3 * a.length) (nI q)) 1301 (8646 + 3 * a.length + 1) (nI (sgL a).length)) 12 9 0 1301 (8646 + 3 * a.length) = nI q := by
      rw [up_row _ _ _ (by decide), up_n _ _ _ (by omega), up_same]
    have r2 : up (up (up X1 1301 (8646 + 3 * a.length) (nI q)) 1301 (8646 + 3 * a.length + 1) (nI (sgL a).length)) 12 9 0 1301 (8646 + 3 * a.length + 1) = nI (sgL a).length := by
      rw [up_row _ _ _ (by decide), up_same]
    generalize up (up (up X1 1301 (8646 + 3 * a.length) (nI q)) 1301 (8646 + 3 * a.length + 1) (nI (sgL a).length)) 12 9 0 = X4 at *
    -- the line's end
    have fin : ∀ X5 h5 j s, G A S h0 X5 h5 → UR X4 X5 → MS X5 B n false j (sgL a ++ s) 0 → (∀ X' h', G A S h0 X' h' → UL X X' → MS X' B n false j (sgL (a ++ [(q, s)])) 0 → LTr X' (a ++ [(q, s)]) → Q 1 h') → w_X12_readLine_137 (A 12) (nI (8646 + 3 * a.length)) h5 Q := by
      intro X5 h5 j s H5 u5 M5 kk
      have L5 := L4.ur u5 (by omega)
      dsimp only [w_X12_readLine_137]
      refine fP (o := 12) H5 H5.b rfl rfl ?_
      refine fG (o := 12) H5 H5.b rfl ?_
      rw [M5.1.2.2.1.1]
      refine tG (id := 1301) (n := 8646 + 3 * a.length + 2) H5 H5.b rfl (by decide) (nI_add _ 2) (by omega) (fun h6 H6 => ?_)
      have es : sgL (a ++ [(q, s)]) = sgL a ++ s := by rw [sgL_app, sgL_one]
      refine kk _ h6 H6 ((uu.tr u5.ul).uW (by omega) _) ⟨?_, M5.2.of (by rw [up_row _ _ _ (by decide)])⟩ (fun m hm => ?_)
      · rw [es]
        exact M5.1.line (by omega) _
      · rw [List.length_append, List.length_singleton] at hm
        by_cases c : m = a.length
        · rw [c, getL2, take_app (Nat.le_refl _), take_all (Nat.le_refl _), take_all (by rw [List.length_append, List.length_singleton]; exact Nat.le_refl _), es]
          refine ⟨?_, ?_, ?_⟩
          · rw [up_n _ _ _ (by omega), u5 1301 _ (fun z => absurd z.1 (by decide)) (fun z => by omega)]
            exact r1
          · rw [up_n _ _ _ (by omega), u5 1301 _ (fun z => absurd z.1 (by decide)) (fun z => by omega), show 8647 + 3 * a.length = 8646 + 3 * a.length + 1 by omega]
            exact r2
          · rw [show 8648 + 3 * a.length = 8646 + 3 * a.length + 2 by omega, up_same]
        · rw [getL1 (by omega), take_app (by omega), take_app (by omega), up_n _ _ _ (by omega), up_n _ _ _ (by omega), up_n _ _ _ (by omega)]
          exact L5 m (by omega)
    intro a5 ha5
    refine vG (o := 12) H4 H4.b rfl ?_
    refine m_passes H4 M4.1 hn hB P4 ha5 (by decide) (by decide) (fun y X5 h5 H5 u5 P5 c5 => ?_) (fun y X5 h5 H5 u5 P5 c5 => ?_)
    · have y2 : tkH B n (i + 1) = 1005 := y
      rw [if_pos y2] at k1 k2
      obtain ⟨v1, v2, v3⟩ := T.up (i := i + 1) (by omega)
      have e22 : tkN B n (i + 2) = tkN B n (i + 1 + 1) := rfl
      refine br_F (by decide) ?_
      refine vG (o := 12) H5 H5.b rfl ?_
      refine m_condT hn hB X5 h5 (i + 2) (sgL a) _ H5 ⟨M4.ub u5, P5⟩ (by omega) (by omega) (by omega) ⟨fun j s e6 X6 h6 H6 u6 M6 => ?_, fun e6 z6 X6 h6 H6 u6 c6 => ?_⟩
      · rw [e6] at k1
        exact br_F (by decide) (fin X6 h6 j s H6 (u5.ur.tr u6) M6 (k1 j q s rfl))
      · rw [z6] at k2
        exact br_T rfl (k2 _ rfl X6 h6 H6 (uu.tr (u5.ur.tr u6).ul) c6)
    · have y2 : ¬ tkH B n (i + 1) = 1005 := y
      rw [if_neg y2] at k1
      refine br_T rfl (fin X5 h5 (i + 1) [] H5 u5.ur ⟨?_, P5⟩ (k1 _ _ _ rfl))
      rw [List.append_nil]
      exact M4.ub u5
  intro w0 hw0
  refine vG (o := 12) H1 H1.b rfl (m_isWord H1 M1.1 hn hB a1 b1 hw0 (t := 28) (by decide) (by decide) (br_bI (fun d0 => good 0 (by decide) (of_decide_eq_true d0)) (fun d0 => ?_)))
  intro w1 hw1
  refine vG (o := 12) H1 H1.b rfl (m_isWord H1 M1.1 hn hB a1 b1 hw1 (t := 29) (by decide) (by decide) (br_bI (fun d1 => good 1 (by decide) (of_decide_eq_true d1)) (fun d1 => ?_)))
  intro w2 hw2
  refine vG (o := 12) H1 H1.b rfl (m_isWord H1 M1.1 hn hB a1 b1 hw2 (t := 30) (by decide) (by decide) (br_bI (fun d2 => good 2 (by decide) (of_decide_eq_true d2)) (fun d2 => ?_)))
  intro w3 hw3
  refine vG (o := 12) H1 H1.b rfl (m_isWord H1 M1.1 hn hB a1 b1 hw3 (t := 31) (by decide) (by decide) (br_bI (fun d3 => good 3 (by decide) (of_decide_eq_true d3)) (fun d3 => ?_)))
  intro w4 hw4
  refine vG (o := 12) H1 H1.b rfl (m_isWord H1 M1.1 hn hB a1 b1 hw4 (t := 32) (by decide) (by decide) (br_bI (fun d4 => good 4 (by decide) (of_decide_eq_true d4)) (fun d4 => bad (fun z => ?_))))
  have g0 : ¬ tkH B n i = 1000 := fun z => d0 (decide_eq_true z)
  have g1 : ¬ tkH B n i = 1001 := fun z => d1 (decide_eq_true z)
  have g2 : ¬ tkH B n i = 1002 := fun z => d2 (decide_eq_true z)
  have g3 : ¬ tkH B n i = 1003 := fun z => d3 (decide_eq_true z)
  have g4 : ¬ tkH B n i = 1004 := fun z => d4 (decide_eq_true z)
  omega
theorem m_readLine10 (H : G A S h0 X h) (hn : n ≤ 400) (hB : ∀ i, i < n → B i < 256) (M : MS X B n false i (sgL a) 0) (k : ∀ X' h', G A S h0 X' h' → UL X X' → X' 12 8 = nI (tkB B n i) → Q 0 h') : w_X12_readLine (A 12) 10 h Q := by
  dsimp only [w_X12_readLine]
  refine vG (o := 12) H H.b rfl ?_
  refine m_letters H M.1.1 hn hB M.2 (fun X1 h1 H1 u1 a1 b1 => ?_)
  exact br_T rfl (k X1 h1 H1 u1.ur.ul b1)
theorem m_readAll (H : G A S h0 X h) (hn : n ≤ 400) (hB : ∀ i, i < n → B i < 256) (M : MS X B n false 0 [] 0) (k1 : ∀ L, pLaw (tkH B n) false = .ok L → L.length ≤ 10 → ∀ X' h' j, G A S h0 X' h' → UL X X' → MS X' B n false j (sgL L) 0 → LTr X' L → Q (nI L.length) h') (k2 : ∀ e, pLaw (tkH B n) false = .error e → ∀ X' h', G A S h0 X' h' → UL X X' → X' 12 8 = nI (tkB B n e) → Q (-1) h') : w_X12_readAll (A 12) h Q := by
  have T := tok_TS (B := B) hn
  have hle := tkB_le (B := B) hn
  dsimp only [w_X12_readAll]
  refine vG (o := 12) H H.b rfl ?_
  refine m_blanks H M.1.1 hn hB M.2 (fun X1 h1 H1 u1 a1 b1 => ?_)
  have M1 := M.1.ub u1
  refine fG (o := 12) H1 H1.b rfl ?_
  refine fG (o := 12) H1 H1.b rfl ?_
  have hle0 := hle 0
  rw [a1, M1.1.1]
  unfold pLaw at k1 k2
  refine br_Eq (by omega) (by omega) (fun z => ?_) (fun z => ?_)
  · rw [if_pos ((tk_end hn).mp z)] at k1
    exact k1 [] rfl (by decide) X1 h1 0 H1 u1.ur.ul ⟨M1, PT.at hn a1⟩ (fun j hj => absurd hj (Nat.not_lt_zero _))
  · rw [if_neg (fun y => z ((tk_end hn).mpr y))] at k1 k2
    refine lp_inv 11 (fun m (x : Int32 × AH) => x.1 = nI m ∧ ∃ f i2 a X2, f + m = 10 ∧ a.length = m ∧ i2 ≤ tkC B n ∧ (lwE a).length ≤ tkN B n i2 ∧ pLawL (tkH B n) false f i2 a = pLawL (tkH B n) false k10 0 [] ∧ G A S h0 X2 x.2 ∧ UL X X2 ∧ MS X2 B n false i2 (sgL a) 0 ∧ LTr X2 a) (fun m x kk hm hI kn => ?_) (fun x kk hI => ?_) (Nat.zero_le _) ⟨rfl, k10, 0, [], X1, by rw [k10_eq], rfl, Nat.zero_le _, Nat.zero_le _, rfl, H1, u1.ur.ul, ⟨M1, PT.at hn a1⟩, fun j hj => absurd hj (Nat.not_lt_zero _)⟩
    · obtain ⟨v, h2⟩ := x
      obtain ⟨e1, f, i2, a, X2, f1, la, b1, b2, f2, H2, u2, M2, L2⟩ := hI
      dsimp only at e1 H2 ⊢
      subst e1
      dsimp only [w_X12_readAll_19, w_X12_readAll_27, w_X12_readAll_44, w_X12_readAll_59]
      refine vG (o := 12) H2 H2.b rfl ?_
      by_cases hf : f = 0
      · subst hf
        have : m = 10 := by omega
        subst this
        simp only [pLawL] at f2
        rw [← f2] at k2
        exact m_readLine10 H2 hn hB M2 (fun X3 h3 H3 u3 c3 => br_T rfl (k2 _ rfl X3 h3 H3 (u2.tr u3) c3))
      · obtain ⟨f, rfl⟩ : ∃ g, f = g + 1 := ⟨f - 1, by omega⟩
        simp only [pLawL] at f2
        rw [← la]
        refine m_readLine H2 hn hB M2 L2 b1 (by omega) b2 (fun j c s e X3 h3 H3 u3 M3 L3 => ?_) (fun e z3 X3 h3 H3 u3 c3 => ?_)
        · obtain ⟨w1, w2, w3, w4, -⟩ := pLine_bd T b1 e
          have w6 := T.2.2.2.2.1 j w2
          rw [e] at f2
          dsimp only at f2
          have hlen : (lwE (a ++ [(c, s)])).length ≤ tkN B n j := by
            rw [lwE_app, List.length_append, List.length_append, List.length_singleton]
            omega
          have hlj := hle j
          refine br_F (by decide) ?_
          refine vG (o := 12) H3 H3.b rfl ?_
          refine m_blanks H3 M3.1.1 hn hB M3.2 (fun X4 h4 H4 u4 a4 b4 => ?_)
          have M4 := M3.1.ub u4
          have L4 := L3.ur u4.ur (by rw [List.length_append, List.length_singleton]; omega)
          refine fG (o := 12) H4 H4.b rfl ?_
          refine fG (o := 12) H4 H4.b rfl ?_
          rw [a4, M4.1.1]
          refine br_Eq (by omega) (by omega) (fun d => ?_) (fun d => ?_)
          · rw [if_pos ((tk_end hn).mp d)] at f2
            rw [← f2] at k1
            have y := k1 _ rfl (by rw [List.length_append, List.length_singleton]; omega) X4 h4 j H4 (u2.tr (u3.tr u4.ur.ul)) ⟨M4, PT.at hn a4⟩ L4
            rw [List.length_append, List.length_singleton] at y
            rw [← nI_succ]
            exact y
          · rw [if_neg (fun y => d ((tk_end hn).mpr y))] at f2
            refine vG (o := 12) H4 H4.b rfl ?_
            refine m_isAt (lo := 59) (hi := 59) H4 M4.1 hn hB a4 hlj (by decide) (by decide) (by decide) ?_
            have ts := tk_sign (B := B) hn (i := j) (c := 59) rfl
            refine br_bI (fun d2 => ?_) (fun d2 => ?_)
            · have d3 := ts.mp d2
              have l3 := inB_iff.mp d2
              rw [if_pos d3] at f2
              obtain ⟨t1, t2, t3⟩ := T.up (i := j) (by omega)
              refine fG (o := 12) H4 H4.b rfl ?_
              rw [a4, ← nI_succ]
              refine uG (o := 12) H4 H4.b rfl (fun h5 H5 => ?_)
              have u5 := (UB.rf X4).up (Or.inl (rfl : (6 : Nat) = 6)) (nI (tkB B n j + 1))
              refine kn _ ⟨by rw [la, nI_succ], f, j + 1, _, _, by omega, by rw [List.length_append, List.length_singleton, la], t1, by omega, f2, H5, u2.tr (u3.tr (u4.tr u5).ur.ul), ⟨M4.ub u5, ⟨_, up_same _ _ _ _, by omega, ?_⟩⟩, L4.ur u5.ur (by rw [List.length_append, List.length_singleton]; omega)⟩
              rw [tkB_next l3.1]
              unfold tkE
              rw [if_neg (fun z => by have := inB_iff.mp z; omega), if_neg (fun z => by have := inB_iff.mp z; omega)]
            · rw [if_neg (fun y => d2 (ts.mpr y))] at f2
              rw [← f2] at k2
              exact k2 _ rfl X4 h4 H4 (u2.tr (u3.tr u4.ur.ul)) b4
        · rw [z3] at f2
          dsimp only at f2
          rw [← f2] at k2
          exact br_T rfl (k2 _ rfl X3 h3 H3 (u2.tr u3) c3)
    · obtain ⟨v, h2⟩ := x
      obtain ⟨e1, f, i2, a, X2, f1, -⟩ := hI
      omega
theorem m_readOne (H : G A S h0 X h) (hn : n ≤ 400) (hB : ∀ i, i < n → B i < 256) (M : MS X B n true 0 [] 0) (k1 : ∀ s, pStory (tkH B n) true = .ok s → ∀ X' h' j, G A S h0 X' h' → UL X X' → MS X' B n true j s 0 → X' 1301 8647 = 0 → X' 1301 8648 = nI s.length → Q 1 h') (k2 : ∀ e, pStory (tkH B n) true = .error e → ∀ X' h', G A S h0 X' h' → UL X X' → X' 12 8 = nI (tkB B n e) → Q (-1) h') : w_X12_readOne (A 12) h Q := by
  have T := tok_TS (B := B) hn
  have hle := tkB_le (B := B) hn
  dsimp only [w_X12_readOne, w_X12_lineAt, w_X12_textAt, w_X12_readOne_57]
  refine fP (o := 12) H H.b rfl rfl ?_
  refine tG (id := 1301) (n := 8647) H H.b rfl (by decide) rfl (by decide) (fun h1 H1 => ?_)
  have M1 := M.1.line (k := 8647) (by decide) 0
  have P1 : PT (up X 1301 8647 0) B n 0 := M.2.of (by rw [up_row _ _ _ (by decide)])
  have u1 := (UL.rf X).uW (show 8645 ≤ 8647 by decide) 0
  refine vG (o := 12) H1 H1.b rfl ?_
  unfold pStory at k1 k2
  refine m_condT hn hB _ h1 0 [] _ H1 ⟨M1, P1⟩ (Nat.zero_le _) (Nat.zero_le _) (by decide) ⟨fun j s e X2 h2 H2 u2 M2 => ?_, fun e z X2 h2 H2 u2 c2 => ?_⟩
  · rw [e] at k1 k2
    dsimp only at k1 k2
    rw [List.nil_append] at M2
    refine br_F (by decide) ?_
    refine fP (o := 12) H2 H2.b rfl rfl ?_
    refine fG (o := 12) H2 H2.b rfl ?_
    rw [M2.1.2.2.1.1]
    refine tG (id := 1301) (n := 8648) H2 H2.b rfl (by decide) rfl (by decide) (fun h3 H3 => ?_)
    have M3 := M2.1.line (k := 8648) (by decide) (nI s.length)
    have P3 : PT (up X2 1301 8648 (nI s.length)) B n j := M2.2.of (by rw [up_row _ _ _ (by decide)])
    have u3 := (u1.tr u2.ul).uW (show 8645 ≤ 8648 by decide) (nI s.length)
    have r1 : up X2 1301 8648 (nI s.length) 1301 8647 = 0 := by
      rw [up_n _ _ _ (by decide), u2 1301 8647 (fun z => absurd z.1 (by decide)) (fun z => absurd z.2 (by decide)), up_same]
    have r2 : up X2 1301 8648 (nI s.length) 1301 8648 = nI s.length := up_same _ _ _ _
    generalize up X2 1301 8648 (nI s.length) = X3 at *
    refine vG (o := 12) H3 H3.b rfl ?_
    refine m_blanks H3 M3.1 hn hB P3 (fun X4 h4 H4 u4 a4 b4 => ?_)
    have M4 := M3.ub u4
    have hlj := hle j
    refine fG (o := 12) H4 H4.b rfl ?_
    refine fG (o := 12) H4 H4.b rfl ?_
    rw [a4, M4.1.1]
    refine br_Eq (by omega) (by omega) (fun d => ?_) (fun d => ?_)
    · rw [if_pos ((tk_end hn).mp d)] at k1
      exact k1 _ rfl X4 h4 j H4 (u3.tr u4.ur.ul) ⟨M4, PT.at hn a4⟩ (by rw [u4 1301 _ (fun z => absurd z.1 (by decide))]; exact r1) (by rw [u4 1301 _ (fun z => absurd z.1 (by decide))]; exact r2)
    · rw [if_neg (fun y => d ((tk_end hn).mpr y))] at k2
      exact k2 _ rfl X4 h4 H4 (u3.tr u4.ur.ul) b4
  · rw [z] at k2
    exact br_T rfl (k2 _ rfl X2 h2 H2 (u1.tr u2.ul) c2)
/-- what a reading changes -/
def UW (X X' : Nat → Nat → Int32) : Prop := ∀ id n, ¬ (id = 12 ∧ (n = 0 ∨ n = 5 ∨ n = 6 ∨ n = 7 ∨ n = 8 ∨ n = 9 ∨ n = 10 ∨ n = 12 ∨ n = 13)) → ¬ (id = 1301 ∧ 8645 ≤ n) → X' id n = X id n
theorem UW.tr {X X' X'' : Nat → Nat → Int32} (a : UW X X') (b : UW X' X'') : UW X X'' := fun id n h g => (b id n h g).trans (a id n h g)
theorem UW.u9 {X X' : Nat → Nat → Int32} (a : UW X X') {k : Nat} (hk : k = 0 ∨ k = 5 ∨ k = 6 ∨ k = 7 ∨ k = 8 ∨ k = 9 ∨ k = 10 ∨ k = 12 ∨ k = 13) (v : Int32) : UW X (up X' 12 k v) := fun id n h g => by
  by_cases e : id = 12
  · subst e
    rw [up_n _ _ _ (fun z => h ⟨rfl, by rw [z]; exact hk⟩)]
    exact a 12 n h g
  · rw [up_row _ _ _ e]
    exact a id n h g
theorem UL.w {X X' : Nat → Nat → Int32} (a : UL X X') : UW X X' := fun id n h g => a id n (fun z => h ⟨z.1, by omega⟩) g
theorem m_uses (H : G A S h0 X h) (C : TM X B n) (k : ∀ X' h', G A S h0 X' h' → UW X X' → X' 12 0 = 0 → X' 12 5 = 0 → MTp X' B n → PT X' B n 0 → DR X' [] → X' 12 9 = 0 → Qv h') : w_X12_uses (A 12) h Qv := by
  dsimp only [w_X12_uses]
  refine uG (o := 12) H H.b rfl (fun h1 H1 => ?_)
  refine fG (o := 12) H1 H1.b rfl ?_
  rw [up_n _ _ _ (by decide), C.1]
  refine uG (o := 12) H1 H1.b rfl (fun h2 H2 => ?_)
  refine uG (o := 12) H2 H2.b rfl (fun h3 H3 => ?_)
  refine uG (o := 12) H3 H3.b rfl (fun h4 H4 => ?_)
  refine uG (o := 12) H4 H4.b rfl (fun h5 H5 => ?_)
  refine uG (o := 12) H5 H5.b rfl (fun h6 H6 => ?_)
  have u0 : UW X X := fun _ _ _ _ => rfl
  refine k _ h6 H6 ((((((u0.u9 (k := 0) (by omega) _).u9 (k := 7) (by omega) _).u9 (k := 5) (by omega) _).u9 (k := 6) (by omega) _).u9 (k := 12) (by omega) _).u9 (k := 9) (by omega) _) ?_ ?_ ⟨?_, fun i hi => ?_⟩ ⟨0, ?_, Nat.zero_le _, rfl⟩ ⟨?_, fun j hj => absurd hj (Nat.not_lt_zero _)⟩ (up_same _ _ _ _)
  · rw [up_n _ _ _ (by decide), up_n _ _ _ (by decide), up_n _ _ _ (by decide), up_n _ _ _ (by decide), up_n _ _ _ (by decide), up_same]
  · rw [up_n _ _ _ (by decide), up_n _ _ _ (by decide), up_n _ _ _ (by decide), up_same]
  · rw [up_n _ _ _ (by decide), up_n _ _ _ (by decide), up_n _ _ _ (by decide), up_n _ _ _ (by decide), up_same]
  · rw [up_row _ _ _ (by decide), up_row _ _ _ (by decide), up_row _ _ _ (by decide), up_row _ _ _ (by decide), up_row _ _ _ (by decide), up_row _ _ _ (by decide)]
    exact C.2 i hi
  · rw [up_n _ _ _ (by decide), up_n _ _ _ (by decide), up_same]
    rfl
  · rw [up_n _ _ _ (by decide), up_same]
    rfl
/-- the draft holds a law; a story -/
def DL (X : Nat → Nat → Int32) (L : List (Nat × Seg)) : Prop := X 1301 8645 = nI L.length ∧ LTr X L ∧ ∀ j, j < (sgL L).length → X 1301 (8676 + 2 * j) = nI ((sgL L).getD j (0, 0)).1 ∧ X 1301 (8677 + 2 * j) = nI ((sgL L).getD j (0, 0)).2
def DS (X : Nat → Nat → Int32) (s : Seg) : Prop := X 1301 8647 = 0 ∧ X 1301 8648 = nI s.length ∧ ∀ j, j < s.length → X 1301 (8676 + 2 * j) = nI (s.getD j (0, 0)).1 ∧ X 1301 (8677 + 2 * j) = nI (s.getD j (0, 0)).2
theorem m_reads0 (H : G A S h0 X h) (C : TM X B n) (hn : n ≤ 400) (hB : ∀ i, i < n → B i < 256) (k1 : ∀ L, pLaw (tkH B n) false = .ok L → L.length ≤ 10 → ∀ X' h', G A S h0 X' h' → UW X X' → X' 12 0 = 0 → X' 12 5 = 0 → X' 12 10 = -1 → DL X' L → Q 1 h') (k2 : ∀ e, pLaw (tkH B n) false = .error e → ∀ X' h', G A S h0 X' h' → UW X X' → X' 12 0 = 0 → X' 12 5 = 0 → X' 12 10 = nI (tkB B n e) → Q 0 h') : w_X12_reads (A 12) 0 h Q := by
  dsimp only [w_X12_reads, w_X12_reads_24, w_X12_reads_38, w_X12_reads_61]
  refine vG (o := 12) H H.b rfl ?_
  refine m_uses H C (fun X1 h1 H1 u1 c0 c5 M1 P1 D1 c9 => ?_)
  refine uZG (o := 12) H1 H1.b rfl (Or.inl rfl) (fun h2 H2 => ?_)
  refine br_T rfl ?_
  refine vG (o := 12) H2 H2.b rfl ?_
  have M2 : MS (up X1 12 13 0) B n false 0 [] 0 := ⟨⟨⟨by rw [up_n _ _ _ (by decide)]; exact M1.1, fun i hi => by rw [up_row _ _ _ (by decide)]; exact M1.2 i hi⟩, up_same _ _ _ _, ⟨by rw [up_n _ _ _ (by decide)]; exact D1.1, fun j hj => absurd hj (Nat.not_lt_zero _)⟩, by rw [up_n _ _ _ (by decide)]; exact c9⟩, P1.of (up_n _ _ _ (by decide))⟩
  have u2 := u1.u9 (k := 13) (by omega) 0
  have c0' : up X1 12 13 0 12 0 = 0 := by rw [up_n _ _ _ (by decide)]; exact c0
  have c5' : up X1 12 13 0 12 5 = 0 := by rw [up_n _ _ _ (by decide)]; exact c5
  generalize up X1 12 13 0 = X2 at *
  refine m_readAll H2 hn hB M2 (fun L e h10 X3 h3 j H3 u3 M3 L3 => ?_) (fun e z X3 h3 H3 u3 c3 => ?_)
  · refine br_T (nI_pos' (by omega)) ?_
    refine uG (o := 12) H3 H3.b rfl (fun h4 H4 => ?_)
    refine fP (o := 12) H4 H4.b rfl rfl ?_
    dsimp only [w_X12_textAt]
    refine tG (id := 1301) (n := 8645) H4 H4.b rfl (by decide) rfl (by decide) (fun h5 H5 => ?_)
    refine br_F (nI_nlt (a := L.length) (b := 0) (by omega) (by omega)) ⟨Or.inr rfl, k1 L e h10 _ h5 H5 ?_ ?_ ?_ ?_ ⟨up_same _ _ _ _, fun m hm => ?_, fun m hm => ?_⟩⟩
    · refine ((u2.tr u3.w).u9 (k := 10) (by omega) (-1)).tr (fun id n h g => ?_)
      by_cases e : id = 1301
      · subst e
        rw [up_n _ _ _ (fun z => g ⟨rfl, by omega⟩)]
      · rw [up_row _ _ _ e]
    · rw [up_row _ _ _ (by decide), up_n _ _ _ (by decide), u3 12 0 (fun z => by omega) (fun z => absurd z.1 (by decide))]
      exact c0'
    · rw [up_row _ _ _ (by decide), up_n _ _ _ (by decide), u3 12 5 (fun z => by omega) (fun z => absurd z.1 (by decide))]
      exact c5'
    · rw [up_row _ _ _ (by decide), up_same]
    · rw [up_n _ _ _ (by omega), up_n _ _ _ (by omega), up_n _ _ _ (by omega), up_row _ _ _ (by decide)]
      exact L3 m hm
    · rw [up_n _ _ _ (by omega), up_n _ _ _ (by omega), up_row _ _ _ (by decide)]
      exact M3.1.2.2.1.2 m hm
  · refine br_F (by decide) ?_
    refine fG (o := 12) H3 H3.b rfl ?_
    rw [c3]
    refine uG (o := 12) H3 H3.b rfl (fun h4 H4 => ?_)
    refine fP (o := 12) H4 H4.b rfl rfl ?_
    dsimp only [w_X12_textAt]
    refine tG (id := 1301) (n := 8645) H4 H4.b rfl (by decide) rfl (by decide) (fun h5 H5 => ?_)
    refine br_T (by decide) ⟨Or.inl rfl, k2 e z _ h5 H5 ?_ ?_ ?_ ?_⟩
    · refine ((u2.tr u3.w).u9 (k := 10) (by omega) (nI (tkB B n e))).tr (fun id n h g => ?_)
      by_cases e : id = 1301
      · subst e
        rw [up_n _ _ _ (fun z => g ⟨rfl, by omega⟩)]
      · rw [up_row _ _ _ e]
    · rw [up_row _ _ _ (by decide), up_n _ _ _ (by decide), u3 12 0 (fun z => by omega) (fun z => absurd z.1 (by decide))]
      exact c0'
    · rw [up_row _ _ _ (by decide), up_n _ _ _ (by decide), u3 12 5 (fun z => by omega) (fun z => absurd z.1 (by decide))]
      exact c5'
    · rw [up_row _ _ _ (by decide), up_same]
theorem m_reads1 (H : G A S h0 X h) (C : TM X B n) (hn : n ≤ 400) (hB : ∀ i, i < n → B i < 256) (k1 : ∀ s, pStory (tkH B n) true = .ok s → ∀ X' h', G A S h0 X' h' → UW X X' → X' 12 0 = 0 → X' 12 5 = 0 → X' 12 10 = -1 → DS X' s → Q 1 h') (k2 : ∀ e, pStory (tkH B n) true = .error e → ∀ X' h', G A S h0 X' h' → UW X X' → X' 12 0 = 0 → X' 12 5 = 0 → X' 12 10 = nI (tkB B n e) → Q 0 h') : w_X12_reads (A 12) 1 h Q := by
  dsimp only [w_X12_reads, w_X12_reads_24, w_X12_reads_38, w_X12_reads_61]
  refine vG (o := 12) H H.b rfl ?_
  refine m_uses H C (fun X1 h1 H1 u1 c0 c5 M1 P1 D1 c9 => ?_)
  refine uZG (o := 12) H1 H1.b rfl (Or.inr rfl) (fun h2 H2 => ?_)
  refine br_F (by decide) ?_
  refine vG (o := 12) H2 H2.b rfl ?_
  have M2 : MS (up X1 12 13 1) B n true 0 [] 0 := ⟨⟨⟨by rw [up_n _ _ _ (by decide)]; exact M1.1, fun i hi => by rw [up_row _ _ _ (by decide)]; exact M1.2 i hi⟩, up_same _ _ _ _, ⟨by rw [up_n _ _ _ (by decide)]; exact D1.1, fun j hj => absurd hj (Nat.not_lt_zero _)⟩, by rw [up_n _ _ _ (by decide)]; exact c9⟩, P1.of (up_n _ _ _ (by decide))⟩
  have u2 := u1.u9 (k := 13) (by omega) 1
  have c0' : up X1 12 13 1 12 0 = 0 := by rw [up_n _ _ _ (by decide)]; exact c0
  have c5' : up X1 12 13 1 12 5 = 0 := by rw [up_n _ _ _ (by decide)]; exact c5
  generalize up X1 12 13 1 = X2 at *
  refine m_readOne H2 hn hB M2 (fun s e X3 h3 j H3 u3 M3 r1 r2 => ?_) (fun e z X3 h3 H3 u3 c3 => ?_)
  · refine br_T (by decide) ?_
    refine uG (o := 12) H3 H3.b rfl (fun h4 H4 => ?_)
    refine fP (o := 12) H4 H4.b rfl rfl ?_
    dsimp only [w_X12_textAt]
    refine tG (id := 1301) (n := 8645) H4 H4.b rfl (by decide) rfl (by decide) (fun h5 H5 => ?_)
    refine br_F (by decide) ⟨Or.inr rfl, k1 s e _ h5 H5 ?_ ?_ ?_ ?_ ⟨?_, ?_, fun m hm => ?_⟩⟩
    · refine ((u2.tr u3.w).u9 (k := 10) (by omega) (-1)).tr (fun id n h g => ?_)
      by_cases e : id = 1301
      · subst e
        rw [up_n _ _ _ (fun z => g ⟨rfl, by omega⟩)]
      · rw [up_row _ _ _ e]
    · rw [up_row _ _ _ (by decide), up_n _ _ _ (by decide), u3 12 0 (fun z => by omega) (fun z => absurd z.1 (by decide))]
      exact c0'
    · rw [up_row _ _ _ (by decide), up_n _ _ _ (by decide), u3 12 5 (fun z => by omega) (fun z => absurd z.1 (by decide))]
      exact c5'
    · rw [up_row _ _ _ (by decide), up_same]
    · rw [up_n _ _ _ (by decide), up_row _ _ _ (by decide)]
      exact r1
    · rw [up_n _ _ _ (by decide), up_row _ _ _ (by decide)]
      exact r2
    · rw [up_n _ _ _ (by omega), up_n _ _ _ (by omega), up_row _ _ _ (by decide)]
      exact M3.1.2.2.1.2 m hm
  · refine br_F (by decide) ?_
    refine fG (o := 12) H3 H3.b rfl ?_
    rw [c3]
    refine uG (o := 12) H3 H3.b rfl (fun h4 H4 => ?_)
    refine fP (o := 12) H4 H4.b rfl rfl ?_
    dsimp only [w_X12_textAt]
    refine tG (id := 1301) (n := 8645) H4 H4.b rfl (by decide) rfl (by decide) (fun h5 H5 => ?_)
    refine br_T (by decide) ⟨Or.inl rfl, k2 e z _ h5 H5 ?_ ?_ ?_ ?_⟩
    · refine ((u2.tr u3.w).u9 (k := 10) (by omega) (nI (tkB B n e))).tr (fun id n h g => ?_)
      by_cases e : id = 1301
      · subst e
        rw [up_n _ _ _ (fun z => g ⟨rfl, by omega⟩)]
      · rw [up_row _ _ _ e]
    · rw [up_row _ _ _ (by decide), up_n _ _ _ (by decide), u3 12 0 (fun z => by omega) (fun z => absurd z.1 (by decide))]
      exact c0'
    · rw [up_row _ _ _ (by decide), up_n _ _ _ (by decide), u3 12 5 (fun z => by omega) (fun z => absurd z.1 (by decide))]
      exact c5'
    · rw [up_row _ _ _ (by decide), up_same]
end MLAW
