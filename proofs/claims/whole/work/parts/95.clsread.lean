/-! the class's reader reads as told -/
theorem e_num {v : Nat} : enc [(10, v)] = [1000 * 0 + v] := by simp [enc, trS]
theorem e_fact {f : Nat} (h : f ≤ 8) : enc [(f, 0)] = [1000 * 1 + f] := by
  rw [enc_one]
  unfold trS
  rw [if_pos h]
theorem e_held {v : Nat} : enc [(9, v)] = [1000 * 1 + 7] ++ [1000 * 0 + v] ++ [1000 * 9 + 0] := by simp [enc, trS]
theorem e_11 : enc [(11, 0)] = [1000 * 2 + 0] := rfl
theorem e_12 : enc [(12, 0)] = [1000 * 3 + 0] := rfl
theorem e_13 : enc [(13, 0)] = [1000 * 4 + 0] := rfl
theorem e_14 : enc [(14, 0)] = [1000 * 5 + 0] := rfl
theorem e_15 : enc [(15, 0)] = [1000 * 6 + 0] := rfl
theorem e_16 : enc [(16, 0)] = [1000 * 7 + 0] := rfl
theorem e_17 : enc [(17, 0)] = [1000 * 8 + 0] := rfl
def mulR (mul : Bool) (r : Res) : Res := match r with
  | .ok (j, s) => .ok (j, if mul = true then s ++ [(11, 0)] else s)
  | .error e => .error e
/-- what a reader does -/
def RK (A : Nat → Nat) (S : Nat → Prop) (h0 : AH) (X : Nat → Nat → Int32) (th tb : Nat → Nat) (c : Nat) (st : Bool) (l : List Nat) (r : Res) (Q : Int32 → AH → Prop) : Prop :=
  (∀ j s, r = .ok (j, s) → ∀ X' h', G A S h0 X' h' → Off rSL X X' → CRd X' th tb c st j (l ++ enc s) → Q 1 h') ∧ ∀ e, r = .error e → ∀ X' h', G A S h0 X' h' → Off rSL X X' → CF X' (tb e) → Q 0 h'
section CREAD
variable {A : Nat → Nat} {S : Nat → Prop} {h0 h : AH} {X : Nat → Nat → Int32} {Q : Int32 → AH → Prop} {Qv : AH → Prop} {th tb te : Nat → Nat} {c : Nat} {st : Bool} {i : Nat} {l : List Nat}
theorem ff_or : ff st = 1018 ∨ ff st = 1009 := by
  unfold ff
  split
  · exact Or.inl rfl
  · exact Or.inr rfl
theorem c_part52 (H : G A S h0 X h) (T : TS th te c) (C : CRd X th tb c st i l) (hi : i ≤ c) (hl : l.length ≤ te i) {mul : Bool} {v : Int32} (hv : v = if mul = true then 1 else 0) (k : RK A S h0 X th tb c st l (mulR mul (pFact th st i)) Q) : w_X6_readPart_52 (A 6) v h Q := by
  have hth := T.2.2.2.2.2.2.1 i
  have hff := ff_or (st := st)
  dsimp only [w_X6_readPart_52, w_X6_readPart_72, w_X6_readPart_97]
  refine fG (o := 6) H H.b rfl ?_
  rw [C.2.2.1]
  refine fG (o := 6) H H.b rfl ?_
  rw [C.2.2.2.1]
  have hs : (nI (th i) - nI (ff st)).toInt = (th i : Int) - (ff st : Nat) := pk_sub_toInt (by omega) (by omega)
  have bad : ¬ (ff st ≤ th i ∧ th i < ff st + 7) → vr h (A 6) 6 (w_X6_refuse (A 6) h fun x1 h => z1 x1 (Q x1 h)) := by
    intro z
    refine vG (o := 6) H H.b rfl ?_
    refine c_refuse H T C hi (fun X1 h1 H1 o1 f1 => ⟨Or.inl rfl, k.2 i ?_ X1 h1 H1 o1 f1⟩)
    unfold pFact
    rw [if_neg z]
    rfl
  refine bd_i (br_if (fun d => ?_) (fun d => ?_))
  · rw [Int32.lt_iff_toInt_lt, hs] at d
    have d2 : ((th i : Nat) : Int) - (ff st : Nat) < 0 := d
    exact bad (fun z => by omega)
  · rw [Int32.lt_iff_toInt_lt, hs] at d
    have d2 : ¬ (((th i : Nat) : Int) - (ff st : Nat) < 0) := d
    rw [pk_sub (by omega)]
    refine br_Lt (b := 7) (by omega) (by decide) (fun d3 => ?_) (fun d3 => bad (fun z => by omega))
    have hp : pFact th st i = .ok (i + 1, [(th i - ff st, 0)]) := by
      unfold pFact
      rw [if_pos ⟨by omega, by omega⟩]
    rw [hp] at k
    obtain ⟨u1, u2, u3⟩ := T.up (i := i) (by omega)
    refine vG (o := 6) H H.b rfl ?_
    refine c_addStep H C (by omega) (a := 1) rfl rfl (fun X1 h1 H1 o1 C1 => ?_)
    refine vG (o := 6) H1 H1.b rfl ?_
    refine c_goOn H1 T C1 (by omega) (fun X2 h2 H2 o2 C2 => ?_)
    cases mul with
    | false =>
      rw [hv]
      refine br_T rfl (k.1 _ _ rfl X2 h2 H2 (o1.tr o2) ?_)
      rw [if_neg (by decide), e_fact (by omega)]
      exact C2
    | true =>
      rw [hv]
      refine br_F (by decide) ?_
      refine vG (o := 6) H2 H2.b rfl ?_
      refine c_addStep H2 C2 (by rw [List.length_append, List.length_singleton]; omega) (a := 2) (b := 0) rfl rfl (fun X3 h3 H3 o3 C3 => ?_)
      refine k.1 _ _ rfl X3 h3 H3 ((o1.tr o2).tr o3) ?_
      rw [if_pos rfl, enc_app, e_fact (by omega), e_11, ← List.append_assoc]
      exact C3
theorem c_readPart (H : G A S h0 X h) (T : TS th te c) (C : CRd X th tb c st i l) (hi : i ≤ c) (hl : l.length ≤ te i) (k : RK A S h0 X th tb c st l (pPart th st i) Q) : w_X6_readPart (A 6) h Q := by
  have hth := T.2.2.2.2.2.2.1 i
  dsimp only [w_X6_readPart, w_X6_readPart_15]
  refine fG (o := 6) H H.b rfl ?_
  rw [C.2.2.1]
  refine br_Lt (b := 2000) (by omega) (by decide) (fun d => ?_) (fun d => ?_)
  · refine br_T rfl (c_part52 H T C hi hl (mul := false) rfl ?_)
    unfold pPart at k
    rw [if_neg (by omega)] at k
    refine ⟨fun j s e => k.1 j s ?_, fun e z => k.2 e ?_⟩
    · cases q : pFact th st i with
      | error x => rw [q] at e; cases e
      | ok y => rw [q] at e; cases e; rfl
    · cases q : pFact th st i with
      | error x => rw [q] at z; cases z; rfl
      | ok y => rw [q] at z; cases z
  · refine br_F (by decide) ?_
    obtain ⟨u1, u2, u3⟩ := T.up (i := i) (by omega)
    refine fG (o := 6) H H.b rfl ?_
    rw [C.2.2.1]
    refine vG (o := 6) H H.b rfl ?_
    refine c_addStep H C (by omega) (a := 0) (b := th i - 2000) rfl (pk_sub (b := 2000) d) (fun X1 h1 H1 o1 C1 => ?_)
    refine vG (o := 6) H1 H1.b rfl ?_
    refine c_goOn H1 T C1 (by omega) (fun X2 h2 H2 o2 C2 => ?_)
    refine fG (o := 6) H2 H2.b rfl ?_
    rw [C2.2.2.1]
    have hth2 := T.2.2.2.2.2.2.1 (i + 1)
    unfold pPart at k
    rw [if_pos d] at k
    refine br_Eq (b := 42) (by omega) (by decide) (fun d2 => ?_) (fun d2 => ?_)
    · rw [if_pos d2] at k
      obtain ⟨v1, v2, v3⟩ := T.up (i := i + 1) (by omega)
      refine vG (o := 6) H2 H2.b rfl ?_
      refine c_goOn H2 T C2 (by omega) (fun X3 h3 H3 o3 C3 => ?_)
      refine c_part52 H3 T C3 (by omega) (by rw [List.length_append, List.length_singleton]; omega) (mul := true) rfl ⟨fun j s e X4 h4 H4 o4 C4 => ?_, fun e z X4 h4 H4 o4 F4 => ?_⟩
      · cases q : pFact th st (i + 2) with
        | error x => rw [show i + 1 + 1 = i + 2 from rfl, q] at e; cases e
        | ok y =>
          obtain ⟨a, b⟩ := y
          rw [show i + 1 + 1 = i + 2 from rfl, q] at e
          cases e
          rw [q] at k
          refine k.1 _ _ rfl X4 h4 H4 (((o1.tr o2).tr o3).tr o4) ?_
          rw [List.append_assoc [(10, th i - 2000)], enc_app, e_num, ← List.append_assoc]
          exact C4
      · cases q : pFact th st (i + 2) with
        | error x =>
          rw [show i + 1 + 1 = i + 2 from rfl, q] at z
          cases z
          rw [q] at k
          exact k.2 _ rfl X4 h4 H4 (((o1.tr o2).tr o3).tr o4) F4
        | ok y => rw [show i + 1 + 1 = i + 2 from rfl, q] at z; cases z
    · rw [if_neg d2] at k
      refine k.1 _ _ rfl X2 h2 H2 (o1.tr o2) ?_
      rw [e_num]
      exact C2
theorem c_readSum (H : G A S h0 X h) (T : TS th te c) (C : CRd X th tb c st i l) (hi : i ≤ c) (hl : l.length ≤ te i) (k : RK A S h0 X th tb c st l (pSum th st i) Q) : w_X6_readSum (A 6) h Q := by
  dsimp only [w_X6_readSum]
  refine vG (o := 6) H H.b rfl ?_
  unfold pSum at k
  refine c_readPart H T C hi hl ⟨fun j s e X1 h1 H1 o1 C1 => ?_, fun e z X1 h1 H1 o1 F1 => ?_⟩
  · rw [e] at k
    dsimp only at k
    obtain ⟨w1, w2, w3, w4⟩ := pPart_bd T i _ _ hi e
    refine br_F (by decide) ?_
    refine lp_inv 400 (fun m (x : Int32 × AH) => x.1 = nI m ∧ ∃ f i2 a X2, f + m = 400 ∧ i2 ≤ c ∧ l.length + (enc a).length ≤ te i2 ∧ pSumL th st f i2 a = pSumL th st k400 j s ∧ G A S h0 X2 x.2 ∧ Off rSL X X2 ∧ CRd X2 th tb c st i2 (l ++ enc a)) (fun m x kk hm hI kn => ?_) (fun x kk hI => ?_) (Nat.zero_le _) ⟨rfl, k400, j, s, X1, by rw [k400_eq], w2, by omega, rfl, H1, o1, C1⟩
    · obtain ⟨v, h2⟩ := x
      obtain ⟨e1, f, i2, a, X2, f1, b1, b2, f2, H2, o2, C2⟩ := hI
      dsimp only at e1 H2 ⊢
      subst e1
      obtain ⟨f, rfl⟩ : ∃ g, f = g + 1 := ⟨f - 1, by omega⟩
      have hth2 := T.2.2.2.2.2.2.1 i2
      dsimp only [w_X6_readSum_11, w_X6_readSum_38, w_X6_readSum_52]
      refine br_go (a := 400) hm (by decide) ?_
      refine fG (o := 6) H2 H2.b rfl ?_
      rw [C2.2.2.1]
      simp only [pSumL] at f2
      refine br_Eq (b := 43) (by omega) (by decide) (fun d => ?_) (fun d => ?_)
      · rw [if_pos d] at f2
        obtain ⟨u1, u2, u3⟩ := T.up (i := i2) (by omega)
        refine vG (o := 6) H2 H2.b rfl ?_
        refine c_goOn H2 T C2 (by omega) (fun X3 h3 H3 o3 C3 => ?_)
        refine vG (o := 6) H3 H3.b rfl ?_
        refine c_readPart H3 T C3 (by omega) (by rw [List.length_append]; omega) ⟨fun j4 s4 e4 X4 h4 H4 o4 C4 => ?_, fun e4 z4 X4 h4 H4 o4 F4 => ?_⟩
        · rw [e4] at f2
          dsimp only at f2
          obtain ⟨y1, y2, y3, y4⟩ := pPart_bd T (i2 + 1) _ _ (by omega) e4
          have y5 := T.2.2.2.2.1 j4 y2
          refine br_F (by decide) ?_
          refine vG (o := 6) H4 H4.b rfl ?_
          refine c_addStep H4 C4 (by rw [List.length_append, List.length_append]; omega) (a := 3) (b := 0) rfl rfl (fun X5 h5 H5 o5 C5 => ?_)
          refine kn _ ⟨(nI_succ m).symm, f, j4, a ++ s4 ++ [(12, 0)], X5, by omega, y2, ?_, f2, H5, ((o2.tr o3).tr o4).tr o5, ?_⟩
          · rw [enc_app, enc_app, e_12, List.length_append, List.length_append, List.length_singleton]
            omega
          · rw [enc_app, enc_app, e_12, ← List.append_assoc, ← List.append_assoc]
            exact C5
        · rw [z4] at f2
          dsimp only at f2
          rw [← f2] at k
          exact br_T rfl (k.2 _ rfl X4 h4 H4 ((o2.tr o3).tr o4) F4)
      · rw [if_neg d] at f2
        rw [← f2] at k
        exact k.1 _ _ rfl X2 h2 H2 o2 C2
    · obtain ⟨v, h2⟩ := x
      obtain ⟨e1, f, i2, a, X2, f1, b1, b2, f2, H2, o2, C2⟩ := hI
      dsimp only at e1 H2 ⊢
      subst e1
      obtain rfl : f = 0 := by omega
      simp only [pSumL] at f2
      rw [← f2] at k
      dsimp only [w_X6_readSum_11, w_X6_readSum_52]
      exact br_T (Int32.le_refl _) (k.1 _ _ rfl X2 h2 H2 o2 C2)
  · rw [z] at k
    exact br_T rfl (k.2 _ rfl X1 h1 H1 o1 F1)
theorem c_readCmp (H : G A S h0 X h) (T : TS th te c) (C : CRd X th tb c st i l) (hi : i ≤ c) (hl : l.length ≤ te i) (k : RK A S h0 X th tb c st l (pCmp th st i) Q) : w_X6_readComparison (A 6) h Q := by
  dsimp only [w_X6_readComparison, w_X6_readComparison_32, w_X6_readComparison_46]
  refine vG (o := 6) H H.b rfl ?_
  unfold pCmp at k
  refine c_readSum H T C hi hl ⟨fun j s e X1 h1 H1 o1 C1 => ?_, fun e z X1 h1 H1 o1 F1 => ?_⟩
  · rw [e] at k
    dsimp only at k
    obtain ⟨w1, w2, w3, w4⟩ := pSum_bd T i _ _ hi e
    have hth := T.2.2.2.2.2.2.1 j
    have go : ∀ x op, (th j = 60 ∨ th j = 62) → x = nI (op - 9) → (if th j = 60 then 13 else 14) = op → (op = 13 ∨ op = 14) → vr h1 (A 6) 6 (w_X6_goOn (A 6) h1 fun h => vr h (A 6) 6 (w_X6_readSum (A 6) h fun x1 h => br (x1 = 0) (Q 0 h) (vr h (A 6) 6 (w_X6_addStep (A 6) x 0 h fun h => Q 1 h)))) := by
      intro x op ho hx hop hor
      rw [if_pos ho, hop] at k
      obtain ⟨u1, u2, u3⟩ := T.up (i := j) (by omega)
      refine vG (o := 6) H1 H1.b rfl ?_
      refine c_goOn H1 T C1 (by omega) (fun X2 h2 H2 o2 C2 => ?_)
      refine vG (o := 6) H2 H2.b rfl ?_
      refine c_readSum H2 T C2 (by omega) (by rw [List.length_append]; omega) ⟨fun j3 s3 e3 X3 h3 H3 o3 C3 => ?_, fun e3 z3 X3 h3 H3 o3 F3 => ?_⟩
      · rw [e3] at k
        obtain ⟨y1, y2, y3, y4⟩ := pSum_bd T (j + 1) _ _ (by omega) e3
        have y5 := T.2.2.2.2.1 j3 y2
        refine br_F (by decide) ?_
        refine vG (o := 6) H3 H3.b rfl ?_
        refine c_addStep H3 C3 (by rw [List.length_append, List.length_append]; omega) (a := op - 9) (b := 0) hx rfl (fun X4 h4 H4 o4 C4 => ?_)
        refine k.1 _ _ rfl X4 h4 H4 (((o1.tr o2).tr o3).tr o4) ?_
        have eo : enc [(op, 0)] = [1000 * (op - 9) + 0] := by
          rcases hor with rfl | rfl <;> rfl
        rw [enc_app, enc_app, eo, ← List.append_assoc, ← List.append_assoc]
        exact C4
      · rw [z3] at k
        exact br_T rfl (k.2 _ rfl X3 h3 H3 ((o1.tr o2).tr o3) F3)
    refine br_F (by decide) ?_
    refine fG (o := 6) H1 H1.b rfl ?_
    rw [C1.2.2.1]
    refine br_Eq (b := 60) (by omega) (by decide) (fun d => ?_) (fun d => ?_)
    · refine fG (o := 6) H1 H1.b rfl ?_
      rw [C1.2.2.1]
      refine br_T (by rw [d]; rfl) ?_
      exact go 4 13 (Or.inl d) rfl (if_pos d) (Or.inl rfl)
    · refine fG (o := 6) H1 H1.b rfl ?_
      rw [C1.2.2.1]
      refine br_Eq (b := 62) (by omega) (by decide) (fun d2 => ?_) (fun d2 => ?_)
      · refine fG (o := 6) H1 H1.b rfl ?_
        rw [C1.2.2.1]
        refine br_F (by rw [d2]; decide) ?_
        exact go 5 14 (Or.inr d2) rfl (if_neg d) (Or.inr rfl)
      · rw [if_neg (fun z => z.elim d d2)] at k
        refine vG (o := 6) H1 H1.b rfl ?_
        exact c_refuse H1 T C1 w2 (fun X2 h2 H2 o2 F2 => ⟨Or.inl rfl, k.2 _ rfl X2 h2 H2 (o1.tr o2) F2⟩)
  · rw [z] at k
    exact br_T rfl (k.2 _ rfl X1 h1 H1 o1 F1)
theorem c_readHeld (H : G A S h0 X h) (T : TS th te c) (C : CRd X th tb c st i l) (h9 : th i = 1025) (hl : l.length ≤ te i) (k : RK A S h0 X th tb c st l (pHeld th i) Q) : w_X6_readHeld (A 6) h Q := by
  obtain ⟨u1, u2, u3⟩ := T.up (i := i) (by omega)
  have u4 := T.2.2.2.2.2.1 i u1 (Or.inr h9)
  have hth := T.2.2.2.2.2.2.1 (i + 1)
  dsimp only [w_X6_readHeld]
  refine vG (o := 6) H H.b rfl ?_
  refine c_goOn H T C (by omega) (fun X1 h1 H1 o1 C1 => ?_)
  refine fG (o := 6) H1 H1.b rfl ?_
  rw [C1.2.2.1]
  unfold pHeld at k
  refine br_Le (a := 2000) (by decide) (by omega) (fun d => ?_) (fun d => ?_)
  · rw [if_pos d] at k
    obtain ⟨v1, v2, v3⟩ := T.up (i := i + 1) (by omega)
    refine vG (o := 6) H1 H1.b rfl ?_
    refine c_addStep H1 C1 (by omega) (a := 1) (b := 7) rfl rfl (fun X2 h2 H2 o2 C2 => ?_)
    refine fG (o := 6) H2 H2.b rfl ?_
    rw [C2.2.2.1]
    refine vG (o := 6) H2 H2.b rfl ?_
    refine c_addStep H2 C2 (by rw [List.length_append, List.length_singleton]; omega) (a := 0) (b := th (i + 1) - 2000) rfl (pk_sub (b := 2000) d) (fun X3 h3 H3 o3 C3 => ?_)
    refine vG (o := 6) H3 H3.b rfl ?_
    refine c_addStep H3 C3 (by rw [List.length_append, List.length_append, List.length_singleton, List.length_singleton]; omega) (a := 9) (b := 0) rfl rfl (fun X4 h4 H4 o4 C4 => ?_)
    refine vG (o := 6) H4 H4.b rfl ?_
    refine c_goOn H4 T C4 (by omega) (fun X5 h5 H5 o5 C5 => ?_)
    refine k.1 _ _ rfl X5 h5 H5 ((((o1.tr o2).tr o3).tr o4).tr o5) ?_
    rw [e_held, ← List.append_assoc, ← List.append_assoc]
    exact C5
  · rw [if_neg (by omega)] at k
    refine vG (o := 6) H1 H1.b rfl ?_
    exact c_refuse H1 T C1 (by omega) (fun X2 h2 H2 o2 F2 => ⟨Or.inl rfl, k.2 _ rfl X2 h2 H2 (o1.tr o2) F2⟩)
end CREAD
/-- a reader of the class, as told by pa -/
def RSp (A : Nat → Nat) (S : Nat → Prop) (h0 : AH) (th tb te : Nat → Nat) (c : Nat) (st : Bool) (pa : Nat → Res) (w : AH → (Int32 → AH → Prop) → Prop) : Prop := ∀ X h i l Q, G A S h0 X h → CRd X th tb c st i l → i ≤ c → l.length ≤ te i → RK A S h0 X th tb c st l (pa i) Q → w h Q
section CGROUP
variable {A : Nat → Nat} {S : Nat → Prop} {h0 : AH} {th tb te : Nat → Nat} {c : Nat} {st : Bool}
theorem c_any {ra rt ri rn : Nat → Int32 → AH → (Int32 → AH → Prop) → Prop} {d : Int32} {pa : Nat → Res} (T : TS th te c) (B : PBd te c pa) (hat : RSp A S h0 th tb te c st pa (rt (A 6) d)) : RSp A S h0 th tb te c st (pAnyF th pa) (g_X6_readAny ra rt ri rn (A 6) d) := by
  intro X h i l Q H C hi hl k
  dsimp only [g_X6_readAny]
  refine vG (o := 6) H H.b rfl ?_
  unfold pAnyF at k
  refine hat X h i l _ H C hi hl ⟨fun j s e X1 h1 H1 o1 C1 => ?_, fun e z X1 h1 H1 o1 F1 => ?_⟩
  · rw [e] at k
    dsimp only at k
    obtain ⟨w1, w2, w3, w4⟩ := B i _ _ hi e
    refine br_F (by decide) ?_
    have fin : ∀ o a i2 X2 h2, G A S h0 X2 h2 → Off rSL X X2 → CRd X2 th tb c st i2 (l ++ enc a) → i2 ≤ c → l.length + (enc (oSeg o a)).length ≤ te i2 → pAnyL th pa k400 false j s = .ok (i2, oSeg o a) → w_X6_readAny_121 ra rt ri rn (A 6) (bI o) h2 Q := by
      intro o a i2 X2 h2 H2 o2 C2 b1 b2 e2
      rw [e2] at k
      have b3 := T.2.2.2.2.1 i2 b1
      rw [oSeg_len] at b2
      dsimp only [w_X6_readAny_121, w_X6_readAny_132]
      refine br_bI (fun z => ?_) (fun z => ?_)
      · rw [if_pos z] at b2
        refine vG (o := 6) H2 H2.b rfl ?_
        refine c_addStep H2 C2 (by rw [List.length_append]; omega) (a := 8) (b := 0) rfl rfl (fun X3 h3 H3 o3 C3 => ?_)
        refine k.1 _ _ rfl X3 h3 H3 (o2.tr o3) ?_
        unfold oSeg
        rw [if_pos z, enc_app, e_17, ← List.append_assoc]
        exact C3
      · refine k.1 _ _ rfl X2 h2 H2 o2 ?_
        unfold oSeg
        rw [if_neg z]
        exact C2
    refine lp_inv 400 (fun m (x : Int32 × Int32 × AH) => ∃ o f i2 a X2 h2, x = (bI o, nI m, h2) ∧ f + m = 400 ∧ i2 ≤ c ∧ l.length + (enc (oSeg o a)).length ≤ te i2 ∧ pAnyL th pa f o i2 a = pAnyL th pa k400 false j s ∧ G A S h0 X2 h2 ∧ Off rSL X X2 ∧ CRd X2 th tb c st i2 (l ++ enc a)) (fun m x kk hm hI kn => ?_) (fun x kk hI => ?_) (Nat.zero_le _) ⟨false, k400, j, s, X1, h1, rfl, by rw [k400_eq], w2, by rw [oSeg_len, if_neg (by decide)]; omega, rfl, H1, o1, C1⟩
    · obtain ⟨o, f, i2, a, X2, h2, rfl, f1, b1, b2, f2, H2, o2, C2⟩ := hI
      obtain ⟨f, rfl⟩ : ∃ g, f = g + 1 := ⟨f - 1, by omega⟩
      have hth2 := T.2.2.2.2.2.2.1 i2
      have b3 := T.2.2.2.2.1 i2 b1
      dsimp only
      dsimp only [w_X6_readAny_14, w_X6_readAny_101]
      refine br_go (a := 400) hm (by decide) ?_
      refine fG (o := 6) H2 H2.b rfl ?_
      rw [C2.2.2.1]
      simp only [pAnyL] at f2
      -- after the operator: the next atom, then AND or not
      have go : ∀ (an o3 : Bool) (a3 : Seg) X3 h3, G A S h0 X3 h3 → Off rSL X X3 → CRd X3 th tb c st i2 (l ++ enc a3) → th i2 ≠ 0 → l.length + (enc a3).length + (if an = true then (if o3 = true then 1 else 0) else 0) ≤ te i2 → (¬ an = true → o3 = true) → (∀ j5 s5, pa (i2 + 1) = .ok (j5, s5) → pAnyL th pa f o3 j5 (if an = true then a3 ++ s5 ++ [(16, 0)] else a3 ++ s5) = pAnyL th pa k400 false j s) → (∀ e5, pa (i2 + 1) = .error e5 → .error e5 = pAnyL th pa k400 false j s) → w_X6_readAny_88 ra rt ri rn (fun h => Q 0 h) (fun y2 h => w_X6_readAny_121 ra rt ri rn (A 6) y2 h Q) (fun y2 y3 h => kk (y2, y3, h)) (A 6) d (nI m) (bI an) (bI o3) h3 Q := by
        intro an o3 a3 X3 h3 H3 o3' C3 hne b4 b5 f3 g3
        obtain ⟨u1, u2, u3⟩ := T.up hne
        dsimp only [w_X6_readAny_88, w_X6_readAny_115]
        refine vG (o := 6) H3 H3.b rfl ?_
        refine c_goOn H3 T C3 hne (fun X4 h4 H4 o4 C4 => ?_)
        refine vG (o := 6) H4 H4.b rfl ?_
        refine hat X4 h4 (i2 + 1) _ _ H4 C4 (by omega) (by rw [List.length_append]; omega) ⟨fun j5 s5 e5 X5 h5 H5 o5 C5 => ?_, fun e5 z5 X5 h5 H5 o5 F5 => ?_⟩
        · have f3 := f3 _ _ e5
          obtain ⟨y1, y2, y3, y4⟩ := B (i2 + 1) _ _ (by omega) e5
          have y5 := T.2.2.2.2.1 j5 y2
          refine br_F (by decide) ?_
          refine br_bI (fun z => ?_) (fun z => ?_)
          · rw [if_pos z] at f3 b4
            refine vG (o := 6) H5 H5.b rfl ?_
            refine c_addStep H5 C5 (by rw [List.length_append, List.length_append]; omega) (a := 7) (b := 0) rfl rfl (fun X6 h6 H6 o6 C6 => ?_)
            refine kn _ ⟨o3, f, j5, a3 ++ s5 ++ [(16, 0)], X6, h6, by rw [nI_succ], by omega, y2, ?_, f3, H6, ((o3'.tr o4).tr o5).tr o6, ?_⟩
            · rw [oSeg_len, enc_app, enc_app, e_16, List.length_append, List.length_append, List.length_singleton]
              omega
            · rw [enc_app, enc_app, e_16, ← List.append_assoc, ← List.append_assoc]
              exact C6
          · rw [if_neg z] at f3 b4
            refine kn _ ⟨o3, f, j5, a3 ++ s5, X5, h5, by rw [nI_succ], by omega, y2, ?_, f3, H5, (o3'.tr o4).tr o5, ?_⟩
            · rw [oSeg_len, enc_app, List.length_append, if_pos (b5 z)]
              omega
            · rw [enc_app, ← List.append_assoc]
              exact C5
        · rw [← g3 _ z5] at k
          exact br_T rfl (k.2 _ rfl X5 h5 H5 ((o3'.tr o4).tr o5) F5)
      have b2' := b2
      rw [oSeg_len] at b2'
      refine br_Eq (b := 1006) (by omega) (by decide) (fun z => ?_) (fun z => ?_)
      · rw [if_pos z] at f2
        have g := go true o a X2 h2 H2 o2 C2 (by omega) (by rw [if_pos rfl, Nat.add_assoc]; exact b2') (fun y => absurd rfl y) (fun j5 s5 e5 => by rw [e5] at f2; rw [if_pos rfl]; exact f2) (fun e5 z5 => by rw [z5] at f2; exact f2)
        dsimp only [w_X6_readAny_41, w_X6_readAny_56, w_X6_readAny_74, w_X6_readAny_83]
        refine fG (o := 6) H2 H2.b rfl ?_
        rw [C2.2.2.1]
        refine br_T (by rw [z]; rfl) (br_F (by decide) ?_)
        refine br_bI (fun y => ?_) (fun y => br_F (by decide) ?_)
        · rw [y] at g
          exact g
        · rw [Bool.not_eq_true] at y
          rw [y] at g
          exact g
      · rw [if_neg z] at f2
        refine fG (o := 6) H2 H2.b rfl ?_
        rw [C2.2.2.1]
        refine br_Eq (b := 1007) (by omega) (by decide) (fun z2 => ?_) (fun z2 => ?_)
        · rw [if_pos z2] at f2
          dsimp only [w_X6_readAny_41, w_X6_readAny_56]
          refine fG (o := 6) H2 H2.b rfl ?_
          rw [C2.2.2.1]
          refine br_F (by rw [z2]; decide) (br_T rfl ?_)
          refine br_bI (fun y => ?_) (fun y => ?_)
          · rw [if_pos y] at b2'
            refine vG (o := 6) H2 H2.b rfl ?_
            refine c_addStep H2 C2 (by rw [List.length_append]; omega) (a := 8) (b := 0) rfl rfl (fun X3 h3 H3 o3 C3 => ?_)
            have ea : l ++ enc a ++ [1000 * 8 + 0] = l ++ enc (oSeg o a) := by
              unfold oSeg
              rw [if_pos y, enc_app, e_17, ← List.append_assoc]
            rw [ea] at C3
            have g := go false true (oSeg o a) X3 h3 H3 (o2.tr o3) C3 (by omega) (by rw [if_neg (by decide)]; exact b2) (fun _ => rfl) (fun j5 s5 e5 => by rw [e5] at f2; rw [if_neg (by decide)]; exact f2) (fun e5 z5 => by rw [z5] at f2; exact f2)
            dsimp only [w_X6_readAny_74, w_X6_readAny_83]
            rw [y]
            exact br_F (by decide) g
          · have ea : oSeg o a = a := by
              unfold oSeg
              rw [if_neg y]
            have b3' := b2
            rw [ea] at f2 b3'
            have g := go false true a X2 h2 H2 o2 C2 (by omega) (by rw [if_neg (by decide)]; exact b3') (fun _ => rfl) (fun j5 s5 e5 => by rw [e5] at f2; rw [if_neg (by decide)]; exact f2) (fun e5 z5 => by rw [z5] at f2; exact f2)
            dsimp only [w_X6_readAny_74, w_X6_readAny_83]
            rw [Bool.not_eq_true] at y
            rw [y]
            exact br_T rfl (br_T rfl g)
        · rw [if_neg z2] at f2
          exact fin o a i2 X2 h2 H2 o2 C2 b1 b2 f2.symm
    · obtain ⟨o, f, i2, a, X2, h2, rfl, f1, b1, b2, f2, H2, o2, C2⟩ := hI
      obtain rfl : f = 0 := by omega
      simp only [pAnyL] at f2
      dsimp only
      dsimp only [w_X6_readAny_14]
      exact br_T (Int32.le_refl _) (fin o a i2 X2 h2 H2 o2 C2 b1 b2 f2.symm)
  · rw [z] at k
    exact br_T rfl (k.2 _ rfl X1 h1 H1 o1 F1)
theorem c_not {ra rt ri rn : Nat → Int32 → AH → (Int32 → AH → Prop) → Prop} {d : Int32} {pa : Nat → Res} (T : TS th te c) (B : PBd te c pa) (hat : RSp A S h0 th tb te c st pa (rt (A 6) d)) {X : Nat → Nat → Int32} {h : AH} {i : Nat} {l : List Nat} {Q : Int32 → AH → Prop} (H : G A S h0 X h) (C : CRd X th tb c st i l) (hi : th i = 1008) (hl : l.length ≤ te i) (k : RK A S h0 X th tb c st l (match pa (i + 1) with
    | .ok (j, s) => .ok (j, s ++ [(15, 0)])
    | .error e => .error e) Q) : g_X6_readNot ra rt ri rn (A 6) d h Q := by
  obtain ⟨u1, u2, u3⟩ := T.up (i := i) (by omega)
  dsimp only [g_X6_readNot]
  refine vG (o := 6) H H.b rfl ?_
  refine c_goOn H T C (by omega) (fun X1 h1 H1 o1 C1 => ?_)
  refine vG (o := 6) H1 H1.b rfl ?_
  refine hat X1 h1 (i + 1) l _ H1 C1 (by omega) (by omega) ⟨fun j s e X2 h2 H2 o2 C2 => ?_, fun e z X2 h2 H2 o2 F2 => ?_⟩
  · rw [e] at k
    obtain ⟨y1, y2, y3, y4⟩ := B (i + 1) _ _ (by omega) e
    have y5 := T.2.2.2.2.1 j y2
    refine br_F (by decide) ?_
    refine vG (o := 6) H2 H2.b rfl ?_
    refine c_addStep H2 C2 (by rw [List.length_append]; omega) (a := 6) (b := 0) rfl rfl (fun X3 h3 H3 o3 C3 => ?_)
    refine k.1 _ _ rfl X3 h3 H3 ((o1.tr o2).tr o3) ?_
    rw [enc_app, e_15, ← List.append_assoc]
    exact C3
  · rw [z] at k
    exact br_T rfl (k.2 _ rfl X2 h2 H2 (o1.tr o2) F2)
theorem c_inner {ra rt ri rn : Nat → Int32 → AH → (Int32 → AH → Prop) → Prop} {d : Int32} {pa : Nat → Res} (T : TS th te c) (B : PBd te c pa) (hat : RSp A S h0 th tb te c st pa (ra (A 6) d)) {X : Nat → Nat → Int32} {h : AH} {i : Nat} {l : List Nat} {Q : Int32 → AH → Prop} (H : G A S h0 X h) (C : CRd X th tb c st i l) (hi : th i = 40) (hl : l.length ≤ te i) (k : RK A S h0 X th tb c st l (match pa (i + 1) with
    | .ok (j, s) => if th j = 41 then .ok (j + 1, s) else .error j
    | .error e => .error e) Q) : g_X6_readInner ra rt ri rn (A 6) d h Q := by
  obtain ⟨u1, u2, u3⟩ := T.up (i := i) (by omega)
  dsimp only [g_X6_readInner]
  refine vG (o := 6) H H.b rfl ?_
  refine c_goOn H T C (by omega) (fun X1 h1 H1 o1 C1 => ?_)
  refine vG (o := 6) H1 H1.b rfl ?_
  refine hat X1 h1 (i + 1) l _ H1 C1 (by omega) (by omega) ⟨fun j s e X2 h2 H2 o2 C2 => ?_, fun e z X2 h2 H2 o2 F2 => ?_⟩
  · rw [e] at k
    dsimp only at k
    obtain ⟨y1, y2, y3, y4⟩ := B (i + 1) _ _ (by omega) e
    have y5 := T.2.2.2.2.2.2.1 j
    refine br_F (by decide) ?_
    refine fG (o := 6) H2 H2.b rfl ?_
    rw [C2.2.2.1]
    refine br_Eq (b := 41) (by omega) (by decide) (fun d2 => ?_) (fun d2 => ?_)
    · rw [if_pos d2] at k
      refine vG (o := 6) H2 H2.b rfl ?_
      exact c_goOn H2 T C2 (by omega) (fun X3 h3 H3 o3 C3 => k.1 _ _ rfl X3 h3 H3 ((o1.tr o2).tr o3) C3)
    · rw [if_neg d2] at k
      refine vG (o := 6) H2 H2.b rfl ?_
      exact c_refuse H2 T C2 y2 (fun X3 h3 H3 o3 F3 => ⟨Or.inl rfl, k.2 _ rfl X3 h3 H3 ((o1.tr o2).tr o3) F3⟩)
  · rw [z] at k
    exact br_T rfl (k.2 _ rfl X2 h2 H2 (o1.tr o2) F2)
theorem RK.z {X : Nat → Nat → Int32} {l : List Nat} {r : Res} {Q : Int32 → AH → Prop} (k : RK A S h0 X th tb c st l r Q) : RK A S h0 X th tb c st l r (fun x h => z1 x (Q x h)) :=
  ⟨fun j s e X' h' H' o' C' => ⟨Or.inr rfl, k.1 j s e X' h' H' o' C'⟩, fun e z X' h' H' o' F' => ⟨Or.inl rfl, k.2 e z X' h' H' o' F'⟩⟩
theorem c_atomF {ra rt ri rn : Nat → Int32 → AH → (Int32 → AH → Prop) → Prop} {dn : Nat} {pn pc : Nat → Res} (T : TS th te c) (hd : dn ≤ 6) (h6 : dn = 6 → pn = pBad ∧ pc = pBad) (hn : dn < 6 → ∀ X h i l Q, G A S h0 X h → CRd X th tb c st i l → th i = 1008 → l.length ≤ te i → RK A S h0 X th tb c st l (match pn (i + 1) with
    | .ok (j, s) => .ok (j, s ++ [(15, 0)])
    | .error e => .error e) Q → rn (A 6) (nI (dn + 1)) h Q) (hc : dn < 6 → ∀ X h i l Q, G A S h0 X h → CRd X th tb c st i l → th i = 40 → l.length ≤ te i → RK A S h0 X th tb c st l (match pc (i + 1) with
    | .ok (j, s) => if th j = 41 then .ok (j + 1, s) else .error j
    | .error e => .error e) Q → ri (A 6) (nI (dn + 1)) h Q) : RSp A S h0 th tb te c st (pAtF th st pn pc) (g_X6_readAtom ra rt ri rn (A 6) (nI dn)) := by
  intro X h i l Q H C hi hl k
  have hth := T.2.2.2.2.2.2.1 i
  dsimp only [g_X6_readAtom, w_X6_readAtom_30, w_X6_readAtom_60, w_X6_readAtom_91, w_X6_readAtom_111, w_X6_readAtom_136]
  refine fG (o := 6) H H.b rfl ?_
  rw [C.2.2.1]
  unfold pAtF at k
  refine br_Eq (b := 1008) (by omega) (by decide) (fun z => ?_) (fun z => ?_)
  · rw [if_pos z] at k
    refine br_Le (a := 6) (by decide) (by omega) (fun d => ?_) (fun d => ?_)
    · obtain ⟨rfl, rfl⟩ := h6 (by omega)
      refine vG (o := 6) H H.b rfl ?_
      exact c_refuse H T C hi (fun X1 h1 H1 o1 F1 => ⟨Or.inl rfl, k.2 i rfl X1 h1 H1 o1 F1⟩)
    · refine vG (o := 6) H H.b rfl ?_
      rw [← nI_succ]
      exact hn (by omega) X h i l _ H C z hl k.z
  · rw [if_neg z] at k
    refine fG (o := 6) H H.b rfl ?_
    rw [C.2.2.1]
    refine br_Eq (b := 40) (by omega) (by decide) (fun z2 => ?_) (fun z2 => ?_)
    · rw [if_pos z2] at k
      refine br_Le (a := 6) (by decide) (by omega) (fun d => ?_) (fun d => ?_)
      · obtain ⟨rfl, rfl⟩ := h6 (by omega)
        refine vG (o := 6) H H.b rfl ?_
        exact c_refuse H T C hi (fun X1 h1 H1 o1 F1 => ⟨Or.inl rfl, k.2 i rfl X1 h1 H1 o1 F1⟩)
      · refine vG (o := 6) H H.b rfl ?_
        rw [← nI_succ]
        exact hc (by omega) X h i l _ H C z2 hl k.z
    · rw [if_neg z2] at k
      refine fG (o := 6) H H.b rfl ?_
      rw [C.2.2.2.1]
      have cmp : RK A S h0 X th tb c st l (pCmp th st i) Q → vr h (A 6) 6 (w_X6_readComparison (A 6) h fun x1 h => z1 x1 (Q x1 h)) := by
        intro k2
        refine vG (o := 6) H H.b rfl ?_
        exact c_readCmp H T C hi hl k2.z
      have tag : st = false → (th i = 1016 ∨ th i = 1017) → fI h (A 6) 6 6 fun x1 => fI h (A 6) 6 7 fun x2 => vr h (A 6) 6 (w_X6_addStep (A 6) 1 (x1 - x2) h fun h => vr h (A 6) 6 (w_X6_goOn (A 6) h fun h => Q 1 h)) := by
        intro y1 y2
        rw [if_pos ⟨y1, y2⟩] at k
        obtain ⟨u1, u2, u3⟩ := T.up (i := i) (by omega)
        refine fG (o := 6) H H.b rfl ?_
        rw [C.2.2.1]
        refine fG (o := 6) H H.b rfl ?_
        rw [C.2.2.2.1, show ff st = 1009 by rw [y1]; rfl, pk_sub (by omega)]
        refine vG (o := 6) H H.b rfl ?_
        refine c_addStep H C (by omega) (a := 1) (b := th i - 1009) rfl rfl (fun X1 h1 H1 o1 C1 => ?_)
        refine vG (o := 6) H1 H1.b rfl ?_
        refine c_goOn H1 T C1 (by omega) (fun X2 h2 H2 o2 C2 => ?_)
        refine k.1 _ _ rfl X2 h2 H2 (o1.tr o2) ?_
        rw [e_fact (by omega)]
        exact C2
      have hff := ff_or (st := st)
      have rest : (¬ (st = false ∧ (th i = 1016 ∨ th i = 1017))) → fI h (A 6) 6 7 fun x1 => br (x1 = 1018) (fI h (A 6) 6 6 fun x2 => br (x2 = 1025) (vr h (A 6) 6 (w_X6_readHeld (A 6) h fun x3 h => z1 x3 (Q x3 h))) (vr h (A 6) 6 (w_X6_readComparison (A 6) h fun x1 h => z1 x1 (Q x1 h)))) (vr h (A 6) 6 (w_X6_readComparison (A 6) h fun x1 h => z1 x1 (Q x1 h))) := by
        intro y
        rw [if_neg y] at k
        refine fG (o := 6) H H.b rfl ?_
        rw [C.2.2.2.1]
        refine br_Eq (b := 1018) (by omega) (by decide) (fun y2 => ?_) (fun y2 => ?_)
        · have hst : st = true := by
            cases st with
            | true => rfl
            | false => cases y2
          refine fG (o := 6) H H.b rfl ?_
          rw [C.2.2.1]
          refine br_Eq (b := 1025) (by omega) (by decide) (fun y3 => ?_) (fun y3 => ?_)
          · rw [if_pos ⟨hst, y3⟩] at k
            refine vG (o := 6) H H.b rfl ?_
            exact c_readHeld H T C y3 hl k.z
          · rw [if_neg (fun y4 => y3 y4.2)] at k
            exact cmp k
        · have hst : st = false := by
            cases st with
            | true => exact absurd rfl y2
            | false => rfl
          rw [if_neg (fun y4 => by rw [hst] at y4; cases y4.1)] at k
          exact cmp k
      refine br_Eq (b := 1009) (by omega) (by decide) (fun y => ?_) (fun y => ?_)
      · have hst : st = false := by
          cases st with
          | true => cases y
          | false => rfl
        refine fG (o := 6) H H.b rfl ?_
        rw [C.2.2.1]
        refine br_Eq (b := 1016) (by omega) (by decide) (fun y1 => tag hst (Or.inl y1)) (fun y1 => ?_)
        refine fG (o := 6) H H.b rfl ?_
        rw [C.2.2.1]
        refine br_Eq (b := 1017) (by omega) (by decide) (fun y2 => tag hst (Or.inr y2)) (fun y2 => rest (fun y3 => y3.2.elim y1 y2))
      · refine rest (fun y3 => ?_)
        rw [y3.1] at y
        exact y rfl
theorem GR6_s (m : Nat) : GR_X6 (m + 1) = (g_X6_readAny (GR_X6 m).1 (GR_X6 m).2.1 (GR_X6 m).2.2.1 (GR_X6 m).2.2.2, g_X6_readAtom (GR_X6 m).1 (GR_X6 m).2.1 (GR_X6 m).2.2.1 (GR_X6 m).2.2.2, g_X6_readInner (GR_X6 m).1 (GR_X6 m).2.1 (GR_X6 m).2.2.1 (GR_X6 m).2.2.2, g_X6_readNot (GR_X6 m).1 (GR_X6 m).2.1 (GR_X6 m).2.2.1 (GR_X6 m).2.2.2) := rfl
theorem c_group (T : TS th te c) : ∀ k m, k ≤ 6 → 3 * k + 1 ≤ m → RSp A S h0 th tb te c st (pAt th st k) ((GR_X6 m).2.1 (A 6) (nI (6 - k))) := by
  intro k
  induction k with
  | zero =>
    intro m _ hm
    obtain ⟨m, rfl⟩ : ∃ g, m = g + 1 := ⟨m - 1, by omega⟩
    rw [GR6_s]
    exact c_atomF T (Nat.le_refl _) (fun _ => ⟨rfl, rfl⟩) (fun z => absurd z (by decide)) (fun z => absurd z (by decide))
  | succ k ih =>
    intro m hk hm
    obtain ⟨m, rfl⟩ : ∃ g, m = g + 3 := ⟨m - 3, by omega⟩
    have e : 6 - (k + 1) + 1 = 6 - k := by omega
    rw [GR6_s]
    refine c_atomF T (by omega) (fun z => by omega) (fun _ X h i l Q H C hi hl kk => ?_) (fun _ X h i l Q H C hi hl kk => ?_)
    · rw [e, GR6_s]
      dsimp only
      exact c_not T (pAt_bd T k) (ih (m + 1) (by omega) (by omega)) H C hi hl kk
    · rw [e, GR6_s]
      dsimp only
      refine c_inner T (pAnyF_bd T (pAt_bd T k)) ?_ H C hi hl kk
      rw [GR6_s]
      dsimp only
      exact c_any T (pAt_bd T k) (ih m (by omega) (by omega))
theorem c_cond (T : TS th te c) {X : Nat → Nat → Int32} {h : AH} {i : Nat} {l : List Nat} {Q : Int32 → AH → Prop} (H : G A S h0 X h) (C : CRd X th tb c st i l) (hi : i ≤ c) (hl : l.length ≤ te i) (k : RK A S h0 X th tb c st l (pAnyF th (pAt th st k6) i) Q) : w_X6_readAny (A 6) 0 h Q := by
  unfold w_X6_readAny
  rw [show (40 : Nat) = 39 + 1 from rfl, GR6_s]
  have hat := c_group (A := A) (S := S) (h0 := h0) (tb := tb) (st := st) T k6 39 (by rw [k6_eq]; decide) (by rw [k6_eq]; decide)
  rw [show nI (6 - k6) = 0 by rw [k6_eq]; rfl] at hat
  exact c_any T (pAt_bd T k6) hat X h i l Q H C hi hl k
end CGROUP
