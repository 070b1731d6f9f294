/-! the class's reader: lines, laws, stories -/
def lnE (s : Seg) : List Nat := if s = [] then [1] else enc s
def lwE (L : List (Nat × Seg)) : List Nat := L.flatMap fun q => lnE q.2 ++ [10001 + q.1]
theorem lwE_app {L : List (Nat × Seg)} {a : Nat} {s : Seg} : lwE (L ++ [(a, s)]) = lwE L ++ (lnE s ++ [10001 + a]) := by
  unfold lwE
  rw [List.flatMap_append]
  simp
theorem pLine_bd {th te : Nat → Nat} {c : Nat} {st : Bool} (T : TS th te c) {i j a : Nat} {s : Seg} (hi : i ≤ c) (h : pLine th st i = .ok (j, a, s)) : i < j ∧ j ≤ c ∧ (lnE s).length + 1 + te i ≤ te j ∧ a ≤ 4 ∧ (s = [] ∨ TY st 19 true s) := by
  unfold pLine at h
  split at h
  · rename_i d
    obtain ⟨u1, u2, u3⟩ := T.up (i := i) (by omega)
    have u4 := T.2.2.2.2.2.1 i u1 (Or.inl d)
    split at h
    · rename_i d2
      obtain ⟨v1, v2, v3⟩ := T.up (i := i + 1) (by omega)
      cases e : pAnyF th (pAt th st k6) (i + 2) with
      | error x => rw [e] at h; cases h
      | ok q =>
        obtain ⟨x, y⟩ := q
        rw [e] at h
        have h := Except.ok.inj h
        have e1 : x = j := congrArg Prod.fst h
        have e2 : th i - 1000 = a := congrArg (fun q => q.2.1) h
        have e3 : y = s := congrArg (fun q => q.2.2) h
        subst e1 e3
        obtain ⟨w1, w2, w3, w4⟩ := pAnyF_bd T (pAt_bd T k6) (i + 2) _ _ (by omega) e
        have e4 : te (i + 2) = te (i + 1 + 1) := rfl
        refine ⟨by omega, w2, ?_, by omega, Or.inr (cond_ty T.2.2.2.2.2.2.1 e)⟩
        unfold lnE
        rw [if_neg w4]
        omega
    · have h := Except.ok.inj h
      have e1 : i + 1 = j := congrArg Prod.fst h
      have e2 : th i - 1000 = a := congrArg (fun q => q.2.1) h
      have e3 : ([] : Seg) = s := congrArg (fun q => q.2.2) h
      subst e1 e3
      exact ⟨by omega, by omega, by show 1 + 1 + te i ≤ _; omega, by omega, Or.inl rfl⟩
  · cases h
/-- the reader behind a text that it took -/
def CD (X : Nat → Nat → Int32) (l : List Nat) : Prop := X 6 1 = 0 ∧ X 6 2 = -1 ∧ X 6 9 = nI l.length ∧ ∀ j, j < l.length → X 708 j = nI (l.getD j 0)
theorem CRd.d {X : Nat → Nat → Int32} {th tb : Nat → Nat} {c : Nat} {st : Bool} {i : Nat} {l : List Nat} (C : CRd X th tb c st i l) : CD X l := ⟨C.2.2.2.2.1, C.2.2.2.2.2.1, C.2.2.2.2.2.2.1, C.2.2.2.2.2.2.2⟩
section CLAW
variable {A : Nat → Nat} {S : Nat → Prop} {h0 h : AH} {X : Nat → Nat → Int32} {Q : Int32 → AH → Prop} {Qv : AH → Prop} {th tb te : Nat → Nat} {c : Nat} {st : Bool} {i : Nat} {l : List Nat} {B : Nat → Nat} {n : Nat}
theorem c_readLine (H : G A S h0 X h) (T : TS th te c) (C : CRd X th tb c st i l) (hi : i ≤ c) (hl : l.length ≤ te i) (k1 : ∀ j a s, pLine th st i = .ok (j, a, s) → ∀ X' h', G A S h0 X' h' → Off rSL X X' → CRd X' th tb c st j (l ++ (lnE s ++ [10001 + a])) → Q 1 h') (k2 : ∀ e, pLine th st i = .error e → ∀ X' h', G A S h0 X' h' → Off rSL X X' → CF X' (tb e) → Q 0 h') : w_X6_readLine (A 6) h Q := by
  have hth := T.2.2.2.2.2.2.1 i
  dsimp only [w_X6_readLine, w_X6_readLine_20, w_X6_readLine_73]
  refine fG (o := 6) H H.b rfl ?_
  rw [C.2.2.1]
  have bad : ¬ (1000 ≤ th i ∧ th i ≤ 1004) → vr h (A 6) 6 (w_X6_refuse (A 6) h fun x1 h => z1 x1 (Q x1 h)) := by
    intro z
    refine vG (o := 6) H H.b rfl ?_
    refine c_refuse H T C hi (fun X1 h1 H1 o1 F1 => ⟨Or.inl rfl, k2 i ?_ X1 h1 H1 o1 F1⟩)
    unfold pLine
    rw [if_neg z]
  refine br_Lt (b := 1000) (by omega) (by decide) (fun d => bad (fun z => by omega)) (fun d => ?_)
  refine fG (o := 6) H H.b rfl ?_
  rw [C.2.2.1]
  refine br_Le (b := 1004) (by omega) (by decide) (fun d2 => ?_) (fun d2 => bad (fun z => by omega))
  have hp : pLine th st i = (if th (i + 1) = 1005 then (match pAnyF th (pAt th st k6) (i + 2) with
    | .ok (j, s) => .ok (j, th i - 1000, s)
    | .error e => .error e) else .ok (i + 1, th i - 1000, [])) := by
    unfold pLine
    rw [if_pos ⟨d, d2⟩]
    by_cases z : th (i + 1) = 1005
    · rw [if_pos z, if_pos z]
      cases pAnyF th (pAt th st k6) (i + 2) <;> rfl
    · rw [if_neg z, if_neg z]
  rw [hp] at k1 k2
  obtain ⟨u1, u2, u3⟩ := T.up (i := i) (by omega)
  have u4 := T.2.2.2.2.2.1 i u1 (Or.inl ⟨d, d2⟩)
  refine fG (o := 6) H H.b rfl ?_
  rw [C.2.2.1, show (1000 : Int32) = nI 1000 from rfl, pk_sub d, ← nI_succ]
  refine bd_i ?_
  refine vG (o := 6) H H.b rfl ?_
  refine c_goOn H T C (by omega) (fun X1 h1 H1 o1 C1 => ?_)
  refine fG (o := 6) H1 H1.b rfl ?_
  rw [C1.2.2.1]
  have hth2 := T.2.2.2.2.2.2.1 (i + 1)
  have e10 : 1000 * 10 + (th i - 1000 + 1) = 10001 + (th i - 1000) := by omega
  refine br_Eq (b := 1005) (by omega) (by decide) (fun z => ?_) (fun z => ?_)
  · rw [if_pos z] at k1 k2
    obtain ⟨v1, v2, v3⟩ := T.up (i := i + 1) (by omega)
    refine vG (o := 6) H1 H1.b rfl ?_
    refine c_goOn H1 T C1 (by omega) (fun X2 h2 H2 o2 C2 => ?_)
    refine vG (o := 6) H2 H2.b rfl ?_
    refine c_cond T H2 C2 (by omega) (by omega) ⟨fun j s e X3 h3 H3 o3 C3 => ?_, fun e z3 X3 h3 H3 o3 F3 => ?_⟩
    · rw [show i + 1 + 1 = i + 2 from rfl] at e
      rw [e] at k1
      obtain ⟨w1, w2, w3, w4⟩ := pAnyF_bd T (pAt_bd T k6) (i + 2) _ _ (by omega) e
      have w5 := T.2.2.2.2.1 j w2
      have w6 : te (i + 2) = te (i + 1 + 1) := rfl
      refine br_F (by decide) ?_
      refine vG (o := 6) H3 H3.b rfl ?_
      refine c_addStep H3 C3 (by rw [List.length_append]; omega) (a := 10) (b := th i - 1000 + 1) rfl rfl (fun X4 h4 H4 o4 C4 => ?_)
      refine k1 _ _ _ rfl X4 h4 H4 (((o1.tr o2).tr o3).tr o4) ?_
      unfold lnE
      rw [if_neg w4, ← e10, ← List.append_assoc]
      exact C4
    · rw [show i + 1 + 1 = i + 2 from rfl] at z3
      rw [z3] at k2
      exact br_T rfl (k2 _ rfl X3 h3 H3 ((o1.tr o2).tr o3) F3)
  · rw [if_neg z] at k1
    refine vG (o := 6) H1 H1.b rfl ?_
    refine c_addStep H1 C1 (by omega) (a := 0) (b := 1) rfl rfl (fun X2 h2 H2 o2 C2 => ?_)
    refine vG (o := 6) H2 H2.b rfl ?_
    refine c_addStep H2 C2 (by rw [List.length_append, List.length_singleton]; omega) (a := 10) (b := th i - 1000 + 1) rfl rfl (fun X3 h3 H3 o3 C3 => ?_)
    refine k1 _ _ _ rfl X3 h3 H3 ((o1.tr o2).tr o3) ?_
    unfold lnE
    rw [if_pos rfl, ← e10, ← List.append_assoc]
    exact C3
theorem c_readsLaw (H : G A S h0 X h) (C : TC X B n) (hn : n ≤ 400) (hB : ∀ i, i < n → B i < 256) (k1 : ∀ L, pLaw (tkH B n) false = .ok L → ∀ X' h', G A S h0 X' h' → Off rSL X X' → CD X' (lwE L) → (lwE L).length ≤ 400 → Q 1 h') (k2 : ∀ e, pLaw (tkH B n) false = .error e → ∀ X' h', G A S h0 X' h' → Off rSL X X' → CF X' (tkB B n e) → Q 0 h') : w_X6_readsLaw (A 6) h Q := by
  have T := tok_TS (B := B) hn
  dsimp only [w_X6_readsLaw]
  refine vG (o := 6) H H.b rfl ?_
  refine c_open (st := false) H C hn hB rfl (fun X1 h1 H1 o1 C1 => ?_)
  refine fG (o := 6) H1 H1.b rfl ?_
  rw [C1.2.2.1]
  have hth := T.2.2.2.2.2.2.1 0
  unfold pLaw at k1 k2
  refine br_Eq (b := 0) (by omega) (by decide) (fun z => ?_) (fun z => ?_)
  · rw [if_pos z] at k1
    exact k1 [] rfl X1 h1 H1 o1 C1.d (Nat.zero_le _)
  · rw [if_neg z] at k1 k2
    refine lp_inv 10 (fun m (x : Int32 × AH) => x.1 = nI m ∧ ∃ f i2 a X2, f + m = 10 ∧ i2 ≤ tkC B n ∧ (lwE a).length ≤ tkN B n i2 ∧ pLawL (tkH B n) false f i2 a = pLawL (tkH B n) false k10 0 [] ∧ G A S h0 X2 x.2 ∧ Off rSL X X2 ∧ CRd X2 (tkH B n) (tkB B n) (tkC B n) false i2 (lwE a)) (fun m x kk hm hI kn => ?_) (fun x kk hI => ?_) (Nat.zero_le _) ⟨rfl, k10, 0, [], X1, by rw [k10_eq], Nat.zero_le _, Nat.zero_le _, rfl, H1, o1, C1⟩
    · obtain ⟨v, h2⟩ := x
      obtain ⟨e1, f, i2, a, X2, f1, b1, b2, f2, H2, o2, C2⟩ := hI
      dsimp only at e1 H2 ⊢
      subst e1
      obtain ⟨f, rfl⟩ : ∃ g, f = g + 1 := ⟨f - 1, by omega⟩
      dsimp only [w_X6_readsLaw_18, w_X6_readsLaw_31, w_X6_readsLaw_40, w_X6_readsLaw_51]
      refine br_go (a := 10) hm (by decide) ?_
      refine vG (o := 6) H2 H2.b rfl ?_
      simp only [pLawL] at f2
      refine c_readLine H2 T C2 b1 b2 (fun j ac s e X3 h3 H3 o3 C3 => ?_) (fun e z3 X3 h3 H3 o3 F3 => ?_)
      · obtain ⟨w1, w2, w3, w4, -⟩ := pLine_bd T b1 e
        have w5 := T.2.2.2.2.2.2.1 j
        have w6 := T.2.2.2.2.1 j w2
        rw [e] at f2
        dsimp only at f2
        rw [← lwE_app] at C3
        have hlen : (lwE (a ++ [(ac, s)])).length ≤ tkN B n j := by
          rw [lwE_app, List.length_append, List.length_append, List.length_singleton]
          omega
        refine br_F (by decide) ?_
        refine fG (o := 6) H3 H3.b rfl ?_
        rw [C3.2.2.1]
        refine br_Eq (b := 0) (by omega) (by decide) (fun d => ?_) (fun d => ?_)
        · rw [if_pos d] at f2
          rw [← f2] at k1
          exact k1 _ rfl X3 h3 H3 (o2.tr o3) C3.d (by omega)
        · rw [if_neg d] at f2
          refine fG (o := 6) H3 H3.b rfl ?_
          rw [C3.2.2.1]
          refine br_Eq (b := 59) (by omega) (by decide) (fun d2 => ?_) (fun d2 => ?_)
          · rw [if_pos d2] at f2
            obtain ⟨u1, u2, u3⟩ := T.up d
            refine vG (o := 6) H3 H3.b rfl ?_
            refine c_goOn H3 T C3 d (fun X4 h4 H4 o4 C4 => ?_)
            exact kn _ ⟨(nI_succ m).symm, f, j + 1, _, X4, by omega, u1, by omega, f2, H4, (o2.tr o3).tr o4, C4⟩
          · rw [if_neg d2] at f2
            rw [← f2] at k2
            refine vG (o := 6) H3 H3.b rfl ?_
            exact c_refuse H3 T C3 w2 (fun X4 h4 H4 o4 F4 => ⟨Or.inl rfl, k2 _ rfl X4 h4 H4 ((o2.tr o3).tr o4) F4⟩)
      · rw [z3] at f2
        dsimp only at f2
        rw [← f2] at k2
        exact br_T rfl (k2 _ rfl X3 h3 H3 (o2.tr o3) F3)
    · obtain ⟨v, h2⟩ := x
      obtain ⟨e1, f, i2, a, X2, f1, b1, b2, f2, H2, o2, C2⟩ := hI
      dsimp only at e1 H2 ⊢
      subst e1
      obtain rfl : f = 0 := by omega
      simp only [pLawL] at f2
      rw [← f2] at k2
      dsimp only [w_X6_readsLaw_18, w_X6_readsLaw_66]
      refine br_T (Int32.le_refl _) ?_
      refine vG (o := 6) H2 H2.b rfl ?_
      exact c_refuse H2 T C2 b1 (fun X4 h4 H4 o4 F4 => ⟨Or.inl rfl, k2 _ rfl X4 h4 H4 (o2.tr o4) F4⟩)
theorem c_readsStory (H : G A S h0 X h) (C : TC X B n) (hn : n ≤ 400) (hB : ∀ i, i < n → B i < 256) (k1 : ∀ s, pStory (tkH B n) true = .ok s → ∀ X' h', G A S h0 X' h' → Off rSL X X' → CD X' (enc s ++ [10001]) → (enc s ++ [10001]).length ≤ 401 → Q 1 h') (k2 : ∀ e, pStory (tkH B n) true = .error e → ∀ X' h', G A S h0 X' h' → Off rSL X X' → CF X' (tkB B n e) → Q 0 h') : w_X6_readsStory (A 6) h Q := by
  have T := tok_TS (B := B) hn
  dsimp only [w_X6_readsStory, w_X6_readsStory_38, w_X6_readsStory_43]
  refine vG (o := 6) H H.b rfl ?_
  refine c_open (st := true) H C hn hB rfl (fun X1 h1 H1 o1 C1 => ?_)
  refine vG (o := 6) H1 H1.b rfl ?_
  unfold pStory at k1 k2
  refine c_cond T H1 C1 (Nat.zero_le _) (Nat.zero_le _) ⟨fun j s e X2 h2 H2 o2 C2 => ?_, fun e z X2 h2 H2 o2 F2 => ?_⟩
  · rw [e] at k1 k2
    dsimp only at k1 k2
    obtain ⟨w1, w2, w3, w4⟩ := pAnyF_bd T (pAt_bd T k6) 0 _ _ (Nat.zero_le _) e
    have w5 := T.2.2.2.2.2.2.1 j
    have w6 := T.2.2.2.2.1 j w2
    rw [List.nil_append] at C2
    refine br_F (by decide) ?_
    refine vG (o := 6) H2 H2.b rfl ?_
    refine c_addStep H2 C2 (by omega) (a := 10) (b := 1) rfl rfl (fun X3 h3 H3 o3 C3 => ?_)
    refine fG (o := 6) H3 H3.b rfl ?_
    rw [C3.2.2.1]
    refine br_Eq (b := 0) (by omega) (by decide) (fun d => ?_) (fun d => ?_)
    · rw [if_pos d] at k1
      exact ⟨Or.inr rfl, k1 _ rfl X3 h3 H3 ((o1.tr o2).tr o3) C3.d (by rw [List.length_append, List.length_singleton]; omega)⟩
    · rw [if_neg d] at k2
      refine vG (o := 6) H3 H3.b rfl ?_
      exact c_refuse H3 T C3 w2 (fun X4 h4 H4 o4 F4 => br_T rfl ⟨Or.inl rfl, k2 _ rfl X4 h4 H4 (((o1.tr o2).tr o3).tr o4) F4⟩)
  · rw [z] at k2
    exact br_T rfl (k2 _ rfl X2 h2 H2 (o1.tr o2) F2)
end CLAW
/-! a new program -/
/-- all that was there stays as it was -/
def XF (h h' : AH) : Prop := (∀ b, gK h b ≠ 0 → gK h' b = gK h b ∧ gL h' b = gL h b ∧ gI h' b = gI h b ∧ gP h' b = gP h b) ∧ gS h' = gS h ∧ gV h' = gV h
theorem XF.rf (h : AH) : XF h h := ⟨fun _ _ => ⟨rfl, rfl, rfl, rfl⟩, rfl, rfl⟩
theorem XF.tr {h h' h'' : AH} (a : XF h h') (b : XF h' h'') : XF h h'' := ⟨fun c hc => by
  obtain ⟨q1, q2, q3, q4⟩ := a.1 c hc
  obtain ⟨r1, r2, r3, r4⟩ := b.1 c (by rw [q1]; exact hc)
  exact ⟨r1.trans q1, r2.trans q2, r3.trans q3, r4.trans q4⟩, b.2.1.trans a.2.1, b.2.2.trans a.2.2⟩
theorem XF.k0 {h h' : AH} (a : XF h h') {b : Nat} (hb : gK h' b = 0) : gK h b = 0 := Decidable.byContradiction fun z => z (by rw [← (a.1 b z).1]; exact hb)
theorem XF.nO {h : AH} {a ci : Nat} (ha : gK h a = 0) : XF h (nO h a ci) := ⟨fun b hb => by
  have hn : b ≠ a := fun e => hb (e ▸ ha)
  exact ⟨va_ne hn, rfl, va_ne hn, va_ne hn⟩, rfl, rfl⟩
theorem XF.nA {h : AH} {a j n : Nat} (ha : gK h a = 0) : XF h (nA h a j n) := ⟨fun b hb => by
  have hn : b ≠ a := fun e => hb (e ▸ ha)
  exact ⟨va_ne hn, va_ne hn, va_ne hn, va_ne hn⟩, rfl, rfl⟩
theorem XF.sP {h h' : AH} (x : XF h h') {a k : Nat} {r : Option Nat} (ha : gK h a = 0) : XF h (sP h' a k r) := ⟨fun b hb => by
  have hn : b ≠ a := fun e => hb (e ▸ ha)
  obtain ⟨q1, q2, q3, q4⟩ := x.1 b hb
  exact ⟨q1, q2, q3, (va_ne hn).trans q4⟩, x.2⟩
theorem XF.sR {h h' : AH} (x : XF h h') {a : Nat} {f : Nat → Int32} (ha : gK h a = 0) : XF h (sR h' a f) := ⟨fun b hb => by
  have hn : b ≠ a := fun e => hb (e ▸ ha)
  obtain ⟨q1, q2, q3, q4⟩ := x.1 b hb
  exact ⟨q1, q2, (va_ne hn).trans q3, q4⟩, x.2⟩
theorem XF.g {A : Nat → Nat} {S : Nat → Prop} {h0 h h' : AH} {X : Nat → Nat → Int32} (x : XF h h') (H : G A S h0 X h) : G A S h' X h' := by
  have old : ∀ id, lv S id → gK h' (A id) = gK h (A id) ∧ gL h' (A id) = gL h (A id) ∧ gI h' (A id) = gI h (A id) ∧ gP h' (A id) = gP h (A id) := fun id hd => x.1 _ (by rw [H.2.1, (H.1.2.1 id hd).1]; exact hd.1)
  obtain ⟨⟨h1, h2, h3, h4⟩, g1, g2, g3, g4, g5, g6⟩ := H
  refine G.self ⟨h1, fun id hd => ?_, fun o k t ho hp => ?_, h4⟩ (fun id hd => ?_)
  · rw [(old id hd).1, (old id hd).2.1, g1, g2]
    exact h2 id hd
  · rw [(old o ho).2.2.2, g3]
    exact h3 o k t ho hp
  · rw [(old id hd).2.2.1]
    exact g5 id hd
theorem XF.be {A : Nat → Nat} {S : Nat → Prop} {h0 h h' : AH} {X : Nat → Nat → Int32} (x : XF h h') (H : G A S h0 X h) : BE A S h0 A S h' := by
  obtain ⟨-, g1, g2, g3, g4, g5, g6⟩ := H
  have g8 : gS h = gS h0 ∧ gV h = gV h0 := ⟨congrArg (fun x => x.2.1) g4, congrArg (fun x => x.2.2) g4⟩
  refine ⟨fun _ _ => rfl, fun _ z => z, fun b hb => ?_, fun id hd => Or.inl hd, x.2.1.trans g8.1, x.2.2.trans g8.2⟩
  rw [← g1] at hb
  obtain ⟨q1, q2, q3, q4⟩ := x.1 b hb
  rw [q1, q2, q3, q4, g1, g2, g3]
  exact ⟨rfl, rfl, fun _ => rfl, fun z => g6 b z⟩
/-- a program at p: its steps s, its pile q -/
def PO1 (h : AH) (p s q : Nat) (l : List Nat) : Prop := gK h p = 6 ∧ gP h p 0 = some s ∧ gP h p 1 = some q ∧ gK h s = 20 ∧ gL h s = l.length ∧ (∀ j, j < l.length → gI h s j = nI (l.getD j 0)) ∧ gK h q = 20 ∧ gL h q = 32
theorem sR_eq {h : AH} {a : Nat} {f : Nat → Int32} : gI (sR h a f) a = f := va_up_self _ _ _
section CPROG
variable {A : Nat → Nat} {S : Nat → Prop} {h0 h : AH} {X : Nat → Nat → Int32} {Q : Nat → AH → Prop}
theorem c_program (H : G A S h0 X h) {l : List Nat} (C : CD X l) (hl : l.length ≤ 401) (k : ∀ p s q h', XF h h' → gK h p = 0 → gK h s = 0 → gK h q = 0 → s ≠ q → PO1 h' p s q l → Q p h') : w_X6_program (A 6) h Q := by
  dsimp only [w_X6_program, w_X5_init]
  intro p hp
  have x1 := XF.nO (ci := 5) hp
  have H1 := x1.g H
  refine fP (o := 6) H1 H1.b rfl rfl ?_
  refine fG (o := 6) H1 H1.b rfl ?_
  rw [C.2.2.1]
  intro q hq
  have hq0 := x1.k0 hq
  have hpq : q ≠ p := fun e => by
    rw [e] at hq
    have : gK (nO h p 5) p = 6 := va_up_self _ _ _
    rw [this] at hq
    cases hq
  have x2 := x1.tr (XF.nA (j := 0) (n := 32) hq)
  have k2 : gK (nA (nO h p 5) q 0 32) p = 6 := by
    show va_up (va_up h.1 p 6) q 20 p = 6
    rw [va_ne (fun z => hpq z.symm), va_up_self]
  refine ⟨k2, ?_⟩
  have x3 := x2.sP (k := 1) (r := some q) hp
  have H3 := x3.g H
  generalize hh3 : sP (nA (nO h p 5) q 0 32) p 1 (some q) = h3 at *
  have b1 : gK h3 p = 6 := by rw [← hh3]; exact k2
  have b2 : gP h3 p 1 = some q := by
    rw [← hh3]
    show va_up _ p (va_up _ 1 (some q)) p 1 = _
    rw [va_up_self, va_up_self]
  have b3 : gK h3 q = 20 := by
    rw [← hh3]
    exact va_up_self _ _ _
  have b4 : gL h3 q = 32 := by
    rw [← hh3]
    exact va_up_self _ _ _
  have r708 : ∀ j, j < l.length → gI h3 (A 708) j = nI (l.getD j 0) := fun j hj => by
    rw [H3.at (id := 708) (a := 19) H3.b rfl]
    exact C.2.2.2 j hj
  have fin : ∀ s h4, XF h3 h4 → gK h3 s = 0 → gK h4 s = 20 → gL h4 s = l.length → (∀ j, j < l.length → gI h4 s j = nI (l.getD j 0)) → uO h4 p 5 0 (some s) fun h => Q p h := by
    intro s h4 x4 hs s1 s2 s3
    obtain ⟨q1, q2, q3, q4⟩ := x4.1 p (by rw [b1]; decide)
    obtain ⟨r1, r2, r3, r4⟩ := x4.1 q (by rw [b3]; decide)
    have hsp : s ≠ p := fun e => by rw [e, b1] at hs; cases hs
    have hsq : s ≠ q := fun e => by rw [e, b3] at hs; cases hs
    refine ⟨by rw [q1, b1], k p s q _ ((x3.tr x4).sP hp) hp (x3.k0 hs) hq0 hsq ⟨?_, ?_, ?_, ?_, ?_, ?_, ?_, ?_⟩⟩
    · exact q1.trans b1
    · rw [sP_eq, va_up_self]
    · rw [sP_eq, va_ne (by decide), q4]
      exact b2
    · exact s1
    · exact s2
    · exact s3
    · exact r1.trans b3
    · exact r2.trans b4
  dsimp only [w_J7_copyOf_59c91]
  refine ⟨H3.kd (o := 708) (a := 19) H3.b rfl, ?_⟩
  have l708 : gL h3 (A 708) = 401 := H3.ln (o := 708) (a := 0) H3.b rfl
  rw [l708]
  refine br_Eq (a := l.length) (b := 401) (by omega) (by decide) (fun e => ?_) (fun e => ?_)
  · refine ⟨H3.kd (o := 708) (a := 19) H3.b rfl, by rw [l708]; exact Nat.le_refl _, fun s hs => ?_⟩
    rw [l708]
    have x4 := (XF.nA (j := 0) (n := 401) hs).sR (f := gI h3 (A 708)) hs
    have s1 : gK (sR (nA h3 s 0 401) s (gI h3 (A 708))) s = 20 := va_up_self _ _ _
    refine ⟨s1, fin s _ x4 hs s1 ?_ (fun j hj => ?_)⟩
    · rw [e]
      exact va_up_self _ _ _
    · rw [← r708 j hj, sR_eq]
  · refine ⟨nI_nlt (a := l.length) (b := 0) (by omega) (by omega), by rw [nI_clamp (by omega)]; exact hl, fun s hs => ?_⟩
    rw [nI_clamp (by omega)]
    have x4 := XF.nA (j := 0) (n := l.length) hs
    have H4 := x4.g H3
    refine ⟨H4.kd (o := 708) (a := 19) H4.b rfl, ?_⟩
    have l4 : gL (nA h3 s 0 l.length) (A 708) = 401 := H4.ln (o := 708) (a := 0) H4.b rfl
    rw [l4]
    have s1 : gK (nA h3 s 0 l.length) s = 20 := va_up_self _ _ _
    have s2 : gL (nA h3 s 0 l.length) s = l.length := va_up_self _ _ _
    have e5 : jmin (nI 401) (nI l.length) = nI l.length := by
      rw [j_min (by decide) (by omega), Nat.min_eq_right (by omega)]
    dsimp only
    rw [e5]
    refine ⟨H4.kd (o := 708) (a := 19) H4.b rfl, s1, by decide, by decide, nI_nlt (a := l.length) (b := 0) (by omega) (by omega), ?_, ?_, ?_⟩
    · rw [nI_clamp (by omega), l4]
      show 0 + _ ≤ _
      omega
    · rw [nI_clamp (by omega), s2]
      show 0 + _ ≤ _
      omega
    · refine fin s _ (x4.sR hs) hs s1 s2 (fun j hj => ?_)
      rw [sR_eq]
      have r4 : gI (nA h3 s 0 l.length) (A 708) = gI h3 (A 708) := (x4.1 (A 708) (by rw [H3.kd (o := 708) (a := 19) H3.b rfl]; decide)).2.2.1
      rw [r4, nI_clamp (by omega)]
      rw [← r708 j hj]
      unfold va_cpy
      show (if 0 ≤ j ∧ j < 0 + l.length then gI h3 (A 708) (0 + (j - 0)) else _) = _
      rw [if_pos ⟨Nat.zero_le _, by omega⟩, Nat.zero_add, Nat.sub_zero]
end CPROG
