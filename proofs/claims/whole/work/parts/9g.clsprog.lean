/-! the class's laws and stories -/
theorem CR.wd {X : Nat → Nat → Int32} {wd wd' : Nat → Int32} (R : CR X wd) (e : ∀ w, w < 1166 → wd' w = wd w) : CR X wd' := by
  have b1 : ∀ x ∈ cbL, x.2.2.1 + x.2.2.2 * x.2.1 ≤ 1165 + x.2.2.2 := by decide +kernel
  have b2 : ∀ x ∈ csL, x.2.2 < 1166 := by decide +kernel
  refine ⟨fun x hx n hn => ?_, fun x hx => ?_⟩
  · rw [R.1 x hx n hn, e]
    have h1 := b1 x hx
    have h2 : x.2.2.2 * (n + 1) ≤ x.2.2.2 * x.2.1 := Nat.mul_le_mul_left _ hn
    rw [Nat.mul_succ] at h2
    omega
  · rw [R.2 x hx, e _ (b2 x hx)]
/-- what a store of pointers at one place leaves -/
def BF (r : Nat) (h h' : AH) : Prop := (∀ b, gK h b ≠ 0 → gK h' b = gK h b ∧ gL h' b = gL h b ∧ (b ≠ r → gP h' b = gP h b)) ∧ gS h' = gS h ∧ gV h' = gV h
theorem bfX {h0 h h' : AH} {A : Nat → Nat} {S : Nat → Prop} {X : Nat → Nat → Int32} (x : XF h h') (H : G A S h0 X h) (a k : Nat) (r : Option Nat) : BF a h0 (sP h' a k r) := by
  obtain ⟨-, g1, g2, g3, g4, g5, g6⟩ := H
  refine ⟨fun b hb => ?_, x.2.1.trans (congrArg (fun x => x.2.1) g4), x.2.2.trans (congrArg (fun x => x.2.2) g4)⟩
  rw [← g1] at hb
  obtain ⟨q1, q2, q3, q4⟩ := x.1 b hb
  exact ⟨q1.trans (congrFun g1 b), q2.trans (congrFun g2 b), fun z => (sP_ne z).trans (q4.trans (congrFun g3 b))⟩
section CPRG
variable {A : Nat → Nat} {S : Nat → Prop} {h0 h : AH} {X : Nat → Nat → Int32} {wd : Nat → Int32} {B : Nat → Nat} {n N nr : Nat} {V : Nat → Prop} {E : Nat → List Nat} {ps ss qs : Nat → Nat} {Q : Int32 → AH → Prop} {Xc : String → AH → Prop}
theorem c_law (H : G A S h0 X h) (R : CR X wd) (C : TC X B n) (hn : n ≤ 400) (hB : ∀ i, i < n → B i < 256) (P : PGx A S h0 nr V E ps ss qs) (hr : nr ≤ 18) (h9 : 9 ≤ nr) (hN : wd 2 = nI N) (h4 : N ≤ 4) (hV : ¬ V N)
    (k1 : ∀ L, pLaw (tkH B n) false = .ok L → N < 4 → ∀ p s q X' hb h', G A S hb X' h' → BF (A 805) h0 hb → PGx A S hb nr (fun i => V i ∨ i = N) (va_up E N (lwE L)) (va_up ps N p) (va_up ss N s) (va_up qs N q) → (∀ id m, id ∉ rSL → ¬ (id = 7 ∧ m = 6) → X' id m = X id m) → X' 6 1 = 0 → X' 6 2 = -1 → CR X' (va_up wd 2 (nI (N + 1))) → Q (nI N) h')
    (k2 : ∀ L, pLaw (tkH B n) false = .ok L → N = 4 → ∀ X' h', G A S h0 X' h' → Off rSL X X' → X' 6 1 = 0 → X' 6 2 = -1 → CR X' wd → Xc "java/lang/UnsupportedOperationException" h')
    (k3 : ∀ e, pLaw (tkH B n) false = .error e → ∀ X' h', G A S h0 X' h' → Off rSL X X' → X' 6 1 = 0 → X' 6 2 = nI (tkB B n e) → CR X' wd → Xc "java/lang/IllegalArgumentException" h') : w_X11_law (A 11) h Q Xc := by
  dsimp only [w_X11_law, w_X11_need, w_X11_needRoom]
  refine fP (o := 11) H H.b rfl rfl ?_
  refine vG (o := 6) H H.b rfl ?_
  have st : ∀ id, id ∈ rSL → stR id = false := by decide
  refine c_readsLaw H C hn hB (fun L e X1 h1 H1 o1 D l4 => ?_) (fun e z X1 h1 H1 o1 F => br_T rfl (k3 e z X1 h1 H1 o1 F.1 F.2 (R.offL o1 st)))
  refine br_F nz_1 ?_
  have R1 := R.offL o1 st
  refine fP (o := 11) H1 H1.b rfl rfl ?_
  refine fC_ (o := 7) H1 R1 H1.b rfl rfl ?_
  rw [hN]
  refine br_Lt (b := 4) (by omega) (by decide) (fun d => ?_) (fun d => k2 L e (by omega) X1 h1 H1 o1 D.1 D.2.1 R1)
  refine fP (o := 11) H1 H1.b rfl rfl ?_
  refine fP (o := 11) H1 H1.b rfl rfl ?_
  refine vG (o := 6) H1 H1.b rfl ?_
  refine c_program H1 D (by omega) (fun p s q h2 x fp fs fq hsq O => ?_)
  have H2 := x.g H1
  refine vG (o := 7) H2 H2.b rfl ?_
  dsimp only [w_X7_addLaw]
  refine fP (o := 7) H2 H2.b rfl rfl ?_
  refine fC_ (o := 7) H2 R1 H2.b rfl rfl ?_
  rw [hN]
  refine ⟨H2.kd (o := 805) (a := 23) H2.b rfl, ?_, fun b hb => by cases hb; exact O.1, ?_⟩
  · rw [H2.ln (o := 805) (a := 4) (b := 4) H2.b rfl]
    exact vp_in_nI d (by decide)
  · rw [nI_clamp (by omega)]
    have e1 : slO N = (805, N) := if_pos d
    have P3 := (P.g hr H1).add hr H1 x fp fs fq hsq O (u := N) (by omega) hV
    rw [e1] at P3
    have H3 := H2.sP (o := 805) (k := N) ⟨by decide, H2.b⟩ (by
      have := (slO_row N (by omega)).2.2
      rw [e1] at this
      exact this) (some p)
    have bf := bfX x H1 (A 805) N (some p)
    dsimp only at P3
    generalize sP h2 (A 805) N (some p) = h3 at *
    refine fC_ (o := 7) H3 R1 H3.b rfl rfl ?_
    rw [hN]
    refine uC (o := 7) H3 R1 H3.b rfl rfl (fun h4_ H4 R4 => ?_)
    refine fC_ (o := 7) H4 R4 H4.b rfl rfl ?_
    rw [va_up_self]
    rw [← nI_succ] at R4 H4 ⊢
    rw [nI_pred]
    refine k1 L e d p s q _ h3 h4_ H4 bf P3 (fun id m hi hm => ?_) ?_ ?_ R4
    · by_cases c : id = 7
      · subst c
        rw [up_n _ _ _ (fun z => hm ⟨rfl, z⟩)]
        exact congrFun (o1 7 hi) m
      · rw [up_row _ _ _ c]
        exact congrFun (o1 id hi) m
    · rw [up_row _ _ _ (by decide)]; exact D.1
    · rw [up_row _ _ _ (by decide)]; exact D.2.1
theorem c_story (H : G A S h0 X h) (R : CR X wd) (C : TC X B n) (hn : n ≤ 400) (hB : ∀ i, i < n → B i < 256) (P : PGx A S h0 nr V E ps ss qs) (hr : nr ≤ 18) (h9 : 9 ≤ nr) (hN : wd 6 = nI N) (h5 : N ≤ 5) (hV : ¬ V (4 + N)) {v : Int32}
    (k1 : ∀ t, pStory (tkH B n) true = .ok t → 1 ≤ v → v ≤ 99 → N < 5 → ∀ p s q X' hb h', G A S hb X' h' → BF (A 807) h0 hb → PGx A S hb nr (fun i => V i ∨ i = 4 + N) (va_up E (4 + N) (enc t ++ [10001])) (va_up ps (4 + N) p) (va_up ss (4 + N) s) (va_up qs (4 + N) q) → (∀ id m, id ∉ rSL → ¬ (id = 7 ∧ m = 9) → ¬ (id = 808 ∧ m = N) → X' id m = X id m) → X' 6 1 = 0 → X' 6 2 = -1 → CR X' (va_up (va_up wd (1161 + N) v) 6 (nI (N + 1))) → Q (nI N) h')
    (k2 : ∀ s, pStory (tkH B n) true = .ok s → 1 ≤ v → v ≤ 99 → N = 5 → ∀ X' h', G A S h0 X' h' → Off rSL X X' → X' 6 1 = 0 → X' 6 2 = -1 → CR X' wd → Xc "java/lang/UnsupportedOperationException" h')
    (k3 : ∀ s, pStory (tkH B n) true = .ok s → (v < 1 ∨ 99 < v) → ∀ X' h', G A S h0 X' h' → Off rSL X X' → X' 6 1 = 0 → X' 6 2 = -1 → CR X' wd → Xc "java/lang/IllegalArgumentException" h')
    (k4 : ∀ e, pStory (tkH B n) true = .error e → ∀ X' h', G A S h0 X' h' → Off rSL X X' → X' 6 1 = 0 → X' 6 2 = nI (tkB B n e) → CR X' wd → Xc "java/lang/IllegalArgumentException" h') : w_X11_story (A 11) v h Q Xc := by
  dsimp only [w_X11_story, w_X11_story_24, w_X11_story_25, w_X11_need, w_X11_needRoom, w_X11_isWithin, w_X11_isWithin_14, w_X11_isWithin_15]
  refine fP (o := 11) H H.b rfl rfl ?_
  refine vG (o := 6) H H.b rfl ?_
  have st : ∀ id, id ∈ rSL → stR id = false := by decide
  refine c_readsStory H C hn hB (fun t e X1 h1 H1 o1 D l4 => ?_) (fun e z X1 h1 H1 o1 F => br_T rfl (br_T rfl (k4 e z X1 h1 H1 o1 F.1 F.2 (R.offL o1 st))))
  refine br_F nz_1 ?_
  have R1 := R.offL o1 st
  refine br_if (fun w => ⟨Or.inl rfl, br_T rfl (br_T rfl (k3 t e (Or.inl w) X1 h1 H1 o1 D.1 D.2.1 R1))⟩) (fun w => ?_)
  refine br_if (fun w2 => ⟨Or.inl rfl, br_T rfl (br_T rfl (k3 t e (Or.inr w2) X1 h1 H1 o1 D.1 D.2.1 R1))⟩) (fun w2 => ?_)
  refine ⟨Or.inr rfl, br_F nz_1 (br_F nz_1 ?_)⟩
  have v1 : 1 ≤ v := Int32.not_lt.mp w
  have v2 : v ≤ 99 := Int32.not_lt.mp w2
  refine fP (o := 11) H1 H1.b rfl rfl ?_
  refine fC_ (o := 7) H1 R1 H1.b rfl rfl ?_
  rw [hN]
  refine br_Lt (b := 5) (by omega) (by decide) (fun d => ?_) (fun d => k2 t e v1 v2 (by omega) X1 h1 H1 o1 D.1 D.2.1 R1)
  refine fP (o := 11) H1 H1.b rfl rfl ?_
  refine fP (o := 11) H1 H1.b rfl rfl ?_
  refine vG (o := 6) H1 H1.b rfl ?_
  refine c_program H1 D l4 (fun p s q h2 x fp fs fq hsq O => ?_)
  have H2 := x.g H1
  refine vG (o := 7) H2 H2.b rfl ?_
  dsimp only [w_X7_addStory]
  refine fP (o := 7) H2 H2.b rfl rfl ?_
  refine fC_ (o := 7) H2 R1 H2.b rfl rfl ?_
  rw [hN]
  refine ⟨H2.kd (o := 807) (a := 23) H2.b rfl, ?_, fun b hb => by cases hb; exact O.1, ?_⟩
  · rw [H2.ln (o := 807) (a := 4) (b := 5) H2.b rfl]
    exact vp_in_nI d (by decide)
  · rw [nI_clamp (by omega)]
    have e1 : slO (4 + N) = (807, N) := by
      unfold slO
      rw [if_neg (by omega), if_pos (by omega), Nat.add_sub_cancel_left]
    have P3 := (P.g hr H1).add hr H1 x fp fs fq hsq O (u := 4 + N) (by omega) hV
    rw [e1] at P3
    have H3 := H2.sP (o := 807) (k := N) ⟨by decide, H2.b⟩ (by
      have := (slO_row (4 + N) (by omega)).2.2
      rw [e1] at this
      exact this) (some p)
    have bf := bfX x H1 (A 807) N (some p)
    dsimp only at P3
    generalize sP h2 (A 807) N (some p) = h3 at *
    refine fP (o := 7) H3 H3.b rfl rfl ?_
    refine fC_ (o := 7) H3 R1 H3.b rfl rfl ?_
    rw [hN]
    refine tC (id := 808) H3 R1 H3.b rfl (by decide) rfl rfl d (fun h5_ H5 R5 => ?_)
    rw [Nat.one_mul] at R5
    have hN5 : va_up wd (1161 + N) v 6 = nI N := by rw [va_ne (by omega)]; exact hN
    refine fC_ (o := 7) H5 R5 H5.b rfl rfl ?_
    rw [hN5]
    refine uC (o := 7) H5 R5 H5.b rfl rfl (fun h4_ H4 R4 => ?_)
    refine fC_ (o := 7) H4 R4 H4.b rfl rfl ?_
    rw [va_up_self]
    rw [← nI_succ] at R4 H4 ⊢
    rw [nI_pred]
    refine k1 t e v1 v2 d p s q _ h3 h4_ H4 bf P3 (fun id m hi hm hm2 => ?_) ?_ ?_ R4
    · by_cases c : id = 7
      · subst c
        rw [up_n _ _ _ (fun z => hm ⟨rfl, z⟩), up_row _ _ _ (by decide)]
        exact congrFun (o1 7 hi) m
      · rw [up_row _ _ _ c]
        by_cases c2 : id = 808
        · subst c2
          rw [up_n _ _ _ (fun z => hm2 ⟨rfl, z⟩)]
          exact congrFun (o1 808 hi) m
        · rw [up_row _ _ _ c2]
          exact congrFun (o1 id hi) m
    · rw [up_row _ _ _ (by decide), up_row _ _ _ (by decide)]; exact D.1
    · rw [up_row _ _ _ (by decide), up_row _ _ _ (by decide)]; exact D.2.1
end CPRG
