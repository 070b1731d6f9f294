/-! law and story: the class's wrappers -/
theorem BF.hj {r : Nat} {h0 h h1 : AH} (b : BF r h0 h) (j : hJ h h1) : BF r h0 h1 := ⟨fun c hc => by
  obtain ⟨q1, q2, q3⟩ := b.1 c hc
  exact ⟨(congrFun j.1 c).trans q1, (congrFun j.2.1 c).trans q2, fun z => (congrFun j.2.2.2.1 c).trans (q3 z)⟩, (congrArg Prod.fst j.2.2.2.2).trans b.2.1, (congrArg Prod.snd j.2.2.2.2).trans b.2.2⟩
theorem BF.j3 {r : Nat} {h0 h : AH} {a3 : Nat} (b : BF r h0 h) (J : J3 h0 a3) : J3 h a3 := by
  obtain ⟨q1, q2, -⟩ := b.1 a3 (by rw [J.1]; decide)
  exact ⟨q1.trans J.1, q2.trans J.2⟩
section LPRG
variable {A : Nat → Nat} {S : Nat → Prop} {h0 h : AH} {X : Nat → Nat → Int32} {wd : Nat → Int32} {B : Nat → Nat} {n N nr a3 : Nat} {V : Nat → Prop} {E : Nat → List Nat} {ps ss qs : Nat → Nat} {Q : Int32 → AH → Prop}
theorem L_law (H : G A S h0 X h) (R : CR X wd) (J : J3 h0 a3) (C : TC X B n) (hn : n ≤ 400) (hB : ∀ i, i < n → B i < 256) (P : PGx A S h0 nr V E ps ss qs) (hr : nr ≤ 18) (h9 : 9 ≤ nr) (hN : wd 2 = nI N) (h4 : N ≤ 4) (hV : ¬ V N)
    (k1 : ∀ L, pLaw (tkH B n) false = .ok L → N < 4 → ∀ p s q X' hb h', G A S hb X' h' → BF (A 805) h0 hb → PGx A S hb nr (fun i => V i ∨ i = N) (va_up E N (lwE L)) (va_up ps N p) (va_up ss N s) (va_up qs N q) → (∀ id m, id ∉ rSL → ¬ (id = 7 ∧ m = 6) → X' id m = X id m) → X' 6 1 = 0 → X' 6 2 = -1 → CR X' (va_up wd 2 (nI (N + 1))) → gJ h' a3 0 = (nI N).toInt64 → Q 0 h')
    (k2 : ∀ L, pLaw (tkH B n) false = .ok L → N = 4 → ∀ X' h', G A S h0 X' h' → Off rSL X X' → X' 6 1 = 0 → X' 6 2 = -1 → CR X' wd → Q 2 h')
    (k3 : ∀ e, pLaw (tkH B n) false = .error e → ∀ X' h', G A S h0 X' h' → Off rSL X X' → X' 6 1 = 0 → X' 6 2 = nI (tkB B n e) → CR X' wd → Q 1 h') : w_L_law (A 11) a3 h Q := by
  dsimp only [w_L_law, w_L_law_14, w_L_law_11]
  refine vG (o := 11) H H.b rfl ?_
  refine c_law H R C hn hB P hr h9 hN h4 hV (fun L e d p s q X' hb h' H' b P' f x1 x2 R' => ?_) (fun L e d X' h' H' o x1 x2 R' => ?_) (fun e z X' h' H' o x1 x2 R' => ?_)
  · exact tJG H' (b.j3 J) (fun h1 h2 H2 j1 j2 => k1 L e d p s q X' h1 h2 H2 (b.hj j1) (P'.hj hr H' j1) f x1 x2 R' j2)
  · exact br_F (by decide) (br_T rfl (fun _ => k2 L e d X' h' H' o x1 x2 R'))
  · exact br_T rfl (fun _ => k3 e z X' h' H' o x1 x2 R')
theorem L_story (H : G A S h0 X h) (R : CR X wd) (J : J3 h0 a3) (C : TC X B n) (hn : n ≤ 400) (hB : ∀ i, i < n → B i < 256) (P : PGx A S h0 nr V E ps ss qs) (hr : nr ≤ 18) (h9 : 9 ≤ nr) (hN : wd 6 = nI N) (h5 : N ≤ 5) (hV : ¬ V (4 + N)) {v : Int32}
    (k1 : ∀ t, pStory (tkH B n) true = .ok t → 1 ≤ v → v ≤ 99 → N < 5 → ∀ p s q X' hb h', G A S hb X' h' → BF (A 807) h0 hb → PGx A S hb nr (fun i => V i ∨ i = 4 + N) (va_up E (4 + N) (enc t ++ [10001])) (va_up ps (4 + N) p) (va_up ss (4 + N) s) (va_up qs (4 + N) q) → (∀ id m, id ∉ rSL → ¬ (id = 7 ∧ m = 9) → ¬ (id = 808 ∧ m = N) → X' id m = X id m) → X' 6 1 = 0 → X' 6 2 = -1 → CR X' (va_up (va_up wd (1161 + N) v) 6 (nI (N + 1))) → gJ h' a3 0 = (nI N).toInt64 → Q 0 h')
    (k2 : ∀ s, pStory (tkH B n) true = .ok s → 1 ≤ v → v ≤ 99 → N = 5 → ∀ X' h', G A S h0 X' h' → Off rSL X X' → X' 6 1 = 0 → X' 6 2 = -1 → CR X' wd → Q 2 h')
    (k3 : ∀ s, pStory (tkH B n) true = .ok s → (v < 1 ∨ 99 < v) → ∀ X' h', G A S h0 X' h' → Off rSL X X' → X' 6 1 = 0 → X' 6 2 = -1 → CR X' wd → Q 1 h')
    (k4 : ∀ e, pStory (tkH B n) true = .error e → ∀ X' h', G A S h0 X' h' → Off rSL X X' → X' 6 1 = 0 → X' 6 2 = nI (tkB B n e) → CR X' wd → Q 1 h') : w_L_story (A 11) v a3 h Q := by
  dsimp only [w_L_story, w_L_story_15, w_L_story_12]
  refine vG (o := 11) H H.b rfl ?_
  refine c_story H R C hn hB P hr h9 hN h5 hV (fun t e v1 v2 d p s q X' hb h' H' b P' f x1 x2 R' => ?_) (fun t e v1 v2 d X' h' H' o x1 x2 R' => ?_) (fun t e v1 X' h' H' o x1 x2 R' => ?_) (fun e z X' h' H' o x1 x2 R' => ?_)
  · exact tJG H' (b.j3 J) (fun h1 h2 H2 j1 j2 => k1 t e v1 v2 d p s q X' h1 h2 H2 (b.hj j1) (P'.hj hr H' j1) f x1 x2 R' j2)
  · exact br_F (by decide) (br_T rfl (fun _ => k2 t e v1 v2 d X' h' H' o x1 x2 R'))
  · exact br_T rfl (fun _ => k3 t e v1 X' h' H' o x1 x2 R')
  · exact br_T rfl (fun _ => k4 e z X' h' H' o x1 x2 R')
end LPRG
