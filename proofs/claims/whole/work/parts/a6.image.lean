/-! image and back: the class -/
def LZ (a11 a12 a3 : Nat) (A : Nat → Nat) (S : Nat → Prop) (h0 : AH) (nr : Nat) (V : Nat → Prop) (E : Nat → List Nat) : Prop :=
  A 11 = a11 ∧ A 12 = a12 ∧ J3 h0 a3 ∧ nr ≤ 18 ∧ (∃ ps ss qs, PGx A S h0 nr V E ps ss qs) ∧ WP A S h0 ∧ ((¬ S 2 ∧ gP h0 (A 11) 5 = none ∧ nr = 9) ∨ (S 2 ∧ gP h0 (A 11) 5 = some (A 5007) ∧ nr = 18))
section IMAGE
variable {A : Nat → Nat} {S : Nat → Prop} {h0 h : AH} {X : Nat → Nat → Int32} {wd : Nat → Int32} {nr a11 a12 a3 : Nat} {V : Nat → Prop} {E : Nat → List Nat} {ps ss qs : Nat → Nat} {Q : Int32 → AH → Prop} {Qv : AH → Prop}
theorem G.k11 (H : G A S h0 X h) : gK h0 (A 11) = 12 := (H.1.2.1 11 (lv11 H.b)).1
theorem BG.p11 {hb : AH} (b : BG h0 hb) (H : G A S h0 X h) (k : Nat) : gP hb (A 11) k = gP h0 (A 11) k := by
  rw [(b.1 (A 11) (by rw [H.k11]; decide)).2.2 (by rw [H.k11]; decide)]
theorem LZ.bg {hb : AH} {V' : Nat → Prop} {E' : Nat → List Nat} (L : LZ a11 a12 a3 A S h0 nr V E) (H : G A S h0 X h) (b : BG h0 hb) (P : PGx A S hb nr V' E' ps ss qs) : LZ a11 a12 a3 A S hb nr V' E' := by
  obtain ⟨l1, l2, l3, l4, l5, l6, l7⟩ := L
  refine ⟨l1, l2, b.j3 l3, l4, ⟨ps, ss, qs, P⟩, ?_, ?_⟩
  · unfold WP
    rw [b.p11 H]
    exact l6
  · rw [b.p11 H]
    exact l7
theorem LZ.hj {hb : AH} (L : LZ a11 a12 a3 A S h0 nr V E) (H : G A S h0 X h) (j : hJ h0 hb) : LZ a11 a12 a3 A S hb nr V E := by
  obtain ⟨ps, ss, qs, P⟩ := L.2.2.2.2.1
  exact L.bg H (BG.hj j) (P.hj L.2.2.2.1 H j)
theorem lv_12 (h : S 0) : lv S 12 := ⟨by decide, h⟩
theorem lv_5007 (h : S 2) : lv S 5007 := ⟨by decide, h⟩
theorem LZ.way {A' : Nat → Nat} {S' : Nat → Prop} {h1 : AH} (L : LZ a11 a12 a3 A S h0 nr V E) (H : G A S h0 X h) (b : BE A S h0 A' S' h1) (wp : WP A' S' h1) (p5 : gP h1 (A 11) 5 = gP h0 (A 11) 5) (hS : ∀ i, i ≠ 1 → (S' i ↔ S i)) : LZ a11 a12 a3 A' S' h1 nr V E := by
  obtain ⟨l1, l2, l3, l4, ⟨ps, ss, qs, P⟩, l6, l7⟩ := L
  have e11 := b.1 11 (lv11 H.b)
  refine ⟨e11.trans l1, (b.1 12 (lv_12 H.b)).trans l2, b.J l3, l4, ⟨ps, ss, qs, P.be l4 H b⟩, wp, ?_⟩
  rw [e11, p5]
  rcases l7 with ⟨q1, q2, q3⟩ | ⟨q1, q2, q3⟩
  · exact Or.inl ⟨fun z => q1 ((hS 2 (by decide)).mp z), q2, q3⟩
  · exact Or.inr ⟨(hS 2 (by decide)).mpr q1, by rw [b.1 5007 (lv_5007 q1)]; exact q2, q3⟩
theorem PGx.ext {h : AH} (P : PGx A S h 9 V E ps ss qs) (f : ∀ u, 9 ≤ u → u < 18 → lv S (slO u).1 ∧ gP h (A (slO u).1) (slO u).2 = none) : PGx A S h 18 V E ps ss qs := by
  refine ⟨fun u hu => Nat.lt_of_lt_of_le (P.1 u hu) (by decide), fun u hu => ?_, P.2.2⟩
  by_cases c : u < 9
  · exact P.2.1 u c
  · obtain ⟨f1, f2⟩ := f u (by omega) hu
    exact ⟨f1, fun b hb => by rw [f2] at hb; cases hb⟩
theorem c_image18 (H : G A S h0 X h) (R : CR X wd) (L : LZ a11 a12 a3 A S h0 18 V E) (hS : S 2) (k : ∀ hb X' h', G A S hb X' h' → LZ a11 a12 a3 A S hb 18 (cpF 9 0 V 9) (cpF 9 0 E 9) → (∀ id, id < 5000 → X' id = X id) → CR (fun id => X' (id + 5000)) wd → Qv h') : w_X11_image_18 (A 11) h Qv := by
  have L0 := L
  obtain ⟨l1, l2, l3, l4, ⟨ps, ss, qs, P⟩, l6, l7⟩ := L
  have w1 : gP h0 (A 11) 5 = some (A 5007) := by
    rcases l7 with ⟨q1, q2, q3⟩ | ⟨q1, q2, q3⟩
    · exact absurd hS q1
    · exact q2
  dsimp only [w_X11_image_18]
  refine fO11 H w1 ⟨_, rfl, ?_⟩
  refine fP (o := 11) H H.b rfl rfl ?_
  refine vG (o := 5007) H hS rfl ?_
  refine c_becK H hS P (fun hb X' h' H' P' b B => ?_)
  refine k hb X' h' H' (L0.bg H b P') (fun id hd => B.2 id ?_) (BC.cr B R)
  exact decide_eq_false (by omega)
theorem kept_hi : ∀ i, i ∈ nwKeptL → 5000 ≤ i := by decide +kernel
theorem slO_k : ∀ u, 9 ≤ u → u < 18 → (slO u).1 = 5805 ∨ (slO u).1 = 5807 := by
  have : ∀ u, u < 18 → 9 ≤ u → (slO u).1 = 5805 ∨ (slO u).1 = 5807 := by decide +kernel
  exact fun u a b => this u b a
theorem c_image (H : G A S h0 X h) (R : CR X wd) (L : LZ a11 a12 a3 A S h0 nr V E) (k : ∀ A' S' hb X' h', G A' S' hb X' h' → LZ a11 a12 a3 A' S' hb 18 (cpF 9 0 V 9) (cpF 9 0 E 9) → (∀ id, id < 5000 → X' id = X id) → CR (fun id => X' (id + 5000)) wd → Qv h') : w_X11_image (A 11) h Qv := by
  have L0 := L
  obtain ⟨l1, l2, l3, l4, ⟨ps, ss, qs, P⟩, l6, l7⟩ := L
  dsimp only [w_X11_image]
  rcases l7 with ⟨n1, w1, hr⟩ | ⟨n1, w1, hr⟩
  · subst hr
    refine fO11 H w1 (br_T rfl ?_)
    have hD : ∀ id, lv S id → gK h (A id) ≠ 0 := fun id hd => H.k0 hd
    have nl : ∀ id, id ∈ nwKeptL → ¬ lv S id := fun id hi => new_lv (by decide +kernel) kept_ids n1 hi
    refine al_O (AL.rf hD) (id := 5007) rfl (by decide) (nl 5007 (by decide)) (by decide) (fun a1 h1 A1 => ?_)
    refine al_c7k A1 (va_up_self _ _ _).symm (by decide) (fun j hj => ⟨nl j (mem_sub (by decide) hj), fun z => absurd hj (by rw [List.mem_singleton.mp z]; decide)⟩) (fun A2 h2 H2 e2 => ?_)
    have a5 : a1 = A2 5007 := by rw [e2 5007 (by decide), va_up_self]
    have a11e : A2 11 = A 11 := by rw [e2 11 (by decide), va_ne (by decide)]
    have hl := lv_add (S := S) (L := nwKeptL) (by decide +kernel) kept_ids
    have G2 := G.grow (S' := fun j => S j ∨ j = 2) H H2 (Or.inl H.b) hl (fun o ho k t hp => pt_mem (by decide +kernel) ho hp)
    have B2 := BE.al (S' := fun j => S j ∨ j = 2) H H2 (fun i hi => Or.inl hi) hl
    have k11 : gK h2 (A 11) = 12 := by rw [← a11e]; exact G2.kd (o := 11) (a := 11) (Or.inl H.b) rfl
    refine ⟨k11, ?_⟩
    have l11 : lv (fun j => S j ∨ j = 2) 11 := ⟨by decide, Or.inl H.b⟩
    have G3 := G2.sP (o := 11) (k := 5) l11 rfl (some a1)
    rw [a11e] at G3
    have B3 := B2.sP11 (k := 5) (r := some a1)
    have X2 : ∀ id, id < 5000 → gX nwKeptL X nwKeptW id = X id := fun id hd => gX_off id (fun z => absurd (kept_hi id z) (by omega))
    have R2 : CR (gX nwKeptL X nwKeptW) wd := R.offL gX_off (by decide)
    have p5 : gP (sP h2 (A 11) 5 (some a1)) (A2 11) 5 = some (A2 5007) := by rw [a11e, sP_eq, va_up_self, a5]
    have p4 : gP (sP h2 (A 11) 5 (some a1)) (A2 11) 4 = gP h0 (A 11) 4 := by
      rw [a11e, sP_eq, va_ne (by decide), ← H.2.2.2.1]
      exact congrFun (H2.1.1 (A 11) (hD 11 (lv11 H.b))).2.2.2 4
    have fr : ∀ u, 9 ≤ u → u < 18 → lv (fun j => S j ∨ j = 2) (slO u).1 ∧ gP (sP h2 (A 11) 5 (some a1)) (A2 (slO u).1) (slO u).2 = none := fun u u1 u2 => by
      have m : (slO u).1 ∈ nwKeptL := by
        rcases slO_k u u1 u2 with e | e
        · rw [e]; decide
        · rw [e]; decide
      refine ⟨(hl _).mpr (Or.inr m), ?_⟩
      rw [sP_ne]
      · exact (H2.2.2.1 _ m).2.2.2.2.2.2 _ (slO_row u u2).2.2
      · intro z
        exact (H2.2.2.1 _ m).2.1.symm.trans (congrArg (gK h) z) |> fun y => hD 11 (lv11 H.b) y.symm
    have P3 := (P.be (by decide) H B3).ext fr
    have wp : WP A2 (fun j => S j ∨ j = 2) (sP h2 (A 11) 5 (some a1)) := by
      unfold WP
      rw [p4]
      rcases l6 with ⟨q1, q2⟩ | ⟨q1, q2⟩
      · exact Or.inl ⟨fun z => z.elim q1 (by decide), q2⟩
      · exact Or.inr ⟨Or.inl q1, by rw [B3.1 10 ⟨by decide, q1⟩]; exact q2⟩
    have L3 : LZ a11 a12 a3 A2 (fun j => S j ∨ j = 2) (sP h2 (A 11) 5 (some a1)) 18 V E := ⟨a11e.trans l1, (B3.1 12 (lv_12 H.b)).trans l2, B3.J l3, by decide, ⟨ps, ss, qs, P3⟩, wp, Or.inr ⟨Or.inr rfl, p5, rfl⟩⟩
    generalize sP h2 (A 11) 5 (some a1) = hb at G3 L3 ⊢
    rw [← a11e]
    refine c_image18 G3 R2 L3 (Or.inr rfl) (fun hc X' h' H' L' f' R' => ?_)
    exact k A2 _ hc X' h' H' L' (fun id hd => (f' id hd).trans (X2 id hd)) R'
  · subst hr
    refine fO11 H w1 (br_F (fun z => by cases z) ?_)
    exact c_image18 H R L0 n1 (fun hb X' h' H' L' f' R' => k A S hb X' h' H' L' f' R')
theorem c_back (H : G A S h0 X h) (L : LZ a11 a12 a3 A S h0 nr V E) (k1 : nr = 9 → Q 0 h) (k2 : nr = 18 → ∀ hb X' h', G A S hb X' h' → LZ a11 a12 a3 A S hb 18 (cpF 0 9 V 9) (cpF 0 9 E 9) → BC 0 5000 stR X X' bcL → Q 1 h') : w_X11_back (A 11) h Q := by
  have L0 := L
  obtain ⟨l1, l2, l3, l4, ⟨ps, ss, qs, P⟩, l6, l7⟩ := L
  dsimp only [w_X11_back]
  rcases l7 with ⟨n1, w1, hr⟩ | ⟨n1, w1, hr⟩
  · exact fO11 H w1 (br_T rfl (k1 hr))
  · subst hr
    refine fO11 H w1 (br_F (fun z => by cases z) ?_)
    refine fP (o := 11) H H.b rfl rfl ?_
    refine fO11 H w1 ⟨_, rfl, ?_⟩
    refine vG (o := 7) H H.b rfl ?_
    refine c_becB H n1 P (fun hb X' h' H' P' b B => ?_)
    exact k2 rfl hb X' h' H' (L0.bg H b P') B
end IMAGE
