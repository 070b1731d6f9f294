/-! programs of the field and of the kept state: where they lie -/
def slO (u : Nat) : Nat × Nat := if u < 4 then (805, u) else if u < 9 then (807, u - 4) else if u < 13 then (5805, u - 9) else (5807, u - 13)
theorem slO_inj : ∀ {u v : Nat}, slO u = slO v → u < 18 → v < 18 → u = v := by
  intro u v e hu hv
  have : ∀ a, a < 18 → ∀ b, b < 18 → slO a = slO b → a = b := by decide +kernel
  exact this u hu v hv e
theorem slO_row : ∀ u, u < 18 → (slO u).1 ≠ 11 ∧ (∃ n, tk (slO u).1 = (24, n) ∧ (slO u).2 < n) ∧ pt (slO u).1 (slO u).2 = none := by
  have : ∀ u, u < 18 → (slO u).1 ≠ 11 ∧ ((tk (slO u).1).1 = 24 ∧ (slO u).2 < (tk (slO u).1).2) ∧ pt (slO u).1 (slO u).2 = none := by decide +kernel
  intro u hu
  obtain ⟨a, ⟨b, c⟩, d⟩ := this u hu
  exact ⟨a, ⟨_, Prod.ext b rfl, c⟩, d⟩
def PGx (A : Nat → Nat) (S : Nat → Prop) (h : AH) (nr : Nat) (V : Nat → Prop) (E : Nat → List Nat) (ps ss qs : Nat → Nat) : Prop :=
  (∀ u, V u → u < nr) ∧ (∀ u, u < nr → lv S (slO u).1 ∧ ∀ b, gP h (A (slO u).1) (slO u).2 = some b → gK h b = 6) ∧ (∀ u, V u → gP h (A (slO u).1) (slO u).2 = some (ps u) ∧ PO1 h (ps u) (ss u) (qs u) (E u) ∧ ∀ id, lv S id → A id ≠ ps u ∧ A id ≠ ss u ∧ A id ≠ qs u) ∧ ∀ u v, V u → V v → ss u ≠ qs v
theorem PGx.to {A A' : Nat → Nat} {S S' : Nat → Prop} {h h' : AH} {nr : Nat} {V : Nat → Prop} {E : Nat → List Nat} {ps ss qs : Nat → Nat} (P : PGx A S h nr V E ps ss qs) (hnr : nr ≤ 18) (h11 : lv S 11) (hin : ∀ i j, lv S i → lv S j → A i = A j → i = j) (hk : ∀ id, lv S id → gK h (A id) ≠ 0) (a : ∀ id, lv S id → A' id = A id) (b : ∀ id, lv S' id → lv S id ∨ gK h (A' id) = 0) (c : ∀ id, lv S id → lv S' id) (d : ∀ b, gK h b ≠ 0 → gK h' b = gK h b ∧ gL h' b = gL h b ∧ (b ≠ A 11 → gP h' b = gP h b)) (e : ∀ u, V u → gI h' (ss u) = gI h (ss u)) : PGx A' S' h' nr V E ps ss qs := by
  obtain ⟨p1, p2, p3, p4⟩ := P
  have row : ∀ u, u < nr → A' (slO u).1 = A (slO u).1 ∧ gP h' (A (slO u).1) = gP h (A (slO u).1) := fun u hu => by
    have l := (p2 u hu).1
    refine ⟨a _ l, (d _ (hk _ l)).2.2 (fun z => ?_)⟩
    exact (slO_row u (by omega)).1 (hin _ _ l h11 z)
  have k6 : ∀ {b}, gK h b = 6 → gK h b ≠ 0 := fun z => by rw [z]; decide
  refine ⟨p1, fun u hu => ⟨c _ (p2 u hu).1, fun b' hb => ?_⟩, fun u hu => ?_, p4⟩
  · obtain ⟨r1, r2⟩ := row u hu
    rw [r1, r2] at hb
    have z := (p2 u hu).2 b' hb
    rw [(d b' (k6 z)).1]
    exact z
  · obtain ⟨q1, ⟨o1, o2, o3, o4, o5, o6, o7, o8⟩, q3⟩ := p3 u hu
    obtain ⟨r1, r2⟩ := row u (p1 u hu)
    have n11 : ps u ≠ A 11 := fun z => (q3 11 h11).1 z.symm
    obtain ⟨d1, d2, d3⟩ := d (ps u) (k6 o1)
    obtain ⟨e1, e2, -⟩ := d (ss u) (by rw [o4]; decide)
    obtain ⟨f1, f2, -⟩ := d (qs u) (by rw [o7]; decide)
    refine ⟨by rw [r1, r2]; exact q1, ⟨d1.trans o1, by rw [d3 n11]; exact o2, by rw [d3 n11]; exact o3, e1.trans o4, e2.trans o5, fun j hj => by rw [e u hu]; exact o6 j hj, f1.trans o7, f2.trans o8⟩, fun id hd => ?_⟩
    rcases b id hd with y | y
    · rw [a id y]
      exact q3 id y
    · refine ⟨fun z => ?_, fun z => ?_, fun z => ?_⟩
      · rw [z, o1] at y; cases y
      · rw [z, o4] at y; cases y
      · rw [z, o7] at y; cases y
section PGS
variable {A : Nat → Nat} {S : Nat → Prop} {h0 h : AH} {X : Nat → Nat → Int32} {nr : Nat} {V : Nat → Prop} {E : Nat → List Nat} {ps ss qs : Nat → Nat}
theorem G.k0 (H : G A S h0 X h) {id : Nat} (hd : lv S id) : gK h (A id) ≠ 0 := by
  rw [H.2.1, (H.1.2.1 id hd).1]
  exact hd.1
/-- no step on rows of the table touches them -/
theorem PGx.g (P : PGx A S h0 nr V E ps ss qs) (hnr : nr ≤ 18) (H : G A S h0 X h) : PGx A S h nr V E ps ss qs := by
  have P3 := P.2.2.1
  refine P.to hnr (lv11 H.b) H.1.2.2.2 (fun id hd => by rw [(H.1.2.1 id hd).1]; exact hd.1) (fun _ _ => rfl) (fun _ z => Or.inl z) (fun _ z => z) (fun b _ => ?_) (fun u hu => ?_)
  · rw [H.2.1, H.2.2.1, H.2.2.2.1]
    exact ⟨rfl, rfl, fun _ => rfl⟩
  · exact H.2.2.2.2.2.2 _ (fun id hd z => ((P3 u hu).2.2 id hd).2.1 z.symm)
theorem PGx.xf {h' : AH} (P : PGx A S h nr V E ps ss qs) (hnr : nr ≤ 18) (H : G A S h0 X h) (x : XF h h') : PGx A S h' nr V E ps ss qs := by
  have P3 := P.2.2.1
  refine P.to hnr (lv11 H.b) H.1.2.2.2 (fun id hd => H.k0 hd) (fun _ _ => rfl) (fun _ z => Or.inl z) (fun _ z => z) (fun b hb => ?_) (fun u hu => ?_)
  · obtain ⟨q1, q2, q3, q4⟩ := x.1 b hb
    exact ⟨q1, q2, fun _ => q4⟩
  · exact (x.1 _ (by rw [(P3 u hu).2.1.2.2.2.1]; decide)).2.2.1
theorem PGx.be {A' : Nat → Nat} {S' : Nat → Prop} {h1 : AH} (P : PGx A S h0 nr V E ps ss qs) (hnr : nr ≤ 18) (H : G A S h0 X h) (b : BE A S h0 A' S' h1) : PGx A' S' h1 nr V E ps ss qs := by
  obtain ⟨b1, b2, b3, b4, b5⟩ := b
  have P3 := P.2.2.1
  refine P.to hnr (lv11 H.b) H.1.2.2.2 (fun id hd => by rw [(H.1.2.1 id hd).1]; exact hd.1) b1 b4 (fun _ z => lv_mono b2 z) (fun b hb => ?_) (fun u hu => ?_)
  · obtain ⟨q1, q2, q3, q4⟩ := b3 b hb
    exact ⟨q1, q2, q3⟩
  · exact (b3 _ (by rw [(P3 u hu).2.1.2.2.2.1]; decide)).2.2.2 (fun id hd z => ((P3 u hu).2.2 id hd).2.1 z.symm)
theorem PXf.g {h' : AH} {p q : Nat} (x : PXf h h' p q) (H : G A S h0 X h) (hp : ∀ id, lv S id → A id ≠ p ∧ A id ≠ q) : G A S h' X h' := by
  obtain ⟨x1, x2, x3, x4, x5⟩ := x
  obtain ⟨⟨h1, h2, h3, h4⟩, g1, g2, g3, g4, g5, g6⟩ := H
  refine G.self ⟨h1, fun id hd => ?_, fun o k t ho hq => ?_, h4⟩ (fun id hd => ?_)
  · rw [x1, x2, g1, g2]
    exact h2 id hd
  · rw [x3, g3]
    exact h3 o k t ho hq
  · rw [x5 _ (hp id hd).1 (hp id hd).2]
    exact g5 id hd
theorem PGx.pxf {h' : AH} {u : Nat} (P : PGx A S h nr V E ps ss qs) (hnr : nr ≤ 18) (H : G A S h0 X h) (hu : V u) (x : PXf h h' (ps u) (qs u)) : PGx A S h' nr V E ps ss qs := by
  have P3 := P.2.2.1
  have P4 := P.2.2.2
  obtain ⟨x1, x2, x3, x4, x5⟩ := x
  refine P.to hnr (lv11 H.b) H.1.2.2.2 (fun id hd => H.k0 hd) (fun _ _ => rfl) (fun _ z => Or.inl z) (fun _ z => z) (fun b hb => ?_) (fun v hv => ?_)
  · rw [x1, x2, x3]
    exact ⟨rfl, rfl, fun _ => rfl⟩
  · refine x5 _ (fun z => ?_) (P4 v u hv hu)
    have e1 := (P3 u hu).2.1.1
    have e2 := (P3 v hv).2.1.2.2.2.1
    rw [z, e1] at e2
    cases e2
theorem PGx.pg {h' : AH} {u : Nat} (P : PGx A S h nr V E ps ss qs) (H : G A S h0 X h) (hu : V u) (x : PXf h h' (ps u) (qs u)) : G A S h' X h' := x.g H fun id hd => ⟨((P.2.2.1 u hu).2.2 id hd).1, ((P.2.2.1 u hu).2.2 id hd).2.2⟩
/-- one more -/
theorem PGx.add {h1 : AH} {p s q u : Nat} {l : List Nat} (P : PGx A S h nr V E ps ss qs) (hnr : nr ≤ 18) (H : G A S h0 X h) (x : XF h h1) (fp : gK h p = 0) (fs : gK h s = 0) (fq : gK h q = 0) (hsq : s ≠ q) (O : PO1 h1 p s q l) (hu : u < nr) (hV : ¬ V u) : PGx A S (sP h1 (A (slO u).1) (slO u).2 (some p)) nr (fun i => V i ∨ i = u) (va_up E u l) (va_up ps u p) (va_up ss u s) (va_up qs u q) := by
  obtain ⟨p1, p2, p3, p4⟩ := P.xf hnr H x
  have H1 := x.g H
  obtain ⟨q1, q2, q3, q4⟩ := P
  have in1 : ∀ i j, lv S i → lv S j → A i = A j → i = j := H.1.2.2.2
  have pl : ∀ v, v < nr → ∀ r, gP (sP h1 (A (slO u).1) (slO u).2 r) (A (slO v).1) (slO v).2 = if v = u then r else gP h1 (A (slO v).1) (slO v).2 := fun v hv r => by
    by_cases c : v = u
    · rw [if_pos c, c, sP_eq, va_up_self]
    · rw [if_neg c]
      by_cases c2 : (slO v).1 = (slO u).1
      · rw [c2, sP_eq, va_ne (fun z => c (slO_inj (Prod.ext c2 z) (by omega) (by omega)))]
      · rw [sP_ne (fun z => c2 (in1 _ _ (p2 v hv).1 (p2 u hu).1 z))]
  have po : ∀ {b k : Nat}, gK h1 b = 6 → gP (sP h1 (A (slO u).1) (slO u).2 (some p)) b k = gP h1 b k := fun {b k} hb => by
    rw [sP_ne]
    intro z
    obtain ⟨n, hn, -⟩ := (slO_row u (by omega)).2.1
    have := H1.kd (o := (slO u).1) (a := 23) (p2 u hu).1.2 hn
    rw [← z, hb] at this
    cases this
  have far : ∀ {b : Nat}, gK h b = 0 → ∀ id, lv S id → A id ≠ b := fun hb id hd z => H.k0 hd (by rw [z]; exact hb)
  refine ⟨fun v hv => hv.elim (p1 v) (fun z => z ▸ hu), fun v hv => ⟨(p2 v hv).1, fun b hb => ?_⟩, fun v hv => ?_, fun v w hv hw => ?_⟩
  · rw [pl v hv] at hb
    by_cases c : v = u
    · rw [if_pos c] at hb
      cases hb
      exact O.1
    · rw [if_neg c] at hb
      exact (p2 v hv).2 b hb
  · by_cases c : v = u
    · subst c
      rw [va_up_self, va_up_self, va_up_self, va_up_self, pl v hu, if_pos rfl]
      obtain ⟨o1, o2, o3, o4⟩ := O
      exact ⟨rfl, ⟨o1, by rw [po o1]; exact o2, by rw [po o1]; exact o3, o4⟩, fun id hd => ⟨far fp id hd, far fs id hd, far fq id hd⟩⟩
    · have hv' : V v := hv.resolve_right c
      rw [va_ne c, va_ne c, va_ne c, va_ne c, pl v (p1 v hv'), if_neg c]
      obtain ⟨r1, ⟨o1, o2, o3, o4⟩, r3⟩ := p3 v hv'
      exact ⟨r1, ⟨o1, by rw [po o1]; exact o2, by rw [po o1]; exact o3, o4⟩, r3⟩
  · by_cases c : v = u
    · rw [c, va_up_self]
      by_cases c2 : w = u
      · rw [c2, va_up_self]
        exact hsq
      · rw [va_ne c2]
        intro z
        have e := (q3 w (hw.resolve_right c2)).2.1.2.2.2.2.2.2.1
        rw [← z, fs] at e
        cases e
    · rw [va_ne c]
      by_cases c2 : w = u
      · rw [c2, va_up_self]
        intro z
        have e := (q3 v (hv.resolve_right c)).2.1.2.2.2.1
        rw [z, fq] at e
        cases e
      · rw [va_ne c2]
        exact p4 v w (hv.resolve_right c) (hw.resolve_right c2)
end PGS
