/-! a shot: both sides -/
noncomputable def sW1 (wd : Nat → Int32) (g : Nat) : Nat → Int32 := va_up wd (272 + 4 * g) (wd (272 + 4 * g) - 1)
noncomputable def sW2 (wd : Nat → Int32) (p g : Nat) : Nat → Int32 := lvF (sW1 wd g) 0 (wd (302 + 6 * p)) (jrem (wd 7) 10) (1 <<< (wd (270 + 4 * g) &&& 31))
noncomputable def sW3 (wd : Nat → Int32) (p g q : Nat) : Nat → Int32 := lvF (sW2 wd p g) 1 (wd (302 + 6 * q)) (jrem (wd 7) 10) (wd (305 + 6 * p))
noncomputable def sW4 (wd : Nat → Int32) (p g q : Nat) : Nat → Int32 := va_up (sW3 wd p g q) 9 (1103515245 * sW3 wd p g q 9 + 12345)
noncomputable def sW5 (wd : Nat → Int32) (p g q : Nat) : Nat → Int32 := lvF (sW4 wd p g q) 2 (wd (302 + 6 * q)) (jrem (wd 7) 10) (1 <<< (nI q &&& 31))
noncomputable def shotW (wd : Nat → Int32) (p g q : Nat) : Nat → Int32 := if jrem ((sW4 wd p g q 9 >>> (16 &&& 31)) &&& 32767) 12 < 10 - farI (wd (302 + 6 * p)) (wd (302 + 6 * q)) then va_up (sW5 wd p g q) (304 + 6 * q) 0 else sW4 wd p g q
noncomputable def shootW (wd : Nat → Int32) (N : Nat → Nat) (p : Nat) : Nat → Int32 := match nst wd true p (wd (302 + 6 * p)) (N 1) with
  | none => calmW wd p
  | some q => if wd (301 + 6 * p) = -1 ∨ wd (272 + 4 * nt (wd (301 + 6 * p))) = 0 then calmW wd p else shotW wd p (nt (wd (301 + 6 * p))) q
theorem sW_off {wd : Nat → Int32} {p g q w : Nat} (h3 : w ≠ 3) (hw : w < 349) (hg : w ≠ 272 + 4 * g) : sW1 wd g w = wd w ∧ sW2 wd p g w = wd w ∧ sW3 wd p g q w = wd w ∧ (w ≠ 9 → sW4 wd p g q w = wd w ∧ sW5 wd p g q w = wd w) := by
  have a1 : sW1 wd g w = wd w := va_ne hg
  have a2 : sW2 wd p g w = wd w := (lvF_off h3 hw).trans a1
  have a3 : sW3 wd p g q w = wd w := (lvF_off h3 hw).trans a2
  refine ⟨a1, a2, a3, fun h9 => ?_⟩
  have a4 : sW4 wd p g q w = wd w := (va_ne h9).trans a3
  exact ⟨a4, (lvF_off h3 hw).trans a4⟩
theorem sW_3 {wd : Nat → Int32} {N : Nat → Nat} (O : Ok wd N) {p g q : Nat} (hg : g < 8) : (∃ m, sW1 wd g 3 = nI m ∧ m ≤ 120) ∧ (∃ m, sW2 wd p g 3 = nI m ∧ m ≤ 120) ∧ ∃ m, sW4 wd p g q 3 = nI m ∧ m ≤ 120 := by
  obtain ⟨e, h⟩ := O.f
  have b1 : sW1 wd g 3 = nI (N 3) := (va_ne (by omega)).trans e
  obtain ⟨m, b2, b3⟩ := lvF_3 b1 h (a := 0) (b := wd (302 + 6 * p)) (c := jrem (wd 7) 10) (d := 1 <<< (wd (270 + 4 * g) &&& 31))
  obtain ⟨m', c2, c3⟩ := lvF_3 (wd := sW2 wd p g) b2 b3 (a := 1) (b := wd (302 + 6 * q)) (c := jrem (wd 7) 10) (d := wd (305 + 6 * p))
  exact ⟨⟨_, b1, h⟩, ⟨m, b2, b3⟩, m', (va_ne (by decide)).trans c2, c3⟩
section SHOOT
variable {A : Nat → Nat} {S : Nat → Prop} {h0 h : AH} {X : Nat → Nat → Int32} {wd : Nat → Int32} {N : Nat → Nat} {Q : Int32 → AH → Prop} {Qv : AH → Prop} {p : Nat}
theorem m_shoots (H : G A S h0 X h) (M : MR X wd) (O : Ok wd N) (hp : p < N 1) (k : ∀ X' h', G A S h0 X' h' → MR X' (shootW wd N p) → (∀ id, id ≠ 1301 → X' id = X id) → Qv h') : w_X12_shoots (A 12) (nI p) h Qv := by
  have hP := O.p.2
  have hG := O.g.2
  have calm : (∀ X' h', G A S h0 X' h' → MR X' (calmW wd p) → (∀ id, id ≠ 1301 → X' id = X id) → Qv h') → w_X12_shoots_25 (A 12) (nI p) h Qv := fun kk => by
    dsimp only [w_X12_shoots_25]
    exact vG (o := 12) H H.b rfl (m_holdsStill H M (by omega) kk)
  dsimp only [w_X12_shoots]
  refine vG (o := 12) H H.b rfl ?_
  refine p1 H M (by omega) ?_
  refine vG (o := 12) H H.b rfl ?_
  refine m_nearestTo (b := true) H M O (by omega) ?_
  refine vG (o := 12) H H.b rfl ?_
  unfold shootW at k
  refine m_roundsOf H M O hp (fun e => ?_) (fun g hg e => ?_)
  · refine br_T rfl (calm ?_)
    cases en : nst wd true p (wd (302 + 6 * p)) (N 1) with
    | none => rw [en] at k; exact k
    | some q =>
      rw [en] at k
      dsimp only at k
      rw [if_pos (Or.inl e)] at k
      exact k
  · rw [e, nt_nI (by omega)] at k
    refine br_if (fun w => calm ?_) (fun w => ?_)
    · cases en : nst wd true p (wd (302 + 6 * p)) (N 1) with
      | none => rw [en] at k; exact k
      | some q =>
        rw [en] at k
        dsimp only at k
        rw [if_pos (Or.inr w)] at k
        exact k
    · cases en : nst wd true p (wd (302 + 6 * p)) (N 1) with
      | none => rw [en] at k; exact br_F (by decide) (calm k)
      | some q =>
        rw [en] at k
        dsimp only at k
        rw [if_neg (fun z => z.elim (nI_n1 (m := g) (by omega)) w)] at k
        have hq := nst_lt en
        obtain ⟨n1, n2, n4⟩ := sW_3 O (p := p) (g := g) (q := q) (by omega)
        refine br_T (nI_pos' (by omega)) ?_
        refine vG (o := 12) H H.b rfl ?_
        refine p0 H M (by omega) ?_
        rw [e, show (269 : Int32) + (4 : Int32) * nI g = nI (269 + 4 * g) from ix2 269 4 g]
        refine bd_i ?_
        refine fP (o := 12) H H.b rfl rfl ?_
        refine aM H M (n := 7) rfl (by decide) ?_
        refine bd_i ?_
        have i3 : nI (269 + 4 * g) + 3 = nI (272 + 4 * g) := by rw [show (3 : Int32) = nI 3 from rfl, nI_add]; congr 1; omega
        refine fP (o := 12) H H.b rfl rfl ?_
        refine aM H M (n := 272 + 4 * g) i3 (by omega) ?_
        refine tM H M (n := 272 + 4 * g) i3 (by omega) (fun h1 H1 M1 => ?_)
        have r1 : ∀ id, id ≠ 1301 → up X 1301 (272 + 4 * g) (wd (272 + 4 * g) - 1) id = X id := fun id hi => up_row _ _ _ hi
        have M1 : MR (up X 1301 (272 + 4 * g) (wd (272 + 4 * g) - 1)) (sW1 wd g) := M1
        generalize up X 1301 (272 + 4 * g) (wd (272 + 4 * g) - 1) = X1 at *
        refine vG (o := 12) H1 H1.b rfl ?_
        refine p1 H1 M1 (by omega) ?_
        refine fP (o := 12) H1 H1.b rfl rfl ?_
        refine aM H1 M1 (n := 270 + 4 * g) (by rw [show (1 : Int32) = nI 1 from rfl, nI_add]; congr 1; omega) (by omega) ?_
        rw [(sW_off (p := p) (q := q) (w := 302 + 6 * p) (by omega) (by omega) (by omega)).1, (sW_off (p := p) (q := q) (w := 270 + 4 * g) (by omega) (by omega) (by omega)).1]
        refine vG (o := 12) H1 H1.b rfl ?_
        obtain ⟨m1, e1, b1⟩ := n1
        refine m_lvF H1 M1 e1 b1 (fun X2 h2 H2 M2 r2 => ?_)
        have M2 : MR X2 (sW2 wd p g) := M2
        refine vG (o := 12) H2 H2.b rfl ?_
        refine p1 (f := q) H2 M2 (by omega) ?_
        refine vG (o := 12) H2 H2.b rfl ?_
        refine p4 H2 M2 (by omega) ?_
        rw [(sW_off (p := p) (q := q) (w := 302 + 6 * q) (by omega) (by omega) (by omega)).2.1, (sW_off (p := p) (q := q) (w := 305 + 6 * p) (by omega) (by omega) (by omega)).2.1]
        refine vG (o := 12) H2 H2.b rfl ?_
        obtain ⟨m2, e2, b2⟩ := n2
        refine m_lvF H2 M2 e2 b2 (fun X3 h3 H3 M3 r3 => ?_)
        have M3 : MR X3 (sW3 wd p g q) := M3
        refine fP (o := 12) H3 H3.b rfl rfl ?_
        refine fP (o := 12) H3 H3.b rfl rfl ?_
        refine aM H3 M3 (n := 9) rfl (by decide) ?_
        refine tM H3 M3 (n := 9) rfl (by decide) (fun h4 H4 M4 => ?_)
        have r4 : ∀ id, id ≠ 1301 → up X3 1301 9 (1103515245 * sW3 wd p g q 9 + 12345) id = X3 id := fun id hi => up_row _ _ _ hi
        have M4 : MR (up X3 1301 9 (1103515245 * sW3 wd p g q 9 + 12345)) (sW4 wd p g q) := M4
        generalize up X3 1301 9 (1103515245 * sW3 wd p g q 9 + 12345) = X4 at *
        refine fP (o := 12) H4 H4.b rfl rfl ?_
        refine aM H4 M4 (n := 9) rfl (by decide) ?_
        refine vG (o := 12) H4 H4.b rfl ?_
        refine p1 H4 M4 (by omega) ?_
        refine vG (o := 12) H4 H4.b rfl ?_
        refine p1 (f := q) H4 M4 (by omega) ?_
        rw [((sW_off (p := p) (q := q) (w := 302 + 6 * p) (by omega) (by omega) (by omega)).2.2.2 (by omega)).1, ((sW_off (p := p) (q := q) (w := 302 + 6 * q) (by omega) (by omega) (by omega)).2.2.2 (by omega)).1]
        refine m_far ?_
        have rr : ∀ id, id ≠ 1301 → X4 id = X id := fun id hi => (r4 id hi).trans ((r3 id hi).trans ((r2 id hi).trans (r1 id hi)))
        unfold shotW at k
        refine br_if (fun w => ?_) (fun w => ?_)
        · rw [if_pos w] at k
          refine vG (o := 12) H4 H4.b rfl ?_
          refine p1 (f := q) H4 M4 (by omega) ?_
          rw [((sW_off (p := p) (q := q) (w := 302 + 6 * q) (by omega) (by omega) (by omega)).2.2.2 (by omega)).1]
          refine vG (o := 12) H4 H4.b rfl ?_
          obtain ⟨m4, e4, b4⟩ := n4
          refine m_lvF H4 M4 e4 b4 (fun X5 h5 H5 M5 r5 => ?_)
          refine vG (o := 12) H5 H5.b rfl ?_
          exact m_sets (p := q) H5 M5 (304 + 6 * q) 3 rfl (by omega) (by omega) (fun h' H' M' => k _ h' H' M' (fun id hi => (up_row _ _ _ hi).trans ((r5 id hi).trans (rr id hi))))
        · rw [if_neg w] at k
          exact k X4 h4 H4 M4 rr
end SHOOT
