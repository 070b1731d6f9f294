/-! a shot: the class -/
theorem ST.of {L : List Nat} {X X' : Nat → Nat → Int32} (a : Off L X X') (h : ∀ id, id ∈ L → stR id = true) : ST X X' := fun id hi => a id (fun z => by rw [h id z] at hi; cases hi)
section CSHOOT
variable {A : Nat → Nat} {S : Nat → Prop} {h0 h : AH} {X : Nat → Nat → Int32} {wd : Nat → Int32} {N : Nat → Nat} {Q : Int32 → AH → Prop} {Qv : AH → Prop} {p : Nat}
theorem c_draw (H : G A S h0 X h) (R : CR X wd) (k : ∀ X' h', G A S h0 X' h' → CR X' (va_up wd 9 (1103515245 * wd 9 + 12345)) → ST X X' → Q (((1103515245 * wd 9 + 12345) >>> (16 &&& 31)) &&& 32767) h') : w_X0_draw (A 0) h Q := by
  dsimp only [w_X0_draw]
  refine fP (o := 0) H H.b rfl rfl ?_
  refine fP (o := 0) H H.b rfl rfl ?_
  refine fC_ (o := 7) H R H.b rfl rfl ?_
  refine uC (o := 7) H R H.b rfl rfl (fun h1 H1 R1 => ?_)
  refine fP (o := 0) H1 H1.b rfl rfl ?_
  refine fC_ (o := 7) H1 R1 H1.b rfl rfl ?_
  rw [va_up_self]
  exact k _ h1 H1 R1 ((ST.rf _).up (by decide) _ _)
theorem c_shoot (H : G A S h0 X h) (R : CR X wd) (O : Ok wd N) (hp : p < N 1) (k : ∀ X' h', G A S h0 X' h' → CR X' (shootW wd N p) → ST X X' → Qv h') : w_X0_shoot (A 0) (nI p) h Qv := by
  have hP := O.p.2
  have hG := O.g.2
  have calm : (∀ X' h', G A S h0 X' h' → CR X' (calmW wd p) → ST X X' → Qv h') → w_X0_shoot_56 (A 0) (nI p) h Qv := fun kk => by
    dsimp only [w_X0_shoot_56]
    exact vG (o := 0) H H.b rfl (c_calmDown H R (by omega) (fun X' h' H' R' o' => kk X' h' H' R' (ST.of o' (by decide))))
  dsimp only [w_X0_shoot, w_X0_shoot_206]
  refine fP (o := 0) H H.b rfl rfl ?_
  refine fP (o := 7) H H.b rfl rfl ?_
  refine fP (o := 4) H H.b rfl rfl ?_
  refine aC (id := 503) H R H.b rfl (by decide) rfl rfl (by omega) ?_
  refine vG (o := 4) H H.b rfl ?_
  refine c_nearest (b := true) H R O (by omega) ?_
  refine fP (o := 4) H H.b rfl rfl ?_
  refine aC (id := 501) H R H.b rfl (by decide) rfl rfl (by omega) ?_
  unfold shootW at k
  cases en : nst wd true p (wd (302 + 6 * p)) (N 1) with
  | none => rw [en] at k; exact br_T rfl (calm k)
  | some q =>
    rw [en] at k
    dsimp only at k
    have hq := nst_lt en
    refine br_F (nI_n1 (m := q) (by omega)) ?_
    rcases (O.P hp).1 with e | ⟨g, hg, e⟩
    · rw [if_pos (Or.inl e)] at k
      rw [e]
      exact br_T rfl (calm k)
    · rw [e, nt_nI (by omega)] at k
      rw [e]
      refine br_F (nI_n1 (m := g) (by omega)) ?_
      refine fP (o := 0) H H.b rfl rfl ?_
      refine fP (o := 7) H H.b rfl rfl ?_
      refine fP (o := 2) H H.b rfl rfl ?_
      refine aC (id := 304) (n := g) H R H.b rfl (by decide) rfl rfl (by omega) ?_
      refine br_if (fun w => calm ?_) (fun w => ?_)
      · rw [if_pos (Or.inr w)] at k
        exact k
      · rw [if_neg (fun z => z.elim (nI_n1 (m := g) (by omega)) w)] at k
        obtain ⟨n1, n2, n4⟩ := sW_3 O (p := p) (g := g) (q := q) (by omega)
        refine fP (o := 0) H H.b rfl rfl ?_
        refine fC_ (o := 7) H R H.b rfl rfl ?_
        refine bd_i ?_
        refine fP (o := 4) H H.b rfl rfl ?_
        refine aC (id := 503) (n := q) H R H.b rfl (by decide) rfl rfl (by omega) ?_
        refine fP (o := 0) H H.b rfl rfl ?_
        refine fP (o := 7) H H.b rfl rfl ?_
        refine fP (o := 2) H H.b rfl rfl ?_
        refine aC (id := 304) (n := g) H R H.b rfl (by decide) rfl rfl (by omega) ?_
        refine tC (id := 304) (n := g) H R H.b rfl (by decide) rfl rfl (by omega) (fun h1 H1 R1 => ?_)
        have s1 : ST X (up X 304 g (wd (272 + 4 * g) - 1)) := (ST.rf _).up (by decide) _ _
        have R1 : CR (up X 304 g (wd (272 + 4 * g) - 1)) (sW1 wd g) := R1
        generalize up X 304 g (wd (272 + 4 * g) - 1) = X1 at *
        refine fP (o := 0) H1 H1.b rfl rfl ?_
        refine fP (o := 7) H1 H1.b rfl rfl ?_
        refine fP (o := 4) H1 H1.b rfl rfl ?_
        refine aC (id := 503) (n := p) H1 R1 H1.b rfl (by decide) rfl rfl (by omega) ?_
        refine fP (o := 0) H1 H1.b rfl rfl ?_
        refine fP (o := 7) H1 H1.b rfl rfl ?_
        refine fP (o := 2) H1 H1.b rfl rfl ?_
        refine aC (id := 302) (n := g) H1 R1 H1.b rfl (by decide) rfl rfl (by omega) ?_
        rw [(sW_off (p := p) (q := q) (w := 302 + 6 * p) (by omega) (by omega) (by omega)).1, (sW_off (p := p) (q := q) (w := 270 + 4 * g) (by omega) (by omega) (by omega)).1]
        refine vG (o := 1) H1 H1.b rfl ?_
        obtain ⟨m1, e1, b1⟩ := n1
        refine c_lvF H1 R1 e1 b1 (fun _ X2 h2 H2 R2 s2 => ?_)
        have R2 : CR X2 (sW2 wd p g) := R2
        refine fP (o := 0) H2 H2.b rfl rfl ?_
        refine fP (o := 7) H2 H2.b rfl rfl ?_
        refine fP (o := 4) H2 H2.b rfl rfl ?_
        refine aC (id := 502) (n := p) H2 R2 H2.b rfl (by decide) rfl rfl (by omega) ?_
        rw [(sW_off (p := p) (q := q) (w := 305 + 6 * p) (by omega) (by omega) (by omega)).2.1]
        refine vG (o := 1) H2 H2.b rfl ?_
        obtain ⟨m2, e2, b2⟩ := n2
        refine c_lvF H2 R2 e2 b2 (fun _ X3 h3 H3 R3 s3 => ?_)
        have R3 : CR X3 (sW3 wd p g q) := R3
        refine vG (o := 0) H3 H3.b rfl ?_
        refine c_draw H3 R3 (fun X4 h4 H4 R4 s4 => ?_)
        have R4 : CR X4 (sW4 wd p g q) := R4
        have v4 : sW4 wd p g q 9 = 1103515245 * sW3 wd p g q 9 + 12345 := va_up_self _ _ _
        rw [← v4]
        refine fP (o := 4) H4 H4.b rfl rfl ?_
        refine aC (id := 503) (n := p) H4 R4 H4.b rfl (by decide) rfl rfl (by omega) ?_
        rw [((sW_off (p := p) (q := q) (w := 302 + 6 * p) (by omega) (by omega) (by omega)).2.2.2 (by omega)).1]
        refine c_far ?_
        have ss := ((s1.tr s2).tr s3).tr s4
        unfold shotW at k
        refine br_if (fun w => ?_) (fun w => ?_)
        · rw [if_neg (Int32.not_lt.mpr w)] at k
          exact k X4 h4 H4 R4 ss
        · rw [if_pos (Int32.not_le.mp w)] at k
          refine fP (o := 0) H4 H4.b rfl rfl ?_
          refine fP (o := 7) H4 H4.b rfl rfl ?_
          refine vG (o := 1) H4 H4.b rfl ?_
          obtain ⟨m4, e4, b4⟩ := n4
          refine c_lvF H4 R4 e4 b4 (fun _ X5 h5 H5 R5 s5 => ?_)
          refine fP (o := 4) H5 H5.b rfl rfl ?_
          refine tC (id := 506) (n := q) H5 R5 H5.b rfl (by decide) rfl rfl (by omega) (fun h6 H6 R6 => ?_)
          exact k _ h6 H6 R6 ((ss.tr s5).up (by decide) _ _)
end CSHOOT
