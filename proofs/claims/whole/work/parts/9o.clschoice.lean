/-! what a person does: the class's choice -/
noncomputable def chS (wd : Nat → Int32) (N : Nat → Nat) (LL : Nat → List (Nat × Seg)) (p : Nat) : Int32 := if wd (306 + 6 * p) = -1 then 4 else lwS wd N p (LL (nt (wd (306 + 6 * p))))
def VL (V : Nat → Prop) (E : Nat → List Nat) (LL : Nat → List (Nat × Seg)) (n : Nat) : Prop := ∀ l, l < n → V l ∧ E l = lwE (LL l)
theorem ch_srt {wd : Nat → Int32} {N : Nat → Nat} {LL : Nat → List (Nat × Seg)} {p : Nat} (O : Ok wd N) (hp : p < N 1) (hO : LKs LL (N 2)) : ∃ c, c ≤ 5 ∧ chS wd N LL p = nI c ∧ srt wd N LL p = nI (if c = 0 then 3 else c - 1) := by
  have h2 := O.l.2
  have key : ∀ L : List (Nat × Seg), LOk false L → ∃ c, c ≤ 5 ∧ lwS wd N p L = nI c := by
    intro L
    unfold lwS
    induction L with
    | nil => exact fun _ => ⟨0, by decide, rfl⟩
    | cons q L ih =>
      intro ok
      simp only [lawR]
      split
      · have := (ok q (List.mem_cons_self)).1
        exact ⟨q.1 + 1, by omega, rfl⟩
      · exact ih (fun r hr => ok r (List.mem_cons_of_mem _ hr))
  unfold chS srt
  rcases (O.P hp).2.2.2.2.2 with e | ⟨l, hl, e⟩
  · rw [if_pos e, if_pos e]
    exact ⟨4, by decide, rfl, rfl⟩
  · rw [e, if_neg (nI_n1 (m := l) (by omega)), if_neg (nI_n1 (m := l) (by omega)), nt_nI (by omega)]
    obtain ⟨c, hc, ec⟩ := key _ (hO l hl).1
    refine ⟨c, hc, ec, ?_⟩
    unfold srtL
    rw [ec]
    cases c with
    | zero => rfl
    | succ c =>
      have nz : ¬ (nI (c + 1) = (0 : Int32)) := fun w => absurd ((nI_eq (a := c + 1) (b := 0) (by omega) (by decide)).mp w) (by omega)
      rw [if_neg nz, if_neg (by omega), nI_pred, Nat.add_sub_cancel]
section CCHOICE
variable {A : Nat → Nat} {S : Nat → Prop} {h0 h : AH} {X : Nat → Nat → Int32} {wd : Nat → Int32} {N : Nat → Nat} {LL : Nat → List (Nat × Seg)} {Q : Int32 → AH → Prop} {Qv : AH → Prop} {p nr : Nat} {V : Nat → Prop} {E : Nat → List Nat} {ps ss qs : Nat → Nat}
theorem c_choiceOf (H : G A S h0 X h) (R : CR X wd) (O : Ok wd N) (hp : p < N 1) (P : PGx A S h0 nr V E ps ss qs) (hr : nr ≤ 18) (vl : VL V E LL (N 2)) (hO : LKs LL (N 2)) (F : ∀ f, f < 7 → X 101 f = tF wd N p f) (F7 : X 101 7 = tAr wd N p) (F8 : X 101 8 = tAl wd N p) (k : ∀ hb h', G A S hb X h' → PGx A S hb nr V E ps ss qs → BZ h0 hb → Q (chS wd N LL p) h') : w_X0_choiceOf (A 0) (nI p) h Q := by
  have hP := O.p.2
  obtain ⟨e2, h2⟩ := O.l
  dsimp only [w_X0_choiceOf, w_X0_choiceOf_40]
  refine fP (o := 0) H H.b rfl rfl ?_
  refine fP (o := 7) H H.b rfl rfl ?_
  refine fP (o := 4) H H.b rfl rfl ?_
  refine aC (id := 505) H R H.b rfl (by decide) rfl rfl (by omega) ?_
  unfold chS at k
  rcases (O.P hp).2.2.2.2.2 with e | ⟨l, hl, e⟩
  · rw [e] at k ⊢
    rw [if_pos rfl] at k
    exact br_T (by decide) (k h0 h H P (BZ.rf _))
  · rw [e, if_neg (nI_n1 (m := l) (by omega)), nt_nI (by omega)] at k
    rw [e]
    refine br_F (nI_nlt (a := l) (b := 0) (by omega) (by omega)) ?_
    refine fP (o := 0) H H.b rfl rfl ?_
    refine fC_ (o := 7) H R H.b rfl rfl ?_
    rw [e2]
    refine br_go hl (by omega) ?_
    have P1 := P.g hr H
    obtain ⟨hV, hE⟩ := vl l hl
    obtain ⟨q1, O1, q3⟩ := P1.2.2.1 _ hV
    have e1 : slO l = (805, l) := if_pos (by omega)
    rw [e1] at q1
    dsimp only at q1
    have inn : ∀ {K : Option Nat → Prop}, K (some (ps l)) → aO h (A 805) (nI l) K := fun {K} kk => by
      refine ⟨H.kd (o := 805) (a := 23) H.b rfl, ?_, ?_⟩
      · rw [H.ln (o := 805) (a := 4) (b := 4) H.b rfl]
        exact vp_in_nI (by omega) (by decide)
      · rw [nI_clamp (by omega), q1]
        exact kk
    refine fP (o := 0) H H.b rfl rfl ?_
    refine fP (o := 7) H H.b rfl rfl ?_
    refine inn ?_
    refine br_F (fun z => by cases z) ?_
    refine fP (o := 0) H H.b rfl rfl ?_
    refine fP (o := 7) H H.b rfl rfl ?_
    refine inn ?_
    refine ⟨_, rfl, ?_⟩
    refine fP (o := 0) H H.b rfl rfl ?_
    refine ⟨O1.1, ?_⟩
    rw [hE] at O1
    have okl := hO l hl
    refine c_answer (nf := 9) (fr := X 101) (r := lwS wd N p (LL l)) O1 (P1.2.2.2 _ _ hV hV) ⟨H.kd (o := 101) (a := 19) H.b rfl, H.ln (o := 101) (a := 0) (b := 9) H.b rfl, fun i _ => H.at (id := 101) (a := 19) H.b rfl i⟩ (by decide) (q3 101 ⟨by decide, H.b⟩).2.2 (by omega) (good_law (st := false) (F := tF wd N p) (bI_01 _) (bI_01 _) ⟨F, by decide, (fun _ => ⟨F7, F8, rfl⟩), fun z => by cases z⟩ okl.1) (fun h' x => ?_)
    exact k h' h' (P1.pg H hV x) (P1.pxf hr H hV x) (PXf.bz x H)
end CCHOICE
