/-! what a person does: the class's facts and choice -/
noncomputable def cvS (wd : Nat → Int32) (N : Nat → Nat) (p : Nat) : Int32 := jmax 0 (jmin 9 ((wd (303 + 6 * p) + cnt (nrC wd true 3 p) (N 1)) - cnt (nrC wd false 2 p) (N 1)))
theorem rel_up {wd : Nat → Int32} {p : Nat} {v : Int32} : rel (va_up wd (303 + 6 * p) v) = rel wd := by
  funext b q r
  unfold rel foe fri
  rw [va_ne (by omega), va_ne (by omega), va_ne (by omega)]
theorem nrC_up {wd : Nat → Int32} {p : Nat} {v : Int32} : nrC (va_up wd (303 + 6 * p) v) = nrC wd := by
  funext b d q r
  unfold nrC
  rw [rel_up, va_ne (by omega), va_ne (by omega)]
theorem nst_up {wd : Nat → Int32} {p : Nat} {v : Int32} {b : Bool} {q : Nat} {c : Int32} : ∀ {n : Nat}, nst (va_up wd (303 + 6 * p) v) b q c n = nst wd b q c n := by
  intro n
  induction n with
  | zero => rfl
  | succ n ih =>
    simp only [nst]
    rw [ih, rel_up]
    cases nst wd b q c n with
    | none => rfl
    | some r =>
      dsimp only
      rw [va_ne (by omega), va_ne (by omega)]
section CFIGHT
variable {A : Nat → Nat} {S : Nat → Prop} {h0 h : AH} {X : Nat → Nat → Int32} {wd W : Nat → Int32} {N : Nat → Nat} {Q : Int32 → AH → Prop} {Qv : AH → Prop} {p : Nat}
theorem c_fs {X1 : Nat → Nat → Int32} {h1 : AH} {w1 : Nat → Int32} {n : Nat} {i v : Int32} {K : AH → Prop} (H : G A S h0 X1 h1) (R : CR X1 w1) (o : Off [101, 504] X X1) (F : ∀ f, f < n → X1 101 f = tF W N p f) (hi : i = nI n) (hn : n < 9) (hv : v = tF W N p n) (kk : ∀ X2 h2, G A S h0 X2 h2 → CR X2 w1 → Off [101, 504] X X2 → (∀ f, f < n + 1 → X2 101 f = tF W N p f) → K h2) : tI h1 (A 101) i v K := by
  refine tG (id := 101) (n := n) H H.b rfl (by decide) hi hn (fun h2 H2 => kk _ h2 H2 (R.offR rfl _ _) (o.up (by decide) _ _) (fun f hf => ?_))
  by_cases e : f = n
  · subst e
    rw [up_same]
    exact hv
  · rw [up_n _ _ _ e]
    exact F f (by omega)
theorem c_gfEnd {X1 : Nat → Nat → Int32} {h1 : AH} (H1 : G A S h0 X1 h1) (R1 : CR X1 W) (o1 : Off [101, 504] X X1) (F1 : ∀ f, f < 6 → X1 101 f = tF W N p f) {v : Int32} (hv : v = tF W N p 6) (k : ∀ X' h', G A S h0 X' h' → Off [101, 504] X X' → CR X' W → (∀ f, f < 7 → X' 101 f = tF W N p f) → X' 101 7 = tAr W N p → X' 101 8 = tAl W N p → Qv h') : w_X0_gatherFacts_189 (A 0) (A 101) 6 v h1 Qv := by
  dsimp only [w_X0_gatherFacts_189, w_X0_gatherFacts_210, w_X0_gatherFacts_231]
  refine c_fs (n := 6) H1 R1 o1 F1 rfl (by decide) hv (fun X2 h2 H2 R2 o2 F2 => ?_)
  refine fP (o := 0) H2 H2.b rfl rfl ?_
  refine fP (o := 0) H2 H2.b rfl rfl ?_
  refine aG (id := 101) (n := 5) H2 H2.b rfl (by decide) rfl (by decide) ?_
  rw [F2 5 (by decide)]
  have g : ∀ a, a = tAr W N p → tI h2 (A 101) 7 a fun h => fN h (A 0) 0 1 fun a1 => fN h (A 0) 0 1 fun a2 => aI h a2 1 fun x3 => br (x3 = 0) (tI h a1 8 1 fun h => Qv h) (tI h a1 8 0 fun h => Qv h) := by
    intro a ha
    refine tG (id := 101) (n := 7) H2 H2.b rfl (by decide) rfl (by decide) (fun h3 H3 => ?_)
    refine fP (o := 0) H3 H3.b rfl rfl ?_
    refine fP (o := 0) H3 H3.b rfl rfl ?_
    refine aG (id := 101) (n := 1) H3 H3.b rfl (by decide) rfl (by decide) ?_
    rw [up_n _ _ _ (by decide), F2 1 (by decide)]
    have g3 : ∀ b, b = tAl W N p → tI h3 (A 101) 8 b fun h => Qv h := by
      intro b hb
      refine tG (id := 101) (n := 8) H3 H3.b rfl (by decide) rfl (by decide) (fun h4 H4 => ?_)
      refine k _ h4 H4 ((o2.up (by decide) _ _).up (by decide) _ _) ((R2.offR rfl _ _).offR rfl _ _) (fun f hf => ?_) ?_ ?_
      · rw [up_n _ _ _ (by omega), up_n _ _ _ (by omega)]
        exact F2 f hf
      · rw [up_n _ _ _ (by decide), up_same]
        exact ha
      · rw [up_same]
        exact hb
    refine br_if (fun w => ?_) (fun w => ?_)
    · exact g3 1 (by unfold tAl; rw [decide_eq_true w]; rfl)
    · exact g3 0 (by unfold tAl; rw [decide_eq_false w]; rfl)
  refine br_if (fun w => ?_) (fun w => ?_)
  · exact g 0 (by unfold tAr; rw [decide_eq_false (fun z => z w)]; rfl)
  · exact g 1 (by unfold tAr; rw [decide_eq_true w]; rfl)
theorem c_gf0 (H : G A S h0 X h) (R : CR X wd) (O : Ok wd N) (hp : p < N 1) (k : ∀ X' h', G A S h0 X' h' → Off [101, 504] X X' → CR X' (va_up wd (303 + 6 * p) (cvS wd N p)) → (∀ f, f < 7 → X' 101 f = tF (va_up wd (303 + 6 * p) (cvS wd N p)) N p f) → X' 101 7 = tAr (va_up wd (303 + 6 * p) (cvS wd N p)) N p → X' 101 8 = tAl (va_up wd (303 + 6 * p) (cvS wd N p)) N p → Qv h') : w_X0_gatherFacts (A 0) (nI p) h Qv := by
  have hP := O.p.2
  have h8 := O.g.2
  obtain ⟨c, ec, hc⟩ := (O.P hp).2.1.ex
  have hgun := (O.P hp).1
  unfold w_X0_gatherFacts
  refine fP (o := 0) H H.b rfl rfl ?_
  refine fP (o := 7) H H.b rfl rfl ?_
  refine fP (o := 4) H H.b rfl rfl ?_
  refine aC (id := 503) H R H.b rfl (by decide) rfl rfl (by omega) ?_
  refine vG (o := 4) H H.b rfl ?_
  refine c_nearest (b := true) H R O (by omega) ?_
  refine fP (o := 0) H H.b rfl rfl ?_
  refine vG (o := 4) H H.b rfl ?_
  refine c_foesNear H R O (by omega) ?_
  generalize hW : va_up wd (303 + 6 * p) (cvS wd N p) = W at *
  have w1 : ∀ w, w ≠ 303 + 6 * p → W w = wd w := fun w hw => by rw [← hW]; exact va_ne hw
  have w2 : W (303 + 6 * p) = cvS wd N p := by rw [← hW]; exact va_up_self _ _ _
  have f0 : cnt (nrC wd true 3 p) (N 1) = tF W N p 0 := by
    show _ = cnt (nrC W true 3 p) (N 1)
    rw [← hW, nrC_up]
  have f1 : cnt (nrC wd false 2 p) (N 1) = tF W N p 1 := by
    show _ = cnt (nrC W false 2 p) (N 1)
    rw [← hW, nrC_up]
  have f6 : tF W N p 6 = foeFar W N p := by
    unfold tF
    rw [if_neg (by decide), if_neg (by decide), if_neg (by decide), if_neg (by decide), if_neg (by decide), if_neg (by decide)]
  have fn : nst W true p (W (302 + 6 * p)) (N 1) = nst wd true p (wd (302 + 6 * p)) (N 1) := by
    rw [w1 _ (by omega), ← hW, nst_up]
  refine c_fs (W := W) (N := N) (p := p) (n := 0) (X := X) H R (Off.rf _ _) (fun f hf => absurd hf (Nat.not_lt_zero _)) rfl (by decide) f0 (fun X1 h1 H1 R1 o1 F1 => ?_)
  refine fP (o := 0) H1 H1.b rfl rfl ?_
  refine vG (o := 4) H1 H1.b rfl ?_
  refine c_friendsNear H1 R1 O (by omega) ?_
  refine c_fs (n := 1) H1 R1 o1 F1 rfl (by decide) f1 (fun X2 h2 H2 R2 o2 F2 => ?_)
  refine fP (o := 4) H2 H2.b rfl rfl ?_
  refine fP (o := 4) H2 H2.b rfl rfl ?_
  refine aC (id := 504) H2 R2 H2.b rfl (by decide) rfl rfl (by omega) ?_
  refine fP (o := 0) H2 H2.b rfl rfl ?_
  refine aG (id := 101) (n := 0) H2 H2.b rfl (by decide) rfl (by decide) ?_
  refine fP (o := 0) H2 H2.b rfl rfl ?_
  refine aG (id := 101) (n := 1) H2 H2.b rfl (by decide) rfl (by decide) ?_
  rw [F2 0 (by decide), F2 1 (by decide), ← f0, ← f1]
  refine tC (id := 504) H2 R2 H2.b rfl (by decide) rfl rfl (by omega) (fun h3 H3 R3 => ?_)
  have o3 : Off [101, 504] X (up X2 504 p (jmax 0 (jmin 9 ((wd (303 + 6 * p) + cnt (nrC wd true 3 p) (N 1)) - cnt (nrC wd false 2 p) (N 1))))) := o2.up (by decide) _ _
  have F3 : ∀ f, f < 2 → up X2 504 p (jmax 0 (jmin 9 ((wd (303 + 6 * p) + cnt (nrC wd true 3 p) (N 1)) - cnt (nrC wd false 2 p) (N 1)))) 101 f = tF W N p f := fun f hf => by rw [up_row _ _ _ (by decide)]; exact F2 f hf
  have R3 : CR (up X2 504 p (jmax 0 (jmin 9 ((wd (303 + 6 * p) + cnt (nrC wd true 3 p) (N 1)) - cnt (nrC wd false 2 p) (N 1))))) W := by rw [← hW]; exact R3
  generalize up X2 504 p (jmax 0 (jmin 9 ((wd (303 + 6 * p) + cnt (nrC wd true 3 p) (N 1)) - cnt (nrC wd false 2 p) (N 1)))) = X3 at *
  refine fP (o := 0) H3 H3.b rfl rfl ?_
  refine fP (o := 4) H3 H3.b rfl rfl ?_
  refine aC (id := 504) H3 R3 H3.b rfl (by decide) rfl rfl (by omega) ?_
  refine c_fs (n := 2) H3 R3 o3 F3 rfl (by decide) rfl (fun X4 h4 H4 R4 o4 F4 => ?_)
  refine fP (o := 0) H4 H4.b rfl rfl ?_
  refine fP (o := 0) H4 H4.b rfl rfl ?_
  refine fC_ (o := 7) H4 R4 H4.b rfl rfl ?_
  refine c_fs (n := 3) H4 R4 o4 F4 rfl (by decide) rfl (fun X5 h5 H5 R5 o5 F5 => ?_)
  refine fP (o := 0) H5 H5.b rfl rfl ?_
  refine fP (o := 0) H5 H5.b rfl rfl ?_
  refine fP (o := 7) H5 H5.b rfl rfl ?_
  refine fP (o := 3) H5 H5.b rfl rfl ?_
  rw [ec]
  refine aC (id := 400) H5 R5 H5.b rfl (by decide) rfl rfl (by omega) ?_
  rw [Nat.one_mul]
  refine c_fs (n := 4) H5 R5 o5 F5 rfl (by decide) (by unfold tF; rw [if_neg (by decide), if_neg (by decide), if_neg (by decide), if_neg (by decide), if_pos rfl, w1 (302 + 6 * p) (by omega), ec, nt_nI (by omega)]) (fun X6 h6 H6 R6 o6 F6 => ?_)
  have e5 : tF W N p 5 = rnd W p := by
    unfold tF
    rw [if_neg (by decide), if_neg (by decide), if_neg (by decide), if_neg (by decide), if_neg (by decide), if_pos rfl]
  have rest : ∀ r, r = tF W N p 5 → w_X0_gatherFacts_160 (A 0) (A 4) (nI c) (oI (nst wd true p (nI c) (N 1))) (A 101) 5 r h6 Qv := by
    intro r hr
    dsimp only [w_X0_gatherFacts_160]
    refine c_fs (n := 5) H6 R6 o6 F6 rfl (by decide) hr (fun X7 h7 H7 R7 o7 F7 => ?_)
    refine fP (o := 0) H7 H7.b rfl rfl ?_
    rw [ec] at fn
    cases e : nst wd true p (nI c) (N 1) with
    | none => exact br_T rfl (c_gfEnd H7 R7 o7 F7 (by rw [f6]; unfold foeFar; rw [fn, e]) k)
    | some q =>
      have hq := nst_lt e
      refine br_F (nI_n1 (m := q) (by omega)) ?_
      refine fP (o := 4) H7 H7.b rfl rfl ?_
      refine aC (id := 503) (n := q) H7 R7 H7.b rfl (by decide) rfl rfl (by omega) ?_
      refine c_far ?_
      refine c_gfEnd H7 R7 o7 F7 ?_ k
      rw [f6]
      unfold foeFar
      rw [fn, e, w1 (302 + 6 * p) (by omega), ec]
  refine fP (o := 0) H6 H6.b rfl rfl ?_
  refine fP (o := 4) H6 H6.b rfl rfl ?_
  refine aC (id := 501) H6 R6 H6.b rfl (by decide) rfl rfl (by omega) ?_
  rw [w1 (301 + 6 * p) (by omega)]
  rcases hgun with eg | ⟨g, hg, eg⟩
  · rw [eg]
    exact br_T rfl (rest 0 (by rw [e5]; unfold rnd; rw [w1 (301 + 6 * p) (by omega), if_pos eg]))
  · rw [eg]
    refine br_F (nI_n1 (m := g) (by omega)) ?_
    refine fP (o := 0) H6 H6.b rfl rfl ?_
    refine fP (o := 7) H6 H6.b rfl rfl ?_
    refine fP (o := 2) H6 H6.b rfl rfl ?_
    refine fP (o := 4) H6 H6.b rfl rfl ?_
    refine aC (id := 501) H6 R6 H6.b rfl (by decide) rfl rfl (by omega) ?_
    rw [w1 (301 + 6 * p) (by omega), eg]
    refine aC (id := 304) (n := g) H6 R6 H6.b rfl (by decide) rfl rfl (by omega) ?_
    refine rest _ ?_
    rw [e5]
    unfold rnd
    rw [w1 (301 + 6 * p) (by omega), eg, if_neg (nI_n1 (m := g) (by omega)), nt_nI (by omega)]
end CFIGHT
