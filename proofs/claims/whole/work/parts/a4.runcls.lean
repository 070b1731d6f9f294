/-! run: the class -/
section CRUN
variable {A : Nat → Nat} {S : Nat → Prop} {h0 h : AH} {X : Nat → Nat → Int32} {wd : Nat → Int32} {N : Nat → Nat} {LL : Nat → List (Nat × Seg)} {Q : Int32 → AH → Prop} {Qv : AH → Prop} {nr a3 : Nat} {V : Nat → Prop} {E : Nat → List Nat} {ps ss qs : Nat → Nat}
theorem c_minute (H : G A S h0 X h) (R : CR X wd) (O : Ok wd N) (P : PGx A S h0 nr V E ps ss qs) (hr : nr ≤ 18) (vl : VL V E LL (N 2)) (hO : LKs LL (N 2)) (h7 : N 7 + 1 ≤ 239) (k : ∀ hb X' h', G A S hb X' h' → PGx A S hb nr V E ps ss qs → BZ h0 hb → CR X' (mnW (va_up wd 7 (wd 7 + 1)) N LL (N 1)) → SC X X' → Qv h') : vr h (A 0) 0 (w_X0_goMinute (A 0) h Qv) := by
  have hP := O.p.2
  refine vG (o := 0) H H.b rfl ?_
  dsimp only [w_X0_goMinute]
  refine fP (o := 0) H H.b rfl rfl ?_
  refine fC_ (o := 7) H R H.b rfl rfl ?_
  refine uC (o := 7) H R H.b rfl rfl (fun h1 H1 R1 => ?_)
  have s1 : SC X (up X 7 12 (wd 7 + 1)) := SC.of ((ST.rf X).up (by decide) _ _)
  generalize up X 7 12 (wd 7 + 1) = X1 at *
  have O1 := mi_ok O h7
  have m1 : va_up N 7 (N 7 + 1) 1 = N 1 := va_ne (by decide)
  have m2 : va_up N 7 (N 7 + 1) 2 = N 2 := va_ne (by decide)
  rw [← mnW_N m1] at k
  rw [← m2] at vl hO
  rw [← m1] at k
  generalize va_up wd 7 (wd 7 + 1) = W at *
  generalize va_up N 7 (N 7 + 1) = N1 at *
  have hP1 := O1.p.2
  refine lp_inv (N1 1) (fun j (s : Int32 × AH) => s.1 = nI j ∧ ∃ hb X', G A S hb X' s.2 ∧ PGx A S hb nr V E ps ss qs ∧ BZ h0 hb ∧ CR X' (mnW W N1 LL j) ∧ SC X X') (fun j s kk1 hj hI kk => ?_) (fun s kk1 hI => ?_) (Nat.zero_le _) ⟨rfl, h0, X1, H1, P, BZ.rf _, R1, s1⟩
  · obtain ⟨v, h2⟩ := s
    obtain ⟨e1, hb, X2, H2, P2, b2, R2, s2⟩ := hI
    dsimp only at e1 H2 ⊢
    subst e1
    obtain ⟨⟨n, o⟩, e⟩ := mn_ok (LL := LL) O1 (Nat.le_of_lt hj)
    have n1 : va_up N1 3 n 1 = N1 1 := va_ne (by decide)
    have n2 : va_up N1 3 n 2 = N1 2 := va_ne (by decide)
    have w1 : mnW W N1 LL j 1 = nI (N1 1) := o.p.1.trans (congrArg nI n1)
    dsimp only [w_X0_goMinute_15, w_X0_goMinute_55]
    refine fP (o := 0) H2 H2.b rfl rfl ?_
    refine fP (o := 7) H2 H2.b rfl rfl ?_
    refine fC_ (o := 4) H2 R2 H2.b rfl rfl ?_
    rw [w1]
    refine br_go hj (by omega) ?_
    refine fP (o := 0) H2 H2.b rfl rfl ?_
    refine fP (o := 7) H2 H2.b rfl rfl ?_
    refine fP (o := 4) H2 H2.b rfl rfl ?_
    refine aC (id := 506) H2 R2 H2.b rfl (by decide) rfl rfl (by omega) ?_
    have ku : mnW W N1 LL (j + 1) = if mnW W N1 LL j (304 + 6 * j) = 1 then actW (mnW W N1 LL j) N1 LL j else mnW W N1 LL j := rfl
    refine br_if (fun c => ?_) (fun c => ?_)
    · rw [if_pos c] at ku
      refine c_turn (LL := LL) H2 R2 o (by rw [n1]; exact hj) P2 hr (by rw [n2]; exact vl) (by rw [n2]; exact hO) (fun hc X3 h3 H3 P3 b3 R3 s3 => ?_)
      rw [act_N n1, ← ku] at R3
      exact kk _ ⟨(nI_succ j).symm, hc, X3, H3, P3, b2.tr b3, R3, s2.tr s3.sc⟩
    · rw [if_neg c] at ku
      rw [← ku] at R2
      exact kk _ ⟨(nI_succ j).symm, hb, X2, H2, P2, b2, R2, s2⟩
  · obtain ⟨v, h2⟩ := s
    obtain ⟨e1, hb, X2, H2, P2, b2, R2, s2⟩ := hI
    dsimp only at e1 H2 ⊢
    subst e1
    obtain ⟨⟨n, o⟩, e⟩ := mn_ok (LL := LL) O1 (Nat.le_refl (N1 1))
    have n1 : va_up N1 3 n 1 = N1 1 := va_ne (by decide)
    have w1 : mnW W N1 LL (N1 1) 1 = nI (N1 1) := o.p.1.trans (congrArg nI n1)
    dsimp only [w_X0_goMinute_15, w_X0_goMinute_61]
    refine fP (o := 0) H2 H2.b rfl rfl ?_
    refine fP (o := 7) H2 H2.b rfl rfl ?_
    refine fC_ (o := 4) H2 R2 H2.b rfl rfl ?_
    rw [w1]
    exact br_end (k hb X2 h2 H2 P2 b2 R2 s2)
theorem L_run (H : G A S h0 X h) (R : CR X wd) (O : Ok wd N) (J : J3 h0 a3) (P : PGx A S h0 nr V E ps ss qs) (hr : nr ≤ 18) (vl : VL V E LL (N 2)) (hO : LKs LL (N 2)) {v : Int32} (k : ∀ hb X' h', G A S hb X' h' → PGx A S hb nr V E ps ss qs → BZ h0 hb → SC X X' → CR X' (runW wd N LL v) → ((runS wd v).1 = 0 → gJ h' a3 0 = (runS wd v).2.toInt64) → Q (runS wd v).1 h') : w_L_run (A 11) v a3 h Q := by
  dsimp only [w_L_run, w_X11_run]
  refine vG (o := 11) H H.b rfl ?_
  have kf : ¬ rnC wd v → ∀ q : Nat, w_L_run_12 q h Q := by
    intro c q
    rw [runS, runW, cIf_f c, cIf_f c] at k
    exact k h0 X h H P (BZ.rf _) (SC.of (ST.rf _)) R (fun z => absurd z (by decide))
  refine c_wi (fun c1 => br_F (by decide) ?_) (fun c1 => br_T rfl ?_)
  · refine fP (o := 11) H H.b rfl rfl ?_
    refine fC_ (o := 7) H R H.b rfl rfl ?_
    refine br_if (fun c2 => ?_) (fun c2 => ?_)
    · dsimp only [w_X11_run_29, w_X11_run_30]
      exact c_ne0 (br_T rfl (kf (fun z => Int32.not_lt.mpr z.2 c2)))
    have c : rnC wd v := ⟨c1, Int32.not_lt.mp c2⟩
    obtain ⟨ev, b, b2⟩ := rnC_n O c
    have e7 := rn_7 (LL := LL) O c
    rw [runS, runW, cIf_t c, cIf_t c] at k
    dsimp only [w_X11_run_30]
    refine c_ne1 ?_
    generalize hn : nt v = n at *
    subst ev
    refine lp_inv n (fun j (s : Int32 × AH) => s.1 = nI j ∧ ∃ hb X', G A S hb X' s.2 ∧ PGx A S hb nr V E ps ss qs ∧ BZ h0 hb ∧ CR X' (rnW wd N LL j) ∧ SC X X') (fun j s kk1 hj hI kk => ?_) (fun s kk1 hI => ?_) (Nat.zero_le _) ⟨rfl, h0, X, H, P, BZ.rf _, R, SC.of (ST.rf _)⟩
    · obtain ⟨v, h2⟩ := s
      obtain ⟨e1, hb, X2, H2, P2, q2, R2, s2⟩ := hI
      dsimp only at e1 H2 ⊢
      subst e1
      obtain ⟨⟨m, o⟩, e⟩ := rn_ok (LL := LL) (j := j) O (by omega)
      have n7 : va_up (va_up N 7 (N 7 + j)) 3 m 7 = N 7 + j := by rw [va_ne (by decide), va_up_self]
      have n1 : va_up (va_up N 7 (N 7 + j)) 3 m 1 = N 1 := by rw [va_ne (by decide), va_ne (by decide)]
      have n2 : va_up (va_up N 7 (N 7 + j)) 3 m 2 = N 2 := by rw [va_ne (by decide), va_ne (by decide)]
      dsimp only [w_X11_run_35]
      refine br_go hj (by omega) ?_
      refine fP (o := 11) H2 H2.b rfl rfl ?_
      refine c_minute (LL := LL) H2 R2 o P2 hr (by rw [n2]; exact vl) (by rw [n2]; exact hO) (by rw [n7]; omega) (fun hc X3 h3 H3 P3 q3 R3 s3 => ?_)
      rw [n1, mnW_N n1] at R3
      exact kk _ ⟨(nI_succ j).symm, hc, X3, H3, P3, q2.tr q3, R3, s2.tr s3⟩
    · obtain ⟨v, h2⟩ := s
      obtain ⟨e1, hb, X2, H2, P2, q2, R2, s2⟩ := hI
      dsimp only at e1 H2 ⊢
      subst e1
      dsimp only [w_X11_run_35, w_X11_run_53]
      refine br_end ?_
      refine fP (o := 11) H2 H2.b rfl rfl ?_
      refine fC_ (o := 7) H2 R2 H2.b rfl rfl ?_
      rw [e7]
      exact tJG H2 (q2.j3 J) (fun h1 h3 H3 j1 j2 => k h1 X2 h3 H3 (P2.hj hr H2 j1) (q2.tr (BZ.hj j1)) s2 R2 (fun _ => j2))
  · dsimp only [w_X11_run_29, w_X11_run_30]
    exact c_ne0 (br_T rfl (kf (fun z => c1 z.1)))
end CRUN
