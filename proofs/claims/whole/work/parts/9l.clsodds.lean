/-! holds and odds: the class -/
def BZ (h h' : AH) : Prop := gK h' = gK h ∧ gL h' = gL h ∧ gP h' = gP h ∧ h'.2.2.2.2.2 = h.2.2.2.2.2
theorem BZ.rf (h : AH) : BZ h h := ⟨rfl, rfl, rfl, rfl⟩
theorem BZ.tr {h h' h'' : AH} (a : BZ h h') (b : BZ h' h'') : BZ h h'' := ⟨b.1.trans a.1, b.2.1.trans a.2.1, b.2.2.1.trans a.2.2.1, b.2.2.2.trans a.2.2.2⟩
theorem BZ.hj {h h' : AH} (j : hJ h h') : BZ h h' := ⟨j.1, j.2.1, j.2.2.2.1, j.2.2.2.2⟩
theorem BZ.j3 {h h' : AH} {a3 : Nat} (b : BZ h h') (J : J3 h a3) : J3 h' a3 := ⟨by rw [b.1]; exact J.1, by rw [b.2.1]; exact J.2⟩
def CFt (X : Nat → Nat → Int32) (wd : Nat → Int32) (N : Nat → Nat) : Prop := (∀ j, j < 7 → X 908 j = fcF wd N j) ∧ X 908 7 = fcM wd N 16
def VS (V : Nat → Prop) (E : Nat → List Nat) (SS : Nat → Seg) (n : Nat) : Prop := ∀ v, v < n → V (4 + v) ∧ E (4 + v) = enc (SS v) ++ [10001]
section CODD
variable {A : Nat → Nat} {S : Nat → Prop} {h0 h : AH} {X : Nat → Nat → Int32} {wd : Nat → Int32} {N : Nat → Nat} {SS : Nat → Seg} {Q : Int32 → AH → Prop} {Qv : AH → Prop} {a3 nr : Nat} {V : Nat → Prop} {E : Nat → List Nat} {ps ss qs : Nat → Nat}
theorem PGx.hj {h1 : AH} (P : PGx A S h0 nr V E ps ss qs) (hr : nr ≤ 18) (H : G A S h0 X h) (j : hJ h0 h1) : PGx A S h1 nr V E ps ss qs :=
  P.to hr (lv11 H.b) H.1.2.2.2 (fun id hd => by rw [(H.1.2.1 id hd).1]; exact hd.1) (fun _ _ => rfl) (fun _ z => Or.inl z) (fun _ z => z) (fun b _ => ⟨congrFun j.1 b, congrFun j.2.1 b, fun _ => congrFun j.2.2.2.1 b⟩) (fun u _ => congrFun j.2.2.1 (ss u))
theorem PXf.bz {h' : AH} {p q : Nat} (x : PXf h h' p q) (H : G A S h0 X h) : BZ h0 h' := by
  obtain ⟨x1, x2, x3, x4, x5⟩ := x
  obtain ⟨-, g1, g2, g3, g4, g5, g6⟩ := H
  exact ⟨x1.trans g1, x2.trans g2, x3.trans g3, congrArg Prod.snd (x4.trans g4)⟩
theorem c_isTrue {s : Seg} {v : Nat} (H : G A S h0 X h) (P : PGx A S h0 nr V E ps ss qs) (hr : nr ≤ 18) (F : CFt X wd N) (hv : v < 5) (hV : V (4 + v)) (hE : E (4 + v) = enc s ++ [10001]) (s1 : TY true 19 true s) (s2 : s ≠ []) (s3 : (enc s).length ≤ 400) (k : ∀ h', G A S h' X h' → PGx A S h' nr V E ps ss qs → BZ h0 h' → Q (bI (stT wd N s)) h') : w_X8_isTrue (A 8) (nI v) h Q := by
  have P1 := P.g hr H
  obtain ⟨q1, O, q3⟩ := P1.2.2.1 _ hV
  have e1 : slO (4 + v) = (807, v) := by
    unfold slO
    rw [if_neg (by omega), if_pos (by omega), Nat.add_sub_cancel_left]
  rw [e1] at q1
  dsimp only at q1
  dsimp only [w_X8_isTrue, w_X8_isTrue_29, w_X8_isTrue_30]
  refine fP (o := 8) H H.b rfl rfl ?_
  refine fP (o := 7) H H.b rfl rfl ?_
  refine ⟨H.kd (o := 807) (a := 23) H.b rfl, ?_, ?_⟩
  · rw [H.ln (o := 807) (a := 4) (b := 5) H.b rfl]
    exact vp_in_nI hv (by decide)
  rw [nI_clamp (by omega), q1]
  refine br_F (fun z => by cases z) ⟨_, rfl, ?_⟩
  refine fP (o := 8) H H.b rfl rfl ?_
  refine ⟨O.1, ?_⟩
  rw [hE] at O
  refine c_answer (nf := 8) (fr := X 908) O (P1.2.2.2 _ _ hV hV) ⟨H.kd (o := 908) (a := 19) H.b rfl, H.ln (o := 908) (a := 0) (b := 8) H.b rfl, fun i _ => H.at (id := 908) (a := 19) H.b rfl i⟩ (by decide) (q3 908 ⟨by decide, H.b⟩).2.2 (by rw [List.length_append]; simp only [List.length_cons, List.length_nil]; omega) (good_story (Or.inl rfl) (Or.inl rfl) (F := fcF wd N) ⟨F.1, by decide, (fun z => by cases z), fun _ => ⟨F.2, rfl⟩⟩ s1 s2) (fun h' x => ?_)
  have z := k h' (P1.pg H hV x) (P1.pxf hr H hV x) (PXf.bz x H)
  exact br_bI (fun c => zt z c) (fun c => zf z (by rw [Bool.not_eq_true] at c; exact c))
theorem c_tenT {v : Nat} (H : G A S h0 X h) (R : CR X wd) (O : Ok wd N) (P : PGx A S h0 nr V E ps ss qs) (hr : nr ≤ 18) (F : CFt X wd N) (vs : VS V E SS (N 6)) (so : SOk SS (N 6)) (hv : v < N 6) (k : ∀ h', G A S h' X h' → PGx A S h' nr V E ps ss qs → BZ h0 h' → Q (odA wd (fun j => stT wd N (SS j)) (N 6) v) h') : w_X8_tenThousandths (A 8) (nI v) h Q := by
  obtain ⟨e6, h6⟩ := O.s
  unfold w_X8_tenThousandths
  refine lp_inv (N 6) (fun j (s : Int32 × Int32 × AH) => s.1 = ods wd (fun j => stT wd N (SS j)) j ∧ s.2.1 = nI j ∧ ∃ hb, G A S hb X s.2.2 ∧ PGx A S hb nr V E ps ss qs ∧ BZ h0 hb) (fun j s kk1 hj hI kk => ?_) (fun s kk1 hI => ?_) (Nat.zero_le _) ⟨rfl, rfl, h0, H, P, BZ.rf _⟩
  · obtain ⟨acc, i, h3⟩ := s
    obtain ⟨ea, ei, hb, H3, P3, b3⟩ := hI
    dsimp only at ea ei H3 ⊢
    subst ea ei
    dsimp only [w_X8_tenThousandths_4, w_X8_tenThousandths_37]
    refine fP (o := 8) H3 H3.b rfl rfl ?_
    refine fC_ (o := 7) H3 R H3.b rfl rfl ?_
    rw [e6]
    refine br_go hj (by omega) ?_
    refine vG (o := 8) H3 H3.b rfl ?_
    refine c_isTrue H3 P3 hr F (by omega) (vs j hj).1 (vs j hj).2 (so j hj).1 (so j hj).2.1 (so j hj).2.2 (fun h4 H4 P4 b4 => ?_)
    have key : ∀ w, w = (if stT wd N (SS j) = true then wd (1161 + j) else 0) → kk1 (ods wd (fun j => stT wd N (SS j)) j + w, nI j + 1, h4) := fun w hw => kk _ ⟨by rw [hw]; rfl, (nI_succ j).symm, h4, H4, P4, b3.tr b4⟩
    refine br_bI (fun c => ?_) (fun c => bd_i (key 0 (by rw [if_neg c])))
    refine fP (o := 8) H4 H4.b rfl rfl ?_
    refine fP (o := 7) H4 H4.b rfl rfl ?_
    refine aC (id := 808) H4 R H4.b rfl (by decide) rfl rfl (by omega) ?_
    rw [Nat.one_mul]
    exact bd_i (key _ (by rw [if_pos c]))
  · obtain ⟨acc, i, h3⟩ := s
    obtain ⟨ea, ei, hb, H3, P3, b3⟩ := hI
    dsimp only at ea ei H3 ⊢
    subst ea ei
    dsimp only [w_X8_tenThousandths_4, w_X8_tenThousandths_45, w_X8_tenThousandths_57]
    refine fP (o := 8) H3 H3.b rfl rfl ?_
    refine fC_ (o := 7) H3 R H3.b rfl rfl ?_
    rw [e6]
    refine br_end ?_
    refine br_if (fun w => ?_) (fun w => ?_)
    · have z := k h3 H3.base (P3.g hr H3) (b3.tr ⟨H3.2.1, H3.2.2.1, H3.2.2.2.1, congrArg Prod.snd H3.2.2.2.2.1⟩)
      have c : ¬ stT wd N (SS v) = true := fun c => ods_ne O (T := fun j => stT wd N (SS j)) hv c w
      dsimp only [odA] at z
      rw [if_neg c] at z
      exact z
    · refine vG (o := 8) H3 H3.b rfl ?_
      refine c_isTrue H3 P3 hr F (by omega) (vs v hv).1 (vs v hv).2 (so v hv).1 (so v hv).2.1 (so v hv).2.2 (fun h4 H4 P4 b4 => ?_)
      have z := k h4 H4 P4 (b3.tr b4)
      dsimp only [odA] at z
      refine br_bI (fun c => ?_) (fun c => ?_)
      · refine fP (o := 8) H4 H4.b rfl rfl ?_
        refine fP (o := 7) H4 H4.b rfl rfl ?_
        refine aC (id := 808) H4 R H4.b rfl (by decide) rfl rfl (by omega) ?_
        rw [Nat.one_mul]
        rw [if_pos c] at z
        exact ⟨w, z⟩
      · rw [if_neg c] at z
        exact z
theorem L_odds (H : G A S h0 X h) (R : CR X wd) (O : Ok wd N) (J : J3 h0 a3) (P : PGx A S h0 nr V E ps ss qs) (hr : nr ≤ 18) (vs : VS V E SS (N 6)) (so : SOk SS (N 6)) {v : Int32} (k : ∀ h1 X' h', G A S h1 X' h' → PGx A S h1 nr V E ps ss qs → BZ h0 h1 → OC X X' → ((oddS wd N (fun j => stT wd N (SS j)) v).1 = 0 → gJ h' a3 0 = (oddS wd N (fun j => stT wd N (SS j)) v).2.toInt64) → Q (oddS wd N (fun j => stT wd N (SS j)) v).1 h') : w_L_odds (A 11) v a3 h Q := by
  obtain ⟨e6, h6⟩ := O.s
  dsimp only [w_L_odds, w_X11_odds, w_L_odds_12]
  refine vG (o := 11) H H.b rfl ?_
  refine fP (o := 11) H H.b rfl rfl ?_
  refine fC_ (o := 7) H R H.b rfl rfl ?_
  rw [e6]
  refine c_num (by omega) (fun c => ?_) (fun c => ?_)
  · rw [oddS, cIf_t c] at k
    obtain ⟨v, hv, rfl⟩ := c
    rw [nt_nI (by omega)] at k
    refine fP (o := 11) H H.b rfl rfl ?_
    refine vG (o := 8) H H.b rfl ?_
    refine c_gatherFacts H R O (fun X1 h1 H1 o1 F1 F2 => ?_)
    refine fP (o := 11) H1 H1.b rfl rfl ?_
    refine vG (o := 8) H1 H1.b rfl ?_
    refine c_tenT H1 (R.offL o1 (by decide)) O P hr ⟨F1, F2⟩ vs so hv (fun h2 H2 P2 b2 => ?_)
    exact tJG H2 (b2.j3 J) (fun h3 h' H' j1 j2 => k h3 X1 h' H' (P2.hj hr H2 j1) (b2.tr (BZ.hj j1)) (o1.mono (by decide)) (fun _ => j2))
  · rw [oddS, cIf_f c] at k
    exact br_T rfl (fun q => k h0 X h H P (BZ.rf _) (Off.rf _ _) (fun z => absurd z (by decide)))
theorem L_holds (H : G A S h0 X h) (R : CR X wd) (O : Ok wd N) (J : J3 h0 a3) (P : PGx A S h0 nr V E ps ss qs) (hr : nr ≤ 18) (vs : VS V E SS (N 6)) (so : SOk SS (N 6)) {v : Int32} (k : ∀ h1 X' h', G A S h1 X' h' → PGx A S h1 nr V E ps ss qs → BZ h0 h1 → OC X X' → ((hldS wd N (fun j => stT wd N (SS j)) v).1 = 0 → gJ h' a3 0 = (hldS wd N (fun j => stT wd N (SS j)) v).2.toInt64) → Q (hldS wd N (fun j => stT wd N (SS j)) v).1 h') : w_L_holds (A 11) v a3 h Q := by
  obtain ⟨e6, h6⟩ := O.s
  dsimp only [w_L_holds, w_X11_holds, w_L_holds_19, w_L_holds_15]
  refine vG (o := 11) H H.b rfl ?_
  refine fP (o := 11) H H.b rfl rfl ?_
  refine fC_ (o := 7) H R H.b rfl rfl ?_
  rw [e6]
  refine c_num (by omega) (fun c => ?_) (fun c => ?_)
  · rw [hldS, cIf_t c] at k
    obtain ⟨v, hv, rfl⟩ := c
    rw [nt_nI (by omega)] at k
    refine fP (o := 11) H H.b rfl rfl ?_
    refine vG (o := 8) H H.b rfl ?_
    refine c_gatherFacts H R O (fun X1 h1 H1 o1 F1 F2 => ?_)
    refine fP (o := 11) H1 H1.b rfl rfl ?_
    refine vG (o := 8) H1 H1.b rfl ?_
    refine c_isTrue H1 P hr ⟨F1, F2⟩ (by omega) (vs v hv).1 (vs v hv).2 (so v hv).1 (so v hv).2.1 (so v hv).2.2 (fun h2 H2 P2 b2 => ?_)
    cases c : stT wd N (SS v) with
    | true =>
      rw [c] at k
      exact ⟨Or.inr rfl, br_F (by decide) (tJG H2 (b2.j3 J) (fun h3 h' H' j1 j2 => k h3 X1 h' H' (P2.hj hr H2 j1) (b2.tr (BZ.hj j1)) (o1.mono (by decide)) (fun _ => j2)))⟩
    | false =>
      rw [c] at k
      exact ⟨Or.inl rfl, br_T (by decide) (tJG H2 (b2.j3 J) (fun h3 h' H' j1 j2 => k h3 X1 h' H' (P2.hj hr H2 j1) (b2.tr (BZ.hj j1)) (o1.mono (by decide)) (fun _ => j2)))⟩
  · rw [hldS, cIf_f c] at k
    exact br_T rfl (fun q => k h0 X h H P (BZ.rf _) (Off.rf _ _) (fun z => absurd z (by decide)))
end CODD
