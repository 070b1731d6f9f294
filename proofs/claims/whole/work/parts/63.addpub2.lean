/-! tells, found, other, when, day, seed, machine -/
section ADDPUB2
variable {A : Nat → Nat} {S : Nat → Prop} {h0 h : AH} {X : Nat → Nat → Int32} {wd : Nat → Int32} {N : Nat → Nat} {Q : Int32 → AH → Prop} {Qv : AH → Prop} {a3 : Nat}
noncomputable def tellsS (N : Nat → Nat) (a b c : Int32) : Int32 × Int32 := cIf (isN a (N 4) ∧ isN b 256) (cIf (inR c 0 239) (cIf (N 5 < 20) (0, nI (N 5)) (3, 0)) (2, 0)) (1, 0)
def tsC (N : Nat → Nat) (a b c : Int32) : Prop := (isN a (N 4) ∧ isN b 256) ∧ inR c 0 239 ∧ N 5 < 20
noncomputable def tellsW (wd : Nat → Int32) (N : Nat → Nat) (a b c : Int32) : Nat → Int32 := cIf (tsC N a b c) (addL wd (N 5) a b c) wd
noncomputable def tellsN (N : Nat → Nat) (a b c : Int32) : Nat → Nat := cIf (tsC N a b c) (va_up N 5 (N 5 + 1)) N
theorem tells_ok (O : Ok wd N) {a b c : Int32} : Ok (tellsW wd N a b c) (tellsN N a b c) := by
  unfold tellsW tellsN
  by_cases e : tsC N a b c
  · rw [cIf_t e, cIf_t e]
    obtain ⟨⟨h1, h2⟩, h3, h4⟩ := e
    exact O.addL h4 h1 (isN_bn (M := 255) (by decide) h2) (inR_bn (M := 239) (by decide) h3)
  · rw [cIf_f e, cIf_f e]
    exact O
theorem L_tells (H : G A S h0 X h) (R : CR X wd) (O : Ok wd N) (J : J3 h0 a3) {a b c : Int32} (k : ∀ h1 X' h', G A S h1 X' h' → hJ h0 h1 → SC X X' → CR X' (tellsW wd N a b c) → ((tellsS N a b c).1 = 0 → gJ h' a3 0 = (tellsS N a b c).2.toInt64) → Q (tellsS N a b c).1 h') : w_L_tells (A 11) a b c a3 h Q := by
  obtain ⟨e4, h4⟩ := O.t
  obtain ⟨e5, h5⟩ := O.o
  have kf : ¬ (isN a (N 4) ∧ isN b 256) → Q 1 h := by
    intro z
    rw [tellsS, tellsW, cIf_f z, cIf_f (show ¬ tsC N a b c from fun y => z y.1)] at k
    exact k _ _ _ H (hJ.rf _) (SC.of (ST.rf _)) R (fun z => absurd z (by decide))
  dsimp only [w_L_tells_23, w_L_tells_19, w_L_tells_15, w_L_tells, w_X11_tells]
  (repeat (first | with_reducible refine bd_i ?_ | with_reducible refine fP H (by with_unfolding_all first | exact H.b | exact hS) (by with_unfolding_all rfl) (by with_unfolding_all rfl) ?_ | with_reducible refine vG H (by with_unfolding_all first | exact H.b | exact hS) (by with_unfolding_all rfl) ?_ | with_reducible refine fC_ H R (by with_unfolding_all exact H.b) (by with_unfolding_all rfl) (by with_unfolding_all rfl) ?_ | with_reducible refine aC H R (by with_unfolding_all exact H.b) (by with_unfolding_all rfl) (by decide) (by with_unfolding_all rfl) rfl (by omega) ?_ | with_reducible refine fG H (by with_unfolding_all first | exact H.b | exact hS) (by with_unfolding_all rfl) ?_ | with_reducible refine aG H (by with_unfolding_all first | exact H.b | exact hS) (by with_unfolding_all rfl) (by decide) rfl (by omega) ?_))
  rw [e4]
  refine c_num (by omega) (fun c1 => ?_) (fun c1 => br_T rfl (fun q => kf (fun z => c1 z.1)))
  refine c_cell (fun c2 => ?_) (fun c2 => br_T rfl (fun q => kf (fun z => c2 z.2)))
  refine c_wi (fun c3 => c_ne1 ?_) (fun c3 => c_ne0 ?_)
  · (repeat (first | with_reducible refine bd_i ?_ | with_reducible refine fP H (by with_unfolding_all first | exact H.b | exact hS) (by with_unfolding_all rfl) (by with_unfolding_all rfl) ?_ | with_reducible refine vG H (by with_unfolding_all first | exact H.b | exact hS) (by with_unfolding_all rfl) ?_ | with_reducible refine fC_ H R (by with_unfolding_all exact H.b) (by with_unfolding_all rfl) (by with_unfolding_all rfl) ?_ | with_reducible refine aC H R (by with_unfolding_all exact H.b) (by with_unfolding_all rfl) (by decide) (by with_unfolding_all rfl) rfl (by omega) ?_ | with_reducible refine fG H (by with_unfolding_all first | exact H.b | exact hS) (by with_unfolding_all rfl) ?_ | with_reducible refine aG H (by with_unfolding_all first | exact H.b | exact hS) (by with_unfolding_all rfl) (by decide) rfl (by omega) ?_))
    rw [e5]
    refine c_room (m := 20) (by omega) (by decide) (fun c5 => ?_) (fun c5 => ?_)
    · rw [tellsS, tellsW, cIf_t (show isN a (N 4) ∧ isN b 256 from ⟨c1, c2⟩), cIf_t c3, cIf_t c5, cIf_t (show tsC N a b c from ⟨⟨c1, c2⟩, c3, c5⟩)] at k
      (repeat (first | with_reducible refine bd_i ?_ | with_reducible refine fP H (by with_unfolding_all first | exact H.b | exact hS) (by with_unfolding_all rfl) (by with_unfolding_all rfl) ?_ | with_reducible refine vG H (by with_unfolding_all first | exact H.b | exact hS) (by with_unfolding_all rfl) ?_ | with_reducible refine fC_ H R (by with_unfolding_all exact H.b) (by with_unfolding_all rfl) (by with_unfolding_all rfl) ?_ | with_reducible refine aC H R (by with_unfolding_all exact H.b) (by with_unfolding_all rfl) (by decide) (by with_unfolding_all rfl) rfl (by omega) ?_ | with_reducible refine fG H (by with_unfolding_all first | exact H.b | exact hS) (by with_unfolding_all rfl) ?_ | with_reducible refine aG H (by with_unfolding_all first | exact H.b | exact hS) (by with_unfolding_all rfl) (by decide) rfl (by omega) ?_))
      refine c_addTelling H R e5 c5 (fun X1 h1 H1 R1 s1 => ?_)
      exact tJG H1 J (fun h2 h' H' j1 j2 => k h2 X1 h' H' j1 (SC.of s1) R1 (fun _ => j2))
    · rw [tellsS, tellsW, cIf_t (show isN a (N 4) ∧ isN b 256 from ⟨c1, c2⟩), cIf_t c3, cIf_f c5, cIf_f (show ¬ tsC N a b c from fun z => c5 z.2.2)] at k
      exact br_F (by decide) (br_F (by decide) (br_T rfl (fun q => k _ _ _ H (hJ.rf _) (SC.of (ST.rf _)) R (fun z => absurd z (by decide)))))
  · rw [tellsS, tellsW, cIf_t (show isN a (N 4) ∧ isN b 256 from ⟨c1, c2⟩), cIf_f c3, cIf_f (show ¬ tsC N a b c from fun z => c3 z.2.1)] at k
    exact br_F (by decide) (br_T rfl (fun q => k _ _ _ H (hJ.rf _) (SC.of (ST.rf _)) R (fun z => absurd z (by decide))))
theorem m_tells_ (H : G A S h0 X h) (M : MR X wd) (O : Ok wd N) {a b c : Int32} (k : ∀ X' h', G A S h0 X' h' → OW X X' → MR X' (tellsW wd N a b c) → X' 12 0 = (tellsS N a b c).1 → Q (tellsS N a b c).2 h') : w_X12_tells (A 12) a b c h Q := by
  obtain ⟨e4, h4⟩ := O.t
  obtain ⟨e5, h5⟩ := O.o
  dsimp only [w_X12_tells_82, w_X12_tells_75, w_X12_tells_51, w_X12_tells_27, w_X12_tells_22, w_X12_tells]
  refine m_ent H M (fun X1 h1 H1 M1 o1 t1 => ?_)
  clear H M
  have H := H1
  have M := M1
  have kf : ¬ (isN a (N 4) ∧ isN b 256) → ∀ K : Int32 → AH → Prop, (∀ h2, K 1 h2 = Q 0 h2) → vr h1 (A 12) 12 (w_X12_throwsIf (A 12) 1 1 h1 K) := by
    intro z K hK
    rw [tellsS, tellsW, cIf_f z, cIf_f (show ¬ tsC N a b c from fun y => z y.1)] at k
    refine vG (o := 12) H H.b rfl ?_
    refine thr1 H (fun h2 H2 => ?_)
    rw [hK]
    exact k _ _ H2 ((OW.of o1).th 1) (M.off (id := 12) (by decide) 0 1) (up_same _ _ _ _)
  (repeat (first | with_reducible refine bd_i ?_ | with_reducible refine fP H (by with_unfolding_all exact H.b) (by with_unfolding_all rfl) (by with_unfolding_all rfl) ?_ | with_reducible refine vG H (by with_unfolding_all exact H.b) (by with_unfolding_all rfl) ?_ | with_reducible refine aM H M rfl (by omega) ?_ | with_reducible refine aM H M (ix0 0) (by omega) ?_ | with_reducible refine aM H M (ix0 1) (by omega) ?_ | with_reducible refine aM H M (ix0 2) (by omega) ?_ | with_reducible refine aM H M (ix0 3) (by omega) ?_ | with_reducible refine aM H M (ix0 4) (by omega) ?_ | with_reducible refine aM H M (ix0 5) (by omega) ?_ | with_reducible refine aM H M (ix0 6) (by omega) ?_ | with_reducible refine aM H M (ix0 7) (by omega) ?_ | with_reducible refine aM H M (ix0 8) (by omega) ?_ | with_reducible refine aM H M (ix0 9) (by omega) ?_ | with_reducible refine aM H M (ix0 10) (by omega) ?_ | with_reducible refine aM H M (ix0 11) (by omega) ?_ | with_reducible refine aM H M (ix0 12) (by omega) ?_ | with_reducible refine aM H M (ix1 13 _) (by omega) ?_ | with_reducible refine aM H M (ix1 1161 _) (by omega) ?_ | with_reducible refine aM H M (ix2 269 4 _) (by omega) ?_ | with_reducible refine aM H M (ix4 269 4 _ 1) (by omega) ?_ | with_reducible refine aM H M (ix4 269 4 _ 2) (by omega) ?_ | with_reducible refine aM H M (ix4 269 4 _ 3) (by omega) ?_ | with_reducible refine fG H (by with_unfolding_all exact H.b) (by with_unfolding_all rfl) ?_ | with_reducible refine aG H (by with_unfolding_all exact H.b) (by with_unfolding_all rfl) (by decide) rfl (by omega) ?_))
  refine m_num H M (ix0 4) (by decide) (by omega) e4 (fun c1 => br_T rfl ?_) (fun c1 => br_F (by decide) (kf (fun z => c1 z.1) _ (fun h2 => br10 _ _)))
  refine m_cell (fun c2 => br_T rfl ?_) (fun c2 => br_F (by decide) (kf (fun z => c2 z.2) _ (fun h2 => br10 _ _)))
  (repeat (first | with_reducible refine thr0 ?_ | with_reducible refine br_T rfl ?_ | with_reducible refine bd_i ?_ | with_reducible refine fP H (by with_unfolding_all exact H.b) (by with_unfolding_all rfl) (by with_unfolding_all rfl) ?_ | with_reducible refine vG H (by with_unfolding_all exact H.b) (by with_unfolding_all rfl) ?_ | with_reducible refine aM H M rfl (by omega) ?_ | with_reducible refine aM H M (ix0 0) (by omega) ?_ | with_reducible refine aM H M (ix0 1) (by omega) ?_ | with_reducible refine aM H M (ix0 2) (by omega) ?_ | with_reducible refine aM H M (ix0 3) (by omega) ?_ | with_reducible refine aM H M (ix0 4) (by omega) ?_ | with_reducible refine aM H M (ix0 5) (by omega) ?_ | with_reducible refine aM H M (ix0 6) (by omega) ?_ | with_reducible refine aM H M (ix0 7) (by omega) ?_ | with_reducible refine aM H M (ix0 8) (by omega) ?_ | with_reducible refine aM H M (ix0 9) (by omega) ?_ | with_reducible refine aM H M (ix0 10) (by omega) ?_ | with_reducible refine aM H M (ix0 11) (by omega) ?_ | with_reducible refine aM H M (ix0 12) (by omega) ?_ | with_reducible refine aM H M (ix1 13 _) (by omega) ?_ | with_reducible refine aM H M (ix1 1161 _) (by omega) ?_ | with_reducible refine aM H M (ix2 269 4 _) (by omega) ?_ | with_reducible refine aM H M (ix4 269 4 _ 1) (by omega) ?_ | with_reducible refine aM H M (ix4 269 4 _ 2) (by omega) ?_ | with_reducible refine aM H M (ix4 269 4 _ 3) (by omega) ?_ | with_reducible refine fG H (by with_unfolding_all exact H.b) (by with_unfolding_all rfl) ?_ | with_reducible refine aG H (by with_unfolding_all exact H.b) (by with_unfolding_all rfl) (by decide) rfl (by omega) ?_))
  refine m_rng (fun c3 => br_F (by decide) ?_) (fun c3 => br_T rfl ?_)
  · (repeat (first | with_reducible refine thr0 ?_ | with_reducible refine br_T rfl ?_ | with_reducible refine bd_i ?_ | with_reducible refine fP H (by with_unfolding_all exact H.b) (by with_unfolding_all rfl) (by with_unfolding_all rfl) ?_ | with_reducible refine vG H (by with_unfolding_all exact H.b) (by with_unfolding_all rfl) ?_ | with_reducible refine aM H M rfl (by omega) ?_ | with_reducible refine aM H M (ix0 0) (by omega) ?_ | with_reducible refine aM H M (ix0 1) (by omega) ?_ | with_reducible refine aM H M (ix0 2) (by omega) ?_ | with_reducible refine aM H M (ix0 3) (by omega) ?_ | with_reducible refine aM H M (ix0 4) (by omega) ?_ | with_reducible refine aM H M (ix0 5) (by omega) ?_ | with_reducible refine aM H M (ix0 6) (by omega) ?_ | with_reducible refine aM H M (ix0 7) (by omega) ?_ | with_reducible refine aM H M (ix0 8) (by omega) ?_ | with_reducible refine aM H M (ix0 9) (by omega) ?_ | with_reducible refine aM H M (ix0 10) (by omega) ?_ | with_reducible refine aM H M (ix0 11) (by omega) ?_ | with_reducible refine aM H M (ix0 12) (by omega) ?_ | with_reducible refine aM H M (ix1 13 _) (by omega) ?_ | with_reducible refine aM H M (ix1 1161 _) (by omega) ?_ | with_reducible refine aM H M (ix2 269 4 _) (by omega) ?_ | with_reducible refine aM H M (ix4 269 4 _ 1) (by omega) ?_ | with_reducible refine aM H M (ix4 269 4 _ 2) (by omega) ?_ | with_reducible refine aM H M (ix4 269 4 _ 3) (by omega) ?_ | with_reducible refine fG H (by with_unfolding_all exact H.b) (by with_unfolding_all rfl) ?_ | with_reducible refine aG H (by with_unfolding_all exact H.b) (by with_unfolding_all rfl) (by decide) rfl (by omega) ?_))
    rw [e5]
    refine br_Eq (b := 20) (by omega) (by decide) (fun c5 => ?_) (fun c5 => ?_)
    · rw [tellsS, tellsW, cIf_t (show isN a (N 4) ∧ isN b 256 from ⟨c1, c2⟩), cIf_t c3, cIf_f (show ¬ N 5 < 20 by omega), cIf_f (show ¬ tsC N a b c from fun z => by have := z.2.2; omega)] at k
      (repeat (first | with_reducible refine bd_i ?_ | with_reducible refine fP H (by with_unfolding_all exact H.b) (by with_unfolding_all rfl) (by with_unfolding_all rfl) ?_ | with_reducible refine vG H (by with_unfolding_all exact H.b) (by with_unfolding_all rfl) ?_ | with_reducible refine aM H M rfl (by omega) ?_ | with_reducible refine aM H M (ix0 0) (by omega) ?_ | with_reducible refine aM H M (ix0 1) (by omega) ?_ | with_reducible refine aM H M (ix0 2) (by omega) ?_ | with_reducible refine aM H M (ix0 3) (by omega) ?_ | with_reducible refine aM H M (ix0 4) (by omega) ?_ | with_reducible refine aM H M (ix0 5) (by omega) ?_ | with_reducible refine aM H M (ix0 6) (by omega) ?_ | with_reducible refine aM H M (ix0 7) (by omega) ?_ | with_reducible refine aM H M (ix0 8) (by omega) ?_ | with_reducible refine aM H M (ix0 9) (by omega) ?_ | with_reducible refine aM H M (ix0 10) (by omega) ?_ | with_reducible refine aM H M (ix0 11) (by omega) ?_ | with_reducible refine aM H M (ix0 12) (by omega) ?_ | with_reducible refine aM H M (ix1 13 _) (by omega) ?_ | with_reducible refine aM H M (ix1 1161 _) (by omega) ?_ | with_reducible refine aM H M (ix2 269 4 _) (by omega) ?_ | with_reducible refine aM H M (ix4 269 4 _ 1) (by omega) ?_ | with_reducible refine aM H M (ix4 269 4 _ 2) (by omega) ?_ | with_reducible refine aM H M (ix4 269 4 _ 3) (by omega) ?_ | with_reducible refine fG H (by with_unfolding_all exact H.b) (by with_unfolding_all rfl) ?_ | with_reducible refine aG H (by with_unfolding_all exact H.b) (by with_unfolding_all rfl) (by decide) rfl (by omega) ?_))
      exact thr1 H (fun h2 H2 => br_F (by decide) (k _ _ H2 ((OW.of o1).th 3) (M.off (id := 12) (by decide) 0 3) (up_same _ _ _ _)))
    · have c5 : N 5 < 20 := by omega
      rw [tellsS, tellsW, cIf_t (show isN a (N 4) ∧ isN b 256 from ⟨c1, c2⟩), cIf_t c3, cIf_t c5, cIf_t (show tsC N a b c from ⟨⟨c1, c2⟩, c3, c5⟩)] at k
      (repeat (first | with_reducible refine thr0 ?_ | with_reducible refine bd_i ?_ | with_reducible refine fP H (by with_unfolding_all exact H.b) (by with_unfolding_all rfl) (by with_unfolding_all rfl) ?_ | with_reducible refine vG H (by with_unfolding_all exact H.b) (by with_unfolding_all rfl) ?_ | with_reducible refine aM H M rfl (by omega) ?_ | with_reducible refine aM H M (ix0 0) (by omega) ?_ | with_reducible refine aM H M (ix0 1) (by omega) ?_ | with_reducible refine aM H M (ix0 2) (by omega) ?_ | with_reducible refine aM H M (ix0 3) (by omega) ?_ | with_reducible refine aM H M (ix0 4) (by omega) ?_ | with_reducible refine aM H M (ix0 5) (by omega) ?_ | with_reducible refine aM H M (ix0 6) (by omega) ?_ | with_reducible refine aM H M (ix0 7) (by omega) ?_ | with_reducible refine aM H M (ix0 8) (by omega) ?_ | with_reducible refine aM H M (ix0 9) (by omega) ?_ | with_reducible refine aM H M (ix0 10) (by omega) ?_ | with_reducible refine aM H M (ix0 11) (by omega) ?_ | with_reducible refine aM H M (ix0 12) (by omega) ?_ | with_reducible refine aM H M (ix1 13 _) (by omega) ?_ | with_reducible refine aM H M (ix1 1161 _) (by omega) ?_ | with_reducible refine aM H M (ix2 269 4 _) (by omega) ?_ | with_reducible refine aM H M (ix4 269 4 _ 1) (by omega) ?_ | with_reducible refine aM H M (ix4 269 4 _ 2) (by omega) ?_ | with_reducible refine aM H M (ix4 269 4 _ 3) (by omega) ?_ | with_reducible refine fG H (by with_unfolding_all exact H.b) (by with_unfolding_all rfl) ?_ | with_reducible refine aG H (by with_unfolding_all exact H.b) (by with_unfolding_all rfl) (by decide) rfl (by omega) ?_))
      refine br_T rfl ?_
      refine ldM H M 5 (ix0 5) (by decide) e5 ?_
      refine bd_i ?_
      rw [ix2 1101 3]
      refine adM H M (1101 + 3 * N 5) rfl (by omega) (fun h2 H2 M2 => ?_)
      refine adM H2 M2 (1102 + 3 * N 5) (by rw [nI_1]; congr 1; omega) (by omega) (fun h3 H3 M3 => ?_)
      refine adM H3 M3 (1103 + 3 * N 5) (by rw [ix0 2, nI_add]; congr 1; omega) (by omega) (fun h4 H4 M4 => ?_)
      refine icM H4 M4 5 (n := N 5) (ix0 5) (by decide) ?_ (fun h6 H6 M6 => ?_)
      · rw [va_up_ne _ _ (by omega), va_up_ne _ _ (by omega), va_up_ne _ _ (by omega)]
        exact e5
      · refine ldM H6 M6 5 (ix0 5) (by decide) (va_up_self _ _ _) ?_
        rw [nI_pred]
        refine k _ h6 H6 (((((OW.of o1).wr _ _).wr _ _).wr _ _).wr _ _) M6 ?_
        rw [up_row _ _ _ (by decide), up_row _ _ _ (by decide), up_row _ _ _ (by decide), up_row _ _ _ (by decide)]
        exact t1
  · rw [tellsS, tellsW, cIf_t (show isN a (N 4) ∧ isN b 256 from ⟨c1, c2⟩), cIf_f c3, cIf_f (show ¬ tsC N a b c from fun z => c3 z.2.1)] at k
    (repeat (first | with_reducible refine bd_i ?_ | with_reducible refine fP H (by with_unfolding_all exact H.b) (by with_unfolding_all rfl) (by with_unfolding_all rfl) ?_ | with_reducible refine vG H (by with_unfolding_all exact H.b) (by with_unfolding_all rfl) ?_ | with_reducible refine aM H M rfl (by omega) ?_ | with_reducible refine aM H M (ix0 0) (by omega) ?_ | with_reducible refine aM H M (ix0 1) (by omega) ?_ | with_reducible refine aM H M (ix0 2) (by omega) ?_ | with_reducible refine aM H M (ix0 3) (by omega) ?_ | with_reducible refine aM H M (ix0 4) (by omega) ?_ | with_reducible refine aM H M (ix0 5) (by omega) ?_ | with_reducible refine aM H M (ix0 6) (by omega) ?_ | with_reducible refine aM H M (ix0 7) (by omega) ?_ | with_reducible refine aM H M (ix0 8) (by omega) ?_ | with_reducible refine aM H M (ix0 9) (by omega) ?_ | with_reducible refine aM H M (ix0 10) (by omega) ?_ | with_reducible refine aM H M (ix0 11) (by omega) ?_ | with_reducible refine aM H M (ix0 12) (by omega) ?_ | with_reducible refine aM H M (ix1 13 _) (by omega) ?_ | with_reducible refine aM H M (ix1 1161 _) (by omega) ?_ | with_reducible refine aM H M (ix2 269 4 _) (by omega) ?_ | with_reducible refine aM H M (ix4 269 4 _ 1) (by omega) ?_ | with_reducible refine aM H M (ix4 269 4 _ 2) (by omega) ?_ | with_reducible refine aM H M (ix4 269 4 _ 3) (by omega) ?_ | with_reducible refine fG H (by with_unfolding_all exact H.b) (by with_unfolding_all rfl) ?_ | with_reducible refine aG H (by with_unfolding_all exact H.b) (by with_unfolding_all rfl) (by decide) rfl (by omega) ?_))
    exact thr1 H (fun h2 H2 => br_F (by decide) (k _ _ H2 ((OW.of o1).th 2) (M.off (id := 12) (by decide) 0 2) (up_same _ _ _ _)))
noncomputable def foundS (N : Nat → Nat) (a b c : Int32) : Int32 × Int32 := cIf (isN a 256) (cIf (inR b 0 9 ∧ inR c 1 65535) (cIf (N 3 < 120) (0, nI (N 3)) (3, 0)) (2, 0)) (1, 0)
def foC (N : Nat → Nat) (a b c : Int32) : Prop := isN a 256 ∧ (inR b 0 9 ∧ inR c 1 65535) ∧ N 3 < 120
noncomputable def foundW (wd : Nat → Int32) (N : Nat → Nat) (a b c : Int32) : Nat → Int32 := cIf (foC N a b c) (addF wd (N 3) 0 a b c) wd
noncomputable def foundN (N : Nat → Nat) (a b c : Int32) : Nat → Nat := cIf (foC N a b c) (va_up N 3 (N 3 + 1)) N
theorem one_bn {v : Int32} {M : Nat} (hM : M < 2 ^ 31) (h : inR v 1 (nI M)) : bn v M ∧ 1 ≤ nt v := by
  have h0 : inR v 0 (nI M) := ⟨Int32.le_trans (by decide) h.1, h.2⟩
  obtain ⟨n, rfl, hn⟩ := inR_nat h0 hM
  refine ⟨bn.of hn hM, ?_⟩
  rw [nt_nI (by omega)]
  exact (nI_leI (a := 1) (by decide) (by omega)).mp h.1
theorem found_ok (O : Ok wd N) {a b c : Int32} : Ok (foundW wd N a b c) (foundN N a b c) := by
  unfold foundW foundN
  by_cases e : foC N a b c
  · rw [cIf_t e, cIf_t e]
    obtain ⟨h1, ⟨h2, h3⟩, h4⟩ := e
    exact O.addF h4 (bn.of (n := 0) (by decide) (by decide)) (isN_bn (M := 255) (by decide) h1) (inR_bn (M := 9) (by decide) h2) (one_bn (M := 65535) (by decide) h3).1 (fun z => absurd z (by decide))
  · rw [cIf_f e, cIf_f e]
    exact O
theorem L_found (H : G A S h0 X h) (R : CR X wd) (O : Ok wd N) (J : J3 h0 a3) {a b c : Int32} (k : ∀ h1 X' h', G A S h1 X' h' → hJ h0 h1 → SC X X' → CR X' (foundW wd N a b c) → ((foundS N a b c).1 = 0 → gJ h' a3 0 = (foundS N a b c).2.toInt64) → Q (foundS N a b c).1 h') : w_L_found (A 11) a b c a3 h Q := by
  obtain ⟨e3, h3⟩ := O.f
  dsimp only [w_L_found_23, w_L_found_19, w_L_found_15, w_L_found, w_X11_found_29, w_X11_found_28, w_X11_found]
  (repeat (first | with_reducible refine bd_i ?_ | with_reducible refine fP H (by with_unfolding_all first | exact H.b | exact hS) (by with_unfolding_all rfl) (by with_unfolding_all rfl) ?_ | with_reducible refine vG H (by with_unfolding_all first | exact H.b | exact hS) (by with_unfolding_all rfl) ?_ | with_reducible refine fC_ H R (by with_unfolding_all exact H.b) (by with_unfolding_all rfl) (by with_unfolding_all rfl) ?_ | with_reducible refine aC H R (by with_unfolding_all exact H.b) (by with_unfolding_all rfl) (by decide) (by with_unfolding_all rfl) rfl (by omega) ?_ | with_reducible refine fG H (by with_unfolding_all first | exact H.b | exact hS) (by with_unfolding_all rfl) ?_ | with_reducible refine aG H (by with_unfolding_all first | exact H.b | exact hS) (by with_unfolding_all rfl) (by decide) rfl (by omega) ?_))
  refine c_cell (fun c1 => ?_) (fun c1 => ?_)
  · have kf : ¬ (inR b 0 9 ∧ inR c 1 65535) → Q 2 h := by
      intro z
      rw [foundS, foundW, cIf_t c1, cIf_f z, cIf_f (show ¬ foC N a b c from fun y => z y.2.1)] at k
      exact k _ _ _ H (hJ.rf _) (SC.of (ST.rf _)) R (fun z => absurd z (by decide))
    refine c_wi (fun c2 => br_F (by decide) ?_) (fun c2 => br_T rfl (c_ne0 (br_F (by decide) (br_T rfl (fun q => kf (fun z => c2 z.1))))))
    refine c_wi (fun c3 => br_F (by decide) ?_) (fun c3 => br_T rfl (c_ne0 (br_F (by decide) (br_T rfl (fun q => kf (fun z => c3 z.2))))))
    refine c_ne1 ?_
    (repeat (first | with_reducible refine bd_i ?_ | with_reducible refine fP H (by with_unfolding_all first | exact H.b | exact hS) (by with_unfolding_all rfl) (by with_unfolding_all rfl) ?_ | with_reducible refine vG H (by with_unfolding_all first | exact H.b | exact hS) (by with_unfolding_all rfl) ?_ | with_reducible refine fC_ H R (by with_unfolding_all exact H.b) (by with_unfolding_all rfl) (by with_unfolding_all rfl) ?_ | with_reducible refine aC H R (by with_unfolding_all exact H.b) (by with_unfolding_all rfl) (by decide) (by with_unfolding_all rfl) rfl (by omega) ?_ | with_reducible refine fG H (by with_unfolding_all first | exact H.b | exact hS) (by with_unfolding_all rfl) ?_ | with_reducible refine aG H (by with_unfolding_all first | exact H.b | exact hS) (by with_unfolding_all rfl) (by decide) rfl (by omega) ?_))
    rw [e3]
    refine c_room (m := 120) (by omega) (by decide) (fun c5 => ?_) (fun c5 => ?_)
    · rw [foundS, foundW, cIf_t c1, cIf_t (show inR b 0 9 ∧ inR c 1 65535 from ⟨c2, c3⟩), cIf_t c5, cIf_t (show foC N a b c from ⟨c1, ⟨c2, c3⟩, c5⟩)] at k
      (repeat (first | with_reducible refine bd_i ?_ | with_reducible refine fP H (by with_unfolding_all first | exact H.b | exact hS) (by with_unfolding_all rfl) (by with_unfolding_all rfl) ?_ | with_reducible refine vG H (by with_unfolding_all first | exact H.b | exact hS) (by with_unfolding_all rfl) ?_ | with_reducible refine fC_ H R (by with_unfolding_all exact H.b) (by with_unfolding_all rfl) (by with_unfolding_all rfl) ?_ | with_reducible refine aC H R (by with_unfolding_all exact H.b) (by with_unfolding_all rfl) (by decide) (by with_unfolding_all rfl) rfl (by omega) ?_ | with_reducible refine fG H (by with_unfolding_all first | exact H.b | exact hS) (by with_unfolding_all rfl) ?_ | with_reducible refine aG H (by with_unfolding_all first | exact H.b | exact hS) (by with_unfolding_all rfl) (by decide) rfl (by omega) ?_))
      refine c_addFind H R e3 c5 (fun X1 h1 H1 R1 s1 => ?_)
      exact tJG H1 J (fun h2 h' H' j1 j2 => k h2 X1 h' H' j1 (SC.of s1) R1 (fun _ => j2))
    · rw [foundS, foundW, cIf_t c1, cIf_t (show inR b 0 9 ∧ inR c 1 65535 from ⟨c2, c3⟩), cIf_f c5, cIf_f (show ¬ foC N a b c from fun z => c5 z.2.2)] at k
      exact br_F (by decide) (br_F (by decide) (br_T rfl (fun q => k _ _ _ H (hJ.rf _) (SC.of (ST.rf _)) R (fun z => absurd z (by decide)))))
  · rw [foundS, foundW, cIf_f c1, cIf_f (show ¬ foC N a b c from fun z => c1 z.1)] at k
    exact br_T rfl (fun q => k _ _ _ H (hJ.rf _) (SC.of (ST.rf _)) R (fun z => absurd z (by decide)))
theorem OW.rows {X X' X'' : Nat → Nat → Int32} (a : OW X X') (b : ∀ id, id ≠ 1301 → X'' id = X' id) : OW X X'' := fun id n h g z => by rw [b id z]; exact a id n h g z
theorem m_found_ (H : G A S h0 X h) (M : MR X wd) (O : Ok wd N) {a b c : Int32} (k : ∀ X' h', G A S h0 X' h' → OW X X' → MR X' (foundW wd N a b c) → X' 12 0 = (foundS N a b c).1 → Q (foundS N a b c).2 h') : w_X12_found (A 12) a b c h Q := by
  obtain ⟨e3, h3⟩ := O.f
  dsimp only [w_X12_found_73, w_X12_found_66, w_X12_found_44, w_X12_found_39, w_X12_found]
  refine m_ent H M (fun X1 h1 H1 M1 o1 t1 => ?_)
  clear H M
  have H := H1
  have M := M1
  refine m_cell (fun c1 => ?_) (fun c1 => ?_)
  · have kf : ¬ (inR b 0 9 ∧ inR c 1 65535) → ∀ K : Int32 → AH → Prop, (∀ h2, K 1 h2 = Q 0 h2) → vr h1 (A 12) 12 (w_X12_throwsIf (A 12) 1 2 h1 K) := by
      intro z K hK
      rw [foundS, foundW, cIf_t c1, cIf_f z, cIf_f (show ¬ foC N a b c from fun y => z y.2.1)] at k
      refine vG (o := 12) H H.b rfl ?_
      refine thr1 H (fun h2 H2 => ?_)
      rw [hK]
      exact k _ _ H2 ((OW.of o1).th 2) (M.off (id := 12) (by decide) 0 2) (up_same _ _ _ _)
    (repeat (first | with_reducible refine thr0 ?_ | with_reducible refine br_T rfl ?_ | with_reducible refine bd_i ?_ | with_reducible refine fP H (by with_unfolding_all exact H.b) (by with_unfolding_all rfl) (by with_unfolding_all rfl) ?_ | with_reducible refine vG H (by with_unfolding_all exact H.b) (by with_unfolding_all rfl) ?_ | with_reducible refine aM H M rfl (by omega) ?_ | with_reducible refine aM H M (ix0 0) (by omega) ?_ | with_reducible refine aM H M (ix0 1) (by omega) ?_ | with_reducible refine aM H M (ix0 2) (by omega) ?_ | with_reducible refine aM H M (ix0 3) (by omega) ?_ | with_reducible refine aM H M (ix0 4) (by omega) ?_ | with_reducible refine aM H M (ix0 5) (by omega) ?_ | with_reducible refine aM H M (ix0 6) (by omega) ?_ | with_reducible refine aM H M (ix0 7) (by omega) ?_ | with_reducible refine aM H M (ix0 8) (by omega) ?_ | with_reducible refine aM H M (ix0 9) (by omega) ?_ | with_reducible refine aM H M (ix0 10) (by omega) ?_ | with_reducible refine aM H M (ix0 11) (by omega) ?_ | with_reducible refine aM H M (ix0 12) (by omega) ?_ | with_reducible refine aM H M (ix1 13 _) (by omega) ?_ | with_reducible refine aM H M (ix1 1161 _) (by omega) ?_ | with_reducible refine aM H M (ix2 269 4 _) (by omega) ?_ | with_reducible refine aM H M (ix4 269 4 _ 1) (by omega) ?_ | with_reducible refine aM H M (ix4 269 4 _ 2) (by omega) ?_ | with_reducible refine aM H M (ix4 269 4 _ 3) (by omega) ?_ | with_reducible refine fG H (by with_unfolding_all exact H.b) (by with_unfolding_all rfl) ?_ | with_reducible refine aG H (by with_unfolding_all exact H.b) (by with_unfolding_all rfl) (by decide) rfl (by omega) ?_))
    refine m_rng (fun c2 => br_F (by decide) ?_) (fun c2 => br_T rfl (kf (fun z => c2 z.1) _ (fun h2 => br10 _ _)))
    refine m_rng (fun c3 => br_F (by decide) ?_) (fun c3 => br_T rfl (kf (fun z => c3 z.2) _ (fun h2 => br10 _ _)))
    (repeat (first | with_reducible refine thr0 ?_ | with_reducible refine br_T rfl ?_ | with_reducible refine m_finds H M ?_ | with_reducible refine bd_i ?_ | with_reducible refine fP H (by with_unfolding_all exact H.b) (by with_unfolding_all rfl) (by with_unfolding_all rfl) ?_ | with_reducible refine vG H (by with_unfolding_all exact H.b) (by with_unfolding_all rfl) ?_ | with_reducible refine aM H M rfl (by omega) ?_ | with_reducible refine aM H M (ix0 0) (by omega) ?_ | with_reducible refine aM H M (ix0 1) (by omega) ?_ | with_reducible refine aM H M (ix0 2) (by omega) ?_ | with_reducible refine aM H M (ix0 3) (by omega) ?_ | with_reducible refine aM H M (ix0 4) (by omega) ?_ | with_reducible refine aM H M (ix0 5) (by omega) ?_ | with_reducible refine aM H M (ix0 6) (by omega) ?_ | with_reducible refine aM H M (ix0 7) (by omega) ?_ | with_reducible refine aM H M (ix0 8) (by omega) ?_ | with_reducible refine aM H M (ix0 9) (by omega) ?_ | with_reducible refine aM H M (ix0 10) (by omega) ?_ | with_reducible refine aM H M (ix0 11) (by omega) ?_ | with_reducible refine aM H M (ix0 12) (by omega) ?_ | with_reducible refine aM H M (ix1 13 _) (by omega) ?_ | with_reducible refine aM H M (ix1 1161 _) (by omega) ?_ | with_reducible refine aM H M (ix2 269 4 _) (by omega) ?_ | with_reducible refine aM H M (ix4 269 4 _ 1) (by omega) ?_ | with_reducible refine aM H M (ix4 269 4 _ 2) (by omega) ?_ | with_reducible refine aM H M (ix4 269 4 _ 3) (by omega) ?_ | with_reducible refine fG H (by with_unfolding_all exact H.b) (by with_unfolding_all rfl) ?_ | with_reducible refine aG H (by with_unfolding_all exact H.b) (by with_unfolding_all rfl) (by decide) rfl (by omega) ?_))
    rw [e3]
    refine br_Eq (b := 120) (by omega) (by decide) (fun c5 => ?_) (fun c5 => ?_)
    · rw [foundS, foundW, cIf_t c1, cIf_t (show inR b 0 9 ∧ inR c 1 65535 from ⟨c2, c3⟩), cIf_f (show ¬ N 3 < 120 by omega), cIf_f (show ¬ foC N a b c from fun z => by have := z.2.2; omega)] at k
      (repeat (first | with_reducible refine bd_i ?_ | with_reducible refine fP H (by with_unfolding_all exact H.b) (by with_unfolding_all rfl) (by with_unfolding_all rfl) ?_ | with_reducible refine vG H (by with_unfolding_all exact H.b) (by with_unfolding_all rfl) ?_ | with_reducible refine aM H M rfl (by omega) ?_ | with_reducible refine aM H M (ix0 0) (by omega) ?_ | with_reducible refine aM H M (ix0 1) (by omega) ?_ | with_reducible refine aM H M (ix0 2) (by omega) ?_ | with_reducible refine aM H M (ix0 3) (by omega) ?_ | with_reducible refine aM H M (ix0 4) (by omega) ?_ | with_reducible refine aM H M (ix0 5) (by omega) ?_ | with_reducible refine aM H M (ix0 6) (by omega) ?_ | with_reducible refine aM H M (ix0 7) (by omega) ?_ | with_reducible refine aM H M (ix0 8) (by omega) ?_ | with_reducible refine aM H M (ix0 9) (by omega) ?_ | with_reducible refine aM H M (ix0 10) (by omega) ?_ | with_reducible refine aM H M (ix0 11) (by omega) ?_ | with_reducible refine aM H M (ix0 12) (by omega) ?_ | with_reducible refine aM H M (ix1 13 _) (by omega) ?_ | with_reducible refine aM H M (ix1 1161 _) (by omega) ?_ | with_reducible refine aM H M (ix2 269 4 _) (by omega) ?_ | with_reducible refine aM H M (ix4 269 4 _ 1) (by omega) ?_ | with_reducible refine aM H M (ix4 269 4 _ 2) (by omega) ?_ | with_reducible refine aM H M (ix4 269 4 _ 3) (by omega) ?_ | with_reducible refine fG H (by with_unfolding_all exact H.b) (by with_unfolding_all rfl) ?_ | with_reducible refine aG H (by with_unfolding_all exact H.b) (by with_unfolding_all rfl) (by decide) rfl (by omega) ?_))
      exact thr1 H (fun h2 H2 => br_F (by decide) (k _ _ H2 ((OW.of o1).th 3) (M.off (id := 12) (by decide) 0 3) (up_same _ _ _ _)))
    · have c5 : N 3 < 120 := by omega
      rw [foundS, foundW, cIf_t c1, cIf_t (show inR b 0 9 ∧ inR c 1 65535 from ⟨c2, c3⟩), cIf_t c5, cIf_t (show foC N a b c from ⟨c1, ⟨c2, c3⟩, c5⟩)] at k
      (repeat (first | with_reducible refine thr0 ?_ | with_reducible refine bd_i ?_ | with_reducible refine fP H (by with_unfolding_all exact H.b) (by with_unfolding_all rfl) (by with_unfolding_all rfl) ?_ | with_reducible refine vG H (by with_unfolding_all exact H.b) (by with_unfolding_all rfl) ?_ | with_reducible refine aM H M rfl (by omega) ?_ | with_reducible refine aM H M (ix0 0) (by omega) ?_ | with_reducible refine aM H M (ix0 1) (by omega) ?_ | with_reducible refine aM H M (ix0 2) (by omega) ?_ | with_reducible refine aM H M (ix0 3) (by omega) ?_ | with_reducible refine aM H M (ix0 4) (by omega) ?_ | with_reducible refine aM H M (ix0 5) (by omega) ?_ | with_reducible refine aM H M (ix0 6) (by omega) ?_ | with_reducible refine aM H M (ix0 7) (by omega) ?_ | with_reducible refine aM H M (ix0 8) (by omega) ?_ | with_reducible refine aM H M (ix0 9) (by omega) ?_ | with_reducible refine aM H M (ix0 10) (by omega) ?_ | with_reducible refine aM H M (ix0 11) (by omega) ?_ | with_reducible refine aM H M (ix0 12) (by omega) ?_ | with_reducible refine aM H M (ix1 13 _) (by omega) ?_ | with_reducible refine aM H M (ix1 1161 _) (by omega) ?_ | with_reducible refine aM H M (ix2 269 4 _) (by omega) ?_ | with_reducible refine aM H M (ix4 269 4 _ 1) (by omega) ?_ | with_reducible refine aM H M (ix4 269 4 _ 2) (by omega) ?_ | with_reducible refine aM H M (ix4 269 4 _ 3) (by omega) ?_ | with_reducible refine fG H (by with_unfolding_all exact H.b) (by with_unfolding_all rfl) ?_ | with_reducible refine aG H (by with_unfolding_all exact H.b) (by with_unfolding_all rfl) (by decide) rfl (by omega) ?_))
      refine br_T rfl ?_
      (repeat (first | with_reducible refine bd_i ?_ | with_reducible refine fP H (by with_unfolding_all exact H.b) (by with_unfolding_all rfl) (by with_unfolding_all rfl) ?_ | with_reducible refine vG H (by with_unfolding_all exact H.b) (by with_unfolding_all rfl) ?_ | with_reducible refine aM H M rfl (by omega) ?_ | with_reducible refine aM H M (ix0 0) (by omega) ?_ | with_reducible refine aM H M (ix0 1) (by omega) ?_ | with_reducible refine aM H M (ix0 2) (by omega) ?_ | with_reducible refine aM H M (ix0 3) (by omega) ?_ | with_reducible refine aM H M (ix0 4) (by omega) ?_ | with_reducible refine aM H M (ix0 5) (by omega) ?_ | with_reducible refine aM H M (ix0 6) (by omega) ?_ | with_reducible refine aM H M (ix0 7) (by omega) ?_ | with_reducible refine aM H M (ix0 8) (by omega) ?_ | with_reducible refine aM H M (ix0 9) (by omega) ?_ | with_reducible refine aM H M (ix0 10) (by omega) ?_ | with_reducible refine aM H M (ix0 11) (by omega) ?_ | with_reducible refine aM H M (ix0 12) (by omega) ?_ | with_reducible refine aM H M (ix1 13 _) (by omega) ?_ | with_reducible refine aM H M (ix1 1161 _) (by omega) ?_ | with_reducible refine aM H M (ix2 269 4 _) (by omega) ?_ | with_reducible refine aM H M (ix4 269 4 _ 1) (by omega) ?_ | with_reducible refine aM H M (ix4 269 4 _ 2) (by omega) ?_ | with_reducible refine aM H M (ix4 269 4 _ 3) (by omega) ?_ | with_reducible refine fG H (by with_unfolding_all exact H.b) (by with_unfolding_all rfl) ?_ | with_reducible refine aG H (by with_unfolding_all exact H.b) (by with_unfolding_all rfl) (by decide) rfl (by omega) ?_))
      refine m_leaves H M e3 c5 (fun X2 h2 H2 M2 r2 => ?_)
      refine vG (o := 12) H2 H2.b rfl ?_
      refine m_finds H2 M2 ?_
      rw [show addF wd (N 3) 0 a b c 3 = nI (N 3 + 1) from va_up_self _ _ _, nI_pred]
      exact k _ h2 H2 ((OW.of o1).rows r2) M2 (by rw [r2 12 (by decide)]; exact t1)
  · rw [foundS, foundW, cIf_f c1, cIf_f (show ¬ foC N a b c from fun z => c1 z.1)] at k
    (repeat (first | with_reducible refine bd_i ?_ | with_reducible refine fP H (by with_unfolding_all exact H.b) (by with_unfolding_all rfl) (by with_unfolding_all rfl) ?_ | with_reducible refine vG H (by with_unfolding_all exact H.b) (by with_unfolding_all rfl) ?_ | with_reducible refine aM H M rfl (by omega) ?_ | with_reducible refine aM H M (ix0 0) (by omega) ?_ | with_reducible refine aM H M (ix0 1) (by omega) ?_ | with_reducible refine aM H M (ix0 2) (by omega) ?_ | with_reducible refine aM H M (ix0 3) (by omega) ?_ | with_reducible refine aM H M (ix0 4) (by omega) ?_ | with_reducible refine aM H M (ix0 5) (by omega) ?_ | with_reducible refine aM H M (ix0 6) (by omega) ?_ | with_reducible refine aM H M (ix0 7) (by omega) ?_ | with_reducible refine aM H M (ix0 8) (by omega) ?_ | with_reducible refine aM H M (ix0 9) (by omega) ?_ | with_reducible refine aM H M (ix0 10) (by omega) ?_ | with_reducible refine aM H M (ix0 11) (by omega) ?_ | with_reducible refine aM H M (ix0 12) (by omega) ?_ | with_reducible refine aM H M (ix1 13 _) (by omega) ?_ | with_reducible refine aM H M (ix1 1161 _) (by omega) ?_ | with_reducible refine aM H M (ix2 269 4 _) (by omega) ?_ | with_reducible refine aM H M (ix4 269 4 _ 1) (by omega) ?_ | with_reducible refine aM H M (ix4 269 4 _ 2) (by omega) ?_ | with_reducible refine aM H M (ix4 269 4 _ 3) (by omega) ?_ | with_reducible refine fG H (by with_unfolding_all exact H.b) (by with_unfolding_all rfl) ?_ | with_reducible refine aG H (by with_unfolding_all exact H.b) (by with_unfolding_all rfl) (by decide) rfl (by omega) ?_))
    exact thr1 H (fun h2 H2 => br_F (by decide) (k _ _ H2 ((OW.of o1).th 1) (M.off (id := 12) (by decide) 0 1) (up_same _ _ _ _)))
def kOk (a d : Int32) : Prop := (a = 1 ∧ inR d 0 1) ∨ (a = 2 ∧ inR d 1 255) ∨ (a = 3 ∧ inR d 1800 1999)
noncomputable def otherS (N : Nat → Nat) (a b c d : Int32) : Int32 × Int32 := cIf (isN b 256) (cIf (inR c 0 9 ∧ kOk a d) (cIf (N 3 < 120) (0, nI (N 3)) (3, 0)) (2, 0)) (1, 0)
def otC (N : Nat → Nat) (a b c d : Int32) : Prop := isN b 256 ∧ (inR c 0 9 ∧ kOk a d) ∧ N 3 < 120
noncomputable def otherW (wd : Nat → Int32) (N : Nat → Nat) (a b c d : Int32) : Nat → Int32 := cIf (otC N a b c d) (addF wd (N 3) a b c d) wd
noncomputable def otherN (N : Nat → Nat) (a b c d : Int32) : Nat → Nat := cIf (otC N a b c d) (va_up N 3 (N 3 + 1)) N
theorem bn.up {v : Int32} {M M' : Nat} (h : bn v M) (hM : M ≤ M') : bn v M' := ⟨h.1, Nat.le_trans h.2 hM⟩
theorem other_ok (O : Ok wd N) {a b c d : Int32} : Ok (otherW wd N a b c d) (otherN N a b c d) := by
  unfold otherW otherN
  by_cases e : otC N a b c d
  · rw [cIf_t e, cIf_t e]
    obtain ⟨h1, ⟨h2, h3⟩, h4⟩ := e
    have hb := isN_bn (M := 255) (by decide) h1
    have hc := inR_bn (M := 9) (by decide) h2
    rcases h3 with ⟨rfl, h5⟩ | ⟨rfl, h5⟩ | ⟨rfl, h5⟩
    · exact O.addF h4 (bn.of (n := 1) (by decide) (by decide)) hb hc ((inR_bn (M := 1) (by decide) h5).up (by decide)) (fun z => absurd z (by decide))
    · have := one_bn (M := 255) (by decide) h5
      exact O.addF h4 (bn.of (n := 2) (by decide) (by decide)) hb hc (this.1.up (by decide)) (fun _ => ⟨this.2, this.1.2⟩)
    · have h6 : inR d 0 (nI 1999) := ⟨Int32.le_trans (by decide) h5.1, h5.2⟩
      exact O.addF h4 (bn.of (n := 3) (by decide) (by decide)) hb hc ((inR_bn (M := 1999) (by decide) h6).up (by decide)) (fun z => absurd z (by decide))
  · rw [cIf_f e, cIf_f e]
    exact O
theorem c_kind {a d : Int32} (k1 : kOk a d → Q 1 h) (k2 : ¬ kOk a d → Q 0 h) : w_X11_canBeOfKind a d h Q := by
  dsimp only [w_X11_canBeOfKind]
  refine br_if (fun c1 => ?_) (fun c1 => ?_)
  · refine c_wi (fun c => ⟨Or.inr rfl, k1 (Or.inl ⟨c1, c⟩)⟩) (fun c => ⟨Or.inl rfl, k2 (fun z => ?_)⟩)
    rcases z with z | z | z
    · exact c z.2
    · rw [c1] at z; exact absurd z.1 (by decide)
    · rw [c1] at z; exact absurd z.1 (by decide)
  · refine br_if (fun c2 => ?_) (fun c2 => ?_)
    · refine c_wi (fun c => ⟨Or.inr rfl, k1 (Or.inr (Or.inl ⟨c2, c⟩))⟩) (fun c => ⟨Or.inl rfl, k2 (fun z => ?_)⟩)
      rcases z with z | z | z
      · exact c1 z.1
      · exact c z.2
      · rw [c2] at z; exact absurd z.1 (by decide)
    · refine br_if (fun c3 => ?_) (fun c3 => ?_)
      · refine c_yr (fun c => ⟨Or.inr rfl, k1 (Or.inr (Or.inr ⟨c3, c⟩))⟩) (fun c => ⟨Or.inl rfl, k2 (fun z => ?_)⟩)
        rcases z with z | z | z
        · exact c1 z.1
        · exact c2 z.1
        · exact c z.2
      · refine k2 (fun z => ?_)
        rcases z with z | z | z
        · exact c1 z.1
        · exact c2 z.1
        · exact c3 z.1
theorem L_other (H : G A S h0 X h) (R : CR X wd) (O : Ok wd N) (J : J3 h0 a3) {a b c d : Int32} (k : ∀ h1 X' h', G A S h1 X' h' → hJ h0 h1 → SC X X' → CR X' (otherW wd N a b c d) → ((otherS N a b c d).1 = 0 → gJ h' a3 0 = (otherS N a b c d).2.toInt64) → Q (otherS N a b c d).1 h') : w_L_other (A 11) a b c d a3 h Q := by
  obtain ⟨e3, h3⟩ := O.f
  dsimp only [w_L_other_25, w_L_other_21, w_L_other_17, w_L_other, w_X11_other_28, w_X11_other_27, w_X11_other]
  (repeat (first | with_reducible refine bd_i ?_ | with_reducible refine fP H (by with_unfolding_all first | exact H.b | exact hS) (by with_unfolding_all rfl) (by with_unfolding_all rfl) ?_ | with_reducible refine vG H (by with_unfolding_all first | exact H.b | exact hS) (by with_unfolding_all rfl) ?_ | with_reducible refine fC_ H R (by with_unfolding_all exact H.b) (by with_unfolding_all rfl) (by with_unfolding_all rfl) ?_ | with_reducible refine aC H R (by with_unfolding_all exact H.b) (by with_unfolding_all rfl) (by decide) (by with_unfolding_all rfl) rfl (by omega) ?_ | with_reducible refine fG H (by with_unfolding_all first | exact H.b | exact hS) (by with_unfolding_all rfl) ?_ | with_reducible refine aG H (by with_unfolding_all first | exact H.b | exact hS) (by with_unfolding_all rfl) (by decide) rfl (by omega) ?_))
  refine c_cell (fun c1 => ?_) (fun c1 => ?_)
  · have kf : ¬ (inR c 0 9 ∧ kOk a d) → Q 2 h := by
      intro z
      rw [otherS, otherW, cIf_t c1, cIf_f z, cIf_f (show ¬ otC N a b c d from fun y => z y.2.1)] at k
      exact k _ _ _ H (hJ.rf _) (SC.of (ST.rf _)) R (fun z => absurd z (by decide))
    refine c_wi (fun c2 => br_F (by decide) ?_) (fun c2 => br_T rfl (c_ne0 (br_F (by decide) (br_T rfl (fun q => kf (fun z => c2 z.1))))))
    refine c_kind (fun c3 => br_F (by decide) ?_) (fun c3 => br_T rfl (c_ne0 (br_F (by decide) (br_T rfl (fun q => kf (fun z => c3 z.2))))))
    refine c_ne1 ?_
    (repeat (first | with_reducible refine bd_i ?_ | with_reducible refine fP H (by with_unfolding_all first | exact H.b | exact hS) (by with_unfolding_all rfl) (by with_unfolding_all rfl) ?_ | with_reducible refine vG H (by with_unfolding_all first | exact H.b | exact hS) (by with_unfolding_all rfl) ?_ | with_reducible refine fC_ H R (by with_unfolding_all exact H.b) (by with_unfolding_all rfl) (by with_unfolding_all rfl) ?_ | with_reducible refine aC H R (by with_unfolding_all exact H.b) (by with_unfolding_all rfl) (by decide) (by with_unfolding_all rfl) rfl (by omega) ?_ | with_reducible refine fG H (by with_unfolding_all first | exact H.b | exact hS) (by with_unfolding_all rfl) ?_ | with_reducible refine aG H (by with_unfolding_all first | exact H.b | exact hS) (by with_unfolding_all rfl) (by decide) rfl (by omega) ?_))
    rw [e3]
    refine c_room (m := 120) (by omega) (by decide) (fun c5 => ?_) (fun c5 => ?_)
    · rw [otherS, otherW, cIf_t c1, cIf_t (show inR c 0 9 ∧ kOk a d from ⟨c2, c3⟩), cIf_t c5, cIf_t (show otC N a b c d from ⟨c1, ⟨c2, c3⟩, c5⟩)] at k
      (repeat (first | with_reducible refine bd_i ?_ | with_reducible refine fP H (by with_unfolding_all first | exact H.b | exact hS) (by with_unfolding_all rfl) (by with_unfolding_all rfl) ?_ | with_reducible refine vG H (by with_unfolding_all first | exact H.b | exact hS) (by with_unfolding_all rfl) ?_ | with_reducible refine fC_ H R (by with_unfolding_all exact H.b) (by with_unfolding_all rfl) (by with_unfolding_all rfl) ?_ | with_reducible refine aC H R (by with_unfolding_all exact H.b) (by with_unfolding_all rfl) (by decide) (by with_unfolding_all rfl) rfl (by omega) ?_ | with_reducible refine fG H (by with_unfolding_all first | exact H.b | exact hS) (by with_unfolding_all rfl) ?_ | with_reducible refine aG H (by with_unfolding_all first | exact H.b | exact hS) (by with_unfolding_all rfl) (by decide) rfl (by omega) ?_))
      refine c_addFind H R e3 c5 (fun X1 h1 H1 R1 s1 => ?_)
      exact tJG H1 J (fun h2 h' H' j1 j2 => k h2 X1 h' H' j1 (SC.of s1) R1 (fun _ => j2))
    · rw [otherS, otherW, cIf_t c1, cIf_t (show inR c 0 9 ∧ kOk a d from ⟨c2, c3⟩), cIf_f c5, cIf_f (show ¬ otC N a b c d from fun z => c5 z.2.2)] at k
      exact br_F (by decide) (br_F (by decide) (br_T rfl (fun q => k _ _ _ H (hJ.rf _) (SC.of (ST.rf _)) R (fun z => absurd z (by decide)))))
  · rw [otherS, otherW, cIf_f c1, cIf_f (show ¬ otC N a b c d from fun z => c1 z.1)] at k
    exact br_T rfl (fun q => k _ _ _ H (hJ.rf _) (SC.of (ST.rf _)) R (fun z => absurd z (by decide)))
theorem kd_13 {a : Int32} : inR a 1 3 ↔ a = 1 ∨ a = 2 ∨ a = 3 := by
  constructor
  · intro z
    obtain ⟨h1, h2⟩ := one_bn (M := 3) (by decide) z
    obtain ⟨e, h3⟩ := h1
    have : nt a = 1 ∨ nt a = 2 ∨ nt a = 3 := by omega
    rcases this with y | y | y
    · rw [y] at e; exact Or.inl e
    · rw [y] at e; exact Or.inr (Or.inl e)
    · rw [y] at e; exact Or.inr (Or.inr e)
  · rintro (rfl | rfl | rfl)
    · decide
    · decide
    · decide
theorem m_other_ (H : G A S h0 X h) (M : MR X wd) (O : Ok wd N) {a b c d : Int32} (k : ∀ X' h', G A S h0 X' h' → OW X X' → MR X' (otherW wd N a b c d) → X' 12 0 = (otherS N a b c d).1 → Q (otherS N a b c d).2 h') : w_X12_other (A 12) a b c d h Q := by
  obtain ⟨e3, h3⟩ := O.f
  dsimp only [w_X12_other_123, w_X12_other_116, w_X12_other_89, w_X12_other_88, w_X12_other_84, w_X12_other]
  refine m_ent H M (fun X1 h1 H1 M1 o1 t1 => ?_)
  clear H M
  have H := H1
  have M := M1
  refine m_cell (fun c1 => ?_) (fun c1 => ?_)
  · have kf : ¬ (inR c 0 9 ∧ kOk a d) → ∀ K : Int32 → AH → Prop, (∀ h2, K 1 h2 = Q 0 h2) → vr h1 (A 12) 12 (w_X12_throwsIf (A 12) 1 2 h1 K) := by
      intro z K hK
      rw [otherS, otherW, cIf_t c1, cIf_f z, cIf_f (show ¬ otC N a b c d from fun y => z y.2.1)] at k
      refine vG (o := 12) H H.b rfl ?_
      refine thr1 H (fun h2 H2 => ?_)
      rw [hK]
      exact k _ _ H2 ((OW.of o1).th 2) (M.off (id := 12) (by decide) 0 2) (up_same _ _ _ _)
    have kg : inR c 0 9 ∧ kOk a d → vr h1 (A 12) 12 (w_X12_throwsIf (A 12) 0 2 h1 fun x1 h => br (x1 = 0) (vr h (A 12) 12 (w_X12_finds (A 12) h fun x2 h => br (x2 = 120) (vr h (A 12) 12 (w_X12_throwsIf (A 12) 1 3 h fun x1 h => br (x1 = 0) (vr h (A 12) 12 (w_X12_leaves (A 12) a b c d h fun h => vr h (A 12) 12 (w_X12_finds (A 12) h fun x2 h => Q (x2 - 1) h))) (Q 0 h))) (vr h (A 12) 12 (w_X12_throwsIf (A 12) 0 3 h fun x1 h => br (x1 = 0) (vr h (A 12) 12 (w_X12_leaves (A 12) a b c d h fun h => vr h (A 12) 12 (w_X12_finds (A 12) h fun x2 h => Q (x2 - 1) h))) (Q 0 h))))) (Q 0 h)) := by
      intro hc
      (repeat (first | with_reducible refine thr0 ?_ | with_reducible refine br_T rfl ?_ | with_reducible refine m_finds H M ?_ | with_reducible refine bd_i ?_ | with_reducible refine fP H (by with_unfolding_all exact H.b) (by with_unfolding_all rfl) (by with_unfolding_all rfl) ?_ | with_reducible refine vG H (by with_unfolding_all exact H.b) (by with_unfolding_all rfl) ?_ | with_reducible refine aM H M rfl (by omega) ?_ | with_reducible refine aM H M (ix0 0) (by omega) ?_ | with_reducible refine aM H M (ix0 1) (by omega) ?_ | with_reducible refine aM H M (ix0 2) (by omega) ?_ | with_reducible refine aM H M (ix0 3) (by omega) ?_ | with_reducible refine aM H M (ix0 4) (by omega) ?_ | with_reducible refine aM H M (ix0 5) (by omega) ?_ | with_reducible refine aM H M (ix0 6) (by omega) ?_ | with_reducible refine aM H M (ix0 7) (by omega) ?_ | with_reducible refine aM H M (ix0 8) (by omega) ?_ | with_reducible refine aM H M (ix0 9) (by omega) ?_ | with_reducible refine aM H M (ix0 10) (by omega) ?_ | with_reducible refine aM H M (ix0 11) (by omega) ?_ | with_reducible refine aM H M (ix0 12) (by omega) ?_ | with_reducible refine aM H M (ix1 13 _) (by omega) ?_ | with_reducible refine aM H M (ix1 1161 _) (by omega) ?_ | with_reducible refine aM H M (ix2 269 4 _) (by omega) ?_ | with_reducible refine aM H M (ix4 269 4 _ 1) (by omega) ?_ | with_reducible refine aM H M (ix4 269 4 _ 2) (by omega) ?_ | with_reducible refine aM H M (ix4 269 4 _ 3) (by omega) ?_ | with_reducible refine fG H (by with_unfolding_all exact H.b) (by with_unfolding_all rfl) ?_ | with_reducible refine aG H (by with_unfolding_all exact H.b) (by with_unfolding_all rfl) (by decide) rfl (by omega) ?_))
      rw [e3]
      refine br_Eq (b := 120) (by omega) (by decide) (fun c5 => ?_) (fun c5 => ?_)
      · rw [otherS, otherW, cIf_t c1, cIf_t hc, cIf_f (show ¬ N 3 < 120 by omega), cIf_f (show ¬ otC N a b c d from fun z => by have := z.2.2; omega)] at k
        (repeat (first | with_reducible refine bd_i ?_ | with_reducible refine fP H (by with_unfolding_all exact H.b) (by with_unfolding_all rfl) (by with_unfolding_all rfl) ?_ | with_reducible refine vG H (by with_unfolding_all exact H.b) (by with_unfolding_all rfl) ?_ | with_reducible refine aM H M rfl (by omega) ?_ | with_reducible refine aM H M (ix0 0) (by omega) ?_ | with_reducible refine aM H M (ix0 1) (by omega) ?_ | with_reducible refine aM H M (ix0 2) (by omega) ?_ | with_reducible refine aM H M (ix0 3) (by omega) ?_ | with_reducible refine aM H M (ix0 4) (by omega) ?_ | with_reducible refine aM H M (ix0 5) (by omega) ?_ | with_reducible refine aM H M (ix0 6) (by omega) ?_ | with_reducible refine aM H M (ix0 7) (by omega) ?_ | with_reducible refine aM H M (ix0 8) (by omega) ?_ | with_reducible refine aM H M (ix0 9) (by omega) ?_ | with_reducible refine aM H M (ix0 10) (by omega) ?_ | with_reducible refine aM H M (ix0 11) (by omega) ?_ | with_reducible refine aM H M (ix0 12) (by omega) ?_ | with_reducible refine aM H M (ix1 13 _) (by omega) ?_ | with_reducible refine aM H M (ix1 1161 _) (by omega) ?_ | with_reducible refine aM H M (ix2 269 4 _) (by omega) ?_ | with_reducible refine aM H M (ix4 269 4 _ 1) (by omega) ?_ | with_reducible refine aM H M (ix4 269 4 _ 2) (by omega) ?_ | with_reducible refine aM H M (ix4 269 4 _ 3) (by omega) ?_ | with_reducible refine fG H (by with_unfolding_all exact H.b) (by with_unfolding_all rfl) ?_ | with_reducible refine aG H (by with_unfolding_all exact H.b) (by with_unfolding_all rfl) (by decide) rfl (by omega) ?_))
        exact thr1 H (fun h2 H2 => br_F (by decide) (k _ _ H2 ((OW.of o1).th 3) (M.off (id := 12) (by decide) 0 3) (up_same _ _ _ _)))
      · have c5 : N 3 < 120 := by omega
        rw [otherS, otherW, cIf_t c1, cIf_t hc, cIf_t c5, cIf_t (show otC N a b c d from ⟨c1, hc, c5⟩)] at k
        (repeat (first | with_reducible refine thr0 ?_ | with_reducible refine bd_i ?_ | with_reducible refine fP H (by with_unfolding_all exact H.b) (by with_unfolding_all rfl) (by with_unfolding_all rfl) ?_ | with_reducible refine vG H (by with_unfolding_all exact H.b) (by with_unfolding_all rfl) ?_ | with_reducible refine aM H M rfl (by omega) ?_ | with_reducible refine aM H M (ix0 0) (by omega) ?_ | with_reducible refine aM H M (ix0 1) (by omega) ?_ | with_reducible refine aM H M (ix0 2) (by omega) ?_ | with_reducible refine aM H M (ix0 3) (by omega) ?_ | with_reducible refine aM H M (ix0 4) (by omega) ?_ | with_reducible refine aM H M (ix0 5) (by omega) ?_ | with_reducible refine aM H M (ix0 6) (by omega) ?_ | with_reducible refine aM H M (ix0 7) (by omega) ?_ | with_reducible refine aM H M (ix0 8) (by omega) ?_ | with_reducible refine aM H M (ix0 9) (by omega) ?_ | with_reducible refine aM H M (ix0 10) (by omega) ?_ | with_reducible refine aM H M (ix0 11) (by omega) ?_ | with_reducible refine aM H M (ix0 12) (by omega) ?_ | with_reducible refine aM H M (ix1 13 _) (by omega) ?_ | with_reducible refine aM H M (ix1 1161 _) (by omega) ?_ | with_reducible refine aM H M (ix2 269 4 _) (by omega) ?_ | with_reducible refine aM H M (ix4 269 4 _ 1) (by omega) ?_ | with_reducible refine aM H M (ix4 269 4 _ 2) (by omega) ?_ | with_reducible refine aM H M (ix4 269 4 _ 3) (by omega) ?_ | with_reducible refine fG H (by with_unfolding_all exact H.b) (by with_unfolding_all rfl) ?_ | with_reducible refine aG H (by with_unfolding_all exact H.b) (by with_unfolding_all rfl) (by decide) rfl (by omega) ?_))
        refine br_T rfl ?_
        (repeat (first | with_reducible refine bd_i ?_ | with_reducible refine fP H (by with_unfolding_all exact H.b) (by with_unfolding_all rfl) (by with_unfolding_all rfl) ?_ | with_reducible refine vG H (by with_unfolding_all exact H.b) (by with_unfolding_all rfl) ?_ | with_reducible refine aM H M rfl (by omega) ?_ | with_reducible refine aM H M (ix0 0) (by omega) ?_ | with_reducible refine aM H M (ix0 1) (by omega) ?_ | with_reducible refine aM H M (ix0 2) (by omega) ?_ | with_reducible refine aM H M (ix0 3) (by omega) ?_ | with_reducible refine aM H M (ix0 4) (by omega) ?_ | with_reducible refine aM H M (ix0 5) (by omega) ?_ | with_reducible refine aM H M (ix0 6) (by omega) ?_ | with_reducible refine aM H M (ix0 7) (by omega) ?_ | with_reducible refine aM H M (ix0 8) (by omega) ?_ | with_reducible refine aM H M (ix0 9) (by omega) ?_ | with_reducible refine aM H M (ix0 10) (by omega) ?_ | with_reducible refine aM H M (ix0 11) (by omega) ?_ | with_reducible refine aM H M (ix0 12) (by omega) ?_ | with_reducible refine aM H M (ix1 13 _) (by omega) ?_ | with_reducible refine aM H M (ix1 1161 _) (by omega) ?_ | with_reducible refine aM H M (ix2 269 4 _) (by omega) ?_ | with_reducible refine aM H M (ix4 269 4 _ 1) (by omega) ?_ | with_reducible refine aM H M (ix4 269 4 _ 2) (by omega) ?_ | with_reducible refine aM H M (ix4 269 4 _ 3) (by omega) ?_ | with_reducible refine fG H (by with_unfolding_all exact H.b) (by with_unfolding_all rfl) ?_ | with_reducible refine aG H (by with_unfolding_all exact H.b) (by with_unfolding_all rfl) (by decide) rfl (by omega) ?_))
        refine m_leaves H M e3 c5 (fun X2 h2 H2 M2 r2 => ?_)
        refine vG (o := 12) H2 H2.b rfl ?_
        refine m_finds H2 M2 ?_
        rw [show addF wd (N 3) a b c d 3 = nI (N 3 + 1) from va_up_self _ _ _, nI_pred]
        exact k _ h2 H2 ((OW.of o1).rows r2) M2 (by rw [r2 12 (by decide)]; exact t1)
    (repeat (first | with_reducible refine thr0 ?_ | with_reducible refine br_T rfl ?_ | with_reducible refine bd_i ?_ | with_reducible refine fP H (by with_unfolding_all exact H.b) (by with_unfolding_all rfl) (by with_unfolding_all rfl) ?_ | with_reducible refine vG H (by with_unfolding_all exact H.b) (by with_unfolding_all rfl) ?_ | with_reducible refine aM H M rfl (by omega) ?_ | with_reducible refine aM H M (ix0 0) (by omega) ?_ | with_reducible refine aM H M (ix0 1) (by omega) ?_ | with_reducible refine aM H M (ix0 2) (by omega) ?_ | with_reducible refine aM H M (ix0 3) (by omega) ?_ | with_reducible refine aM H M (ix0 4) (by omega) ?_ | with_reducible refine aM H M (ix0 5) (by omega) ?_ | with_reducible refine aM H M (ix0 6) (by omega) ?_ | with_reducible refine aM H M (ix0 7) (by omega) ?_ | with_reducible refine aM H M (ix0 8) (by omega) ?_ | with_reducible refine aM H M (ix0 9) (by omega) ?_ | with_reducible refine aM H M (ix0 10) (by omega) ?_ | with_reducible refine aM H M (ix0 11) (by omega) ?_ | with_reducible refine aM H M (ix0 12) (by omega) ?_ | with_reducible refine aM H M (ix1 13 _) (by omega) ?_ | with_reducible refine aM H M (ix1 1161 _) (by omega) ?_ | with_reducible refine aM H M (ix2 269 4 _) (by omega) ?_ | with_reducible refine aM H M (ix4 269 4 _ 1) (by omega) ?_ | with_reducible refine aM H M (ix4 269 4 _ 2) (by omega) ?_ | with_reducible refine aM H M (ix4 269 4 _ 3) (by omega) ?_ | with_reducible refine fG H (by with_unfolding_all exact H.b) (by with_unfolding_all rfl) ?_ | with_reducible refine aG H (by with_unfolding_all exact H.b) (by with_unfolding_all rfl) (by decide) rfl (by omega) ?_))
    refine m_rng (fun c2 => br_F (by decide) ?_) (fun c2 => br_T rfl (kf (fun z => c2 (kd_13.mpr (z.2.imp (fun y => y.1) (fun y => y.imp (fun y => y.1) (fun y => y.1))))) _ (fun h2 => br10 _ _)))
    refine m_rng (fun c3 => br_F (by decide) ?_) (fun c3 => br_T rfl (kf (fun z => c3 z.1) _ (fun h2 => br10 _ _)))
    refine br_if (fun c4 => ?_) (fun c4 => br_if (fun c5 => ?_) (fun c5 => ?_))
    · refine m_rng (fun c6 => br_F (by decide) (kg ⟨c3, Or.inl ⟨c4, c6⟩⟩)) (fun c6 => br_T rfl (kf (fun z => ?_) _ (fun h2 => br10 _ _)))
      rcases z.2 with y | y | y
      · exact c6 y.2
      · rw [c4] at y; exact absurd y.1 (by decide)
      · rw [c4] at y; exact absurd y.1 (by decide)
    · refine m_rng (fun c6 => br_F (by decide) (kg ⟨c3, Or.inr (Or.inl ⟨c5, c6⟩)⟩)) (fun c6 => br_T rfl (kf (fun z => ?_) _ (fun h2 => br10 _ _)))
      rcases z.2 with y | y | y
      · exact c4 y.1
      · exact c6 y.2
      · rw [c5] at y; exact absurd y.1 (by decide)
    · have c7 : a = 3 := by
        rcases kd_13.mp c2 with y | y | y
        · exact absurd y c4
        · exact absurd y c5
        · exact y
      refine m_year (fun c6 => br_T rfl (kg ⟨c3, Or.inr (Or.inr ⟨c7, c6⟩)⟩)) (fun c6 => br_F (by decide) (kf (fun z => ?_) _ (fun h2 => br10 _ _)))
      rcases z.2 with y | y | y
      · exact c4 y.1
      · exact c5 y.1
      · exact c6 y.2
  · rw [otherS, otherW, cIf_f c1, cIf_f (show ¬ otC N a b c d from fun z => c1 z.1)] at k
    (repeat (first | with_reducible refine bd_i ?_ | with_reducible refine fP H (by with_unfolding_all exact H.b) (by with_unfolding_all rfl) (by with_unfolding_all rfl) ?_ | with_reducible refine vG H (by with_unfolding_all exact H.b) (by with_unfolding_all rfl) ?_ | with_reducible refine aM H M rfl (by omega) ?_ | with_reducible refine aM H M (ix0 0) (by omega) ?_ | with_reducible refine aM H M (ix0 1) (by omega) ?_ | with_reducible refine aM H M (ix0 2) (by omega) ?_ | with_reducible refine aM H M (ix0 3) (by omega) ?_ | with_reducible refine aM H M (ix0 4) (by omega) ?_ | with_reducible refine aM H M (ix0 5) (by omega) ?_ | with_reducible refine aM H M (ix0 6) (by omega) ?_ | with_reducible refine aM H M (ix0 7) (by omega) ?_ | with_reducible refine aM H M (ix0 8) (by omega) ?_ | with_reducible refine aM H M (ix0 9) (by omega) ?_ | with_reducible refine aM H M (ix0 10) (by omega) ?_ | with_reducible refine aM H M (ix0 11) (by omega) ?_ | with_reducible refine aM H M (ix0 12) (by omega) ?_ | with_reducible refine aM H M (ix1 13 _) (by omega) ?_ | with_reducible refine aM H M (ix1 1161 _) (by omega) ?_ | with_reducible refine aM H M (ix2 269 4 _) (by omega) ?_ | with_reducible refine aM H M (ix4 269 4 _ 1) (by omega) ?_ | with_reducible refine aM H M (ix4 269 4 _ 2) (by omega) ?_ | with_reducible refine aM H M (ix4 269 4 _ 3) (by omega) ?_ | with_reducible refine fG H (by with_unfolding_all exact H.b) (by with_unfolding_all rfl) ?_ | with_reducible refine aG H (by with_unfolding_all exact H.b) (by with_unfolding_all rfl) (by decide) rfl (by omega) ?_))
    exact thr1 H (fun h2 H2 => br_F (by decide) (k _ _ H2 ((OW.of o1).th 1) (M.off (id := 12) (by decide) 0 1) (up_same _ _ _ _)))
end ADDPUB2
