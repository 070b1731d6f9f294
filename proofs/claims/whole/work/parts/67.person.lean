/-! person -/
section PERSON
variable {A : Nat → Nat} {S : Nat → Prop} {h0 h : AH} {X : Nat → Nat → Int32} {wd : Nat → Int32} {N : Nat → Nat} {Q : Int32 → AH → Prop} {Qv : AH → Prop} {a3 : Nat}
def addP (wd : Nat → Int32) (n : Nat) (g c f s l : Int32) : Nat → Int32 := va_up (va_up (va_up (va_up (va_up (va_up (va_up wd (301 + 6 * n) g) (302 + 6 * n) c) (303 + 6 * n) f) (304 + 6 * n) 1) (305 + 6 * n) s) (306 + 6 * n) l) 1 (nI (n + 1))
theorem va_cm {f : Nat → Int32} {i j : Nat} {a b : Int32} (h : i ≠ j) : va_up (va_up f i a) j b = va_up (va_up f j b) i a := by
  funext k
  unfold va_up
  by_cases c : k = j
  · subst c
    rw [if_pos rfl, if_neg (fun z => h z.symm), if_pos rfl]
  · rw [if_neg c]
    by_cases d : k = i
    · rw [if_pos d, if_pos d]
    · rw [if_neg d, if_neg d, if_neg c]
theorem addP_c {n : Nat} {g c f s l : Int32} : va_up (va_up (va_up (va_up (va_up (va_up (va_up wd (301 + 6 * n) g) (305 + 6 * n) s) (302 + 6 * n) c) (303 + 6 * n) f) (306 + 6 * n) l) (304 + 6 * n) 1) 1 (nI (n + 1)) = addP wd n g c f s l := by
  unfold addP
  congr 1
  rw [va_cm (i := 305 + 6 * n) (j := 302 + 6 * n) (by omega), va_cm (i := 305 + 6 * n) (j := 303 + 6 * n) (by omega), va_cm (i := 306 + 6 * n) (j := 304 + 6 * n) (by omega), va_cm (i := 305 + 6 * n) (j := 304 + 6 * n) (by omega)]
theorem Ok.addP (O : Ok wd N) (hn : N 1 < 8) {g c f s l : Int32} (hg : ∃ j, j < N 0 ∧ g = nI j) (hc : bn c 255) (hf : bn f 9) (hs : bn s 1) (hl : l = -1 ∨ ∃ j, j < N 2 ∧ l = nI j) : Ok (addP wd (N 1) g c f s l) (va_up N 1 (N 1 + 1)) := by
  have b0 := O.g.2; have b1 := O.p.2; have b3 := O.f.2; have b4 := O.t.2; have b5 := O.o.2; have b6 := O.s.2
  have O1 := (((((O.irr (w := 301 + 6 * N 1) (by unfold us; omega) g).irr (w := 302 + 6 * N 1) (by unfold us; omega) c).irr (w := 303 + 6 * N 1) (by unfold us; omega) f).irr (w := 304 + 6 * N 1) (by unfold us; omega) 1).irr (w := 305 + 6 * N 1) (by unfold us; omega) s).irr (w := 306 + 6 * N 1) (by unfold us; omega) l
  refine O1.inc (M := 8) (Or.inr (Or.inl ⟨rfl, rfl, ?_⟩)) hn
  unfold OkP
  rw [va_up_self]
  rw [va_up_ne _ _ (show 301 + 6 * N 1 ≠ 306 + 6 * N 1 by omega), va_up_ne _ _ (show 301 + 6 * N 1 ≠ 305 + 6 * N 1 by omega), va_up_ne _ _ (show 301 + 6 * N 1 ≠ 304 + 6 * N 1 by omega), va_up_ne _ _ (show 301 + 6 * N 1 ≠ 303 + 6 * N 1 by omega), va_up_ne _ _ (show 301 + 6 * N 1 ≠ 302 + 6 * N 1 by omega), va_up_self]
  rw [va_up_ne _ _ (show 302 + 6 * N 1 ≠ 306 + 6 * N 1 by omega), va_up_ne _ _ (show 302 + 6 * N 1 ≠ 305 + 6 * N 1 by omega), va_up_ne _ _ (show 302 + 6 * N 1 ≠ 304 + 6 * N 1 by omega), va_up_ne _ _ (show 302 + 6 * N 1 ≠ 303 + 6 * N 1 by omega), va_up_self]
  rw [va_up_ne _ _ (show 303 + 6 * N 1 ≠ 306 + 6 * N 1 by omega), va_up_ne _ _ (show 303 + 6 * N 1 ≠ 305 + 6 * N 1 by omega), va_up_ne _ _ (show 303 + 6 * N 1 ≠ 304 + 6 * N 1 by omega), va_up_self]
  rw [va_up_ne _ _ (show 304 + 6 * N 1 ≠ 306 + 6 * N 1 by omega), va_up_ne _ _ (show 304 + 6 * N 1 ≠ 305 + 6 * N 1 by omega), va_up_self]
  rw [va_up_ne _ _ (show 305 + 6 * N 1 ≠ 306 + 6 * N 1 by omega), va_up_self]
  exact ⟨Or.inr hg, hc, hf, bn.of (n := 1) (by decide) (by decide), hs, hl⟩
def peC1 (N : Nat → Nat) (g c l : Int32) : Prop := isN g (N 0) ∧ isN c 256 ∧ (l = -1 ∨ isN l (N 2))
def hadB (wd : Nat → Int32) (N : Nat → Nat) (g : Int32) : Bool := anyB (fun p => decide (wd (301 + 6 * p) = g)) (N 1)
def peC2 (wd : Nat → Int32) (N : Nat → Nat) (g f : Int32) : Prop := inR f 0 9 ∧ ¬ hadB wd N g = true
def peC (wd : Nat → Int32) (N : Nat → Nat) (g c f l : Int32) : Prop := peC1 N g c l ∧ peC2 wd N g f ∧ N 1 < 8
noncomputable def personS (wd : Nat → Int32) (N : Nat → Nat) (g c f l : Int32) : Int32 × Int32 := cIf (peC1 N g c l) (cIf (peC2 wd N g f) (cIf (N 1 < 8) (0, nI (N 1)) (3, 0)) (2, 0)) (1, 0)
noncomputable def personW (wd : Nat → Int32) (N : Nat → Nat) (g c f l : Int32) : Nat → Int32 := cIf (peC wd N g c f l) (addP wd (N 1) g c f (wd (269 + 4 * nt g)) l) wd
noncomputable def personN (wd : Nat → Int32) (N : Nat → Nat) (g c f l : Int32) : Nat → Nat := cIf (peC wd N g c f l) (va_up N 1 (N 1 + 1)) N
theorem person_ok (O : Ok wd N) {g c f l : Int32} : Ok (personW wd N g c f l) (personN wd N g c f l) := by
  unfold personW personN
  by_cases e : peC wd N g c f l
  · rw [cIf_t e, cIf_t e]
    obtain ⟨⟨h1, h2, h3⟩, h4, h5⟩ := e
    have h8 := O.g.2
    exact O.addP h5 h1 (isN_bn (M := 255) (by decide) h2) (inR_bn (M := 9) (by decide) h4.1) (O.G (isN_nt (by omega) h1).2).1 h3
  · rw [cIf_f e, cIf_f e]
    exact O
theorem c_addPerson (H : G A S h0 X h) (R : CR X wd) {n : Nat} (e : wd 1 = nI n) (hn : n < 8) {g s c f l : Int32} (k : ∀ X' h', G A S h0 X' h' → CR X' (addP wd n g c f s l) → ST X X' → Q (nI n) h') : w_X4_add (A 4) g s c f l h Q := by
  unfold w_X4_add
  refine adC H R 4 1 501 0 1 8 301 6 H.b rfl rfl H.b rfl (by decide) rfl rfl e hn (fun h1 H1 R1 => ?_)
  have e1 : va_up wd (301 + 6 * n) g 1 = nI n := by rw [va_up_ne _ _ (by omega)]; exact e
  refine adC H1 R1 4 2 502 0 1 8 305 6 H.b rfl rfl H.b rfl (by decide) rfl rfl e1 hn (fun h2 H2 R2 => ?_)
  have e2 : va_up (va_up wd (301 + 6 * n) g) (305 + 6 * n) s 1 = nI n := by rw [va_up_ne _ _ (by omega)]; exact e1
  refine adC H2 R2 4 3 503 0 1 8 302 6 H.b rfl rfl H.b rfl (by decide) rfl rfl e2 hn (fun h3 H3 R3 => ?_)
  have e3 : va_up (va_up (va_up wd (301 + 6 * n) g) (305 + 6 * n) s) (302 + 6 * n) c 1 = nI n := by rw [va_up_ne _ _ (by omega)]; exact e2
  refine adC H3 R3 4 4 504 0 1 8 303 6 H.b rfl rfl H.b rfl (by decide) rfl rfl e3 hn (fun h4 H4 R4 => ?_)
  have e4 : va_up (va_up (va_up (va_up wd (301 + 6 * n) g) (305 + 6 * n) s) (302 + 6 * n) c) (303 + 6 * n) f 1 = nI n := by rw [va_up_ne _ _ (by omega)]; exact e3
  refine adC H4 R4 4 5 505 0 1 8 306 6 H.b rfl rfl H.b rfl (by decide) rfl rfl e4 hn (fun h5 H5 R5 => ?_)
  have e5 : va_up (va_up (va_up (va_up (va_up wd (301 + 6 * n) g) (305 + 6 * n) s) (302 + 6 * n) c) (303 + 6 * n) f) (306 + 6 * n) l 1 = nI n := by rw [va_up_ne _ _ (by omega)]; exact e4
  refine adC H5 R5 4 6 506 0 1 8 304 6 H.b rfl rfl H.b rfl (by decide) rfl rfl e5 hn (fun h6 H6 R6 => ?_)
  have e6 : va_up (va_up (va_up (va_up (va_up (va_up wd (301 + 6 * n) g) (305 + 6 * n) s) (302 + 6 * n) c) (303 + 6 * n) f) (306 + 6 * n) l) (304 + 6 * n) 1 1 = nI n := by rw [va_up_ne _ _ (by omega)]; exact e5
  refine icC H6 R6 4 0 1 H.b rfl rfl e6 (K := Q) (fun h7 H7 R7 => ?_)
  rw [addP_c] at R7
  exact k _ h7 H7 R7 ((((((((ST.rf X).up rfl _ _).up rfl _ _).up rfl _ _).up rfl _ _).up rfl _ _).up rfl _ _).up rfl _ _)
theorem L_person (H : G A S h0 X h) (R : CR X wd) (O : Ok wd N) (J : J3 h0 a3) {g c f l : Int32} (k : ∀ h1 X' h', G A S h1 X' h' → hJ h0 h1 → SC X X' → CR X' (personW wd N g c f l) → ((personS wd N g c f l).1 = 0 → gJ h' a3 0 = (personS wd N g c f l).2.toInt64) → Q (personS wd N g c f l).1 h') : w_L_person (A 11) g c f l a3 h Q := by
  obtain ⟨e0, h0_⟩ := O.g
  obtain ⟨e1, h1_⟩ := O.p
  obtain ⟨e2, h2_⟩ := O.l
  have kf : ¬ peC1 N g c l → Q 1 h := by
    intro z
    rw [personS, personW, cIf_f z, cIf_f (show ¬ peC wd N g c f l from fun y => z y.1)] at k
    exact k _ _ _ H (hJ.rf _) (SC.of (ST.rf _)) R (fun z => absurd z (by decide))
  have key : peC1 N g c l → w_X11_person_36 (A 11) g c f l h (fun x1 h => tJ h a3 0 x1.toInt64 fun h => Q 0 h) (fun E h => br (E = "java/lang/IndexOutOfBoundsException") (∀ q, w_L_person_17 q h Q) (br (E = "java/lang/IllegalArgumentException") (∀ q, w_L_person_21 q h Q) (br (E = "java/lang/UnsupportedOperationException") (∀ q, w_L_person_25 q h Q) False))) := by
    intro hc
    have kf2 : ¬ peC2 wd N g f → Q 2 h := by
      intro z
      rw [personS, personW, cIf_t hc, cIf_f z, cIf_f (show ¬ peC wd N g c f l from fun y => z y.2.1)] at k
      exact k _ _ _ H (hJ.rf _) (SC.of (ST.rf _)) R (fun z => absurd z (by decide))
    dsimp only [w_X11_person_36, w_X11_person_64, w_X11_person_65, w_L_person_17, w_L_person_21, w_L_person_25]
    refine c_wi (fun c1 => br_F (by decide) ?_) (fun c1 => br_T rfl (c_ne0 (br_F (by decide) (br_T rfl (fun q => kf2 (fun z => c1 z.1))))))
    (repeat (first | with_reducible refine c_someoneHas H R O ?_ | with_reducible refine bd_i ?_ | with_reducible refine fP H (by with_unfolding_all first | exact H.b | exact hS) (by with_unfolding_all rfl) (by with_unfolding_all rfl) ?_ | with_reducible refine vG H (by with_unfolding_all first | exact H.b | exact hS) (by with_unfolding_all rfl) ?_ | with_reducible refine fC_ H R (by with_unfolding_all exact H.b) (by with_unfolding_all rfl) (by with_unfolding_all rfl) ?_ | with_reducible refine aC H R (by with_unfolding_all exact H.b) (by with_unfolding_all rfl) (by decide) (by with_unfolding_all rfl) rfl (by omega) ?_ | with_reducible refine fG H (by with_unfolding_all first | exact H.b | exact hS) (by with_unfolding_all rfl) ?_ | with_reducible refine aG H (by with_unfolding_all first | exact H.b | exact hS) (by with_unfolding_all rfl) (by decide) rfl (by omega) ?_))
    refine br_bI (fun c2 => ?_) (fun c2 => ?_)
    · exact c_ne0 (br_F (by decide) (br_T rfl (fun q => kf2 (fun z => z.2 c2))))
    · have hc2 : peC2 wd N g f := ⟨c1, c2⟩
      refine c_ne1 ?_
      (repeat (first | with_reducible refine bd_i ?_ | with_reducible refine fP H (by with_unfolding_all first | exact H.b | exact hS) (by with_unfolding_all rfl) (by with_unfolding_all rfl) ?_ | with_reducible refine vG H (by with_unfolding_all first | exact H.b | exact hS) (by with_unfolding_all rfl) ?_ | with_reducible refine fC_ H R (by with_unfolding_all exact H.b) (by with_unfolding_all rfl) (by with_unfolding_all rfl) ?_ | with_reducible refine aC H R (by with_unfolding_all exact H.b) (by with_unfolding_all rfl) (by decide) (by with_unfolding_all rfl) rfl (by omega) ?_ | with_reducible refine fG H (by with_unfolding_all first | exact H.b | exact hS) (by with_unfolding_all rfl) ?_ | with_reducible refine aG H (by with_unfolding_all first | exact H.b | exact hS) (by with_unfolding_all rfl) (by decide) rfl (by omega) ?_))
      rw [e1]
      refine c_room (m := 8) (by omega) (by decide) (fun c5 => ?_) (fun c5 => ?_)
      · rw [personS, personW, cIf_t hc, cIf_t hc2, cIf_t c5, cIf_t (show peC wd N g c f l from ⟨hc, hc2, c5⟩)] at k
        obtain ⟨n, hn, rfl⟩ := hc.1
        rw [nt_nI (by omega)] at k
        (repeat (first | with_reducible refine bd_i ?_ | with_reducible refine fP H (by with_unfolding_all first | exact H.b | exact hS) (by with_unfolding_all rfl) (by with_unfolding_all rfl) ?_ | with_reducible refine vG H (by with_unfolding_all first | exact H.b | exact hS) (by with_unfolding_all rfl) ?_ | with_reducible refine fC_ H R (by with_unfolding_all exact H.b) (by with_unfolding_all rfl) (by with_unfolding_all rfl) ?_ | with_reducible refine aC H R (by with_unfolding_all exact H.b) (by with_unfolding_all rfl) (by decide) (by with_unfolding_all rfl) rfl (by omega) ?_ | with_reducible refine fG H (by with_unfolding_all first | exact H.b | exact hS) (by with_unfolding_all rfl) ?_ | with_reducible refine aG H (by with_unfolding_all first | exact H.b | exact hS) (by with_unfolding_all rfl) (by decide) rfl (by omega) ?_))
        refine c_addPerson H R e1 c5 (fun X1 h1 H1 R1 s1 => ?_)
        exact tJG H1 J (fun h2 h' H' j1 j2 => k h2 X1 h' H' j1 (SC.of s1) R1 (fun _ => j2))
      · rw [personS, personW, cIf_t hc, cIf_t hc2, cIf_f c5, cIf_f (show ¬ peC wd N g c f l from fun z => c5 z.2.2)] at k
        exact br_F (by decide) (br_F (by decide) (br_T rfl (fun q => k _ _ _ H (hJ.rf _) (SC.of (ST.rf _)) R (fun z => absurd z (by decide)))))
  unfold w_L_person
  (repeat (first | with_reducible refine bd_i ?_ | with_reducible refine fP H (by with_unfolding_all first | exact H.b | exact hS) (by with_unfolding_all rfl) (by with_unfolding_all rfl) ?_ | with_reducible refine vG H (by with_unfolding_all first | exact H.b | exact hS) (by with_unfolding_all rfl) ?_ | with_reducible refine fC_ H R (by with_unfolding_all exact H.b) (by with_unfolding_all rfl) (by with_unfolding_all rfl) ?_ | with_reducible refine aC H R (by with_unfolding_all exact H.b) (by with_unfolding_all rfl) (by decide) (by with_unfolding_all rfl) rfl (by omega) ?_ | with_reducible refine fG H (by with_unfolding_all first | exact H.b | exact hS) (by with_unfolding_all rfl) ?_ | with_reducible refine aG H (by with_unfolding_all first | exact H.b | exact hS) (by with_unfolding_all rfl) (by decide) rfl (by omega) ?_))
  unfold w_X11_person
  (repeat (first | with_reducible refine bd_i ?_ | with_reducible refine fP H (by with_unfolding_all first | exact H.b | exact hS) (by with_unfolding_all rfl) (by with_unfolding_all rfl) ?_ | with_reducible refine vG H (by with_unfolding_all first | exact H.b | exact hS) (by with_unfolding_all rfl) ?_ | with_reducible refine fC_ H R (by with_unfolding_all exact H.b) (by with_unfolding_all rfl) (by with_unfolding_all rfl) ?_ | with_reducible refine aC H R (by with_unfolding_all exact H.b) (by with_unfolding_all rfl) (by decide) (by with_unfolding_all rfl) rfl (by omega) ?_ | with_reducible refine fG H (by with_unfolding_all first | exact H.b | exact hS) (by with_unfolding_all rfl) ?_ | with_reducible refine aG H (by with_unfolding_all first | exact H.b | exact hS) (by with_unfolding_all rfl) (by decide) rfl (by omega) ?_))
  rw [e0]
  refine c_num (by omega) (fun c1 => ?_) (fun c1 => br_T rfl (fun q => kf (fun z => c1 z.1)))
  refine c_cell (fun c2 => ?_) (fun c2 => br_T rfl (fun q => kf (fun z => c2 z.2.1)))
  refine br_if (fun c3 => key ⟨c1, c2, Or.inl c3⟩) (fun c3 => ?_)
  (repeat (first | with_reducible refine bd_i ?_ | with_reducible refine fP H (by with_unfolding_all first | exact H.b | exact hS) (by with_unfolding_all rfl) (by with_unfolding_all rfl) ?_ | with_reducible refine vG H (by with_unfolding_all first | exact H.b | exact hS) (by with_unfolding_all rfl) ?_ | with_reducible refine fC_ H R (by with_unfolding_all exact H.b) (by with_unfolding_all rfl) (by with_unfolding_all rfl) ?_ | with_reducible refine aC H R (by with_unfolding_all exact H.b) (by with_unfolding_all rfl) (by decide) (by with_unfolding_all rfl) rfl (by omega) ?_ | with_reducible refine fG H (by with_unfolding_all first | exact H.b | exact hS) (by with_unfolding_all rfl) ?_ | with_reducible refine aG H (by with_unfolding_all first | exact H.b | exact hS) (by with_unfolding_all rfl) (by decide) rfl (by omega) ?_))
  rw [e2]
  refine c_num (by omega) (fun c4 => key ⟨c1, c2, Or.inr c4⟩) (fun c4 => br_T rfl (fun q => kf (fun z => ?_)))
  rcases z.2.2 with y | y
  · exact c3 y
  · exact c4 y
theorem m_sets (H : G A S h0 X h) (M : MR X wd) {p : Nat} {ci v : Int32} (w c : Nat) (hi : ci = nI c) (hw : w = 301 + 6 * p + c) (hp : w < 8645) (k : ∀ h', G A S h0 (up X 1301 w v) h' → MR (up X 1301 w v) (va_up wd w v) → Qv h') : w_X12_sets (A 12) (nI p) ci v h Qv := by
  subst hi
  dsimp only [w_X12_sets]
  exact adM H M w (by rw [ix3 301 6 p c, hw]) hp k
theorem m_person_ (H : G A S h0 X h) (M : MR X wd) (O : Ok wd N) {g c f l : Int32} (k : ∀ X' h', G A S h0 X' h' → OW X X' → MR X' (personW wd N g c f l) → X' 12 0 = (personS wd N g c f l).1 → Q (personS wd N g c f l).2 h') : w_X12_person (A 12) g c f l h Q := by
  obtain ⟨e0, h0_⟩ := O.g
  obtain ⟨e1, h1_⟩ := O.p
  obtain ⟨e2, h2_⟩ := O.l
  unfold w_X12_person
  refine m_ent H M (fun X1 h1 H1 M1 o1 t1 => ?_)
  clear H M
  have H := H1
  have M := M1
  have kf : ¬ peC1 N g c l → w_X12_person_38 (A 12) g c f l (A 12) h1 Q := by
    intro z
    rw [personS, personW, cIf_f z, cIf_f (show ¬ peC wd N g c f l from fun y => z y.1)] at k
    dsimp only [w_X12_person_38, w_X12_person_43]
    (repeat (first | with_reducible refine bd_i ?_ | with_reducible refine fP H (by with_unfolding_all exact H.b) (by with_unfolding_all rfl) (by with_unfolding_all rfl) ?_ | with_reducible refine vG H (by with_unfolding_all exact H.b) (by with_unfolding_all rfl) ?_ | with_reducible refine aM H M rfl (by omega) ?_ | with_reducible refine aM H M (ix0 0) (by omega) ?_ | with_reducible refine aM H M (ix0 1) (by omega) ?_ | with_reducible refine aM H M (ix0 2) (by omega) ?_ | with_reducible refine aM H M (ix0 3) (by omega) ?_ | with_reducible refine aM H M (ix0 4) (by omega) ?_ | with_reducible refine aM H M (ix0 5) (by omega) ?_ | with_reducible refine aM H M (ix0 6) (by omega) ?_ | with_reducible refine aM H M (ix0 7) (by omega) ?_ | with_reducible refine aM H M (ix0 8) (by omega) ?_ | with_reducible refine aM H M (ix0 9) (by omega) ?_ | with_reducible refine aM H M (ix0 10) (by omega) ?_ | with_reducible refine aM H M (ix0 11) (by omega) ?_ | with_reducible refine aM H M (ix0 12) (by omega) ?_ | with_reducible refine aM H M (ix1 13 _) (by omega) ?_ | with_reducible refine aM H M (ix1 1161 _) (by omega) ?_ | with_reducible refine aM H M (ix2 269 4 _) (by omega) ?_ | with_reducible refine aM H M (ix4 269 4 _ 1) (by omega) ?_ | with_reducible refine aM H M (ix4 269 4 _ 2) (by omega) ?_ | with_reducible refine aM H M (ix4 269 4 _ 3) (by omega) ?_ | with_reducible refine fG H (by with_unfolding_all exact H.b) (by with_unfolding_all rfl) ?_ | with_reducible refine aG H (by with_unfolding_all exact H.b) (by with_unfolding_all rfl) (by decide) rfl (by omega) ?_))
    exact thr1 H (fun h2 H2 => br_F (by decide) (k _ _ H2 ((OW.of o1).th 1) (M.off (id := 12) (by decide) 0 1) (up_same _ _ _ _)))
  have key : peC1 N g c l → w_X12_person_42 (A 12) g c f l (A 12) h1 Q := by
    intro hc
    dsimp only [w_X12_person_42, w_X12_person_43]
    (repeat (first | with_reducible refine thr0 ?_ | with_reducible refine bd_i ?_ | with_reducible refine fP H (by with_unfolding_all exact H.b) (by with_unfolding_all rfl) (by with_unfolding_all rfl) ?_ | with_reducible refine vG H (by with_unfolding_all exact H.b) (by with_unfolding_all rfl) ?_ | with_reducible refine aM H M rfl (by omega) ?_ | with_reducible refine aM H M (ix0 0) (by omega) ?_ | with_reducible refine aM H M (ix0 1) (by omega) ?_ | with_reducible refine aM H M (ix0 2) (by omega) ?_ | with_reducible refine aM H M (ix0 3) (by omega) ?_ | with_reducible refine aM H M (ix0 4) (by omega) ?_ | with_reducible refine aM H M (ix0 5) (by omega) ?_ | with_reducible refine aM H M (ix0 6) (by omega) ?_ | with_reducible refine aM H M (ix0 7) (by omega) ?_ | with_reducible refine aM H M (ix0 8) (by omega) ?_ | with_reducible refine aM H M (ix0 9) (by omega) ?_ | with_reducible refine aM H M (ix0 10) (by omega) ?_ | with_reducible refine aM H M (ix0 11) (by omega) ?_ | with_reducible refine aM H M (ix0 12) (by omega) ?_ | with_reducible refine aM H M (ix1 13 _) (by omega) ?_ | with_reducible refine aM H M (ix1 1161 _) (by omega) ?_ | with_reducible refine aM H M (ix2 269 4 _) (by omega) ?_ | with_reducible refine aM H M (ix4 269 4 _ 1) (by omega) ?_ | with_reducible refine aM H M (ix4 269 4 _ 2) (by omega) ?_ | with_reducible refine aM H M (ix4 269 4 _ 3) (by omega) ?_ | with_reducible refine fG H (by with_unfolding_all exact H.b) (by with_unfolding_all rfl) ?_ | with_reducible refine aG H (by with_unfolding_all exact H.b) (by with_unfolding_all rfl) (by decide) rfl (by omega) ?_))
    refine br_T rfl ?_
    refine lp_up (N 1) (fun j => (bI (anyB (fun p => decide (wd (301 + 6 * p) = g)) j), nI j, h1)) (fun j kk1 hj kk => ?_) (fun kk1 => ?_) (Nat.zero_le _)
    · rw [nI_succ] at kk
      simp only [anyB] at kk
      dsimp only [w_X12_person_58, w_X12_person_85, w_X12_person_90]
      (repeat (first | with_reducible refine bd_i ?_ | with_reducible refine fP H (by with_unfolding_all exact H.b) (by with_unfolding_all rfl) (by with_unfolding_all rfl) ?_ | with_reducible refine vG H (by with_unfolding_all exact H.b) (by with_unfolding_all rfl) ?_ | with_reducible refine aM H M rfl (by omega) ?_ | with_reducible refine aM H M (ix0 0) (by omega) ?_ | with_reducible refine aM H M (ix0 1) (by omega) ?_ | with_reducible refine aM H M (ix0 2) (by omega) ?_ | with_reducible refine aM H M (ix0 3) (by omega) ?_ | with_reducible refine aM H M (ix0 4) (by omega) ?_ | with_reducible refine aM H M (ix0 5) (by omega) ?_ | with_reducible refine aM H M (ix0 6) (by omega) ?_ | with_reducible refine aM H M (ix0 7) (by omega) ?_ | with_reducible refine aM H M (ix0 8) (by omega) ?_ | with_reducible refine aM H M (ix0 9) (by omega) ?_ | with_reducible refine aM H M (ix0 10) (by omega) ?_ | with_reducible refine aM H M (ix0 11) (by omega) ?_ | with_reducible refine aM H M (ix0 12) (by omega) ?_ | with_reducible refine aM H M (ix1 13 _) (by omega) ?_ | with_reducible refine aM H M (ix1 1161 _) (by omega) ?_ | with_reducible refine aM H M (ix2 269 4 _) (by omega) ?_ | with_reducible refine aM H M (ix4 269 4 _ 1) (by omega) ?_ | with_reducible refine aM H M (ix4 269 4 _ 2) (by omega) ?_ | with_reducible refine aM H M (ix4 269 4 _ 3) (by omega) ?_ | with_reducible refine fG H (by with_unfolding_all exact H.b) (by with_unfolding_all rfl) ?_ | with_reducible refine aG H (by with_unfolding_all exact H.b) (by with_unfolding_all rfl) (by decide) rfl (by omega) ?_))
      rw [e1]
      refine br_go hj (by omega) ?_
      refine br_bI (fun c2 => ?_) (fun c2 => ?_)
      · rw [c2, Bool.true_or] at kk
        exact kk
      · rw [Bool.eq_false_iff.mpr c2, Bool.false_or] at kk
        (repeat (first | with_reducible refine p0 H M (by omega) ?_ | with_reducible refine bd_i ?_ | with_reducible refine fP H (by with_unfolding_all exact H.b) (by with_unfolding_all rfl) (by with_unfolding_all rfl) ?_ | with_reducible refine vG H (by with_unfolding_all exact H.b) (by with_unfolding_all rfl) ?_ | with_reducible refine aM H M rfl (by omega) ?_ | with_reducible refine aM H M (ix0 0) (by omega) ?_ | with_reducible refine aM H M (ix0 1) (by omega) ?_ | with_reducible refine aM H M (ix0 2) (by omega) ?_ | with_reducible refine aM H M (ix0 3) (by omega) ?_ | with_reducible refine aM H M (ix0 4) (by omega) ?_ | with_reducible refine aM H M (ix0 5) (by omega) ?_ | with_reducible refine aM H M (ix0 6) (by omega) ?_ | with_reducible refine aM H M (ix0 7) (by omega) ?_ | with_reducible refine aM H M (ix0 8) (by omega) ?_ | with_reducible refine aM H M (ix0 9) (by omega) ?_ | with_reducible refine aM H M (ix0 10) (by omega) ?_ | with_reducible refine aM H M (ix0 11) (by omega) ?_ | with_reducible refine aM H M (ix0 12) (by omega) ?_ | with_reducible refine aM H M (ix1 13 _) (by omega) ?_ | with_reducible refine aM H M (ix1 1161 _) (by omega) ?_ | with_reducible refine aM H M (ix2 269 4 _) (by omega) ?_ | with_reducible refine aM H M (ix4 269 4 _ 1) (by omega) ?_ | with_reducible refine aM H M (ix4 269 4 _ 2) (by omega) ?_ | with_reducible refine aM H M (ix4 269 4 _ 3) (by omega) ?_ | with_reducible refine fG H (by with_unfolding_all exact H.b) (by with_unfolding_all rfl) ?_ | with_reducible refine aG H (by with_unfolding_all exact H.b) (by with_unfolding_all rfl) (by decide) rfl (by omega) ?_))
        refine br_if (fun c3 => ?_) (fun c3 => ?_)
        · rw [decide_eq_true c3] at kk
          exact kk
        · rw [decide_eq_false c3] at kk
          exact kk
    · dsimp only [w_X12_person_58]
      (repeat (first | with_reducible refine bd_i ?_ | with_reducible refine fP H (by with_unfolding_all exact H.b) (by with_unfolding_all rfl) (by with_unfolding_all rfl) ?_ | with_reducible refine vG H (by with_unfolding_all exact H.b) (by with_unfolding_all rfl) ?_ | with_reducible refine aM H M rfl (by omega) ?_ | with_reducible refine aM H M (ix0 0) (by omega) ?_ | with_reducible refine aM H M (ix0 1) (by omega) ?_ | with_reducible refine aM H M (ix0 2) (by omega) ?_ | with_reducible refine aM H M (ix0 3) (by omega) ?_ | with_reducible refine aM H M (ix0 4) (by omega) ?_ | with_reducible refine aM H M (ix0 5) (by omega) ?_ | with_reducible refine aM H M (ix0 6) (by omega) ?_ | with_reducible refine aM H M (ix0 7) (by omega) ?_ | with_reducible refine aM H M (ix0 8) (by omega) ?_ | with_reducible refine aM H M (ix0 9) (by omega) ?_ | with_reducible refine aM H M (ix0 10) (by omega) ?_ | with_reducible refine aM H M (ix0 11) (by omega) ?_ | with_reducible refine aM H M (ix0 12) (by omega) ?_ | with_reducible refine aM H M (ix1 13 _) (by omega) ?_ | with_reducible refine aM H M (ix1 1161 _) (by omega) ?_ | with_reducible refine aM H M (ix2 269 4 _) (by omega) ?_ | with_reducible refine aM H M (ix4 269 4 _ 1) (by omega) ?_ | with_reducible refine aM H M (ix4 269 4 _ 2) (by omega) ?_ | with_reducible refine aM H M (ix4 269 4 _ 3) (by omega) ?_ | with_reducible refine fG H (by with_unfolding_all exact H.b) (by with_unfolding_all rfl) ?_ | with_reducible refine aG H (by with_unfolding_all exact H.b) (by with_unfolding_all rfl) (by decide) rfl (by omega) ?_))
      rw [e1]
      refine br_end ?_
      have kf2 : ¬ peC2 wd N g f → w_X12_person_114 (A 12) g c f l (A 12) h1 Q := by
        intro z
        rw [personS, personW, cIf_t hc, cIf_f z, cIf_f (show ¬ peC wd N g c f l from fun y => z y.2.1)] at k
        dsimp only [w_X12_person_114, w_X12_person_119]
        (repeat (first | with_reducible refine bd_i ?_ | with_reducible refine fP H (by with_unfolding_all exact H.b) (by with_unfolding_all rfl) (by with_unfolding_all rfl) ?_ | with_reducible refine vG H (by with_unfolding_all exact H.b) (by with_unfolding_all rfl) ?_ | with_reducible refine aM H M rfl (by omega) ?_ | with_reducible refine aM H M (ix0 0) (by omega) ?_ | with_reducible refine aM H M (ix0 1) (by omega) ?_ | with_reducible refine aM H M (ix0 2) (by omega) ?_ | with_reducible refine aM H M (ix0 3) (by omega) ?_ | with_reducible refine aM H M (ix0 4) (by omega) ?_ | with_reducible refine aM H M (ix0 5) (by omega) ?_ | with_reducible refine aM H M (ix0 6) (by omega) ?_ | with_reducible refine aM H M (ix0 7) (by omega) ?_ | with_reducible refine aM H M (ix0 8) (by omega) ?_ | with_reducible refine aM H M (ix0 9) (by omega) ?_ | with_reducible refine aM H M (ix0 10) (by omega) ?_ | with_reducible refine aM H M (ix0 11) (by omega) ?_ | with_reducible refine aM H M (ix0 12) (by omega) ?_ | with_reducible refine aM H M (ix1 13 _) (by omega) ?_ | with_reducible refine aM H M (ix1 1161 _) (by omega) ?_ | with_reducible refine aM H M (ix2 269 4 _) (by omega) ?_ | with_reducible refine aM H M (ix4 269 4 _ 1) (by omega) ?_ | with_reducible refine aM H M (ix4 269 4 _ 2) (by omega) ?_ | with_reducible refine aM H M (ix4 269 4 _ 3) (by omega) ?_ | with_reducible refine fG H (by with_unfolding_all exact H.b) (by with_unfolding_all rfl) ?_ | with_reducible refine aG H (by with_unfolding_all exact H.b) (by with_unfolding_all rfl) (by decide) rfl (by omega) ?_))
        exact thr1 H (fun h2 H2 => br_F (by decide) (k _ _ H2 ((OW.of o1).th 2) (M.off (id := 12) (by decide) 0 2) (up_same _ _ _ _)))
      unfold w_X12_person_98
      refine m_rng (fun c1 => br_F (by decide) ?_) (fun c1 => br_T rfl (kf2 (fun z => c1 z.1)))
      refine br_bI (fun c2 => kf2 (fun z => z.2 c2)) (fun c2 => ?_)
      have hc2 : peC2 wd N g f := ⟨c1, c2⟩
      dsimp only [w_X12_person_119, w_X12_person_143, w_X12_person_150]
      (repeat (first | with_reducible refine thr0 ?_ | with_reducible refine br_T rfl ?_ | with_reducible refine bd_i ?_ | with_reducible refine fP H (by with_unfolding_all exact H.b) (by with_unfolding_all rfl) (by with_unfolding_all rfl) ?_ | with_reducible refine vG H (by with_unfolding_all exact H.b) (by with_unfolding_all rfl) ?_ | with_reducible refine aM H M rfl (by omega) ?_ | with_reducible refine aM H M (ix0 0) (by omega) ?_ | with_reducible refine aM H M (ix0 1) (by omega) ?_ | with_reducible refine aM H M (ix0 2) (by omega) ?_ | with_reducible refine aM H M (ix0 3) (by omega) ?_ | with_reducible refine aM H M (ix0 4) (by omega) ?_ | with_reducible refine aM H M (ix0 5) (by omega) ?_ | with_reducible refine aM H M (ix0 6) (by omega) ?_ | with_reducible refine aM H M (ix0 7) (by omega) ?_ | with_reducible refine aM H M (ix0 8) (by omega) ?_ | with_reducible refine aM H M (ix0 9) (by omega) ?_ | with_reducible refine aM H M (ix0 10) (by omega) ?_ | with_reducible refine aM H M (ix0 11) (by omega) ?_ | with_reducible refine aM H M (ix0 12) (by omega) ?_ | with_reducible refine aM H M (ix1 13 _) (by omega) ?_ | with_reducible refine aM H M (ix1 1161 _) (by omega) ?_ | with_reducible refine aM H M (ix2 269 4 _) (by omega) ?_ | with_reducible refine aM H M (ix4 269 4 _ 1) (by omega) ?_ | with_reducible refine aM H M (ix4 269 4 _ 2) (by omega) ?_ | with_reducible refine aM H M (ix4 269 4 _ 3) (by omega) ?_ | with_reducible refine fG H (by with_unfolding_all exact H.b) (by with_unfolding_all rfl) ?_ | with_reducible refine aG H (by with_unfolding_all exact H.b) (by with_unfolding_all rfl) (by decide) rfl (by omega) ?_))
      rw [e1]
      refine br_Eq (b := 8) (by omega) (by decide) (fun c5 => ?_) (fun c5 => ?_)
      · rw [personS, personW, cIf_t hc, cIf_t hc2, cIf_f (show ¬ N 1 < 8 by omega), cIf_f (show ¬ peC wd N g c f l from fun y => by have := y.2.2; omega)] at k
        (repeat (first | with_reducible refine bd_i ?_ | with_reducible refine fP H (by with_unfolding_all exact H.b) (by with_unfolding_all rfl) (by with_unfolding_all rfl) ?_ | with_reducible refine vG H (by with_unfolding_all exact H.b) (by with_unfolding_all rfl) ?_ | with_reducible refine aM H M rfl (by omega) ?_ | with_reducible refine aM H M (ix0 0) (by omega) ?_ | with_reducible refine aM H M (ix0 1) (by omega) ?_ | with_reducible refine aM H M (ix0 2) (by omega) ?_ | with_reducible refine aM H M (ix0 3) (by omega) ?_ | with_reducible refine aM H M (ix0 4) (by omega) ?_ | with_reducible refine aM H M (ix0 5) (by omega) ?_ | with_reducible refine aM H M (ix0 6) (by omega) ?_ | with_reducible refine aM H M (ix0 7) (by omega) ?_ | with_reducible refine aM H M (ix0 8) (by omega) ?_ | with_reducible refine aM H M (ix0 9) (by omega) ?_ | with_reducible refine aM H M (ix0 10) (by omega) ?_ | with_reducible refine aM H M (ix0 11) (by omega) ?_ | with_reducible refine aM H M (ix0 12) (by omega) ?_ | with_reducible refine aM H M (ix1 13 _) (by omega) ?_ | with_reducible refine aM H M (ix1 1161 _) (by omega) ?_ | with_reducible refine aM H M (ix2 269 4 _) (by omega) ?_ | with_reducible refine aM H M (ix4 269 4 _ 1) (by omega) ?_ | with_reducible refine aM H M (ix4 269 4 _ 2) (by omega) ?_ | with_reducible refine aM H M (ix4 269 4 _ 3) (by omega) ?_ | with_reducible refine fG H (by with_unfolding_all exact H.b) (by with_unfolding_all rfl) ?_ | with_reducible refine aG H (by with_unfolding_all exact H.b) (by with_unfolding_all rfl) (by decide) rfl (by omega) ?_))
        exact thr1 H (fun h2 H2 => br_F (by decide) (k _ _ H2 ((OW.of o1).th 3) (M.off (id := 12) (by decide) 0 3) (up_same _ _ _ _)))
      · have c5 : N 1 < 8 := by omega
        rw [personS, personW, cIf_t hc, cIf_t hc2, cIf_t c5, cIf_t (show peC wd N g c f l from ⟨hc, hc2, c5⟩)] at k
        obtain ⟨n, hn, rfl⟩ := hc.1
        rw [nt_nI (by omega)] at k
        (repeat (first | with_reducible refine thr0 ?_ | with_reducible refine bd_i ?_ | with_reducible refine fP H (by with_unfolding_all exact H.b) (by with_unfolding_all rfl) (by with_unfolding_all rfl) ?_ | with_reducible refine vG H (by with_unfolding_all exact H.b) (by with_unfolding_all rfl) ?_ | with_reducible refine aM H M rfl (by omega) ?_ | with_reducible refine aM H M (ix0 0) (by omega) ?_ | with_reducible refine aM H M (ix0 1) (by omega) ?_ | with_reducible refine aM H M (ix0 2) (by omega) ?_ | with_reducible refine aM H M (ix0 3) (by omega) ?_ | with_reducible refine aM H M (ix0 4) (by omega) ?_ | with_reducible refine aM H M (ix0 5) (by omega) ?_ | with_reducible refine aM H M (ix0 6) (by omega) ?_ | with_reducible refine aM H M (ix0 7) (by omega) ?_ | with_reducible refine aM H M (ix0 8) (by omega) ?_ | with_reducible refine aM H M (ix0 9) (by omega) ?_ | with_reducible refine aM H M (ix0 10) (by omega) ?_ | with_reducible refine aM H M (ix0 11) (by omega) ?_ | with_reducible refine aM H M (ix0 12) (by omega) ?_ | with_reducible refine aM H M (ix1 13 _) (by omega) ?_ | with_reducible refine aM H M (ix1 1161 _) (by omega) ?_ | with_reducible refine aM H M (ix2 269 4 _) (by omega) ?_ | with_reducible refine aM H M (ix4 269 4 _ 1) (by omega) ?_ | with_reducible refine aM H M (ix4 269 4 _ 2) (by omega) ?_ | with_reducible refine aM H M (ix4 269 4 _ 3) (by omega) ?_ | with_reducible refine fG H (by with_unfolding_all exact H.b) (by with_unfolding_all rfl) ?_ | with_reducible refine aG H (by with_unfolding_all exact H.b) (by with_unfolding_all rfl) (by decide) rfl (by omega) ?_))
        refine br_T rfl ?_
        refine ldM H M 1 (ix0 1) (by decide) e1 ?_
        (repeat (first | with_reducible refine bd_i ?_ | with_reducible refine fP H (by with_unfolding_all exact H.b) (by with_unfolding_all rfl) (by with_unfolding_all rfl) ?_ | with_reducible refine vG H (by with_unfolding_all exact H.b) (by with_unfolding_all rfl) ?_ | with_reducible refine aM H M rfl (by omega) ?_ | with_reducible refine aM H M (ix0 0) (by omega) ?_ | with_reducible refine aM H M (ix0 1) (by omega) ?_ | with_reducible refine aM H M (ix0 2) (by omega) ?_ | with_reducible refine aM H M (ix0 3) (by omega) ?_ | with_reducible refine aM H M (ix0 4) (by omega) ?_ | with_reducible refine aM H M (ix0 5) (by omega) ?_ | with_reducible refine aM H M (ix0 6) (by omega) ?_ | with_reducible refine aM H M (ix0 7) (by omega) ?_ | with_reducible refine aM H M (ix0 8) (by omega) ?_ | with_reducible refine aM H M (ix0 9) (by omega) ?_ | with_reducible refine aM H M (ix0 10) (by omega) ?_ | with_reducible refine aM H M (ix0 11) (by omega) ?_ | with_reducible refine aM H M (ix0 12) (by omega) ?_ | with_reducible refine aM H M (ix1 13 _) (by omega) ?_ | with_reducible refine aM H M (ix1 1161 _) (by omega) ?_ | with_reducible refine aM H M (ix2 269 4 _) (by omega) ?_ | with_reducible refine aM H M (ix4 269 4 _ 1) (by omega) ?_ | with_reducible refine aM H M (ix4 269 4 _ 2) (by omega) ?_ | with_reducible refine aM H M (ix4 269 4 _ 3) (by omega) ?_ | with_reducible refine fG H (by with_unfolding_all exact H.b) (by with_unfolding_all rfl) ?_ | with_reducible refine aG H (by with_unfolding_all exact H.b) (by with_unfolding_all rfl) (by decide) rfl (by omega) ?_))
        refine m_sets H M (301 + 6 * N 1) 0 (ix0 0) (by omega) (by omega) (fun h2 H2 M2 => ?_)
        refine vG (o := 12) H2 H2.b rfl ?_
        refine m_sets H2 M2 (302 + 6 * N 1) 1 (ix0 1) (by omega) (by omega) (fun h3 H3 M3 => ?_)
        refine vG (o := 12) H3 H3.b rfl ?_
        refine m_sets H3 M3 (303 + 6 * N 1) 2 (ix0 2) (by omega) (by omega) (fun h4 H4 M4 => ?_)
        refine vG (o := 12) H4 H4.b rfl ?_
        refine m_sets H4 M4 (304 + 6 * N 1) 3 (ix0 3) (by omega) (by omega) (fun h5 H5 M5 => ?_)
        refine ldM H5 M5 (269 + 4 * n) (v := wd (269 + 4 * n)) (ix2 269 4 n) (by omega) ?_ ?_
        · rw [va_up_ne _ _ (by omega), va_up_ne _ _ (by omega), va_up_ne _ _ (by omega), va_up_ne _ _ (by omega)]
        refine vG (o := 12) H5 H5.b rfl ?_
        refine m_sets H5 M5 (305 + 6 * N 1) 4 (ix0 4) (by omega) (by omega) (fun h6 H6 M6 => ?_)
        refine vG (o := 12) H6 H6.b rfl ?_
        refine m_sets H6 M6 (306 + 6 * N 1) 5 (ix0 5) (by omega) (by omega) (fun h7 H7 M7 => ?_)
        refine icM H7 M7 1 (n := N 1) (ix0 1) (by decide) ?_ (fun h8 H8 M8 => ?_)
        · rw [va_up_ne _ _ (by omega), va_up_ne _ _ (by omega), va_up_ne _ _ (by omega), va_up_ne _ _ (by omega), va_up_ne _ _ (by omega), va_up_ne _ _ (by omega)]
          exact e1
        · refine k _ h8 H8 (((((((OW.of o1).wr _ _).wr _ _).wr _ _).wr _ _).wr _ _).wr _ _ |>.wr _ _) M8 ?_
          rw [up_row _ _ _ (by decide), up_row _ _ _ (by decide), up_row _ _ _ (by decide), up_row _ _ _ (by decide), up_row _ _ _ (by decide), up_row _ _ _ (by decide), up_row _ _ _ (by decide)]
          exact t1
  (repeat (first | with_reducible refine bd_i ?_ | with_reducible refine fP H (by with_unfolding_all exact H.b) (by with_unfolding_all rfl) (by with_unfolding_all rfl) ?_ | with_reducible refine vG H (by with_unfolding_all exact H.b) (by with_unfolding_all rfl) ?_ | with_reducible refine aM H M rfl (by omega) ?_ | with_reducible refine aM H M (ix0 0) (by omega) ?_ | with_reducible refine aM H M (ix0 1) (by omega) ?_ | with_reducible refine aM H M (ix0 2) (by omega) ?_ | with_reducible refine aM H M (ix0 3) (by omega) ?_ | with_reducible refine aM H M (ix0 4) (by omega) ?_ | with_reducible refine aM H M (ix0 5) (by omega) ?_ | with_reducible refine aM H M (ix0 6) (by omega) ?_ | with_reducible refine aM H M (ix0 7) (by omega) ?_ | with_reducible refine aM H M (ix0 8) (by omega) ?_ | with_reducible refine aM H M (ix0 9) (by omega) ?_ | with_reducible refine aM H M (ix0 10) (by omega) ?_ | with_reducible refine aM H M (ix0 11) (by omega) ?_ | with_reducible refine aM H M (ix0 12) (by omega) ?_ | with_reducible refine aM H M (ix1 13 _) (by omega) ?_ | with_reducible refine aM H M (ix1 1161 _) (by omega) ?_ | with_reducible refine aM H M (ix2 269 4 _) (by omega) ?_ | with_reducible refine aM H M (ix4 269 4 _ 1) (by omega) ?_ | with_reducible refine aM H M (ix4 269 4 _ 2) (by omega) ?_ | with_reducible refine aM H M (ix4 269 4 _ 3) (by omega) ?_ | with_reducible refine fG H (by with_unfolding_all exact H.b) (by with_unfolding_all rfl) ?_ | with_reducible refine aG H (by with_unfolding_all exact H.b) (by with_unfolding_all rfl) (by decide) rfl (by omega) ?_))
  refine m_num H M (ix0 0) (by decide) (by omega) e0 (fun c1 => br_T rfl ?_) (fun c1 => br_F (by decide) (kf (fun z => c1 z.1)))
  refine m_cell (fun c2 => br_T rfl ?_) (fun c2 => br_F (by decide) (kf (fun z => c2 z.2.1)))
  refine br_if (fun c3 => key ⟨c1, c2, Or.inl c3⟩) (fun c3 => ?_)
  (repeat (first | with_reducible refine bd_i ?_ | with_reducible refine fP H (by with_unfolding_all exact H.b) (by with_unfolding_all rfl) (by with_unfolding_all rfl) ?_ | with_reducible refine vG H (by with_unfolding_all exact H.b) (by with_unfolding_all rfl) ?_ | with_reducible refine aM H M rfl (by omega) ?_ | with_reducible refine aM H M (ix0 0) (by omega) ?_ | with_reducible refine aM H M (ix0 1) (by omega) ?_ | with_reducible refine aM H M (ix0 2) (by omega) ?_ | with_reducible refine aM H M (ix0 3) (by omega) ?_ | with_reducible refine aM H M (ix0 4) (by omega) ?_ | with_reducible refine aM H M (ix0 5) (by omega) ?_ | with_reducible refine aM H M (ix0 6) (by omega) ?_ | with_reducible refine aM H M (ix0 7) (by omega) ?_ | with_reducible refine aM H M (ix0 8) (by omega) ?_ | with_reducible refine aM H M (ix0 9) (by omega) ?_ | with_reducible refine aM H M (ix0 10) (by omega) ?_ | with_reducible refine aM H M (ix0 11) (by omega) ?_ | with_reducible refine aM H M (ix0 12) (by omega) ?_ | with_reducible refine aM H M (ix1 13 _) (by omega) ?_ | with_reducible refine aM H M (ix1 1161 _) (by omega) ?_ | with_reducible refine aM H M (ix2 269 4 _) (by omega) ?_ | with_reducible refine aM H M (ix4 269 4 _ 1) (by omega) ?_ | with_reducible refine aM H M (ix4 269 4 _ 2) (by omega) ?_ | with_reducible refine aM H M (ix4 269 4 _ 3) (by omega) ?_ | with_reducible refine fG H (by with_unfolding_all exact H.b) (by with_unfolding_all rfl) ?_ | with_reducible refine aG H (by with_unfolding_all exact H.b) (by with_unfolding_all rfl) (by decide) rfl (by omega) ?_))
  refine m_num H M (ix0 2) (by decide) (by omega) e2 (fun c4 => br_T rfl (key ⟨c1, c2, Or.inr c4⟩)) (fun c4 => br_F (by decide) (kf (fun z => ?_)))
  rcases z.2.2 with y | y
  · exact c3 y
  · exact c4 y
end PERSON
