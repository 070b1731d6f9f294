/-! calls that add: gun, teller, tells, found, other; day, seed, machine, when -/
section ADDPUB
variable {A : Nat → Nat} {S : Nat → Prop} {h0 h : AH} {X : Nat → Nat → Int32} {wd : Nat → Int32} {N : Nat → Nat} {Q : Int32 → AH → Prop} {Qv : AH → Prop} {a3 : Nat}
theorem inR_bn {v : Int32} {M : Nat} (hM : M < 2 ^ 31) (h : inR v 0 (nI M)) : bn v M := by
  obtain ⟨n, rfl, hn⟩ := inR_nat h hM
  exact bn.of hn hM
theorem isN_bn {v : Int32} {M : Nat} (hM : M < 2 ^ 31) (h : isN v (M + 1)) : bn v M := by
  obtain ⟨n, hn, rfl⟩ := h
  exact bn.of (by omega) hM
theorem c_room {n m : Nat} (hn : n < 2 ^ 31) (hm : m < 2 ^ 31) {Xc : String → AH → Prop} (k1 : n < m → Qv h) (k2 : ¬ n < m → Xc "java/lang/UnsupportedOperationException" h) : w_X11_needRoom (nI n) (nI m) h Qv Xc :=
  c_needRoom (fun a => k1 ((nI_ltI hn hm).mp a)) (fun a => k2 (fun z => a ((nI_ltI hn hm).mpr z)))
theorem c_yr {v : Int32} (k1 : inR v 1800 1999 → Q 1 h) (k2 : ¬ inR v 1800 1999 → Q 0 h) : w_X11_isYear v h Q := by
  unfold w_X11_isYear
  exact c_wi (fun c => ⟨Or.inr rfl, k1 c⟩) (fun c => ⟨Or.inl rfl, k2 c⟩)
theorem c_min {a b : Int32} (k1 : inR a 0 b ∧ ¬ 239 < b → Q 1 h) (k2 : ¬ (inR a 0 b ∧ ¬ 239 < b) → Q 0 h) : w_X11_areMinutes a b h Q := by
  dsimp only [w_X11_areMinutes_22, w_X11_areMinutes_21, w_X11_areMinutes]
  refine br_if (fun c1 => ⟨Or.inl rfl, k2 (fun z => ?_)⟩) (fun c1 => br_if (fun c2 => ⟨Or.inl rfl, k2 (fun z => ?_)⟩) (fun c2 => br_if (fun c3 => ⟨Or.inl rfl, k2 (fun z => z.2 c3)⟩) (fun c3 => ⟨Or.inr rfl, k1 ⟨⟨Int32.not_lt.mp c1, Int32.not_lt.mp c2⟩, c3⟩⟩)))
  · exact absurd z.1.1 (Int32.not_le.mpr c1)
  · exact absurd z.1.2 (Int32.not_le.mpr c2)
def gunC (a b c d : Int32) : Prop := inR a 0 1 ∧ inR b 0 15 ∧ inR c 1800 1999 ∧ inR d 0 40
noncomputable def gunS (N : Nat → Nat) (a b c d : Int32) : Int32 × Int32 := cIf (gunC a b c d) (cIf (N 0 < 8) (0, nI (N 0)) (2, 0)) (1, 0)
noncomputable def gunW (wd : Nat → Int32) (N : Nat → Nat) (a b c d : Int32) : Nat → Int32 := cIf (gunC a b c d ∧ N 0 < 8) (addG wd (N 0) a b c d) wd
noncomputable def gunN (N : Nat → Nat) (a b c d : Int32) : Nat → Nat := cIf (gunC a b c d ∧ N 0 < 8) (va_up N 0 (N 0 + 1)) N
theorem gun_ok (O : Ok wd N) {a b c d : Int32} : Ok (gunW wd N a b c d) (gunN N a b c d) := by
  unfold gunW gunN
  by_cases e : gunC a b c d ∧ N 0 < 8
  · rw [cIf_t e, cIf_t e]
    obtain ⟨⟨h1, h2, h3, h4⟩, h5⟩ := e
    exact O.addG h5 (inR_bn (M := 1) (by decide) h1) (inR_bn (M := 15) (by decide) h2) (inR_bn (M := 40) (by decide) h4)
  · rw [cIf_f e, cIf_f e]
    exact O
theorem L_gun (H : G A S h0 X h) (R : CR X wd) (O : Ok wd N) (J : J3 h0 a3) {a b c d : Int32} (k : ∀ h1 X' h', G A S h1 X' h' → hJ h0 h1 → SC X X' → CR X' (gunW wd N a b c d) → ((gunS N a b c d).1 = 0 → gJ h' a3 0 = (gunS N a b c d).2.toInt64) → Q (gunS N a b c d).1 h') : w_L_gun (A 11) a b c d a3 h Q := by
  obtain ⟨e0, h8⟩ := O.g
  have kf : ¬ gunC a b c d → Q 1 h := by
    intro z
    rw [gunS, gunW, cIf_f z, cIf_f (fun y => z y.1)] at k
    exact k _ _ _ H (hJ.rf _) (SC.of (ST.rf _)) R (fun z => absurd z (by decide))
  dsimp only [w_L_gun_21, w_L_gun_17, w_L_gun, w_X11_gun_42, w_X11_gun_41, w_X11_gun]
  (repeat (first | with_reducible refine bd_i ?_ | with_reducible refine fP H (by with_unfolding_all first | exact H.b | exact hS) (by with_unfolding_all rfl) (by with_unfolding_all rfl) ?_ | with_reducible refine vG H (by with_unfolding_all first | exact H.b | exact hS) (by with_unfolding_all rfl) ?_ | with_reducible refine fC_ H R (by with_unfolding_all exact H.b) (by with_unfolding_all rfl) (by with_unfolding_all rfl) ?_ | with_reducible refine aC H R (by with_unfolding_all exact H.b) (by with_unfolding_all rfl) (by decide) (by with_unfolding_all rfl) rfl (by omega) ?_ | with_reducible refine fG H (by with_unfolding_all first | exact H.b | exact hS) (by with_unfolding_all rfl) ?_ | with_reducible refine aG H (by with_unfolding_all first | exact H.b | exact hS) (by with_unfolding_all rfl) (by decide) rfl (by omega) ?_))
  refine c_wi (fun c1 => br_F (by decide) ?_) (fun c1 => br_T rfl (c_ne0 (br_T rfl (fun q => kf (fun z => c1 z.1)))))
  refine c_wi (fun c2 => br_F (by decide) ?_) (fun c2 => br_T rfl (c_ne0 (br_T rfl (fun q => kf (fun z => c2 z.2.1)))))
  refine c_yr (fun c3 => br_F (by decide) ?_) (fun c3 => br_T rfl (c_ne0 (br_T rfl (fun q => kf (fun z => c3 z.2.2.1)))))
  refine c_wi (fun c4 => br_F (by decide) ?_) (fun c4 => br_T rfl (c_ne0 (br_T rfl (fun q => kf (fun z => c4 z.2.2.2)))))
  have hc : gunC a b c d := ⟨c1, c2, c3, c4⟩
  refine c_ne1 ?_
  (repeat (first | with_reducible refine bd_i ?_ | with_reducible refine fP H (by with_unfolding_all first | exact H.b | exact hS) (by with_unfolding_all rfl) (by with_unfolding_all rfl) ?_ | with_reducible refine vG H (by with_unfolding_all first | exact H.b | exact hS) (by with_unfolding_all rfl) ?_ | with_reducible refine fC_ H R (by with_unfolding_all exact H.b) (by with_unfolding_all rfl) (by with_unfolding_all rfl) ?_ | with_reducible refine aC H R (by with_unfolding_all exact H.b) (by with_unfolding_all rfl) (by decide) (by with_unfolding_all rfl) rfl (by omega) ?_ | with_reducible refine fG H (by with_unfolding_all first | exact H.b | exact hS) (by with_unfolding_all rfl) ?_ | with_reducible refine aG H (by with_unfolding_all first | exact H.b | exact hS) (by with_unfolding_all rfl) (by decide) rfl (by omega) ?_))
  rw [e0]
  refine c_room (m := 8) (by omega) (by decide) (fun c5 => ?_) (fun c5 => ?_)
  · rw [gunS, gunW, cIf_t hc, cIf_t c5, cIf_t ⟨hc, c5⟩] at k
    (repeat (first | with_reducible refine bd_i ?_ | with_reducible refine fP H (by with_unfolding_all first | exact H.b | exact hS) (by with_unfolding_all rfl) (by with_unfolding_all rfl) ?_ | with_reducible refine vG H (by with_unfolding_all first | exact H.b | exact hS) (by with_unfolding_all rfl) ?_ | with_reducible refine fC_ H R (by with_unfolding_all exact H.b) (by with_unfolding_all rfl) (by with_unfolding_all rfl) ?_ | with_reducible refine aC H R (by with_unfolding_all exact H.b) (by with_unfolding_all rfl) (by decide) (by with_unfolding_all rfl) rfl (by omega) ?_ | with_reducible refine fG H (by with_unfolding_all first | exact H.b | exact hS) (by with_unfolding_all rfl) ?_ | with_reducible refine aG H (by with_unfolding_all first | exact H.b | exact hS) (by with_unfolding_all rfl) (by decide) rfl (by omega) ?_))
    refine c_addGun H R e0 c5 (fun X1 h1 H1 R1 s1 => ?_)
    exact tJG H1 J (fun h2 h' H' j1 j2 => k h2 X1 h' H' j1 (SC.of s1) R1 (fun _ => j2))
  · rw [gunS, gunW, cIf_t hc, cIf_f c5, cIf_f (fun z => c5 z.2)] at k
    exact br_F (by decide) (br_T rfl (fun q => k _ _ _ H (hJ.rf _) (SC.of (ST.rf _)) R (fun z => absurd z (by decide))))
theorem m_gun_ (H : G A S h0 X h) (M : MR X wd) (O : Ok wd N) {a b c d : Int32} (k : ∀ X' h', G A S h0 X' h' → OW X X' → MR X' (gunW wd N a b c d) → X' 12 0 = (gunS N a b c d).1 → Q (gunS N a b c d).2 h') : w_X12_gun (A 12) a b c d h Q := by
  obtain ⟨e0, h8⟩ := O.g
  dsimp only [w_X12_gun_79, w_X12_gun_72, w_X12_gun_48, w_X12_gun_43, w_X12_gun]
  refine m_ent H M (fun X1 h1 H1 M1 o1 t1 => ?_)
  clear H M
  have H := H1
  have M := M1
  have kf : ¬ gunC a b c d → ∀ K : Int32 → AH → Prop, (∀ h2, K 1 h2 = Q 0 h2) → vr h1 (A 12) 12 (w_X12_throwsIf (A 12) 1 1 h1 K) := by
    intro z K hK
    rw [gunS, gunW, cIf_f z, cIf_f (fun y => z y.1)] at k
    refine vG (o := 12) H H.b rfl ?_
    refine thr1 H (fun h2 H2 => ?_)
    rw [hK]
    exact k _ _ H2 ((OW.of o1).th 1) (M.off (id := 12) (by decide) 0 1) (up_same _ _ _ _)
  have h10 : ∀ (P : Prop) (K : Prop), br ((1 : Int32) = 0) P K = K := fun P K => propext ⟨fun z => z.2 (by decide), fun z => ⟨fun y => absurd y (by decide), fun _ => z⟩⟩
  refine m_rng (fun c1 => br_F (by decide) ?_) (fun c1 => br_T rfl (kf (fun z => c1 z.1) _ (fun h2 => h10 _ _)))
  refine m_rng (fun c2 => br_F (by decide) ?_) (fun c2 => br_T rfl (kf (fun z => c2 z.2.1) _ (fun h2 => h10 _ _)))
  refine m_year (fun c3 => br_T rfl ?_) (fun c3 => br_F (by decide) (kf (fun z => c3 z.2.2.1) _ (fun h2 => h10 _ _)))
  refine m_rng (fun c4 => br_F (by decide) ?_) (fun c4 => br_T rfl (kf (fun z => c4 z.2.2.2) _ (fun h2 => h10 _ _)))
  have hc : gunC a b c d := ⟨c1, c2, c3, c4⟩
  (repeat (first | with_reducible refine thr0 ?_ | with_reducible refine br_T rfl ?_ | with_reducible refine bd_i ?_ | with_reducible refine fP H (by with_unfolding_all exact H.b) (by with_unfolding_all rfl) (by with_unfolding_all rfl) ?_ | with_reducible refine vG H (by with_unfolding_all exact H.b) (by with_unfolding_all rfl) ?_ | with_reducible refine aM H M rfl (by omega) ?_ | with_reducible refine aM H M (ix0 0) (by omega) ?_ | with_reducible refine aM H M (ix0 1) (by omega) ?_ | with_reducible refine aM H M (ix0 2) (by omega) ?_ | with_reducible refine aM H M (ix0 3) (by omega) ?_ | with_reducible refine aM H M (ix0 4) (by omega) ?_ | with_reducible refine aM H M (ix0 5) (by omega) ?_ | with_reducible refine aM H M (ix0 6) (by omega) ?_ | with_reducible refine aM H M (ix0 7) (by omega) ?_ | with_reducible refine aM H M (ix0 8) (by omega) ?_ | with_reducible refine aM H M (ix0 9) (by omega) ?_ | with_reducible refine aM H M (ix0 10) (by omega) ?_ | with_reducible refine aM H M (ix0 11) (by omega) ?_ | with_reducible refine aM H M (ix0 12) (by omega) ?_ | with_reducible refine aM H M (ix1 13 _) (by omega) ?_ | with_reducible refine aM H M (ix1 1161 _) (by omega) ?_ | with_reducible refine aM H M (ix2 269 4 _) (by omega) ?_ | with_reducible refine aM H M (ix4 269 4 _ 1) (by omega) ?_ | with_reducible refine aM H M (ix4 269 4 _ 2) (by omega) ?_ | with_reducible refine aM H M (ix4 269 4 _ 3) (by omega) ?_ | with_reducible refine fG H (by with_unfolding_all exact H.b) (by with_unfolding_all rfl) ?_ | with_reducible refine aG H (by with_unfolding_all exact H.b) (by with_unfolding_all rfl) (by decide) rfl (by omega) ?_))
  rw [e0]
  refine br_Eq (b := 8) (by omega) (by decide) (fun c5 => ?_) (fun c5 => ?_)
  · rw [gunS, gunW, cIf_t hc, cIf_f (by omega), cIf_f (fun z => by omega)] at k
    (repeat (first | with_reducible refine bd_i ?_ | with_reducible refine fP H (by with_unfolding_all exact H.b) (by with_unfolding_all rfl) (by with_unfolding_all rfl) ?_ | with_reducible refine vG H (by with_unfolding_all exact H.b) (by with_unfolding_all rfl) ?_ | with_reducible refine aM H M rfl (by omega) ?_ | with_reducible refine aM H M (ix0 0) (by omega) ?_ | with_reducible refine aM H M (ix0 1) (by omega) ?_ | with_reducible refine aM H M (ix0 2) (by omega) ?_ | with_reducible refine aM H M (ix0 3) (by omega) ?_ | with_reducible refine aM H M (ix0 4) (by omega) ?_ | with_reducible refine aM H M (ix0 5) (by omega) ?_ | with_reducible refine aM H M (ix0 6) (by omega) ?_ | with_reducible refine aM H M (ix0 7) (by omega) ?_ | with_reducible refine aM H M (ix0 8) (by omega) ?_ | with_reducible refine aM H M (ix0 9) (by omega) ?_ | with_reducible refine aM H M (ix0 10) (by omega) ?_ | with_reducible refine aM H M (ix0 11) (by omega) ?_ | with_reducible refine aM H M (ix0 12) (by omega) ?_ | with_reducible refine aM H M (ix1 13 _) (by omega) ?_ | with_reducible refine aM H M (ix1 1161 _) (by omega) ?_ | with_reducible refine aM H M (ix2 269 4 _) (by omega) ?_ | with_reducible refine aM H M (ix4 269 4 _ 1) (by omega) ?_ | with_reducible refine aM H M (ix4 269 4 _ 2) (by omega) ?_ | with_reducible refine aM H M (ix4 269 4 _ 3) (by omega) ?_ | with_reducible refine fG H (by with_unfolding_all exact H.b) (by with_unfolding_all rfl) ?_ | with_reducible refine aG H (by with_unfolding_all exact H.b) (by with_unfolding_all rfl) (by decide) rfl (by omega) ?_))
    exact thr1 H (fun h2 H2 => br_F (by decide) (k _ _ H2 ((OW.of o1).th 2) (M.off (id := 12) (by decide) 0 2) (up_same _ _ _ _)))
  · have c5 : N 0 < 8 := by omega
    rw [gunS, gunW, cIf_t hc, cIf_t c5, cIf_t ⟨hc, c5⟩] at k
    (repeat (first | with_reducible refine thr0 ?_ | with_reducible refine bd_i ?_ | with_reducible refine fP H (by with_unfolding_all exact H.b) (by with_unfolding_all rfl) (by with_unfolding_all rfl) ?_ | with_reducible refine vG H (by with_unfolding_all exact H.b) (by with_unfolding_all rfl) ?_ | with_reducible refine aM H M rfl (by omega) ?_ | with_reducible refine aM H M (ix0 0) (by omega) ?_ | with_reducible refine aM H M (ix0 1) (by omega) ?_ | with_reducible refine aM H M (ix0 2) (by omega) ?_ | with_reducible refine aM H M (ix0 3) (by omega) ?_ | with_reducible refine aM H M (ix0 4) (by omega) ?_ | with_reducible refine aM H M (ix0 5) (by omega) ?_ | with_reducible refine aM H M (ix0 6) (by omega) ?_ | with_reducible refine aM H M (ix0 7) (by omega) ?_ | with_reducible refine aM H M (ix0 8) (by omega) ?_ | with_reducible refine aM H M (ix0 9) (by omega) ?_ | with_reducible refine aM H M (ix0 10) (by omega) ?_ | with_reducible refine aM H M (ix0 11) (by omega) ?_ | with_reducible refine aM H M (ix0 12) (by omega) ?_ | with_reducible refine aM H M (ix1 13 _) (by omega) ?_ | with_reducible refine aM H M (ix1 1161 _) (by omega) ?_ | with_reducible refine aM H M (ix2 269 4 _) (by omega) ?_ | with_reducible refine aM H M (ix4 269 4 _ 1) (by omega) ?_ | with_reducible refine aM H M (ix4 269 4 _ 2) (by omega) ?_ | with_reducible refine aM H M (ix4 269 4 _ 3) (by omega) ?_ | with_reducible refine fG H (by with_unfolding_all exact H.b) (by with_unfolding_all rfl) ?_ | with_reducible refine aG H (by with_unfolding_all exact H.b) (by with_unfolding_all rfl) (by decide) rfl (by omega) ?_))
    refine br_T rfl ?_
    refine ldM H M 0 (ix0 0) (by decide) e0 ?_
    refine bd_i ?_
    rw [ix2 269 4]
    refine adM H M (269 + 4 * N 0) rfl (by omega) (fun h2 H2 M2 => ?_)
    refine adM H2 M2 (270 + 4 * N 0) (by rw [nI_1]; congr 1; omega) (by omega) (fun h3 H3 M3 => ?_)
    refine adM H3 M3 (271 + 4 * N 0) (by rw [ix0 2, nI_add]; congr 1; omega) (by omega) (fun h4 H4 M4 => ?_)
    refine adM H4 M4 (272 + 4 * N 0) (by rw [ix0 3, nI_add]; congr 1; omega) (by omega) (fun h5 H5 M5 => ?_)
    refine icM H5 M5 0 (n := N 0) (ix0 0) (by decide) ?_ (fun h6 H6 M6 => ?_)
    · rw [va_up_ne _ _ (by omega), va_up_ne _ _ (by omega), va_up_ne _ _ (by omega), va_up_ne _ _ (by omega)]
      exact e0
    · refine ldM H6 M6 0 (ix0 0) (by decide) (va_up_self _ _ _) ?_
      rw [nI_pred]
      refine k _ h6 H6 (((((OW.of o1).wr _ _).wr _ _).wr _ _).wr _ _ |>.wr _ _) M6 ?_
      rw [up_row _ _ _ (by decide), up_row _ _ _ (by decide), up_row _ _ _ (by decide), up_row _ _ _ (by decide), up_row _ _ _ (by decide)]
      exact t1
def teC (a b c d : Int32) : Prop := (inR b 0 c ∧ ¬ 239 < c) ∧ inR d 0 9
noncomputable def tellerS (N : Nat → Nat) (a b c d : Int32) : Int32 × Int32 := cIf (isN a 256) (cIf (teC a b c d) (cIf (N 4 < 8) (0, nI (N 4)) (3, 0)) (2, 0)) (1, 0)
noncomputable def tellerW (wd : Nat → Int32) (N : Nat → Nat) (a b c d : Int32) : Nat → Int32 := cIf (isN a 256 ∧ teC a b c d ∧ N 4 < 8) (addT wd (N 4) a b c d) wd
noncomputable def tellerN (N : Nat → Nat) (a b c d : Int32) : Nat → Nat := cIf (isN a 256 ∧ teC a b c d ∧ N 4 < 8) (va_up N 4 (N 4 + 1)) N
theorem min_bn {b c : Int32} (h : inR b 0 c ∧ ¬ 239 < c) : bn b 239 ∧ bn c 239 ∧ nt b ≤ nt c := by
  have h3 : inR c 0 (nI 239) := ⟨Int32.le_trans h.1.1 h.1.2, Int32.not_lt.mp h.2⟩
  obtain ⟨m, rfl, hm⟩ := inR_nat h3 (by decide)
  obtain ⟨n, rfl, hn⟩ := inR_nat (n := m) h.1 (by omega)
  rw [nt_nI (by omega), nt_nI (by omega)]
  exact ⟨bn.of (by omega) (by decide), bn.of (by omega) (by decide), hn⟩
theorem teller_ok (O : Ok wd N) {a b c d : Int32} : Ok (tellerW wd N a b c d) (tellerN N a b c d) := by
  unfold tellerW tellerN
  by_cases e : isN a 256 ∧ teC a b c d ∧ N 4 < 8
  · rw [cIf_t e, cIf_t e]
    obtain ⟨h1, ⟨h2, h3⟩, h4⟩ := e
    exact O.addT h4 (isN_bn (M := 255) (by decide) h1) (min_bn h2).1 (min_bn h2).2.1 (inR_bn (M := 9) (by decide) h3)
  · rw [cIf_f e, cIf_f e]
    exact O
theorem L_teller (H : G A S h0 X h) (R : CR X wd) (O : Ok wd N) (J : J3 h0 a3) {a b c d : Int32} (k : ∀ h1 X' h', G A S h1 X' h' → hJ h0 h1 → SC X X' → CR X' (tellerW wd N a b c d) → ((tellerS N a b c d).1 = 0 → gJ h' a3 0 = (tellerS N a b c d).2.toInt64) → Q (tellerS N a b c d).1 h') : w_L_teller (A 11) a b c d a3 h Q := by
  obtain ⟨e4, h8⟩ := O.t
  dsimp only [w_L_teller_25, w_L_teller_21, w_L_teller_17, w_L_teller, w_X11_teller_28, w_X11_teller_27, w_X11_teller]
  (repeat (first | with_reducible refine bd_i ?_ | with_reducible refine fP H (by with_unfolding_all first | exact H.b | exact hS) (by with_unfolding_all rfl) (by with_unfolding_all rfl) ?_ | with_reducible refine vG H (by with_unfolding_all first | exact H.b | exact hS) (by with_unfolding_all rfl) ?_ | with_reducible refine fC_ H R (by with_unfolding_all exact H.b) (by with_unfolding_all rfl) (by with_unfolding_all rfl) ?_ | with_reducible refine aC H R (by with_unfolding_all exact H.b) (by with_unfolding_all rfl) (by decide) (by with_unfolding_all rfl) rfl (by omega) ?_ | with_reducible refine fG H (by with_unfolding_all first | exact H.b | exact hS) (by with_unfolding_all rfl) ?_ | with_reducible refine aG H (by with_unfolding_all first | exact H.b | exact hS) (by with_unfolding_all rfl) (by decide) rfl (by omega) ?_))
  refine c_cell (fun c1 => ?_) (fun c1 => ?_)
  · have kf : ¬ teC a b c d → Q 2 h := by
      intro z
      rw [tellerS, tellerW, cIf_t c1, cIf_f z, cIf_f (fun y => z y.2.1)] at k
      exact k _ _ _ H (hJ.rf _) (SC.of (ST.rf _)) R (fun z => absurd z (by decide))
    refine c_min (fun c2 => br_F (by decide) ?_) (fun c2 => br_T rfl (c_ne0 (br_F (by decide) (br_T rfl (fun q => kf (fun z => c2 z.1))))))
    refine c_wi (fun c3 => br_F (by decide) ?_) (fun c3 => br_T rfl (c_ne0 (br_F (by decide) (br_T rfl (fun q => kf (fun z => c3 z.2))))))
    have hc : teC a b c d := ⟨c2, c3⟩
    refine c_ne1 ?_
    (repeat (first | with_reducible refine bd_i ?_ | with_reducible refine fP H (by with_unfolding_all first | exact H.b | exact hS) (by with_unfolding_all rfl) (by with_unfolding_all rfl) ?_ | with_reducible refine vG H (by with_unfolding_all first | exact H.b | exact hS) (by with_unfolding_all rfl) ?_ | with_reducible refine fC_ H R (by with_unfolding_all exact H.b) (by with_unfolding_all rfl) (by with_unfolding_all rfl) ?_ | with_reducible refine aC H R (by with_unfolding_all exact H.b) (by with_unfolding_all rfl) (by decide) (by with_unfolding_all rfl) rfl (by omega) ?_ | with_reducible refine fG H (by with_unfolding_all first | exact H.b | exact hS) (by with_unfolding_all rfl) ?_ | with_reducible refine aG H (by with_unfolding_all first | exact H.b | exact hS) (by with_unfolding_all rfl) (by decide) rfl (by omega) ?_))
    rw [e4]
    refine c_room (m := 8) (by omega) (by decide) (fun c5 => ?_) (fun c5 => ?_)
    · rw [tellerS, tellerW, cIf_t c1, cIf_t hc, cIf_t c5, cIf_t ⟨c1, hc, c5⟩] at k
      (repeat (first | with_reducible refine bd_i ?_ | with_reducible refine fP H (by with_unfolding_all first | exact H.b | exact hS) (by with_unfolding_all rfl) (by with_unfolding_all rfl) ?_ | with_reducible refine vG H (by with_unfolding_all first | exact H.b | exact hS) (by with_unfolding_all rfl) ?_ | with_reducible refine fC_ H R (by with_unfolding_all exact H.b) (by with_unfolding_all rfl) (by with_unfolding_all rfl) ?_ | with_reducible refine aC H R (by with_unfolding_all exact H.b) (by with_unfolding_all rfl) (by decide) (by with_unfolding_all rfl) rfl (by omega) ?_ | with_reducible refine fG H (by with_unfolding_all first | exact H.b | exact hS) (by with_unfolding_all rfl) ?_ | with_reducible refine aG H (by with_unfolding_all first | exact H.b | exact hS) (by with_unfolding_all rfl) (by decide) rfl (by omega) ?_))
      refine c_addTeller H R e4 c5 (fun X1 h1 H1 R1 s1 => ?_)
      exact tJG H1 J (fun h2 h' H' j1 j2 => k h2 X1 h' H' j1 (SC.of s1) R1 (fun _ => j2))
    · rw [tellerS, tellerW, cIf_t c1, cIf_t hc, cIf_f c5, cIf_f (fun z => c5 z.2.2)] at k
      exact br_F (by decide) (br_F (by decide) (br_T rfl (fun q => k _ _ _ H (hJ.rf _) (SC.of (ST.rf _)) R (fun z => absurd z (by decide)))))
  · rw [tellerS, tellerW, cIf_f c1, cIf_f (fun z => c1 z.1)] at k
    exact br_T rfl (fun q => k _ _ _ H (hJ.rf _) (SC.of (ST.rf _)) R (fun z => absurd z (by decide)))
theorem br10 (P K : Prop) : br ((1 : Int32) = 0) P K = K := propext ⟨fun z => z.2 (by decide), fun z => ⟨fun y => absurd y (by decide), fun _ => z⟩⟩
theorem m_teller_ (H : G A S h0 X h) (M : MR X wd) (O : Ok wd N) {a b c d : Int32} (k : ∀ X' h', G A S h0 X' h' → OW X X' → MR X' (tellerW wd N a b c d) → X' 12 0 = (tellerS N a b c d).1 → Q (tellerS N a b c d).2 h') : w_X12_teller (A 12) a b c d h Q := by
  obtain ⟨e4, h8⟩ := O.t
  dsimp only [w_X12_teller_81, w_X12_teller_74, w_X12_teller_50, w_X12_teller_45, w_X12_teller]
  refine m_ent H M (fun X1 h1 H1 M1 o1 t1 => ?_)
  clear H M
  have H := H1
  have M := M1
  refine m_cell (fun c1 => ?_) (fun c1 => ?_)
  · have kf : ¬ teC a b c d → ∀ K : Int32 → AH → Prop, (∀ h2, K 1 h2 = Q 0 h2) → vr h1 (A 12) 12 (w_X12_throwsIf (A 12) 1 2 h1 K) := by
      intro z K hK
      rw [tellerS, tellerW, cIf_t c1, cIf_f z, cIf_f (fun y => z y.2.1)] at k
      refine vG (o := 12) H H.b rfl ?_
      refine thr1 H (fun h2 H2 => ?_)
      rw [hK]
      exact k _ _ H2 ((OW.of o1).th 2) (M.off (id := 12) (by decide) 0 2) (up_same _ _ _ _)
    (repeat (first | with_reducible refine thr0 ?_ | with_reducible refine br_T rfl ?_ | with_reducible refine bd_i ?_ | with_reducible refine fP H (by with_unfolding_all exact H.b) (by with_unfolding_all rfl) (by with_unfolding_all rfl) ?_ | with_reducible refine vG H (by with_unfolding_all exact H.b) (by with_unfolding_all rfl) ?_ | with_reducible refine aM H M rfl (by omega) ?_ | with_reducible refine aM H M (ix0 0) (by omega) ?_ | with_reducible refine aM H M (ix0 1) (by omega) ?_ | with_reducible refine aM H M (ix0 2) (by omega) ?_ | with_reducible refine aM H M (ix0 3) (by omega) ?_ | with_reducible refine aM H M (ix0 4) (by omega) ?_ | with_reducible refine aM H M (ix0 5) (by omega) ?_ | with_reducible refine aM H M (ix0 6) (by omega) ?_ | with_reducible refine aM H M (ix0 7) (by omega) ?_ | with_reducible refine aM H M (ix0 8) (by omega) ?_ | with_reducible refine aM H M (ix0 9) (by omega) ?_ | with_reducible refine aM H M (ix0 10) (by omega) ?_ | with_reducible refine aM H M (ix0 11) (by omega) ?_ | with_reducible refine aM H M (ix0 12) (by omega) ?_ | with_reducible refine aM H M (ix1 13 _) (by omega) ?_ | with_reducible refine aM H M (ix1 1161 _) (by omega) ?_ | with_reducible refine aM H M (ix2 269 4 _) (by omega) ?_ | with_reducible refine aM H M (ix4 269 4 _ 1) (by omega) ?_ | with_reducible refine aM H M (ix4 269 4 _ 2) (by omega) ?_ | with_reducible refine aM H M (ix4 269 4 _ 3) (by omega) ?_ | with_reducible refine fG H (by with_unfolding_all exact H.b) (by with_unfolding_all rfl) ?_ | with_reducible refine aG H (by with_unfolding_all exact H.b) (by with_unfolding_all rfl) (by decide) rfl (by omega) ?_))
    refine m_rng (fun c2 => br_F (by decide) ?_) (fun c2 => br_T rfl (kf (fun z => c2 z.1.1) _ (fun h2 => br10 _ _)))
    refine br_if (fun c3 => kf (fun z => z.1.2 c3) _ (fun h2 => br10 _ _)) (fun c3 => ?_)
    refine m_rng (fun c4 => br_F (by decide) ?_) (fun c4 => br_T rfl (kf (fun z => c4 z.2) _ (fun h2 => br10 _ _)))
    have hc : teC a b c d := ⟨⟨c2, c3⟩, c4⟩
    (repeat (first | with_reducible refine thr0 ?_ | with_reducible refine br_T rfl ?_ | with_reducible refine bd_i ?_ | with_reducible refine fP H (by with_unfolding_all exact H.b) (by with_unfolding_all rfl) (by with_unfolding_all rfl) ?_ | with_reducible refine vG H (by with_unfolding_all exact H.b) (by with_unfolding_all rfl) ?_ | with_reducible refine aM H M rfl (by omega) ?_ | with_reducible refine aM H M (ix0 0) (by omega) ?_ | with_reducible refine aM H M (ix0 1) (by omega) ?_ | with_reducible refine aM H M (ix0 2) (by omega) ?_ | with_reducible refine aM H M (ix0 3) (by omega) ?_ | with_reducible refine aM H M (ix0 4) (by omega) ?_ | with_reducible refine aM H M (ix0 5) (by omega) ?_ | with_reducible refine aM H M (ix0 6) (by omega) ?_ | with_reducible refine aM H M (ix0 7) (by omega) ?_ | with_reducible refine aM H M (ix0 8) (by omega) ?_ | with_reducible refine aM H M (ix0 9) (by omega) ?_ | with_reducible refine aM H M (ix0 10) (by omega) ?_ | with_reducible refine aM H M (ix0 11) (by omega) ?_ | with_reducible refine aM H M (ix0 12) (by omega) ?_ | with_reducible refine aM H M (ix1 13 _) (by omega) ?_ | with_reducible refine aM H M (ix1 1161 _) (by omega) ?_ | with_reducible refine aM H M (ix2 269 4 _) (by omega) ?_ | with_reducible refine aM H M (ix4 269 4 _ 1) (by omega) ?_ | with_reducible refine aM H M (ix4 269 4 _ 2) (by omega) ?_ | with_reducible refine aM H M (ix4 269 4 _ 3) (by omega) ?_ | with_reducible refine fG H (by with_unfolding_all exact H.b) (by with_unfolding_all rfl) ?_ | with_reducible refine aG H (by with_unfolding_all exact H.b) (by with_unfolding_all rfl) (by decide) rfl (by omega) ?_))
    rw [e4]
    refine br_Eq (b := 8) (by omega) (by decide) (fun c5 => ?_) (fun c5 => ?_)
    · rw [tellerS, tellerW, cIf_t c1, cIf_t hc, cIf_f (by omega), cIf_f (fun z => by omega)] at k
      (repeat (first | with_reducible refine bd_i ?_ | with_reducible refine fP H (by with_unfolding_all exact H.b) (by with_unfolding_all rfl) (by with_unfolding_all rfl) ?_ | with_reducible refine vG H (by with_unfolding_all exact H.b) (by with_unfolding_all rfl) ?_ | with_reducible refine aM H M rfl (by omega) ?_ | with_reducible refine aM H M (ix0 0) (by omega) ?_ | with_reducible refine aM H M (ix0 1) (by omega) ?_ | with_reducible refine aM H M (ix0 2) (by omega) ?_ | with_reducible refine aM H M (ix0 3) (by omega) ?_ | with_reducible refine aM H M (ix0 4) (by omega) ?_ | with_reducible refine aM H M (ix0 5) (by omega) ?_ | with_reducible refine aM H M (ix0 6) (by omega) ?_ | with_reducible refine aM H M (ix0 7) (by omega) ?_ | with_reducible refine aM H M (ix0 8) (by omega) ?_ | with_reducible refine aM H M (ix0 9) (by omega) ?_ | with_reducible refine aM H M (ix0 10) (by omega) ?_ | with_reducible refine aM H M (ix0 11) (by omega) ?_ | with_reducible refine aM H M (ix0 12) (by omega) ?_ | with_reducible refine aM H M (ix1 13 _) (by omega) ?_ | with_reducible refine aM H M (ix1 1161 _) (by omega) ?_ | with_reducible refine aM H M (ix2 269 4 _) (by omega) ?_ | with_reducible refine aM H M (ix4 269 4 _ 1) (by omega) ?_ | with_reducible refine aM H M (ix4 269 4 _ 2) (by omega) ?_ | with_reducible refine aM H M (ix4 269 4 _ 3) (by omega) ?_ | with_reducible refine fG H (by with_unfolding_all exact H.b) (by with_unfolding_all rfl) ?_ | with_reducible refine aG H (by with_unfolding_all exact H.b) (by with_unfolding_all rfl) (by decide) rfl (by omega) ?_))
      exact thr1 H (fun h2 H2 => br_F (by decide) (k _ _ H2 ((OW.of o1).th 3) (M.off (id := 12) (by decide) 0 3) (up_same _ _ _ _)))
    · have c5 : N 4 < 8 := by omega
      rw [tellerS, tellerW, cIf_t c1, cIf_t hc, cIf_t c5, cIf_t ⟨c1, hc, c5⟩] at k
      (repeat (first | with_reducible refine thr0 ?_ | with_reducible refine bd_i ?_ | with_reducible refine fP H (by with_unfolding_all exact H.b) (by with_unfolding_all rfl) (by with_unfolding_all rfl) ?_ | with_reducible refine vG H (by with_unfolding_all exact H.b) (by with_unfolding_all rfl) ?_ | with_reducible refine aM H M rfl (by omega) ?_ | with_reducible refine aM H M (ix0 0) (by omega) ?_ | with_reducible refine aM H M (ix0 1) (by omega) ?_ | with_reducible refine aM H M (ix0 2) (by omega) ?_ | with_reducible refine aM H M (ix0 3) (by omega) ?_ | with_reducible refine aM H M (ix0 4) (by omega) ?_ | with_reducible refine aM H M (ix0 5) (by omega) ?_ | with_reducible refine aM H M (ix0 6) (by omega) ?_ | with_reducible refine aM H M (ix0 7) (by omega) ?_ | with_reducible refine aM H M (ix0 8) (by omega) ?_ | with_reducible refine aM H M (ix0 9) (by omega) ?_ | with_reducible refine aM H M (ix0 10) (by omega) ?_ | with_reducible refine aM H M (ix0 11) (by omega) ?_ | with_reducible refine aM H M (ix0 12) (by omega) ?_ | with_reducible refine aM H M (ix1 13 _) (by omega) ?_ | with_reducible refine aM H M (ix1 1161 _) (by omega) ?_ | with_reducible refine aM H M (ix2 269 4 _) (by omega) ?_ | with_reducible refine aM H M (ix4 269 4 _ 1) (by omega) ?_ | with_reducible refine aM H M (ix4 269 4 _ 2) (by omega) ?_ | with_reducible refine aM H M (ix4 269 4 _ 3) (by omega) ?_ | with_reducible refine fG H (by with_unfolding_all exact H.b) (by with_unfolding_all rfl) ?_ | with_reducible refine aG H (by with_unfolding_all exact H.b) (by with_unfolding_all rfl) (by decide) rfl (by omega) ?_))
      refine br_T rfl ?_
      refine ldM H M 4 (ix0 4) (by decide) e4 ?_
      refine bd_i ?_
      rw [ix2 1069 4]
      refine adM H M (1069 + 4 * N 4) rfl (by omega) (fun h2 H2 M2 => ?_)
      refine adM H2 M2 (1070 + 4 * N 4) (by rw [nI_1]; congr 1; omega) (by omega) (fun h3 H3 M3 => ?_)
      refine adM H3 M3 (1071 + 4 * N 4) (by rw [ix0 2, nI_add]; congr 1; omega) (by omega) (fun h4 H4 M4 => ?_)
      refine adM H4 M4 (1072 + 4 * N 4) (by rw [ix0 3, nI_add]; congr 1; omega) (by omega) (fun h5 H5 M5 => ?_)
      refine icM H5 M5 4 (n := N 4) (ix0 4) (by decide) ?_ (fun h6 H6 M6 => ?_)
      · rw [va_up_ne _ _ (by omega), va_up_ne _ _ (by omega), va_up_ne _ _ (by omega), va_up_ne _ _ (by omega)]
        exact e4
      · refine ldM H6 M6 4 (ix0 4) (by decide) (va_up_self _ _ _) ?_
        rw [nI_pred]
        refine k _ h6 H6 (((((OW.of o1).wr _ _).wr _ _).wr _ _).wr _ _ |>.wr _ _) M6 ?_
        rw [up_row _ _ _ (by decide), up_row _ _ _ (by decide), up_row _ _ _ (by decide), up_row _ _ _ (by decide), up_row _ _ _ (by decide)]
        exact t1
  · rw [tellerS, tellerW, cIf_f c1, cIf_f (fun z => c1 z.1)] at k
    (repeat (first | with_reducible refine bd_i ?_ | with_reducible refine fP H (by with_unfolding_all exact H.b) (by with_unfolding_all rfl) (by with_unfolding_all rfl) ?_ | with_reducible refine vG H (by with_unfolding_all exact H.b) (by with_unfolding_all rfl) ?_ | with_reducible refine aM H M rfl (by omega) ?_ | with_reducible refine aM H M (ix0 0) (by omega) ?_ | with_reducible refine aM H M (ix0 1) (by omega) ?_ | with_reducible refine aM H M (ix0 2) (by omega) ?_ | with_reducible refine aM H M (ix0 3) (by omega) ?_ | with_reducible refine aM H M (ix0 4) (by omega) ?_ | with_reducible refine aM H M (ix0 5) (by omega) ?_ | with_reducible refine aM H M (ix0 6) (by omega) ?_ | with_reducible refine aM H M (ix0 7) (by omega) ?_ | with_reducible refine aM H M (ix0 8) (by omega) ?_ | with_reducible refine aM H M (ix0 9) (by omega) ?_ | with_reducible refine aM H M (ix0 10) (by omega) ?_ | with_reducible refine aM H M (ix0 11) (by omega) ?_ | with_reducible refine aM H M (ix0 12) (by omega) ?_ | with_reducible refine aM H M (ix1 13 _) (by omega) ?_ | with_reducible refine aM H M (ix1 1161 _) (by omega) ?_ | with_reducible refine aM H M (ix2 269 4 _) (by omega) ?_ | with_reducible refine aM H M (ix4 269 4 _ 1) (by omega) ?_ | with_reducible refine aM H M (ix4 269 4 _ 2) (by omega) ?_ | with_reducible refine aM H M (ix4 269 4 _ 3) (by omega) ?_ | with_reducible refine fG H (by with_unfolding_all exact H.b) (by with_unfolding_all rfl) ?_ | with_reducible refine aG H (by with_unfolding_all exact H.b) (by with_unfolding_all rfl) (by decide) rfl (by omega) ?_))
    exact thr1 H (fun h2 H2 => br_F (by decide) (k _ _ H2 ((OW.of o1).th 1) (M.off (id := 12) (by decide) 0 1) (up_same _ _ _ _)))
end ADDPUB
