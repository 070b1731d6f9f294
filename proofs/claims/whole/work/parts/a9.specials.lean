/-! turns of the law: ways, odds, minutes, tape, images -/
theorem LR.co2 {wd wd' : Nat → Int32} {b : Nat} {L : List (Nat × Seg)} (l : LR wd b L) (h10 : L.length ≤ 10) (h400 : (sgL L).length ≤ 400) (e : ∀ w, b ≤ w → w < b + 831 → wd' w = wd w) : LR wd' b L :=
  ⟨(e _ (Nat.le_refl _) (by omega)).trans l.1, fun j hj => by rw [e _ (by omega) (by omega), e _ (by omega) (by omega), e _ (by omega) (by omega)]; exact l.2.1 j hj, fun j hj => by rw [e _ (by omega) (by omega), e _ (by omega) (by omega)]; exact l.2.2 j hj⟩
theorem SR.co2 {wd wd' : Nat → Int32} {b : Nat} {s : Seg} (l : SR wd b s) (h400 : s.length ≤ 400) (e : ∀ w, b ≤ w → w < b + 831 → wd' w = wd w) : SR wd' b s :=
  ⟨(e _ (by omega) (by omega)).trans l.1, (e _ (by omega) (by omega)).trans l.2.1, fun j hj => by rw [e _ (by omega) (by omega), e _ (by omega) (by omega)]; exact l.2.2 j hj⟩
theorem us_lt {wd : Nat → Int32} {N : Nat → Nat} (O : Ok wd N) {i : Nat} (h : us N i) : i < 1166 := by
  have b0 := O.g.2
  have b1 := O.p.2
  have b3 := O.f.2
  have b4 := O.t.2
  have b5 := O.o.2
  have b6 := O.s.2
  unfold us at h
  omega
theorem KD.fr {X X' : Nat → Nat → Int32} {nr : Nat} {V V' : Nat → Prop} {E E' : Nat → List Nat} (D : KD X nr V E) (e3 : X' 12 3 = X 12 3) (e2 : X' 1302 = X 1302) (ek : ∀ id, X' (id + 5000) = X (id + 5000)) (hv : ∀ i, i < 9 → V' (i + 9) = V (i + 9)) (he : ∀ i, i < 9 → E' (i + 9) = E (i + 9)) : KD X' nr V' E' := by
  have ek2 : (fun id => X' (id + 5000)) = fun id => X (id + 5000) := funext ek
  rcases D with ⟨d1, d2⟩ | ⟨d1, d2, wk, Nk, LLk, SSk, d3, d4, d5⟩
  · exact Or.inl ⟨d1, e3.trans d2⟩
  · refine Or.inr ⟨d1, by rw [e3]; exact d2, wk, Nk, LLk, SSk, ?_, by rw [ek2]; exact d4, d5.vc hv he⟩
    unfold IR
    rw [e2]
    exact d3
theorem st_lo : ∀ id, stR id = true → id < 1300 ∧ id ≠ 12 := by
  have b1 : ∀ e ∈ cbL, e.1 < 1300 ∧ e.1 ≠ 12 := by decide +kernel
  have b2 : ∀ e ∈ csL, e.1 < 1300 ∧ e.1 ≠ 12 := by decide +kernel
  intro id h
  unfold stR at h
  rw [Bool.or_eq_true, List.any_eq_true, List.any_eq_true] at h
  rcases h with ⟨e, he, z⟩ | ⟨e, he, z⟩
  · have : e.1 = id := by simpa using z
    rw [← this]
    exact b1 e he
  · have : e.1 = id := by simpa using z
    rw [← this]
    exact b2 e he
theorem PGx.sub {A : Nat → Nat} {S : Nat → Prop} {h : AH} {nr : Nat} {V V' : Nat → Prop} {E : Nat → List Nat} {ps ss qs : Nat → Nat} (P : PGx A S h nr V E ps ss qs) (hv : ∀ i, V' i → V i) : PGx A S h nr V' E ps ss qs := ⟨fun u hu => P.1 u (hv u hu), P.2.1, fun u hu => P.2.2.1 u (hv u hu), fun u v hu h2 => P.2.2.2 u v (hv u hu) (hv v h2)⟩
theorem LZ.nr9 {a11 a12 a3 nr : Nat} {A : Nat → Nat} {S : Nat → Prop} {h0 : AH} {V : Nat → Prop} {E : Nat → List Nat} (L : LZ a11 a12 a3 A S h0 nr V E) : 9 ≤ nr := by
  rcases L.2.2.2.2.2.2 with ⟨-, -, q⟩ | ⟨-, -, q⟩
  · omega
  · omega
section SPECIALS
variable {xs : Nat → Int32} {L j v0 a11 a12 a3 : Nat} {h : AH} {K : Int32 → AH → Prop}
theorem t_way (hI : LI a11 a12 a3 h) (hj : j + 6 ≤ L) (hL : L ≤ 3072) (k : ∀ h', LI a11 a12 a3 h' → K (nI j + 6) h') : w_L_law__1554 xs L K v0 a11 a12 a3 (nI j) h (fun r _ => r = 1) := by
  obtain ⟨A, S, h0, X, nr, V, E, wd, N, LL, SS, B, n, H, Ls, Lx, R, M, W⟩ := hI
  have O := W.1
  have J := Ls.2.2.1
  have q1 : A 11 = a11 := Ls.1
  have q2 : A 12 = a12 := Ls.2.1
  subst q1 q2
  dsimp only [w_L_law__1554, w_L_law__1619, w_L_law__2741]
  refine xl_ (c := 1) (jx j 1) (by decide) hj hL ?_
  refine xl_ (c := 2) (jx j 2) (by decide) hj hL ?_
  refine L_way H R O J Ls.2.2.2.2.2.1 (fun A' S' h1 X1 h2 H2 b2 wp p5 hS o1 g1 => ?_)
  have e12 := b2.1 12 (lv_12 H.b)
  have Ls1 := Ls.way H b2 wp p5 hS
  have M1 := M.cf (CQ.ws o1)
  refine xl_ (c := 1) (jx j 1) (by decide) hj hL ?_
  refine xl_ (c := 2) (jx j 2) (by decide) hj hL ?_
  rw [← e12]
  refine vG (o := 12) H2 H2.b rfl ?_
  refine m_way_ H2 M1 O (fun X3 h3 H3 o3 t3 => ?_)
  refine fin_v (P := fun h' => K (nI j + 6) h') H2 H3 Ls1.2.2.1 t3 g1 ?_
  exact k _ (LI.of Lx H3 Ls1 (CQ.ws o1) (OW.of o3) (R.ws o1) (M1.ot o3) W)
theorem t_odds (hI : LI a11 a12 a3 h) (hj : j + 6 ≤ L) (hL : L ≤ 3072) (k : ∀ h', LI a11 a12 a3 h' → K (nI j + 6) h') : w_L_law__2636 xs L K v0 a11 a12 a3 (nI j) h (fun r _ => r = 1) := by
  obtain ⟨A, S, h0, X, nr, V, E, wd, N, LL, SS, B, n, H, Ls, Lx, R, M, W⟩ := hI
  have O := W.1
  have J := Ls.2.2.1
  have q1 : A 11 = a11 := Ls.1
  have q2 : A 12 = a12 := Ls.2.1
  subst q1 q2
  dsimp only [w_L_law__2636, w_L_law__2689, w_L_law__2741]
  have hr := Ls.2.2.2.1
  obtain ⟨w1, w2, w3, w4, w5, w6, w7, w8, w9⟩ := id W
  obtain ⟨ps, ss, qs, P0⟩ := Ls.2.2.2.2.1
  refine xl_ (c := 1) (jx j 1) (by decide) hj hL ?_
  refine L_odds H R O J P0 hr w7 w5 (fun h1 X1 h2 H2 P1 b1 o1 g1 => ?_)
  have Ls1 := Ls.bg H (BG.bz b1) P1
  have M1 := M.cf (CQ.oc o1)
  refine xl_ (c := 1) (jx j 1) (by decide) hj hL ?_
  refine vG (o := 12) H2 H2.b rfl ?_
  refine m_odds H2 M1 O w4 w5 (fun X3 h3 H3 o3 t3 => ?_)
  refine fin_v (P := fun h' => K (nI j + 6) h') H2 H3 Ls1.2.2.1 t3 g1 ?_
  exact k _ (LI.of Lx H3 Ls1 (CQ.oc o1) (OW.of o3) (R.oc o1) (M1.ot o3) W)
theorem t_holds (hI : LI a11 a12 a3 h) (hj : j + 6 ≤ L) (hL : L ≤ 3072) (k : ∀ h', LI a11 a12 a3 h' → K (nI j + 6) h') : w_L_law__2573 xs L K v0 a11 a12 a3 (nI j) h (fun r _ => r = 1) := by
  obtain ⟨A, S, h0, X, nr, V, E, wd, N, LL, SS, B, n, H, Ls, Lx, R, M, W⟩ := hI
  have O := W.1
  have J := Ls.2.2.1
  have q1 : A 11 = a11 := Ls.1
  have q2 : A 12 = a12 := Ls.2.1
  subst q1 q2
  dsimp only [w_L_law__2573, w_L_law__2627, w_L_law__2633, w_L_law__2741]
  have hr := Ls.2.2.2.1
  obtain ⟨w1, w2, w3, w4, w5, w6, w7, w8, w9⟩ := id W
  obtain ⟨ps, ss, qs, P0⟩ := Ls.2.2.2.2.1
  refine xl_ (c := 1) (jx j 1) (by decide) hj hL ?_
  refine L_holds H R O J P0 hr w7 w5 (fun h1 X1 h2 H2 P1 b1 o1 g1 => ?_)
  have Ls1 := Ls.bg H (BG.bz b1) P1
  have M1 := M.cf (CQ.oc o1)
  refine xl_ (c := 1) (jx j 1) (by decide) hj hL ?_
  refine vG (o := 12) H2 H2.b rfl ?_
  refine m_holds H2 M1 O w4 w5 (fun X3 h3 H3 o3 t3 => ?_)
  refine fin_b (P := fun h' => K (nI j + 6) h') (T := fun x y h' => br (lg_cmp x y = 0) (K (nI j + 6) h') ((0 : Int32) = 1)) H2 H3 Ls1.2.2.1 t3 g1 cIf_01 (fun x h p => br_T (lg_same x) p) ?_
  exact k _ (LI.of Lx H3 Ls1 (CQ.oc o1) (OW.of o3) (R.oc o1) (M1.ot o3) W)
theorem t_run (hI : LI a11 a12 a3 h) (hj : j + 6 ≤ L) (hL : L ≤ 3072) (k : ∀ h', LI a11 a12 a3 h' → K (nI j + 6) h') : w_L_law__877 xs L K v0 a11 a12 a3 (nI j) h (fun r _ => r = 1) := by
  obtain ⟨A, S, h0, X, nr, V, E, wd, N, LL, SS, B, n, H, Ls, Lx, R, M, W⟩ := hI
  have O := W.1
  have J := Ls.2.2.1
  have q1 : A 11 = a11 := Ls.1
  have q2 : A 12 = a12 := Ls.2.1
  subst q1 q2
  dsimp only [w_L_law__877, w_L_law__930, w_L_law__2741]
  have hr := Ls.2.2.2.1
  obtain ⟨w1, w2, w3, w4, w5, w6, w7, w8, w9⟩ := id W
  obtain ⟨ps, ss, qs, P0⟩ := Ls.2.2.2.2.1
  refine xl_ (c := 1) (jx j 1) (by decide) hj hL ?_
  refine L_run H R O J P0 hr w6 w3 (fun h1 X1 h2 H2 P1 b1 o1 R1 g1 => ?_)
  have Ls1 := Ls.bg H (BG.bz b1) P1
  have M1 := M.cf (CQ.sc o1)
  refine xl_ (c := 1) (jx j 1) (by decide) hj hL ?_
  refine vG (o := 12) H2 H2.b rfl ?_
  refine m_run_ H2 M1 O w2 w3 (fun X3 h3 H3 o3 M3 t3 q hq => ?_)
  refine fin_v (P := fun h' => K (nI j + 6) h') H2 H3 Ls1.2.2.1 t3 (fun z => (g1 z).trans (by rw [hq z])) ?_
  obtain ⟨N', o', hn, he⟩ := run_ok (LL := LL) O (v := xs (j + 1))
  exact k _ (LI.of Lx H3 Ls1 (CQ.sc o1) o3 R1 M3 (W.co o' (hn 2 (by decide) (by decide)) (hn 6 (by decide) (by decide)) he))
theorem tape_I {A : Nat → Nat} {S : Nat → Prop} {h0 h3 : AH} {X X1 X3 : Nat → Nat → Int32} {nr : Nat} {V : Nat → Prop} {E : Nat → List Nat} {wd : Nat → Int32} {N : Nat → Nat} {LL : Nat → List (Nat × Seg)} {SS : Nat → Seg} {B B' : Nat → Nat} {n n' : Nat} (Ls : LZ a11 a12 a3 A S h0 nr V E) (Lx : LX X nr V E B n) (R : CR X wd) (M : MR X wd) (W : Wd wd N LL SS V E) (H3 : G A S h0 X3 h3) (f : TF X X1) (u : UF X1 X3) (C1 : TC X1 B' n') (C3 : TM X3 B' n') (bt : BT B' n') : LI a11 a12 a3 h3 := by
  have e : ∀ id m, id ≠ 700 → ¬ (id = 6 ∧ m = 1) → mS id m = false → ¬ (id = 12 ∧ m = 0) → id ≠ 1304 → ¬ (id = 12 ∧ m = 5) → X3 id m = X id m := fun id m h1 h2 h3 h4 h5 h6 => (u id m h3 h4 h5 h6).trans (f id m h1 h2)
  have r : ∀ id, id ≠ 700 → id ≠ 6 → (∀ m, mS id m = false) → id ≠ 12 → id ≠ 1304 → X3 id = X id := fun id h1 h2 h3 h4 h5 => funext fun m => e id m h1 (fun z => h2 z.1) (h3 m) (fun z => h4 z.1) h5 (fun z => h4 z.1)
  have e1302 : X3 1302 = X 1302 := r 1302 (by decide) (by decide) (fun _ => rfl) (by decide) (by decide)
  have e1301 : X3 1301 = X 1301 := r 1301 (by decide) (by decide) (fun _ => rfl) (by decide) (by decide)
  have ek : ∀ id, X3 (id + 5000) = X (id + 5000) := fun id => r _ (by omega) (by omega) (fun _ => mS_hi (by omega)) (by omega) (by omega)
  have e700 : X3 700 = X1 700 := funext fun m => u 700 m rfl (fun z => absurd z.1 (by decide)) (by decide) (fun z => absurd z.1 (by decide))
  have e61 : X3 6 1 = X1 6 1 := u 6 1 rfl (fun z => absurd z.1 (by decide)) (by decide) (fun z => absurd z.1 (by decide))
  have e62 : X3 6 2 = X 6 2 := e 6 2 (by decide) (by decide) rfl (by decide) (by decide) (by decide)
  have e10 : X3 12 10 = X 12 10 := e 12 10 (by decide) (by decide) rfl (by decide) (by decide) (by decide)
  have e3 : X3 12 3 = X 12 3 := e 12 3 (by decide) (by decide) rfl (by decide) (by decide) (by decide)
  obtain ⟨l1, l2, l3, l4, l5⟩ := Lx
  refine ⟨A, S, h0, X3, nr, V, E, wd, N, LL, SS, B', n', H3, Ls, ⟨?_, C3, bt, ?_, l5.fr e3 e1302 ek (fun _ _ => rfl) (fun _ _ => rfl)⟩, ?_, ?_, W⟩
  · exact ⟨e61.trans C1.1, fun i hi => by rw [e700]; exact C1.2 i hi⟩
  · rw [e62, e10]
    exact l4
  · refine R.off (fun id m hs => ?_)
    have hs2 := st_mS id hs
    have hs3 := st_lo id hs
    have h7 : id ≠ 700 := fun z => by rw [z] at hs; exact absurd hs (by decide)
    have h6 : id ≠ 6 := fun z => by rw [z] at hs; exact absurd hs (by decide)
    refine e id m h7 (fun z => h6 z.1) ?_ (fun z => hs3.2 z.1) (by omega) (fun z => hs3.2 z.1)
    unfold mS
    rw [hs2.1, Bool.false_or]
    cases c : id == 12 with
    | false => rfl
    | true => exact absurd (by simpa using c) hs3.2
  · unfold MR
    rw [e1301]
    exact M
theorem fd_bt {tp : Nat → Nat} {T : Nat} (b : BT tp T) {a b' c d e : Int32} : BT (fdP tp T a b' c d e) (fdT T) := by
  obtain ⟨b1, b2⟩ := b
  unfold fdP fdT
  by_cases z : T + 20 ≤ 400
  · rw [if_pos z, if_pos z]
    refine ⟨z, fun i hi => ?_⟩
    unfold tpA
    split
    · exact fb_lt
    · exact b2 i (by omega)
  · rw [if_neg z, if_neg z]
    exact ⟨b1, b2⟩
theorem en_bt {tp : Nat → Nat} {T : Nat} (b : BT tp T) {v : Int32} : BT tp (enT T v) := by
  have hT : T ≤ 400 := b.1
  have : enT T v ≤ T := by
    unfold enT
    by_cases z : isN v (T + 1)
    · rw [cIf_t z]
      have := (isN_nt (by omega) z).2
      omega
    · rw [cIf_f z]
      exact Nat.le_refl _
  exact ⟨by omega, fun i hi => b.2 i (by omega)⟩
theorem TM.tf {X X' : Nat → Nat → Int32} {B : Nat → Nat} {n : Nat} (C : TM X B n) (f : TF X X') : TM X' B n := ⟨by rw [f 12 5 (by decide) (by decide)]; exact C.1, fun i hi => by rw [f 1304 i (by decide) (fun z => absurd z.1 (by decide))]; exact C.2 i hi⟩
theorem t_feed (hI : LI a11 a12 a3 h) (hj : j + 6 ≤ L) (hL : L ≤ 3072) (k : ∀ h', LI a11 a12 a3 h' → K (nI j + 6) h') : w_L_law__220 xs L K v0 a11 a12 a3 (nI j) h (fun r _ => r = 1) := by
  obtain ⟨A, S, h0, X, nr, V, E, wd, N, LL, SS, B, n, H, Ls, Lx, R, M, W⟩ := hI
  have O := W.1
  have J := Ls.2.2.1
  have q1 : A 11 = a11 := Ls.1
  have q2 : A 12 = a12 := Ls.2.1
  subst q1 q2
  dsimp only [w_L_law__220, w_L_law__2741]
  refine xl_ (c := 1) (jx j 1) (by decide) hj hL ?_
  refine xl_ (c := 2) (jx j 2) (by decide) hj hL ?_
  refine xl_ (c := 3) (jx j 3) (by decide) hj hL ?_
  refine xl_ (c := 4) (jx j 4) (by decide) hj hL ?_
  refine xl_ (c := 5) (jx j 5) (by decide) hj hL ?_
  refine vG (o := 11) H H.b rfl ?_
  refine c_feed H Lx.1 Lx.2.2.1.1 (fun X1 h2 H2 f1 C1 => ?_)
  refine xl_ (c := 1) (jx j 1) (by decide) hj hL ?_
  refine xl_ (c := 2) (jx j 2) (by decide) hj hL ?_
  refine xl_ (c := 3) (jx j 3) (by decide) hj hL ?_
  refine xl_ (c := 4) (jx j 4) (by decide) hj hL ?_
  refine xl_ (c := 5) (jx j 5) (by decide) hj hL ?_
  refine vG (o := 12) H2 H2.b rfl ?_
  refine m_feed_ H2 (Lx.2.1.tf f1) Lx.2.2.1.1 (fun X3 h3 H3 u3 C3 => ?_)
  refine br_T rfl ?_
  exact k _ (tape_I Ls Lx R M W H3 f1 u3 C1 C3 (fd_bt Lx.2.2.1))
theorem t_end (hI : LI a11 a12 a3 h) (hj : j + 6 ≤ L) (hL : L ≤ 3072) (k : ∀ h', LI a11 a12 a3 h' → K (nI j + 6) h') : w_L_law__293 xs L K v0 a11 a12 a3 (nI j) h (fun r _ => r = 1) := by
  obtain ⟨A, S, h0, X, nr, V, E, wd, N, LL, SS, B, n, H, Ls, Lx, R, M, W⟩ := hI
  have O := W.1
  have J := Ls.2.2.1
  have q1 : A 11 = a11 := Ls.1
  have q2 : A 12 = a12 := Ls.2.1
  subst q1 q2
  dsimp only [w_L_law__293, w_L_law__2741]
  refine xl_ (c := 1) (jx j 1) (by decide) hj hL ?_
  refine vG (o := 11) H H.b rfl ?_
  refine c_end H Lx.1 Lx.2.2.1.1 (fun X1 h2 H2 f1 C1 => ?_)
  refine xl_ (c := 1) (jx j 1) (by decide) hj hL ?_
  refine vG (o := 12) H2 H2.b rfl ?_
  refine m_end_ H2 (Lx.2.1.tf f1) Lx.2.2.1.1 (fun X3 h3 H3 u3 C3 => ?_)
  refine br_T rfl ?_
  exact k _ (tape_I Ls Lx R M W H3 f1 u3 C1 C3 (en_bt Lx.2.2.1))
theorem t_image (hI : LI a11 a12 a3 h) (hj : j + 6 ≤ L) (hL : L ≤ 3072) (k : ∀ h', LI a11 a12 a3 h' → K (nI j + 6) h') : w_L_law__2692 xs L K v0 a11 a12 a3 (nI j) h (fun r _ => r = 1) := by
  obtain ⟨A, S, h0, X, nr, V, E, wd, N, LL, SS, B, n, H, Ls, Lx, R, M, W⟩ := hI
  have O := W.1
  have J := Ls.2.2.1
  have q1 : A 11 = a11 := Ls.1
  have q2 : A 12 = a12 := Ls.2.1
  subst q1 q2
  dsimp only [w_L_law__2692, w_L_law__2741]
  refine vG (o := 11) H H.b rfl ?_
  refine c_image H R Ls (fun A' S' hb X1 h2 H2 Ls1 f1 R1 => ?_)
  rw [← Ls1.2.1]
  refine vG (o := 12) H2 H2.b rfl ?_
  have M1 : MR X1 wd := by
    unfold MR
    rw [f1 1301 (by decide)]
    exact M
  refine m_image_ H2 M1 (fun X3 h3 H3 f3 t3 M3 I3 => ?_)
  have r : ∀ id, id ≠ 1302 → id ≠ 12 → X3 id = X1 id := fun id z1 z2 => funext fun m => f3 id m z1 (fun z => z2 z.1)
  have e6 : X3 6 = X 6 := (r 6 (by decide) (by decide)).trans (f1 6 (by decide))
  have e700 : X3 700 = X 700 := (r 700 (by decide) (by decide)).trans (f1 700 (by decide))
  have e1304 : X3 1304 = X 1304 := (r 1304 (by decide) (by decide)).trans (f1 1304 (by decide))
  have x12 : X1 12 = X 12 := f1 12 (by decide)
  have e5 : X3 12 5 = X 12 5 := (f3 12 5 (by decide) (by decide)).trans (congrFun x12 5)
  have e10 : X3 12 10 = X 12 10 := (f3 12 10 (by decide) (by decide)).trans (congrFun x12 10)
  have ek : (fun id => X3 (id + 5000)) = fun id => X1 (id + 5000) := funext fun id => r _ (by omega) (by omega)
  obtain ⟨l1, l2, l3, l4, l5⟩ := Lx
  refine k _ ⟨A', S', hb, X3, 18, _, _, wd, N, LL, SS, B, n, H3, Ls1, ⟨?_, ?_, l3, ?_, Or.inr ⟨rfl, ?_, wd, N, LL, SS, I3, ?_, ?_⟩⟩, ?_, M3, ?_⟩
  · exact ⟨by rw [e6]; exact l1.1, by rw [e700]; exact l1.2⟩
  · exact ⟨by rw [e5]; exact l2.1, by rw [e1304]; exact l2.2⟩
  · rw [e6, e10]
    exact l4
  · rw [t3]
    decide
  · rw [ek]
    exact R1
  · refine W.vc (fun i hi => ?_) (fun i hi => ?_)
    · unfold cpF
      rw [if_pos (by omega), show i + 9 - 9 + 0 = i by omega]
    · unfold cpF
      rw [if_pos (by omega), show i + 9 - 9 + 0 = i by omega]
  · refine R.off (fun id m hs => ?_)
    obtain ⟨s1, s2⟩ := st_lo id hs
    rw [r id (by omega) s2, f1 id (by omega)]
  · refine W.vc (fun i hi => ?_) (fun i hi => ?_)
    · unfold cpF
      rw [if_neg (by omega)]
    · unfold cpF
      rw [if_neg (by omega)]
theorem t_back (hI : LI a11 a12 a3 h) (hj : j + 6 ≤ L) (hL : L ≤ 3072) (k : ∀ h', LI a11 a12 a3 h' → K (nI j + 6) h') : w_L_law__2703 xs L K v0 a11 a12 a3 (nI j) h (fun r _ => r = 1) := by
  obtain ⟨A, S, h0, X, nr, V, E, wd, N, LL, SS, B, n, H, Ls, Lx, R, M, W⟩ := hI
  have O := W.1
  have J := Ls.2.2.1
  have q1 : A 11 = a11 := Ls.1
  have q2 : A 12 = a12 := Ls.2.1
  subst q1 q2
  dsimp only [w_L_law__2703, w_L_law__2741]
  refine vG (o := 11) H H.b rfl ?_
  refine c_back H Ls (fun hn => ?_) (fun hn hb X1 h2 H2 Ls1 B1 => ?_)
  · refine vG (o := 12) H H.b rfl ?_
    have x3 : X 12 3 = 0 := by
      rcases Lx.2.2.2.2 with ⟨-, d⟩ | ⟨d, -⟩
      · exact d
      · omega
    refine m_back_ H (wk := fun w => X 1302 w) (fun w _ => rfl) (fun _ X3 h3 H3 o3 => br_T rfl ?_) (fun z => absurd x3 z)
    exact k _ (LI.of Lx H3 Ls (CQ.rf X) (OW.of o3) R (M.ot o3) W)
  · subst hn
    refine vG (o := 12) H2 H2.b rfl ?_
    have x12 : X1 12 = X 12 := B1.2 12 (by decide)
    obtain ⟨l1, l2, l3, l4, l5⟩ := Lx
    rcases l5 with ⟨d, -⟩ | ⟨-, x3, wk, Nk, LLk, SSk, Ik, Rk, Wk⟩
    · exact absurd d (by decide)
    have I1 : IR X1 wk := by
      unfold IR
      rw [B1.2 1302 (by decide)]
      exact Ik
    refine m_back_ H2 I1 (fun z => absurd (by rw [← x12]; exact z) x3) (fun _ X3 h3 H3 o3 M3 => br_T rfl ?_)
    have Rb : CR X1 wk := BC.cr B1 Rk
    have ek1 : ∀ id, X1 (id + 5000) = X (id + 5000) := fun id => B1.2 _ (stR_hi (by omega))
    have Lx1 : LX X1 18 (cpF 0 9 V 9) (cpF 0 9 E 9) B n := by
      have e6 : X1 6 = X 6 := B1.2 6 (by decide)
      have e700 : X1 700 = X 700 := B1.2 700 (by decide)
      have e1304 : X1 1304 = X 1304 := B1.2 1304 (by decide)
      have e1302 : X1 1302 = X 1302 := B1.2 1302 (by decide)
      refine ⟨⟨by rw [e6]; exact l1.1, by rw [e700]; exact l1.2⟩, ⟨by rw [x12]; exact l2.1, by rw [e1304]; exact l2.2⟩, l3, by rw [e6, x12]; exact l4, ?_⟩
      have D : KD X 18 V E := Or.inr ⟨rfl, x3, wk, Nk, LLk, SSk, Ik, Rk, Wk⟩
      refine D.fr (congrFun x12 3) e1302 ek1 (fun i hi => ?_) (fun i hi => ?_)
      · unfold cpF
        rw [if_neg (by omega)]
      · unfold cpF
        rw [if_neg (by omega)]
    refine k _ (LI.of Lx1 H3 Ls1 (CQ.rf X1) o3 Rb M3 (Wk.vc (fun i hi => ?_) (fun i hi => ?_)))
    · unfold cpF
      rw [if_pos (by omega), Nat.sub_zero]
    · unfold cpF
      rw [if_pos (by omega), Nat.sub_zero]
end SPECIALS
