/-! turns of the law: laws and stories -/
theorem UX.cr {X X' : Nat → Nat → Int32} {wd : Nat → Int32} (R : CR X wd) (u : UX X X') : CR X' wd := R.off (fun id n h => by
  have s1 := st_mS id h
  exact u id n (fun z => s1.2.1 z.1) s1.2.2)
theorem UX.row {X X' : Nat → Nat → Int32} (u : UX X X') {id : Nat} (h1 : id ≠ 12) (h2 : id ≠ 1301) : X' id = X id := funext fun n => u id n (fun z => h1 z.1) h2
theorem UX.n3 {X X' : Nat → Nat → Int32} (u : UX X X') : X' 12 3 = X 12 3 := u 12 3 (fun z => by omega) (by decide)
/-- a text was refused, or there was no room: the world stays -/
theorem txt_I {A : Nat → Nat} {S : Nat → Prop} {h0 h3 : AH} {X X1 X3 : Nat → Nat → Int32} {nr a11 a12 a3 : Nat} {V : Nat → Prop} {E : Nat → List Nat} {wd : Nat → Int32} {N : Nat → Nat} {LL : Nat → List (Nat × Seg)} {SS : Nat → Seg} {B : Nat → Nat} {n : Nat} (Ls : LZ a11 a12 a3 A S h0 nr V E) (Lx : LX X nr V E B n) (W : Wd wd N LL SS V E) (H3 : G A S h0 X3 h3) (o : Off rSL X X1) (u : UX X1 X3) (R1 : CR X1 wd) (M3 : MR X3 wd) (y1 : X1 6 1 = 0) (y5 : X3 12 5 = 0) (yf : X1 6 2 = X3 12 10) : LI a11 a12 a3 h3 := by
  obtain ⟨l1, l2, l3, l4, l5⟩ := Lx
  have e6 : X3 6 = X1 6 := u.row (by decide) (by decide)
  refine ⟨A, S, h0, X3, nr, V, E, wd, N, LL, SS, B, 0, H3, Ls, ⟨⟨by rw [e6]; exact y1, fun i hi => absurd hi (Nat.not_lt_zero _)⟩, ⟨y5, fun i hi => absurd hi (Nat.not_lt_zero _)⟩, ⟨Nat.zero_le _, fun i hi => absurd hi (Nat.not_lt_zero _)⟩, by rw [e6]; exact yf, l5.fr ?_ ?_ (fun id => ?_) (fun _ _ => rfl) (fun _ _ => rfl)⟩, UX.cr R1 u, M3, W⟩
  · rw [u.n3, o 12 (by decide)]
  · rw [u.row (by decide) (by decide), o 1302 (by decide)]
  · have hn : id + 5000 ∉ rSL := fun z => by
      simp only [rSL, List.mem_cons, List.not_mem_nil, or_false] at z
      omega
    rw [u.row (by omega) (by omega), o _ hn]
section TEXTS
variable {xs : Nat → Int32} {L j v0 a11 a12 a3 : Nat} {h : AH} {K : Int32 → AH → Prop}
/-- a law was taken -/
theorem law_W {wd wd' : Nat → Int32} {N : Nat → Nat} {LL : Nat → List (Nat × Seg)} {SS : Nat → Seg} {V : Nat → Prop} {E : Nat → List Nat} (W : Wd wd N LL SS V E) {l : List (Nat × Seg)} (c : N 2 < 4) (lr : LR wd' (1166 + 831 * N 2) l) (lo : LOk false l ∧ (lwE l).length ≤ 400 ∧ l.length ≤ 10) (e2 : wd' 2 = nI (N 2 + 1)) (e : ∀ w, w < 8645 → w ≠ 2 → (w < 1166 + 831 * N 2 ∨ 1166 + 831 * N 2 + 831 ≤ w) → wd' w = wd w) : Wd wd' (va_up N 2 (N 2 + 1)) (va_up LL (N 2) l) SS (fun i => (V i ∧ i ≠ N 2) ∨ i = N 2) (va_up E (N 2) (lwE l)) := by
  obtain ⟨w1, w2, w3, w4, w5, w6, w7, w8, w9⟩ := W
  have b6 := w1.s.2
  have m2 : va_up N 2 (N 2 + 1) 2 = N 2 + 1 := va_up_self _ _ _
  have m6 : va_up N 2 (N 2 + 1) 6 = N 6 := va_ne (by decide)
  have O1 := w1.inc (w := 2) (M := 4) (Or.inr (Or.inr (Or.inl ⟨rfl, rfl⟩))) c
  have O2 : Ok wd' (va_up N 2 (N 2 + 1)) := O1.co (fun i hi => by
    have := us_lt O1 hi
    by_cases z : i = 2
    · rw [z, va_up_self, e2]
    · rw [va_ne z]
      exact e i (by omega) z (by omega))
  unfold Wd
  rw [m2, m6]
  refine ⟨O2, fun i hi => ?_, fun i hi => ?_, fun v hv => ?_, w5, fun i hi => ?_, fun v hv => ?_, fun i h1 h2 => ?_, fun v h1 h2 => ?_⟩
  · by_cases z : i = N 2
    · rw [z, va_up_self]
      exact lr
    · rw [va_ne z]
      obtain ⟨q1, q2, q3⟩ := w3 i (by omega)
      have q4 := sg_lw (a := LL i)
      exact (w2 i (by omega)).co2 q3 (by omega) (fun w h1 h2 => e w (by omega) (by omega) (by omega))
  · by_cases z : i = N 2
    · rw [z, va_up_self]
      exact lo
    · rw [va_ne z]
      exact w3 i (by omega)
  · have q3 := (w5 v hv).2.2
    have q4 := seg_len (s := SS v)
    exact (w4 v hv).co2 (by omega) (fun w h1 h2 => e w (by omega) (by omega) (by omega))
  · by_cases z : i = N 2
    · rw [z, va_up_self, va_up_self]
      exact ⟨Or.inr rfl, rfl⟩
    · rw [va_ne z, va_ne z]
      obtain ⟨q1, q2⟩ := w6 i (by omega)
      exact ⟨Or.inl ⟨q1, z⟩, q2⟩
  · obtain ⟨q1, q2⟩ := w7 v hv
    rw [va_ne (by omega)]
    exact ⟨Or.inl ⟨q1, by omega⟩, q2⟩
  · rintro (⟨q1, -⟩ | q1)
    · exact w8 i (by omega) h2 q1
    · omega
  · rintro (⟨q1, -⟩ | q1)
    · exact w9 v h1 h2 q1
    · omega
/-- a story was taken -/
theorem story_W {wd wd' : Nat → Int32} {N : Nat → Nat} {LL : Nat → List (Nat × Seg)} {SS : Nat → Seg} {V : Nat → Prop} {E : Nat → List Nat} (W : Wd wd N LL SS V E) {s : Seg} {v : Int32} (c : N 6 < 5) (v1 : 1 ≤ v) (v2 : v ≤ 99) (sr : SR wd' (1166 + 831 * (4 + N 6)) s) (so : TY true 19 true s ∧ s ≠ [] ∧ (enc s).length ≤ 400) (ev : wd' (1161 + N 6) = v) (e6 : wd' 6 = nI (N 6 + 1)) (e : ∀ w, w < 8645 → w ≠ 6 → w ≠ 1161 + N 6 → (w < 1166 + 831 * (4 + N 6) ∨ 1166 + 831 * (4 + N 6) + 831 ≤ w) → wd' w = wd w) : Wd wd' (va_up N 6 (N 6 + 1)) LL (va_up SS (N 6) s) (fun i => (V i ∧ i ≠ 4 + N 6) ∨ i = 4 + N 6) (va_up E (4 + N 6) (enc s ++ [10001])) := by
  obtain ⟨w1, w2, w3, w4, w5, w6, w7, w8, w9⟩ := W
  have b2 := w1.l.2
  have m2 : va_up N 6 (N 6 + 1) 2 = N 2 := va_ne (by decide)
  have m6 : va_up N 6 (N 6 + 1) 6 = N 6 + 1 := va_up_self _ _ _
  have bv : bn v 99 ∧ 1 ≤ nt v := by
    have q : bn v 99 := inR_bn (M := 99) (by decide) ⟨Int32.le_trans (by decide) v1, v2⟩
    refine ⟨q, ?_⟩
    have q1 := q.1
    rw [q1] at v1
    exact (nI_leI (a := 1) (b := nt v) (by decide) (by have := q.2; omega)).mp v1
  have O0 : Ok (va_up wd (1161 + N 6) v) N := w1.irr (by
    have b0 := w1.g.2
    have b1 := w1.p.2
    have b3 := w1.f.2
    have b4 := w1.t.2
    have b5 := w1.o.2
    unfold us
    omega) v
  have O1 := O0.inc (w := 6) (M := 5) (Or.inr (Or.inr (Or.inr (Or.inr (Or.inr (Or.inr ⟨rfl, rfl, by
    unfold OkS
    rw [va_up_self]
    exact bv⟩)))))) c
  have O2 : Ok wd' (va_up N 6 (N 6 + 1)) := O1.co (fun i hi => by
    have := us_lt O1 hi
    by_cases z : i = 6
    · rw [z, va_up_self, e6]
    · rw [va_ne z]
      by_cases z2 : i = 1161 + N 6
      · rw [z2, va_up_self, ev]
      · rw [va_ne z2]
        exact e i (by omega) z z2 (by omega))
  unfold Wd
  rw [m2, m6]
  refine ⟨O2, fun i hi => ?_, w3, fun u hu => ?_, fun u hu => ?_, fun i hi => ?_, fun u hu => ?_, fun i h1 h2 => ?_, fun u h1 h2 => ?_⟩
  · obtain ⟨q1, q2, q3⟩ := w3 i hi
    have q4 := sg_lw (a := LL i)
    exact (w2 i hi).co2 q3 (by omega) (fun w h1 h2 => e w (by omega) (by omega) (by omega) (by omega))
  · by_cases z : u = N 6
    · rw [z, va_up_self]
      exact sr
    · rw [va_ne z]
      have q3 := (w5 u (by omega)).2.2
      have q4 := seg_len (s := SS u)
      exact (w4 u (by omega)).co2 (by omega) (fun w h1 h2 => e w (by omega) (by omega) (by omega) (by omega))
  · by_cases z : u = N 6
    · rw [z, va_up_self]
      exact so
    · rw [va_ne z]
      exact w5 u (by omega)
  · obtain ⟨q1, q2⟩ := w6 i hi
    rw [va_ne (by omega)]
    exact ⟨Or.inl ⟨q1, by omega⟩, q2⟩
  · by_cases z : u = N 6
    · rw [z, va_up_self, va_up_self]
      exact ⟨Or.inr rfl, rfl⟩
    · rw [va_ne (by omega), va_ne z]
      obtain ⟨q1, q2⟩ := w7 u (by omega)
      exact ⟨Or.inl ⟨q1, by omega⟩, q2⟩
  · rintro (⟨q1, -⟩ | q1)
    · exact w8 i h1 h2 q1
    · omega
  · rintro (⟨q1, -⟩ | q1)
    · exact w9 u (by omega) h2 q1
    · omega
theorem t_law (hI : LI a11 a12 a3 h) (hj : j + 6 ≤ L) (hL : L ≤ 3072) (k : ∀ h', LI a11 a12 a3 h' → K (nI j + 6) h') : w_L_law__637 xs L K v0 a11 a12 a3 (nI j) h (fun r _ => r = 1) := by
  obtain ⟨A, S, h0, X, nr, V, E, wd, N, LL, SS, B, n, H, Ls, Lx, R, M, W⟩ := hI
  have O := W.1
  have J := Ls.2.2.1
  have q1 : A 11 = a11 := Ls.1
  have q2 : A 12 = a12 := Ls.2.1
  subst q1 q2
  dsimp only [w_L_law__637, w_L_law__678, w_L_law__2741]
  have hr := Ls.2.2.2.1
  have h9 := Ls.nr9
  obtain ⟨bt1, bt2⟩ := Lx.2.2.1
  have C := Lx.1
  have CM := Lx.2.1
  obtain ⟨ps, ss, qs, P0⟩ := Ls.2.2.2.2.1
  have st : ∀ id, id ∈ rSL → stR id = false := by decide
  have M_of : ∀ {X' : Nat → Nat → Int32}, Off rSL X X' → MR X' wd := fun o => by
    unfold MR
    rw [o 1301 (by decide)]
    exact M
  have T_of : ∀ {X' : Nat → Nat → Int32}, Off rSL X X' → TM X' B n := fun o => by
    unfold TM
    rw [o 12 (by decide), o 1304 (by decide)]
    exact CM
  have P1 := P0.sub (V' := fun i => V i ∧ i ≠ N 2) (fun i z => z.1)
  obtain ⟨eN, bN4⟩ := O.l
  refine L_law H R J C bt1 bt2 P1 hr h9 eN bN4 (fun z => z.2 rfl) (fun l e c p s q X1 hb h2 H2 bf P2 f x1 x2 R1 g1 => ?_) (fun l e c X1 h2 H2 o1 x1 x2 R1 => ?_) (fun y e X1 h2 H2 o1 x1 x2 R1 => ?_)
  · have k5 : gK h0 (A 805) = 24 := (H.1.2.1 805 ⟨by decide, H.b⟩).1
    have Ls1 := Ls.bg H (BG.bf bf k5) P2
    have fr : ∀ id, id ∉ rSL → id ≠ 7 → X1 id = X id := fun id z1 z2 => funext fun m => f id m z1 (fun z => z2 z.1)
    have M1 : MR X1 wd := by
      unfold MR
      rw [fr 1301 (by decide) (by decide)]
      exact M
    have T1 : TM X1 B n := by
      unfold TM
      rw [fr 12 (by decide) (by decide), fr 1304 (by decide) (by decide)]
      exact CM
    refine vG (o := 12) H2 H2.b rfl ?_
    refine m_law H2 M1 T1 bt1 bt2 eN bN4 (fun l' e' c' X3 h3 wd' H3 u c0 c5 c10 M3 lr w2 ew => ?_) (fun l' e' c' => absurd c' (by omega)) (fun y' e' => absurd (e.symm.trans e') (fun z => by cases z))
    have el : l' = l := by
      have z := e'.symm.trans e
      injection z
    subst el
    refine fin_v (P := fun h' => K (nI j + 6) h') H2 H3 Ls1.2.2.1 c0 (fun _ => g1) ?_
    have W2 := law_W W c lr (law_ok bt1 e) w2 ew
    have e6 : X3 6 = X1 6 := u.row (by decide) (by decide)
    refine k _ ⟨A, S, hb, X3, nr, _, _, wd', _, _, SS, B, 0, H3, Ls1, ⟨⟨by rw [e6]; exact x1, fun i hi => absurd hi (Nat.not_lt_zero _)⟩, ⟨c5, fun i hi => absurd hi (Nat.not_lt_zero _)⟩, ⟨Nat.zero_le _, fun i hi => absurd hi (Nat.not_lt_zero _)⟩, by rw [e6, c10]; exact x2, Lx.2.2.2.2.fr ?_ ?_ (fun id => ?_) (fun i hi => ?_) (fun i hi => va_ne (by omega))⟩, UX.cr (R1.wd (fun w hw => ?_)) u, M3, W2⟩
    · rw [u.n3, fr 12 (by decide) (by decide)]
    · rw [u.row (by decide) (by decide), fr 1302 (by decide) (by decide)]
    · have hn : id + 5000 ∉ rSL := fun z => by
        simp only [rSL, List.mem_cons, List.not_mem_nil, or_false] at z
        omega
      rw [u.row (by omega) (by omega), fr _ hn (by omega)]
    · refine propext ⟨fun z => z.elim (fun y => y.1) (fun y => absurd y (by omega)), fun z => Or.inl ⟨z, by omega⟩⟩
    · by_cases z : w = 2
      · rw [z, va_up_self, w2]
      · rw [va_ne z]
        exact ew w (by omega) z (by omega)
  · refine vG (o := 12) H2 H2.b rfl ?_
    refine m_law H2 (M_of o1) (T_of o1) bt1 bt2 eN bN4 (fun l' e' c' => absurd c' (by omega)) (fun l' e' c' X3 h3 H3 u c0 c5 c10 M3 => ?_) (fun y' e' => absurd (e.symm.trans e') (fun z => by cases z))
    refine fin_v (P := fun h' => K (nI j + 6) h') H2 H3 J c0 (fun z => absurd z (by decide)) ?_
    exact k _ (txt_I Ls Lx W H3 o1 u R1 M3 x1 c5 (x2.trans c10.symm))
  · refine vG (o := 12) H2 H2.b rfl ?_
    refine m_law H2 (M_of o1) (T_of o1) bt1 bt2 eN bN4 (fun l' e' => absurd (e.symm.trans e') (fun z => by cases z)) (fun l' e' => absurd (e.symm.trans e') (fun z => by cases z)) (fun y' e' X3 h3 H3 u c0 c5 c10 M3 => ?_)
    refine fin_v (P := fun h' => K (nI j + 6) h') H2 H3 J c0 (fun z => absurd z (by decide)) ?_
    have ey : y' = y := by
      have z := e'.symm.trans e
      injection z
    subst ey
    exact k _ (txt_I Ls Lx W H3 o1 u R1 M3 x1 c5 (x2.trans c10.symm))
theorem t_story (hI : LI a11 a12 a3 h) (hj : j + 6 ≤ L) (hL : L ≤ 3072) (k : ∀ h', LI a11 a12 a3 h' → K (nI j + 6) h') : w_L_law__2517 xs L K v0 a11 a12 a3 (nI j) h (fun r _ => r = 1) := by
  obtain ⟨A, S, h0, X, nr, V, E, wd, N, LL, SS, B, n, H, Ls, Lx, R, M, W⟩ := hI
  have O := W.1
  have J := Ls.2.2.1
  have q1 : A 11 = a11 := Ls.1
  have q2 : A 12 = a12 := Ls.2.1
  subst q1 q2
  dsimp only [w_L_law__2517, w_L_law__2570, w_L_law__2741]
  have hr := Ls.2.2.2.1
  have h9 := Ls.nr9
  obtain ⟨bt1, bt2⟩ := Lx.2.2.1
  have C := Lx.1
  have CM := Lx.2.1
  obtain ⟨ps, ss, qs, P0⟩ := Ls.2.2.2.2.1
  have st : ∀ id, id ∈ rSL → stR id = false := by decide
  have M_of : ∀ {X' : Nat → Nat → Int32}, Off rSL X X' → MR X' wd := fun o => by
    unfold MR
    rw [o 1301 (by decide)]
    exact M
  have T_of : ∀ {X' : Nat → Nat → Int32}, Off rSL X X' → TM X' B n := fun o => by
    unfold TM
    rw [o 12 (by decide), o 1304 (by decide)]
    exact CM
  have P1 := P0.sub (V' := fun i => V i ∧ i ≠ 4 + N 6) (fun i z => z.1)
  obtain ⟨eN, bN4⟩ := O.s
  refine xl_ (c := 1) (jx j 1) (by decide) hj hL ?_
  refine L_story H R J C bt1 bt2 P1 hr h9 eN bN4 (fun z => z.2 rfl) (fun t e v1 v2 c p s q X1 hb h2 H2 bf P2 f x1 x2 R1 g1 => ?_) (fun t e v1 v2 c X1 h2 H2 o1 x1 x2 R1 => ?_) (fun t e vb X1 h2 H2 o1 x1 x2 R1 => ?_) (fun y e X1 h2 H2 o1 x1 x2 R1 => ?_)
  · have k5 : gK h0 (A 807) = 24 := (H.1.2.1 807 ⟨by decide, H.b⟩).1
    have Ls1 := Ls.bg H (BG.bf bf k5) P2
    have fr : ∀ id, id ∉ rSL → id ≠ 7 → id ≠ 808 → X1 id = X id := fun id z1 z2 z3 => funext fun m => f id m z1 (fun z => z2 z.1) (fun z => z3 z.1)
    have M1 : MR X1 wd := by
      unfold MR
      rw [fr 1301 (by decide) (by decide) (by decide)]
      exact M
    have T1 : TM X1 B n := by
      unfold TM
      rw [fr 12 (by decide) (by decide) (by decide), fr 1304 (by decide) (by decide) (by decide)]
      exact CM
    refine xl_ (c := 1) (jx j 1) (by decide) hj hL ?_
    refine vG (o := 12) H2 H2.b rfl ?_
    refine m_story H2 M1 T1 bt1 bt2 eN bN4 (fun t' e' v1' v2' c' X3 h3 wd' H3 u c0 c5 c10 M3 sr wv w6 ew => ?_) (fun t' e' _ _ c' => absurd c' (by omega)) (fun t' e' vb => absurd vb (fun z => z.elim (Int32.not_lt.mpr v1) (Int32.not_lt.mpr v2))) (fun y' e' => absurd (e.symm.trans e') (fun z => by cases z))
    have el : t' = t := by
      have z := e'.symm.trans e
      injection z
    subst el
    refine fin_v (P := fun h' => K (nI j + 6) h') H2 H3 Ls1.2.2.1 c0 (fun _ => g1) ?_
    have W2 := story_W W c v1 v2 sr (story_ok bt1 e) wv w6 ew
    have e6 : X3 6 = X1 6 := u.row (by decide) (by decide)
    refine k _ ⟨A, S, hb, X3, nr, _, _, wd', _, LL, _, B, 0, H3, Ls1, ⟨⟨by rw [e6]; exact x1, fun i hi => absurd hi (Nat.not_lt_zero _)⟩, ⟨c5, fun i hi => absurd hi (Nat.not_lt_zero _)⟩, ⟨Nat.zero_le _, fun i hi => absurd hi (Nat.not_lt_zero _)⟩, by rw [e6, c10]; exact x2, Lx.2.2.2.2.fr ?_ ?_ (fun id => ?_) (fun i hi => ?_) (fun i hi => ?_)⟩, UX.cr (R1.wd (fun w hw => ?_)) u, M3, W2⟩
    · rw [u.n3, fr 12 (by decide) (by decide) (by decide)]
    · rw [u.row (by decide) (by decide), fr 1302 (by decide) (by decide) (by decide)]
    · have hn : id + 5000 ∉ rSL := fun z => by
        simp only [rSL, List.mem_cons, List.not_mem_nil, or_false] at z
        omega
      rw [u.row (by omega) (by omega), fr _ hn (by omega) (by omega)]
    · refine propext ⟨fun z => z.elim (fun y => y.1) (fun y => absurd y (by omega)), fun z => Or.inl ⟨z, by omega⟩⟩
    · exact va_ne (by omega)
    · by_cases z : w = 6
      · rw [z, va_up_self, w6]
      · rw [va_ne z]
        by_cases z2 : w = 1161 + N 6
        · rw [z2, va_up_self, wv]
        · rw [va_ne z2]
          exact ew w (by omega) z z2 (by omega)
  · refine xl_ (c := 1) (jx j 1) (by decide) hj hL ?_
    refine vG (o := 12) H2 H2.b rfl ?_
    refine m_story H2 (M_of o1) (T_of o1) bt1 bt2 eN bN4 (fun t' e' _ _ c' => absurd c' (by omega)) (fun t' e' _ _ c' X3 h3 H3 u c0 c5 c10 M3 => ?_) (fun t' e' vb => absurd vb (fun z => z.elim (Int32.not_lt.mpr v1) (Int32.not_lt.mpr v2))) (fun y' e' => absurd (e.symm.trans e') (fun z => by cases z))
    refine fin_v (P := fun h' => K (nI j + 6) h') H2 H3 J c0 (fun z => absurd z (by decide)) ?_
    exact k _ (txt_I Ls Lx W H3 o1 u R1 M3 x1 c5 (x2.trans c10.symm))
  · refine xl_ (c := 1) (jx j 1) (by decide) hj hL ?_
    refine vG (o := 12) H2 H2.b rfl ?_
    refine m_story H2 (M_of o1) (T_of o1) bt1 bt2 eN bN4 (fun t' e' v1 v2 c' => absurd vb (fun z => z.elim (Int32.not_lt.mpr v1) (Int32.not_lt.mpr v2))) (fun t' e' v1 v2 c' => absurd vb (fun z => z.elim (Int32.not_lt.mpr v1) (Int32.not_lt.mpr v2))) (fun t' e' _ X3 h3 H3 u c0 c5 c10 M3 => ?_) (fun y' e' => absurd (e.symm.trans e') (fun z => by cases z))
    refine fin_v (P := fun h' => K (nI j + 6) h') H2 H3 J c0 (fun z => absurd z (by decide)) ?_
    exact k _ (txt_I Ls Lx W H3 o1 u R1 M3 x1 c5 (x2.trans c10.symm))
  · refine xl_ (c := 1) (jx j 1) (by decide) hj hL ?_
    refine vG (o := 12) H2 H2.b rfl ?_
    refine m_story H2 (M_of o1) (T_of o1) bt1 bt2 eN bN4 (fun t' e' => absurd (e.symm.trans e') (fun z => by cases z)) (fun t' e' => absurd (e.symm.trans e') (fun z => by cases z)) (fun t' e' => absurd (e.symm.trans e') (fun z => by cases z)) (fun y' e' X3 h3 H3 u c0 c5 c10 M3 => ?_)
    refine fin_v (P := fun h' => K (nI j + 6) h') H2 H3 J c0 (fun z => absurd z (by decide)) ?_
    have ey : y' = y := by
      have z := e'.symm.trans e
      injection z
    subst ey
    exact k _ (txt_I Ls Lx W H3 o1 u R1 M3 x1 c5 (x2.trans c10.symm))
end TEXTS
