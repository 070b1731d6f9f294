/-! turns of the law: ordinary calls -/
section HI
variable {wd : Nat → Int32} {N : Nat → Nat}
theorem gun_hi (O : Ok wd N) {a b c d : Int32} {w : Nat} (hw : 1166 ≤ w) : gunW wd N a b c d w = wd w := by
  have hb := O.g.2
  unfold gunW
  by_cases e : gunC a b c d ∧ N 0 < 8
  · rw [cIf_t e]
    unfold addG
    rw [va_ne (by omega), va_ne (by omega), va_ne (by omega), va_ne (by omega), va_ne (by omega)]
  · rw [cIf_f e]
theorem teller_hi (O : Ok wd N) {a b c d : Int32} {w : Nat} (hw : 1166 ≤ w) : tellerW wd N a b c d w = wd w := by
  have hb := O.t.2
  unfold tellerW
  by_cases e : isN a 256 ∧ teC a b c d ∧ N 4 < 8
  · rw [cIf_t e]
    unfold addT
    rw [va_ne (by omega), va_ne (by omega), va_ne (by omega), va_ne (by omega), va_ne (by omega)]
  · rw [cIf_f e]
theorem tells_hi (O : Ok wd N) {a b c : Int32} {w : Nat} (hw : 1166 ≤ w) : tellsW wd N a b c w = wd w := by
  have hb := O.o.2
  unfold tellsW
  by_cases e : tsC N a b c
  · rw [cIf_t e]
    unfold addL
    rw [va_ne (by omega), va_ne (by omega), va_ne (by omega), va_ne (by omega)]
  · rw [cIf_f e]
theorem found_hi (O : Ok wd N) {a b c : Int32} {w : Nat} (hw : 1166 ≤ w) : foundW wd N a b c w = wd w := by
  have hb := O.f.2
  unfold foundW
  by_cases e : foC N a b c
  · rw [cIf_t e]
    unfold addF
    rw [va_ne (by omega), va_ne (by omega), va_ne (by omega), va_ne (by omega), va_ne (by omega), va_ne (by omega), va_ne (by omega)]
  · rw [cIf_f e]
theorem other_hi (O : Ok wd N) {a b c d : Int32} {w : Nat} (hw : 1166 ≤ w) : otherW wd N a b c d w = wd w := by
  have hb := O.f.2
  unfold otherW
  by_cases e : otC N a b c d
  · rw [cIf_t e]
    unfold addF
    rw [va_ne (by omega), va_ne (by omega), va_ne (by omega), va_ne (by omega), va_ne (by omega), va_ne (by omega), va_ne (by omega)]
  · rw [cIf_f e]
theorem person_hi (O : Ok wd N) {g c f l : Int32} {w : Nat} (hw : 1166 ≤ w) : personW wd N g c f l w = wd w := by
  have hb := O.p.2
  unfold personW
  by_cases e : peC wd N g c f l
  · rw [cIf_t e]
    unfold addP
    rw [va_ne (by omega), va_ne (by omega), va_ne (by omega), va_ne (by omega), va_ne (by omega), va_ne (by omega), va_ne (by omega)]
  · rw [cIf_f e]
theorem day_hi (O : Ok wd N) {y : Int32} {w : Nat} (hw : 1166 ≤ w) : dayW wd y w = wd w := by
  have hb := O.g.2
  unfold dayW
  by_cases e : inR y 1800 1999
  · rw [cIf_t e]
    rw [va_ne (by omega)]
  · rw [cIf_f e]
theorem machine_hi (O : Ok wd N) {a b : Int32} {w : Nat} (hw : 1166 ≤ w) : machineW wd a b w = wd w := by
  have hb := O.g.2
  unfold machineW
  by_cases e : maC a b
  · rw [cIf_t e]
    rw [va_ne (by omega), va_ne (by omega)]
  · rw [cIf_f e]
theorem walk_hi (O : Ok wd N) {r : Int32} {w : Nat} (hw : 1166 ≤ w) : walkW wd r w = wd w := by
  have hb := O.g.2
  unfold walkW
  by_cases e : isN r 16
  · rw [cIf_t e]
    unfold wkW
    rw [va_ne (by omega)]
  · rw [cIf_f e]
theorem when_hi (O : Ok wd N) {f a b : Int32} {w : Nat} (hw : 1166 ≤ w) : whenW wd N f a b w = wd w := by
  have hb := O.f.2
  unfold whenW
  by_cases e : whC wd N f a b
  · rw [cIf_t e]
    have := (isN_nt (by omega) e.1).2
    rw [va_ne (by omega), va_ne (by omega)]
  · rw [cIf_f e]
theorem ground_hi (O : Ok wd N) {a b t : Int32} {w : Nat} (hw : 1166 ≤ w) : groundW wd a b t w = wd w := by
  unfold groundW
  by_cases e : grC a b t
  · rw [cIf_t e]
    unfold gW
    rw [if_neg (by omega)]
  · rw [cIf_f e]
theorem gun_nn {a b c d : Int32} : gunN N a b c d 2 = N 2 ∧ gunN N a b c d 6 = N 6 := by
  unfold gunN
  by_cases e : gunC a b c d ∧ N 0 < 8
  · rw [cIf_t e]
    exact ⟨va_ne (by decide), va_ne (by decide)⟩
  · rw [cIf_f e]
    exact ⟨rfl, rfl⟩
theorem teller_nn {a b c d : Int32} : tellerN N a b c d 2 = N 2 ∧ tellerN N a b c d 6 = N 6 := by
  unfold tellerN
  by_cases e : isN a 256 ∧ teC a b c d ∧ N 4 < 8
  · rw [cIf_t e]
    exact ⟨va_ne (by decide), va_ne (by decide)⟩
  · rw [cIf_f e]
    exact ⟨rfl, rfl⟩
theorem tells_nn {a b c : Int32} : tellsN N a b c 2 = N 2 ∧ tellsN N a b c 6 = N 6 := by
  unfold tellsN
  by_cases e : tsC N a b c
  · rw [cIf_t e]
    exact ⟨va_ne (by decide), va_ne (by decide)⟩
  · rw [cIf_f e]
    exact ⟨rfl, rfl⟩
theorem found_nn {a b c : Int32} : foundN N a b c 2 = N 2 ∧ foundN N a b c 6 = N 6 := by
  unfold foundN
  by_cases e : foC N a b c
  · rw [cIf_t e]
    exact ⟨va_ne (by decide), va_ne (by decide)⟩
  · rw [cIf_f e]
    exact ⟨rfl, rfl⟩
theorem other_nn {a b c d : Int32} : otherN N a b c d 2 = N 2 ∧ otherN N a b c d 6 = N 6 := by
  unfold otherN
  by_cases e : otC N a b c d
  · rw [cIf_t e]
    exact ⟨va_ne (by decide), va_ne (by decide)⟩
  · rw [cIf_f e]
    exact ⟨rfl, rfl⟩
theorem person_nn {g c f l : Int32} : personN wd N g c f l 2 = N 2 ∧ personN wd N g c f l 6 = N 6 := by
  unfold personN
  by_cases e : peC wd N g c f l
  · rw [cIf_t e]
    exact ⟨va_ne (by decide), va_ne (by decide)⟩
  · rw [cIf_f e]
    exact ⟨rfl, rfl⟩
theorem machine_nn {a b : Int32} : machineN N a b 2 = N 2 ∧ machineN N a b 6 = N 6 := by
  unfold machineN
  by_cases e : maC a b
  · rw [cIf_t e]
    exact ⟨(va_ne (by decide)).trans (va_ne (by decide)), (va_ne (by decide)).trans (va_ne (by decide))⟩
  · rw [cIf_f e]
    exact ⟨rfl, rfl⟩
theorem walk_nn {r : Int32} : walkN N r 2 = N 2 ∧ walkN N r 6 = N 6 := by
  unfold walkN
  by_cases e : isN r 16
  · rw [cIf_t e]
    exact ⟨va_ne (by decide), va_ne (by decide)⟩
  · rw [cIf_f e]
    exact ⟨rfl, rfl⟩
end HI
theorem jx (j c : Nat) : nI j + OfNat.ofNat c = nI (j + c) := by rw [ix0, nI_add]
theorem cIf_01 {c : Prop} {b : Bool} : (cIf c ((0 : Int32), bI b) (1, 0)).1 = 0 → (cIf c ((0 : Int32), bI b) (1, 0)).2 = 0 ∨ (cIf c ((0 : Int32), bI b) (1, 0)).2 = 1 := by
  by_cases e : c
  · rw [cIf_t e]
    exact fun _ => bI_or
  · rw [cIf_f e]
    exact fun z => absurd z (by decide)
section TURNS
variable {xs : Nat → Int32} {L j v0 a11 a12 a3 : Nat} {h : AH} {K : Int32 → AH → Prop}
theorem t_height (hI : LI a11 a12 a3 h) (hj : j + 6 ≤ L) (hL : L ≤ 3072) (k : ∀ h', LI a11 a12 a3 h' → K (nI j + 6) h') : w_L_law__378 xs L K v0 a11 a12 a3 (nI j) h (fun r _ => r = 1) := by
  obtain ⟨A, S, h0, X, nr, V, E, wd, N, LL, SS, B, n, H, Ls, Lx, R, M, W⟩ := hI
  have O := W.1
  have J := Ls.2.2.1
  have q1 : A 11 = a11 := Ls.1
  have q2 : A 12 = a12 := Ls.2.1
  subst q1 q2
  have kf := k
  dsimp only [w_L_law__378, w_L_law__431, w_L_law__2741]
  refine xl_ (c := 1) (jx j 1) (by decide) hj hL ?_
  refine L_height H R J (fun h1 X1 h2 H2 j1 o1 g1 => ?_)
  refine xl_ (c := 1) (jx j 1) (by decide) hj hL ?_
  refine vG (o := 12) H2 H2.b rfl ?_
  have Ls1 := Ls.hj H j1
  have M1 := M.cf (CQ.oc o1)
  refine m_height_ H2 M1 (fun X3 h3 H3 o3 t3 => ?_)
  refine fin_v (P := fun h' => K (nI j + 6) h') H2 H3 Ls1.2.2.1 t3 g1 ?_
  exact k _ (LI.of Lx H3 Ls1 (CQ.oc o1) (OW.of o3) (R.oc o1) (M1.ot o3) W)
theorem t_sees (hI : LI a11 a12 a3 h) (hj : j + 6 ≤ L) (hL : L ≤ 3072) (k : ∀ h', LI a11 a12 a3 h' → K (nI j + 6) h') : w_L_law__434 xs L K v0 a11 a12 a3 (nI j) h (fun r _ => r = 1) := by
  obtain ⟨A, S, h0, X, nr, V, E, wd, N, LL, SS, B, n, H, Ls, Lx, R, M, W⟩ := hI
  have O := W.1
  have J := Ls.2.2.1
  have q1 : A 11 = a11 := Ls.1
  have q2 : A 12 = a12 := Ls.2.1
  subst q1 q2
  have kf := k
  dsimp only [w_L_law__434, w_L_law__500, w_L_law__506, w_L_law__2741]
  refine xl_ (c := 1) (jx j 1) (by decide) hj hL ?_
  refine xl_ (c := 2) (jx j 2) (by decide) hj hL ?_
  refine L_sees H R J (fun h1 X1 h2 H2 j1 o1 g1 => ?_)
  refine xl_ (c := 1) (jx j 1) (by decide) hj hL ?_
  refine xl_ (c := 2) (jx j 2) (by decide) hj hL ?_
  refine vG (o := 12) H2 H2.b rfl ?_
  have Ls1 := Ls.hj H j1
  have M1 := M.cf (CQ.oc o1)
  refine m_sees_ H2 M1 (fun X3 h3 H3 o3 t3 => ?_)
  refine fin_b (P := fun h' => K (nI j + 6) h') (T := fun x y h' => br (lg_cmp x y = 0) (K (nI j + 6) h') ((0 : Int32) = 1)) H2 H3 Ls1.2.2.1 t3 g1 cIf_01 (fun x h p => br_T (lg_same x) p) ?_
  exact k _ (LI.of Lx H3 Ls1 (CQ.oc o1) (OW.of o3) (R.oc o1) (M1.ot o3) W)
theorem t_gun (hI : LI a11 a12 a3 h) (hj : j + 6 ≤ L) (hL : L ≤ 3072) (k : ∀ h', LI a11 a12 a3 h' → K (nI j + 6) h') : w_L_law__509 xs L K v0 a11 a12 a3 (nI j) h (fun r _ => r = 1) := by
  obtain ⟨A, S, h0, X, nr, V, E, wd, N, LL, SS, B, n, H, Ls, Lx, R, M, W⟩ := hI
  have O := W.1
  have J := Ls.2.2.1
  have q1 : A 11 = a11 := Ls.1
  have q2 : A 12 = a12 := Ls.2.1
  subst q1 q2
  have kf := k
  dsimp only [w_L_law__509, w_L_law__598, w_L_law__2741]
  refine xl_ (c := 1) (jx j 1) (by decide) hj hL ?_
  refine xl_ (c := 2) (jx j 2) (by decide) hj hL ?_
  refine xl_ (c := 3) (jx j 3) (by decide) hj hL ?_
  refine xl_ (c := 4) (jx j 4) (by decide) hj hL ?_
  refine L_gun H R O J (fun h1 X1 h2 H2 j1 o1 R1 g1 => ?_)
  refine xl_ (c := 1) (jx j 1) (by decide) hj hL ?_
  refine xl_ (c := 2) (jx j 2) (by decide) hj hL ?_
  refine xl_ (c := 3) (jx j 3) (by decide) hj hL ?_
  refine xl_ (c := 4) (jx j 4) (by decide) hj hL ?_
  refine vG (o := 12) H2 H2.b rfl ?_
  have Ls1 := Ls.hj H j1
  have M1 := M.cf (CQ.sc o1)
  refine m_gun_ H2 M1 O (fun X3 h3 H3 o3 M3 t3 => ?_)
  refine fin_v (P := fun h' => K (nI j + 6) h') H2 H3 Ls1.2.2.1 t3 g1 ?_
  exact k _ (LI.of Lx H3 Ls1 (CQ.sc o1) o3 R1 M3 (W.co (gun_ok O) gun_nn.1 gun_nn.2 (fun w hw => gun_hi O hw)))
theorem t_found (hI : LI a11 a12 a3 h) (hj : j + 6 ≤ L) (hL : L ≤ 3072) (k : ∀ h', LI a11 a12 a3 h' → K (nI j + 6) h') : w_L_law__933 xs L K v0 a11 a12 a3 (nI j) h (fun r _ => r = 1) := by
  obtain ⟨A, S, h0, X, nr, V, E, wd, N, LL, SS, B, n, H, Ls, Lx, R, M, W⟩ := hI
  have O := W.1
  have J := Ls.2.2.1
  have q1 : A 11 = a11 := Ls.1
  have q2 : A 12 = a12 := Ls.2.1
  subst q1 q2
  have kf := k
  dsimp only [w_L_law__933, w_L_law__1010, w_L_law__2741]
  refine xl_ (c := 1) (jx j 1) (by decide) hj hL ?_
  refine xl_ (c := 2) (jx j 2) (by decide) hj hL ?_
  refine xl_ (c := 3) (jx j 3) (by decide) hj hL ?_
  refine L_found H R O J (fun h1 X1 h2 H2 j1 o1 R1 g1 => ?_)
  refine xl_ (c := 1) (jx j 1) (by decide) hj hL ?_
  refine xl_ (c := 2) (jx j 2) (by decide) hj hL ?_
  refine xl_ (c := 3) (jx j 3) (by decide) hj hL ?_
  refine vG (o := 12) H2 H2.b rfl ?_
  have Ls1 := Ls.hj H j1
  have M1 := M.cf (CQ.sc o1)
  refine m_found_ H2 M1 O (fun X3 h3 H3 o3 M3 t3 => ?_)
  refine fin_v (P := fun h' => K (nI j + 6) h') H2 H3 Ls1.2.2.1 t3 g1 ?_
  exact k _ (LI.of Lx H3 Ls1 (CQ.sc o1) o3 R1 M3 (W.co (found_ok O) found_nn.1 found_nn.2 (fun w hw => found_hi O hw)))
theorem t_person (hI : LI a11 a12 a3 h) (hj : j + 6 ≤ L) (hL : L ≤ 3072) (k : ∀ h', LI a11 a12 a3 h' → K (nI j + 6) h') : w_L_law__694 xs L K v0 a11 a12 a3 (nI j) h (fun r _ => r = 1) := by
  obtain ⟨A, S, h0, X, nr, V, E, wd, N, LL, SS, B, n, H, Ls, Lx, R, M, W⟩ := hI
  have O := W.1
  have J := Ls.2.2.1
  have q1 : A 11 = a11 := Ls.1
  have q2 : A 12 = a12 := Ls.2.1
  subst q1 q2
  have kf := k
  dsimp only [w_L_law__694, w_L_law__783, w_L_law__2741]
  refine xl_ (c := 1) (jx j 1) (by decide) hj hL ?_
  refine xl_ (c := 2) (jx j 2) (by decide) hj hL ?_
  refine xl_ (c := 3) (jx j 3) (by decide) hj hL ?_
  refine xl_ (c := 4) (jx j 4) (by decide) hj hL ?_
  refine L_person H R O J (fun h1 X1 h2 H2 j1 o1 R1 g1 => ?_)
  refine xl_ (c := 1) (jx j 1) (by decide) hj hL ?_
  refine xl_ (c := 2) (jx j 2) (by decide) hj hL ?_
  refine xl_ (c := 3) (jx j 3) (by decide) hj hL ?_
  refine xl_ (c := 4) (jx j 4) (by decide) hj hL ?_
  refine vG (o := 12) H2 H2.b rfl ?_
  have Ls1 := Ls.hj H j1
  have M1 := M.cf (CQ.sc o1)
  refine m_person_ H2 M1 O (fun X3 h3 H3 o3 M3 t3 => ?_)
  refine fin_v (P := fun h' => K (nI j + 6) h') H2 H3 Ls1.2.2.1 t3 g1 ?_
  exact k _ (LI.of Lx H3 Ls1 (CQ.sc o1) o3 R1 M3 (W.co (person_ok O) person_nn.1 person_nn.2 (fun w hw => person_hi O hw)))
theorem t_tells (hI : LI a11 a12 a3 h) (hj : j + 6 ≤ L) (hL : L ≤ 3072) (k : ∀ h', LI a11 a12 a3 h' → K (nI j + 6) h') : w_L_law__2082 xs L K v0 a11 a12 a3 (nI j) h (fun r _ => r = 1) := by
  obtain ⟨A, S, h0, X, nr, V, E, wd, N, LL, SS, B, n, H, Ls, Lx, R, M, W⟩ := hI
  have O := W.1
  have J := Ls.2.2.1
  have q1 : A 11 = a11 := Ls.1
  have q2 : A 12 = a12 := Ls.2.1
  subst q1 q2
  have kf := k
  dsimp only [w_L_law__2082, w_L_law__2159, w_L_law__2741]
  refine xl_ (c := 1) (jx j 1) (by decide) hj hL ?_
  refine xl_ (c := 2) (jx j 2) (by decide) hj hL ?_
  refine xl_ (c := 3) (jx j 3) (by decide) hj hL ?_
  refine L_tells H R O J (fun h1 X1 h2 H2 j1 o1 R1 g1 => ?_)
  refine xl_ (c := 1) (jx j 1) (by decide) hj hL ?_
  refine xl_ (c := 2) (jx j 2) (by decide) hj hL ?_
  refine xl_ (c := 3) (jx j 3) (by decide) hj hL ?_
  refine vG (o := 12) H2 H2.b rfl ?_
  have Ls1 := Ls.hj H j1
  have M1 := M.cf (CQ.sc o1)
  refine m_tells_ H2 M1 O (fun X3 h3 H3 o3 M3 t3 => ?_)
  refine fin_v (P := fun h' => K (nI j + 6) h') H2 H3 Ls1.2.2.1 t3 g1 ?_
  exact k _ (LI.of Lx H3 Ls1 (CQ.sc o1) o3 R1 M3 (W.co (tells_ok O) tells_nn.1 tells_nn.2 (fun w hw => tells_hi O hw)))
theorem t_other (hI : LI a11 a12 a3 h) (hj : j + 6 ≤ L) (hL : L ≤ 3072) (k : ∀ h', LI a11 a12 a3 h' → K (nI j + 6) h') : w_L_law__1013 xs L K v0 a11 a12 a3 (nI j) h (fun r _ => r = 1) := by
  obtain ⟨A, S, h0, X, nr, V, E, wd, N, LL, SS, B, n, H, Ls, Lx, R, M, W⟩ := hI
  have O := W.1
  have J := Ls.2.2.1
  have q1 : A 11 = a11 := Ls.1
  have q2 : A 12 = a12 := Ls.2.1
  subst q1 q2
  have kf := k
  dsimp only [w_L_law__1013, w_L_law__1102, w_L_law__2741]
  refine xl_ (c := 1) (jx j 1) (by decide) hj hL ?_
  refine xl_ (c := 2) (jx j 2) (by decide) hj hL ?_
  refine xl_ (c := 3) (jx j 3) (by decide) hj hL ?_
  refine xl_ (c := 4) (jx j 4) (by decide) hj hL ?_
  refine L_other H R O J (fun h1 X1 h2 H2 j1 o1 R1 g1 => ?_)
  refine xl_ (c := 1) (jx j 1) (by decide) hj hL ?_
  refine xl_ (c := 2) (jx j 2) (by decide) hj hL ?_
  refine xl_ (c := 3) (jx j 3) (by decide) hj hL ?_
  refine xl_ (c := 4) (jx j 4) (by decide) hj hL ?_
  refine vG (o := 12) H2 H2.b rfl ?_
  have Ls1 := Ls.hj H j1
  have M1 := M.cf (CQ.sc o1)
  refine m_other_ H2 M1 O (fun X3 h3 H3 o3 M3 t3 => ?_)
  refine fin_v (P := fun h' => K (nI j + 6) h') H2 H3 Ls1.2.2.1 t3 g1 ?_
  exact k _ (LI.of Lx H3 Ls1 (CQ.sc o1) o3 R1 M3 (W.co (other_ok O) other_nn.1 other_nn.2 (fun w hw => other_hi O hw)))
theorem t_about (hI : LI a11 a12 a3 h) (hj : j + 6 ≤ L) (hL : L ≤ 3072) (k : ∀ h', LI a11 a12 a3 h' → K (nI j + 6) h') : w_L_law__1105 xs L K v0 a11 a12 a3 (nI j) h (fun r _ => r = 1) := by
  obtain ⟨A, S, h0, X, nr, V, E, wd, N, LL, SS, B, n, H, Ls, Lx, R, M, W⟩ := hI
  have O := W.1
  have J := Ls.2.2.1
  have q1 : A 11 = a11 := Ls.1
  have q2 : A 12 = a12 := Ls.2.1
  subst q1 q2
  have kf := k
  dsimp only [w_L_law__1105, w_L_law__1170, w_L_law__2741]
  refine xl_ (c := 1) (jx j 1) (by decide) hj hL ?_
  refine xl_ (c := 2) (jx j 2) (by decide) hj hL ?_
  refine L_about H R O J (fun h1 X1 h2 H2 j1 o1 g1 => ?_)
  refine xl_ (c := 1) (jx j 1) (by decide) hj hL ?_
  refine xl_ (c := 2) (jx j 2) (by decide) hj hL ?_
  refine vG (o := 12) H2 H2.b rfl ?_
  have Ls1 := Ls.hj H j1
  have M1 := M.cf (CQ.oc o1)
  refine m_about_ H2 M1 O (fun X3 h3 H3 o3 t3 => ?_)
  refine fin_v (P := fun h' => K (nI j + 6) h') H2 H3 Ls1.2.2.1 t3 g1 ?_
  exact k _ (LI.of Lx H3 Ls1 (CQ.oc o1) (OW.of o3) (R.oc o1) (M1.ot o3) W)
theorem t_walk (hI : LI a11 a12 a3 h) (hj : j + 6 ≤ L) (hL : L ≤ 3072) (k : ∀ h', LI a11 a12 a3 h' → K (nI j + 6) h') : w_L_law__1281 xs L K v0 a11 a12 a3 (nI j) h (fun r _ => r = 1) := by
  obtain ⟨A, S, h0, X, nr, V, E, wd, N, LL, SS, B, n, H, Ls, Lx, R, M, W⟩ := hI
  have O := W.1
  have J := Ls.2.2.1
  have q1 : A 11 = a11 := Ls.1
  have q2 : A 12 = a12 := Ls.2.1
  subst q1 q2
  have kf := k
  dsimp only [w_L_law__1281, w_L_law__1334, w_L_law__2741]
  refine xl_ (c := 1) (jx j 1) (by decide) hj hL ?_
  refine L_walk H R O J (fun h1 X1 h2 H2 j1 o1 R1 g1 => ?_)
  refine xl_ (c := 1) (jx j 1) (by decide) hj hL ?_
  refine vG (o := 12) H2 H2.b rfl ?_
  have Ls1 := Ls.hj H j1
  have M1 := M.cf (CQ.sc o1)
  refine m_walk_ H2 M1 O (fun X3 h3 H3 o3 M3 t3 => ?_)
  refine fin_v (P := fun h' => K (nI j + 6) h') H2 H3 Ls1.2.2.1 t3 g1 ?_
  exact k _ (LI.of Lx H3 Ls1 (CQ.sc o1) o3 R1 M3 (W.co (walk_ok O) walk_nn.1 walk_nn.2 (fun w hw => walk_hi O hw)))
theorem t_needed (hI : LI a11 a12 a3 h) (hj : j + 6 ≤ L) (hL : L ≤ 3072) (k : ∀ h', LI a11 a12 a3 h' → K (nI j + 6) h') : w_L_law__1350 xs L K v0 a11 a12 a3 (nI j) h (fun r _ => r = 1) := by
  obtain ⟨A, S, h0, X, nr, V, E, wd, N, LL, SS, B, n, H, Ls, Lx, R, M, W⟩ := hI
  have O := W.1
  have J := Ls.2.2.1
  have q1 : A 11 = a11 := Ls.1
  have q2 : A 12 = a12 := Ls.2.1
  subst q1 q2
  have kf := k
  dsimp only [w_L_law__1350, w_L_law__1415, w_L_law__2741]
  refine xl_ (c := 1) (jx j 1) (by decide) hj hL ?_
  refine xl_ (c := 2) (jx j 2) (by decide) hj hL ?_
  refine L_needed H R O J (fun h1 X1 h2 H2 j1 o1 g1 => ?_)
  refine xl_ (c := 1) (jx j 1) (by decide) hj hL ?_
  refine xl_ (c := 2) (jx j 2) (by decide) hj hL ?_
  refine vG (o := 12) H2 H2.b rfl ?_
  have Ls1 := Ls.hj H j1
  have M1 := M.cf (CQ.oc o1)
  refine m_needed_ H2 M1 O (fun X3 h3 H3 o3 t3 => ?_)
  refine fin_v (P := fun h' => K (nI j + 6) h') H2 H3 Ls1.2.2.1 t3 g1 ?_
  exact k _ (LI.of Lx H3 Ls1 (CQ.oc o1) (OW.of o3) (R.oc o1) (M1.ot o3) W)
theorem t_same (hI : LI a11 a12 a3 h) (hj : j + 6 ≤ L) (hL : L ≤ 3072) (k : ∀ h', LI a11 a12 a3 h' → K (nI j + 6) h') : w_L_law__1418 xs L K v0 a11 a12 a3 (nI j) h (fun r _ => r = 1) := by
  obtain ⟨A, S, h0, X, nr, V, E, wd, N, LL, SS, B, n, H, Ls, Lx, R, M, W⟩ := hI
  have O := W.1
  have J := Ls.2.2.1
  have q1 : A 11 = a11 := Ls.1
  have q2 : A 12 = a12 := Ls.2.1
  subst q1 q2
  have kf := k
  dsimp only [w_L_law__1418, w_L_law__1495, w_L_law__2741]
  refine xl_ (c := 1) (jx j 1) (by decide) hj hL ?_
  refine xl_ (c := 2) (jx j 2) (by decide) hj hL ?_
  refine xl_ (c := 3) (jx j 3) (by decide) hj hL ?_
  refine L_same H R O J (fun h1 X1 h2 H2 j1 o1 g1 => ?_)
  refine xl_ (c := 1) (jx j 1) (by decide) hj hL ?_
  refine xl_ (c := 2) (jx j 2) (by decide) hj hL ?_
  refine xl_ (c := 3) (jx j 3) (by decide) hj hL ?_
  refine vG (o := 12) H2 H2.b rfl ?_
  have Ls1 := Ls.hj H j1
  have M1 := M.cf (CQ.oc o1)
  refine m_same_ H2 M1 O (fun X3 h3 H3 o3 t3 => ?_)
  refine fin_v (P := fun h' => K (nI j + 6) h') H2 H3 Ls1.2.2.1 t3 g1 ?_
  exact k _ (LI.of Lx H3 Ls1 (CQ.oc o1) (OW.of o3) (R.oc o1) (M1.ot o3) W)
theorem t_later (hI : LI a11 a12 a3 h) (hj : j + 6 ≤ L) (hL : L ≤ 3072) (k : ∀ h', LI a11 a12 a3 h' → K (nI j + 6) h') : w_L_law__1498 xs L K v0 a11 a12 a3 (nI j) h (fun r _ => r = 1) := by
  obtain ⟨A, S, h0, X, nr, V, E, wd, N, LL, SS, B, n, H, Ls, Lx, R, M, W⟩ := hI
  have O := W.1
  have J := Ls.2.2.1
  have q1 : A 11 = a11 := Ls.1
  have q2 : A 12 = a12 := Ls.2.1
  subst q1 q2
  have kf := k
  dsimp only [w_L_law__1498, w_L_law__1551, w_L_law__2741]
  refine xl_ (c := 1) (jx j 1) (by decide) hj hL ?_
  refine L_later H R O J (fun h1 X1 h2 H2 j1 o1 g1 => ?_)
  refine xl_ (c := 1) (jx j 1) (by decide) hj hL ?_
  refine vG (o := 12) H2 H2.b rfl ?_
  have Ls1 := Ls.hj H j1
  have M1 := M.cf (CQ.oc o1)
  refine m_later_ H2 M1 O (fun X3 h3 H3 o3 t3 => ?_)
  refine fin_v (P := fun h' => K (nI j + 6) h') H2 H3 Ls1.2.2.1 t3 g1 ?_
  exact k _ (LI.of Lx H3 Ls1 (CQ.oc o1) (OW.of o3) (R.oc o1) (M1.ot o3) W)
theorem t_held (hI : LI a11 a12 a3 h) (hj : j + 6 ≤ L) (hL : L ≤ 3072) (k : ∀ h', LI a11 a12 a3 h' → K (nI j + 6) h') : w_L_law__1622 xs L K v0 a11 a12 a3 (nI j) h (fun r _ => r = 1) := by
  obtain ⟨A, S, h0, X, nr, V, E, wd, N, LL, SS, B, n, H, Ls, Lx, R, M, W⟩ := hI
  have O := W.1
  have J := Ls.2.2.1
  have q1 : A 11 = a11 := Ls.1
  have q2 : A 12 = a12 := Ls.2.1
  subst q1 q2
  have kf := k
  dsimp only [w_L_law__1622, w_L_law__1655, w_L_law__1694, w_L_law__1727, w_L_law__2741]
  refine xl_ (c := 1) (jx j 1) (by decide) hj hL ?_
  refine xl_ (c := 2) (jx j 2) (by decide) hj hL ?_
  refine xl_ (c := 3) (jx j 3) (by decide) hj hL ?_
  refine xl_ (c := 4) (jx j 4) (by decide) hj hL ?_
  refine br_if (fun c => ?_) (fun c => ?_)
  · clear kf
    refine L_held (b := false) H R O J (fun h1 X1 h2 H2 j1 o1 g1 => ?_)
    refine xl_ (c := 1) (jx j 1) (by decide) hj hL ?_
    refine xl_ (c := 2) (jx j 2) (by decide) hj hL ?_
    refine xl_ (c := 3) (jx j 3) (by decide) hj hL ?_
    refine xl_ (c := 4) (jx j 4) (by decide) hj hL ?_
    refine br_T c ?_
    refine vG (o := 12) H2 H2.b rfl ?_
    have Ls1 := Ls.hj H j1
    have M1 := M.cf (CQ.oc o1)
    refine m_held_ (b := false) H2 M1 O (fun X3 h3 H3 o3 t3 => ?_)
    refine fin_v (P := fun h' => K (nI j + 6) h') H2 H3 Ls1.2.2.1 t3 g1 ?_
    exact k _ (LI.of Lx H3 Ls1 (CQ.oc o1) (OW.of o3) (R.oc o1) (M1.ot o3) W)
  · clear kf
    refine L_held (b := true) H R O J (fun h1 X1 h2 H2 j1 o1 g1 => ?_)
    refine xl_ (c := 1) (jx j 1) (by decide) hj hL ?_
    refine xl_ (c := 2) (jx j 2) (by decide) hj hL ?_
    refine xl_ (c := 3) (jx j 3) (by decide) hj hL ?_
    refine xl_ (c := 4) (jx j 4) (by decide) hj hL ?_
    refine br_F c ?_
    refine vG (o := 12) H2 H2.b rfl ?_
    have Ls1 := Ls.hj H j1
    have M1 := M.cf (CQ.oc o1)
    refine m_held_ (b := true) H2 M1 O (fun X3 h3 H3 o3 t3 => ?_)
    refine fin_v (P := fun h' => K (nI j + 6) h') H2 H3 Ls1.2.2.1 t3 g1 ?_
    exact k _ (LI.of Lx H3 Ls1 (CQ.oc o1) (OW.of o3) (R.oc o1) (M1.ot o3) W)
theorem t_heaps (hI : LI a11 a12 a3 h) (hj : j + 6 ≤ L) (hL : L ≤ 3072) (k : ∀ h', LI a11 a12 a3 h' → K (nI j + 6) h') : w_L_law__1730 xs L K v0 a11 a12 a3 (nI j) h (fun r _ => r = 1) := by
  obtain ⟨A, S, h0, X, nr, V, E, wd, N, LL, SS, B, n, H, Ls, Lx, R, M, W⟩ := hI
  have O := W.1
  have J := Ls.2.2.1
  have q1 : A 11 = a11 := Ls.1
  have q2 : A 12 = a12 := Ls.2.1
  subst q1 q2
  have kf := k
  dsimp only [w_L_law__1730, w_L_law__1751, w_L_law__1778, w_L_law__1811, w_L_law__2741]
  refine xl_ (c := 1) (jx j 1) (by decide) hj hL ?_
  refine xl_ (c := 2) (jx j 2) (by decide) hj hL ?_
  refine br_if (fun c => ?_) (fun c => ?_)
  · clear kf
    refine L_heaps (b := false) H R O J (fun h1 X1 h2 H2 j1 o1 g1 => ?_)
    refine xl_ (c := 1) (jx j 1) (by decide) hj hL ?_
    refine xl_ (c := 2) (jx j 2) (by decide) hj hL ?_
    refine br_T c ?_
    refine vG (o := 12) H2 H2.b rfl ?_
    have Ls1 := Ls.hj H j1
    have M1 := M.cf (CQ.oc o1)
    refine m_heaps_ (b := false) H2 M1 O (fun X3 h3 H3 o3 t3 => ?_)
    refine fin_v (P := fun h' => K (nI j + 6) h') H2 H3 Ls1.2.2.1 t3 g1 ?_
    exact k _ (LI.of Lx H3 Ls1 (CQ.oc o1) (OW.of o3) (R.oc o1) (M1.ot o3) W)
  · clear kf
    refine L_heaps (b := true) H R O J (fun h1 X1 h2 H2 j1 o1 g1 => ?_)
    refine xl_ (c := 1) (jx j 1) (by decide) hj hL ?_
    refine xl_ (c := 2) (jx j 2) (by decide) hj hL ?_
    refine br_F c ?_
    refine vG (o := 12) H2 H2.b rfl ?_
    have Ls1 := Ls.hj H j1
    have M1 := M.cf (CQ.oc o1)
    refine m_heaps_ (b := true) H2 M1 O (fun X3 h3 H3 o3 t3 => ?_)
    refine fin_v (P := fun h' => K (nI j + 6) h') H2 H3 Ls1.2.2.1 t3 g1 ?_
    exact k _ (LI.of Lx H3 Ls1 (CQ.oc o1) (OW.of o3) (R.oc o1) (M1.ot o3) W)
theorem t_length (hI : LI a11 a12 a3 h) (hj : j + 6 ≤ L) (hL : L ≤ 3072) (k : ∀ h', LI a11 a12 a3 h' → K (nI j + 6) h') : w_L_law__1814 xs L K v0 a11 a12 a3 (nI j) h (fun r _ => r = 1) := by
  obtain ⟨A, S, h0, X, nr, V, E, wd, N, LL, SS, B, n, H, Ls, Lx, R, M, W⟩ := hI
  have O := W.1
  have J := Ls.2.2.1
  have q1 : A 11 = a11 := Ls.1
  have q2 : A 12 = a12 := Ls.2.1
  subst q1 q2
  have kf := k
  dsimp only [w_L_law__1814, w_L_law__1847, w_L_law__1886, w_L_law__1919, w_L_law__2741]
  refine xl_ (c := 1) (jx j 1) (by decide) hj hL ?_
  refine xl_ (c := 2) (jx j 2) (by decide) hj hL ?_
  refine xl_ (c := 3) (jx j 3) (by decide) hj hL ?_
  refine xl_ (c := 4) (jx j 4) (by decide) hj hL ?_
  refine br_if (fun c => ?_) (fun c => ?_)
  · clear kf
    refine L_length (b := false) H R O J (fun h1 X1 h2 H2 j1 o1 g1 => ?_)
    refine xl_ (c := 1) (jx j 1) (by decide) hj hL ?_
    refine xl_ (c := 2) (jx j 2) (by decide) hj hL ?_
    refine xl_ (c := 3) (jx j 3) (by decide) hj hL ?_
    refine xl_ (c := 4) (jx j 4) (by decide) hj hL ?_
    refine br_T c ?_
    refine vG (o := 12) H2 H2.b rfl ?_
    have Ls1 := Ls.hj H j1
    have M1 := M.cf (CQ.oc o1)
    refine m_length_ (b := false) H2 M1 O (fun X3 h3 H3 o3 t3 => ?_)
    refine fin_v (P := fun h' => K (nI j + 6) h') H2 H3 Ls1.2.2.1 t3 g1 ?_
    exact k _ (LI.of Lx H3 Ls1 (CQ.oc o1) (OW.of o3) (R.oc o1) (M1.ot o3) W)
  · clear kf
    refine L_length (b := true) H R O J (fun h1 X1 h2 H2 j1 o1 g1 => ?_)
    refine xl_ (c := 1) (jx j 1) (by decide) hj hL ?_
    refine xl_ (c := 2) (jx j 2) (by decide) hj hL ?_
    refine xl_ (c := 3) (jx j 3) (by decide) hj hL ?_
    refine xl_ (c := 4) (jx j 4) (by decide) hj hL ?_
    refine br_F c ?_
    refine vG (o := 12) H2 H2.b rfl ?_
    have Ls1 := Ls.hj H j1
    have M1 := M.cf (CQ.oc o1)
    refine m_length_ (b := true) H2 M1 O (fun X3 h3 H3 o3 t3 => ?_)
    refine fin_v (P := fun h' => K (nI j + 6) h') H2 H3 Ls1.2.2.1 t3 g1 ?_
    exact k _ (LI.of Lx H3 Ls1 (CQ.oc o1) (OW.of o3) (R.oc o1) (M1.ot o3) W)
theorem t_still (hI : LI a11 a12 a3 h) (hj : j + 6 ≤ L) (hL : L ≤ 3072) (k : ∀ h', LI a11 a12 a3 h' → K (nI j + 6) h') : w_L_law__1922 xs L K v0 a11 a12 a3 (nI j) h (fun r _ => r = 1) := by
  obtain ⟨A, S, h0, X, nr, V, E, wd, N, LL, SS, B, n, H, Ls, Lx, R, M, W⟩ := hI
  have O := W.1
  have J := Ls.2.2.1
  have q1 : A 11 = a11 := Ls.1
  have q2 : A 12 = a12 := Ls.2.1
  subst q1 q2
  have kf := k
  dsimp only [w_L_law__1922, w_L_law__1987, w_L_law__2741]
  refine xl_ (c := 1) (jx j 1) (by decide) hj hL ?_
  refine xl_ (c := 2) (jx j 2) (by decide) hj hL ?_
  refine L_still H R O J (fun h1 X1 h2 H2 j1 o1 g1 => ?_)
  refine xl_ (c := 1) (jx j 1) (by decide) hj hL ?_
  refine xl_ (c := 2) (jx j 2) (by decide) hj hL ?_
  refine vG (o := 12) H2 H2.b rfl ?_
  have Ls1 := Ls.hj H j1
  have M1 := M.cf (CQ.oc o1)
  refine m_still_ H2 M1 O (fun X3 h3 H3 o3 t3 => ?_)
  refine fin_v (P := fun h' => K (nI j + 6) h') H2 H3 Ls1.2.2.1 t3 g1 ?_
  exact k _ (LI.of Lx H3 Ls1 (CQ.oc o1) (OW.of o3) (R.oc o1) (M1.ot o3) W)
theorem t_teller (hI : LI a11 a12 a3 h) (hj : j + 6 ≤ L) (hL : L ≤ 3072) (k : ∀ h', LI a11 a12 a3 h' → K (nI j + 6) h') : w_L_law__1990 xs L K v0 a11 a12 a3 (nI j) h (fun r _ => r = 1) := by
  obtain ⟨A, S, h0, X, nr, V, E, wd, N, LL, SS, B, n, H, Ls, Lx, R, M, W⟩ := hI
  have O := W.1
  have J := Ls.2.2.1
  have q1 : A 11 = a11 := Ls.1
  have q2 : A 12 = a12 := Ls.2.1
  subst q1 q2
  have kf := k
  dsimp only [w_L_law__1990, w_L_law__2079, w_L_law__2741]
  refine xl_ (c := 1) (jx j 1) (by decide) hj hL ?_
  refine xl_ (c := 2) (jx j 2) (by decide) hj hL ?_
  refine xl_ (c := 3) (jx j 3) (by decide) hj hL ?_
  refine xl_ (c := 4) (jx j 4) (by decide) hj hL ?_
  refine L_teller H R O J (fun h1 X1 h2 H2 j1 o1 R1 g1 => ?_)
  refine xl_ (c := 1) (jx j 1) (by decide) hj hL ?_
  refine xl_ (c := 2) (jx j 2) (by decide) hj hL ?_
  refine xl_ (c := 3) (jx j 3) (by decide) hj hL ?_
  refine xl_ (c := 4) (jx j 4) (by decide) hj hL ?_
  refine vG (o := 12) H2 H2.b rfl ?_
  have Ls1 := Ls.hj H j1
  have M1 := M.cf (CQ.sc o1)
  refine m_teller_ H2 M1 O (fun X3 h3 H3 o3 M3 t3 => ?_)
  refine fin_v (P := fun h' => K (nI j + 6) h') H2 H3 Ls1.2.2.1 t3 g1 ?_
  exact k _ (LI.of Lx H3 Ls1 (CQ.sc o1) o3 R1 M3 (W.co (teller_ok O) teller_nn.1 teller_nn.2 (fun w hw => teller_hi O hw)))
theorem t_could (hI : LI a11 a12 a3 h) (hj : j + 6 ≤ L) (hL : L ≤ 3072) (k : ∀ h', LI a11 a12 a3 h' → K (nI j + 6) h') : w_L_law__2162 xs L K v0 a11 a12 a3 (nI j) h (fun r _ => r = 1) := by
  obtain ⟨A, S, h0, X, nr, V, E, wd, N, LL, SS, B, n, H, Ls, Lx, R, M, W⟩ := hI
  have O := W.1
  have J := Ls.2.2.1
  have q1 : A 11 = a11 := Ls.1
  have q2 : A 12 = a12 := Ls.2.1
  subst q1 q2
  have kf := k
  dsimp only [w_L_law__2162, w_L_law__2183, w_L_law__2210, w_L_law__2244, w_L_law__2250, w_L_law__2741]
  refine xl_ (c := 1) (jx j 1) (by decide) hj hL ?_
  refine xl_ (c := 2) (jx j 2) (by decide) hj hL ?_
  refine br_if (fun c => ?_) (fun c => ?_)
  · clear kf
    refine L_could (b := false) H R O J (fun h1 X1 h2 H2 j1 o1 g1 => ?_)
    refine xl_ (c := 1) (jx j 1) (by decide) hj hL ?_
    refine xl_ (c := 2) (jx j 2) (by decide) hj hL ?_
    refine br_T c ?_
    refine vG (o := 12) H2 H2.b rfl ?_
    have Ls1 := Ls.hj H j1
    have M1 := M.cf (CQ.oc o1)
    refine m_could_ (b := false) H2 M1 O (fun X3 h3 H3 o3 t3 => ?_)
    refine fin_b (P := fun h' => K (nI j + 6) h') (T := fun x y h' => br (lg_cmp x y = 0) (K (nI j + 6) h') ((0 : Int32) = 1)) H2 H3 Ls1.2.2.1 t3 g1 cIf_01 (fun x h p => br_T (lg_same x) p) ?_
    exact k _ (LI.of Lx H3 Ls1 (CQ.oc o1) (OW.of o3) (R.oc o1) (M1.ot o3) W)
  · clear kf
    refine L_could (b := true) H R O J (fun h1 X1 h2 H2 j1 o1 g1 => ?_)
    refine xl_ (c := 1) (jx j 1) (by decide) hj hL ?_
    refine xl_ (c := 2) (jx j 2) (by decide) hj hL ?_
    refine br_F c ?_
    refine vG (o := 12) H2 H2.b rfl ?_
    have Ls1 := Ls.hj H j1
    have M1 := M.cf (CQ.oc o1)
    refine m_could_ (b := true) H2 M1 O (fun X3 h3 H3 o3 t3 => ?_)
    refine fin_b (P := fun h' => K (nI j + 6) h') (T := fun x y h' => br (lg_cmp x y = 0) (K (nI j + 6) h') ((0 : Int32) = 1)) H2 H3 Ls1.2.2.1 t3 g1 cIf_01 (fun x h p => br_T (lg_same x) p) ?_
    exact k _ (LI.of Lx H3 Ls1 (CQ.oc o1) (OW.of o3) (R.oc o1) (M1.ot o3) W)
theorem t_talked (hI : LI a11 a12 a3 h) (hj : j + 6 ≤ L) (hL : L ≤ 3072) (k : ∀ h', LI a11 a12 a3 h' → K (nI j + 6) h') : w_L_law__2253 xs L K v0 a11 a12 a3 (nI j) h (fun r _ => r = 1) := by
  obtain ⟨A, S, h0, X, nr, V, E, wd, N, LL, SS, B, n, H, Ls, Lx, R, M, W⟩ := hI
  have O := W.1
  have J := Ls.2.2.1
  have q1 : A 11 = a11 := Ls.1
  have q2 : A 12 = a12 := Ls.2.1
  subst q1 q2
  have kf := k
  dsimp only [w_L_law__2253, w_L_law__2319, w_L_law__2325, w_L_law__2741]
  refine xl_ (c := 1) (jx j 1) (by decide) hj hL ?_
  refine xl_ (c := 2) (jx j 2) (by decide) hj hL ?_
  refine L_talked H R O J (fun h1 X1 h2 H2 j1 o1 g1 => ?_)
  refine xl_ (c := 1) (jx j 1) (by decide) hj hL ?_
  refine xl_ (c := 2) (jx j 2) (by decide) hj hL ?_
  refine vG (o := 12) H2 H2.b rfl ?_
  have Ls1 := Ls.hj H j1
  have M1 := M.cf (CQ.oc o1)
  refine m_talked_ H2 M1 O (fun X3 h3 H3 o3 t3 => ?_)
  refine fin_b (P := fun h' => K (nI j + 6) h') (T := fun x y h' => br (lg_cmp x y = 0) (K (nI j + 6) h') ((0 : Int32) = 1)) H2 H3 Ls1.2.2.1 t3 g1 cIf_01 (fun x h p => br_T (lg_same x) p) ?_
  exact k _ (LI.of Lx H3 Ls1 (CQ.oc o1) (OW.of o3) (R.oc o1) (M1.ot o3) W)
theorem t_who (hI : LI a11 a12 a3 h) (hj : j + 6 ≤ L) (hL : L ≤ 3072) (k : ∀ h', LI a11 a12 a3 h' → K (nI j + 6) h') : w_L_law__2341 xs L K v0 a11 a12 a3 (nI j) h (fun r _ => r = 1) := by
  obtain ⟨A, S, h0, X, nr, V, E, wd, N, LL, SS, B, n, H, Ls, Lx, R, M, W⟩ := hI
  have O := W.1
  have J := Ls.2.2.1
  have q1 : A 11 = a11 := Ls.1
  have q2 : A 12 = a12 := Ls.2.1
  subst q1 q2
  have kf := k
  dsimp only [w_L_law__2341, w_L_law__2394, w_L_law__2741]
  refine xl_ (c := 1) (jx j 1) (by decide) hj hL ?_
  refine L_who H R O J (fun h1 X1 h2 H2 j1 o1 g1 => ?_)
  refine xl_ (c := 1) (jx j 1) (by decide) hj hL ?_
  refine vG (o := 12) H2 H2.b rfl ?_
  have Ls1 := Ls.hj H j1
  have M1 := M.cf (CQ.oc o1)
  refine m_who_ H2 M1 O (fun X3 h3 H3 o3 t3 => ?_)
  refine fin_v (P := fun h' => K (nI j + 6) h') H2 H3 Ls1.2.2.1 t3 g1 ?_
  exact k _ (LI.of Lx H3 Ls1 (CQ.oc o1) (OW.of o3) (R.oc o1) (M1.ot o3) W)
theorem t_joined (hI : LI a11 a12 a3 h) (hj : j + 6 ≤ L) (hL : L ≤ 3072) (k : ∀ h', LI a11 a12 a3 h' → K (nI j + 6) h') : w_L_law__2397 xs L K v0 a11 a12 a3 (nI j) h (fun r _ => r = 1) := by
  obtain ⟨A, S, h0, X, nr, V, E, wd, N, LL, SS, B, n, H, Ls, Lx, R, M, W⟩ := hI
  have O := W.1
  have J := Ls.2.2.1
  have q1 : A 11 = a11 := Ls.1
  have q2 : A 12 = a12 := Ls.2.1
  subst q1 q2
  have kf := k
  dsimp only [w_L_law__2397, w_L_law__2436, w_L_law__2481, w_L_law__2514, w_L_law__2741]
  refine xl_ (c := 1) (jx j 1) (by decide) hj hL ?_
  refine xl_ (c := 2) (jx j 2) (by decide) hj hL ?_
  refine xl_ (c := 3) (jx j 3) (by decide) hj hL ?_
  refine xl_ (c := 4) (jx j 4) (by decide) hj hL ?_
  refine xl_ (c := 5) (jx j 5) (by decide) hj hL ?_
  refine br_if (fun c => ?_) (fun c => ?_)
  · clear kf
    refine L_joined (m := false) H R O J (fun h1 X1 h2 H2 j1 o1 g1 => ?_)
    refine xl_ (c := 1) (jx j 1) (by decide) hj hL ?_
    refine xl_ (c := 2) (jx j 2) (by decide) hj hL ?_
    refine xl_ (c := 3) (jx j 3) (by decide) hj hL ?_
    refine xl_ (c := 4) (jx j 4) (by decide) hj hL ?_
    refine xl_ (c := 5) (jx j 5) (by decide) hj hL ?_
    refine br_T c ?_
    refine vG (o := 12) H2 H2.b rfl ?_
    have Ls1 := Ls.hj H j1
    have M1 := M.cf (CQ.oc o1)
    refine m_joined_ (m := false) H2 M1 O (fun X3 h3 H3 o3 t3 => ?_)
    refine fin_v (P := fun h' => K (nI j + 6) h') H2 H3 Ls1.2.2.1 t3 g1 ?_
    exact k _ (LI.of Lx H3 Ls1 (CQ.oc o1) (OW.of o3) (R.oc o1) (M1.ot o3) W)
  · clear kf
    refine L_joined (m := true) H R O J (fun h1 X1 h2 H2 j1 o1 g1 => ?_)
    refine xl_ (c := 1) (jx j 1) (by decide) hj hL ?_
    refine xl_ (c := 2) (jx j 2) (by decide) hj hL ?_
    refine xl_ (c := 3) (jx j 3) (by decide) hj hL ?_
    refine xl_ (c := 4) (jx j 4) (by decide) hj hL ?_
    refine xl_ (c := 5) (jx j 5) (by decide) hj hL ?_
    refine br_F c ?_
    refine vG (o := 12) H2 H2.b rfl ?_
    have Ls1 := Ls.hj H j1
    have M1 := M.cf (CQ.oc o1)
    refine m_joined_ (m := true) H2 M1 O (fun X3 h3 H3 o3 t3 => ?_)
    refine fin_v (P := fun h' => K (nI j + 6) h') H2 H3 Ls1.2.2.1 t3 g1 ?_
    exact k _ (LI.of Lx H3 Ls1 (CQ.oc o1) (OW.of o3) (R.oc o1) (M1.ot o3) W)
theorem t_look (hI : LI a11 a12 a3 h) (hj : j + 6 ≤ L) (hL : L ≤ 3072) (k : ∀ h', LI a11 a12 a3 h' → K (nI j + 6) h') : w_L_law__786 xs L K v0 a11 a12 a3 (nI j) h (fun r _ => r = 1) := by
  obtain ⟨A, S, h0, X, nr, V, E, wd, N, LL, SS, B, n, H, Ls, Lx, R, M, W⟩ := hI
  have O := W.1
  have J := Ls.2.2.1
  have q1 : A 11 = a11 := Ls.1
  have q2 : A 12 = a12 := Ls.2.1
  subst q1 q2
  have kf := k
  dsimp only [w_L_law__786, w_L_law__851, w_L_law__2741]
  refine xl_ (c := 1) (jx j 1) (by decide) hj hL ?_
  refine xl_ (c := 2) (jx j 2) (by decide) hj hL ?_
  refine L_look H R O J (fun h1 X1 h2 H2 j1 o1 g1 => ?_)
  refine xl_ (c := 1) (jx j 1) (by decide) hj hL ?_
  refine xl_ (c := 2) (jx j 2) (by decide) hj hL ?_
  refine vG (o := 12) H2 H2.b rfl ?_
  have Ls1 := Ls.hj H j1
  have M1 := M.cf (CQ.oc o1)
  refine m_look_ H2 M1 O (fun X3 h3 H3 o3 t3 => ?_)
  refine fin_v (P := fun h' => K (nI j + 6) h') H2 H3 Ls1.2.2.1 t3 g1 ?_
  exact k _ (LI.of Lx H3 Ls1 (CQ.oc o1) (OW.of o3) (R.oc o1) (M1.ot o3) W)
theorem t_ground (hI : LI a11 a12 a3 h) (hj : j + 6 ≤ L) (hL : L ≤ 3072) (k : ∀ h', LI a11 a12 a3 h' → K (nI j + 6) h') : w_L_law__318 xs L K v0 a11 a12 a3 (nI j) h (fun r _ => r = 1) := by
  obtain ⟨A, S, h0, X, nr, V, E, wd, N, LL, SS, B, n, H, Ls, Lx, R, M, W⟩ := hI
  have O := W.1
  have J := Ls.2.2.1
  have q1 : A 11 = a11 := Ls.1
  have q2 : A 12 = a12 := Ls.2.1
  subst q1 q2
  have kf := k
  dsimp only [w_L_law__318, w_L_law__2741]
  refine xl_ (c := 1) (jx j 1) (by decide) hj hL ?_
  refine xl_ (c := 2) (jx j 2) (by decide) hj hL ?_
  refine xl_ (c := 3) (jx j 3) (by decide) hj hL ?_
  refine L_ground H R (fun X1 h2 H2 o1 R1 => ?_)
  refine xl_ (c := 1) (jx j 1) (by decide) hj hL ?_
  refine xl_ (c := 2) (jx j 2) (by decide) hj hL ?_
  refine xl_ (c := 3) (jx j 3) (by decide) hj hL ?_
  refine vG (o := 12) H2 H2.b rfl ?_
  have M1 := M.cf (CQ.sc o1)
  refine m_ground_ H2 M1 (fun X3 h3 H3 o3 M3 t3 => ?_)
  refine fin_t (P := fun h' => K (nI j + 6) h') H3 t3 ?_
  exact k _ (LI.of Lx H3 Ls (CQ.sc o1) o3 R1 M3 (W.co (ground_ok O) rfl rfl (fun w hw => ground_hi O hw)))
theorem t_day (hI : LI a11 a12 a3 h) (hj : j + 6 ≤ L) (hL : L ≤ 3072) (k : ∀ h', LI a11 a12 a3 h' → K (nI j + 6) h') : w_L_law__601 xs L K v0 a11 a12 a3 (nI j) h (fun r _ => r = 1) := by
  obtain ⟨A, S, h0, X, nr, V, E, wd, N, LL, SS, B, n, H, Ls, Lx, R, M, W⟩ := hI
  have O := W.1
  have J := Ls.2.2.1
  have q1 : A 11 = a11 := Ls.1
  have q2 : A 12 = a12 := Ls.2.1
  subst q1 q2
  have kf := k
  dsimp only [w_L_law__601, w_L_law__2741]
  refine xl_ (c := 1) (jx j 1) (by decide) hj hL ?_
  refine L_day H R (fun X1 h2 H2 o1 R1 => ?_)
  refine xl_ (c := 1) (jx j 1) (by decide) hj hL ?_
  refine vG (o := 12) H2 H2.b rfl ?_
  have M1 := M.cf (CQ.sc o1)
  refine m_day_ H2 M1 (fun X3 h3 H3 o3 M3 t3 => ?_)
  refine fin_t (P := fun h' => K (nI j + 6) h') H3 t3 ?_
  exact k _ (LI.of Lx H3 Ls (CQ.sc o1) o3 R1 M3 (W.co (day_ok O) rfl rfl (fun w hw => day_hi O hw)))
theorem t_when (hI : LI a11 a12 a3 h) (hj : j + 6 ≤ L) (hL : L ≤ 3072) (k : ∀ h', LI a11 a12 a3 h' → K (nI j + 6) h') : w_L_law__1173 xs L K v0 a11 a12 a3 (nI j) h (fun r _ => r = 1) := by
  obtain ⟨A, S, h0, X, nr, V, E, wd, N, LL, SS, B, n, H, Ls, Lx, R, M, W⟩ := hI
  have O := W.1
  have J := Ls.2.2.1
  have q1 : A 11 = a11 := Ls.1
  have q2 : A 12 = a12 := Ls.2.1
  subst q1 q2
  have kf := k
  dsimp only [w_L_law__1173, w_L_law__2741]
  refine xl_ (c := 1) (jx j 1) (by decide) hj hL ?_
  refine xl_ (c := 2) (jx j 2) (by decide) hj hL ?_
  refine xl_ (c := 3) (jx j 3) (by decide) hj hL ?_
  refine L_when H R O (fun X1 h2 H2 o1 R1 => ?_)
  refine xl_ (c := 1) (jx j 1) (by decide) hj hL ?_
  refine xl_ (c := 2) (jx j 2) (by decide) hj hL ?_
  refine xl_ (c := 3) (jx j 3) (by decide) hj hL ?_
  refine vG (o := 12) H2 H2.b rfl ?_
  have M1 := M.cf (CQ.sc o1)
  refine m_when_ H2 M1 O (fun X3 h3 H3 o3 M3 t3 => ?_)
  refine fin_t (P := fun h' => K (nI j + 6) h') H3 t3 ?_
  exact k _ (LI.of Lx H3 Ls (CQ.sc o1) o3 R1 M3 (W.co (when_ok O) rfl rfl (fun w hw => when_hi O hw)))
theorem t_machine (hI : LI a11 a12 a3 h) (hj : j + 6 ≤ L) (hL : L ≤ 3072) (k : ∀ h', LI a11 a12 a3 h' → K (nI j + 6) h') : w_L_law__1233 xs L K v0 a11 a12 a3 (nI j) h (fun r _ => r = 1) := by
  obtain ⟨A, S, h0, X, nr, V, E, wd, N, LL, SS, B, n, H, Ls, Lx, R, M, W⟩ := hI
  have O := W.1
  have J := Ls.2.2.1
  have q1 : A 11 = a11 := Ls.1
  have q2 : A 12 = a12 := Ls.2.1
  subst q1 q2
  have kf := k
  dsimp only [w_L_law__1233, w_L_law__2741]
  refine xl_ (c := 1) (jx j 1) (by decide) hj hL ?_
  refine xl_ (c := 2) (jx j 2) (by decide) hj hL ?_
  refine L_machine H R (fun X1 h2 H2 o1 R1 => ?_)
  refine xl_ (c := 1) (jx j 1) (by decide) hj hL ?_
  refine xl_ (c := 2) (jx j 2) (by decide) hj hL ?_
  refine vG (o := 12) H2 H2.b rfl ?_
  have M1 := M.cf (CQ.sc o1)
  refine m_machine_ H2 M1 (fun X3 h3 H3 o3 M3 t3 => ?_)
  refine fin_t (P := fun h' => K (nI j + 6) h') H3 t3 ?_
  exact k _ (LI.of Lx H3 Ls (CQ.sc o1) o3 R1 M3 (W.co (machine_ok O) machine_nn.1 machine_nn.2 (fun w hw => machine_hi O hw)))
theorem t_next (hI : LI a11 a12 a3 h) (hj : j + 6 ≤ L) (hL : L ≤ 3072) (k : ∀ h', LI a11 a12 a3 h' → K (nI j + 6) h') : w_L_law__1337 xs L K v0 a11 a12 a3 (nI j) h (fun r _ => r = 1) := by
  obtain ⟨A, S, h0, X, nr, V, E, wd, N, LL, SS, B, n, H, Ls, Lx, R, M, W⟩ := hI
  have O := W.1
  have J := Ls.2.2.1
  have q1 : A 11 = a11 := Ls.1
  have q2 : A 12 = a12 := Ls.2.1
  subst q1 q2
  have kf := k
  dsimp only [w_L_law__1337, w_L_law__2741]
  refine vG (o := 11) H H.b rfl ?_
  refine c_next H R O ?_
  refine vG (o := 12) H H.b rfl ?_
  refine m_next_ H M O (fun X3 h3 H3 o3 t3 => ?_)
  refine br_T rfl ?_
  exact k _ (LI.of Lx H3 Ls (CQ.rf X) (OW.of o3) R (M.ot o3) W)
theorem t_apart (hI : LI a11 a12 a3 h) (hj : j + 6 ≤ L) (hL : L ≤ 3072) (k : ∀ h', LI a11 a12 a3 h' → K (nI j + 6) h') : w_L_law__2328 xs L K v0 a11 a12 a3 (nI j) h (fun r _ => r = 1) := by
  obtain ⟨A, S, h0, X, nr, V, E, wd, N, LL, SS, B, n, H, Ls, Lx, R, M, W⟩ := hI
  have O := W.1
  have J := Ls.2.2.1
  have q1 : A 11 = a11 := Ls.1
  have q2 : A 12 = a12 := Ls.2.1
  subst q1 q2
  have kf := k
  dsimp only [w_L_law__2328, w_L_law__2741]
  refine vG (o := 11) H H.b rfl ?_
  refine c_apart H R O ?_
  refine vG (o := 12) H H.b rfl ?_
  refine m_apart_ H M O (fun X3 h3 H3 o3 t3 => ?_)
  refine br_T rfl ?_
  exact k _ (LI.of Lx H3 Ls (CQ.rf X) (OW.of o3) R (M.ot o3) W)
theorem t_count (hI : LI a11 a12 a3 h) (hj : j + 6 ≤ L) (hL : L ≤ 3072) (k : ∀ h', LI a11 a12 a3 h' → K (nI j + 6) h') : w_L_law__2716 xs L K v0 a11 a12 a3 (nI j) h (fun r _ => r = 1) := by
  obtain ⟨A, S, h0, X, nr, V, E, wd, N, LL, SS, B, n, H, Ls, Lx, R, M, W⟩ := hI
  have O := W.1
  have J := Ls.2.2.1
  have q1 : A 11 = a11 := Ls.1
  have q2 : A 12 = a12 := Ls.2.1
  subst q1 q2
  have kf := k
  dsimp only [w_L_law__2716, w_L_law__2741]
  refine xl_ (c := 1) (jx j 1) (by decide) hj hL ?_
  refine vG (o := 11) H H.b rfl ?_
  refine c_count H R O ?_
  refine xl_ (c := 1) (jx j 1) (by decide) hj hL ?_
  refine vG (o := 12) H H.b rfl ?_
  refine m_count_ H M O (fun X3 h3 H3 o3 t3 => ?_)
  refine br_T rfl ?_
  exact k _ (LI.of Lx H3 Ls (CQ.rf X) (OW.of o3) R (M.ot o3) W)
theorem t_seed (hI : LI a11 a12 a3 h) (hj : j + 6 ≤ L) (hL : L ≤ 3072) (k : ∀ h', LI a11 a12 a3 h' → K (nI j + 6) h') : w_L_law__854 xs L K v0 a11 a12 a3 (nI j) h (fun r _ => r = 1) := by
  obtain ⟨A, S, h0, X, nr, V, E, wd, N, LL, SS, B, n, H, Ls, Lx, R, M, W⟩ := hI
  have O := W.1
  have J := Ls.2.2.1
  have q1 : A 11 = a11 := Ls.1
  have q2 : A 12 = a12 := Ls.2.1
  subst q1 q2
  have kf := k
  dsimp only [w_L_law__854, w_L_law__2741]
  refine xl_ (c := 1) (jx j 1) (by decide) hj hL ?_
  refine vG (o := 11) H H.b rfl ?_
  refine c_seed H R (fun X1 h2 H2 o1 R1 => ?_)
  refine xl_ (c := 1) (jx j 1) (by decide) hj hL ?_
  refine vG (o := 12) H2 H2.b rfl ?_
  refine m_seed_ H2 (M.cf (CQ.sc o1)) (fun X3 h3 H3 o3 M3 => ?_)
  exact k _ (LI.of Lx H3 Ls (CQ.sc o1) o3 R1 M3 (W.co (seed_ok O) rfl rfl (fun w hw => va_ne (by omega))))
theorem t_fault (hI : LI a11 a12 a3 h) (hj : j + 6 ≤ L) (hL : L ≤ 3072) (k : ∀ h', LI a11 a12 a3 h' → K (nI j + 6) h') : w_L_law__681 xs L K v0 a11 a12 a3 (nI j) h (fun r _ => r = 1) := by
  obtain ⟨A, S, h0, X, nr, V, E, wd, N, LL, SS, B, n, H, Ls, Lx, R, M, W⟩ := hI
  have O := W.1
  have J := Ls.2.2.1
  have q1 : A 11 = a11 := Ls.1
  have q2 : A 12 = a12 := Ls.2.1
  subst q1 q2
  have kf := k
  dsimp only [w_L_law__681, w_L_law__2741]
  refine vG (o := 11) H H.b rfl ?_
  refine c_fault H ?_
  refine vG (o := 12) H H.b rfl ?_
  refine m_fault_ H (fun X3 h3 H3 o3 => ?_)
  refine br_T Lx.2.2.2.1 ?_
  exact k _ (LI.of Lx H3 Ls (CQ.rf X) (OW.of o3) R (M.ot o3) W)
end TURNS
