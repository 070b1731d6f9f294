/-! run: minutes -/
theorem SFr.sc {X X' : Nat → Nat → Int32} (a : SFr X X') : SC X X' := fun id h g => a id h (fun z => g (by rw [z]; decide))
theorem SC.tr {X X' X'' : Nat → Nat → Int32} (a : SC X X') (b : SC X' X'') : SC X X'' := fun id h g => (b id h g).trans (a id h g)
theorem OW.tr {X X' X'' : Nat → Nat → Int32} (a : OW X X') (b : OW X' X'') : OW X X'' := fun id n h g z => (b id n h g z).trans (a id n h g z)
theorem mnW_N {wd : Nat → Int32} {N N' : Nat → Nat} {LL : Nat → List (Nat × Seg)} (e : N' 1 = N 1) : ∀ {j : Nat}, mnW wd N' LL j = mnW wd N LL j := by
  intro j
  induction j with
  | zero => rfl
  | succ j ih =>
    unfold mnW
    rw [ih, act_N e]
noncomputable def rnW (wd : Nat → Int32) (N : Nat → Nat) (LL : Nat → List (Nat × Seg)) : Nat → (Nat → Int32)
  | 0 => wd
  | j + 1 => mnW (va_up (rnW wd N LL j) 7 (rnW wd N LL j 7 + 1)) N LL (N 1)
theorem up4 (N : Nat → Nat) (a n b m : Nat) : va_up (va_up (va_up (va_up N 7 a) 3 n) 7 b) 3 m = va_up (va_up N 7 b) 3 m := by
  funext i
  by_cases c : i = 3
  · rw [c, va_up_self, va_up_self]
  · rw [va_ne c, va_ne c]
    by_cases d : i = 7
    · rw [d, va_up_self, va_up_self]
    · rw [va_ne d, va_ne d, va_ne c, va_ne d]
theorem up2_self (N : Nat → Nat) : va_up (va_up N 7 (N 7 + 0)) 3 (N 3) = N := by
  funext i
  by_cases c : i = 3
  · rw [c, va_up_self]
  · rw [va_ne c]
    by_cases d : i = 7
    · rw [d, va_up_self]; rfl
    · rw [va_ne d]
theorem mi_ok {wd : Nat → Int32} {N : Nat → Nat} (O : Ok wd N) (h : N 7 + 1 ≤ 239) : Ok (va_up wd 7 (wd 7 + 1)) (va_up N 7 (N 7 + 1)) := by
  rw [O.mi.1, ← nI_succ]
  exact O.sc (Or.inl ⟨rfl, rfl⟩) h
theorem rn_ok {wd : Nat → Int32} {N : Nat → Nat} {LL : Nat → List (Nat × Seg)} (O : Ok wd N) : ∀ {j : Nat}, N 7 + j ≤ 239 → (∃ n, Ok (rnW wd N LL j) (va_up (va_up N 7 (N 7 + j)) 3 n)) ∧ ∀ w, 1166 ≤ w → rnW wd N LL j w = wd w := by
  intro j
  induction j with
  | zero =>
    intro _
    refine ⟨⟨N 3, ?_⟩, fun _ _ => rfl⟩
    rw [up2_self]
    exact O
  | succ j ih =>
    intro hj
    obtain ⟨⟨n, o⟩, e⟩ := ih (by omega)
    have e7 : va_up (va_up N 7 (N 7 + j)) 3 n 7 = N 7 + j := by rw [va_ne (by decide), va_up_self]
    have e1 : va_up (va_up N 7 (N 7 + j)) 3 n 1 = N 1 := by rw [va_ne (by decide), va_ne (by decide)]
    have o2 := mi_ok o (by rw [e7]; omega)
    rw [e7] at o2
    have e2 : va_up (va_up (va_up N 7 (N 7 + j)) 3 n) 7 (N 7 + j + 1) 1 = N 1 := (va_ne (by decide)).trans e1
    obtain ⟨⟨m, o3⟩, e3⟩ := mn_ok (LL := LL) o2 (Nat.le_refl _)
    rw [mnW_N e2, e2, up4] at o3
    rw [mnW_N e2, e2] at e3
    refine ⟨⟨m, o3⟩, fun w hw => ?_⟩
    exact (e3 w hw).trans ((va_ne (by omega)).trans (e w hw))
theorem bn_of {v : Int32} (c : inR v 1 60) : v = nI (nt v) ∧ nt v ≤ 60 := by
  have h : inR v 0 60 := ⟨Int32.le_trans (by decide) c.1, c.2⟩
  exact inR_bn (M := 60) (by decide) h
def rnC (wd : Nat → Int32) (v : Int32) : Prop := inR v 1 60 ∧ wd 7 + v ≤ 239
noncomputable def runS (wd : Nat → Int32) (v : Int32) : Int32 × Int32 := cIf (rnC wd v) (0, wd 7 + v) (1, 0)
noncomputable def runW (wd : Nat → Int32) (N : Nat → Nat) (LL : Nat → List (Nat × Seg)) (v : Int32) : Nat → Int32 := cIf (rnC wd v) (rnW wd N LL (nt v)) wd
theorem rnC_n {wd : Nat → Int32} {N : Nat → Nat} {v : Int32} (O : Ok wd N) (c : rnC wd v) : v = nI (nt v) ∧ N 7 + nt v ≤ 239 ∧ nt v ≤ 60 := by
  obtain ⟨e, b⟩ := bn_of c.1
  have h := c.2
  have h7 := O.mi.2
  rw [O.mi.1, e, nI_add] at h
  have := (nI_leI (a := N 7 + nt v) (b := 239) (by omega) (by decide)).mp h
  exact ⟨e, this, b⟩
theorem run_ok {wd : Nat → Int32} {N : Nat → Nat} {LL : Nat → List (Nat × Seg)} (O : Ok wd N) {v : Int32} : ∃ N', Ok (runW wd N LL v) N' ∧ (∀ i, i ≠ 3 → i ≠ 7 → N' i = N i) ∧ ∀ w, 1166 ≤ w → runW wd N LL v w = wd w := by
  unfold runW
  by_cases c : rnC wd v
  · rw [cIf_t c]
    obtain ⟨⟨n, o⟩, e⟩ := rn_ok (LL := LL) O (rnC_n O c).2.1
    exact ⟨_, o, fun i h3 h7 => by rw [va_ne h3, va_ne h7], e⟩
  · rw [cIf_f c]
    exact ⟨N, O, fun _ _ _ => rfl, fun _ _ => rfl⟩
theorem rn_7 {wd : Nat → Int32} {N : Nat → Nat} {LL : Nat → List (Nat × Seg)} (O : Ok wd N) {v : Int32} (c : rnC wd v) : rnW wd N LL (nt v) 7 = wd 7 + v := by
  obtain ⟨e, b, -⟩ := rnC_n O c
  obtain ⟨⟨n, o⟩, -⟩ := rn_ok (LL := LL) O b
  rw [o.mi.1, va_ne (by decide), va_up_self, O.mi.1]
  conv => rhs; rw [e]
  rw [nI_add]
/-- what a person's turn leaves of the reference's own ints: also what was thrown -/
def RX (X X' : Nat → Nat → Int32) : Prop := ∀ id n, mS id n = false → id ≠ 1301 → X' id n = X id n
theorem RX.rf (X : Nat → Nat → Int32) : RX X X := fun _ _ _ _ => rfl
theorem RX.of {X X' : Nat → Nat → Int32} (a : OM X X') : RX X X' := fun id n h _ => a id n h
theorem RX.ow {X X' : Nat → Nat → Int32} (a : RX X X') : OW X X' := fun id n h _ z => a id n h z
theorem RX.tr {X X' X'' : Nat → Nat → Int32} (a : RX X X') (b : RX X' X'') : RX X X'' := fun id n h g => (b id n h g).trans (a id n h g)
theorem RX.wr {X X' : Nat → Nat → Int32} (a : RX X X') (n : Nat) (v : Int32) : RX X (up X' 1301 n v) := fun id m h z => by
  rw [up_row _ _ _ z]
  exact a id m h z
theorem RX.rows {X X' X'' : Nat → Nat → Int32} (a : RX X X') (b : ∀ id, id ≠ 1301 → X'' id = X' id) : RX X X'' := fun id n h z => by rw [b id z]; exact a id n h z
theorem RX.t0 {X X' : Nat → Nat → Int32} (a : RX X X') : X' 12 0 = X 12 0 := a 12 0 (by decide) (by decide)
section MACTS2
variable {A : Nat → Nat} {S : Nat → Prop} {h0 h : AH} {X : Nat → Nat → Int32} {wd : Nat → Int32} {N : Nat → Nat} {LL : Nat → List (Nat × Seg)} {Q : Int32 → AH → Prop} {Qv : AH → Prop} {p : Nat}
theorem m_acts2 (H : G A S h0 X h) (M : MR X wd) (O : Ok wd N) (hp : p < N 1) (hL : ∀ l, l < N 2 → LR wd (1166 + 831 * l) (LL l)) (hO : LKs LL (N 2)) (k : ∀ X' h', G A S h0 X' h' → MR X' (actW wd N LL p) → RX X X' → Qv h') : w_X12_acts (A 12) (nI p) h Qv := by
  have hP := O.p.2
  dsimp only [w_X12_acts]
  refine vG (o := 12) H H.b rfl ?_
  refine p2 H M (by omega) ?_
  refine vG (o := 12) H H.b rfl ?_
  refine m_near (b := true) (d := 3) H M O (by omega) ?_
  refine vG (o := 12) H H.b rfl ?_
  refine m_near (b := false) (d := 2) H M O (by omega) ?_
  refine vG (o := 12) H H.b rfl ?_
  refine m_sets H M (303 + 6 * p) 2 rfl (by omega) (by omega) (fun h1 H1 M1 => ?_)
  have OW1 : Ok (va_up wd (303 + 6 * p) (cvS wd N p)) N := O.cv hp (jc9 _)
  have M1 : MR (up X 1301 (303 + 6 * p) (cvS wd N p)) (va_up wd (303 + 6 * p) (cvS wd N p)) := M1
  have H1 : G A S h0 (up X 1301 (303 + 6 * p) (cvS wd N p)) h1 := H1
  have r1 : RX X (up X 1301 (303 + 6 * p) (cvS wd N p)) := (RX.rf X).wr _ _
  have L1 : ∀ l, l < N 2 → LR (va_up wd (303 + 6 * p) (cvS wd N p)) (1166 + 831 * l) (LL l) := fun l hl => (hL l hl).co (fun w hw => va_ne (by omega))
  unfold actW at k
  generalize va_up wd (303 + 6 * p) (cvS wd N p) = W at *
  generalize up X 1301 (303 + 6 * p) (cvS wd N p) = X1 at *
  refine vG (o := 12) H1 H1.b rfl ?_
  refine m_sortOf H1 M1 OW1 hp L1 hO (fun X2 h2 H2 o2 => ?_)
  have M2 := o2.MR M1
  have r2 : RX X X2 := r1.tr (RX.of o2)
  obtain ⟨c, hc, -, es⟩ := ch_srt OW1 hp hO
  rw [es] at k ⊢
  have hs : (if c = 0 then 3 else c - 1) ≤ 4 := by split <;> omega
  generalize (if c = 0 then 3 else c - 1) = s at *
  rw [nt_nI (by omega)] at k
  dsimp only [w_X12_acts_52, w_X12_acts_62, w_X12_acts_74, w_X12_acts_77, w_X12_acts_87, w_X12_acts_99]
  have hs' : s = 0 ∨ s = 1 ∨ s = 2 ∨ s = 3 ∨ s = 4 := by omega
  rcases hs' with rfl | rfl | rfl | rfl | rfl
  · refine br_T rfl (vG (o := 12) H2 H2.b rfl (m_shoots H2 M2 OW1 hp (fun X3 h3 H3 M3 r3 => ?_)))
    exact br_F (by decide) (br_F (by decide) (br_F (by decide) (br_F (by decide) (k X3 h3 H3 M3 (r2.rows r3)))))
  · refine br_F (by decide) (br_T rfl (br_T rfl (vG (o := 12) H2 H2.b rfl (m_moves1 H2 M2 OW1 hp (fun X3 h3 H3 M3 r3 _ => ?_)))))
    exact br_F (by decide) (br_F (by decide) (k X3 h3 H3 M3 (r2.rows r3)))
  · refine br_F (by decide) (br_F (by decide) (br_T rfl (br_F (by decide) (vG (o := 12) H2 H2.b rfl (m_moves0 H2 M2 OW1 hp (fun X3 h3 H3 M3 r3 _ => ?_))))))
    exact br_F (by decide) (br_F (by decide) (k X3 h3 H3 M3 (r2.rows r3)))
  · refine br_F (by decide) (br_F (by decide) (br_F (by decide) (br_T rfl (vG (o := 12) H2 H2.b rfl (m_holdsStill H2 M2 (by omega) (fun X3 h3 H3 M3 r3 => ?_))))))
    exact br_F (by decide) (k X3 h3 H3 M3 (r2.rows r3))
  · refine br_F (by decide) (br_F (by decide) (br_F (by decide) (br_F (by decide) (br_T rfl (vG (o := 12) H2 H2.b rfl ?_)))))
    exact m_sets H2 M2 (301 + 6 * p) 0 rfl (by omega) (by omega) (fun h' H' M' => k _ h' H' M' (r2.wr _ _))
end MACTS2
section MRUN
variable {A : Nat → Nat} {S : Nat → Prop} {h0 h : AH} {X : Nat → Nat → Int32} {wd : Nat → Int32} {N : Nat → Nat} {LL : Nat → List (Nat × Seg)} {Q : Int32 → AH → Prop} {Qv : AH → Prop}
theorem LR.mn {wd wd' : Nat → Int32} {N : Nat → Nat} {LL : Nat → List (Nat × Seg)} (hL : ∀ l, l < N 2 → LR wd (1166 + 831 * l) (LL l)) (e : ∀ w, 1166 ≤ w → wd' w = wd w) : ∀ l, l < N 2 → LR wd' (1166 + 831 * l) (LL l) := fun l hl => (hL l hl).co (fun w hw => e w (by omega))
theorem m_minute (H : G A S h0 X h) (M : MR X wd) (O : Ok wd N) (hL : ∀ l, l < N 2 → LR wd (1166 + 831 * l) (LL l)) (hO : LKs LL (N 2)) {v1 v2 : Int32} {x96 : AH → Prop} (k : ∀ X' h', G A S h0 X' h' → MR X' (mnW wd N LL (N 1)) → RX X X' → x96 h') : lp (fun (k2 : Int32 × AH → Prop) (s2 : Int32 × AH) => w_X12_run_65 x96 (fun (y3 : Int32) h => k2 (y3, h)) (A 12) v1 v2 s2.1 s2.2 Q) ((0 : Int32), h) := by
  have hP := O.p.2
  refine lp_inv (N 1) (fun j (s : Int32 × AH) => s.1 = nI j ∧ ∃ X', G A S h0 X' s.2 ∧ MR X' (mnW wd N LL j) ∧ RX X X') (fun j s kk1 hj hI kk => ?_) (fun s kk1 hI => ?_) (Nat.zero_le _) ⟨rfl, X, H, M, RX.rf X⟩
  · obtain ⟨v, h1⟩ := s
    obtain ⟨e1, X1, H1, M1, o1⟩ := hI
    dsimp only at e1 H1 ⊢
    subst e1
    obtain ⟨⟨n, o⟩, e⟩ := mn_ok (LL := LL) O (Nat.le_of_lt hj)
    have n1 : va_up N 3 n 1 = N 1 := va_ne (by decide)
    have n2 : va_up N 3 n 2 = N 2 := va_ne (by decide)
    have w1 : mnW wd N LL j 1 = nI (N 1) := o.p.1.trans (congrArg nI n1)
    dsimp only [w_X12_run_65, w_X12_run_90]
    refine fP (o := 12) H1 H1.b rfl rfl ?_
    refine aM H1 M1 (n := 1) rfl (by decide) ?_
    rw [w1]
    refine br_go hj (by omega) ?_
    refine vG (o := 12) H1 H1.b rfl ?_
    refine p3 H1 M1 (by omega) ?_
    have ku : mnW wd N LL (j + 1) = if mnW wd N LL j (304 + 6 * j) = 1 then actW (mnW wd N LL j) N LL j else mnW wd N LL j := rfl
    refine br_if (fun c => ?_) (fun c => ?_)
    · rw [if_pos c] at ku
      refine vG (o := 12) H1 H1.b rfl ?_
      refine m_acts2 (LL := LL) H1 M1 o (by rw [n1]; exact hj) (by rw [n2]; exact LR.mn hL e) (by rw [n2]; exact hO) (fun X2 h2 H2 M2 o2 => ?_)
      rw [act_N n1, ← ku] at M2
      exact kk _ ⟨(nI_succ j).symm, X2, H2, M2, o1.tr o2⟩
    · rw [if_neg c] at ku
      rw [← ku] at M1
      exact kk _ ⟨(nI_succ j).symm, X1, H1, M1, o1⟩
  · obtain ⟨v, h1⟩ := s
    obtain ⟨e1, X1, H1, M1, o1⟩ := hI
    dsimp only at e1 H1 ⊢
    subst e1
    obtain ⟨⟨n, o⟩, e⟩ := mn_ok (LL := LL) O (Nat.le_refl (N 1))
    have n1 : va_up N 3 n 1 = N 1 := va_ne (by decide)
    have w1 : mnW wd N LL (N 1) 1 = nI (N 1) := o.p.1.trans (congrArg nI n1)
    dsimp only [w_X12_run_65]
    refine fP (o := 12) H1 H1.b rfl rfl ?_
    refine aM H1 M1 (n := 1) rfl (by decide) ?_
    rw [w1]
    exact br_end (k X1 h1 H1 M1 o1)
theorem m_run_ (H : G A S h0 X h) (M : MR X wd) (O : Ok wd N) (hL : ∀ l, l < N 2 → LR wd (1166 + 831 * l) (LL l)) (hO : LKs LL (N 2)) {v : Int32} (k : ∀ X' h', G A S h0 X' h' → OW X X' → MR X' (runW wd N LL v) → X' 12 0 = (runS wd v).1 → ∀ q : Int32, ((runS wd v).1 = 0 → q = (runS wd v).2) → Q q h') : w_X12_run (A 12) v h Q := by
  unfold w_X12_run
  refine m_ent H M (fun X1 h1 H1 M1 o1 t1 => ?_)
  have kf : ¬ rnC wd v → w_X12_run_31 (A 12) v (A 12) h1 Q := by
    intro c
    rw [runS, runW, cIf_f c, cIf_f c] at k
    dsimp only [w_X12_run_31, w_X12_run_36]
    refine vG (o := 12) H1 H1.b rfl ?_
    refine thr1 H1 (fun h2 H2 => br_F (by decide) ?_)
    exact k _ _ H2 ((OW.of o1).th 1) (M1.off (id := 12) (by decide) 0 1) (up_same _ _ _ _) _ (fun z => absurd z (by decide))
  refine m_rng (fun c1 => br_F (by decide) ?_) (fun c1 => br_T rfl (kf (fun z => c1 z.1)))
  refine fP (o := 12) H1 H1.b rfl rfl ?_
  refine aM H1 M1 (n := 7) rfl (by decide) ?_
  refine br_if (fun c2 => ?_) (fun c2 => kf (fun z => c2 z.2))
  have c : rnC wd v := ⟨c1, c2⟩
  obtain ⟨ev, b, b2⟩ := rnC_n O c
  have e7 := rn_7 (LL := LL) O c
  rw [runS, runW, cIf_t c, cIf_t c] at k
  dsimp only [w_X12_run_36]
  refine vG (o := 12) H1 H1.b rfl ?_
  refine thr0 (br_T rfl ?_)
  generalize hn : nt v = n at *
  subst ev
  refine lp_inv n (fun j (s : Int32 × AH) => s.1 = nI j ∧ ∃ X', G A S h0 X' s.2 ∧ MR X' (rnW wd N LL j) ∧ OW X X' ∧ X' 12 0 = 0) (fun j s kk1 hj hI kk => ?_) (fun s kk1 hI => ?_) (Nat.zero_le _) ⟨rfl, X1, H1, M1, OW.of o1, t1⟩
  · obtain ⟨v, h2⟩ := s
    obtain ⟨e1, X2, H2, M2, o2, t2⟩ := hI
    dsimp only at e1 H2 ⊢
    subst e1
    obtain ⟨⟨m, o⟩, e⟩ := rn_ok (LL := LL) (j := j) O (by omega)
    have n7 : va_up (va_up N 7 (N 7 + j)) 3 m 7 = N 7 + j := by rw [va_ne (by decide), va_up_self]
    have n1 : va_up (va_up (va_up N 7 (N 7 + j)) 3 m) 7 (N 7 + j + 1) 1 = N 1 := by rw [va_ne (by decide), va_ne (by decide), va_ne (by decide)]
    have n2 : va_up (va_up (va_up N 7 (N 7 + j)) 3 m) 7 (N 7 + j + 1) 2 = N 2 := by rw [va_ne (by decide), va_ne (by decide), va_ne (by decide)]
    have oo := mi_ok o (by rw [n7]; omega)
    rw [n7] at oo
    dsimp only [w_X12_run_47]
    refine br_go hj (by omega) ?_
    refine fP (o := 12) H2 H2.b rfl rfl ?_
    refine aM H2 M2 (n := 7) rfl (by decide) ?_
    refine tM H2 M2 (n := 7) rfl (by decide) (fun h3 H3 M3 => ?_)
    refine m_minute (LL := LL) H3 M3 oo (by rw [n2]; exact LR.mn hL (fun w hw => (va_ne (by omega)).trans (e w hw))) (by rw [n2]; exact hO) (fun X4 h4 H4 M4 o4 => ?_)
    rw [n1, mnW_N n1] at M4
    dsimp only [w_X12_run_96]
    refine kk _ ⟨(nI_succ j).symm, X4, H4, M4, (o2.wr _ _).tr o4.ow, ?_⟩
    rw [o4.t0, up_row _ _ _ (by decide)]
    exact t2
  · obtain ⟨v, h2⟩ := s
    obtain ⟨e1, X2, H2, M2, o2, t2⟩ := hI
    dsimp only at e1 H2 ⊢
    subst e1
    dsimp only [w_X12_run_47, w_X12_run_102]
    refine br_end ?_
    refine fP (o := 12) H2 H2.b rfl rfl ?_
    refine aM H2 M2 (n := 7) rfl (by decide) ?_
    exact k _ _ H2 o2 M2 t2 _ (fun _ => e7)
end MRUN
