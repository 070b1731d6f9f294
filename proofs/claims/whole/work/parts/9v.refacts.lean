/-! a person's turn: the reference -/
theorem jc9 (x : Int32) : bn (jmax 0 (jmin 9 x)) 9 := by
  by_cases c : x < 0
  · have e : jmax 0 (jmin 9 x) = 0 := by
      have : x < 9 := Int32.lt_trans c (by decide)
      unfold jmax jmin
      split <;> split <;> first | rfl | (exfalso; grind) | grind
    rw [e]
    exact bn.of (n := 0) (by decide) (by decide)
  · obtain ⟨j, hj, rfl⟩ := nI_of c
    rw [show (9 : Int32) = nI 9 from rfl, j_min (by decide) hj, show (0 : Int32) = nI 0 from rfl, j_max (by decide) (by omega)]
    exact bn.of (by omega) (by decide)
theorem Ok.cv {wd : Nat → Int32} {N : Nat → Nat} (O : Ok wd N) {p : Nat} (hp : p < N 1) {v : Int32} (hv : bn v 9) : Ok (va_up wd (303 + 6 * p) v) N := by
  refine O.set (Or.inl ⟨p, hp, by omega, by omega, ?_⟩)
  obtain ⟨a1, a2, a3, a4, a5, a6⟩ := O.P hp
  unfold OkP
  rw [va_ne (by omega), va_ne (by omega), va_up_self, va_ne (by omega), va_ne (by omega), va_ne (by omega)]
  exact ⟨a1, a2, hv, a4, a5, a6⟩
theorem LR.co {wd wd' : Nat → Int32} {b : Nat} {L : List (Nat × Seg)} (l : LR wd b L) (e : ∀ w, b ≤ w → wd' w = wd w) : LR wd' b L :=
  ⟨(e _ (Nat.le_refl _)).trans l.1, fun j hj => by rw [e _ (by omega), e _ (by omega), e _ (by omega)]; exact l.2.1 j hj, fun j hj => by rw [e _ (by omega), e _ (by omega)]; exact l.2.2 j hj⟩
theorem SR.co {wd wd' : Nat → Int32} {b : Nat} {s : Seg} (l : SR wd b s) (e : ∀ w, b ≤ w → wd' w = wd w) : SR wd' b s :=
  ⟨(e _ (by omega)).trans l.1, (e _ (by omega)).trans l.2.1, fun j hj => by rw [e _ (by omega), e _ (by omega)]; exact l.2.2 j hj⟩
noncomputable def dropW (wd : Nat → Int32) (p : Nat) : Nat → Int32 := va_up wd (301 + 6 * p) (-1)
noncomputable def actT (wd : Nat → Int32) (N : Nat → Nat) (p : Nat) : Nat → (Nat → Int32)
  | 0 => shootW wd N p
  | 1 => fleeW wd N p
  | 2 => joinW wd N p
  | 3 => calmW wd p
  | _ => dropW wd p
noncomputable def actW (wd : Nat → Int32) (N : Nat → Nat) (LL : Nat → List (Nat × Seg)) (p : Nat) : Nat → Int32 := actT (va_up wd (303 + 6 * p) (cvS wd N p)) N p (nt (srt (va_up wd (303 + 6 * p) (cvS wd N p)) N LL p))
section MACTS
variable {A : Nat → Nat} {S : Nat → Prop} {h0 h : AH} {X : Nat → Nat → Int32} {wd : Nat → Int32} {N : Nat → Nat} {LL : Nat → List (Nat × Seg)} {Q : Int32 → AH → Prop} {Qv : AH → Prop} {p : Nat}
theorem m_acts (H : G A S h0 X h) (M : MR X wd) (O : Ok wd N) (hp : p < N 1) (hL : ∀ l, l < N 2 → LR wd (1166 + 831 * l) (LL l)) (hO : LKs LL (N 2)) (k : ∀ X' h', G A S h0 X' h' → MR X' (actW wd N LL p) → OW X X' → Qv h') : w_X12_acts (A 12) (nI p) h Qv := by
  have hP := O.p.2
  dsimp only [w_X12_acts]
  refine vG (o := 12) H H.b rfl ?_
  refine p2 H M (by omega) ?_
  refine vG (o := 12) H H.b rfl ?_
  refine m_near (b := true) (d := 3) H M O (by omega) ?_
  refine vG (o := 12) H H.b rfl ?_
  refine m_near (b := false) (d := 2) H M O (by omega) ?_
  refine vG (o := 12) H H.b rfl ?_
  refine m_sets H M (303 + 6 * p) 2 rfl (by omega) (by omega) (fun h1 H1 M1 => ?_)
  have OW1 : Ok (va_up wd (303 + 6 * p) (cvS wd N p)) N := O.cv hp (jc9 _)
  have M1 : MR (up X 1301 (303 + 6 * p) (cvS wd N p)) (va_up wd (303 + 6 * p) (cvS wd N p)) := M1
  have H1 : G A S h0 (up X 1301 (303 + 6 * p) (cvS wd N p)) h1 := H1
  have r1 : OW X (up X 1301 (303 + 6 * p) (cvS wd N p)) := (OW.of (OT.rf X)).wr _ _
  have L1 : ∀ l, l < N 2 → LR (va_up wd (303 + 6 * p) (cvS wd N p)) (1166 + 831 * l) (LL l) := fun l hl => (hL l hl).co (fun w hw => va_ne (by omega))
  unfold actW at k
  generalize va_up wd (303 + 6 * p) (cvS wd N p) = W at *
  generalize up X 1301 (303 + 6 * p) (cvS wd N p) = X1 at *
  refine vG (o := 12) H1 H1.b rfl ?_
  refine m_sortOf H1 M1 OW1 hp L1 hO (fun X2 h2 H2 o2 => ?_)
  have M2 := o2.MR M1
  have r2 : OW X X2 := fun id n a b c => (OW.of (OT.of o2) id n a b c).trans (r1 id n a b c)
  obtain ⟨c, hc, -, es⟩ := ch_srt OW1 hp hO
  rw [es] at k ⊢
  have hs : (if c = 0 then 3 else c - 1) ≤ 4 := by split <;> omega
  generalize (if c = 0 then 3 else c - 1) = s at *
  rw [nt_nI (by omega)] at k
  dsimp only [w_X12_acts_52, w_X12_acts_62, w_X12_acts_74, w_X12_acts_77, w_X12_acts_87, w_X12_acts_99]
  have hs' : s = 0 ∨ s = 1 ∨ s = 2 ∨ s = 3 ∨ s = 4 := by omega
  rcases hs' with rfl | rfl | rfl | rfl | rfl
  · refine br_T rfl (vG (o := 12) H2 H2.b rfl (m_shoots H2 M2 OW1 hp (fun X3 h3 H3 M3 r3 => ?_)))
    exact br_F (by decide) (br_F (by decide) (br_F (by decide) (br_F (by decide) (k X3 h3 H3 M3 (r2.rows r3)))))
  · refine br_F (by decide) (br_T rfl (br_T rfl (vG (o := 12) H2 H2.b rfl (m_moves1 H2 M2 OW1 hp (fun X3 h3 H3 M3 r3 _ => ?_)))))
    exact br_F (by decide) (br_F (by decide) (k X3 h3 H3 M3 (r2.rows r3)))
  · refine br_F (by decide) (br_F (by decide) (br_T rfl (br_F (by decide) (vG (o := 12) H2 H2.b rfl (m_moves0 H2 M2 OW1 hp (fun X3 h3 H3 M3 r3 _ => ?_))))))
    exact br_F (by decide) (br_F (by decide) (k X3 h3 H3 M3 (r2.rows r3)))
  · refine br_F (by decide) (br_F (by decide) (br_F (by decide) (br_T rfl (vG (o := 12) H2 H2.b rfl (m_holdsStill H2 M2 (by omega) (fun X3 h3 H3 M3 r3 => ?_))))))
    exact br_F (by decide) (k X3 h3 H3 M3 (r2.rows r3))
  · refine br_F (by decide) (br_F (by decide) (br_F (by decide) (br_F (by decide) (br_T rfl (vG (o := 12) H2 H2.b rfl ?_)))))
    exact m_sets H2 M2 (301 + 6 * p) 0 rfl (by omega) (by omega) (fun h' H' M' => k _ h' H' M' (r2.wr _ _))
end MACTS
