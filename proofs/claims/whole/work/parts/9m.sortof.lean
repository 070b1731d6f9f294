/-! what a person does: the reference -/
noncomputable def rnd (wd : Nat → Int32) (p : Nat) : Int32 := if wd (301 + 6 * p) = -1 then 0 else wd (272 + 4 * nt (wd (301 + 6 * p)))
noncomputable def foeFar (wd : Nat → Int32) (N : Nat → Nat) (p : Nat) : Int32 := match nst wd true p (wd (302 + 6 * p)) (N 1) with
  | some q => farI (wd (302 + 6 * p)) (wd (302 + 6 * q))
  | none => 99
noncomputable def tF (wd : Nat → Int32) (N : Nat → Nat) (p f : Nat) : Int32 := if f = 0 then cnt (nrC wd true 3 p) (N 1) else if f = 1 then cnt (nrC wd false 2 p) (N 1) else if f = 2 then wd (303 + 6 * p) else if f = 3 then wd 7 else if f = 4 then wd (13 + nt (wd (302 + 6 * p))) else if f = 5 then rnd wd p else foeFar wd N p
noncomputable def tAr (wd : Nat → Int32) (N : Nat → Nat) (p : Nat) : Int32 := bI (decide (¬ tF wd N p 5 ≤ 0))
noncomputable def tAl (wd : Nat → Int32) (N : Nat → Nat) (p : Nat) : Int32 := bI (decide (tF wd N p 1 = 0))
noncomputable def lwS (wd : Nat → Int32) (N : Nat → Nat) (p : Nat) (L : List (Nat × Seg)) : Int32 := lawR (tF wd N p) (tAr wd N p) (tAl wd N p) 0 L
noncomputable def srtL (wd : Nat → Int32) (N : Nat → Nat) (p : Nat) (L : List (Nat × Seg)) : Int32 := if lwS wd N p L = 0 then 3 else lwS wd N p L - 1
noncomputable def srt (wd : Nat → Int32) (N : Nat → Nat) (LL : Nat → List (Nat × Seg)) (p : Nat) : Int32 := if wd (306 + 6 * p) = -1 then 3 else srtL wd N p (LL (nt (wd (306 + 6 * p))))
def LKs (LL : Nat → List (Nat × Seg)) (n : Nat) : Prop := ∀ l, l < n → LOk false (LL l) ∧ (lwE (LL l)).length ≤ 400 ∧ (LL l).length ≤ 10
theorem nI_n1 {m : Nat} (h : m < 2 ^ 31) : ¬ nI m = -1 := oI_ne h
theorem bI_01 (b : Bool) : bI b = 0 ∨ bI b = 1 := by
  cases b with
  | true => exact Or.inr rfl
  | false => exact Or.inl rfl
theorem drop_c {x : Nat × Seg} : ∀ {L : List (Nat × Seg)} {j : Nat}, j < L.length → L.drop j = L.getD j x :: L.drop (j + 1) := by
  intro L
  induction L with
  | nil => intro j h; exact absurd h (Nat.not_lt_zero _)
  | cons a L ih =>
    intro j h
    cases j with
    | zero => rfl
    | succ j =>
      have := ih (j := j) (by simpa using h)
      simpa using this
section MSORT
variable {A : Nat → Nat} {S : Nat → Prop} {h0 h : AH} {X : Nat → Nat → Int32} {wd : Nat → Int32} {N : Nat → Nat} {LL : Nat → List (Nat × Seg)} {Q : Int32 → AH → Prop} {Qv : AH → Prop} {p : Nat}
theorem m_lines (H : G A S h0 X h) (M : MR X wd) (hF : ∀ f, f < 7 → X 1314 f = tF wd N p f) (h15 : X 12 15 = tAr wd N p) (h16 : X 12 16 = tAl wd N p) {l : Nat} (hl : l < 4) {L : List (Nat × Seg)} (lr : LR wd (1166 + 831 * l) L) (ok : LOk false L) (l4 : (lwE L).length ≤ 400) (l10 : L.length ≤ 10) (k : ∀ X' h', G A S h0 X' h' → Off [1318] X X' → Q (srtL wd N p L) h') : lp (fun (k2 : Int32 × AH → Prop) (s2 : Int32 × AH) => w_X12_sortOf_178 (fun (y4 : Int32) h => w_X12_sortOf_202 (A 12) (nI l) y4 h Q) (fun h => w_X12_sortOf_220 h Q) (fun (y4 : Int32) h => k2 (y4, h)) (A 12) (nI l) s2.1 s2.2 Q) ((0 : Int32), h) := by
  have et : (1166 : Int32) + (831 : Int32) * nI l = nI (1166 + 831 * l) := ix2 1166 831 l
  have sgl := sg_lw (a := L)
  refine lp_inv L.length (fun j (s : Int32 × AH) => s.1 = nI j ∧ lwS wd N p L = lwS wd N p (L.drop j) ∧ ∃ X', G A S h0 X' s.2 ∧ Off [1318] X X') (fun j s kk1 hj hI kk => ?_) (fun s kk1 hI => ?_) (Nat.zero_le _) ⟨rfl, rfl, X, H, Off.rf _ _⟩
  · obtain ⟨v, h1⟩ := s
    obtain ⟨e1, el, X1, H1, o1⟩ := hI
    dsimp only at e1 H1 ⊢
    subst e1
    have M1 := M.offL o1 (by decide)
    obtain ⟨R, sp1, sp2⟩ := sg_split (a := L) hj
    rw [drop_c (x := (0, [])) hj] at el
    obtain ⟨okq1, okq2⟩ := ok (L.getD j (0, [])) (by rw [List.getD_eq_getElem?_getD, List.getElem?_eq_getElem hj]; exact List.getElem_mem hj)
    obtain ⟨r1, r2, r3⟩ := lr.2.1 j hj
    generalize L.getD j (0, []) = q at *
    have ln : (sgL L).length = (sgL (L.take j)).length + q.2.length + R.length := by rw [sp1, List.length_append, List.length_append]
    have ln2 : (sgL (L.take (j + 1))).length = (sgL (L.take j)).length + q.2.length := by rw [sp2, List.length_append]
    dsimp only [w_X12_sortOf_178, w_X12_textAt]
    refine fP (o := 12) H1 H1.b rfl rfl ?_
    refine aM H1 M1 (n := 1166 + 831 * l) et (by omega) ?_
    rw [lr.1]
    refine br_go hj (by omega) ?_
    refine vG (o := 12) H1 H1.b rfl ?_
    refine m_holdsLine (F := tF wd N p) (ar := tAr wd N p) (al := tAl wd N p) (mh := 0) (st := false) (f0 := (sgL (L.take j)).length) (s := q.2) H1 M1 (by omega) (by omega) (by rw [Nat.add_assoc (1166 + 831 * l)]; exact r2) (by rw [Nat.add_assoc (1166 + 831 * l), ← ln2]; exact r3) (by omega) (fun m hm => ?_) (fun f hf => by rw [o1 1314 (by decide)]; exact hF f hf) (bI_01 _) (bI_01 _) (fun _ => by rw [o1 12 (by decide)]; exact h15) (fun _ => by rw [o1 12 (by decide)]; exact h16) (fun z => by cases z) okq2 (fun X2 h2 H2 o2 => ?_)
    · have a := lr.2.2 ((sgL (L.take j)).length + m) (by omega)
      have b : (sgL L).getD ((sgL (L.take j)).length + m) (0, 0) = q.2.getD m (0, 0) := by
        rw [sp1, List.append_assoc, List.getD_eq_getElem?_getD, List.getElem?_append_right (by omega), Nat.add_sub_cancel_left, List.getElem?_append_left hm, ← List.getD_eq_getElem?_getD]
      rw [b] at a
      rw [Nat.add_assoc (1166 + 831 * l), Nat.add_assoc (1166 + 831 * l)]
      exact a
    · have o3 := o1.tr o2
      have M2 := M.offL o3 (by decide)
      unfold lwS at el
      simp only [lawR] at el
      refine br_bI (fun c => ?_) (fun c => ?_)
      · rw [if_pos c] at el
        dsimp only [w_X12_sortOf_202, w_X12_lineAt, w_X12_textAt]
        refine fP (o := 12) H2 H2.b rfl rfl ?_
        refine aM H2 M2 (n := 1166 + 831 * l + (1 + 3 * j)) (by rw [et, show (1 : Int32) = nI 1 from rfl, show (3 : Int32) = nI 3 from rfl, nI_add, pk_mul, nI_add, Nat.add_assoc]) (by omega) ?_
        rw [r1]
        have z := k X2 h2 H2 o3
        unfold srtL lwS at z
        have nz : ¬ (nI (q.1 + 1) = (0 : Int32)) := fun w => absurd ((nI_eq (a := q.1 + 1) (b := 0) (by omega) (by decide)).mp w) (by omega)
        rw [el, if_neg nz, nI_pred] at z
        exact z
      · rw [if_neg c] at el
        exact kk _ ⟨(nI_succ j).symm, el, X2, H2, o3⟩
  · obtain ⟨v, h1⟩ := s
    obtain ⟨e1, el, X1, H1, o1⟩ := hI
    dsimp only at e1 H1 ⊢
    subst e1
    have M1 := M.offL o1 (by decide)
    dsimp only [w_X12_sortOf_178, w_X12_textAt, w_X12_sortOf_220]
    refine fP (o := 12) H1 H1.b rfl rfl ?_
    refine aM H1 M1 (n := 1166 + 831 * l) et (by omega) ?_
    rw [lr.1]
    refine br_end ?_
    have z := k X1 h1 H1 o1
    have e0 : lwS wd N p L = 0 := by rw [el, List.drop_length]; rfl
    unfold srtL at z
    rw [if_pos e0] at z
    exact z
theorem m_fs {X1 : Nat → Nat → Int32} {h1 : AH} {n : Nat} {i v : Int32} {K : AH → Prop} (H : G A S h0 X1 h1) (o : OM X X1) (F : ∀ f, f < n → X1 1314 f = tF wd N p f) (hi : i = nI n) (hn : n < 7) (hv : v = tF wd N p n) (kk : ∀ X2 h2, G A S h0 X2 h2 → OM X X2 → (∀ f, f < n + 1 → X2 1314 f = tF wd N p f) → K h2) : tI h1 (A 1314) i v K := by
  refine tG (id := 1314) (n := n) H H.b rfl (by decide) hi hn (fun h2 H2 => kk _ h2 H2 (o.up (mS_row rfl) _) (fun f hf => ?_))
  by_cases e : f = n
  · subst e
    rw [up_same]
    exact hv
  · rw [up_n _ _ _ e]
    exact F f (by omega)
theorem m_sortOf (H : G A S h0 X h) (M : MR X wd) (O : Ok wd N) (hp : p < N 1) (hL : ∀ l, l < N 2 → LR wd (1166 + 831 * l) (LL l)) (hO : LKs LL (N 2)) (k : ∀ X' h', G A S h0 X' h' → OM X X' → Q (srt wd N LL p) h') : w_X12_sortOf (A 12) (nI p) h Q := by
  have hP := O.p.2
  have h2 := O.l.2
  unfold w_X12_sortOf
  refine vG (o := 12) H H.b rfl ?_
  refine p5 H M (by omega) ?_
  obtain ⟨-, ⟨c, ec, hc⟩, -, -, -, hlaw⟩ := (⟨(O.P hp).1, (O.P hp).2.1.ex, (O.P hp).2.2.1, (O.P hp).2.2.2.1, (O.P hp).2.2.2.2.1, (O.P hp).2.2.2.2.2⟩ : _ ∧ (∃ c, wd (302 + 6 * p) = nI c ∧ c ≤ 255) ∧ _ ∧ _ ∧ _ ∧ _)
  rcases hlaw with el | ⟨l, hl, el⟩
  · rw [el]
    have z := k X h H (OM.rf X)
    unfold srt at z
    rw [if_pos el] at z
    exact br_F (by decide) z
  rw [el]
  refine br_T (nI_pos' (by omega)) ?_
  refine fP (o := 12) H H.b rfl rfl ?_
  refine vG (o := 12) H H.b rfl ?_
  refine m_near (b := true) (d := 3) H M O (by omega) ?_
  refine m_fs (n := 0) (X := X) H (OM.rf X) (fun f hf => absurd hf (Nat.not_lt_zero _)) rfl (by decide) rfl (fun X1 h1 H1 o1 F1 => ?_)
  refine fP (o := 12) H1 H1.b rfl rfl ?_
  refine vG (o := 12) H1 H1.b rfl ?_
  refine m_near (b := false) (d := 2) H1 (o1.MR M) O (by omega) ?_
  refine m_fs (n := 1) H1 o1 F1 rfl (by decide) rfl (fun X2 h2 H2 o2 F2 => ?_)
  refine fP (o := 12) H2 H2.b rfl rfl ?_
  refine vG (o := 12) H2 H2.b rfl ?_
  refine p2 H2 (o2.MR M) (by omega) ?_
  refine m_fs (n := 2) H2 o2 F2 rfl (by decide) rfl (fun X3 h3 H3 o3 F3 => ?_)
  refine fP (o := 12) H3 H3.b rfl rfl ?_
  refine fP (o := 12) H3 H3.b rfl rfl ?_
  refine aM H3 (o3.MR M) (n := 7) rfl (by decide) ?_
  refine m_fs (n := 3) H3 o3 F3 rfl (by decide) rfl (fun X4 h4 H4 o4 F4 => ?_)
  refine fP (o := 12) H4 H4.b rfl rfl ?_
  refine fP (o := 12) H4 H4.b rfl rfl ?_
  refine vG (o := 12) H4 H4.b rfl ?_
  refine p1 H4 (o4.MR M) (by omega) ?_
  rw [ec]
  refine aM H4 (o4.MR M) (n := 13 + c) (nI_add 13 c) (by omega) ?_
  refine m_fs (n := 4) H4 o4 F4 rfl (by decide) (by unfold tF; rw [if_neg (by decide), if_neg (by decide), if_neg (by decide), if_neg (by decide), if_pos rfl, ec, nt_nI (by omega)]) (fun X5 h5 H5 o5 F5 => ?_)
  refine fP (o := 12) H5 H5.b rfl rfl ?_
  refine vG (o := 12) H5 H5.b rfl ?_
  have rest : ∀ r, r = tF wd N p 5 → tI h5 (A 1314) 5 r fun h => vr h (A 12) 12 (w_X12_of (A 12) (nI p) 1 h fun x17 h => vr h (A 12) 12 (w_X12_nearestTo (A 12) (nI p) 1 x17 h fun x18 h => fN h (A 12) 12 14 fun a19 => br (0 ≤ x18) (vr h (A 12) 12 (w_X12_of (A 12) (nI p) 1 h fun x20 h => vr h (A 12) 12 (w_X12_of (A 12) x18 1 h fun x21 h => w_X12_far x20 x21 h fun x22 h => w_X12_sortOf_138 (A 12) (nI l) a19 6 x22 h Q))) (w_X12_sortOf_138 (A 12) (nI l) a19 6 99 h Q))) := by
    intro r hr
    refine m_fs (n := 5) H5 o5 F5 rfl (by decide) hr (fun X6 h6 H6 o6 F6 => ?_)
    refine vG (o := 12) H6 H6.b rfl ?_
    refine p1 H6 (o6.MR M) (by omega) ?_
    refine vG (o := 12) H6 H6.b rfl ?_
    refine m_nearestTo (b := true) H6 (o6.MR M) O (by omega) ?_
    refine fP (o := 12) H6 H6.b rfl rfl ?_
    have fin : ∀ v, v = tF wd N p 6 → w_X12_sortOf_138 (A 12) (nI l) (A 1314) 6 v h6 Q := by
      intro v hv
      dsimp only [w_X12_sortOf_138, w_X12_sortOf_154, w_X12_sortOf_172]
      refine m_fs (n := 6) H6 o6 F6 rfl (by decide) hv (fun X7 h7 H7 o7 F7 => ?_)
      refine fP (o := 12) H7 H7.b rfl rfl ?_
      refine aG (id := 1314) (n := 5) H7 H7.b rfl (by decide) rfl (by decide) ?_
      rw [F7 5 (by decide)]
      have g2 : ∀ a b, a = tAr wd N p → b = tAl wd N p → ∀ X8 h8, G A S h0 X8 h8 → OM X X8 → (∀ f, f < 7 → X8 1314 f = tF wd N p f) → X8 12 15 = tAr wd N p → uZ h8 (A 12) 12 16 b fun h => lp (fun (k2 : Int32 × AH → Prop) (s2 : Int32 × AH) => w_X12_sortOf_178 (fun (y4 : Int32) h => w_X12_sortOf_202 (A 12) (nI l) y4 h Q) (fun h => w_X12_sortOf_220 h Q) (fun (y4 : Int32) h => k2 (y4, h)) (A 12) (nI l) s2.1 s2.2 Q) ((0 : Int32), h) := by
        intro a b ha hb X8 h8 H8 o8 F8 e15
        refine uZG (o := 12) H8 H8.b rfl (by rw [hb]; exact bI_01 _) (fun h9 H9 => ?_)
        have o9 : OM X (up X8 12 16 b) := o8.up (by decide) _
        have okl := hO l hl
        refine m_lines (wd := wd) (N := N) (p := p) H9 (o9.MR M) (fun f hf => by rw [up_row _ _ _ (by decide)]; exact F8 f hf) (by rw [up_n _ _ _ (by decide)]; exact e15) (by rw [up_same]; exact hb) (by omega) (hL l hl) okl.1 okl.2.1 okl.2.2 (fun X' h' H' o' => ?_)
        have z := k X' h' H' (o9.tr (OM.of18 o'))
        unfold srt at z
        rw [el, if_neg (nI_n1 (m := l) (by omega)), nt_nI (by omega)] at z
        exact z
      have g1 : ∀ a, a = tAr wd N p → uZ h7 (A 12) 12 15 a fun h => fN h (A 12) 12 14 fun a1 => aI h a1 1 fun x2 => br (x2 = 0) (uZ h (A 12) 12 16 1 fun h => lp (fun (k2 : Int32 × AH → Prop) (s2 : Int32 × AH) => w_X12_sortOf_178 (fun (y4 : Int32) h => w_X12_sortOf_202 (A 12) (nI l) y4 h Q) (fun h => w_X12_sortOf_220 h Q) (fun (y4 : Int32) h => k2 (y4, h)) (A 12) (nI l) s2.1 s2.2 Q) ((0 : Int32), h)) (uZ h (A 12) 12 16 0 fun h => lp (fun (k2 : Int32 × AH → Prop) (s2 : Int32 × AH) => w_X12_sortOf_178 (fun (y4 : Int32) h => w_X12_sortOf_202 (A 12) (nI l) y4 h Q) (fun h => w_X12_sortOf_220 h Q) (fun (y4 : Int32) h => k2 (y4, h)) (A 12) (nI l) s2.1 s2.2 Q) ((0 : Int32), h)) := by
        intro a ha
        refine uZG (o := 12) H7 H7.b rfl (by rw [ha]; exact bI_01 _) (fun h8 H8 => ?_)
        have o8 : OM X (up X7 12 15 a) := o7.up (by decide) _
        have F8 : ∀ f, f < 7 → up X7 12 15 a 1314 f = tF wd N p f := fun f hf => by rw [up_row _ _ _ (by decide)]; exact F7 f hf
        have e15 : up X7 12 15 a 12 15 = tAr wd N p := by rw [up_same]; exact ha
        refine fP (o := 12) H8 H8.b rfl rfl ?_
        refine aG (id := 1314) (n := 1) H8 H8.b rfl (by decide) rfl (by decide) ?_
        rw [F8 1 (by decide)]
        refine br_if (fun w => ?_) (fun w => ?_)
        · exact g2 a 1 ha (by unfold tAl; rw [decide_eq_true w]; rfl) _ h8 H8 o8 F8 e15
        · exact g2 a 0 ha (by unfold tAl; rw [decide_eq_false w]; rfl) _ h8 H8 o8 F8 e15
      refine br_if (fun w => ?_) (fun w => ?_)
      · exact g1 0 (by unfold tAr; rw [decide_eq_false (fun z => z w)]; rfl)
      · exact g1 1 (by unfold tAr; rw [decide_eq_true w]; rfl)
    have e6 : tF wd N p 6 = foeFar wd N p := by
      unfold tF
      rw [if_neg (by decide), if_neg (by decide), if_neg (by decide), if_neg (by decide), if_neg (by decide), if_neg (by decide)]
    cases e : nst wd true p (wd (302 + 6 * p)) (N 1) with
    | none => exact br_F (by decide) (fin 99 (by rw [e6]; unfold foeFar; rw [e]))
    | some q =>
      have hq := nst_lt e
      refine br_T (nI_pos' (by omega)) ?_
      refine vG (o := 12) H6 H6.b rfl ?_
      refine p1 H6 (o6.MR M) (by omega) ?_
      refine vG (o := 12) H6 H6.b rfl ?_
      refine p1 (f := q) H6 (o6.MR M) (by omega) ?_
      refine m_far ?_
      exact fin _ (by rw [e6]; unfold foeFar; rw [e])
  have e5 : tF wd N p 5 = rnd wd p := by
    unfold tF
    rw [if_neg (by decide), if_neg (by decide), if_neg (by decide), if_neg (by decide), if_neg (by decide), if_pos rfl]
  have h8 := O.g.2
  exact m_roundsOf H5 (o5.MR M) O hp (fun e => rest 0 (by rw [e5]; unfold rnd; rw [if_pos e])) (fun g hg e => rest _ (by rw [e5]; unfold rnd; rw [e, if_neg (nI_n1 (m := g) (by omega)), nt_nI (by omega)]))
end MSORT
