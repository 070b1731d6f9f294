/-! holds and odds: both sides -/
noncomputable def stT (wd : Nat → Int32) (N : Nat → Nat) (s : Seg) : Bool := hdS (fcF wd N) 0 0 (fcM wd N 16) s
def ods (wd : Nat → Int32) (T : Nat → Bool) : Nat → Int32
  | 0 => 0
  | n + 1 => ods wd T n + (if T n = true then wd (1161 + n) else 0)
def odA (wd : Nat → Int32) (T : Nat → Bool) (n v : Nat) : Int32 := if T v = true then (10000 * wd (1161 + v)) / ods wd T n else 0
noncomputable def hldS (wd : Nat → Int32) (N : Nat → Nat) (T : Nat → Bool) (v : Int32) : Int32 × Int32 := cIf (isN v (N 6)) (0, bI (T (nt v))) (1, 0)
noncomputable def oddS (wd : Nat → Int32) (N : Nat → Nat) (T : Nat → Bool) (v : Int32) : Int32 × Int32 := cIf (isN v (N 6)) (0, odA wd T (N 6) (nt v)) (1, 0)
theorem ods_nat {wd : Nat → Int32} {N : Nat → Nat} (O : Ok wd N) {T : Nat → Bool} : ∀ {n : Nat}, n ≤ N 6 → ∃ m, ods wd T n = nI m ∧ m ≤ 99 * n ∧ ∀ s, s < n → T s = true → 1 ≤ m := by
  intro n
  induction n with
  | zero => exact fun _ => ⟨0, rfl, by omega, fun s hs => absurd hs (Nat.not_lt_zero _)⟩
  | succ n ih =>
    intro hn
    obtain ⟨m, e, hm, hw⟩ := ih (by omega)
    obtain ⟨⟨g1, g2⟩, g3⟩ := O.2.2.2.2.2.2.2 n (by omega)
    unfold ods
    by_cases c : T n = true
    · refine ⟨m + nt (wd (1161 + n)), ?_, by omega, fun s hs ht => by omega⟩
      rw [if_pos c, e, g1, nI_add, ← g1]
    · refine ⟨m, ?_, by omega, fun s hs ht => ?_⟩
      · rw [if_neg c, e, Int32.add_zero]
      · by_cases d : s = n
        · exact absurd (d ▸ ht) c
        · exact hw s (by omega) ht
theorem ods_ne {wd : Nat → Int32} {N : Nat → Nat} (O : Ok wd N) {T : Nat → Bool} {v : Nat} (hv : v < N 6) (ht : T v = true) : ¬ ods wd T (N 6) = 0 := by
  obtain ⟨m, e, hm, hw⟩ := ods_nat O (T := T) (Nat.le_refl _)
  have h6 := O.s.2
  rw [e]
  intro z
  have := (nI_eq (a := m) (b := 0) (by omega) (by decide)).mp z
  have := hw v hv ht
  omega
def SOk (SS : Nat → Seg) (n : Nat) : Prop := ∀ v, v < n → TY true 19 true (SS v) ∧ SS v ≠ [] ∧ (enc (SS v)).length ≤ 400
theorem OM.of18 {X X' : Nat → Nat → Int32} (o : Off [1318] X X') : OM X X' := fun id m hm => by
  by_cases e : id = 1318
  · rw [e] at hm
    exact Bool.noConfusion (hm.symm.trans (show mS 1318 m = true from mS_row rfl))
  · rw [o id (by simpa using e)]
section ODDS
variable {A : Nat → Nat} {S : Nat → Prop} {h0 h : AH} {X : Nat → Nat → Int32} {wd : Nat → Int32} {N : Nat → Nat} {SS : Nat → Seg} {Q : Int32 → AH → Prop} {Qv : AH → Prop} {a3 : Nat}
def MF (X : Nat → Nat → Int32) (wd : Nat → Int32) (N : Nat → Nat) : Prop := (∀ j, j < 7 → X 1314 j = fcF wd N j) ∧ X 12 17 = fcM wd N 16
theorem MF.of {X X' : Nat → Nat → Int32} (F : MF X wd N) (o : Off [1318] X X') : MF X' wd N := ⟨fun j hj => by rw [o 1314 (by decide)]; exact F.1 j hj, by rw [o 12 (by decide)]; exact F.2⟩
theorem m_hst (H : G A S h0 X h) (M : MR X wd) (F : MF X wd N) {v : Nat} (hv : v < 5) (s1 : SR wd (1166 + 831 * (4 + v)) (SS v)) (s2 : TY true 19 true (SS v)) (s3 : (enc (SS v)).length ≤ 400) {vi : Int32} (e : vi = nI (4 + v)) (k : ∀ X' h', G A S h0 X' h' → Off [1318] X X' → MF X' wd N → Q (bI (stT wd N (SS v))) h') : w_X12_holdsLine (A 12) vi 0 h Q := by
  subst e
  have l5 := seg_len (s := SS v)
  have e0 : (0 : Int32) = nI 0 := rfl
  rw [e0]
  refine m_holdsLine (ln := 0) (f0 := 0) (st := true) H M (by omega) (by decide) s1.1 (by rw [Nat.zero_add]; exact s1.2.1) (by omega) (fun m hm => ?_) F.1 (Or.inl rfl) (Or.inl rfl) (fun z => by cases z) (fun z => by cases z) (fun _ => F.2) (Or.inr s2) (fun X' h' H' o => k X' h' H' o (F.of o))
  have := s1.2.2 m hm
  rw [Nat.zero_add, Nat.add_assoc, Nat.add_assoc (1166 + 831 * (4 + v)) 32]
  exact this
theorem m_odds (H : G A S h0 X h) (M : MR X wd) (O : Ok wd N) (hS : ∀ v, v < N 6 → SR wd (1166 + 831 * (4 + v)) (SS v)) (hO : SOk SS (N 6)) {v : Int32} (k : ∀ X' h', G A S h0 X' h' → OT X X' → X' 12 0 = (oddS wd N (fun j => stT wd N (SS j)) v).1 → Q (oddS wd N (fun j => stT wd N (SS j)) v).2 h') : w_X12_odds (A 12) v h Q := by
  obtain ⟨e6, h6⟩ := O.s
  unfold w_X12_odds
  refine m_ent H M (fun X1 h1 H1 M1 o1 t1 => ?_)
  refine vG (o := 12) H1 H1.b rfl ?_
  refine m_num (c := 6) H1 M1 rfl (by decide) (by omega) e6 (fun c => ?_) (fun c => ?_)
  · rw [oddS, cIf_t c] at k
    obtain ⟨v, hv, rfl⟩ := c
    rw [nt_nI (by omega)] at k
    refine vG (o := 12) H1 H1.b rfl ?_
    refine thr0 ?_
    refine br_T rfl ?_
    refine vG (o := 12) H1 H1.b rfl ?_
    refine m_asks H1 M1 O (fun X2 h2 H2 o2 F2 G2 => ?_)
    refine lp_inv (N 6) (fun j (s : Int32 × Int32 × AH) => s.1 = ods wd (fun j => stT wd N (SS j)) j ∧ s.2.1 = nI j ∧ ∃ X', G A S h0 X' s.2.2 ∧ OM X1 X' ∧ MF X' wd N) (fun j s kk1 hj hI kk => ?_) (fun s kk1 hI => ?_) (Nat.zero_le _) ⟨rfl, rfl, X2, H2, o2, F2, G2⟩
    · obtain ⟨acc, i, h3⟩ := s
      obtain ⟨ea, ei, X3, H3, o3, F3⟩ := hI
      dsimp only at ea ei H3 ⊢
      subst ea ei
      have M3 := o3.MR M1
      dsimp only [w_X12_odds_30, w_X12_odds_67]
      refine fP (o := 12) H3 H3.b rfl rfl ?_
      refine aM H3 M3 (n := 6) rfl (by decide) ?_
      rw [e6]
      refine br_go hj (by omega) ?_
      refine vG (o := 12) H3 H3.b rfl ?_
      refine m_hst (SS := SS) (v := j) H3 M3 F3 (by omega) (hS j hj) (hO j hj).1 (hO j hj).2.2 (nI_add 4 j) (fun X4 h4 H4 o4 F4 => ?_)
      have key : ∀ w, w = (if stT wd N (SS j) = true then wd (1161 + j) else 0) → kk1 (ods wd (fun j => stT wd N (SS j)) j + w, nI j + 1, h4) := fun w hw => kk _ ⟨by rw [hw]; rfl, (nI_succ j).symm, X4, H4, o3.tr (OM.of18 o4), F4⟩
      refine br_bI (fun c => ?_) (fun c => bd_i (key 0 (by rw [if_neg c])))
      refine fP (o := 12) H4 H4.b rfl rfl ?_
      refine aM H4 ((OM.of18 o4).MR M3) (n := 1161 + j) (nI_add 1161 j) (by omega) ?_
      exact bd_i (key _ (by rw [if_pos c]))
    · obtain ⟨acc, i, h3⟩ := s
      obtain ⟨ea, ei, X3, H3, o3, F3⟩ := hI
      dsimp only at ea ei H3 ⊢
      subst ea ei
      have M3 := o3.MR M1
      dsimp only [w_X12_odds_30, w_X12_odds_75, w_X12_odds_106]
      refine fP (o := 12) H3 H3.b rfl rfl ?_
      refine aM H3 M3 (n := 6) rfl (by decide) ?_
      rw [e6]
      refine br_end ?_
      refine vG (o := 12) H3 H3.b rfl ?_
      refine m_hst (SS := SS) (v := v) H3 M3 F3 (by omega) (hS v hv) (hO v hv).1 (hO v hv).2.2 (nI_add 4 v) (fun X4 h4 H4 o4 F4 => ?_)
      have z := k X4 h4 H4 (o1.tr (OT.of (o3.tr (OM.of18 o4)))) (by
        rw [o4 12 (by decide), o3 12 0 (by decide)]
        exact t1)
      refine br_bI (fun c => ?_) (fun c => ?_)
      · refine fP (o := 12) H4 H4.b rfl rfl ?_
        refine aM H4 ((OM.of18 o4).MR M3) (n := 1161 + v) (nI_add 1161 v) (by omega) ?_
        refine ⟨ods_ne O (T := fun j => stT wd N (SS j)) hv c, ?_⟩
        dsimp only [odA] at z
        rw [if_pos c] at z
        exact z
      · dsimp only [odA] at z
        rw [if_neg c] at z
        exact z
  · rw [oddS, cIf_f c] at k
    refine vG (o := 12) H1 H1.b rfl ?_
    refine thr1 H1 (fun h2 H2 => br_F (by decide) (k _ h2 H2 (o1.th 1) (up_same _ _ _ _)))
theorem m_holds (H : G A S h0 X h) (M : MR X wd) (O : Ok wd N) (hS : ∀ v, v < N 6 → SR wd (1166 + 831 * (4 + v)) (SS v)) (hO : SOk SS (N 6)) {v : Int32} (k : ∀ X' h', G A S h0 X' h' → OT X X' → X' 12 0 = (hldS wd N (fun j => stT wd N (SS j)) v).1 → Q (hldS wd N (fun j => stT wd N (SS j)) v).2 h') : w_X12_holds (A 12) v h Q := by
  obtain ⟨e6, h6⟩ := O.s
  unfold w_X12_holds
  refine m_ent H M (fun X1 h1 H1 M1 o1 t1 => ?_)
  refine vG (o := 12) H1 H1.b rfl ?_
  refine m_num (c := 6) H1 M1 rfl (by decide) (by omega) e6 (fun c => ?_) (fun c => ?_)
  · rw [hldS, cIf_t c] at k
    obtain ⟨v, hv, rfl⟩ := c
    rw [nt_nI (by omega)] at k
    refine vG (o := 12) H1 H1.b rfl ?_
    refine thr0 ?_
    refine br_T rfl ?_
    refine vG (o := 12) H1 H1.b rfl ?_
    refine m_asks H1 M1 O (fun X2 h2 H2 o2 F2 G2 => ?_)
    refine vG (o := 12) H2 H2.b rfl ?_
    refine m_hst (SS := SS) (v := v) H2 (o2.MR M1) ⟨F2, G2⟩ (by omega) (hS v hv) (hO v hv).1 (hO v hv).2.2 (nI_add 4 v) (fun X4 h4 H4 o4 F4 => ?_)
    refine ⟨?_, k X4 h4 H4 (o1.tr (OT.of (o2.tr (OM.of18 o4)))) (by
        rw [o4 12 (by decide), o2 12 0 (by decide)]
        exact t1)⟩
    cases stT wd N (SS v) with
    | true => exact Or.inr rfl
    | false => exact Or.inl rfl
  · rw [hldS, cIf_f c] at k
    refine vG (o := 12) H1 H1.b rfl ?_
    refine thr1 H1 (fun h2 H2 => br_F (by decide) (k _ h2 H2 (o1.th 1) (up_same _ _ _ _)))
end ODDS
