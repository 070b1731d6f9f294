/-! one step to another cell: the reference walks over all cells -/
theorem far_nb {c j : Nat} (hc : c ≤ 255) (hj : j ≤ 255) : farI (nI j) (nI c) ≤ 1 ↔ nbN c j = true := by
  obtain ⟨e, h⟩ := far_N hj hc
  rw [e]
  unfold nbN
  rw [decide_eq_true_eq]
  have : nI (farN j c) ≤ nI 1 ↔ farN j c ≤ 1 := nI_leI (by omega) (by decide)
  refine this.trans ?_
  unfold farN dist
  constructor
  · intro z
    have z1 := Nat.le_trans (Nat.le_max_left _ _) z
    have z2 := Nat.le_trans (Nat.le_max_right _ _) z
    split at z1 <;> split at z2 <;> omega
  · rintro ⟨⟨a1, a2⟩, b1, b2⟩
    apply Nat.max_le.mpr
    constructor <;> split <;> omega
def scO (s : Nat → Int32) : Option Nat → Int32
  | none => 0
  | some b => s b
section MMOVE
variable {A : Nat → Nat} {S : Nat → Prop} {h0 h : AH} {X : Nat → Nat → Int32} {wd : Nat → Int32} {N : Nat → Nat} {Q : Int32 → AH → Prop} {Qv : AH → Prop} {p : Nat}
theorem m_mvLoop (H : G A S h0 X h) (M : MR X wd) (hp : p < 8) {c : Nat} (hc : c ≤ 255) (ec : wd (302 + 6 * p) = nI c) {v2 v4 : Int32} {s : Nat → Int32} (hsc : ∀ (x135 : Int32 → AH → Prop) (k : Int32 → Int32 → Int32 → AH → Prop) v5 v6 j, j < 256 → w_X12_moves_104 x135 k (A 12) (nI p) v2 (nI c) v4 v5 v6 (nI j) (s j) h Qv → w_X12_moves_45 x135 k (A 12) (nI p) v2 (nI c) v4 v5 v6 (nI j) h Qv ∨ ¬ nbN c j = true) (hno : ∀ (x135 : Int32 → AH → Prop) (k : Int32 → Int32 → Int32 → AH → Prop) v5 v6 j, j < 256 → ¬ nbN c j = true → k v5 v6 (nI j + 1) h → w_X12_moves_45 x135 k (A 12) (nI p) v2 (nI c) v4 v5 v6 (nI j) h Qv) (k : ∀ h', G A S h0 (up X 1301 (302 + 6 * p) (oI (bst s none ((List.range 256).filter (nbN c))))) h' → MR (up X 1301 (302 + 6 * p) (oI (bst s none ((List.range 256).filter (nbN c))))) (mvW wd p s) → Qv h') : lp (fun (k2 : Int32 × Int32 × Int32 × AH → Prop) (s2 : Int32 × Int32 × Int32 × AH) => w_X12_moves_45 (fun (y5 : Int32) h => w_X12_moves_135 (A 12) (nI p) y5 h Qv) (fun (y5 : Int32) (y6 : Int32) (y7 : Int32) h => k2 (y5, y6, y7, h)) (A 12) (nI p) v2 (nI c) v4 s2.1 s2.2.1 s2.2.2.1 s2.2.2.2 Qv) ((-1 : Int32), (0 : Int32), (0 : Int32), h) := by
  refine lp_up 256 (fun j => (oI (bst s none ((List.range j).filter (nbN c))), scO s (bst s none ((List.range j).filter (nbN c))), nI j, h)) (fun j kk1 hj kk => ?_) (fun kk1 => ?_) (Nat.zero_le _)
  · dsimp only at kk ⊢
    rw [bst_rng] at kk
    by_cases c1 : nbN c j = true
    · rw [if_pos c1] at kk
      have bb : ∀ b, bst s none ((List.range j).filter (nbN c)) = some b → b < 256 := by
        intro b e
        obtain ⟨x, e1, e2⟩ := bst_some (s := s) (l := (List.range j).filter (nbN c)) (o := none) (Or.inr (fun z => by rw [z] at e; cases e))
        rw [e] at e1
        cases e1
        rcases e2 with e2 | e2
        · cases e2
        · have := List.mem_range.mp (List.mem_filter.mp e2).1
          omega
      generalize bst s none ((List.range j).filter (nbN c)) = o at *
      refine (hsc _ _ _ _ j hj ?_).resolve_right (fun z => z c1)
      dsimp only [w_X12_moves_104, w_X12_moves_121, w_X12_moves_129]
      rw [nI_succ] at kk
      cases o with
      | none => exact br_T (by decide) kk
      | some b =>
        refine br_F (nI_nlt (a := b) (b := 0) (by omega) (by have := bb b rfl; omega)) ?_
        dsimp only [scO] at kk ⊢
        refine br_if (fun w => ?_) (fun w => ?_)
        · rw [if_pos w] at kk
          exact kk
        · rw [if_neg w] at kk
          exact kk
    · rw [if_neg c1, nI_succ] at kk
      exact hno _ _ _ _ j hj c1 kk
  · dsimp only [w_X12_moves_45, w_X12_moves_135]
    refine br_T (by decide) ?_
    refine vG (o := 12) H H.b rfl ?_
    refine m_sets H M (302 + 6 * p) 1 rfl (by omega) (by omega) (fun h' H' M' => k h' H' ?_)
    unfold mvW
    rw [ec, nt_nI (by omega)]
    exact M'
theorem m_moves1 (H : G A S h0 X h) (M : MR X wd) (O : Ok wd N) (hp : p < N 1) (k : ∀ X' h', G A S h0 X' h' → MR X' (fleeW wd N p) → (∀ id, id ≠ 1301 → X' id = X id) → (∀ w, 8645 ≤ w → X' 1301 w = X 1301 w) → Qv h') : w_X12_moves (A 12) (nI p) 1 h Qv := by
  have hP := O.p.2
  obtain ⟨c, ec, hc⟩ := (O.P hp).2.1.ex
  dsimp only [w_X12_moves, w_X12_moves_32]
  refine vG (o := 12) H H.b rfl ?_
  refine p1 H M (by omega) ?_
  rw [ec]
  refine vG (o := 12) H H.b rfl ?_
  refine m_nearestTo (b := false) H M O (by omega) ?_
  refine br_F nz_1 ?_
  refine vG (o := 12) H H.b rfl ?_
  refine m_nearestTo (b := true) H M O (by omega) ?_
  unfold fleeW at k
  rw [ec] at k
  cases e : nst wd true p (nI c) (N 1) with
  | none =>
    rw [e] at k
    exact br_F (by decide) (k X h H M (fun _ _ => rfl) (fun _ _ => rfl))
  | some q =>
    rw [e] at k
    have hq := nst_lt e
    refine br_T (nI_pos' (by omega)) ?_
    have nz : ∀ x, nst wd true p (nI x) (N 1) ≠ none := fun x z => by
      have : ∀ {n : Nat} {a b : Int32}, nst wd true p a n = none → nst wd true p b n = none := by
        intro n
        induction n with
        | zero => intro a b _; rfl
        | succ n ih =>
          intro a b z
          simp only [nst] at z ⊢
          cases y : nst wd true p a n with
          | none =>
            rw [y] at z
            rw [ih y]
            dsimp only at z ⊢
            split at z
            · cases z
            · rename_i w
              rw [if_neg w]
          | some r =>
            rw [y] at z
            dsimp only at z
            split at z <;> cases z
      rw [this z] at e
      cases e
    refine m_mvLoop (s := sFlee wd N p) H M (by omega) hc ec (fun x135 k v5 v6 j hj kk => ?_) (fun x135 k v5 v6 j hj hn kk => ?_) (fun h' H' M' => k _ h' H' M' (fun id hi => up_row _ _ _ hi) (fun w hw => up_n _ _ _ (by omega)))
    · by_cases c1 : nbN c j = true
      · refine Or.inl ?_
        dsimp only [w_X12_moves_45]
        refine br_go (a := 256) hj (by decide) ?_
        refine m_far ?_
        refine br_T ((far_nb hc (by omega)).mpr c1) ?_
        refine br_F nz_1 ?_
        refine vG (o := 12) H H.b rfl ?_
        refine m_nearestTo (b := true) H M O (by omega) ?_
        unfold sFlee at kk
        cases e2 : nst wd true p (nI j) (N 1) with
        | none => exact absurd e2 (nz j)
        | some r =>
          rw [e2] at kk
          have hr := nst_lt e2
          refine vG (o := 12) H H.b rfl ?_
          refine p1 (f := r) H M (by omega) ?_
          refine m_far ?_
          exact kk
      · exact Or.inr c1
    · dsimp only [w_X12_moves_45, w_X12_moves_129]
      refine br_go (a := 256) hj (by decide) ?_
      refine m_far ?_
      exact br_F (fun z => hn ((far_nb hc (by omega)).mp z)) kk
theorem m_moves0 (H : G A S h0 X h) (M : MR X wd) (O : Ok wd N) (hp : p < N 1) (k : ∀ X' h', G A S h0 X' h' → MR X' (joinW wd N p) → (∀ id, id ≠ 1301 → X' id = X id) → (∀ w, 8645 ≤ w → X' 1301 w = X 1301 w) → Qv h') : w_X12_moves (A 12) (nI p) 0 h Qv := by
  have hP := O.p.2
  obtain ⟨c, ec, hc⟩ := (O.P hp).2.1.ex
  dsimp only [w_X12_moves, w_X12_moves_32]
  refine vG (o := 12) H H.b rfl ?_
  refine p1 H M (by omega) ?_
  rw [ec]
  refine vG (o := 12) H H.b rfl ?_
  refine m_nearestTo (b := false) H M O (by omega) ?_
  refine br_T rfl ?_
  unfold joinW at k
  rw [ec] at k
  cases e : nst wd false p (nI c) (N 1) with
  | none =>
    rw [e] at k
    exact br_F (by decide) (k X h H M (fun _ _ => rfl) (fun _ _ => rfl))
  | some q =>
    rw [e] at k
    have hq := nst_lt e
    refine br_T (nI_pos' (by omega)) ?_
    refine m_mvLoop (s := sJoin wd q) H M (by omega) hc ec (fun x135 k v5 v6 j hj kk => ?_) (fun x135 k v5 v6 j hj hn kk => ?_) (fun h' H' M' => k _ h' H' M' (fun id hi => up_row _ _ _ hi) (fun w hw => up_n _ _ _ (by omega)))
    · by_cases c1 : nbN c j = true
      · refine Or.inl ?_
        dsimp only [w_X12_moves_45]
        refine br_go (a := 256) hj (by decide) ?_
        refine m_far ?_
        refine br_T ((far_nb hc (by omega)).mpr c1) ?_
        refine br_T rfl ?_
        refine vG (o := 12) H H.b rfl ?_
        refine p1 (f := q) H M (by omega) ?_
        refine m_far ?_
        exact kk
      · exact Or.inr c1
    · dsimp only [w_X12_moves_45, w_X12_moves_129]
      refine br_go (a := 256) hj (by decide) ?_
      refine m_far ?_
      exact br_F (fun z => hn ((far_nb hc (by omega)).mp z)) kk
end MMOVE
