/-! one step to another cell: the class walks over nine -/
def besV (v0 v1 : Int32) : Int32 := if (jrem v0 16 + jrem v1 3) - 1 < 0 then -1 else if 15 < (jrem v0 16 + jrem v1 3) - 1 then -1 else if (v0 / 16 + v1 / 3) - 1 < 0 then -1 else if 15 < (v0 / 16 + v1 / 3) - 1 then -1 else 16 * ((v0 / 16 + v1 / 3) - 1) + ((jrem v0 16 + jrem v1 3) - 1)
theorem bes_eq : ∀ c, c < 256 → ∀ k, k < 9 → besV (nI c) (nI k) = oI (besN c k) := by decide +kernel
theorem neg_lt16 : ∀ a, a < 16 → ∀ b, b < 16 → (-(nI a) < -(nI b) ↔ ¬ nI a ≤ nI b) := by decide +kernel
theorem bes_lt : ∀ c, c < 256 → ∀ k, k < 9 → ∀ x ∈ besN c k, x < 256 := by decide +kernel
theorem bst_9 {s : Nat → Int32} {c j : Nat} : bst s none ((List.range (j + 1)).filterMap (besN c)) = (match besN c j with
    | none => bst s none ((List.range j).filterMap (besN c))
    | some x => (match bst s none ((List.range j).filterMap (besN c)) with
      | none => some x
      | some b => if s b < s x then some x else some b)) := by
  rw [List.range_succ, List.filterMap_append, bst_app]
  cases e : besN c j with
  | none =>
    rw [show List.filterMap (besN c) [j] = [] by simp [e]]
    cases bst s none ((List.range j).filterMap (besN c)) <;> rfl
  | some x =>
    rw [show List.filterMap (besN c) [j] = [x] by simp [e]]
    cases bst s none ((List.range j).filterMap (besN c)) with
    | none => rfl
    | some b => simp only [bst]
theorem bst_9lt {s : Nat → Int32} {c j b : Nat} (hc : c < 256) (hj : j ≤ 9) (e : bst s none ((List.range j).filterMap (besN c)) = some b) : b < 256 := by
  obtain ⟨x, e1, e2⟩ := bst_some (s := s) (l := (List.range j).filterMap (besN c)) (o := none) (Or.inr (fun z => by rw [z] at e; cases e))
  rw [e] at e1
  cases e1
  rcases e2 with e2 | e2
  · cases e2
  · obtain ⟨k, k1, k2⟩ := List.mem_filterMap.mp e2
    have := List.mem_range.mp k1
    exact bes_lt c hc k (by omega) b k2
section CMOVE
variable {A : Nat → Nat} {S : Nat → Prop} {h0 h : AH} {X : Nat → Nat → Int32} {wd : Nat → Int32} {N : Nat → Nat} {Q : Int32 → AH → Prop} {Qv : AH → Prop} {p : Nat}
theorem c_besideOf {c k : Nat} (hc : c < 256) (hk : k < 9) (kk : Q (oI (besN c k)) h) : w_X0_besideOf (nI c) (nI k) h Q := by
  rw [← bes_eq c hc k hk] at kk
  dsimp only [w_X0_besideOf, w_X3_column, w_X3_row, w_X11_isWithin, w_X11_isWithin_14, w_X11_isWithin_15, w_X0_besideOf_46, w_X0_besideOf_47, w_X0_besideOf_64]
  unfold besV at kk
  refine bd_i (bd_i ?_)
  refine br_if (fun w1 => ⟨Or.inl rfl, br_T rfl (br_T rfl (by rw [if_pos w1] at kk; exact kk))⟩) (fun w1 => ?_)
  rw [if_neg w1] at kk
  refine br_if (fun w2 => ⟨Or.inl rfl, br_T rfl (br_T rfl (by rw [if_pos w2] at kk; exact kk))⟩) (fun w2 => ⟨Or.inr rfl, br_F nz_1 ?_⟩)
  rw [if_neg w2] at kk
  refine br_if (fun w3 => ⟨Or.inl rfl, br_T rfl (br_T rfl (by rw [if_pos w3] at kk; exact kk))⟩) (fun w3 => ?_)
  rw [if_neg w3] at kk
  refine br_if (fun w4 => ⟨Or.inl rfl, br_T rfl (br_T rfl (by rw [if_pos w4] at kk; exact kk))⟩) (fun w4 => ⟨Or.inr rfl, br_F nz_1 (br_F nz_1 ?_)⟩)
  rw [if_neg w4] at kk
  exact kk
theorem nst_no {wd : Nat → Int32} {b : Bool} {p : Nat} : ∀ {n : Nat} {a c : Int32}, nst wd b p a n = none → nst wd b p c n = none := by
  intro n
  induction n with
  | zero => intro a c _; rfl
  | succ n ih =>
    intro a c z
    simp only [nst] at z ⊢
    cases y : nst wd b p a n with
    | none =>
      rw [y] at z
      rw [ih y]
      dsimp only at z ⊢
      split at z
      · cases z
      · rename_i w
        rw [if_neg w]
    | some r =>
      rw [y] at z
      dsimp only at z
      split at z <;> cases z
def scM (s : Nat → Int32) : Option Nat → Int32
  | none => -1
  | some b => s b
theorem c_flee (H : G A S h0 X h) (R : CR X wd) (O : Ok wd N) (hp : p < N 1) (k : ∀ X' h', G A S h0 X' h' → CR X' (fleeW wd N p) → Off [503] X X' → Qv h') : w_X0_flee (A 0) (nI p) h Qv := by
  have hP := O.p.2
  obtain ⟨c, ec, hc⟩ := (O.P hp).2.1.ex
  unfold w_X0_flee
  have beg : ∀ {x115 : Int32 → AH → Prop} {k : Int32 → Int32 → Int32 → AH → Prop} {v2 v3 : Int32} {j : Nat}, j < 9 → (∀ x, besN c j = some x → w_X0_flee_57 x115 k (A 0) (nI p) v2 v3 (nI j) (nI x) (oI (nst wd true p (nI x) (N 1))) h Qv) → (besN c j = none → k v2 v3 (nI j + 1) h) → w_X0_flee_7 x115 k (A 0) (nI p) v2 v3 (nI j) h Qv := by
    intro x115 k v2 v3 j hj k1 k2
    dsimp only [w_X0_flee_7]
    refine br_go (a := 9) hj (by decide) ?_
    refine fP (o := 0) H H.b rfl rfl ?_
    refine fP (o := 7) H H.b rfl rfl ?_
    refine fP (o := 4) H H.b rfl rfl ?_
    refine aC (id := 503) H R H.b rfl (by decide) rfl rfl (by omega) ?_
    rw [ec]
    refine c_besideOf (by omega) hj ?_
    cases e : besN c j with
    | none =>
      refine br_T rfl ?_
      dsimp only [w_X0_flee_57, w_X0_flee_109]
      exact br_T rfl (k2 e)
    | some x =>
      have hx := bes_lt c (by omega) j hj x e
      refine br_F (nI_n1 (m := x) (by omega)) ?_
      refine fP (o := 0) H H.b rfl rfl ?_
      refine fP (o := 7) H H.b rfl rfl ?_
      refine vG (o := 4) H H.b rfl ?_
      refine c_nearest (b := true) H R O (by omega) ?_
      exact k1 x e
  unfold fleeW at k
  rw [ec] at k
  cases e : nst wd true p (nI c) (N 1) with
  | none =>
    rw [e] at k
    refine lp_up 9 (fun j => ((-1 : Int32), (-1 : Int32), nI j, h)) (fun j kk1 hj kk => ?_) (fun kk1 => ?_) (Nat.zero_le _)
    · rw [nI_succ] at kk
      refine beg hj (fun x ex => ?_) (fun _ => kk)
      dsimp only [w_X0_flee_57, w_X0_flee_109]
      rw [nst_no e]
      exact br_T rfl kk
    · dsimp only [w_X0_flee_7, w_X0_flee_115, w_X0_flee_133]
      exact br_T (by decide) (br_T rfl (k X h H R (Off.rf _ _)))
  | some q =>
    rw [e] at k
    refine lp_up 9 (fun j => (oI (bst (sFlee wd N p) none ((List.range j).filterMap (besN c))), scM (sFlee wd N p) (bst (sFlee wd N p) none ((List.range j).filterMap (besN c))), nI j, h)) (fun j kk1 hj kk => ?_) (fun kk1 => ?_) (Nat.zero_le _)
    · dsimp only at kk ⊢
      rw [bst_9, nI_succ] at kk
      refine beg hj (fun x ex => ?_) (fun ex => by rw [ex] at kk; exact kk)
      have hx := bes_lt c (by omega) j hj x ex
      rw [ex] at kk
      dsimp only at kk
      cases e2 : nst wd true p (nI x) (N 1) with
      | none =>
        have := nst_no (c := nI c) e2
        rw [this] at e
        cases e
      | some r =>
        have hr := nst_lt e2
        obtain ⟨d, ed, hd⟩ := (O.P hr).2.1.ex
        have sf : sFlee wd N p x = farI (nI x) (wd (302 + 6 * r)) := by unfold sFlee; rw [e2]
        dsimp only [w_X0_flee_57, w_X0_flee_109]
        refine br_F (nI_n1 (m := r) (by omega)) ?_
        refine fP (o := 0) H H.b rfl rfl ?_
        refine fP (o := 7) H H.b rfl rfl ?_
        refine fP (o := 4) H H.b rfl rfl ?_
        refine aC (id := 503) (n := r) H R H.b rfl (by decide) rfl rfl (by omega) ?_
        refine c_far ?_
        have take : ∀ {K : Int32 → AH → Prop}, K (farI (nI x) (wd (302 + 6 * r))) h → fN h (A 0) 0 0 fun a6 => fN h a6 7 2 fun a7 => fN h a7 4 3 fun a8 => aI h a8 (nI r) fun x9 => w_X3_far (nI x) x9 h K := by
          intro K kk
          refine fP (o := 0) H H.b rfl rfl ?_
          refine fP (o := 7) H H.b rfl rfl ?_
          refine fP (o := 4) H H.b rfl rfl ?_
          refine aC (id := 503) (n := r) H R H.b rfl (by decide) rfl rfl (by omega) ?_
          exact c_far kk
        have fr := far_N (a := x) (b := d) (by omega) hd
        rw [← sf] at take ⊢
        generalize bst (sFlee wd N p) none ((List.range j).filterMap (besN c)) = o at *
        cases o with
        | none =>
          refine br_F ?_ (take ?_)
          · rw [sf, ed, fr.1]
            intro z
            exact absurd (Int32.le_trans (nI_pos' (by omega)) z) (show ¬ ((0 : Int32) ≤ -1) by decide)
          · exact kk
        | some b =>
          dsimp only [scM] at kk ⊢
          refine br_if (fun w => ?_) (fun w => take ?_)
          · rw [if_neg (Int32.not_lt.mpr w)] at kk
            exact kk
          · rw [if_pos (Int32.not_le.mp w)] at kk
            exact kk
    · dsimp only [w_X0_flee_7, w_X0_flee_115, w_X0_flee_133]
      refine br_T (by decide) ?_
      have ne : (List.range 9).filterMap (besN c) ≠ [] := by
        rw [← nb_bes c (by omega)]
        intro z
        have : c ∈ (List.range 256).filter (nbN c) := List.mem_filter.mpr ⟨List.mem_range.mpr (by omega), by unfold nbN; rw [decide_eq_true_eq]; omega⟩
        rw [z] at this
        exact absurd this List.not_mem_nil
      obtain ⟨b, eb, -⟩ := bst_some (s := sFlee wd N p) (l := (List.range 9).filterMap (besN c)) (o := none) (Or.inr ne)
      have hb := bst_9lt (by omega) (Nat.le_refl _) eb
      have z : mvW wd p (sFlee wd N p) = va_up wd (302 + 6 * p) (nI b) := by
        unfold mvW
        rw [ec, nt_nI (by omega), nb_bes c (by omega), eb]
        rfl
      rw [eb]
      refine br_F (nI_n1 (m := b) (by omega)) ?_
      refine fP (o := 0) H H.b rfl rfl ?_
      refine fP (o := 7) H H.b rfl rfl ?_
      refine fP (o := 4) H H.b rfl rfl ?_
      refine tC (id := 503) (n := p) H R H.b rfl (by decide) rfl rfl (by omega) (fun h2 H2 R2 => ?_)
      exact k _ h2 H2 (by rw [z]; exact R2) ((Off.rf _ _).up (by decide) _ _)
def joC (c : Nat) : Option Nat → Int32
  | none => nI c
  | some b => nI b
def joF (f : Int32) : Option Nat → Int32
  | none => 256
  | some b => farI (nI b) f
theorem c_join (H : G A S h0 X h) (R : CR X wd) (O : Ok wd N) (hp : p < N 1) (k : ∀ X' h', G A S h0 X' h' → CR X' (joinW wd N p) → Off [503] X X' → Qv h') : w_X0_join (A 0) (nI p) h Qv := by
  have hP := O.p.2
  obtain ⟨c, ec, hc⟩ := (O.P hp).2.1.ex
  dsimp only [w_X0_join]
  refine fP (o := 0) H H.b rfl rfl ?_
  refine fP (o := 7) H H.b rfl rfl ?_
  refine fP (o := 0) H H.b rfl rfl ?_
  refine fP (o := 7) H H.b rfl rfl ?_
  refine fP (o := 4) H H.b rfl rfl ?_
  refine aC (id := 503) H R H.b rfl (by decide) rfl rfl (by omega) ?_
  rw [ec]
  refine vG (o := 4) H H.b rfl ?_
  refine c_nearest (b := false) H R O (by omega) ?_
  unfold joinW at k
  rw [ec] at k
  cases e : nst wd false p (nI c) (N 1) with
  | none =>
    rw [e] at k
    exact br_T rfl (k X h H R (Off.rf _ _))
  | some q =>
    rw [e] at k
    have hq := nst_lt e
    obtain ⟨d, ed, hd⟩ := (O.P hq).2.1.ex
    refine br_F (nI_n1 (m := q) (by omega)) ?_
    refine fP (o := 0) H H.b rfl rfl ?_
    refine fP (o := 7) H H.b rfl rfl ?_
    refine fP (o := 4) H H.b rfl rfl ?_
    refine aC (id := 503) (n := q) H R H.b rfl (by decide) rfl rfl (by omega) ?_
    refine fP (o := 0) H H.b rfl rfl ?_
    refine fP (o := 7) H H.b rfl rfl ?_
    refine fP (o := 4) H H.b rfl rfl ?_
    refine aC (id := 503) H R H.b rfl (by decide) rfl rfl (by omega) ?_
    rw [ec]
    refine lp_up 9 (fun j => (joC c (bst (sJoin wd q) none ((List.range j).filterMap (besN c))), joF (wd (302 + 6 * q)) (bst (sJoin wd q) none ((List.range j).filterMap (besN c))), nI j, h)) (fun j kk1 hj kk => ?_) (fun kk1 => ?_) (Nat.zero_le _)
    · dsimp only at kk ⊢
      rw [bst_9, nI_succ] at kk
      dsimp only [w_X0_join_66, w_X0_join_121]
      refine br_go (a := 9) hj (by decide) ?_
      refine fP (o := 0) H H.b rfl rfl ?_
      refine fP (o := 7) H H.b rfl rfl ?_
      refine fP (o := 4) H H.b rfl rfl ?_
      refine aC (id := 503) H R H.b rfl (by decide) rfl rfl (by omega) ?_
      rw [ec]
      refine c_besideOf (by omega) hj ?_
      cases ex : besN c j with
      | none =>
        rw [ex] at kk
        exact br_T rfl kk
      | some x =>
        have hx := bes_lt c (by omega) j hj x ex
        rw [ex] at kk
        dsimp only at kk
        refine br_F (nI_n1 (m := x) (by omega)) ?_
        refine c_far ?_
        have fx := far_N (a := x) (b := d) (by omega) hd
        have lt := fun b hb => bst_9lt (s := sJoin wd q) (c := c) (j := j) (b := b) (by omega) (by omega) hb
        generalize bst (sJoin wd q) none ((List.range j).filterMap (besN c)) = o at *
        cases o with
        | none =>
          refine br_F ?_ (c_far kk)
          show ¬ (256 ≤ farI (nI x) (wd (302 + 6 * q)))
          rw [ed, fx.1]
          intro z
          have := (nI_leI (a := 256) (b := farN x d) (by decide) (by omega)).mp z
          omega
        | some b =>
          have hb := lt b rfl
          have fb := far_N (a := b) (b := d) (by omega) hd
          have n1 : sJoin wd q b < sJoin wd q x ↔ ¬ farI (nI b) (wd (302 + 6 * q)) ≤ farI (nI x) (wd (302 + 6 * q)) := by
            unfold sJoin
            rw [ed, fb.1, fx.1]
            exact neg_lt16 _ fb.2 _ fx.2
          dsimp only [joC, joF] at kk ⊢
          refine br_if (fun w => ?_) (fun w => c_far ?_)
          · rw [if_neg (fun z => n1.mp z w)] at kk
            exact kk
          · rw [if_pos (n1.mpr w)] at kk
            exact kk
    · dsimp only [w_X0_join_66, w_X0_join_127]
      refine br_T (by decide) ?_
      have ne : (List.range 9).filterMap (besN c) ≠ [] := by
        rw [← nb_bes c (by omega)]
        intro z
        have : c ∈ (List.range 256).filter (nbN c) := List.mem_filter.mpr ⟨List.mem_range.mpr (by omega), by unfold nbN; rw [decide_eq_true_eq]; omega⟩
        rw [z] at this
        exact absurd this List.not_mem_nil
      obtain ⟨b, eb, -⟩ := bst_some (s := sJoin wd q) (l := (List.range 9).filterMap (besN c)) (o := none) (Or.inr ne)
      have z : mvW wd p (sJoin wd q) = va_up wd (302 + 6 * p) (nI b) := by
        unfold mvW
        rw [ec, nt_nI (by omega), nb_bes c (by omega), eb]
        rfl
      rw [eb]
      refine fP (o := 0) H H.b rfl rfl ?_
      refine fP (o := 7) H H.b rfl rfl ?_
      refine fP (o := 4) H H.b rfl rfl ?_
      refine tC (id := 503) (n := p) H R H.b rfl (by decide) rfl rfl (by omega) (fun h2 H2 R2 => ?_)
      exact k _ h2 H2 (by show CR _ (mvW wd p (sJoin wd q)); rw [z]; exact R2) ((Off.rf _ _).up (by decide) _ _)
end CMOVE
