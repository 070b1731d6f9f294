/-! the fewest guns; guns of two places -/
def orO (o : Nat → Option Nat) : Nat → Int32
  | 0 => 0
  | n + 1 => match o n with
    | none => orO o n
    | some m => orO o n ||| nI m
def gIn (wd : Nat → Int32) (N : Nat → Nat) (a b : Int32) (may : Bool) (f : Nat) : Option Nat := if inA (wd (350 + 6 * f)) a b && (may || (sureG wd N f).isSome) then caseM wd N f else none
def chO (wd : Nat → Int32) (N : Nat → Nat) (a b : Int32) (f : Nat) : Option Nat := match caseM wd N f with
  | none => none
  | some m => if m = 0 then none else if inA (wd (350 + 6 * f)) a b then some m else none
def chL (wd : Nat → Int32) (N : Nat → Nat) (a b : Int32) : Nat → List Nat
  | 0 => []
  | f + 1 => match chO wd N a b f with
    | none => chL wd N a b f
    | some m => chL wd N a b f ++ [m]
theorem chL_len {wd : Nat → Int32} {N : Nat → Nat} {a b : Int32} : ∀ {n : Nat}, (chL wd N a b n).length ≤ n := by
  intro n
  induction n with
  | zero => simp [chL]
  | succ n ih =>
    simp only [chL]
    split
    · omega
    · rw [List.length_append]
      simp only [List.length_singleton]
      omega
/-- a row that holds a list -/
def RoL (X : Nat → Nat → Int32) (id : Nat) (l : List Nat) : Prop := ∀ i, i < l.length → X id i = nI (l.getD i 0)
theorem RoL.nil {X : Nat → Nat → Int32} {id : Nat} : RoL X id [] := fun i hi => absurd hi (Nat.not_lt_zero _)
theorem RoL.add {X : Nat → Nat → Int32} {id : Nat} {l : List Nat} (h : RoL X id l) (m : Nat) : RoL (up X id l.length (nI m)) id (l ++ [m]) := by
  intro i hi
  rw [List.length_append, List.length_singleton] at hi
  by_cases e : i = l.length
  · subst e
    rw [up_same]
    simp
  · rw [up_n _ _ _ e, h i (by omega)]
    simp [List.getD_eq_getElem?_getD, List.getElem?_append_left (show i < l.length by omega)]
theorem RoL.off {X X' : Nat → Nat → Int32} {id : Nat} {l : List Nat} (h : RoL X id l) (e : X' id = X id) : RoL X' id l := fun i hi => by rw [e]; exact h i hi
def mtB (wd : Nat → Int32) (N : Nat → Nat) (a b : Int32) (s f : Nat) : Bool := match chO wd N a b f with
  | none => true
  | some m => decide (m &&& s ≠ 0)
def meets (l : List Nat) (s : Nat) : Bool := l.all fun m => decide (m &&& s ≠ 0)
theorem meets_all {wd : Nat → Int32} {N : Nat → Nat} {a b : Int32} {s : Nat} : ∀ {n : Nat}, allB (mtB wd N a b s) n = meets (chL wd N a b n) s := by
  intro n
  induction n with
  | zero => rfl
  | succ n ih =>
    simp only [allB, chL, mtB]
    rw [ih]
    cases chO wd N a b n with
    | none => simp
    | some m => simp [meets]
theorem allB_mono {p : Nat → Bool} {n m : Nat} (h : n ≤ m) (e : allB p n = false) : allB p m = false := by
  rw [← Bool.not_eq_true, allB_iff] at *
  exact fun z => e (fun i hi => z i (by omega))
def rB (p : Nat → Bool) : Nat → Option Nat
  | 0 => none
  | s + 1 => match rB p s with
    | none => if p s then some s else none
    | some b => if decide (popN 8 s < popN 8 b) && p s then some s else some b
def cB (p : Nat → Bool) (full : Nat) : Nat → Nat
  | 0 => full
  | s + 1 => if decide (popN 8 s < popN 8 (cB p full s)) && p s then s else cB p full s
theorem rB_lt {p : Nat → Bool} : ∀ {n b : Nat}, rB p n = some b → b < n := by
  intro n
  induction n with
  | zero => intro b h; simp [rB] at h
  | succ n ih =>
    intro b h
    simp only [rB] at h
    cases e : rB p n with
    | none =>
      rw [e] at h
      dsimp only at h
      split at h
      · cases h; omega
      · cases h
    | some q =>
      rw [e] at h
      dsimp only at h
      have := ih e
      split at h
      · cases h; omega
      · cases h; omega
theorem pop_full : ∀ n, n < 9 → ∀ b, b < 256 → b < 2 ^ n - 1 → popN 8 b < popN 8 (2 ^ n - 1) := by decide +kernel
theorem cB_rB {p : Nat → Bool} {n : Nat} (hn : n ≤ 8) : ∀ {s : Nat}, s ≤ 2 ^ n - 1 → (rB p s = none ∧ cB p (2 ^ n - 1) s = 2 ^ n - 1) ∨ (∃ b, b < 2 ^ n - 1 ∧ rB p s = some b ∧ cB p (2 ^ n - 1) s = b) := by
  have h8 : 2 ^ n ≤ 2 ^ 8 := Nat.pow_le_pow_right (by omega) hn
  intro s
  induction s with
  | zero => intro _; exact Or.inl ⟨rfl, rfl⟩
  | succ s ih =>
    intro hs
    simp only [rB, cB]
    rcases ih (by omega) with ⟨h1, h2⟩ | ⟨b, h0, h1, h2⟩
    · rw [h1, h2]
      dsimp only
      have := pop_full n (by omega) s (by omega) (by omega)
      by_cases e : p s = true
      · refine Or.inr ⟨s, by omega, ?_, ?_⟩
        · rw [if_pos e]
        · rw [if_pos (by simp [this, e])]
      · refine Or.inl ⟨?_, ?_⟩
        · rw [if_neg e]
        · rw [if_neg (by simp [e])]
    · rw [h1, h2]
      dsimp only
      by_cases e : (decide (popN 8 s < popN 8 b) && p s) = true
      · rw [if_pos e, if_pos e]
        exact Or.inr ⟨s, by omega, rfl, rfl⟩
      · rw [if_neg e, if_neg e]
        exact Or.inr ⟨b, h0, rfl, rfl⟩
theorem rB_end {p : Nat → Bool} {n : Nat} (hn : n ≤ 8) (hp : p (2 ^ n - 1) = true) : rB p (2 ^ n) = some (cB p (2 ^ n - 1) (2 ^ n)) := by
  have h0 : 0 < 2 ^ n := Nat.two_pow_pos n
  have h8 : 2 ^ n ≤ 2 ^ 8 := Nat.pow_le_pow_right (by omega) hn
  have e : 2 ^ n = (2 ^ n - 1) + 1 := by omega
  have h2 := cB_rB (p := p) hn (Nat.le_refl (2 ^ n - 1))
  generalize hF : 2 ^ n - 1 = F at *
  rw [e]
  simp only [rB, cB]
  rcases h2 with ⟨h3, h4⟩ | ⟨b, h5, h3, h4⟩
  · rw [h3, h4]
    dsimp only
    rw [if_pos hp, if_neg (by simp)]
  · rw [h3, h4]
    dsimp only
    have := pop_full n (by omega) b (by omega) (by omega)
    rw [hF] at this
    rw [if_neg (by simp; omega), if_neg (by simp; omega)]
theorem cB_le {p : Nat → Bool} {full n : Nat} (hn : n ≤ full + 1) : cB p full n ≤ full := by
  induction n with
  | zero => exact Nat.le_refl _
  | succ n ih =>
    simp only [cB]
    split
    · omega
    · exact ih (by omega)
section NEED
variable {A : Nat → Nat} {S : Nat → Prop} {h0 h : AH} {X : Nat → Nat → Int32} {wd : Nat → Int32} {N : Nat → Nat} {Q : Int32 → AH → Prop} {Qv : AH → Prop}
theorem c_gunsIn (H : G A S h0 X h) (R : CR X wd) (O : Ok wd N) (C : CG X wd N) {a b : Int32} {may : Bool} (k : Q (orO (gIn wd N a b may) (N 3)) h) : w_X8_gunsIn (A 8) a b (bI may) h Q := by
  obtain ⟨e3, h3⟩ := O.f
  refine lp_up (N 3) (fun j => (orO (gIn wd N a b may) j, nI j, h)) (fun j kk1 hj kk => ?_) (fun kk1 => ?_) (Nat.zero_le _)
  · rw [nI_succ] at kk
    simp only [orO, gIn] at kk
    dsimp only [w_X8_gunsIn_86, w_X8_gunsIn_80, w_X8_gunsIn_40, w_X8_gunsIn_6, w_X8_gunsIn]
    (repeat (first | with_reducible refine bd_i ?_ | with_reducible refine fP H (by with_unfolding_all first | exact H.b | exact hS) (by with_unfolding_all rfl) (by with_unfolding_all rfl) ?_ | with_reducible refine vG H (by with_unfolding_all first | exact H.b | exact hS) (by with_unfolding_all rfl) ?_ | with_reducible refine fC_ H R (by with_unfolding_all exact H.b) (by with_unfolding_all rfl) (by with_unfolding_all rfl) ?_ | with_reducible refine aC H R (by with_unfolding_all exact H.b) (by with_unfolding_all rfl) (by decide) (by with_unfolding_all rfl) rfl (by omega) ?_ | with_reducible refine fG H (by with_unfolding_all first | exact H.b | exact hS) (by with_unfolding_all rfl) ?_ | with_reducible refine aG H (by with_unfolding_all first | exact H.b | exact hS) (by with_unfolding_all rfl) (by decide) rfl (by omega) ?_))
    rw [e3]
    refine br_go hj (by omega) ?_
    cases e : caseM wd N j with
    | none =>
      have es : sureG wd N j = none := by rw [sureG, e]
      simp only [e, ite_self] at kk
      refine br_bI (fun c1 => ?_) (fun c1 => ?_)
      · (repeat (first | with_reducible refine c_isCase H O C hj ?_ | with_reducible refine bd_i ?_ | with_reducible refine fP H (by with_unfolding_all first | exact H.b | exact hS) (by with_unfolding_all rfl) (by with_unfolding_all rfl) ?_ | with_reducible refine vG H (by with_unfolding_all first | exact H.b | exact hS) (by with_unfolding_all rfl) ?_ | with_reducible refine fC_ H R (by with_unfolding_all exact H.b) (by with_unfolding_all rfl) (by with_unfolding_all rfl) ?_ | with_reducible refine aC H R (by with_unfolding_all exact H.b) (by with_unfolding_all rfl) (by decide) (by with_unfolding_all rfl) rfl (by omega) ?_ | with_reducible refine fG H (by with_unfolding_all first | exact H.b | exact hS) (by with_unfolding_all rfl) ?_ | with_reducible refine aG H (by with_unfolding_all first | exact H.b | exact hS) (by with_unfolding_all rfl) (by decide) rfl (by omega) ?_))
        rw [e]
        exact br_T rfl kk
      · (repeat (first | with_reducible refine c_isSure H O C hj ?_ | with_reducible refine bd_i ?_ | with_reducible refine fP H (by with_unfolding_all first | exact H.b | exact hS) (by with_unfolding_all rfl) (by with_unfolding_all rfl) ?_ | with_reducible refine vG H (by with_unfolding_all first | exact H.b | exact hS) (by with_unfolding_all rfl) ?_ | with_reducible refine fC_ H R (by with_unfolding_all exact H.b) (by with_unfolding_all rfl) (by with_unfolding_all rfl) ?_ | with_reducible refine aC H R (by with_unfolding_all exact H.b) (by with_unfolding_all rfl) (by decide) (by with_unfolding_all rfl) rfl (by omega) ?_ | with_reducible refine fG H (by with_unfolding_all first | exact H.b | exact hS) (by with_unfolding_all rfl) ?_ | with_reducible refine aG H (by with_unfolding_all first | exact H.b | exact hS) (by with_unfolding_all rfl) (by decide) rfl (by omega) ?_))
        rw [es]
        exact br_T rfl kk
    | some m =>
      have em : X 901 j = nI m := by rw [C j hj, e]; rfl
      simp only [e] at kk
      refine br_bI (fun c1 => ?_) (fun c1 => ?_)
      · (repeat (first | with_reducible refine c_isCase H O C hj ?_ | with_reducible refine bd_i ?_ | with_reducible refine fP H (by with_unfolding_all first | exact H.b | exact hS) (by with_unfolding_all rfl) (by with_unfolding_all rfl) ?_ | with_reducible refine vG H (by with_unfolding_all first | exact H.b | exact hS) (by with_unfolding_all rfl) ?_ | with_reducible refine fC_ H R (by with_unfolding_all exact H.b) (by with_unfolding_all rfl) (by with_unfolding_all rfl) ?_ | with_reducible refine aC H R (by with_unfolding_all exact H.b) (by with_unfolding_all rfl) (by decide) (by with_unfolding_all rfl) rfl (by omega) ?_ | with_reducible refine fG H (by with_unfolding_all first | exact H.b | exact hS) (by with_unfolding_all rfl) ?_ | with_reducible refine aG H (by with_unfolding_all first | exact H.b | exact hS) (by with_unfolding_all rfl) (by decide) rfl (by omega) ?_))
        rw [e]
        refine br_F (show ¬ bI true = 0 by decide) ?_
        (repeat (first | with_reducible refine c_isInArea ?_ | with_reducible refine bd_i ?_ | with_reducible refine fP H (by with_unfolding_all first | exact H.b | exact hS) (by with_unfolding_all rfl) (by with_unfolding_all rfl) ?_ | with_reducible refine vG H (by with_unfolding_all first | exact H.b | exact hS) (by with_unfolding_all rfl) ?_ | with_reducible refine fC_ H R (by with_unfolding_all exact H.b) (by with_unfolding_all rfl) (by with_unfolding_all rfl) ?_ | with_reducible refine aC H R (by with_unfolding_all exact H.b) (by with_unfolding_all rfl) (by decide) (by with_unfolding_all rfl) rfl (by omega) ?_ | with_reducible refine fG H (by with_unfolding_all first | exact H.b | exact hS) (by with_unfolding_all rfl) ?_ | with_reducible refine aG H (by with_unfolding_all first | exact H.b | exact hS) (by with_unfolding_all rfl) (by decide) rfl (by omega) ?_))
        refine br_bI (fun c2 => ?_) (fun c2 => ?_)
        · (repeat (first | with_reducible refine bd_i ?_ | with_reducible refine fP H (by with_unfolding_all first | exact H.b | exact hS) (by with_unfolding_all rfl) (by with_unfolding_all rfl) ?_ | with_reducible refine vG H (by with_unfolding_all first | exact H.b | exact hS) (by with_unfolding_all rfl) ?_ | with_reducible refine fC_ H R (by with_unfolding_all exact H.b) (by with_unfolding_all rfl) (by with_unfolding_all rfl) ?_ | with_reducible refine aC H R (by with_unfolding_all exact H.b) (by with_unfolding_all rfl) (by decide) (by with_unfolding_all rfl) rfl (by omega) ?_ | with_reducible refine fG H (by with_unfolding_all first | exact H.b | exact hS) (by with_unfolding_all rfl) ?_ | with_reducible refine aG H (by with_unfolding_all first | exact H.b | exact hS) (by with_unfolding_all rfl) (by decide) rfl (by omega) ?_))
          rw [em]
          rw [if_pos (by simp [c1, c2])] at kk
          exact kk
        · rw [if_neg (by simp [c2])] at kk
          exact kk
      · (repeat (first | with_reducible refine c_isSure H O C hj ?_ | with_reducible refine bd_i ?_ | with_reducible refine fP H (by with_unfolding_all first | exact H.b | exact hS) (by with_unfolding_all rfl) (by with_unfolding_all rfl) ?_ | with_reducible refine vG H (by with_unfolding_all first | exact H.b | exact hS) (by with_unfolding_all rfl) ?_ | with_reducible refine fC_ H R (by with_unfolding_all exact H.b) (by with_unfolding_all rfl) (by with_unfolding_all rfl) ?_ | with_reducible refine aC H R (by with_unfolding_all exact H.b) (by with_unfolding_all rfl) (by decide) (by with_unfolding_all rfl) rfl (by omega) ?_ | with_reducible refine fG H (by with_unfolding_all first | exact H.b | exact hS) (by with_unfolding_all rfl) ?_ | with_reducible refine aG H (by with_unfolding_all first | exact H.b | exact hS) (by with_unfolding_all rfl) (by decide) rfl (by omega) ?_))
        refine br_bI (fun c2 => ?_) (fun c2 => ?_)
        · (repeat (first | with_reducible refine c_isInArea ?_ | with_reducible refine bd_i ?_ | with_reducible refine fP H (by with_unfolding_all first | exact H.b | exact hS) (by with_unfolding_all rfl) (by with_unfolding_all rfl) ?_ | with_reducible refine vG H (by with_unfolding_all first | exact H.b | exact hS) (by with_unfolding_all rfl) ?_ | with_reducible refine fC_ H R (by with_unfolding_all exact H.b) (by with_unfolding_all rfl) (by with_unfolding_all rfl) ?_ | with_reducible refine aC H R (by with_unfolding_all exact H.b) (by with_unfolding_all rfl) (by decide) (by with_unfolding_all rfl) rfl (by omega) ?_ | with_reducible refine fG H (by with_unfolding_all first | exact H.b | exact hS) (by with_unfolding_all rfl) ?_ | with_reducible refine aG H (by with_unfolding_all first | exact H.b | exact hS) (by with_unfolding_all rfl) (by decide) rfl (by omega) ?_))
          refine br_bI (fun c3 => ?_) (fun c3 => ?_)
          · (repeat (first | with_reducible refine bd_i ?_ | with_reducible refine fP H (by with_unfolding_all first | exact H.b | exact hS) (by with_unfolding_all rfl) (by with_unfolding_all rfl) ?_ | with_reducible refine vG H (by with_unfolding_all first | exact H.b | exact hS) (by with_unfolding_all rfl) ?_ | with_reducible refine fC_ H R (by with_unfolding_all exact H.b) (by with_unfolding_all rfl) (by with_unfolding_all rfl) ?_ | with_reducible refine aC H R (by with_unfolding_all exact H.b) (by with_unfolding_all rfl) (by decide) (by with_unfolding_all rfl) rfl (by omega) ?_ | with_reducible refine fG H (by with_unfolding_all first | exact H.b | exact hS) (by with_unfolding_all rfl) ?_ | with_reducible refine aG H (by with_unfolding_all first | exact H.b | exact hS) (by with_unfolding_all rfl) (by decide) rfl (by omega) ?_))
            rw [em]
            rw [if_pos (by simp [c2, c3])] at kk
            exact kk
          · rw [if_neg (by simp [c3])] at kk
            exact kk
        · rw [if_neg (by simp_all)] at kk
          exact kk
  · dsimp only [w_X8_gunsIn_86, w_X8_gunsIn_80, w_X8_gunsIn_40, w_X8_gunsIn_6, w_X8_gunsIn]
    (repeat (first | with_reducible refine bd_i ?_ | with_reducible refine fP H (by with_unfolding_all first | exact H.b | exact hS) (by with_unfolding_all rfl) (by with_unfolding_all rfl) ?_ | with_reducible refine vG H (by with_unfolding_all first | exact H.b | exact hS) (by with_unfolding_all rfl) ?_ | with_reducible refine fC_ H R (by with_unfolding_all exact H.b) (by with_unfolding_all rfl) (by with_unfolding_all rfl) ?_ | with_reducible refine aC H R (by with_unfolding_all exact H.b) (by with_unfolding_all rfl) (by decide) (by with_unfolding_all rfl) rfl (by omega) ?_ | with_reducible refine fG H (by with_unfolding_all first | exact H.b | exact hS) (by with_unfolding_all rfl) ?_ | with_reducible refine aG H (by with_unfolding_all first | exact H.b | exact hS) (by with_unfolding_all rfl) (by decide) rfl (by omega) ?_))
    rw [e3]
    exact br_end k
theorem m_gunsIn (H : G A S h0 X h) (M : MR X wd) (O : Ok wd N) {a b : Int32} {may : Bool} (k : Q (orO (gIn wd N a b may) (N 3)) h) : w_X12_gunsIn (A 12) a b (bI may) h Q := by
  obtain ⟨e3, h3⟩ := O.f
  have h8 := O.g.2
  refine lp_up (N 3) (fun j => (orO (gIn wd N a b may) j, nI j, h)) (fun j kk1 hj kk => ?_) (fun kk1 => ?_) (Nat.zero_le _)
  · rw [nI_succ] at kk
    simp only [orO, gIn] at kk
    dsimp only [w_X12_gunsIn_87, w_X12_gunsIn_81, w_X12_gunsIn_78, w_X12_gunsIn_6, w_X12_gunsIn]
    (repeat (first | with_reducible refine m_finds H M ?_ | with_reducible refine bd_i ?_ | with_reducible refine fP H (by with_unfolding_all exact H.b) (by with_unfolding_all rfl) (by with_unfolding_all rfl) ?_ | with_reducible refine vG H (by with_unfolding_all exact H.b) (by with_unfolding_all rfl) ?_ | with_reducible refine aM H M rfl (by omega) ?_ | with_reducible refine aM H M (ix0 0) (by omega) ?_ | with_reducible refine aM H M (ix0 1) (by omega) ?_ | with_reducible refine aM H M (ix0 2) (by omega) ?_ | with_reducible refine aM H M (ix0 3) (by omega) ?_ | with_reducible refine aM H M (ix0 4) (by omega) ?_ | with_reducible refine aM H M (ix0 5) (by omega) ?_ | with_reducible refine aM H M (ix0 6) (by omega) ?_ | with_reducible refine aM H M (ix0 7) (by omega) ?_ | with_reducible refine aM H M (ix0 8) (by omega) ?_ | with_reducible refine aM H M (ix0 9) (by omega) ?_ | with_reducible refine aM H M (ix0 10) (by omega) ?_ | with_reducible refine aM H M (ix0 11) (by omega) ?_ | with_reducible refine aM H M (ix0 12) (by omega) ?_ | with_reducible refine aM H M (ix1 13 _) (by omega) ?_ | with_reducible refine aM H M (ix1 1161 _) (by omega) ?_ | with_reducible refine aM H M (ix2 269 4 _) (by omega) ?_ | with_reducible refine aM H M (ix4 269 4 _ 1) (by omega) ?_ | with_reducible refine aM H M (ix4 269 4 _ 2) (by omega) ?_ | with_reducible refine aM H M (ix4 269 4 _ 3) (by omega) ?_ | with_reducible refine fG H (by with_unfolding_all exact H.b) (by with_unfolding_all rfl) ?_ | with_reducible refine aG H (by with_unfolding_all exact H.b) (by with_unfolding_all rfl) (by decide) rfl (by omega) ?_))
    rw [e3]
    refine br_go hj (by omega) ?_
    (repeat (first | with_reducible refine m_isSeenCase (N := N) H M (by omega) ?_ | with_reducible refine bd_i ?_ | with_reducible refine fP H (by with_unfolding_all exact H.b) (by with_unfolding_all rfl) (by with_unfolding_all rfl) ?_ | with_reducible refine vG H (by with_unfolding_all exact H.b) (by with_unfolding_all rfl) ?_ | with_reducible refine aM H M rfl (by omega) ?_ | with_reducible refine aM H M (ix0 0) (by omega) ?_ | with_reducible refine aM H M (ix0 1) (by omega) ?_ | with_reducible refine aM H M (ix0 2) (by omega) ?_ | with_reducible refine aM H M (ix0 3) (by omega) ?_ | with_reducible refine aM H M (ix0 4) (by omega) ?_ | with_reducible refine aM H M (ix0 5) (by omega) ?_ | with_reducible refine aM H M (ix0 6) (by omega) ?_ | with_reducible refine aM H M (ix0 7) (by omega) ?_ | with_reducible refine aM H M (ix0 8) (by omega) ?_ | with_reducible refine aM H M (ix0 9) (by omega) ?_ | with_reducible refine aM H M (ix0 10) (by omega) ?_ | with_reducible refine aM H M (ix0 11) (by omega) ?_ | with_reducible refine aM H M (ix0 12) (by omega) ?_ | with_reducible refine aM H M (ix1 13 _) (by omega) ?_ | with_reducible refine aM H M (ix1 1161 _) (by omega) ?_ | with_reducible refine aM H M (ix2 269 4 _) (by omega) ?_ | with_reducible refine aM H M (ix4 269 4 _ 1) (by omega) ?_ | with_reducible refine aM H M (ix4 269 4 _ 2) (by omega) ?_ | with_reducible refine aM H M (ix4 269 4 _ 3) (by omega) ?_ | with_reducible refine fG H (by with_unfolding_all exact H.b) (by with_unfolding_all rfl) ?_ | with_reducible refine aG H (by with_unfolding_all exact H.b) (by with_unfolding_all rfl) (by decide) rfl (by omega) ?_))
    cases e : caseM wd N j with
    | none =>
      simp only [e, ite_self] at kk
      exact br_T rfl kk
    | some m =>
      simp only [e] at kk
      refine br_F (show ¬ bI true = 0 by decide) ?_
      (repeat (first | with_reducible refine f1 H M (by omega) ?_ | with_reducible refine m_isInArea ?_ | with_reducible refine bd_i ?_ | with_reducible refine fP H (by with_unfolding_all exact H.b) (by with_unfolding_all rfl) (by with_unfolding_all rfl) ?_ | with_reducible refine vG H (by with_unfolding_all exact H.b) (by with_unfolding_all rfl) ?_ | with_reducible refine aM H M rfl (by omega) ?_ | with_reducible refine aM H M (ix0 0) (by omega) ?_ | with_reducible refine aM H M (ix0 1) (by omega) ?_ | with_reducible refine aM H M (ix0 2) (by omega) ?_ | with_reducible refine aM H M (ix0 3) (by omega) ?_ | with_reducible refine aM H M (ix0 4) (by omega) ?_ | with_reducible refine aM H M (ix0 5) (by omega) ?_ | with_reducible refine aM H M (ix0 6) (by omega) ?_ | with_reducible refine aM H M (ix0 7) (by omega) ?_ | with_reducible refine aM H M (ix0 8) (by omega) ?_ | with_reducible refine aM H M (ix0 9) (by omega) ?_ | with_reducible refine aM H M (ix0 10) (by omega) ?_ | with_reducible refine aM H M (ix0 11) (by omega) ?_ | with_reducible refine aM H M (ix0 12) (by omega) ?_ | with_reducible refine aM H M (ix1 13 _) (by omega) ?_ | with_reducible refine aM H M (ix1 1161 _) (by omega) ?_ | with_reducible refine aM H M (ix2 269 4 _) (by omega) ?_ | with_reducible refine aM H M (ix4 269 4 _ 1) (by omega) ?_ | with_reducible refine aM H M (ix4 269 4 _ 2) (by omega) ?_ | with_reducible refine aM H M (ix4 269 4 _ 3) (by omega) ?_ | with_reducible refine fG H (by with_unfolding_all exact H.b) (by with_unfolding_all rfl) ?_ | with_reducible refine aG H (by with_unfolding_all exact H.b) (by with_unfolding_all rfl) (by decide) rfl (by omega) ?_))
      refine br_bI (fun c1 => ?_) (fun c1 => ?_)
      · refine br_bI (fun c2 => ?_) (fun c2 => ?_)
        · (repeat (first | with_reducible refine m_mayBe H M O (by omega) ?_ | with_reducible refine bd_i ?_ | with_reducible refine fP H (by with_unfolding_all exact H.b) (by with_unfolding_all rfl) (by with_unfolding_all rfl) ?_ | with_reducible refine vG H (by with_unfolding_all exact H.b) (by with_unfolding_all rfl) ?_ | with_reducible refine aM H M rfl (by omega) ?_ | with_reducible refine aM H M (ix0 0) (by omega) ?_ | with_reducible refine aM H M (ix0 1) (by omega) ?_ | with_reducible refine aM H M (ix0 2) (by omega) ?_ | with_reducible refine aM H M (ix0 3) (by omega) ?_ | with_reducible refine aM H M (ix0 4) (by omega) ?_ | with_reducible refine aM H M (ix0 5) (by omega) ?_ | with_reducible refine aM H M (ix0 6) (by omega) ?_ | with_reducible refine aM H M (ix0 7) (by omega) ?_ | with_reducible refine aM H M (ix0 8) (by omega) ?_ | with_reducible refine aM H M (ix0 9) (by omega) ?_ | with_reducible refine aM H M (ix0 10) (by omega) ?_ | with_reducible refine aM H M (ix0 11) (by omega) ?_ | with_reducible refine aM H M (ix0 12) (by omega) ?_ | with_reducible refine aM H M (ix1 13 _) (by omega) ?_ | with_reducible refine aM H M (ix1 1161 _) (by omega) ?_ | with_reducible refine aM H M (ix2 269 4 _) (by omega) ?_ | with_reducible refine aM H M (ix4 269 4 _ 1) (by omega) ?_ | with_reducible refine aM H M (ix4 269 4 _ 2) (by omega) ?_ | with_reducible refine aM H M (ix4 269 4 _ 3) (by omega) ?_ | with_reducible refine fG H (by with_unfolding_all exact H.b) (by with_unfolding_all rfl) ?_ | with_reducible refine aG H (by with_unfolding_all exact H.b) (by with_unfolding_all rfl) (by decide) rfl (by omega) ?_))
          rw [mb_M O e]
          rw [if_pos (by simp [c1, c2])] at kk
          exact kk
        · (repeat (first | with_reducible refine m_sureOf H M O (by omega) ?_ | with_reducible refine bd_i ?_ | with_reducible refine fP H (by with_unfolding_all exact H.b) (by with_unfolding_all rfl) (by with_unfolding_all rfl) ?_ | with_reducible refine vG H (by with_unfolding_all exact H.b) (by with_unfolding_all rfl) ?_ | with_reducible refine aM H M rfl (by omega) ?_ | with_reducible refine aM H M (ix0 0) (by omega) ?_ | with_reducible refine aM H M (ix0 1) (by omega) ?_ | with_reducible refine aM H M (ix0 2) (by omega) ?_ | with_reducible refine aM H M (ix0 3) (by omega) ?_ | with_reducible refine aM H M (ix0 4) (by omega) ?_ | with_reducible refine aM H M (ix0 5) (by omega) ?_ | with_reducible refine aM H M (ix0 6) (by omega) ?_ | with_reducible refine aM H M (ix0 7) (by omega) ?_ | with_reducible refine aM H M (ix0 8) (by omega) ?_ | with_reducible refine aM H M (ix0 9) (by omega) ?_ | with_reducible refine aM H M (ix0 10) (by omega) ?_ | with_reducible refine aM H M (ix0 11) (by omega) ?_ | with_reducible refine aM H M (ix0 12) (by omega) ?_ | with_reducible refine aM H M (ix1 13 _) (by omega) ?_ | with_reducible refine aM H M (ix1 1161 _) (by omega) ?_ | with_reducible refine aM H M (ix2 269 4 _) (by omega) ?_ | with_reducible refine aM H M (ix4 269 4 _ 1) (by omega) ?_ | with_reducible refine aM H M (ix4 269 4 _ 2) (by omega) ?_ | with_reducible refine aM H M (ix4 269 4 _ 3) (by omega) ?_ | with_reducible refine fG H (by with_unfolding_all exact H.b) (by with_unfolding_all rfl) ?_ | with_reducible refine aG H (by with_unfolding_all exact H.b) (by with_unfolding_all rfl) (by decide) rfl (by omega) ?_))
          cases e2 : sureG wd N j with
          | none =>
            rw [e2, if_neg (by simp [c2])] at kk
            refine br_F (show ¬ 0 ≤ oI none by decide) ?_
            refine bd_i ?_
            rw [Int32.or_zero]
            exact kk
          | some g =>
            obtain ⟨h4, h5⟩ := (sureG_iff O).mp e2
            rw [e] at h5
            cases h5
            rw [e2, if_pos (by simp [c1])] at kk
            refine br_T (show 0 ≤ oI (some g) from nI_pos' (by omega)) ?_
            (repeat (first | with_reducible refine m_sureOf H M O (by omega) ?_ | with_reducible refine bd_i ?_ | with_reducible refine fP H (by with_unfolding_all exact H.b) (by with_unfolding_all rfl) (by with_unfolding_all rfl) ?_ | with_reducible refine vG H (by with_unfolding_all exact H.b) (by with_unfolding_all rfl) ?_ | with_reducible refine aM H M rfl (by omega) ?_ | with_reducible refine aM H M (ix0 0) (by omega) ?_ | with_reducible refine aM H M (ix0 1) (by omega) ?_ | with_reducible refine aM H M (ix0 2) (by omega) ?_ | with_reducible refine aM H M (ix0 3) (by omega) ?_ | with_reducible refine aM H M (ix0 4) (by omega) ?_ | with_reducible refine aM H M (ix0 5) (by omega) ?_ | with_reducible refine aM H M (ix0 6) (by omega) ?_ | with_reducible refine aM H M (ix0 7) (by omega) ?_ | with_reducible refine aM H M (ix0 8) (by omega) ?_ | with_reducible refine aM H M (ix0 9) (by omega) ?_ | with_reducible refine aM H M (ix0 10) (by omega) ?_ | with_reducible refine aM H M (ix0 11) (by omega) ?_ | with_reducible refine aM H M (ix0 12) (by omega) ?_ | with_reducible refine aM H M (ix1 13 _) (by omega) ?_ | with_reducible refine aM H M (ix1 1161 _) (by omega) ?_ | with_reducible refine aM H M (ix2 269 4 _) (by omega) ?_ | with_reducible refine aM H M (ix4 269 4 _ 1) (by omega) ?_ | with_reducible refine aM H M (ix4 269 4 _ 2) (by omega) ?_ | with_reducible refine aM H M (ix4 269 4 _ 3) (by omega) ?_ | with_reducible refine fG H (by with_unfolding_all exact H.b) (by with_unfolding_all rfl) ?_ | with_reducible refine aG H (by with_unfolding_all exact H.b) (by with_unfolding_all rfl) (by decide) rfl (by omega) ?_))
            rw [e2]
            dsimp only [oI]
            rw [sh1 (by omega)]
            exact kk
      · rw [if_neg (by simp [c1])] at kk
        exact kk
  · dsimp only [w_X12_gunsIn_87, w_X12_gunsIn_81, w_X12_gunsIn_78, w_X12_gunsIn_6, w_X12_gunsIn]
    (repeat (first | with_reducible refine m_finds H M ?_ | with_reducible refine bd_i ?_ | with_reducible refine fP H (by with_unfolding_all exact H.b) (by with_unfolding_all rfl) (by with_unfolding_all rfl) ?_ | with_reducible refine vG H (by with_unfolding_all exact H.b) (by with_unfolding_all rfl) ?_ | with_reducible refine aM H M rfl (by omega) ?_ | with_reducible refine aM H M (ix0 0) (by omega) ?_ | with_reducible refine aM H M (ix0 1) (by omega) ?_ | with_reducible refine aM H M (ix0 2) (by omega) ?_ | with_reducible refine aM H M (ix0 3) (by omega) ?_ | with_reducible refine aM H M (ix0 4) (by omega) ?_ | with_reducible refine aM H M (ix0 5) (by omega) ?_ | with_reducible refine aM H M (ix0 6) (by omega) ?_ | with_reducible refine aM H M (ix0 7) (by omega) ?_ | with_reducible refine aM H M (ix0 8) (by omega) ?_ | with_reducible refine aM H M (ix0 9) (by omega) ?_ | with_reducible refine aM H M (ix0 10) (by omega) ?_ | with_reducible refine aM H M (ix0 11) (by omega) ?_ | with_reducible refine aM H M (ix0 12) (by omega) ?_ | with_reducible refine aM H M (ix1 13 _) (by omega) ?_ | with_reducible refine aM H M (ix1 1161 _) (by omega) ?_ | with_reducible refine aM H M (ix2 269 4 _) (by omega) ?_ | with_reducible refine aM H M (ix4 269 4 _ 1) (by omega) ?_ | with_reducible refine aM H M (ix4 269 4 _ 2) (by omega) ?_ | with_reducible refine aM H M (ix4 269 4 _ 3) (by omega) ?_ | with_reducible refine fG H (by with_unfolding_all exact H.b) (by with_unfolding_all rfl) ?_ | with_reducible refine aG H (by with_unfolding_all exact H.b) (by with_unfolding_all rfl) (by decide) rfl (by omega) ?_))
    rw [e3]
    exact br_end k
theorem c_gatherChoices (H : G A S h0 X h) (R : CR X wd) (O : Ok wd N) (C : CG X wd N) {a b : Int32} (k : ∀ X' h', G A S h0 X' h' → Off [902] X X' → RoL X' 902 (chL wd N a b (N 3)) → Q (nI (chL wd N a b (N 3)).length) h') : w_X8_gatherChoices (A 8) a b h Q := by
  obtain ⟨e3, h3⟩ := O.f
  refine lp_inv (N 3) (fun j (s : Int32 × Int32 × AH) => s.1 = nI (chL wd N a b j).length ∧ s.2.1 = nI j ∧ ∃ X', G A S h0 X' s.2.2 ∧ Off [902] X X' ∧ RoL X' 902 (chL wd N a b j)) (fun j s kk1 hj hI kk => ?_) (fun s kk1 hI => ?_) (Nat.zero_le _) ⟨rfl, rfl, X, H, Off.rf _ _, RoL.nil⟩
  · obtain ⟨v, w, h1⟩ := s
    obtain ⟨e1, e2, X1, H1, o1, c1⟩ := hI
    dsimp only at e1 e2 H1 ⊢
    subst e1 e2
    have R1 := R.offL o1 (by decide)
    have C1 := C.off o1 (by decide)
    have hl := chL_len (wd := wd) (N := N) (a := a) (b := b) (n := j)
    clear H R C
    have H := H1
    have R := R1
    have kn : chO wd N a b j = none → kk1 (nI (chL wd N a b j).length, nI j + 1, h1) := by
      intro e
      refine kk _ ⟨?_, (nI_succ j).symm, X1, H1, o1, ?_⟩
      · simp only [chL, e]
      · simp only [chL, e]
        exact c1
    have ks : ∀ m, chO wd N a b j = some m → ∀ h', G A S h0 (up X1 902 (chL wd N a b j).length (nI m)) h' → kk1 (nI (chL wd N a b j).length + 1, nI j + 1, h') := by
      intro m e h' H'
      refine kk _ ⟨?_, (nI_succ j).symm, _, H', o1.up (by decide) _ _, ?_⟩
      · simp only [chL, e, List.length_append, List.length_singleton]
        rw [nI_succ]
      · simp only [chL, e]
        exact c1.add m
    dsimp only [w_X8_gatherChoices_73, w_X8_gatherChoices_67, w_X8_gatherChoices_5, w_X8_gatherChoices]
    (repeat (first | with_reducible refine bd_i ?_ | with_reducible refine fP H (by with_unfolding_all first | exact H.b | exact hS) (by with_unfolding_all rfl) (by with_unfolding_all rfl) ?_ | with_reducible refine vG H (by with_unfolding_all first | exact H.b | exact hS) (by with_unfolding_all rfl) ?_ | with_reducible refine fC_ H R (by with_unfolding_all exact H.b) (by with_unfolding_all rfl) (by with_unfolding_all rfl) ?_ | with_reducible refine aC H R (by with_unfolding_all exact H.b) (by with_unfolding_all rfl) (by decide) (by with_unfolding_all rfl) rfl (by omega) ?_ | with_reducible refine fG H (by with_unfolding_all first | exact H.b | exact hS) (by with_unfolding_all rfl) ?_ | with_reducible refine aG H (by with_unfolding_all first | exact H.b | exact hS) (by with_unfolding_all rfl) (by decide) rfl (by omega) ?_))
    rw [e3]
    refine br_go hj (by omega) ?_
    (repeat (first | with_reducible refine bd_i ?_ | with_reducible refine fP H (by with_unfolding_all first | exact H.b | exact hS) (by with_unfolding_all rfl) (by with_unfolding_all rfl) ?_ | with_reducible refine vG H (by with_unfolding_all first | exact H.b | exact hS) (by with_unfolding_all rfl) ?_ | with_reducible refine fC_ H R (by with_unfolding_all exact H.b) (by with_unfolding_all rfl) (by with_unfolding_all rfl) ?_ | with_reducible refine aC H R (by with_unfolding_all exact H.b) (by with_unfolding_all rfl) (by decide) (by with_unfolding_all rfl) rfl (by omega) ?_ | with_reducible refine fG H (by with_unfolding_all first | exact H.b | exact hS) (by with_unfolding_all rfl) ?_ | with_reducible refine aG H (by with_unfolding_all first | exact H.b | exact hS) (by with_unfolding_all rfl) (by decide) rfl (by omega) ?_))
    rw [C1 j hj]
    cases e : caseM wd N j with
    | none => exact br_T (show oI none ≤ 0 by decide) (kn (by simp [chO, e]))
    | some m =>
      have hm := caseM_256 O e
      dsimp only [oI]
      refine br_Le (b := 0) (by omega) (by decide) (fun c => ?_) (fun c => ?_)
      · exact kn (by simp [chO, e, show m = 0 by omega])
      · (repeat (first | with_reducible refine c_isInArea ?_ | with_reducible refine bd_i ?_ | with_reducible refine fP H (by with_unfolding_all first | exact H.b | exact hS) (by with_unfolding_all rfl) (by with_unfolding_all rfl) ?_ | with_reducible refine vG H (by with_unfolding_all first | exact H.b | exact hS) (by with_unfolding_all rfl) ?_ | with_reducible refine fC_ H R (by with_unfolding_all exact H.b) (by with_unfolding_all rfl) (by with_unfolding_all rfl) ?_ | with_reducible refine aC H R (by with_unfolding_all exact H.b) (by with_unfolding_all rfl) (by decide) (by with_unfolding_all rfl) rfl (by omega) ?_ | with_reducible refine fG H (by with_unfolding_all first | exact H.b | exact hS) (by with_unfolding_all rfl) ?_ | with_reducible refine aG H (by with_unfolding_all first | exact H.b | exact hS) (by with_unfolding_all rfl) (by decide) rfl (by omega) ?_))
        refine br_bI (fun c2 => ?_) (fun c2 => ?_)
        · (repeat (first | with_reducible refine bd_i ?_ | with_reducible refine fP H (by with_unfolding_all first | exact H.b | exact hS) (by with_unfolding_all rfl) (by with_unfolding_all rfl) ?_ | with_reducible refine vG H (by with_unfolding_all first | exact H.b | exact hS) (by with_unfolding_all rfl) ?_ | with_reducible refine fC_ H R (by with_unfolding_all exact H.b) (by with_unfolding_all rfl) (by with_unfolding_all rfl) ?_ | with_reducible refine aC H R (by with_unfolding_all exact H.b) (by with_unfolding_all rfl) (by decide) (by with_unfolding_all rfl) rfl (by omega) ?_ | with_reducible refine fG H (by with_unfolding_all first | exact H.b | exact hS) (by with_unfolding_all rfl) ?_ | with_reducible refine aG H (by with_unfolding_all first | exact H.b | exact hS) (by with_unfolding_all rfl) (by decide) rfl (by omega) ?_))
          rw [C1 j hj, e]
          refine tG (id := 902) H H.b rfl (by decide) rfl (by omega) (fun h' H' => ks m ?_ h' H')
          simp [chO, e, c2, show ¬ m = 0 by omega]
        · exact kn (by simp [chO, e, c2])
  · obtain ⟨v, w, h1⟩ := s
    obtain ⟨e1, e2, X1, H1, o1, c1⟩ := hI
    dsimp only at e1 e2 H1 ⊢
    subst e1 e2
    have R1 := R.offL o1 (by decide)
    have z := k X1 h1 H1 o1 c1
    clear H R
    have H := H1
    have R := R1
    dsimp only [w_X8_gatherChoices_73, w_X8_gatherChoices_67, w_X8_gatherChoices_5, w_X8_gatherChoices]
    (repeat (first | with_reducible refine bd_i ?_ | with_reducible refine fP H (by with_unfolding_all first | exact H.b | exact hS) (by with_unfolding_all rfl) (by with_unfolding_all rfl) ?_ | with_reducible refine vG H (by with_unfolding_all first | exact H.b | exact hS) (by with_unfolding_all rfl) ?_ | with_reducible refine fC_ H R (by with_unfolding_all exact H.b) (by with_unfolding_all rfl) (by with_unfolding_all rfl) ?_ | with_reducible refine aC H R (by with_unfolding_all exact H.b) (by with_unfolding_all rfl) (by decide) (by with_unfolding_all rfl) rfl (by omega) ?_ | with_reducible refine fG H (by with_unfolding_all first | exact H.b | exact hS) (by with_unfolding_all rfl) ?_ | with_reducible refine aG H (by with_unfolding_all first | exact H.b | exact hS) (by with_unfolding_all rfl) (by decide) rfl (by omega) ?_))
    rw [e3]
    exact br_end z
theorem c_meetsChoices (H : G A S h0 X h) {l : List Nat} {s : Nat} (hs : s < 256) (hl : l.length ≤ 120) (hm : ∀ m, m ∈ l → m < 256) (L : RoL X 902 l) (k : Q (bI (meets l s)) h) : w_X8_meetsChoices (A 8) (nI s) (nI l.length) h Q := by
  have R : True := trivial
  refine lp_ex l.length (fun j => (nI j, h)) (fun j => ∀ i, i < j → l.getD i 0 &&& s ≠ 0) (fun j kk1 hj hP kk => ?_) (fun hP kk1 => ?_) (Nat.zero_le _) (fun i hi => absurd hi (Nat.not_lt_zero _))
  · rw [nI_succ] at kk
    have hd : l.getD j 0 = l[j] := by simp [List.getD_eq_getElem?_getD, List.getElem?_eq_getElem hj]
    have hq := hm _ (List.getElem_mem hj)
    dsimp only [w_X8_meetsChoices_26, w_X8_meetsChoices_18, w_X8_meetsChoices_2, w_X8_meetsChoices]
    refine br_go hj (by omega) ?_
    (repeat (first | with_reducible refine bd_i ?_ | with_reducible refine fP H (by with_unfolding_all first | exact H.b | exact hS) (by with_unfolding_all rfl) (by with_unfolding_all rfl) ?_ | with_reducible refine vG H (by with_unfolding_all first | exact H.b | exact hS) (by with_unfolding_all rfl) ?_ | with_reducible refine fC_ H R (by with_unfolding_all exact H.b) (by with_unfolding_all rfl) (by with_unfolding_all rfl) ?_ | with_reducible refine aC H R (by with_unfolding_all exact H.b) (by with_unfolding_all rfl) (by decide) (by with_unfolding_all rfl) rfl (by omega) ?_ | with_reducible refine fG H (by with_unfolding_all first | exact H.b | exact hS) (by with_unfolding_all rfl) ?_ | with_reducible refine aG H (by with_unfolding_all first | exact H.b | exact hS) (by with_unfolding_all rfl) (by decide) rfl (by omega) ?_))
    rw [L j hj, nI_and]
    have hx : l.getD j 0 &&& s < 256 := Nat.and_lt_two_pow (n := 8) _ hs
    refine br_Eq (b := 0) (by omega) (by decide) (fun c => ?_) (fun c => ?_)
    · refine qf k ?_
      rw [← Bool.not_eq_true, meets, List.all_eq_true]
      intro z
      have := z _ (List.getElem_mem hj)
      rw [decide_eq_true_eq, ← hd] at this
      exact this c
    · refine kk (fun i hi => ?_)
      by_cases e : i = j
      · subst e
        exact c
      · exact hP i (by omega)
  · dsimp only [w_X8_meetsChoices_26, w_X8_meetsChoices_18, w_X8_meetsChoices_2, w_X8_meetsChoices]
    refine br_end (qt k ?_)
    rw [meets, List.all_eq_true]
    intro m hm2
    obtain ⟨i, hi, e⟩ := List.getElem_of_mem hm2
    rw [decide_eq_true_eq, ← e]
    have := hP i hi
    rw [List.getD_eq_getElem?_getD, List.getElem?_eq_getElem hi] at this
    exact this
theorem chL_lt (O : Ok wd N) {a b : Int32} : ∀ {n m : Nat}, m ∈ chL wd N a b n → m < 2 ^ N 0 ∧ 0 < m := by
  intro n
  induction n with
  | zero => intro m h; simp [chL] at h
  | succ n ih =>
    intro m h
    simp only [chL] at h
    cases e : chO wd N a b n with
    | none =>
      rw [e] at h
      exact ih h
    | some q =>
      rw [e] at h
      dsimp only at h
      rw [List.mem_append, List.mem_singleton] at h
      rcases h with h | h
      · exact ih h
      · subst h
        unfold chO at e
        cases e2 : caseM wd N n with
        | none => rw [e2] at e; cases e
        | some z =>
          rw [e2] at e
          dsimp only at e
          split at e
          · cases e
          · split at e
            · cases e
              exact ⟨caseM_lt e2, by omega⟩
            · cases e
theorem meets_full (O : Ok wd N) {a b : Int32} {n : Nat} : meets (chL wd N a b n) (2 ^ N 0 - 1) = true := by
  rw [meets, List.all_eq_true]
  intro m hm
  obtain ⟨h1, h2⟩ := chL_lt O hm
  rw [decide_eq_true_eq, Nat.and_two_pow_sub_one_eq_mod, Nat.mod_eq_of_lt h1]
  omega
/-- the fewest guns that all cases need -/
def ndN (wd : Nat → Int32) (N : Nat → Nat) (a b : Int32) : Nat := cB (meets (chL wd N a b (N 3))) (2 ^ N 0 - 1) (2 ^ N 0)
theorem c_fewestGuns (H : G A S h0 X h) (R : CR X wd) (O : Ok wd N) (C : CG X wd N) {a b : Int32} (k : ∀ X' h', G A S h0 X' h' → Off [902] X X' → Q (nI (ndN wd N a b)) h') : w_X8_fewestGuns (A 8) a b h Q := by
  obtain ⟨e0, h8⟩ := O.g
  have hp : 2 ^ N 0 ≤ 2 ^ 8 := Nat.pow_le_pow_right (by omega) h8
  have hp0 : 0 < 2 ^ N 0 := Nat.two_pow_pos _
  unfold w_X8_fewestGuns
  (repeat (first | with_reducible refine bd_i ?_ | with_reducible refine fP H (by with_unfolding_all first | exact H.b | exact hS) (by with_unfolding_all rfl) (by with_unfolding_all rfl) ?_ | with_reducible refine vG H (by with_unfolding_all first | exact H.b | exact hS) (by with_unfolding_all rfl) ?_ | with_reducible refine fC_ H R (by with_unfolding_all exact H.b) (by with_unfolding_all rfl) (by with_unfolding_all rfl) ?_ | with_reducible refine aC H R (by with_unfolding_all exact H.b) (by with_unfolding_all rfl) (by decide) (by with_unfolding_all rfl) rfl (by omega) ?_ | with_reducible refine fG H (by with_unfolding_all first | exact H.b | exact hS) (by with_unfolding_all rfl) ?_ | with_reducible refine aG H (by with_unfolding_all first | exact H.b | exact hS) (by with_unfolding_all rfl) (by decide) rfl (by omega) ?_))
  refine c_gatherChoices H R O C (fun X1 h1 H1 o1 L1 => ?_)
  have z := k X1 h1 H1 o1
  have R1 := R.offL o1 (by decide)
  clear k H R
  have H := H1
  have R := R1
  (repeat (first | with_reducible refine bd_i ?_ | with_reducible refine fP H (by with_unfolding_all first | exact H.b | exact hS) (by with_unfolding_all rfl) (by with_unfolding_all rfl) ?_ | with_reducible refine vG H (by with_unfolding_all first | exact H.b | exact hS) (by with_unfolding_all rfl) ?_ | with_reducible refine fC_ H R (by with_unfolding_all exact H.b) (by with_unfolding_all rfl) (by with_unfolding_all rfl) ?_ | with_reducible refine aC H R (by with_unfolding_all exact H.b) (by with_unfolding_all rfl) (by decide) (by with_unfolding_all rfl) rfl (by omega) ?_ | with_reducible refine fG H (by with_unfolding_all first | exact H.b | exact hS) (by with_unfolding_all rfl) ?_ | with_reducible refine aG H (by with_unfolding_all first | exact H.b | exact hS) (by with_unfolding_all rfl) (by decide) rfl (by omega) ?_))
  rw [e0, sh1 (by omega), show nI (2 ^ N 0) - 1 = nI (2 ^ N 0 - 1) from pk_sub (b := 1) (by omega)]
  refine lp_up (2 ^ N 0) (fun j => (nI (cB (meets (chL wd N a b (N 3))) (2 ^ N 0 - 1) j), nI j, h1)) (fun j kk1 hj kk => ?_) (fun kk1 => ?_) (Nat.zero_le _)
  · rw [nI_succ] at kk
    simp only [cB] at kk
    have hb := cB_le (p := meets (chL wd N a b (N 3))) (full := 2 ^ N 0 - 1) (n := j) (by omega)
    have hl := chL_len (wd := wd) (N := N) (a := a) (b := b) (n := N 3)
    have h3 := O.f.2
    generalize cB (meets (chL wd N a b (N 3))) (2 ^ N 0 - 1) j = best at *
    dsimp only [w_X8_fewestGuns_76, w_X8_fewestGuns_70, w_X8_fewestGuns_26, w_X8_fewestGuns]
    (repeat (first | with_reducible refine bd_i ?_ | with_reducible refine fP H (by with_unfolding_all first | exact H.b | exact hS) (by with_unfolding_all rfl) (by with_unfolding_all rfl) ?_ | with_reducible refine vG H (by with_unfolding_all first | exact H.b | exact hS) (by with_unfolding_all rfl) ?_ | with_reducible refine fC_ H R (by with_unfolding_all exact H.b) (by with_unfolding_all rfl) (by with_unfolding_all rfl) ?_ | with_reducible refine aC H R (by with_unfolding_all exact H.b) (by with_unfolding_all rfl) (by decide) (by with_unfolding_all rfl) rfl (by omega) ?_ | with_reducible refine fG H (by with_unfolding_all first | exact H.b | exact hS) (by with_unfolding_all rfl) ?_ | with_reducible refine aG H (by with_unfolding_all first | exact H.b | exact hS) (by with_unfolding_all rfl) (by decide) rfl (by omega) ?_))
    rw [e0, sh1 (by omega)]
    refine br_go hj (by omega) ?_
    (repeat (first | with_reducible refine bitCount ?_ | with_reducible refine bd_i ?_ | with_reducible refine fP H (by with_unfolding_all first | exact H.b | exact hS) (by with_unfolding_all rfl) (by with_unfolding_all rfl) ?_ | with_reducible refine vG H (by with_unfolding_all first | exact H.b | exact hS) (by with_unfolding_all rfl) ?_ | with_reducible refine fC_ H R (by with_unfolding_all exact H.b) (by with_unfolding_all rfl) (by with_unfolding_all rfl) ?_ | with_reducible refine aC H R (by with_unfolding_all exact H.b) (by with_unfolding_all rfl) (by decide) (by with_unfolding_all rfl) rfl (by omega) ?_ | with_reducible refine fG H (by with_unfolding_all first | exact H.b | exact hS) (by with_unfolding_all rfl) ?_ | with_reducible refine aG H (by with_unfolding_all first | exact H.b | exact hS) (by with_unfolding_all rfl) (by decide) rfl (by omega) ?_))
    rw [pc_N j (by omega), pc_N best (by omega)]
    have p1 := pc_lt j (by omega)
    have p2 := pc_lt best (by omega)
    refine br_Le (by omega) (by omega) (fun c => ?_) (fun c => ?_)
    · rw [if_neg (by simp; omega)] at kk
      exact kk
    · have hmm : ∀ m, m ∈ chL wd N a b (N 3) → m < 256 := fun m hm => by
        have := (chL_lt O hm).1
        omega
      (repeat (first | with_reducible refine c_meetsChoices H (by omega) (by omega) hmm L1 ?_ | with_reducible refine bd_i ?_ | with_reducible refine fP H (by with_unfolding_all first | exact H.b | exact hS) (by with_unfolding_all rfl) (by with_unfolding_all rfl) ?_ | with_reducible refine vG H (by with_unfolding_all first | exact H.b | exact hS) (by with_unfolding_all rfl) ?_ | with_reducible refine fC_ H R (by with_unfolding_all exact H.b) (by with_unfolding_all rfl) (by with_unfolding_all rfl) ?_ | with_reducible refine aC H R (by with_unfolding_all exact H.b) (by with_unfolding_all rfl) (by decide) (by with_unfolding_all rfl) rfl (by omega) ?_ | with_reducible refine fG H (by with_unfolding_all first | exact H.b | exact hS) (by with_unfolding_all rfl) ?_ | with_reducible refine aG H (by with_unfolding_all first | exact H.b | exact hS) (by with_unfolding_all rfl) (by decide) rfl (by omega) ?_))
      refine br_bI (fun c2 => ?_) (fun c2 => ?_)
      · rw [if_pos (by simp [c2]; omega)] at kk
        exact kk
      · rw [if_neg (by simp [c2])] at kk
        exact kk
  · dsimp only [w_X8_fewestGuns_76, w_X8_fewestGuns_70, w_X8_fewestGuns_26, w_X8_fewestGuns]
    (repeat (first | with_reducible refine bd_i ?_ | with_reducible refine fP H (by with_unfolding_all first | exact H.b | exact hS) (by with_unfolding_all rfl) (by with_unfolding_all rfl) ?_ | with_reducible refine vG H (by with_unfolding_all first | exact H.b | exact hS) (by with_unfolding_all rfl) ?_ | with_reducible refine fC_ H R (by with_unfolding_all exact H.b) (by with_unfolding_all rfl) (by with_unfolding_all rfl) ?_ | with_reducible refine aC H R (by with_unfolding_all exact H.b) (by with_unfolding_all rfl) (by decide) (by with_unfolding_all rfl) rfl (by omega) ?_ | with_reducible refine fG H (by with_unfolding_all first | exact H.b | exact hS) (by with_unfolding_all rfl) ?_ | with_reducible refine aG H (by with_unfolding_all first | exact H.b | exact hS) (by with_unfolding_all rfl) (by decide) rfl (by omega) ?_))
    rw [e0, sh1 (by omega)]
    exact br_end z
theorem m_neededIn (H : G A S h0 X h) (M : MR X wd) (O : Ok wd N) {a b : Int32} (k : Q (nI (ndN wd N a b)) h) : w_X12_neededIn (A 12) a b h Q := by
  obtain ⟨e0, h8⟩ := O.g
  obtain ⟨e3, h3⟩ := O.f
  have hp : 2 ^ N 0 ≤ 2 ^ 8 := Nat.pow_le_pow_right (by omega) h8
  have hp0 : 0 < 2 ^ N 0 := Nat.two_pow_pos _
  have hend := rB_end (p := meets (chL wd N a b (N 3))) h8 (meets_full O)
  refine lp_up (2 ^ N 0) (fun j => (oI (rB (meets (chL wd N a b (N 3))) j), nI j, h)) (fun j kk1 hj kk => ?_) (fun kk1 => ?_) (Nat.zero_le _)
  · rw [nI_succ] at kk
    simp only [rB] at kk
    have key : ∀ v : Int32, (meets (chL wd N a b (N 3)) j = true → kk1 (nI j, nI j + 1, h)) → (¬ meets (chL wd N a b (N 3)) j = true → kk1 (v, nI j + 1, h)) → w_X12_neededIn_37 (fun y3 h => w_X12_neededIn_133 y3 h Q) (fun y3 y4 h => kk1 (y3, y4, h)) (A 12) a b v (nI j) h Q := by
      intro v k1 k2
      unfold w_X12_neededIn_37
      have fin : w_X12_neededIn_119 (fun y3 h => w_X12_neededIn_133 y3 h Q) (fun y3 y4 h => kk1 (y3, y4, h)) (A 12) a b v (nI j) (bI (allB (mtB wd N a b j) (N 3))) h Q := by
        unfold w_X12_neededIn_119
        rw [meets_all]
        exact br_bI k1 k2
      refine lp_up (N 3) (fun i => (bI (allB (mtB wd N a b j) i), nI i, h)) (fun i kk2 hi kk3 => ?_) (fun kk2 => ?_) (Nat.zero_le _)
      · rw [nI_succ] at kk3
        simp only [allB] at kk3
        unfold w_X12_neededIn_43
        dsimp only
        (repeat (first | with_reducible refine m_finds H M ?_ | with_reducible refine bd_i ?_ | with_reducible refine fP H (by with_unfolding_all exact H.b) (by with_unfolding_all rfl) (by with_unfolding_all rfl) ?_ | with_reducible refine vG H (by with_unfolding_all exact H.b) (by with_unfolding_all rfl) ?_ | with_reducible refine aM H M rfl (by omega) ?_ | with_reducible refine aM H M (ix0 0) (by omega) ?_ | with_reducible refine aM H M (ix0 1) (by omega) ?_ | with_reducible refine aM H M (ix0 2) (by omega) ?_ | with_reducible refine aM H M (ix0 3) (by omega) ?_ | with_reducible refine aM H M (ix0 4) (by omega) ?_ | with_reducible refine aM H M (ix0 5) (by omega) ?_ | with_reducible refine aM H M (ix0 6) (by omega) ?_ | with_reducible refine aM H M (ix0 7) (by omega) ?_ | with_reducible refine aM H M (ix0 8) (by omega) ?_ | with_reducible refine aM H M (ix0 9) (by omega) ?_ | with_reducible refine aM H M (ix0 10) (by omega) ?_ | with_reducible refine aM H M (ix0 11) (by omega) ?_ | with_reducible refine aM H M (ix0 12) (by omega) ?_ | with_reducible refine aM H M (ix1 13 _) (by omega) ?_ | with_reducible refine aM H M (ix1 1161 _) (by omega) ?_ | with_reducible refine aM H M (ix2 269 4 _) (by omega) ?_ | with_reducible refine aM H M (ix4 269 4 _ 1) (by omega) ?_ | with_reducible refine aM H M (ix4 269 4 _ 2) (by omega) ?_ | with_reducible refine aM H M (ix4 269 4 _ 3) (by omega) ?_ | with_reducible refine fG H (by with_unfolding_all exact H.b) (by with_unfolding_all rfl) ?_ | with_reducible refine aG H (by with_unfolding_all exact H.b) (by with_unfolding_all rfl) (by decide) rfl (by omega) ?_))
        rw [e3]
        refine br_go hi (by omega) ?_
        refine br_bI (fun c1 => ?_) (fun c1 => ?_)
        · dsimp only [w_X12_neededIn_90, w_X12_neededIn_91, w_X12_neededIn_106, w_X12_neededIn_111]
          rw [c1, Bool.true_and] at kk3
          (repeat (first | with_reducible refine m_isSeenCase (N := N) H M (by omega) ?_ | with_reducible refine bd_i ?_ | with_reducible refine fP H (by with_unfolding_all exact H.b) (by with_unfolding_all rfl) (by with_unfolding_all rfl) ?_ | with_reducible refine vG H (by with_unfolding_all exact H.b) (by with_unfolding_all rfl) ?_ | with_reducible refine aM H M rfl (by omega) ?_ | with_reducible refine aM H M (ix0 0) (by omega) ?_ | with_reducible refine aM H M (ix0 1) (by omega) ?_ | with_reducible refine aM H M (ix0 2) (by omega) ?_ | with_reducible refine aM H M (ix0 3) (by omega) ?_ | with_reducible refine aM H M (ix0 4) (by omega) ?_ | with_reducible refine aM H M (ix0 5) (by omega) ?_ | with_reducible refine aM H M (ix0 6) (by omega) ?_ | with_reducible refine aM H M (ix0 7) (by omega) ?_ | with_reducible refine aM H M (ix0 8) (by omega) ?_ | with_reducible refine aM H M (ix0 9) (by omega) ?_ | with_reducible refine aM H M (ix0 10) (by omega) ?_ | with_reducible refine aM H M (ix0 11) (by omega) ?_ | with_reducible refine aM H M (ix0 12) (by omega) ?_ | with_reducible refine aM H M (ix1 13 _) (by omega) ?_ | with_reducible refine aM H M (ix1 1161 _) (by omega) ?_ | with_reducible refine aM H M (ix2 269 4 _) (by omega) ?_ | with_reducible refine aM H M (ix4 269 4 _ 1) (by omega) ?_ | with_reducible refine aM H M (ix4 269 4 _ 2) (by omega) ?_ | with_reducible refine aM H M (ix4 269 4 _ 3) (by omega) ?_ | with_reducible refine fG H (by with_unfolding_all exact H.b) (by with_unfolding_all rfl) ?_ | with_reducible refine aG H (by with_unfolding_all exact H.b) (by with_unfolding_all rfl) (by decide) rfl (by omega) ?_))
          cases e : caseM wd N i with
          | none =>
            refine br_T rfl (br_T rfl ?_)
            rw [bI_t (by simp [mtB, chO, e])] at kk3
            exact kk3
          | some m =>
            have hm := caseM_256 O e
            refine br_F (show ¬ bI true = 0 by decide) ?_
            (repeat (first | with_reducible refine f1 H M (by omega) ?_ | with_reducible refine m_isInArea ?_ | with_reducible refine bd_i ?_ | with_reducible refine fP H (by with_unfolding_all exact H.b) (by with_unfolding_all rfl) (by with_unfolding_all rfl) ?_ | with_reducible refine vG H (by with_unfolding_all exact H.b) (by with_unfolding_all rfl) ?_ | with_reducible refine aM H M rfl (by omega) ?_ | with_reducible refine aM H M (ix0 0) (by omega) ?_ | with_reducible refine aM H M (ix0 1) (by omega) ?_ | with_reducible refine aM H M (ix0 2) (by omega) ?_ | with_reducible refine aM H M (ix0 3) (by omega) ?_ | with_reducible refine aM H M (ix0 4) (by omega) ?_ | with_reducible refine aM H M (ix0 5) (by omega) ?_ | with_reducible refine aM H M (ix0 6) (by omega) ?_ | with_reducible refine aM H M (ix0 7) (by omega) ?_ | with_reducible refine aM H M (ix0 8) (by omega) ?_ | with_reducible refine aM H M (ix0 9) (by omega) ?_ | with_reducible refine aM H M (ix0 10) (by omega) ?_ | with_reducible refine aM H M (ix0 11) (by omega) ?_ | with_reducible refine aM H M (ix0 12) (by omega) ?_ | with_reducible refine aM H M (ix1 13 _) (by omega) ?_ | with_reducible refine aM H M (ix1 1161 _) (by omega) ?_ | with_reducible refine aM H M (ix2 269 4 _) (by omega) ?_ | with_reducible refine aM H M (ix4 269 4 _ 1) (by omega) ?_ | with_reducible refine aM H M (ix4 269 4 _ 2) (by omega) ?_ | with_reducible refine aM H M (ix4 269 4 _ 3) (by omega) ?_ | with_reducible refine fG H (by with_unfolding_all exact H.b) (by with_unfolding_all rfl) ?_ | with_reducible refine aG H (by with_unfolding_all exact H.b) (by with_unfolding_all rfl) (by decide) rfl (by omega) ?_))
            refine br_bI (fun c2 => ?_) (fun c2 => ?_)
            · (repeat (first | with_reducible refine m_mayBe H M O (by omega) ?_ | with_reducible refine bd_i ?_ | with_reducible refine fP H (by with_unfolding_all exact H.b) (by with_unfolding_all rfl) (by with_unfolding_all rfl) ?_ | with_reducible refine vG H (by with_unfolding_all exact H.b) (by with_unfolding_all rfl) ?_ | with_reducible refine aM H M rfl (by omega) ?_ | with_reducible refine aM H M (ix0 0) (by omega) ?_ | with_reducible refine aM H M (ix0 1) (by omega) ?_ | with_reducible refine aM H M (ix0 2) (by omega) ?_ | with_reducible refine aM H M (ix0 3) (by omega) ?_ | with_reducible refine aM H M (ix0 4) (by omega) ?_ | with_reducible refine aM H M (ix0 5) (by omega) ?_ | with_reducible refine aM H M (ix0 6) (by omega) ?_ | with_reducible refine aM H M (ix0 7) (by omega) ?_ | with_reducible refine aM H M (ix0 8) (by omega) ?_ | with_reducible refine aM H M (ix0 9) (by omega) ?_ | with_reducible refine aM H M (ix0 10) (by omega) ?_ | with_reducible refine aM H M (ix0 11) (by omega) ?_ | with_reducible refine aM H M (ix0 12) (by omega) ?_ | with_reducible refine aM H M (ix1 13 _) (by omega) ?_ | with_reducible refine aM H M (ix1 1161 _) (by omega) ?_ | with_reducible refine aM H M (ix2 269 4 _) (by omega) ?_ | with_reducible refine aM H M (ix4 269 4 _ 1) (by omega) ?_ | with_reducible refine aM H M (ix4 269 4 _ 2) (by omega) ?_ | with_reducible refine aM H M (ix4 269 4 _ 3) (by omega) ?_ | with_reducible refine fG H (by with_unfolding_all exact H.b) (by with_unfolding_all rfl) ?_ | with_reducible refine aG H (by with_unfolding_all exact H.b) (by with_unfolding_all rfl) (by decide) rfl (by omega) ?_))
              rw [mb_M O e]
              refine br_Eq (b := 0) (by omega) (by decide) (fun c => ?_) (fun c => ?_)
              · rw [bI_t (by simp [mtB, chO, e, c])] at kk3
                exact kk3
              · rw [nI_and]
                have hx : m &&& j < 256 := Nat.and_lt_two_pow (n := 8) _ (by omega)
                refine br_Eq (b := 0) (by omega) (by decide) (fun d => ?_) (fun d => ?_)
                · rw [bI_f (by simp [mtB, chO, e, c, c2, d])] at kk3
                  exact kk3
                · rw [bI_t (by simp [mtB, chO, e, c, c2, d])] at kk3
                  exact kk3
            · refine br_T rfl ?_
              rw [bI_t (by simp [mtB, chO, e, c2])] at kk3
              exact kk3
        · have := allB_mono (p := mtB wd N a b j) (Nat.le_of_lt hi) (by simpa using c1)
          rw [this] at fin
          rw [bI_f (by simpa using c1)]
          exact fin
      · unfold w_X12_neededIn_43
        dsimp only
        (repeat (first | with_reducible refine m_finds H M ?_ | with_reducible refine bd_i ?_ | with_reducible refine fP H (by with_unfolding_all exact H.b) (by with_unfolding_all rfl) (by with_unfolding_all rfl) ?_ | with_reducible refine vG H (by with_unfolding_all exact H.b) (by with_unfolding_all rfl) ?_ | with_reducible refine aM H M rfl (by omega) ?_ | with_reducible refine aM H M (ix0 0) (by omega) ?_ | with_reducible refine aM H M (ix0 1) (by omega) ?_ | with_reducible refine aM H M (ix0 2) (by omega) ?_ | with_reducible refine aM H M (ix0 3) (by omega) ?_ | with_reducible refine aM H M (ix0 4) (by omega) ?_ | with_reducible refine aM H M (ix0 5) (by omega) ?_ | with_reducible refine aM H M (ix0 6) (by omega) ?_ | with_reducible refine aM H M (ix0 7) (by omega) ?_ | with_reducible refine aM H M (ix0 8) (by omega) ?_ | with_reducible refine aM H M (ix0 9) (by omega) ?_ | with_reducible refine aM H M (ix0 10) (by omega) ?_ | with_reducible refine aM H M (ix0 11) (by omega) ?_ | with_reducible refine aM H M (ix0 12) (by omega) ?_ | with_reducible refine aM H M (ix1 13 _) (by omega) ?_ | with_reducible refine aM H M (ix1 1161 _) (by omega) ?_ | with_reducible refine aM H M (ix2 269 4 _) (by omega) ?_ | with_reducible refine aM H M (ix4 269 4 _ 1) (by omega) ?_ | with_reducible refine aM H M (ix4 269 4 _ 2) (by omega) ?_ | with_reducible refine aM H M (ix4 269 4 _ 3) (by omega) ?_ | with_reducible refine fG H (by with_unfolding_all exact H.b) (by with_unfolding_all rfl) ?_ | with_reducible refine aG H (by with_unfolding_all exact H.b) (by with_unfolding_all rfl) (by decide) rfl (by omega) ?_))
        rw [e3]
        exact br_end fin
    unfold w_X12_neededIn_5
    dsimp only
    (repeat (first | with_reducible refine bd_i ?_ | with_reducible refine fP H (by with_unfolding_all exact H.b) (by with_unfolding_all rfl) (by with_unfolding_all rfl) ?_ | with_reducible refine vG H (by with_unfolding_all exact H.b) (by with_unfolding_all rfl) ?_ | with_reducible refine aM H M rfl (by omega) ?_ | with_reducible refine aM H M (ix0 0) (by omega) ?_ | with_reducible refine aM H M (ix0 1) (by omega) ?_ | with_reducible refine aM H M (ix0 2) (by omega) ?_ | with_reducible refine aM H M (ix0 3) (by omega) ?_ | with_reducible refine aM H M (ix0 4) (by omega) ?_ | with_reducible refine aM H M (ix0 5) (by omega) ?_ | with_reducible refine aM H M (ix0 6) (by omega) ?_ | with_reducible refine aM H M (ix0 7) (by omega) ?_ | with_reducible refine aM H M (ix0 8) (by omega) ?_ | with_reducible refine aM H M (ix0 9) (by omega) ?_ | with_reducible refine aM H M (ix0 10) (by omega) ?_ | with_reducible refine aM H M (ix0 11) (by omega) ?_ | with_reducible refine aM H M (ix0 12) (by omega) ?_ | with_reducible refine aM H M (ix1 13 _) (by omega) ?_ | with_reducible refine aM H M (ix1 1161 _) (by omega) ?_ | with_reducible refine aM H M (ix2 269 4 _) (by omega) ?_ | with_reducible refine aM H M (ix4 269 4 _ 1) (by omega) ?_ | with_reducible refine aM H M (ix4 269 4 _ 2) (by omega) ?_ | with_reducible refine aM H M (ix4 269 4 _ 3) (by omega) ?_ | with_reducible refine fG H (by with_unfolding_all exact H.b) (by with_unfolding_all rfl) ?_ | with_reducible refine aG H (by with_unfolding_all exact H.b) (by with_unfolding_all rfl) (by decide) rfl (by omega) ?_))
    rw [e0, sh1 (by omega)]
    refine br_go hj (by omega) ?_
    cases e : rB (meets (chL wd N a b (N 3))) j with
    | none =>
      rw [e] at kk
      dsimp only at kk
      refine br_T (show oI none < 0 by decide) (key _ (fun c => ?_) (fun c => ?_))
      · rw [if_pos c] at kk
        exact kk
      · rw [if_neg c] at kk
        exact kk
    | some q =>
      rw [e] at kk
      dsimp only at kk
      have hq := rB_lt e
      refine br_F (show ¬ nI q < 0 from nI_pos (by omega)) ?_
      dsimp only [oI] at kk ⊢
      refine bitCount (bitCount ?_)
      rw [pc_N j (by omega), pc_N q (by omega)]
      have p1 := pc_lt j (by omega)
      have p2 := pc_lt q (by omega)
      refine br_Lt (by omega) (by omega) (fun c => ?_) (fun c => ?_)
      · refine key _ (fun d => ?_) (fun d => ?_)
        · rw [if_pos (by simp [c, d])] at kk
          exact kk
        · rw [if_neg (by simp [d])] at kk
          exact kk
      · rw [if_neg (by simp; omega)] at kk
        exact kk
  · unfold w_X12_neededIn_5
    dsimp only
    (repeat (first | with_reducible refine bd_i ?_ | with_reducible refine fP H (by with_unfolding_all exact H.b) (by with_unfolding_all rfl) (by with_unfolding_all rfl) ?_ | with_reducible refine vG H (by with_unfolding_all exact H.b) (by with_unfolding_all rfl) ?_ | with_reducible refine aM H M rfl (by omega) ?_ | with_reducible refine aM H M (ix0 0) (by omega) ?_ | with_reducible refine aM H M (ix0 1) (by omega) ?_ | with_reducible refine aM H M (ix0 2) (by omega) ?_ | with_reducible refine aM H M (ix0 3) (by omega) ?_ | with_reducible refine aM H M (ix0 4) (by omega) ?_ | with_reducible refine aM H M (ix0 5) (by omega) ?_ | with_reducible refine aM H M (ix0 6) (by omega) ?_ | with_reducible refine aM H M (ix0 7) (by omega) ?_ | with_reducible refine aM H M (ix0 8) (by omega) ?_ | with_reducible refine aM H M (ix0 9) (by omega) ?_ | with_reducible refine aM H M (ix0 10) (by omega) ?_ | with_reducible refine aM H M (ix0 11) (by omega) ?_ | with_reducible refine aM H M (ix0 12) (by omega) ?_ | with_reducible refine aM H M (ix1 13 _) (by omega) ?_ | with_reducible refine aM H M (ix1 1161 _) (by omega) ?_ | with_reducible refine aM H M (ix2 269 4 _) (by omega) ?_ | with_reducible refine aM H M (ix4 269 4 _ 1) (by omega) ?_ | with_reducible refine aM H M (ix4 269 4 _ 2) (by omega) ?_ | with_reducible refine aM H M (ix4 269 4 _ 3) (by omega) ?_ | with_reducible refine fG H (by with_unfolding_all exact H.b) (by with_unfolding_all rfl) ?_ | with_reducible refine aG H (by with_unfolding_all exact H.b) (by with_unfolding_all rfl) (by decide) rfl (by omega) ?_))
    rw [e0, sh1 (by omega), hend]
    exact br_end k
end NEED
