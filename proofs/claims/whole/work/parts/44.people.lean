/-! guns, people, finds: what only reads -/
def oI (o : Option Nat) : Int32 := match o with
  | none => -1
  | some q => nI q
def foe (wd : Nat → Int32) (p q : Nat) : Bool := decide (wd (304 + 6 * q) = 1) && !decide (wd (305 + 6 * q) = wd (305 + 6 * p))
def fri (wd : Nat → Int32) (p q : Nat) : Bool := !decide (q = p) && (decide (wd (304 + 6 * q) = 1) && decide (wd (305 + 6 * q) = wd (305 + 6 * p)))
def rel (wd : Nat → Int32) (b : Bool) (p q : Nat) : Bool := if b then foe wd p q else fri wd p q
def nrC (wd : Nat → Int32) (b : Bool) (by_ : Int32) (p q : Nat) : Bool := rel wd b p q && decide (¬ by_ < farI (wd (302 + 6 * p)) (wd (302 + 6 * q)))
def nst (wd : Nat → Int32) (b : Bool) (p : Nat) (c : Int32) : Nat → Option Nat
  | 0 => none
  | q + 1 => match nst wd b p c q with
    | none => if rel wd b p q then some q else none
    | some r => if rel wd b p q && decide (farI c (wd (302 + 6 * q)) < farI c (wd (302 + 6 * r))) then some q else some r
theorem nst_lt {wd : Nat → Int32} {b : Bool} {p : Nat} {c : Int32} : ∀ {n r : Nat}, nst wd b p c n = some r → r < n := by
  intro n
  induction n with
  | zero => intro r h; simp [nst] at h
  | succ n ih =>
    intro r h
    simp only [nst] at h
    cases e : nst wd b p c n with
    | none =>
      rw [e] at h
      simp only at h
      split at h
      · cases h
        omega
      · cases h
    | some q =>
      rw [e] at h
      simp only at h
      have := ih e
      split at h
      · cases h
        omega
      · cases h
        omega
section PEOPLE
variable {A : Nat → Nat} {S : Nat → Prop} {h0 h : AH} {X : Nat → Nat → Int32} {wd : Nat → Int32} {N : Nat → Nat} {Q : Int32 → AH → Prop}
theorem c_allRounds (H : G A S h0 X h) (R : CR X wd) (O : Ok wd N) (k : Q (sm (fun g => wd (272 + 4 * g)) (N 0)) h) : w_X2_allRounds (A 2) h Q := by
  obtain ⟨e0, h0⟩ := O.g
  refine lp_up (N 0) (fun j => (sm (fun g => wd (272 + 4 * g)) j, nI j, h)) (fun j kk1 hj kk => ?_) (fun kk1 => ?_) (Nat.zero_le _)
  · dsimp only [w_X2_allRounds_27, w_X2_allRounds_4, w_X2_allRounds]
    (repeat (first | with_reducible refine bd_i ?_ | with_reducible refine fP H (by with_unfolding_all first | exact H.b | exact hS) (by with_unfolding_all rfl) (by with_unfolding_all rfl) ?_ | with_reducible refine vG H (by with_unfolding_all first | exact H.b | exact hS) (by with_unfolding_all rfl) ?_ | with_reducible refine fC_ H R (by with_unfolding_all exact H.b) (by with_unfolding_all rfl) (by with_unfolding_all rfl) ?_ | with_reducible refine aC H R (by with_unfolding_all exact H.b) (by with_unfolding_all rfl) (by decide) (by with_unfolding_all rfl) rfl (by omega) ?_ | with_reducible refine fG H (by with_unfolding_all first | exact H.b | exact hS) (by with_unfolding_all rfl) ?_ | with_reducible refine aG H (by with_unfolding_all first | exact H.b | exact hS) (by with_unfolding_all rfl) (by decide) rfl (by omega) ?_))
    rw [e0]
    refine br_go hj (by omega) ?_
    (repeat (first | with_reducible refine bd_i ?_ | with_reducible refine fP H (by with_unfolding_all first | exact H.b | exact hS) (by with_unfolding_all rfl) (by with_unfolding_all rfl) ?_ | with_reducible refine vG H (by with_unfolding_all first | exact H.b | exact hS) (by with_unfolding_all rfl) ?_ | with_reducible refine fC_ H R (by with_unfolding_all exact H.b) (by with_unfolding_all rfl) (by with_unfolding_all rfl) ?_ | with_reducible refine aC H R (by with_unfolding_all exact H.b) (by with_unfolding_all rfl) (by decide) (by with_unfolding_all rfl) rfl (by omega) ?_ | with_reducible refine fG H (by with_unfolding_all first | exact H.b | exact hS) (by with_unfolding_all rfl) ?_ | with_reducible refine aG H (by with_unfolding_all first | exact H.b | exact hS) (by with_unfolding_all rfl) (by decide) rfl (by omega) ?_))
    (first | exact kk | (simp only [nI_succ] at kk; first | exact kk | (simp_all [sm]; done)))
  · dsimp only [w_X2_allRounds_27, w_X2_allRounds_4, w_X2_allRounds]
    (repeat (first | with_reducible refine bd_i ?_ | with_reducible refine fP H (by with_unfolding_all first | exact H.b | exact hS) (by with_unfolding_all rfl) (by with_unfolding_all rfl) ?_ | with_reducible refine vG H (by with_unfolding_all first | exact H.b | exact hS) (by with_unfolding_all rfl) ?_ | with_reducible refine fC_ H R (by with_unfolding_all exact H.b) (by with_unfolding_all rfl) (by with_unfolding_all rfl) ?_ | with_reducible refine aC H R (by with_unfolding_all exact H.b) (by with_unfolding_all rfl) (by decide) (by with_unfolding_all rfl) rfl (by omega) ?_ | with_reducible refine fG H (by with_unfolding_all first | exact H.b | exact hS) (by with_unfolding_all rfl) ?_ | with_reducible refine aG H (by with_unfolding_all first | exact H.b | exact hS) (by with_unfolding_all rfl) (by decide) rfl (by omega) ?_))
    rw [e0]
    exact br_end k
theorem c_madeBehind (H : G A S h0 X h) (R : CR X wd) (O : Ok wd N) {d : Int32} (k : Q (bts (fun g => decide (¬ wd (271 + 4 * g) ≤ d)) (N 0)) h) : w_X2_madeBehind (A 2) d h Q := by
  obtain ⟨e0, h0⟩ := O.g
  refine lp_up (N 0) (fun j => (bts (fun g => decide (¬ wd (271 + 4 * g) ≤ d)) j, nI j, h)) (fun j kk1 hj kk => ?_) (fun kk1 => ?_) (Nat.zero_le _)
  · dsimp only [w_X2_madeBehind_34, w_X2_madeBehind_28, w_X2_madeBehind_4, w_X2_madeBehind]
    (repeat (first | with_reducible refine bd_i ?_ | with_reducible refine fP H (by with_unfolding_all first | exact H.b | exact hS) (by with_unfolding_all rfl) (by with_unfolding_all rfl) ?_ | with_reducible refine vG H (by with_unfolding_all first | exact H.b | exact hS) (by with_unfolding_all rfl) ?_ | with_reducible refine fC_ H R (by with_unfolding_all exact H.b) (by with_unfolding_all rfl) (by with_unfolding_all rfl) ?_ | with_reducible refine aC H R (by with_unfolding_all exact H.b) (by with_unfolding_all rfl) (by decide) (by with_unfolding_all rfl) rfl (by omega) ?_ | with_reducible refine fG H (by with_unfolding_all first | exact H.b | exact hS) (by with_unfolding_all rfl) ?_ | with_reducible refine aG H (by with_unfolding_all first | exact H.b | exact hS) (by with_unfolding_all rfl) (by decide) rfl (by omega) ?_))
    rw [e0]
    refine br_go hj (by omega) ?_
    (repeat' (first | with_reducible refine bd_i ?_ | with_reducible refine fP H (by with_unfolding_all first | exact H.b | exact hS) (by with_unfolding_all rfl) (by with_unfolding_all rfl) ?_ | with_reducible refine vG H (by with_unfolding_all first | exact H.b | exact hS) (by with_unfolding_all rfl) ?_ | with_reducible refine fC_ H R (by with_unfolding_all exact H.b) (by with_unfolding_all rfl) (by with_unfolding_all rfl) ?_ | with_reducible refine aC H R (by with_unfolding_all exact H.b) (by with_unfolding_all rfl) (by decide) (by with_unfolding_all rfl) rfl (by omega) ?_ | with_reducible refine fG H (by with_unfolding_all first | exact H.b | exact hS) (by with_unfolding_all rfl) ?_ | with_reducible refine aG H (by with_unfolding_all first | exact H.b | exact hS) (by with_unfolding_all rfl) (by decide) rfl (by omega) ?_ | (with_reducible refine br_bI (fun c => ?_) (fun c => ?_)) | (with_reducible refine br_if (fun c => ?_) (fun c => ?_))))
    all_goals (first | exact kk | (simp only [nI_succ] at kk; first | exact kk | (simp_all [bts]; done)))
  · dsimp only [w_X2_madeBehind_34, w_X2_madeBehind_28, w_X2_madeBehind_4, w_X2_madeBehind]
    (repeat (first | with_reducible refine bd_i ?_ | with_reducible refine fP H (by with_unfolding_all first | exact H.b | exact hS) (by with_unfolding_all rfl) (by with_unfolding_all rfl) ?_ | with_reducible refine vG H (by with_unfolding_all first | exact H.b | exact hS) (by with_unfolding_all rfl) ?_ | with_reducible refine fC_ H R (by with_unfolding_all exact H.b) (by with_unfolding_all rfl) (by with_unfolding_all rfl) ?_ | with_reducible refine aC H R (by with_unfolding_all exact H.b) (by with_unfolding_all rfl) (by decide) (by with_unfolding_all rfl) rfl (by omega) ?_ | with_reducible refine fG H (by with_unfolding_all first | exact H.b | exact hS) (by with_unfolding_all rfl) ?_ | with_reducible refine aG H (by with_unfolding_all first | exact H.b | exact hS) (by with_unfolding_all rfl) (by decide) rfl (by omega) ?_))
    rw [e0]
    exact br_end k
theorem c_ofSide (H : G A S h0 X h) (R : CR X wd) (O : Ok wd N) {d : Int32} (k : Q (bts (fun g => decide (wd (269 + 4 * g) = d)) (N 0)) h) : w_X2_ofSide (A 2) d h Q := by
  obtain ⟨e0, h0⟩ := O.g
  refine lp_up (N 0) (fun j => (bts (fun g => decide (wd (269 + 4 * g) = d)) j, nI j, h)) (fun j kk1 hj kk => ?_) (fun kk1 => ?_) (Nat.zero_le _)
  · dsimp only [w_X2_ofSide_34, w_X2_ofSide_28, w_X2_ofSide_4, w_X2_ofSide]
    (repeat (first | with_reducible refine bd_i ?_ | with_reducible refine fP H (by with_unfolding_all first | exact H.b | exact hS) (by with_unfolding_all rfl) (by with_unfolding_all rfl) ?_ | with_reducible refine vG H (by with_unfolding_all first | exact H.b | exact hS) (by with_unfolding_all rfl) ?_ | with_reducible refine fC_ H R (by with_unfolding_all exact H.b) (by with_unfolding_all rfl) (by with_unfolding_all rfl) ?_ | with_reducible refine aC H R (by with_unfolding_all exact H.b) (by with_unfolding_all rfl) (by decide) (by with_unfolding_all rfl) rfl (by omega) ?_ | with_reducible refine fG H (by with_unfolding_all first | exact H.b | exact hS) (by with_unfolding_all rfl) ?_ | with_reducible refine aG H (by with_unfolding_all first | exact H.b | exact hS) (by with_unfolding_all rfl) (by decide) rfl (by omega) ?_))
    rw [e0]
    refine br_go hj (by omega) ?_
    (repeat' (first | with_reducible refine bd_i ?_ | with_reducible refine fP H (by with_unfolding_all first | exact H.b | exact hS) (by with_unfolding_all rfl) (by with_unfolding_all rfl) ?_ | with_reducible refine vG H (by with_unfolding_all first | exact H.b | exact hS) (by with_unfolding_all rfl) ?_ | with_reducible refine fC_ H R (by with_unfolding_all exact H.b) (by with_unfolding_all rfl) (by with_unfolding_all rfl) ?_ | with_reducible refine aC H R (by with_unfolding_all exact H.b) (by with_unfolding_all rfl) (by decide) (by with_unfolding_all rfl) rfl (by omega) ?_ | with_reducible refine fG H (by with_unfolding_all first | exact H.b | exact hS) (by with_unfolding_all rfl) ?_ | with_reducible refine aG H (by with_unfolding_all first | exact H.b | exact hS) (by with_unfolding_all rfl) (by decide) rfl (by omega) ?_ | (with_reducible refine br_bI (fun c => ?_) (fun c => ?_)) | (with_reducible refine br_if (fun c => ?_) (fun c => ?_))))
    all_goals (first | exact kk | (simp only [nI_succ] at kk; first | exact kk | (simp_all [bts]; done)))
  · dsimp only [w_X2_ofSide_34, w_X2_ofSide_28, w_X2_ofSide_4, w_X2_ofSide]
    (repeat (first | with_reducible refine bd_i ?_ | with_reducible refine fP H (by with_unfolding_all first | exact H.b | exact hS) (by with_unfolding_all rfl) (by with_unfolding_all rfl) ?_ | with_reducible refine vG H (by with_unfolding_all first | exact H.b | exact hS) (by with_unfolding_all rfl) ?_ | with_reducible refine fC_ H R (by with_unfolding_all exact H.b) (by with_unfolding_all rfl) (by with_unfolding_all rfl) ?_ | with_reducible refine aC H R (by with_unfolding_all exact H.b) (by with_unfolding_all rfl) (by decide) (by with_unfolding_all rfl) rfl (by omega) ?_ | with_reducible refine fG H (by with_unfolding_all first | exact H.b | exact hS) (by with_unfolding_all rfl) ?_ | with_reducible refine aG H (by with_unfolding_all first | exact H.b | exact hS) (by with_unfolding_all rfl) (by decide) rfl (by omega) ?_))
    rw [e0]
    exact br_end k
def wm (wd : Nat → Int32) (marks : Int32) (g : Nat) : Bool := decide ((marks >>> (wd (270 + 4 * g) &&& 31)) &&& 1 = 1)
theorem c_withMarks (H : G A S h0 X h) (R : CR X wd) (O : Ok wd N) {d : Int32} (k : Q (bts (wm wd d) (N 0)) h) : w_X2_withMarks (A 2) d h Q := by
  obtain ⟨e0, h0⟩ := O.g
  refine lp_up (N 0) (fun j => (bts (wm wd d) j, nI j, h)) (fun j kk1 hj kk => ?_) (fun kk1 => ?_) (Nat.zero_le _)
  · dsimp only [w_X2_withMarks_38, w_X2_withMarks_32, w_X2_withMarks_4, w_X2_withMarks]
    (repeat (first | with_reducible refine bd_i ?_ | with_reducible refine fP H (by with_unfolding_all first | exact H.b | exact hS) (by with_unfolding_all rfl) (by with_unfolding_all rfl) ?_ | with_reducible refine vG H (by with_unfolding_all first | exact H.b | exact hS) (by with_unfolding_all rfl) ?_ | with_reducible refine fC_ H R (by with_unfolding_all exact H.b) (by with_unfolding_all rfl) (by with_unfolding_all rfl) ?_ | with_reducible refine aC H R (by with_unfolding_all exact H.b) (by with_unfolding_all rfl) (by decide) (by with_unfolding_all rfl) rfl (by omega) ?_ | with_reducible refine fG H (by with_unfolding_all first | exact H.b | exact hS) (by with_unfolding_all rfl) ?_ | with_reducible refine aG H (by with_unfolding_all first | exact H.b | exact hS) (by with_unfolding_all rfl) (by decide) rfl (by omega) ?_))
    rw [e0]
    refine br_go hj (by omega) ?_
    (repeat' (first | with_reducible refine bd_i ?_ | with_reducible refine fP H (by with_unfolding_all first | exact H.b | exact hS) (by with_unfolding_all rfl) (by with_unfolding_all rfl) ?_ | with_reducible refine vG H (by with_unfolding_all first | exact H.b | exact hS) (by with_unfolding_all rfl) ?_ | with_reducible refine fC_ H R (by with_unfolding_all exact H.b) (by with_unfolding_all rfl) (by with_unfolding_all rfl) ?_ | with_reducible refine aC H R (by with_unfolding_all exact H.b) (by with_unfolding_all rfl) (by decide) (by with_unfolding_all rfl) rfl (by omega) ?_ | with_reducible refine fG H (by with_unfolding_all first | exact H.b | exact hS) (by with_unfolding_all rfl) ?_ | with_reducible refine aG H (by with_unfolding_all first | exact H.b | exact hS) (by with_unfolding_all rfl) (by decide) rfl (by omega) ?_ | (with_reducible refine br_bI (fun c => ?_) (fun c => ?_)) | (with_reducible refine br_if (fun c => ?_) (fun c => ?_))))
    all_goals (first | exact kk | (simp only [nI_succ] at kk; first | exact kk | (simp_all [bts, wm]; done)))
  · dsimp only [w_X2_withMarks_38, w_X2_withMarks_32, w_X2_withMarks_4, w_X2_withMarks]
    (repeat (first | with_reducible refine bd_i ?_ | with_reducible refine fP H (by with_unfolding_all first | exact H.b | exact hS) (by with_unfolding_all rfl) (by with_unfolding_all rfl) ?_ | with_reducible refine vG H (by with_unfolding_all first | exact H.b | exact hS) (by with_unfolding_all rfl) ?_ | with_reducible refine fC_ H R (by with_unfolding_all exact H.b) (by with_unfolding_all rfl) (by with_unfolding_all rfl) ?_ | with_reducible refine aC H R (by with_unfolding_all exact H.b) (by with_unfolding_all rfl) (by decide) (by with_unfolding_all rfl) rfl (by omega) ?_ | with_reducible refine fG H (by with_unfolding_all first | exact H.b | exact hS) (by with_unfolding_all rfl) ?_ | with_reducible refine aG H (by with_unfolding_all first | exact H.b | exact hS) (by with_unfolding_all rfl) (by decide) rfl (by omega) ?_))
    rw [e0]
    exact br_end k
def mb (wd : Nat → Int32) (N : Nat → Nat) (f : Nat) : Int32 := if wd (349 + 6 * f) = 0 then bts (wm wd (wd (352 + 6 * f))) (N 0) else 0
theorem c_gunsOf (H : G A S h0 X h) (R : CR X wd) (O : Ok wd N) {f : Nat} (hf : f < 120) (k : Q (mb wd N f) h) : w_X7_gunsOf (A 7) (nI f) h Q := by
  dsimp only [w_X7_gunsOf_32, w_X7_gunsOf]
  (repeat' (first | with_reducible refine c_withMarks H R O ?_ | with_reducible refine bd_i ?_ | with_reducible refine fP H (by with_unfolding_all first | exact H.b | exact hS) (by with_unfolding_all rfl) (by with_unfolding_all rfl) ?_ | with_reducible refine vG H (by with_unfolding_all first | exact H.b | exact hS) (by with_unfolding_all rfl) ?_ | with_reducible refine fC_ H R (by with_unfolding_all exact H.b) (by with_unfolding_all rfl) (by with_unfolding_all rfl) ?_ | with_reducible refine aC H R (by with_unfolding_all exact H.b) (by with_unfolding_all rfl) (by decide) (by with_unfolding_all rfl) rfl (by omega) ?_ | with_reducible refine fG H (by with_unfolding_all first | exact H.b | exact hS) (by with_unfolding_all rfl) ?_ | with_reducible refine aG H (by with_unfolding_all first | exact H.b | exact hS) (by with_unfolding_all rfl) (by decide) rfl (by omega) ?_ | (with_reducible refine br_bI (fun c => ?_) (fun c => ?_)) | (with_reducible refine br_if (fun c => ?_) (fun c => ?_))))
  · rw [mb, if_pos c] at k
    exact k
  · rw [mb, if_neg c] at k
    exact k
theorem c_isRelated1 (H : G A S h0 X h) (R : CR X wd) {p q : Nat} (hp : p < 8) (hq : q < 8) (k : Q (bI (foe wd p q)) h) : w_X4_isRelated (A 4) (nI p) (nI q) 1 h Q := by
  dsimp only [w_X4_isRelated_44, w_X4_isRelated_43, w_X4_isRelated_35, w_X4_isRelated]
  (repeat' (first | with_reducible refine br_Eq (by omega) (by omega) (fun c => ?_) (fun c => ?_) | with_reducible refine bd_i ?_ | with_reducible refine fP H (by with_unfolding_all first | exact H.b | exact hS) (by with_unfolding_all rfl) (by with_unfolding_all rfl) ?_ | with_reducible refine vG H (by with_unfolding_all first | exact H.b | exact hS) (by with_unfolding_all rfl) ?_ | with_reducible refine fC_ H R (by with_unfolding_all exact H.b) (by with_unfolding_all rfl) (by with_unfolding_all rfl) ?_ | with_reducible refine aC H R (by with_unfolding_all exact H.b) (by with_unfolding_all rfl) (by decide) (by with_unfolding_all rfl) rfl (by omega) ?_ | with_reducible refine fG H (by with_unfolding_all first | exact H.b | exact hS) (by with_unfolding_all rfl) ?_ | with_reducible refine aG H (by with_unfolding_all first | exact H.b | exact hS) (by with_unfolding_all rfl) (by decide) rfl (by omega) ?_ | (with_reducible refine br_bI (fun c => ?_) (fun c => ?_)) | (with_reducible refine br_if (fun c => ?_) (fun c => ?_))))
  all_goals (try subst_vars)
  all_goals (first | exact zt k (by first | (simp_all [foe]; done) | grind [foe]) | exact zf k (by first | (simp_all [foe]; done) | grind [foe]) | exact qt k (by first | (simp_all [foe]; done) | grind [foe]) | exact qf k (by first | (simp_all [foe]; done) | grind [foe]))
theorem c_isRelated0 (H : G A S h0 X h) (R : CR X wd) {p q : Nat} (hp : p < 8) (hq : q < 8) (k : Q (bI (fri wd p q)) h) : w_X4_isRelated (A 4) (nI p) (nI q) 0 h Q := by
  dsimp only [w_X4_isRelated_44, w_X4_isRelated_43, w_X4_isRelated_35, w_X4_isRelated]
  (repeat' (first | with_reducible refine br_Eq (by omega) (by omega) (fun c => ?_) (fun c => ?_) | with_reducible refine bd_i ?_ | with_reducible refine fP H (by with_unfolding_all first | exact H.b | exact hS) (by with_unfolding_all rfl) (by with_unfolding_all rfl) ?_ | with_reducible refine vG H (by with_unfolding_all first | exact H.b | exact hS) (by with_unfolding_all rfl) ?_ | with_reducible refine fC_ H R (by with_unfolding_all exact H.b) (by with_unfolding_all rfl) (by with_unfolding_all rfl) ?_ | with_reducible refine aC H R (by with_unfolding_all exact H.b) (by with_unfolding_all rfl) (by decide) (by with_unfolding_all rfl) rfl (by omega) ?_ | with_reducible refine fG H (by with_unfolding_all first | exact H.b | exact hS) (by with_unfolding_all rfl) ?_ | with_reducible refine aG H (by with_unfolding_all first | exact H.b | exact hS) (by with_unfolding_all rfl) (by decide) rfl (by omega) ?_ | (with_reducible refine br_bI (fun c => ?_) (fun c => ?_)) | (with_reducible refine br_if (fun c => ?_) (fun c => ?_))))
  all_goals (try subst_vars)
  all_goals (first | exact zt k (by first | (simp_all [fri]; done) | grind [fri]) | exact zf k (by first | (simp_all [fri]; done) | grind [fri]) | exact qt k (by first | (simp_all [fri]; done) | grind [fri]) | exact qf k (by first | (simp_all [fri]; done) | grind [fri]))
theorem c_isRelated (H : G A S h0 X h) (R : CR X wd) {p q : Nat} {b : Bool} (hp : p < 8) (hq : q < 8) (k : Q (bI (rel wd b p q)) h) : w_X4_isRelated (A 4) (nI p) (nI q) (bI b) h Q := by
  cases b
  · exact c_isRelated0 H R hp hq k
  · exact c_isRelated1 H R hp hq k
theorem c_countNear (H : G A S h0 X h) (R : CR X wd) (O : Ok wd N) {p : Nat} {b : Bool} {d : Int32} (hp : p < 8) (k : Q (cnt (nrC wd b d p) (N 1)) h) : w_X4_countNear (A 4) (nI p) (bI b) d h Q := by
  obtain ⟨e0, h0⟩ := O.p
  refine lp_up (N 1) (fun j => (cnt (nrC wd b d p) j, nI j, h)) (fun j kk1 hj kk => ?_) (fun kk1 => ?_) (Nat.zero_le _)
  · dsimp only [w_X4_countNear_55, w_X4_countNear_49, w_X4_countNear_6, w_X4_countNear]
    (repeat (first | with_reducible refine bd_i ?_ | with_reducible refine fP H (by with_unfolding_all first | exact H.b | exact hS) (by with_unfolding_all rfl) (by with_unfolding_all rfl) ?_ | with_reducible refine vG H (by with_unfolding_all first | exact H.b | exact hS) (by with_unfolding_all rfl) ?_ | with_reducible refine fC_ H R (by with_unfolding_all exact H.b) (by with_unfolding_all rfl) (by with_unfolding_all rfl) ?_ | with_reducible refine aC H R (by with_unfolding_all exact H.b) (by with_unfolding_all rfl) (by decide) (by with_unfolding_all rfl) rfl (by omega) ?_ | with_reducible refine fG H (by with_unfolding_all first | exact H.b | exact hS) (by with_unfolding_all rfl) ?_ | with_reducible refine aG H (by with_unfolding_all first | exact H.b | exact hS) (by with_unfolding_all rfl) (by decide) rfl (by omega) ?_))
    rw [e0]
    refine br_go hj (by omega) ?_
    (repeat' (first | with_reducible refine c_isRelated H R (by omega) (by omega) ?_ | with_reducible refine c_far ?_ | with_reducible refine bd_i ?_ | with_reducible refine fP H (by with_unfolding_all first | exact H.b | exact hS) (by with_unfolding_all rfl) (by with_unfolding_all rfl) ?_ | with_reducible refine vG H (by with_unfolding_all first | exact H.b | exact hS) (by with_unfolding_all rfl) ?_ | with_reducible refine fC_ H R (by with_unfolding_all exact H.b) (by with_unfolding_all rfl) (by with_unfolding_all rfl) ?_ | with_reducible refine aC H R (by with_unfolding_all exact H.b) (by with_unfolding_all rfl) (by decide) (by with_unfolding_all rfl) rfl (by omega) ?_ | with_reducible refine fG H (by with_unfolding_all first | exact H.b | exact hS) (by with_unfolding_all rfl) ?_ | with_reducible refine aG H (by with_unfolding_all first | exact H.b | exact hS) (by with_unfolding_all rfl) (by decide) rfl (by omega) ?_ | (with_reducible refine br_bI (fun c => ?_) (fun c => ?_)) | (with_reducible refine br_if (fun c => ?_) (fun c => ?_))))
    all_goals (first | exact kk | (simp only [nI_succ] at kk; first | exact kk | (simp_all [cnt, nrC]; done)))
  · dsimp only [w_X4_countNear_55, w_X4_countNear_49, w_X4_countNear_6, w_X4_countNear]
    (repeat (first | with_reducible refine bd_i ?_ | with_reducible refine fP H (by with_unfolding_all first | exact H.b | exact hS) (by with_unfolding_all rfl) (by with_unfolding_all rfl) ?_ | with_reducible refine vG H (by with_unfolding_all first | exact H.b | exact hS) (by with_unfolding_all rfl) ?_ | with_reducible refine fC_ H R (by with_unfolding_all exact H.b) (by with_unfolding_all rfl) (by with_unfolding_all rfl) ?_ | with_reducible refine aC H R (by with_unfolding_all exact H.b) (by with_unfolding_all rfl) (by decide) (by with_unfolding_all rfl) rfl (by omega) ?_ | with_reducible refine fG H (by with_unfolding_all first | exact H.b | exact hS) (by with_unfolding_all rfl) ?_ | with_reducible refine aG H (by with_unfolding_all first | exact H.b | exact hS) (by with_unfolding_all rfl) (by decide) rfl (by omega) ?_))
    rw [e0]
    exact br_end k
theorem c_foesNear (H : G A S h0 X h) (R : CR X wd) (O : Ok wd N) {p : Nat} (hp : p < 8) (k : Q (cnt (nrC wd true 3 p) (N 1)) h) : w_X4_foesNear (A 4) (nI p) h Q := by
  dsimp only [w_X4_foesNear]
  (repeat (first | with_reducible refine bd_i ?_ | with_reducible refine fP H (by with_unfolding_all first | exact H.b | exact hS) (by with_unfolding_all rfl) (by with_unfolding_all rfl) ?_ | with_reducible refine vG H (by with_unfolding_all first | exact H.b | exact hS) (by with_unfolding_all rfl) ?_ | with_reducible refine fC_ H R (by with_unfolding_all exact H.b) (by with_unfolding_all rfl) (by with_unfolding_all rfl) ?_ | with_reducible refine aC H R (by with_unfolding_all exact H.b) (by with_unfolding_all rfl) (by decide) (by with_unfolding_all rfl) rfl (by omega) ?_ | with_reducible refine fG H (by with_unfolding_all first | exact H.b | exact hS) (by with_unfolding_all rfl) ?_ | with_reducible refine aG H (by with_unfolding_all first | exact H.b | exact hS) (by with_unfolding_all rfl) (by decide) rfl (by omega) ?_))
  exact c_countNear (b := true) H R O hp k
theorem c_friendsNear (H : G A S h0 X h) (R : CR X wd) (O : Ok wd N) {p : Nat} (hp : p < 8) (k : Q (cnt (nrC wd false 2 p) (N 1)) h) : w_X4_friendsNear (A 4) (nI p) h Q := by
  dsimp only [w_X4_friendsNear]
  (repeat (first | with_reducible refine bd_i ?_ | with_reducible refine fP H (by with_unfolding_all first | exact H.b | exact hS) (by with_unfolding_all rfl) (by with_unfolding_all rfl) ?_ | with_reducible refine vG H (by with_unfolding_all first | exact H.b | exact hS) (by with_unfolding_all rfl) ?_ | with_reducible refine fC_ H R (by with_unfolding_all exact H.b) (by with_unfolding_all rfl) (by with_unfolding_all rfl) ?_ | with_reducible refine aC H R (by with_unfolding_all exact H.b) (by with_unfolding_all rfl) (by decide) (by with_unfolding_all rfl) rfl (by omega) ?_ | with_reducible refine fG H (by with_unfolding_all first | exact H.b | exact hS) (by with_unfolding_all rfl) ?_ | with_reducible refine aG H (by with_unfolding_all first | exact H.b | exact hS) (by with_unfolding_all rfl) (by decide) rfl (by omega) ?_))
  exact c_countNear (b := false) H R O hp k
theorem c_livingCount (H : G A S h0 X h) (R : CR X wd) (O : Ok wd N) (k : Q (sm (fun g => wd (304 + 6 * g)) (N 1)) h) : w_X4_livingCount (A 4) h Q := by
  obtain ⟨e0, h0⟩ := O.p
  refine lp_up (N 1) (fun j => (sm (fun g => wd (304 + 6 * g)) j, nI j, h)) (fun j kk1 hj kk => ?_) (fun kk1 => ?_) (Nat.zero_le _)
  · dsimp only [w_X4_livingCount_27, w_X4_livingCount_4, w_X4_livingCount]
    (repeat (first | with_reducible refine bd_i ?_ | with_reducible refine fP H (by with_unfolding_all first | exact H.b | exact hS) (by with_unfolding_all rfl) (by with_unfolding_all rfl) ?_ | with_reducible refine vG H (by with_unfolding_all first | exact H.b | exact hS) (by with_unfolding_all rfl) ?_ | with_reducible refine fC_ H R (by with_unfolding_all exact H.b) (by with_unfolding_all rfl) (by with_unfolding_all rfl) ?_ | with_reducible refine aC H R (by with_unfolding_all exact H.b) (by with_unfolding_all rfl) (by decide) (by with_unfolding_all rfl) rfl (by omega) ?_ | with_reducible refine fG H (by with_unfolding_all first | exact H.b | exact hS) (by with_unfolding_all rfl) ?_ | with_reducible refine aG H (by with_unfolding_all first | exact H.b | exact hS) (by with_unfolding_all rfl) (by decide) rfl (by omega) ?_))
    rw [e0]
    refine br_go hj (by omega) ?_
    (repeat (first | with_reducible refine bd_i ?_ | with_reducible refine fP H (by with_unfolding_all first | exact H.b | exact hS) (by with_unfolding_all rfl) (by with_unfolding_all rfl) ?_ | with_reducible refine vG H (by with_unfolding_all first | exact H.b | exact hS) (by with_unfolding_all rfl) ?_ | with_reducible refine fC_ H R (by with_unfolding_all exact H.b) (by with_unfolding_all rfl) (by with_unfolding_all rfl) ?_ | with_reducible refine aC H R (by with_unfolding_all exact H.b) (by with_unfolding_all rfl) (by decide) (by with_unfolding_all rfl) rfl (by omega) ?_ | with_reducible refine fG H (by with_unfolding_all first | exact H.b | exact hS) (by with_unfolding_all rfl) ?_ | with_reducible refine aG H (by with_unfolding_all first | exact H.b | exact hS) (by with_unfolding_all rfl) (by decide) rfl (by omega) ?_))
    (first | exact kk | (simp only [nI_succ] at kk; first | exact kk | (simp_all [sm]; done)))
  · dsimp only [w_X4_livingCount_27, w_X4_livingCount_4, w_X4_livingCount]
    (repeat (first | with_reducible refine bd_i ?_ | with_reducible refine fP H (by with_unfolding_all first | exact H.b | exact hS) (by with_unfolding_all rfl) (by with_unfolding_all rfl) ?_ | with_reducible refine vG H (by with_unfolding_all first | exact H.b | exact hS) (by with_unfolding_all rfl) ?_ | with_reducible refine fC_ H R (by with_unfolding_all exact H.b) (by with_unfolding_all rfl) (by with_unfolding_all rfl) ?_ | with_reducible refine aC H R (by with_unfolding_all exact H.b) (by with_unfolding_all rfl) (by decide) (by with_unfolding_all rfl) rfl (by omega) ?_ | with_reducible refine fG H (by with_unfolding_all first | exact H.b | exact hS) (by with_unfolding_all rfl) ?_ | with_reducible refine aG H (by with_unfolding_all first | exact H.b | exact hS) (by with_unfolding_all rfl) (by decide) rfl (by omega) ?_))
    rw [e0]
    exact br_end k
theorem c_nearest (H : G A S h0 X h) (R : CR X wd) (O : Ok wd N) {p : Nat} {b : Bool} {d : Int32} (hp : p < 8) (k : Q (oI (nst wd b p d (N 1))) h) : w_X4_nearest (A 4) (nI p) d (bI b) h Q := by
  obtain ⟨e0, h0⟩ := O.p
  refine lp_up (N 1) (fun j => (oI (nst wd b p d j), nI j, h)) (fun j kk1 hj kk => ?_) (fun kk1 => ?_) (Nat.zero_le _)
  · simp only [nst] at kk
    rw [nI_succ] at kk
    cases e : nst wd b p d j with
    | none =>
      rw [e] at kk
      dsimp only [w_X4_nearest_67, w_X4_nearest_61, w_X4_nearest_57, w_X4_nearest_6, w_X4_nearest]
      (repeat (first | with_reducible refine bd_i ?_ | with_reducible refine fP H (by with_unfolding_all first | exact H.b | exact hS) (by with_unfolding_all rfl) (by with_unfolding_all rfl) ?_ | with_reducible refine vG H (by with_unfolding_all first | exact H.b | exact hS) (by with_unfolding_all rfl) ?_ | with_reducible refine fC_ H R (by with_unfolding_all exact H.b) (by with_unfolding_all rfl) (by with_unfolding_all rfl) ?_ | with_reducible refine aC H R (by with_unfolding_all exact H.b) (by with_unfolding_all rfl) (by decide) (by with_unfolding_all rfl) rfl (by omega) ?_ | with_reducible refine fG H (by with_unfolding_all first | exact H.b | exact hS) (by with_unfolding_all rfl) ?_ | with_reducible refine aG H (by with_unfolding_all first | exact H.b | exact hS) (by with_unfolding_all rfl) (by decide) rfl (by omega) ?_))
      rw [e0]
      refine br_go hj (by omega) ?_
      (repeat (first | with_reducible refine c_isRelated H R (by omega) (by omega) ?_ | with_reducible refine bd_i ?_ | with_reducible refine fP H (by with_unfolding_all first | exact H.b | exact hS) (by with_unfolding_all rfl) (by with_unfolding_all rfl) ?_ | with_reducible refine vG H (by with_unfolding_all first | exact H.b | exact hS) (by with_unfolding_all rfl) ?_ | with_reducible refine fC_ H R (by with_unfolding_all exact H.b) (by with_unfolding_all rfl) (by with_unfolding_all rfl) ?_ | with_reducible refine aC H R (by with_unfolding_all exact H.b) (by with_unfolding_all rfl) (by decide) (by with_unfolding_all rfl) rfl (by omega) ?_ | with_reducible refine fG H (by with_unfolding_all first | exact H.b | exact hS) (by with_unfolding_all rfl) ?_ | with_reducible refine aG H (by with_unfolding_all first | exact H.b | exact hS) (by with_unfolding_all rfl) (by decide) rfl (by omega) ?_))
      (with_reducible refine br_bI (fun c => ?_) (fun c => ?_))
      · refine br_T rfl ?_
        rw [if_pos c] at kk
        exact kk
      · rw [if_neg c] at kk
        exact kk
    | some r =>
      have hr := nst_lt e
      rw [e] at kk
      dsimp only at kk
      dsimp only [w_X4_nearest_67, w_X4_nearest_61, w_X4_nearest_57, w_X4_nearest_6, w_X4_nearest]
      (repeat (first | with_reducible refine bd_i ?_ | with_reducible refine fP H (by with_unfolding_all first | exact H.b | exact hS) (by with_unfolding_all rfl) (by with_unfolding_all rfl) ?_ | with_reducible refine vG H (by with_unfolding_all first | exact H.b | exact hS) (by with_unfolding_all rfl) ?_ | with_reducible refine fC_ H R (by with_unfolding_all exact H.b) (by with_unfolding_all rfl) (by with_unfolding_all rfl) ?_ | with_reducible refine aC H R (by with_unfolding_all exact H.b) (by with_unfolding_all rfl) (by decide) (by with_unfolding_all rfl) rfl (by omega) ?_ | with_reducible refine fG H (by with_unfolding_all first | exact H.b | exact hS) (by with_unfolding_all rfl) ?_ | with_reducible refine aG H (by with_unfolding_all first | exact H.b | exact hS) (by with_unfolding_all rfl) (by decide) rfl (by omega) ?_))
      rw [e0]
      refine br_go hj (by omega) ?_
      (repeat (first | with_reducible refine c_isRelated H R (by omega) (by omega) ?_ | with_reducible refine bd_i ?_ | with_reducible refine fP H (by with_unfolding_all first | exact H.b | exact hS) (by with_unfolding_all rfl) (by with_unfolding_all rfl) ?_ | with_reducible refine vG H (by with_unfolding_all first | exact H.b | exact hS) (by with_unfolding_all rfl) ?_ | with_reducible refine fC_ H R (by with_unfolding_all exact H.b) (by with_unfolding_all rfl) (by with_unfolding_all rfl) ?_ | with_reducible refine aC H R (by with_unfolding_all exact H.b) (by with_unfolding_all rfl) (by decide) (by with_unfolding_all rfl) rfl (by omega) ?_ | with_reducible refine fG H (by with_unfolding_all first | exact H.b | exact hS) (by with_unfolding_all rfl) ?_ | with_reducible refine aG H (by with_unfolding_all first | exact H.b | exact hS) (by with_unfolding_all rfl) (by decide) rfl (by omega) ?_))
      (with_reducible refine br_bI (fun c => ?_) (fun c => ?_))
      · refine br_F (show ¬ nI r = -1 from fun z => ?_) ?_
        · have := nI_pos (n := r) (by omega)
          rw [z] at this
          exact this (by decide)
        · dsimp only [oI]
          (repeat (first | with_reducible refine c_far ?_ | with_reducible refine bd_i ?_ | with_reducible refine fP H (by with_unfolding_all first | exact H.b | exact hS) (by with_unfolding_all rfl) (by with_unfolding_all rfl) ?_ | with_reducible refine vG H (by with_unfolding_all first | exact H.b | exact hS) (by with_unfolding_all rfl) ?_ | with_reducible refine fC_ H R (by with_unfolding_all exact H.b) (by with_unfolding_all rfl) (by with_unfolding_all rfl) ?_ | with_reducible refine aC H R (by with_unfolding_all exact H.b) (by with_unfolding_all rfl) (by decide) (by with_unfolding_all rfl) rfl (by omega) ?_ | with_reducible refine fG H (by with_unfolding_all first | exact H.b | exact hS) (by with_unfolding_all rfl) ?_ | with_reducible refine aG H (by with_unfolding_all first | exact H.b | exact hS) (by with_unfolding_all rfl) (by decide) rfl (by omega) ?_))
          (with_reducible refine br_if (fun c => ?_) (fun c => ?_))
          · rw [if_neg (by simp_all)] at kk
            exact kk
          · rw [if_pos (by simp_all)] at kk
            exact kk
      · rw [if_neg (by simp_all)] at kk
        exact kk
  · dsimp only [w_X4_nearest_67, w_X4_nearest_61, w_X4_nearest_57, w_X4_nearest_6, w_X4_nearest]
    (repeat (first | with_reducible refine bd_i ?_ | with_reducible refine fP H (by with_unfolding_all first | exact H.b | exact hS) (by with_unfolding_all rfl) (by with_unfolding_all rfl) ?_ | with_reducible refine vG H (by with_unfolding_all first | exact H.b | exact hS) (by with_unfolding_all rfl) ?_ | with_reducible refine fC_ H R (by with_unfolding_all exact H.b) (by with_unfolding_all rfl) (by with_unfolding_all rfl) ?_ | with_reducible refine aC H R (by with_unfolding_all exact H.b) (by with_unfolding_all rfl) (by decide) (by with_unfolding_all rfl) rfl (by omega) ?_ | with_reducible refine fG H (by with_unfolding_all first | exact H.b | exact hS) (by with_unfolding_all rfl) ?_ | with_reducible refine aG H (by with_unfolding_all first | exact H.b | exact hS) (by with_unfolding_all rfl) (by decide) rfl (by omega) ?_))
    rw [e0]
    exact br_end k
theorem c_someoneHas (H : G A S h0 X h) (R : CR X wd) (O : Ok wd N) {g : Int32} (k : Q (bI (anyB (fun p => decide (wd (301 + 6 * p) = g)) (N 1))) h) : w_X4_someoneHas (A 4) g h Q := by
  obtain ⟨e0, h0⟩ := O.p
  refine lp_ex (N 1) (fun j => (nI j, h)) (fun j => anyB (fun p => decide (wd (301 + 6 * p) = g)) j = false) (fun j kk1 hj hP kk => ?_) (fun hP kk1 => ?_) (Nat.zero_le _) rfl
  · dsimp only [w_X4_someoneHas_28, w_X4_someoneHas_20, w_X4_someoneHas_2, w_X4_someoneHas]
    (repeat (first | with_reducible refine bd_i ?_ | with_reducible refine fP H (by with_unfolding_all first | exact H.b | exact hS) (by with_unfolding_all rfl) (by with_unfolding_all rfl) ?_ | with_reducible refine vG H (by with_unfolding_all first | exact H.b | exact hS) (by with_unfolding_all rfl) ?_ | with_reducible refine fC_ H R (by with_unfolding_all exact H.b) (by with_unfolding_all rfl) (by with_unfolding_all rfl) ?_ | with_reducible refine aC H R (by with_unfolding_all exact H.b) (by with_unfolding_all rfl) (by decide) (by with_unfolding_all rfl) rfl (by omega) ?_ | with_reducible refine fG H (by with_unfolding_all first | exact H.b | exact hS) (by with_unfolding_all rfl) ?_ | with_reducible refine aG H (by with_unfolding_all first | exact H.b | exact hS) (by with_unfolding_all rfl) (by decide) rfl (by omega) ?_))
    rw [e0]
    refine br_go hj (by omega) ?_
    (repeat (first | with_reducible refine bd_i ?_ | with_reducible refine fP H (by with_unfolding_all first | exact H.b | exact hS) (by with_unfolding_all rfl) (by with_unfolding_all rfl) ?_ | with_reducible refine vG H (by with_unfolding_all first | exact H.b | exact hS) (by with_unfolding_all rfl) ?_ | with_reducible refine fC_ H R (by with_unfolding_all exact H.b) (by with_unfolding_all rfl) (by with_unfolding_all rfl) ?_ | with_reducible refine aC H R (by with_unfolding_all exact H.b) (by with_unfolding_all rfl) (by decide) (by with_unfolding_all rfl) rfl (by omega) ?_ | with_reducible refine fG H (by with_unfolding_all first | exact H.b | exact hS) (by with_unfolding_all rfl) ?_ | with_reducible refine aG H (by with_unfolding_all first | exact H.b | exact hS) (by with_unfolding_all rfl) (by decide) rfl (by omega) ?_))
    (with_reducible refine br_if (fun c => ?_) (fun c => ?_))
    · exact qt k (anyB_iff.mpr ⟨j, hj, by simp_all⟩)
    · rw [nI_succ] at kk
      exact kk (by simp_all [anyB])
  · dsimp only [w_X4_someoneHas_28, w_X4_someoneHas_20, w_X4_someoneHas_2, w_X4_someoneHas]
    (repeat (first | with_reducible refine bd_i ?_ | with_reducible refine fP H (by with_unfolding_all first | exact H.b | exact hS) (by with_unfolding_all rfl) (by with_unfolding_all rfl) ?_ | with_reducible refine vG H (by with_unfolding_all first | exact H.b | exact hS) (by with_unfolding_all rfl) ?_ | with_reducible refine fC_ H R (by with_unfolding_all exact H.b) (by with_unfolding_all rfl) (by with_unfolding_all rfl) ?_ | with_reducible refine aC H R (by with_unfolding_all exact H.b) (by with_unfolding_all rfl) (by decide) (by with_unfolding_all rfl) rfl (by omega) ?_ | with_reducible refine fG H (by with_unfolding_all first | exact H.b | exact hS) (by with_unfolding_all rfl) ?_ | with_reducible refine aG H (by with_unfolding_all first | exact H.b | exact hS) (by with_unfolding_all rfl) (by decide) rfl (by omega) ?_))
    rw [e0]
    exact br_end (qf k hP)
end PEOPLE
