/-! later, heaps, length, still -/
def unk (wd : Nat → Int32) (N : Nat → Nat) (f : Nat) : Bool := decide (caseM wd N f = some 0)
def mdn (wd : Nat → Int32) (N : Nat → Nat) (f : Nat) : Bool := match caseM wd N f with
  | none => false
  | some m => decide (m ≠ 0) && allB (fun g => !m.testBit g || decide (¬ wd (271 + 4 * g) ≤ wd 8)) (N 0)
def ltr (wd : Nat → Int32) (f : Nat) : Bool := decide (wd (349 + 6 * f) = 3) && (decide (¬ wd (352 + 6 * f) ≤ wd 8) && sn wd f)
theorem cnt_or {p q : Nat → Bool} : ∀ {n : Nat}, (∀ i, i < n → (p i && q i) = false) → cnt (fun i => p i || q i) n = cnt p n + cnt q n := by
  intro n
  induction n with
  | zero => intro _; rfl
  | succ n ih =>
    intro h
    have h1 := ih (fun i hi => h i (by omega))
    have h2 := h n (by omega)
    simp only [cnt]
    rw [h1]
    by_cases hp : p n = true
    · have hq : q n = false := by simpa [hp] using h2
      simp only [hp, hq, Bool.true_or, if_true, Bool.false_eq_true, if_false]
      rw [Int32.add_assoc, Int32.add_assoc, Int32.add_comm (cnt q n)]
    · by_cases hq : q n = true
      · simp [hp, hq, Int32.add_assoc]
      · simp [hp, hq]
def fsO (p : Nat → Bool) : Nat → Option Nat
  | 0 => none
  | n + 1 => match fsO p n with
    | some x => some x
    | none => if p n then some n else none
theorem fsO_none {p : Nat → Bool} : ∀ {n : Nat}, fsO p n = none ↔ ∀ i, i < n → p i = false := by
  intro n
  induction n with
  | zero => simp [fsO]
  | succ n ih =>
    simp only [fsO]
    cases e : fsO p n with
    | none =>
      have h1 := ih.mp e
      dsimp only
      constructor
      · intro h i hi
        by_cases c : i = n
        · subst c
          by_cases d : p i = true
          · rw [if_pos d] at h; cases h
          · simpa using d
        · exact h1 i (by omega)
      · intro h
        rw [if_neg (by rw [h n (by omega)]; decide)]
    | some x =>
      dsimp only
      constructor
      · intro h; cases h
      · intro h
        rw [ih.mpr (fun i hi => h i (by omega))] at e
        cases e
theorem fsO_at {p : Nat → Bool} {j n : Nat} (hj : j < n) (h1 : fsO p j = none) (h2 : p j = true) : fsO p n = some j := by
  have key : ∀ d, fsO p (j + 1 + d) = some j := by
    intro d
    induction d with
    | zero => simp only [Nat.add_zero, fsO, h1, if_pos h2]
    | succ d ih =>
      rw [← Nat.add_assoc]
      simp only [fsO, ih]
  have := key (n - (j + 1))
  rw [show j + 1 + (n - (j + 1)) = n by omega] at this
  exact this
def tly (wd : Nat → Int32) (N : Nat → Nat) (q : Nat → Bool) (c : Nat) : Int32 := cnt (fun f => decide (wd (350 + 6 * f) = nI c) && q f) (N 3)
def heP (wd : Nat → Int32) (N : Nat → Nat) (cases_ : Int32) (c : Nat) : Bool := decide (cases_ ≤ tly wd N (fun f => (caseM wd N f).isSome) c)
def sGun (wd : Nat → Int32) (N : Nat → Nat) (g : Nat) : Int32 := cnt (fun f => decide (sureG wd N f = some g)) (N 3)
def lnF (wd : Nat → Int32) (N : Nat → Nat) (side rate : Int32) : Nat → Int32
  | 0 => 0
  | g + 1 => if wd (269 + 4 * g) = side then jmax (lnF wd N side rate g) ((sGun wd N g + rate - 1) / rate) else lnF wd N side rate g
def mxF (f : Nat → Int32) : Nat → Int32
  | 0 => 0
  | n + 1 => jmax (mxF f n) (f n)
def stB (wd : Nat → Int32) (a b : Int32) (c : Nat) : Bool := inA (nI c) a b && !cov wd (nI c / 16)
theorem mod_bits {N : Nat → Nat} {m MB : Nat} {p : Nat → Bool} (h8 : N 0 ≤ 8) (hm : m < 2 ^ N 0) (hM : MB = btN p (N 0)) : (nI m &&& (nI MB ^^^ -1) = 0) ↔ allB (fun g => !m.testBit g || p g) (N 0) = true := by
  have hb : ∀ i, i < 32 → bt (nI m &&& (nI MB ^^^ -1)) i = (m.testBit i && !(decide (i < N 0) && p i)) := by
    intro i hi
    rw [b_and, b_xor, b_m1 i hi, b_nI hi, b_nI hi, hM, btN_bit]
    simp
  rw [allB_iff]
  constructor
  · intro h g hg
    have := hb g (by omega)
    rw [h, b_0] at this
    simp only [hg, decide_true, Bool.true_and] at this
    cases h1 : m.testBit g <;> cases h2 : p g <;> simp_all
  · intro h
    apply b_ext
    intro i hi
    rw [hb i hi, b_0]
    by_cases c : i < N 0
    · have := h i c
      simp only [c, decide_true, Bool.true_and]
      cases h1 : m.testBit i <;> cases h2 : p i <;> simp_all
    · rw [Nat.testBit_lt_two_pow (Nat.lt_of_lt_of_le hm (Nat.pow_le_pow_right (by omega) (by omega)))]
      rfl
section REPORT
variable {A : Nat → Nat} {S : Nat → Prop} {h0 h : AH} {X : Nat → Nat → Int32} {wd : Nat → Int32} {N : Nat → Nat} {Q : Int32 → AH → Prop} {Qv : AH → Prop}
theorem c_unknownCases (H : G A S h0 X h) (R : CR X wd) (O : Ok wd N) (C : CG X wd N) (k : Q (cnt (unk wd N) (N 3)) h) : w_X8_unknownCases (A 8) h Q := by
  obtain ⟨e3, h3⟩ := O.f
  refine lp_up (N 3) (fun j => (cnt (unk wd N) j, nI j, h)) (fun j kk1 hj kk => ?_) (fun kk1 => ?_) (Nat.zero_le _)
  · rw [nI_succ] at kk
    simp only [cnt] at kk
    dsimp only [w_X8_unknownCases_36, w_X8_unknownCases_30, w_X8_unknownCases_4, w_X8_unknownCases]
    (repeat (first | with_reducible refine bd_i ?_ | with_reducible refine fP H (by with_unfolding_all first | exact H.b | exact hS) (by with_unfolding_all rfl) (by with_unfolding_all rfl) ?_ | with_reducible refine vG H (by with_unfolding_all first | exact H.b | exact hS) (by with_unfolding_all rfl) ?_ | with_reducible refine fC_ H R (by with_unfolding_all exact H.b) (by with_unfolding_all rfl) (by with_unfolding_all rfl) ?_ | with_reducible refine aC H R (by with_unfolding_all exact H.b) (by with_unfolding_all rfl) (by decide) (by with_unfolding_all rfl) rfl (by omega) ?_ | with_reducible refine fG H (by with_unfolding_all first | exact H.b | exact hS) (by with_unfolding_all rfl) ?_ | with_reducible refine aG H (by with_unfolding_all first | exact H.b | exact hS) (by with_unfolding_all rfl) (by decide) rfl (by omega) ?_))
    rw [e3]
    refine br_go hj (by omega) ?_
    (repeat (first | with_reducible refine bd_i ?_ | with_reducible refine fP H (by with_unfolding_all first | exact H.b | exact hS) (by with_unfolding_all rfl) (by with_unfolding_all rfl) ?_ | with_reducible refine vG H (by with_unfolding_all first | exact H.b | exact hS) (by with_unfolding_all rfl) ?_ | with_reducible refine fC_ H R (by with_unfolding_all exact H.b) (by with_unfolding_all rfl) (by with_unfolding_all rfl) ?_ | with_reducible refine aC H R (by with_unfolding_all exact H.b) (by with_unfolding_all rfl) (by decide) (by with_unfolding_all rfl) rfl (by omega) ?_ | with_reducible refine fG H (by with_unfolding_all first | exact H.b | exact hS) (by with_unfolding_all rfl) ?_ | with_reducible refine aG H (by with_unfolding_all first | exact H.b | exact hS) (by with_unfolding_all rfl) (by decide) rfl (by omega) ?_))
    rw [C j hj]
    cases e : caseM wd N j with
    | none =>
      rw [if_neg (by simp [unk, e])] at kk
      exact br_F (show ¬ oI none = 0 by decide) kk
    | some m =>
      have hm := caseM_256 O e
      refine br_Eq (b := 0) (by omega) (by decide) (fun c => ?_) (fun c => ?_)
      · rw [if_pos (by simp [unk, e, c])] at kk
        exact kk
      · rw [if_neg (by simp [unk, e, c])] at kk
        exact kk
  · dsimp only [w_X8_unknownCases_36, w_X8_unknownCases_30, w_X8_unknownCases_4, w_X8_unknownCases]
    (repeat (first | with_reducible refine bd_i ?_ | with_reducible refine fP H (by with_unfolding_all first | exact H.b | exact hS) (by with_unfolding_all rfl) (by with_unfolding_all rfl) ?_ | with_reducible refine vG H (by with_unfolding_all first | exact H.b | exact hS) (by with_unfolding_all rfl) ?_ | with_reducible refine fC_ H R (by with_unfolding_all exact H.b) (by with_unfolding_all rfl) (by with_unfolding_all rfl) ?_ | with_reducible refine aC H R (by with_unfolding_all exact H.b) (by with_unfolding_all rfl) (by decide) (by with_unfolding_all rfl) rfl (by omega) ?_ | with_reducible refine fG H (by with_unfolding_all first | exact H.b | exact hS) (by with_unfolding_all rfl) ?_ | with_reducible refine aG H (by with_unfolding_all first | exact H.b | exact hS) (by with_unfolding_all rfl) (by decide) rfl (by omega) ?_))
    rw [e3]
    exact br_end k
theorem c_modernCases (H : G A S h0 X h) (R : CR X wd) (O : Ok wd N) (C : CG X wd N) (k : Q (cnt (mdn wd N) (N 3)) h) : w_X8_modernCases (A 8) h Q := by
  obtain ⟨e3, h3⟩ := O.f
  have h8 := O.g.2
  unfold w_X8_modernCases
  (repeat (first | with_reducible refine c_madeBehind H R O ?_ | with_reducible refine bd_i ?_ | with_reducible refine fP H (by with_unfolding_all first | exact H.b | exact hS) (by with_unfolding_all rfl) (by with_unfolding_all rfl) ?_ | with_reducible refine vG H (by with_unfolding_all first | exact H.b | exact hS) (by with_unfolding_all rfl) ?_ | with_reducible refine fC_ H R (by with_unfolding_all exact H.b) (by with_unfolding_all rfl) (by with_unfolding_all rfl) ?_ | with_reducible refine aC H R (by with_unfolding_all exact H.b) (by with_unfolding_all rfl) (by decide) (by with_unfolding_all rfl) rfl (by omega) ?_ | with_reducible refine fG H (by with_unfolding_all first | exact H.b | exact hS) (by with_unfolding_all rfl) ?_ | with_reducible refine aG H (by with_unfolding_all first | exact H.b | exact hS) (by with_unfolding_all rfl) (by decide) rfl (by omega) ?_))
  rw [bts_N (by omega)]
  refine lp_up (N 3) (fun j => (cnt (mdn wd N) j, nI j, h)) (fun j kk1 hj kk => ?_) (fun kk1 => ?_) (Nat.zero_le _)
  · rw [nI_succ] at kk
    simp only [cnt] at kk
    dsimp only [w_X8_modernCases_67, w_X8_modernCases_61, w_X8_modernCases_22, w_X8_modernCases]
    (repeat (first | with_reducible refine bd_i ?_ | with_reducible refine fP H (by with_unfolding_all first | exact H.b | exact hS) (by with_unfolding_all rfl) (by with_unfolding_all rfl) ?_ | with_reducible refine vG H (by with_unfolding_all first | exact H.b | exact hS) (by with_unfolding_all rfl) ?_ | with_reducible refine fC_ H R (by with_unfolding_all exact H.b) (by with_unfolding_all rfl) (by with_unfolding_all rfl) ?_ | with_reducible refine aC H R (by with_unfolding_all exact H.b) (by with_unfolding_all rfl) (by decide) (by with_unfolding_all rfl) rfl (by omega) ?_ | with_reducible refine fG H (by with_unfolding_all first | exact H.b | exact hS) (by with_unfolding_all rfl) ?_ | with_reducible refine aG H (by with_unfolding_all first | exact H.b | exact hS) (by with_unfolding_all rfl) (by decide) rfl (by omega) ?_))
    rw [e3]
    refine br_go hj (by omega) ?_
    (repeat (first | with_reducible refine bd_i ?_ | with_reducible refine fP H (by with_unfolding_all first | exact H.b | exact hS) (by with_unfolding_all rfl) (by with_unfolding_all rfl) ?_ | with_reducible refine vG H (by with_unfolding_all first | exact H.b | exact hS) (by with_unfolding_all rfl) ?_ | with_reducible refine fC_ H R (by with_unfolding_all exact H.b) (by with_unfolding_all rfl) (by with_unfolding_all rfl) ?_ | with_reducible refine aC H R (by with_unfolding_all exact H.b) (by with_unfolding_all rfl) (by decide) (by with_unfolding_all rfl) rfl (by omega) ?_ | with_reducible refine fG H (by with_unfolding_all first | exact H.b | exact hS) (by with_unfolding_all rfl) ?_ | with_reducible refine aG H (by with_unfolding_all first | exact H.b | exact hS) (by with_unfolding_all rfl) (by decide) rfl (by omega) ?_))
    rw [C j hj]
    cases e : caseM wd N j with
    | none =>
      rw [if_neg (by simp [mdn, e])] at kk
      exact br_T (show oI none ≤ 0 by decide) kk
    | some m =>
      have hm := caseM_256 O e
      have hm2 := caseM_lt e
      refine br_Le (b := 0) (by omega) (by decide) (fun c => ?_) (fun c => ?_)
      · rw [if_neg (by simp [mdn, e, show m = 0 by omega])] at kk
        exact kk
      · (repeat (first | with_reducible refine bd_i ?_ | with_reducible refine fP H (by with_unfolding_all first | exact H.b | exact hS) (by with_unfolding_all rfl) (by with_unfolding_all rfl) ?_ | with_reducible refine vG H (by with_unfolding_all first | exact H.b | exact hS) (by with_unfolding_all rfl) ?_ | with_reducible refine fC_ H R (by with_unfolding_all exact H.b) (by with_unfolding_all rfl) (by with_unfolding_all rfl) ?_ | with_reducible refine aC H R (by with_unfolding_all exact H.b) (by with_unfolding_all rfl) (by decide) (by with_unfolding_all rfl) rfl (by omega) ?_ | with_reducible refine fG H (by with_unfolding_all first | exact H.b | exact hS) (by with_unfolding_all rfl) ?_ | with_reducible refine aG H (by with_unfolding_all first | exact H.b | exact hS) (by with_unfolding_all rfl) (by decide) rfl (by omega) ?_))
        rw [C j hj, e]
        dsimp only [oI]
        refine br_if (fun d => ?_) (fun d => ?_)
        · rw [mod_bits h8 hm2 rfl] at d
          rw [if_pos (by simp only [mdn, e, d]; simp; omega)] at kk
          exact kk
        · rw [mod_bits h8 hm2 rfl] at d
          rw [if_neg (by simp only [mdn, e]; simp_all)] at kk
          exact kk
  · dsimp only [w_X8_modernCases_67, w_X8_modernCases_61, w_X8_modernCases_22, w_X8_modernCases]
    (repeat (first | with_reducible refine bd_i ?_ | with_reducible refine fP H (by with_unfolding_all first | exact H.b | exact hS) (by with_unfolding_all rfl) (by with_unfolding_all rfl) ?_ | with_reducible refine vG H (by with_unfolding_all first | exact H.b | exact hS) (by with_unfolding_all rfl) ?_ | with_reducible refine fC_ H R (by with_unfolding_all exact H.b) (by with_unfolding_all rfl) (by with_unfolding_all rfl) ?_ | with_reducible refine aC H R (by with_unfolding_all exact H.b) (by with_unfolding_all rfl) (by decide) (by with_unfolding_all rfl) rfl (by omega) ?_ | with_reducible refine fG H (by with_unfolding_all first | exact H.b | exact hS) (by with_unfolding_all rfl) ?_ | with_reducible refine aG H (by with_unfolding_all first | exact H.b | exact hS) (by with_unfolding_all rfl) (by decide) rfl (by omega) ?_))
    rw [e3]
    exact br_end k
theorem c_laterThings (H : G A S h0 X h) (R : CR X wd) (O : Ok wd N) (k : Q (cnt (ltr wd) (N 3)) h) : w_X8_laterThings (A 8) h Q := by
  obtain ⟨e3, h3⟩ := O.f
  unfold w_X8_laterThings
  (repeat (first | with_reducible refine c_nearRows H R O ?_ | with_reducible refine bd_i ?_ | with_reducible refine fP H (by with_unfolding_all first | exact H.b | exact hS) (by with_unfolding_all rfl) (by with_unfolding_all rfl) ?_ | with_reducible refine vG H (by with_unfolding_all first | exact H.b | exact hS) (by with_unfolding_all rfl) ?_ | with_reducible refine fC_ H R (by with_unfolding_all exact H.b) (by with_unfolding_all rfl) (by with_unfolding_all rfl) ?_ | with_reducible refine aC H R (by with_unfolding_all exact H.b) (by with_unfolding_all rfl) (by decide) (by with_unfolding_all rfl) rfl (by omega) ?_ | with_reducible refine fG H (by with_unfolding_all first | exact H.b | exact hS) (by with_unfolding_all rfl) ?_ | with_reducible refine aG H (by with_unfolding_all first | exact H.b | exact hS) (by with_unfolding_all rfl) (by decide) rfl (by omega) ?_))
  refine lp_up (N 3) (fun j => (cnt (ltr wd) j, nI j, h)) (fun j kk1 hj kk => ?_) (fun kk1 => ?_) (Nat.zero_le _)
  · rw [nI_succ] at kk
    dsimp only [w_X8_laterThings_74, w_X8_laterThings_68, w_X8_laterThings_18, w_X8_laterThings]
    (repeat (first | with_reducible refine bd_i ?_ | with_reducible refine fP H (by with_unfolding_all first | exact H.b | exact hS) (by with_unfolding_all rfl) (by with_unfolding_all rfl) ?_ | with_reducible refine vG H (by with_unfolding_all first | exact H.b | exact hS) (by with_unfolding_all rfl) ?_ | with_reducible refine fC_ H R (by with_unfolding_all exact H.b) (by with_unfolding_all rfl) (by with_unfolding_all rfl) ?_ | with_reducible refine aC H R (by with_unfolding_all exact H.b) (by with_unfolding_all rfl) (by decide) (by with_unfolding_all rfl) rfl (by omega) ?_ | with_reducible refine fG H (by with_unfolding_all first | exact H.b | exact hS) (by with_unfolding_all rfl) ?_ | with_reducible refine aG H (by with_unfolding_all first | exact H.b | exact hS) (by with_unfolding_all rfl) (by decide) rfl (by omega) ?_))
    rw [e3]
    refine br_go hj (by omega) ?_
    (repeat' (first | with_reducible refine c_isSeen H R (by omega) ?_ | with_reducible refine bd_i ?_ | with_reducible refine fP H (by with_unfolding_all first | exact H.b | exact hS) (by with_unfolding_all rfl) (by with_unfolding_all rfl) ?_ | with_reducible refine vG H (by with_unfolding_all first | exact H.b | exact hS) (by with_unfolding_all rfl) ?_ | with_reducible refine fC_ H R (by with_unfolding_all exact H.b) (by with_unfolding_all rfl) (by with_unfolding_all rfl) ?_ | with_reducible refine aC H R (by with_unfolding_all exact H.b) (by with_unfolding_all rfl) (by decide) (by with_unfolding_all rfl) rfl (by omega) ?_ | with_reducible refine fG H (by with_unfolding_all first | exact H.b | exact hS) (by with_unfolding_all rfl) ?_ | with_reducible refine aG H (by with_unfolding_all first | exact H.b | exact hS) (by with_unfolding_all rfl) (by decide) rfl (by omega) ?_ | (with_reducible refine br_bI (fun c => ?_) (fun c => ?_)) | (with_reducible refine br_if (fun c => ?_) (fun c => ?_))))
    all_goals (try rw [snR_sn O hj] at *)
    all_goals (simp_all [cnt, ltr])
  · dsimp only [w_X8_laterThings_74, w_X8_laterThings_68, w_X8_laterThings_18, w_X8_laterThings]
    (repeat (first | with_reducible refine bd_i ?_ | with_reducible refine fP H (by with_unfolding_all first | exact H.b | exact hS) (by with_unfolding_all rfl) (by with_unfolding_all rfl) ?_ | with_reducible refine vG H (by with_unfolding_all first | exact H.b | exact hS) (by with_unfolding_all rfl) ?_ | with_reducible refine fC_ H R (by with_unfolding_all exact H.b) (by with_unfolding_all rfl) (by with_unfolding_all rfl) ?_ | with_reducible refine aC H R (by with_unfolding_all exact H.b) (by with_unfolding_all rfl) (by decide) (by with_unfolding_all rfl) rfl (by omega) ?_ | with_reducible refine fG H (by with_unfolding_all first | exact H.b | exact hS) (by with_unfolding_all rfl) ?_ | with_reducible refine aG H (by with_unfolding_all first | exact H.b | exact hS) (by with_unfolding_all rfl) (by decide) rfl (by omega) ?_))
    rw [e3]
    exact br_end k
theorem c_sureCases (H : G A S h0 X h) (R : CR X wd) (O : Ok wd N) (C : CG X wd N) {g : Nat} (hg : g < N 0) (k : Q (sGun wd N g) h) : w_X8_sureCases (A 8) (nI g) h Q := by
  obtain ⟨e3, h3⟩ := O.f
  have h8 := O.g.2
  refine lp_up (N 3) (fun j => (cnt (fun f => decide (sureG wd N f = some g)) j, nI j, h)) (fun j kk1 hj kk => ?_) (fun kk1 => ?_) (Nat.zero_le _)
  · rw [nI_succ] at kk
    simp only [cnt] at kk
    have hp : 2 ^ g ≤ 2 ^ 8 := Nat.pow_le_pow_right (by omega) (by omega)
    dsimp only [w_X8_sureCases_39, w_X8_sureCases_33, w_X8_sureCases_4, w_X8_sureCases]
    (repeat (first | with_reducible refine bd_i ?_ | with_reducible refine fP H (by with_unfolding_all first | exact H.b | exact hS) (by with_unfolding_all rfl) (by with_unfolding_all rfl) ?_ | with_reducible refine vG H (by with_unfolding_all first | exact H.b | exact hS) (by with_unfolding_all rfl) ?_ | with_reducible refine fC_ H R (by with_unfolding_all exact H.b) (by with_unfolding_all rfl) (by with_unfolding_all rfl) ?_ | with_reducible refine aC H R (by with_unfolding_all exact H.b) (by with_unfolding_all rfl) (by decide) (by with_unfolding_all rfl) rfl (by omega) ?_ | with_reducible refine fG H (by with_unfolding_all first | exact H.b | exact hS) (by with_unfolding_all rfl) ?_ | with_reducible refine aG H (by with_unfolding_all first | exact H.b | exact hS) (by with_unfolding_all rfl) (by decide) rfl (by omega) ?_))
    rw [e3]
    refine br_go hj (by omega) ?_
    (repeat (first | with_reducible refine bd_i ?_ | with_reducible refine fP H (by with_unfolding_all first | exact H.b | exact hS) (by with_unfolding_all rfl) (by with_unfolding_all rfl) ?_ | with_reducible refine vG H (by with_unfolding_all first | exact H.b | exact hS) (by with_unfolding_all rfl) ?_ | with_reducible refine fC_ H R (by with_unfolding_all exact H.b) (by with_unfolding_all rfl) (by with_unfolding_all rfl) ?_ | with_reducible refine aC H R (by with_unfolding_all exact H.b) (by with_unfolding_all rfl) (by decide) (by with_unfolding_all rfl) rfl (by omega) ?_ | with_reducible refine fG H (by with_unfolding_all first | exact H.b | exact hS) (by with_unfolding_all rfl) ?_ | with_reducible refine aG H (by with_unfolding_all first | exact H.b | exact hS) (by with_unfolding_all rfl) (by decide) rfl (by omega) ?_))
    rw [C j hj, sh1 (by omega)]
    cases e : caseM wd N j with
    | none =>
      have hs : ¬ sureG wd N j = some g := fun z => by rw [sureG_iff O, e] at z; exact nomatch z.2
      rw [if_neg (by simpa using hs)] at kk
      exact br_F (fun z => nI_pos (n := 2 ^ g) (by omega) (by rw [← z]; decide)) kk
    | some m =>
      have hm := caseM_256 O e
      refine br_Eq (by omega) (by omega) (fun c => ?_) (fun c => ?_)
      · have hs : sureG wd N j = some g := by rw [sureG_iff O, e, c]; exact ⟨hg, rfl⟩
        rw [if_pos (by simpa using hs)] at kk
        exact kk
      · have hs : ¬ sureG wd N j = some g := fun z => by rw [sureG_iff O, e] at z; exact c (Option.some.inj z.2)
        rw [if_neg (by simpa using hs)] at kk
        exact kk
  · dsimp only [w_X8_sureCases_39, w_X8_sureCases_33, w_X8_sureCases_4, w_X8_sureCases]
    (repeat (first | with_reducible refine bd_i ?_ | with_reducible refine fP H (by with_unfolding_all first | exact H.b | exact hS) (by with_unfolding_all rfl) (by with_unfolding_all rfl) ?_ | with_reducible refine vG H (by with_unfolding_all first | exact H.b | exact hS) (by with_unfolding_all rfl) ?_ | with_reducible refine fC_ H R (by with_unfolding_all exact H.b) (by with_unfolding_all rfl) (by with_unfolding_all rfl) ?_ | with_reducible refine aC H R (by with_unfolding_all exact H.b) (by with_unfolding_all rfl) (by decide) (by with_unfolding_all rfl) rfl (by omega) ?_ | with_reducible refine fG H (by with_unfolding_all first | exact H.b | exact hS) (by with_unfolding_all rfl) ?_ | with_reducible refine aG H (by with_unfolding_all first | exact H.b | exact hS) (by with_unfolding_all rfl) (by decide) rfl (by omega) ?_))
    rw [e3]
    exact br_end k
theorem c_minutesOf (H : G A S h0 X h) (R : CR X wd) (O : Ok wd N) (C : CG X wd N) {side rate : Int32} (hr : ¬ rate = 0) (k : Q (lnF wd N side rate (N 0)) h) : w_X8_minutesOf (A 8) side rate h Q := by
  obtain ⟨e0, h8⟩ := O.g
  refine lp_up (N 0) (fun j => (lnF wd N side rate j, nI j, h)) (fun j kk1 hj kk => ?_) (fun kk1 => ?_) (Nat.zero_le _)
  · rw [nI_succ] at kk
    simp only [lnF] at kk
    dsimp only [w_X8_minutesOf_60, w_X8_minutesOf_54, w_X8_minutesOf_5, w_X8_minutesOf]
    (repeat (first | with_reducible refine bd_i ?_ | with_reducible refine fP H (by with_unfolding_all first | exact H.b | exact hS) (by with_unfolding_all rfl) (by with_unfolding_all rfl) ?_ | with_reducible refine vG H (by with_unfolding_all first | exact H.b | exact hS) (by with_unfolding_all rfl) ?_ | with_reducible refine fC_ H R (by with_unfolding_all exact H.b) (by with_unfolding_all rfl) (by with_unfolding_all rfl) ?_ | with_reducible refine aC H R (by with_unfolding_all exact H.b) (by with_unfolding_all rfl) (by decide) (by with_unfolding_all rfl) rfl (by omega) ?_ | with_reducible refine fG H (by with_unfolding_all first | exact H.b | exact hS) (by with_unfolding_all rfl) ?_ | with_reducible refine aG H (by with_unfolding_all first | exact H.b | exact hS) (by with_unfolding_all rfl) (by decide) rfl (by omega) ?_))
    rw [e0]
    refine br_go hj (by omega) ?_
    (repeat (first | with_reducible refine bd_i ?_ | with_reducible refine fP H (by with_unfolding_all first | exact H.b | exact hS) (by with_unfolding_all rfl) (by with_unfolding_all rfl) ?_ | with_reducible refine vG H (by with_unfolding_all first | exact H.b | exact hS) (by with_unfolding_all rfl) ?_ | with_reducible refine fC_ H R (by with_unfolding_all exact H.b) (by with_unfolding_all rfl) (by with_unfolding_all rfl) ?_ | with_reducible refine aC H R (by with_unfolding_all exact H.b) (by with_unfolding_all rfl) (by decide) (by with_unfolding_all rfl) rfl (by omega) ?_ | with_reducible refine fG H (by with_unfolding_all first | exact H.b | exact hS) (by with_unfolding_all rfl) ?_ | with_reducible refine aG H (by with_unfolding_all first | exact H.b | exact hS) (by with_unfolding_all rfl) (by decide) rfl (by omega) ?_))
    refine br_if (fun c1 => ?_) (fun c1 => ?_)
    · rw [if_pos c1] at kk
      (repeat (first | with_reducible refine c_sureCases H R O C (by omega) ?_ | with_reducible refine bd_i ?_ | with_reducible refine fP H (by with_unfolding_all first | exact H.b | exact hS) (by with_unfolding_all rfl) (by with_unfolding_all rfl) ?_ | with_reducible refine vG H (by with_unfolding_all first | exact H.b | exact hS) (by with_unfolding_all rfl) ?_ | with_reducible refine fC_ H R (by with_unfolding_all exact H.b) (by with_unfolding_all rfl) (by with_unfolding_all rfl) ?_ | with_reducible refine aC H R (by with_unfolding_all exact H.b) (by with_unfolding_all rfl) (by decide) (by with_unfolding_all rfl) rfl (by omega) ?_ | with_reducible refine fG H (by with_unfolding_all first | exact H.b | exact hS) (by with_unfolding_all rfl) ?_ | with_reducible refine aG H (by with_unfolding_all first | exact H.b | exact hS) (by with_unfolding_all rfl) (by decide) rfl (by omega) ?_))
      refine ⟨hr, ?_⟩
      exact kk
    · rw [if_neg c1] at kk
      exact kk
  · dsimp only [w_X8_minutesOf_60, w_X8_minutesOf_54, w_X8_minutesOf_5, w_X8_minutesOf]
    (repeat (first | with_reducible refine bd_i ?_ | with_reducible refine fP H (by with_unfolding_all first | exact H.b | exact hS) (by with_unfolding_all rfl) (by with_unfolding_all rfl) ?_ | with_reducible refine vG H (by with_unfolding_all first | exact H.b | exact hS) (by with_unfolding_all rfl) ?_ | with_reducible refine fC_ H R (by with_unfolding_all exact H.b) (by with_unfolding_all rfl) (by with_unfolding_all rfl) ?_ | with_reducible refine aC H R (by with_unfolding_all exact H.b) (by with_unfolding_all rfl) (by decide) (by with_unfolding_all rfl) rfl (by omega) ?_ | with_reducible refine fG H (by with_unfolding_all first | exact H.b | exact hS) (by with_unfolding_all rfl) ?_ | with_reducible refine aG H (by with_unfolding_all first | exact H.b | exact hS) (by with_unfolding_all rfl) (by decide) rfl (by omega) ?_))
    rw [e0]
    exact br_end k
theorem c_fill {id len : Nat} {v : Int32} (H : G A S h0 X h) (hs : S (sg id)) (ht : tk id = (20, len)) (hl : len < 2 ^ 31) (k : ∀ X' h', G A S h0 X' h' → Off [id] X X' → (∀ n, n < len → X' id n = v) → Qv h') : w_J7_fill_53178 (A id) v h Qv := by
  unfold w_J7_fill_53178
  refine ⟨H.kd (a := 19) hs ht, ?_⟩
  rw [H.ln (a := 0) hs ht]
  refine lp_inv len (fun j (s : Int32 × AH) => s.1 = nI j ∧ ∃ X', G A S h0 X' s.2 ∧ Off [id] X X' ∧ ∀ n, n < j → X' id n = v) (fun j s kk1 hj hI kk => ?_) (fun s kk1 hI => ?_) (Nat.zero_le _) ⟨rfl, X, H, Off.rf _ _, fun n hn => absurd hn (Nat.not_lt_zero _)⟩
  · obtain ⟨w, h1⟩ := s
    obtain ⟨e1, X1, H1, o1, c1⟩ := hI
    dsimp only at e1 H1 ⊢
    subst e1
    dsimp only [w_J7_fill_53178_20, w_J7_fill_53178_5]
    refine br_go hj hl ?_
    refine tG (id := id) H1 hs ht hl rfl hj (fun h' H' => ?_)
    rw [← nI_succ]
    refine kk _ ⟨rfl, _, H', o1.up (List.mem_singleton.mpr rfl) _ _, fun n hn => ?_⟩
    by_cases e : n = j
    · subst e
      rw [up_same]
    · rw [up_n _ _ _ e]
      exact c1 n (by omega)
  · obtain ⟨w, h1⟩ := s
    obtain ⟨e1, X1, H1, o1, c1⟩ := hI
    dsimp only at e1 H1 ⊢
    subst e1
    dsimp only [w_J7_fill_53178_20, w_J7_fill_53178_5]
    exact br_end (k X1 h1 H1 o1 c1)
end REPORT
