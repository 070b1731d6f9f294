/-! apart -/
def gdN (wd : Nat → Int32) (N : Nat → Nat) : Nat → Nat
  | 0 => 0
  | t + 1 => if ftB wd N t then gdN wd N t ||| 2 ^ nt (wd (1101 + 3 * t)) else gdN wd N t
theorem gdN_lt {wd : Nat → Int32} {N : Nat → Nat} (O : Ok wd N) : ∀ {n : Nat}, n ≤ N 5 → gdN wd N n < 2 ^ N 4 := by
  intro n
  induction n with
  | zero => intro _; exact Nat.two_pow_pos _
  | succ n ih =>
    intro h
    simp only [gdN]
    have := ih (by omega)
    split
    · obtain ⟨w, h1, h2⟩ := (O.L (show n < N 5 by omega)).1
      rw [h2, nt_nI (by have := O.t.2; omega)]
      exact Nat.or_lt_two_pow this (Nat.pow_lt_pow_right (by omega) h1)
    · exact this
def nbP (wd : Nat → Int32) (N : Nat → Nat) (g a b : Nat) : Bool := !(g.testBit a && g.testBit b) || !tlB wd N a b
def nbB (wd : Nat → Int32) (N : Nat → Nat) (g n : Nat) : Bool := allB (fun a => allB (nbP wd N g a) a) n
theorem nb_more {wd : Nat → Int32} {N : Nat → Nat} {g n m : Nat} (hg : g < 2 ^ n) (hm : n ≤ m) : nbB wd N g m = nbB wd N g n := by
  unfold nbB
  rw [Bool.eq_iff_iff, allB_iff, allB_iff]
  constructor
  · exact fun h i hi => h i (by omega)
  · intro h i hi
    by_cases c : i < n
    · exact h i c
    · rw [allB_iff]
      intro b _
      unfold nbP
      rw [Nat.testBit_lt_two_pow (Nat.lt_of_lt_of_le hg (Nat.pow_le_pow_right (by omega) (by omega)))]
      rfl
theorem b_at2 {x : Int32} {a b : Nat} (ha : a < 32) (hb : b < 32) : ((x >>> (nI a &&& 31)) &&& (x >>> (nI b &&& 31))) &&& 1 = 1 ↔ (bt x a && bt x b) = true := by
  have h0 : bt (((x >>> (nI a &&& 31)) &&& (x >>> (nI b &&& 31))) &&& 1) 0 = (bt x a && bt x b) := by
    rw [b_and, b_and, b_sshr a ha x (by omega), b_sshr b hb x (by omega), b_1]
    simp [ha, hb]
  constructor
  · intro e
    rw [e] at h0
    rw [← h0]
    decide
  · intro e
    rcases and1 ((x >>> (nI a &&& 31)) &&& (x >>> (nI b &&& 31))) with c | c
    · rw [c, e] at h0
      exact absurd h0 (by decide)
    · exact c
theorem b_at2N {g a b : Nat} (ha : a < 32) (hb : b < 32) : ((nI g >>> (nI a &&& 31)) &&& (nI g >>> (nI b &&& 31))) &&& 1 = 1 ↔ (g.testBit a && g.testBit b) = true := by
  rw [b_at2 ha hb, b_nI ha, b_nI hb]
theorem b_at2Z {g a b : Nat} (ha : a < 32) (hb : b < 32) : ((nI g >>> (nI a &&& 31)) &&& (nI g >>> (nI b &&& 31))) &&& 1 = 0 ↔ ¬ (g.testBit a && g.testBit b) = true := by
  rw [← b_at2N ha hb]
  rcases and1 ((nI g >>> (nI a &&& 31)) &&& (nI g >>> (nI b &&& 31))) with c | c
  · rw [c]; decide
  · rw [c]; decide
def apF (wd : Nat → Int32) (N : Nat → Nat) (good : Nat) : Nat → Int32
  | 0 => 0
  | g + 1 => if (decide (nI g &&& (nI good ^^^ -1) = 0) && (decide (apF wd N good g < pcI (nI g)) && nbB wd N g 8)) = true then pcI (nI g) else apF wd N good g
section APART
variable {A : Nat → Nat} {S : Nat → Prop} {h0 h : AH} {X : Nat → Nat → Int32} {wd : Nat → Int32} {N : Nat → Nat} {Q : Int32 → AH → Prop} {Qv : AH → Prop} {a3 : Nat}
theorem c_nobodyTalked (H : G A S h0 X h) (R : CR X wd) (O : Ok wd N) {g : Nat} (k : Q (bI (nbB wd N g (N 4))) h) : w_X8_nobodyTalked (A 8) (nI g) h Q := by
  obtain ⟨e4, h4⟩ := O.t
  refine lp_ex (N 4) (fun j => (nI j, h)) (fun j => nbB wd N g j = true) (fun a kk1 ha hP kk => ?_) (fun hP kk1 => ?_) (Nat.zero_le _) rfl
  · rw [nI_succ] at kk
    unfold w_X8_nobodyTalked_2
    dsimp only
    (repeat (first | with_reducible refine bd_i ?_ | with_reducible refine fP H (by with_unfolding_all first | exact H.b | exact hS) (by with_unfolding_all rfl) (by with_unfolding_all rfl) ?_ | with_reducible refine vG H (by with_unfolding_all first | exact H.b | exact hS) (by with_unfolding_all rfl) ?_ | with_reducible refine fC_ H R (by with_unfolding_all exact H.b) (by with_unfolding_all rfl) (by with_unfolding_all rfl) ?_ | with_reducible refine aC H R (by with_unfolding_all exact H.b) (by with_unfolding_all rfl) (by decide) (by with_unfolding_all rfl) rfl (by omega) ?_ | with_reducible refine fG H (by with_unfolding_all first | exact H.b | exact hS) (by with_unfolding_all rfl) ?_ | with_reducible refine aG H (by with_unfolding_all first | exact H.b | exact hS) (by with_unfolding_all rfl) (by decide) rfl (by omega) ?_))
    rw [e4]
    refine br_go ha (by omega) ?_
    refine lp_ex a (fun j => (nI j, h)) (fun j => allB (nbP wd N g a) j = true) (fun b kk2 hb hP2 kk3 => ?_) (fun hP2 kk2 => ?_) (Nat.zero_le _) rfl
    · rw [nI_succ] at kk3
      dsimp only [w_X8_nobodyTalked_18, w_X8_nobodyTalked_41, w_X8_nobodyTalked_65, w_X8_nobodyTalked_63]
      refine br_go hb (by omega) ?_
      refine br_if (fun c => ?_) (fun c => ?_)
      · rw [b_at2N (by omega) (by omega)] at c
        refine br_F (by decide) ?_
        (repeat (first | with_reducible refine c_mayHaveTalked H R O (by omega) (by omega) ?_ | with_reducible refine bd_i ?_ | with_reducible refine fP H (by with_unfolding_all first | exact H.b | exact hS) (by with_unfolding_all rfl) (by with_unfolding_all rfl) ?_ | with_reducible refine vG H (by with_unfolding_all first | exact H.b | exact hS) (by with_unfolding_all rfl) ?_ | with_reducible refine fC_ H R (by with_unfolding_all exact H.b) (by with_unfolding_all rfl) (by with_unfolding_all rfl) ?_ | with_reducible refine aC H R (by with_unfolding_all exact H.b) (by with_unfolding_all rfl) (by decide) (by with_unfolding_all rfl) rfl (by omega) ?_ | with_reducible refine fG H (by with_unfolding_all first | exact H.b | exact hS) (by with_unfolding_all rfl) ?_ | with_reducible refine aG H (by with_unfolding_all first | exact H.b | exact hS) (by with_unfolding_all rfl) (by decide) rfl (by omega) ?_))
        refine br_bI (fun c2 => ?_) (fun c2 => ?_)
        · refine qf k ?_
          rw [← Bool.not_eq_true, nbB, allB_iff]
          intro z
          have := allB_iff.mp (z a ha) b hb
          simp [nbP, c, c2] at this
        · refine kk3 ?_
          simp only [allB, hP2, Bool.true_and, nbP]
          simp_all
      · rw [b_at2N (by omega) (by omega)] at c
        refine br_T rfl (kk3 ?_)
        simp only [allB, hP2, Bool.true_and, nbP, Bool.eq_false_iff.mpr c, Bool.not_false, Bool.true_or]
    · dsimp only [w_X8_nobodyTalked_18, w_X8_nobodyTalked_71]
      refine br_end (kk ?_)
      rw [nbB] at hP ⊢
      simp only [allB, hP, hP2, Bool.true_and]
  · unfold w_X8_nobodyTalked_2
    dsimp only
    (repeat (first | with_reducible refine bd_i ?_ | with_reducible refine fP H (by with_unfolding_all first | exact H.b | exact hS) (by with_unfolding_all rfl) (by with_unfolding_all rfl) ?_ | with_reducible refine vG H (by with_unfolding_all first | exact H.b | exact hS) (by with_unfolding_all rfl) ?_ | with_reducible refine fC_ H R (by with_unfolding_all exact H.b) (by with_unfolding_all rfl) (by with_unfolding_all rfl) ?_ | with_reducible refine aC H R (by with_unfolding_all exact H.b) (by with_unfolding_all rfl) (by decide) (by with_unfolding_all rfl) rfl (by omega) ?_ | with_reducible refine fG H (by with_unfolding_all first | exact H.b | exact hS) (by with_unfolding_all rfl) ?_ | with_reducible refine aG H (by with_unfolding_all first | exact H.b | exact hS) (by with_unfolding_all rfl) (by decide) rfl (by omega) ?_))
    rw [e4]
    exact br_end (qt k hP)
theorem or_bit {v w : Nat} (hw : w < 8) : nI v ||| (1 <<< (nI w &&& 31)) = nI (v ||| 2 ^ w) := by rw [sh1 (by omega), nI_or]
theorem c_apart (H : G A S h0 X h) (R : CR X wd) (O : Ok wd N) (k : Q (apF wd N (gdN wd N (N 5)) (gdN wd N (N 5) + 1)) h) : w_X11_apart (A 11) h Q := by
  obtain ⟨e5, h5⟩ := O.o
  have h4 := O.t.2
  unfold w_X11_apart
  (repeat (first | with_reducible refine bd_i ?_ | with_reducible refine fP H (by with_unfolding_all first | exact H.b | exact hS) (by with_unfolding_all rfl) (by with_unfolding_all rfl) ?_ | with_reducible refine vG H (by with_unfolding_all first | exact H.b | exact hS) (by with_unfolding_all rfl) ?_ | with_reducible refine fC_ H R (by with_unfolding_all exact H.b) (by with_unfolding_all rfl) (by with_unfolding_all rfl) ?_ | with_reducible refine aC H R (by with_unfolding_all exact H.b) (by with_unfolding_all rfl) (by decide) (by with_unfolding_all rfl) rfl (by omega) ?_ | with_reducible refine fG H (by with_unfolding_all first | exact H.b | exact hS) (by with_unfolding_all rfl) ?_ | with_reducible refine aG H (by with_unfolding_all first | exact H.b | exact hS) (by with_unfolding_all rfl) (by decide) rfl (by omega) ?_))
  unfold w_X8_mostApart
  refine lp_up (N 5) (fun j => (nI (gdN wd N j), nI j, h)) (fun j kk1 hj kk => ?_) (fun kk1 => ?_) (Nat.zero_le _)
  · rw [nI_succ] at kk
    simp only [gdN] at kk
    obtain ⟨w, hw, ew⟩ := (O.L hj).1
    dsimp only [w_X8_mostApart_4, w_X8_mostApart_43]
    (repeat (first | with_reducible refine bd_i ?_ | with_reducible refine fP H (by with_unfolding_all first | exact H.b | exact hS) (by with_unfolding_all rfl) (by with_unfolding_all rfl) ?_ | with_reducible refine vG H (by with_unfolding_all first | exact H.b | exact hS) (by with_unfolding_all rfl) ?_ | with_reducible refine fC_ H R (by with_unfolding_all exact H.b) (by with_unfolding_all rfl) (by with_unfolding_all rfl) ?_ | with_reducible refine aC H R (by with_unfolding_all exact H.b) (by with_unfolding_all rfl) (by decide) (by with_unfolding_all rfl) rfl (by omega) ?_ | with_reducible refine fG H (by with_unfolding_all first | exact H.b | exact hS) (by with_unfolding_all rfl) ?_ | with_reducible refine aG H (by with_unfolding_all first | exact H.b | exact hS) (by with_unfolding_all rfl) (by decide) rfl (by omega) ?_))
    rw [e5]
    refine br_go hj (by omega) ?_
    (repeat (first | with_reducible refine c_isBorneOut H R O hj ?_ | with_reducible refine bd_i ?_ | with_reducible refine fP H (by with_unfolding_all first | exact H.b | exact hS) (by with_unfolding_all rfl) (by with_unfolding_all rfl) ?_ | with_reducible refine vG H (by with_unfolding_all first | exact H.b | exact hS) (by with_unfolding_all rfl) ?_ | with_reducible refine fC_ H R (by with_unfolding_all exact H.b) (by with_unfolding_all rfl) (by with_unfolding_all rfl) ?_ | with_reducible refine aC H R (by with_unfolding_all exact H.b) (by with_unfolding_all rfl) (by decide) (by with_unfolding_all rfl) rfl (by omega) ?_ | with_reducible refine fG H (by with_unfolding_all first | exact H.b | exact hS) (by with_unfolding_all rfl) ?_ | with_reducible refine aG H (by with_unfolding_all first | exact H.b | exact hS) (by with_unfolding_all rfl) (by decide) rfl (by omega) ?_))
    refine br_bI (fun c1 => ?_) (fun c1 => ?_)
    · (repeat (first | with_reducible refine bd_i ?_ | with_reducible refine fP H (by with_unfolding_all first | exact H.b | exact hS) (by with_unfolding_all rfl) (by with_unfolding_all rfl) ?_ | with_reducible refine vG H (by with_unfolding_all first | exact H.b | exact hS) (by with_unfolding_all rfl) ?_ | with_reducible refine fC_ H R (by with_unfolding_all exact H.b) (by with_unfolding_all rfl) (by with_unfolding_all rfl) ?_ | with_reducible refine aC H R (by with_unfolding_all exact H.b) (by with_unfolding_all rfl) (by decide) (by with_unfolding_all rfl) rfl (by omega) ?_ | with_reducible refine fG H (by with_unfolding_all first | exact H.b | exact hS) (by with_unfolding_all rfl) ?_ | with_reducible refine aG H (by with_unfolding_all first | exact H.b | exact hS) (by with_unfolding_all rfl) (by decide) rfl (by omega) ?_))
      rw [if_pos c1, ew, nt_nI (by omega)] at kk
      rw [ew, or_bit (by omega)]
      exact kk
    · rw [if_neg c1] at kk
      exact kk
  · unfold w_X8_mostApart_4
    dsimp only
    (repeat (first | with_reducible refine bd_i ?_ | with_reducible refine fP H (by with_unfolding_all first | exact H.b | exact hS) (by with_unfolding_all rfl) (by with_unfolding_all rfl) ?_ | with_reducible refine vG H (by with_unfolding_all first | exact H.b | exact hS) (by with_unfolding_all rfl) ?_ | with_reducible refine fC_ H R (by with_unfolding_all exact H.b) (by with_unfolding_all rfl) (by with_unfolding_all rfl) ?_ | with_reducible refine aC H R (by with_unfolding_all exact H.b) (by with_unfolding_all rfl) (by decide) (by with_unfolding_all rfl) rfl (by omega) ?_ | with_reducible refine fG H (by with_unfolding_all first | exact H.b | exact hS) (by with_unfolding_all rfl) ?_ | with_reducible refine aG H (by with_unfolding_all first | exact H.b | exact hS) (by with_unfolding_all rfl) (by decide) rfl (by omega) ?_))
    rw [e5]
    refine br_end ?_
    unfold w_X8_mostApart_49
    have hg := gdN_lt O (Nat.le_refl (N 5))
    have hp : 2 ^ N 4 ≤ 2 ^ 8 := Nat.pow_le_pow_right (by omega) h4
    generalize gdN wd N (N 5) = good at *
    refine lp_up (good + 1) (fun j => (apF wd N good j, nI j, h)) (fun j kk1 hj kk => ?_) (fun kk1 => ?_) (Nat.zero_le _)
    · rw [nI_succ] at kk
      simp only [apF] at kk
      rw [nb_more (m := 8) (n := N 4) (by omega) h4] at kk
      dsimp only [w_X8_mostApart_53, w_X8_mostApart_87]
      refine br_F (nI_nlt (by omega) (by omega)) ?_
      refine br_if (fun c1 => ?_) (fun c1 => ?_)
      · refine bitCount ?_
        refine br_if (fun c2 => ?_) (fun c2 => ?_)
        · rw [if_neg (by simp only [Bool.and_eq_true, decide_eq_true_eq]; exact fun z => absurd z.2.1 (Int32.not_lt.mpr c2))] at kk
          exact kk
        · have c2 := Int32.not_le.mp c2
          (repeat (first | with_reducible refine c_nobodyTalked H R O ?_ | with_reducible refine bd_i ?_ | with_reducible refine fP H (by with_unfolding_all first | exact H.b | exact hS) (by with_unfolding_all rfl) (by with_unfolding_all rfl) ?_ | with_reducible refine vG H (by with_unfolding_all first | exact H.b | exact hS) (by with_unfolding_all rfl) ?_ | with_reducible refine fC_ H R (by with_unfolding_all exact H.b) (by with_unfolding_all rfl) (by with_unfolding_all rfl) ?_ | with_reducible refine aC H R (by with_unfolding_all exact H.b) (by with_unfolding_all rfl) (by decide) (by with_unfolding_all rfl) rfl (by omega) ?_ | with_reducible refine fG H (by with_unfolding_all first | exact H.b | exact hS) (by with_unfolding_all rfl) ?_ | with_reducible refine aG H (by with_unfolding_all first | exact H.b | exact hS) (by with_unfolding_all rfl) (by decide) rfl (by omega) ?_))
          refine br_bI (fun c3 => ?_) (fun c3 => ?_)
          · rw [if_pos (by rw [decide_eq_true c1, decide_eq_true c2, c3]; rfl)] at kk
            exact bitCount kk
          · rw [if_neg (by simp [c3])] at kk
            exact kk
      · rw [if_neg (by rw [decide_eq_false c1, Bool.false_and]; exact Bool.false_ne_true)] at kk
        exact kk
    · dsimp only [w_X8_mostApart_53, w_X8_mostApart_93]
      exact br_T (nI_lt (by omega) (by omega)) k
theorem m_apart_ (H : G A S h0 X h) (M : MR X wd) (O : Ok wd N) (k : ∀ X' h', G A S h0 X' h' → OT X X' → X' 12 0 = 0 → Q (apF wd N (gdN wd N (N 5)) (gdN wd N (N 5) + 1)) h') : w_X12_apart (A 12) h Q := by
  obtain ⟨e5, h5⟩ := O.o
  have h4 := O.t.2
  unfold w_X12_apart
  refine m_ent H M (fun X1 h1 H1 M1 o1 t1 => ?_)
  have z := k _ _ H1 o1 t1
  clear H M k
  have H := H1
  have M := M1
  refine lp_up (N 5) (fun j => (nI (gdN wd N j), nI j, h1)) (fun j kk1 hj kk => ?_) (fun kk1 => ?_) (Nat.zero_le _)
  · rw [nI_succ] at kk
    simp only [gdN] at kk
    obtain ⟨w, hw, ew⟩ := (O.L hj).1
    dsimp only [w_X12_apart_9, w_X12_apart_40]
    (repeat (first | with_reducible refine bd_i ?_ | with_reducible refine fP H (by with_unfolding_all exact H.b) (by with_unfolding_all rfl) (by with_unfolding_all rfl) ?_ | with_reducible refine vG H (by with_unfolding_all exact H.b) (by with_unfolding_all rfl) ?_ | with_reducible refine aM H M rfl (by omega) ?_ | with_reducible refine aM H M (ix0 0) (by omega) ?_ | with_reducible refine aM H M (ix0 1) (by omega) ?_ | with_reducible refine aM H M (ix0 2) (by omega) ?_ | with_reducible refine aM H M (ix0 3) (by omega) ?_ | with_reducible refine aM H M (ix0 4) (by omega) ?_ | with_reducible refine aM H M (ix0 5) (by omega) ?_ | with_reducible refine aM H M (ix0 6) (by omega) ?_ | with_reducible refine aM H M (ix0 7) (by omega) ?_ | with_reducible refine aM H M (ix0 8) (by omega) ?_ | with_reducible refine aM H M (ix0 9) (by omega) ?_ | with_reducible refine aM H M (ix0 10) (by omega) ?_ | with_reducible refine aM H M (ix0 11) (by omega) ?_ | with_reducible refine aM H M (ix0 12) (by omega) ?_ | with_reducible refine aM H M (ix1 13 _) (by omega) ?_ | with_reducible refine aM H M (ix1 1161 _) (by omega) ?_ | with_reducible refine aM H M (ix2 269 4 _) (by omega) ?_ | with_reducible refine aM H M (ix4 269 4 _ 1) (by omega) ?_ | with_reducible refine aM H M (ix4 269 4 _ 2) (by omega) ?_ | with_reducible refine aM H M (ix4 269 4 _ 3) (by omega) ?_ | with_reducible refine fG H (by with_unfolding_all exact H.b) (by with_unfolding_all rfl) ?_ | with_reducible refine aG H (by with_unfolding_all exact H.b) (by with_unfolding_all rfl) (by decide) rfl (by omega) ?_))
    rw [e5]
    refine br_go hj (by omega) ?_
    (repeat (first | with_reducible refine m_fitsAll H M O hj ?_ | with_reducible refine bd_i ?_ | with_reducible refine fP H (by with_unfolding_all exact H.b) (by with_unfolding_all rfl) (by with_unfolding_all rfl) ?_ | with_reducible refine vG H (by with_unfolding_all exact H.b) (by with_unfolding_all rfl) ?_ | with_reducible refine aM H M rfl (by omega) ?_ | with_reducible refine aM H M (ix0 0) (by omega) ?_ | with_reducible refine aM H M (ix0 1) (by omega) ?_ | with_reducible refine aM H M (ix0 2) (by omega) ?_ | with_reducible refine aM H M (ix0 3) (by omega) ?_ | with_reducible refine aM H M (ix0 4) (by omega) ?_ | with_reducible refine aM H M (ix0 5) (by omega) ?_ | with_reducible refine aM H M (ix0 6) (by omega) ?_ | with_reducible refine aM H M (ix0 7) (by omega) ?_ | with_reducible refine aM H M (ix0 8) (by omega) ?_ | with_reducible refine aM H M (ix0 9) (by omega) ?_ | with_reducible refine aM H M (ix0 10) (by omega) ?_ | with_reducible refine aM H M (ix0 11) (by omega) ?_ | with_reducible refine aM H M (ix0 12) (by omega) ?_ | with_reducible refine aM H M (ix1 13 _) (by omega) ?_ | with_reducible refine aM H M (ix1 1161 _) (by omega) ?_ | with_reducible refine aM H M (ix2 269 4 _) (by omega) ?_ | with_reducible refine aM H M (ix4 269 4 _ 1) (by omega) ?_ | with_reducible refine aM H M (ix4 269 4 _ 2) (by omega) ?_ | with_reducible refine aM H M (ix4 269 4 _ 3) (by omega) ?_ | with_reducible refine fG H (by with_unfolding_all exact H.b) (by with_unfolding_all rfl) ?_ | with_reducible refine aG H (by with_unfolding_all exact H.b) (by with_unfolding_all rfl) (by decide) rfl (by omega) ?_))
    refine br_bI (fun c1 => ?_) (fun c1 => ?_)
    · (repeat (first | with_reducible refine s0 H M (by omega) ?_ | with_reducible refine bd_i ?_ | with_reducible refine fP H (by with_unfolding_all exact H.b) (by with_unfolding_all rfl) (by with_unfolding_all rfl) ?_ | with_reducible refine vG H (by with_unfolding_all exact H.b) (by with_unfolding_all rfl) ?_ | with_reducible refine aM H M rfl (by omega) ?_ | with_reducible refine aM H M (ix0 0) (by omega) ?_ | with_reducible refine aM H M (ix0 1) (by omega) ?_ | with_reducible refine aM H M (ix0 2) (by omega) ?_ | with_reducible refine aM H M (ix0 3) (by omega) ?_ | with_reducible refine aM H M (ix0 4) (by omega) ?_ | with_reducible refine aM H M (ix0 5) (by omega) ?_ | with_reducible refine aM H M (ix0 6) (by omega) ?_ | with_reducible refine aM H M (ix0 7) (by omega) ?_ | with_reducible refine aM H M (ix0 8) (by omega) ?_ | with_reducible refine aM H M (ix0 9) (by omega) ?_ | with_reducible refine aM H M (ix0 10) (by omega) ?_ | with_reducible refine aM H M (ix0 11) (by omega) ?_ | with_reducible refine aM H M (ix0 12) (by omega) ?_ | with_reducible refine aM H M (ix1 13 _) (by omega) ?_ | with_reducible refine aM H M (ix1 1161 _) (by omega) ?_ | with_reducible refine aM H M (ix2 269 4 _) (by omega) ?_ | with_reducible refine aM H M (ix4 269 4 _ 1) (by omega) ?_ | with_reducible refine aM H M (ix4 269 4 _ 2) (by omega) ?_ | with_reducible refine aM H M (ix4 269 4 _ 3) (by omega) ?_ | with_reducible refine fG H (by with_unfolding_all exact H.b) (by with_unfolding_all rfl) ?_ | with_reducible refine aG H (by with_unfolding_all exact H.b) (by with_unfolding_all rfl) (by decide) rfl (by omega) ?_))
      rw [if_pos c1, ew, nt_nI (by omega)] at kk
      rw [ew, or_bit (by omega)]
      exact kk
    · rw [if_neg c1] at kk
      refine bd_i ?_
      rw [Int32.or_zero]
      exact kk
  · unfold w_X12_apart_9
    dsimp only
    (repeat (first | with_reducible refine bd_i ?_ | with_reducible refine fP H (by with_unfolding_all exact H.b) (by with_unfolding_all rfl) (by with_unfolding_all rfl) ?_ | with_reducible refine vG H (by with_unfolding_all exact H.b) (by with_unfolding_all rfl) ?_ | with_reducible refine aM H M rfl (by omega) ?_ | with_reducible refine aM H M (ix0 0) (by omega) ?_ | with_reducible refine aM H M (ix0 1) (by omega) ?_ | with_reducible refine aM H M (ix0 2) (by omega) ?_ | with_reducible refine aM H M (ix0 3) (by omega) ?_ | with_reducible refine aM H M (ix0 4) (by omega) ?_ | with_reducible refine aM H M (ix0 5) (by omega) ?_ | with_reducible refine aM H M (ix0 6) (by omega) ?_ | with_reducible refine aM H M (ix0 7) (by omega) ?_ | with_reducible refine aM H M (ix0 8) (by omega) ?_ | with_reducible refine aM H M (ix0 9) (by omega) ?_ | with_reducible refine aM H M (ix0 10) (by omega) ?_ | with_reducible refine aM H M (ix0 11) (by omega) ?_ | with_reducible refine aM H M (ix0 12) (by omega) ?_ | with_reducible refine aM H M (ix1 13 _) (by omega) ?_ | with_reducible refine aM H M (ix1 1161 _) (by omega) ?_ | with_reducible refine aM H M (ix2 269 4 _) (by omega) ?_ | with_reducible refine aM H M (ix4 269 4 _ 1) (by omega) ?_ | with_reducible refine aM H M (ix4 269 4 _ 2) (by omega) ?_ | with_reducible refine aM H M (ix4 269 4 _ 3) (by omega) ?_ | with_reducible refine fG H (by with_unfolding_all exact H.b) (by with_unfolding_all rfl) ?_ | with_reducible refine aG H (by with_unfolding_all exact H.b) (by with_unfolding_all rfl) (by decide) rfl (by omega) ?_))
    rw [e5]
    refine br_end ?_
    unfold w_X12_apart_48
    have hg := gdN_lt O (Nat.le_refl (N 5))
    have hp : 2 ^ N 4 ≤ 2 ^ 8 := Nat.pow_le_pow_right (by omega) h4
    generalize gdN wd N (N 5) = good at *
    refine lp_up (good + 1) (fun j => (apF wd N good j, nI j, h1)) (fun j kk1 hj kk => ?_) (fun kk1 => ?_) (Nat.zero_le _)
    · rw [nI_succ] at kk
      simp only [apF] at kk
      unfold w_X12_apart_52
      dsimp only
      refine br_F (nI_nlt (by omega) (by omega)) ?_
      refine br_if (fun c1 => ?_) (fun c1 => ?_)
      · refine bitCount ?_
        refine br_if (fun c2 => ?_) (fun c2 => ?_)
        · have fin : w_X12_apart_148 (fun y2 h => w_X12_apart_164 y2 h Q) (fun y2 y3 h => kk1 (y2, y3, h)) (A 12) (nI good) (apF wd N good j) (nI j) (bI (nbB wd N j 8)) h1 Q := by
            dsimp only [w_X12_apart_148, w_X12_apart_158]
            refine br_bI (fun c3 => ?_) (fun c3 => ?_)
            · rw [if_pos (by rw [decide_eq_true c1, decide_eq_true c2, c3]; rfl)] at kk
              exact bitCount kk
            · rw [if_neg (by simp [c3])] at kk
              exact kk
          refine lp_up 8 (fun a => (bI (nbB wd N j a), nI a, h1)) (fun a kk2 ha kk3 => ?_) (fun kk2 => ?_) (Nat.zero_le _)
          · rw [nI_succ] at kk3
            unfold w_X12_apart_82
            refine br_go (a := 8) ha (by omega) ?_
            refine lp_upE a (fun b => (bI (nbB wd N j a && allB (nbP wd N j a) b), nI b, h1)) (by simp [allB]; rfl) (fun b kk4 hb kk5 => ?_) (fun kk4 => ?_)
            · rw [nI_succ] at kk5
              simp only [allB] at kk5
              dsimp only [w_X12_apart_92, w_X12_apart_129, w_X12_apart_133, w_X12_apart_134]
              refine br_go hb (by omega) ?_
              generalize hP : (nbB wd N j a && allB (nbP wd N j a) b) = P at *
              rw [← Bool.and_assoc, hP] at kk5
              cases P
              · exact br_T rfl kk5
              · refine br_F (by decide) ?_
                refine br_if (fun d => ?_) (fun d => ?_)
                · rw [b_at2Z (by omega) (by omega)] at d
                  rw [bI_t (by simp only [nbP, Bool.eq_false_iff.mpr d, Bool.not_false, Bool.true_or, Bool.true_and])] at kk5
                  exact kk5
                · rw [b_at2Z (by omega) (by omega)] at d
                  have d := Decidable.not_not.mp d
                  (repeat (first | with_reducible refine m_mayHaveTalked H M O (by omega) (by omega) ?_ | with_reducible refine bd_i ?_ | with_reducible refine fP H (by with_unfolding_all exact H.b) (by with_unfolding_all rfl) (by with_unfolding_all rfl) ?_ | with_reducible refine vG H (by with_unfolding_all exact H.b) (by with_unfolding_all rfl) ?_ | with_reducible refine aM H M rfl (by omega) ?_ | with_reducible refine aM H M (ix0 0) (by omega) ?_ | with_reducible refine aM H M (ix0 1) (by omega) ?_ | with_reducible refine aM H M (ix0 2) (by omega) ?_ | with_reducible refine aM H M (ix0 3) (by omega) ?_ | with_reducible refine aM H M (ix0 4) (by omega) ?_ | with_reducible refine aM H M (ix0 5) (by omega) ?_ | with_reducible refine aM H M (ix0 6) (by omega) ?_ | with_reducible refine aM H M (ix0 7) (by omega) ?_ | with_reducible refine aM H M (ix0 8) (by omega) ?_ | with_reducible refine aM H M (ix0 9) (by omega) ?_ | with_reducible refine aM H M (ix0 10) (by omega) ?_ | with_reducible refine aM H M (ix0 11) (by omega) ?_ | with_reducible refine aM H M (ix0 12) (by omega) ?_ | with_reducible refine aM H M (ix1 13 _) (by omega) ?_ | with_reducible refine aM H M (ix1 1161 _) (by omega) ?_ | with_reducible refine aM H M (ix2 269 4 _) (by omega) ?_ | with_reducible refine aM H M (ix4 269 4 _ 1) (by omega) ?_ | with_reducible refine aM H M (ix4 269 4 _ 2) (by omega) ?_ | with_reducible refine aM H M (ix4 269 4 _ 3) (by omega) ?_ | with_reducible refine fG H (by with_unfolding_all exact H.b) (by with_unfolding_all rfl) ?_ | with_reducible refine aG H (by with_unfolding_all exact H.b) (by with_unfolding_all rfl) (by decide) rfl (by omega) ?_))
                  refine br_bI (fun c5 => ?_) (fun c5 => ?_)
                  · rw [bI_f (by simp_all [nbP])] at kk5
                    exact kk5
                  · rw [bI_t (by simp_all [nbP])] at kk5
                    exact kk5
            · dsimp only [w_X12_apart_92, w_X12_apart_142]
              refine br_end ?_
              have : nbB wd N j (a + 1) = (nbB wd N j a && allB (nbP wd N j a) a) := rfl
              rw [this] at kk3
              exact kk3
          · unfold w_X12_apart_82
            exact br_end (a := 8) fin
        · rw [if_neg (by simp only [Bool.and_eq_true, decide_eq_true_eq]; exact fun z => c2 z.2.1)] at kk
          exact kk
      · rw [if_neg (by rw [decide_eq_false c1, Bool.false_and]; exact Bool.false_ne_true)] at kk
        exact kk
    · unfold w_X12_apart_52
      exact br_T (nI_lt (by omega) (by omega)) z
end APART
