/-! heaps and what may lie still; the reference's modern cases, heaps -/
section TALLY
variable {A : Nat → Nat} {S : Nat → Prop} {h0 h : AH} {X : Nat → Nat → Int32} {wd : Nat → Int32} {N : Nat → Nat} {Q : Int32 → AH → Prop} {Qv : AH → Prop}
def tqB (wd : Nat → Int32) (N : Nat → Nat) (b : Bool) (f : Nat) : Bool := if b then (caseM wd N f).isSome else sn wd f
theorem c_tallyCells (H : G A S h0 X h) (R : CR X wd) (O : Ok wd N) {b : Bool} (C : b = true → CG X wd N) (k : ∀ X' h', G A S h0 X' h' → Off [904] X X' → (∀ c, c < 256 → X' 904 c = tly wd N (tqB wd N b) c) → Qv h') : w_X8_tallyCells (A 8) (bI b) h Qv := by
  obtain ⟨e3, h3⟩ := O.f
  unfold w_X8_tallyCells
  (repeat (first | with_reducible refine c_nearRows H R O ?_ | with_reducible refine bd_i ?_ | with_reducible refine fP H (by with_unfolding_all first | exact H.b | exact hS) (by with_unfolding_all rfl) (by with_unfolding_all rfl) ?_ | with_reducible refine vG H (by with_unfolding_all first | exact H.b | exact hS) (by with_unfolding_all rfl) ?_ | with_reducible refine fC_ H R (by with_unfolding_all exact H.b) (by with_unfolding_all rfl) (by with_unfolding_all rfl) ?_ | with_reducible refine aC H R (by with_unfolding_all exact H.b) (by with_unfolding_all rfl) (by decide) (by with_unfolding_all rfl) rfl (by omega) ?_ | with_reducible refine fG H (by with_unfolding_all first | exact H.b | exact hS) (by with_unfolding_all rfl) ?_ | with_reducible refine aG H (by with_unfolding_all first | exact H.b | exact hS) (by with_unfolding_all rfl) (by decide) rfl (by omega) ?_))
  refine c_fill (id := 904) H H.b rfl (by decide) (fun X0 h0_ H0 o0 c0 => ?_)
  refine lp_inv (N 3) (fun j (s : Int32 × AH) => s.1 = nI j ∧ ∃ X', G A S h0 X' s.2 ∧ Off [904] X X' ∧ ∀ c, c < 256 → X' 904 c = cnt (fun f => decide (wd (350 + 6 * f) = nI c) && tqB wd N b f) j) (fun j s kk1 hj hI kk => ?_) (fun s kk1 hI => ?_) (Nat.zero_le _) ⟨rfl, X0, H0, o0, c0⟩
  · obtain ⟨v, h1⟩ := s
    obtain ⟨e1, X1, H1, o1, c1⟩ := hI
    dsimp only at e1 H1 ⊢
    subst e1
    have R1 := R.offL o1 (by decide)
    have C1 : b = true → CG X1 wd N := fun e => (C e).off o1 (by decide)
    clear H R C H0
    have H := H1
    have R := R1
    obtain ⟨ec, hc⟩ := (O.F hj).2.1
    have key0 : tqB wd N b j = false → kk1 (nI j + 1, h1) := by
      intro e
      rw [← nI_succ]
      refine kk _ ⟨rfl, X1, H1, o1, fun c hc => ?_⟩
      simp only [cnt, e, Bool.and_false, Bool.false_eq_true, if_false]
      exact c1 c hc
    have key1 : tqB wd N b j = true → ∀ h', G A S h0 (up X1 904 (nt (wd (350 + 6 * j))) (X1 904 (nt (wd (350 + 6 * j))) + 1)) h' → kk1 (nI j + 1, h') := by
      intro e h' H'
      rw [← nI_succ]
      refine kk _ ⟨rfl, _, H', o1.up (by decide) _ _, fun c hc2 => ?_⟩
      simp only [cnt, e, Bool.and_true]
      by_cases d : c = nt (wd (350 + 6 * j))
      · rw [← d, up_same, c1 c hc2, if_pos (by rw [d, ← ec]; simp)]
      · rw [up_n _ _ _ d, c1 c hc2, if_neg]
        intro z
        have z := of_decide_eq_true z
        rw [ec, nI_eq (by omega) (by omega)] at z
        exact d z.symm
    dsimp only [w_X8_tallyCells_81, w_X8_tallyCells_75, w_X8_tallyCells_59, w_X8_tallyCells_24, w_X8_tallyCells]
    (repeat (first | with_reducible refine bd_i ?_ | with_reducible refine fP H (by with_unfolding_all first | exact H.b | exact hS) (by with_unfolding_all rfl) (by with_unfolding_all rfl) ?_ | with_reducible refine vG H (by with_unfolding_all first | exact H.b | exact hS) (by with_unfolding_all rfl) ?_ | with_reducible refine fC_ H R (by with_unfolding_all exact H.b) (by with_unfolding_all rfl) (by with_unfolding_all rfl) ?_ | with_reducible refine aC H R (by with_unfolding_all exact H.b) (by with_unfolding_all rfl) (by decide) (by with_unfolding_all rfl) rfl (by omega) ?_ | with_reducible refine fG H (by with_unfolding_all first | exact H.b | exact hS) (by with_unfolding_all rfl) ?_ | with_reducible refine aG H (by with_unfolding_all first | exact H.b | exact hS) (by with_unfolding_all rfl) (by decide) rfl (by omega) ?_))
    rw [e3]
    refine br_go hj (by omega) ?_
    refine br_bI (fun c5 => ?_) (fun c5 => ?_)
    · (repeat (first | with_reducible refine c_isCase H O (C1 c5) hj ?_ | with_reducible refine bd_i ?_ | with_reducible refine fP H (by with_unfolding_all first | exact H.b | exact hS) (by with_unfolding_all rfl) (by with_unfolding_all rfl) ?_ | with_reducible refine vG H (by with_unfolding_all first | exact H.b | exact hS) (by with_unfolding_all rfl) ?_ | with_reducible refine fC_ H R (by with_unfolding_all exact H.b) (by with_unfolding_all rfl) (by with_unfolding_all rfl) ?_ | with_reducible refine aC H R (by with_unfolding_all exact H.b) (by with_unfolding_all rfl) (by decide) (by with_unfolding_all rfl) rfl (by omega) ?_ | with_reducible refine fG H (by with_unfolding_all first | exact H.b | exact hS) (by with_unfolding_all rfl) ?_ | with_reducible refine aG H (by with_unfolding_all first | exact H.b | exact hS) (by with_unfolding_all rfl) (by decide) rfl (by omega) ?_))
      refine br_bI (fun c2 => ?_) (fun c2 => ?_)
      · (repeat (first | with_reducible refine bd_i ?_ | with_reducible refine fP H (by with_unfolding_all first | exact H.b | exact hS) (by with_unfolding_all rfl) (by with_unfolding_all rfl) ?_ | with_reducible refine vG H (by with_unfolding_all first | exact H.b | exact hS) (by with_unfolding_all rfl) ?_ | with_reducible refine fC_ H R (by with_unfolding_all exact H.b) (by with_unfolding_all rfl) (by with_unfolding_all rfl) ?_ | with_reducible refine aC H R (by with_unfolding_all exact H.b) (by with_unfolding_all rfl) (by decide) (by with_unfolding_all rfl) rfl (by omega) ?_ | with_reducible refine fG H (by with_unfolding_all first | exact H.b | exact hS) (by with_unfolding_all rfl) ?_ | with_reducible refine aG H (by with_unfolding_all first | exact H.b | exact hS) (by with_unfolding_all rfl) (by decide) rfl (by omega) ?_))
        rw [ec]
        (repeat (first | with_reducible refine bd_i ?_ | with_reducible refine fP H (by with_unfolding_all first | exact H.b | exact hS) (by with_unfolding_all rfl) (by with_unfolding_all rfl) ?_ | with_reducible refine vG H (by with_unfolding_all first | exact H.b | exact hS) (by with_unfolding_all rfl) ?_ | with_reducible refine fC_ H R (by with_unfolding_all exact H.b) (by with_unfolding_all rfl) (by with_unfolding_all rfl) ?_ | with_reducible refine aC H R (by with_unfolding_all exact H.b) (by with_unfolding_all rfl) (by decide) (by with_unfolding_all rfl) rfl (by omega) ?_ | with_reducible refine fG H (by with_unfolding_all first | exact H.b | exact hS) (by with_unfolding_all rfl) ?_ | with_reducible refine aG H (by with_unfolding_all first | exact H.b | exact hS) (by with_unfolding_all rfl) (by decide) rfl (by omega) ?_))
        refine tG (id := 904) H H.b rfl (by decide) rfl (by omega) (fun h' H' => key1 ?_ h' H')
        simp only [tqB, if_pos c5]
        exact c2
      · exact key0 (by simp only [tqB, if_pos c5]; simpa using c2)
    · (repeat (first | with_reducible refine c_isSeen H R (by omega) ?_ | with_reducible refine bd_i ?_ | with_reducible refine fP H (by with_unfolding_all first | exact H.b | exact hS) (by with_unfolding_all rfl) (by with_unfolding_all rfl) ?_ | with_reducible refine vG H (by with_unfolding_all first | exact H.b | exact hS) (by with_unfolding_all rfl) ?_ | with_reducible refine fC_ H R (by with_unfolding_all exact H.b) (by with_unfolding_all rfl) (by with_unfolding_all rfl) ?_ | with_reducible refine aC H R (by with_unfolding_all exact H.b) (by with_unfolding_all rfl) (by decide) (by with_unfolding_all rfl) rfl (by omega) ?_ | with_reducible refine fG H (by with_unfolding_all first | exact H.b | exact hS) (by with_unfolding_all rfl) ?_ | with_reducible refine aG H (by with_unfolding_all first | exact H.b | exact hS) (by with_unfolding_all rfl) (by decide) rfl (by omega) ?_))
      refine br_bI (fun c2 => ?_) (fun c2 => ?_)
      · rw [snR_sn O hj] at c2
        (repeat (first | with_reducible refine bd_i ?_ | with_reducible refine fP H (by with_unfolding_all first | exact H.b | exact hS) (by with_unfolding_all rfl) (by with_unfolding_all rfl) ?_ | with_reducible refine vG H (by with_unfolding_all first | exact H.b | exact hS) (by with_unfolding_all rfl) ?_ | with_reducible refine fC_ H R (by with_unfolding_all exact H.b) (by with_unfolding_all rfl) (by with_unfolding_all rfl) ?_ | with_reducible refine aC H R (by with_unfolding_all exact H.b) (by with_unfolding_all rfl) (by decide) (by with_unfolding_all rfl) rfl (by omega) ?_ | with_reducible refine fG H (by with_unfolding_all first | exact H.b | exact hS) (by with_unfolding_all rfl) ?_ | with_reducible refine aG H (by with_unfolding_all first | exact H.b | exact hS) (by with_unfolding_all rfl) (by decide) rfl (by omega) ?_))
        rw [ec]
        (repeat (first | with_reducible refine bd_i ?_ | with_reducible refine fP H (by with_unfolding_all first | exact H.b | exact hS) (by with_unfolding_all rfl) (by with_unfolding_all rfl) ?_ | with_reducible refine vG H (by with_unfolding_all first | exact H.b | exact hS) (by with_unfolding_all rfl) ?_ | with_reducible refine fC_ H R (by with_unfolding_all exact H.b) (by with_unfolding_all rfl) (by with_unfolding_all rfl) ?_ | with_reducible refine aC H R (by with_unfolding_all exact H.b) (by with_unfolding_all rfl) (by decide) (by with_unfolding_all rfl) rfl (by omega) ?_ | with_reducible refine fG H (by with_unfolding_all first | exact H.b | exact hS) (by with_unfolding_all rfl) ?_ | with_reducible refine aG H (by with_unfolding_all first | exact H.b | exact hS) (by with_unfolding_all rfl) (by decide) rfl (by omega) ?_))
        refine tG (id := 904) H H.b rfl (by decide) rfl (by omega) (fun h' H' => key1 ?_ h' H')
        simp only [tqB, if_neg c5]
        exact c2
      · rw [snR_sn O hj] at c2
        exact key0 (by simp only [tqB, if_neg c5]; simpa using c2)
  · obtain ⟨v, h1⟩ := s
    obtain ⟨e1, X1, H1, o1, c1⟩ := hI
    dsimp only at e1 H1 ⊢
    subst e1
    have R1 := R.offL o1 (by decide)
    have z := k X1 h1 H1 o1 c1
    clear H R H0
    have H := H1
    have R := R1
    dsimp only [w_X8_tallyCells_81, w_X8_tallyCells_75, w_X8_tallyCells_59, w_X8_tallyCells_24, w_X8_tallyCells]
    (repeat (first | with_reducible refine bd_i ?_ | with_reducible refine fP H (by with_unfolding_all first | exact H.b | exact hS) (by with_unfolding_all rfl) (by with_unfolding_all rfl) ?_ | with_reducible refine vG H (by with_unfolding_all first | exact H.b | exact hS) (by with_unfolding_all rfl) ?_ | with_reducible refine fC_ H R (by with_unfolding_all exact H.b) (by with_unfolding_all rfl) (by with_unfolding_all rfl) ?_ | with_reducible refine aC H R (by with_unfolding_all exact H.b) (by with_unfolding_all rfl) (by decide) (by with_unfolding_all rfl) rfl (by omega) ?_ | with_reducible refine fG H (by with_unfolding_all first | exact H.b | exact hS) (by with_unfolding_all rfl) ?_ | with_reducible refine aG H (by with_unfolding_all first | exact H.b | exact hS) (by with_unfolding_all rfl) (by decide) rfl (by omega) ?_))
    rw [e3]
    exact br_end z
theorem c_heapCount (H : G A S h0 X h) (R : CR X wd) (O : Ok wd N) (C : CG X wd N) {cs_ : Int32} (k : ∀ X' h', G A S h0 X' h' → Off [904] X X' → Q (cnt (heP wd N cs_) 256) h') : w_X8_heapCount (A 8) cs_ h Q := by
  unfold w_X8_heapCount
  (repeat (first | with_reducible refine bd_i ?_ | with_reducible refine fP H (by with_unfolding_all first | exact H.b | exact hS) (by with_unfolding_all rfl) (by with_unfolding_all rfl) ?_ | with_reducible refine vG H (by with_unfolding_all first | exact H.b | exact hS) (by with_unfolding_all rfl) ?_ | with_reducible refine fC_ H R (by with_unfolding_all exact H.b) (by with_unfolding_all rfl) (by with_unfolding_all rfl) ?_ | with_reducible refine aC H R (by with_unfolding_all exact H.b) (by with_unfolding_all rfl) (by decide) (by with_unfolding_all rfl) rfl (by omega) ?_ | with_reducible refine fG H (by with_unfolding_all first | exact H.b | exact hS) (by with_unfolding_all rfl) ?_ | with_reducible refine aG H (by with_unfolding_all first | exact H.b | exact hS) (by with_unfolding_all rfl) (by decide) rfl (by omega) ?_))
  refine c_tallyCells (b := true) H R O (fun _ => C) (fun X1 h1 H1 o1 c1 => ?_)
  have z := k X1 h1 H1 o1
  clear H R
  have H := H1
  have R : True := trivial
  refine lp_up 256 (fun j => (cnt (heP wd N cs_) j, nI j, h1)) (fun j kk1 hj kk => ?_) (fun kk1 => ?_) (Nat.zero_le _)
  · rw [nI_succ] at kk
    dsimp only [w_X8_heapCount_35, w_X8_heapCount_29, w_X8_heapCount_9, w_X8_heapCount]
    refine br_go (a := 256) hj (by omega) ?_
    (repeat (first | with_reducible refine bd_i ?_ | with_reducible refine fP H (by with_unfolding_all first | exact H.b | exact hS) (by with_unfolding_all rfl) (by with_unfolding_all rfl) ?_ | with_reducible refine vG H (by with_unfolding_all first | exact H.b | exact hS) (by with_unfolding_all rfl) ?_ | with_reducible refine fC_ H R (by with_unfolding_all exact H.b) (by with_unfolding_all rfl) (by with_unfolding_all rfl) ?_ | with_reducible refine aC H R (by with_unfolding_all exact H.b) (by with_unfolding_all rfl) (by decide) (by with_unfolding_all rfl) rfl (by omega) ?_ | with_reducible refine fG H (by with_unfolding_all first | exact H.b | exact hS) (by with_unfolding_all rfl) ?_ | with_reducible refine aG H (by with_unfolding_all first | exact H.b | exact hS) (by with_unfolding_all rfl) (by decide) rfl (by omega) ?_))
    rw [c1 j hj]
    refine br_if (fun c2 => ?_) (fun c2 => ?_)
    · have hp : ¬ heP wd N cs_ j = true := by simp only [heP, decide_eq_true_eq]; exact Int32.not_le.mpr c2
      simp only [cnt, if_neg hp] at kk
      exact kk
    · have hp : heP wd N cs_ j = true := by simp only [heP, decide_eq_true_eq]; exact Int32.not_lt.mp c2
      simp only [cnt, if_pos hp] at kk
      exact kk
  · dsimp only [w_X8_heapCount_35, w_X8_heapCount_29, w_X8_heapCount_9, w_X8_heapCount]
    exact br_end (a := 256) z
theorem c_firstHeap (H : G A S h0 X h) (R : CR X wd) (O : Ok wd N) (C : CG X wd N) {cs_ : Int32} (k : ∀ X' h', G A S h0 X' h' → Off [904] X X' → Q (oI (fsO (heP wd N cs_) 256)) h') : w_X8_firstHeap (A 8) cs_ h Q := by
  unfold w_X8_firstHeap
  (repeat (first | with_reducible refine bd_i ?_ | with_reducible refine fP H (by with_unfolding_all first | exact H.b | exact hS) (by with_unfolding_all rfl) (by with_unfolding_all rfl) ?_ | with_reducible refine vG H (by with_unfolding_all first | exact H.b | exact hS) (by with_unfolding_all rfl) ?_ | with_reducible refine fC_ H R (by with_unfolding_all exact H.b) (by with_unfolding_all rfl) (by with_unfolding_all rfl) ?_ | with_reducible refine aC H R (by with_unfolding_all exact H.b) (by with_unfolding_all rfl) (by decide) (by with_unfolding_all rfl) rfl (by omega) ?_ | with_reducible refine fG H (by with_unfolding_all first | exact H.b | exact hS) (by with_unfolding_all rfl) ?_ | with_reducible refine aG H (by with_unfolding_all first | exact H.b | exact hS) (by with_unfolding_all rfl) (by decide) rfl (by omega) ?_))
  refine c_tallyCells (b := true) H R O (fun _ => C) (fun X1 h1 H1 o1 c1 => ?_)
  have z := k X1 h1 H1 o1
  clear H R
  have H := H1
  have R : True := trivial
  refine lp_ex 256 (fun j => (nI j, h1)) (fun j => fsO (heP wd N cs_) j = none) (fun j kk1 hj hP kk => ?_) (fun hP kk1 => ?_) (Nat.zero_le _) rfl
  · rw [nI_succ] at kk
    dsimp only [w_X8_firstHeap_32, w_X8_firstHeap_24, w_X8_firstHeap_7, w_X8_firstHeap]
    refine br_go (a := 256) hj (by omega) ?_
    (repeat (first | with_reducible refine bd_i ?_ | with_reducible refine fP H (by with_unfolding_all first | exact H.b | exact hS) (by with_unfolding_all rfl) (by with_unfolding_all rfl) ?_ | with_reducible refine vG H (by with_unfolding_all first | exact H.b | exact hS) (by with_unfolding_all rfl) ?_ | with_reducible refine fC_ H R (by with_unfolding_all exact H.b) (by with_unfolding_all rfl) (by with_unfolding_all rfl) ?_ | with_reducible refine aC H R (by with_unfolding_all exact H.b) (by with_unfolding_all rfl) (by decide) (by with_unfolding_all rfl) rfl (by omega) ?_ | with_reducible refine fG H (by with_unfolding_all first | exact H.b | exact hS) (by with_unfolding_all rfl) ?_ | with_reducible refine aG H (by with_unfolding_all first | exact H.b | exact hS) (by with_unfolding_all rfl) (by decide) rfl (by omega) ?_))
    rw [c1 j hj]
    refine br_if (fun c2 => ?_) (fun c2 => ?_)
    · have hp : ¬ heP wd N cs_ j = true := by simp only [heP, decide_eq_true_eq]; exact Int32.not_le.mpr c2
      refine kk ?_
      simp only [fsO, hP, if_neg hp]
    · have hp : heP wd N cs_ j = true := by simp only [heP, decide_eq_true_eq]; exact Int32.not_lt.mp c2
      rw [fsO_at hj hP hp] at z
      exact z
  · dsimp only [w_X8_firstHeap_32, w_X8_firstHeap_24, w_X8_firstHeap_7, w_X8_firstHeap]
    rw [hP] at z
    exact br_end (a := 256) z
theorem near_cov (O : Ok wd N) {r : Nat} (hr : r < 16) : ((nrF (wd 12) (N 11) &&& 65535) >>> (nI r &&& 31)) &&& 1 = 0 ↔ ¬ cov wd (nI r) = true := by
  rw [cov_nrB hr O.wi.2 O.wi.1, ← nrF_nrB hr O.wi.2 (wa_hi O), ← b_at (by omega)]
  rcases and1 ((nrF (wd 12) (N 11) &&& 65535) >>> (nI r &&& 31)) with e | e
  · rw [e]; decide
  · rw [e]; decide
theorem c_mostUnseen (H : G A S h0 X h) (R : CR X wd) (O : Ok wd N) {a b : Int32} (k : ∀ X' h', G A S h0 X' h' → Off [904] X X' → Q (mxF (tly wd N (sn wd)) 256 * cnt (stB wd a b) 256) h') : w_X8_mostUnseen (A 8) a b h Q := by
  unfold w_X8_mostUnseen
  (repeat (first | with_reducible refine bd_i ?_ | with_reducible refine fP H (by with_unfolding_all first | exact H.b | exact hS) (by with_unfolding_all rfl) (by with_unfolding_all rfl) ?_ | with_reducible refine vG H (by with_unfolding_all first | exact H.b | exact hS) (by with_unfolding_all rfl) ?_ | with_reducible refine fC_ H R (by with_unfolding_all exact H.b) (by with_unfolding_all rfl) (by with_unfolding_all rfl) ?_ | with_reducible refine aC H R (by with_unfolding_all exact H.b) (by with_unfolding_all rfl) (by decide) (by with_unfolding_all rfl) rfl (by omega) ?_ | with_reducible refine fG H (by with_unfolding_all first | exact H.b | exact hS) (by with_unfolding_all rfl) ?_ | with_reducible refine aG H (by with_unfolding_all first | exact H.b | exact hS) (by with_unfolding_all rfl) (by decide) rfl (by omega) ?_))
  refine c_tallyCells (b := false) H R O (fun z => absurd z (by decide)) (fun X1 h1 H1 o1 c1 => ?_)
  have z := k X1 h1 H1 o1
  have R1 := R.offL o1 (by decide)
  clear H R
  have H := H1
  have R := R1
  (repeat (first | with_reducible refine c_nearRows H R O ?_ | with_reducible refine bd_i ?_ | with_reducible refine fP H (by with_unfolding_all first | exact H.b | exact hS) (by with_unfolding_all rfl) (by with_unfolding_all rfl) ?_ | with_reducible refine vG H (by with_unfolding_all first | exact H.b | exact hS) (by with_unfolding_all rfl) ?_ | with_reducible refine fC_ H R (by with_unfolding_all exact H.b) (by with_unfolding_all rfl) (by with_unfolding_all rfl) ?_ | with_reducible refine aC H R (by with_unfolding_all exact H.b) (by with_unfolding_all rfl) (by decide) (by with_unfolding_all rfl) rfl (by omega) ?_ | with_reducible refine fG H (by with_unfolding_all first | exact H.b | exact hS) (by with_unfolding_all rfl) ?_ | with_reducible refine aG H (by with_unfolding_all first | exact H.b | exact hS) (by with_unfolding_all rfl) (by decide) rfl (by omega) ?_))
  refine lp_up 256 (fun j => (mxF (tly wd N (sn wd)) j, cnt (stB wd a b) j, nI j, h1)) (fun j kk1 hj kk => ?_) (fun kk1 => ?_) (Nat.zero_le _)
  · rw [nI_succ] at kk
    simp only [mxF, cnt] at kk
    dsimp only [w_X8_mostUnseen_78, w_X8_mostUnseen_72, w_X8_mostUnseen_25, w_X8_mostUnseen, w_X3_row]
    refine br_go (a := 256) hj (by omega) ?_
    (repeat (first | with_reducible refine bd_i ?_ | with_reducible refine fP H (by with_unfolding_all first | exact H.b | exact hS) (by with_unfolding_all rfl) (by with_unfolding_all rfl) ?_ | with_reducible refine vG H (by with_unfolding_all first | exact H.b | exact hS) (by with_unfolding_all rfl) ?_ | with_reducible refine fC_ H R (by with_unfolding_all exact H.b) (by with_unfolding_all rfl) (by with_unfolding_all rfl) ?_ | with_reducible refine aC H R (by with_unfolding_all exact H.b) (by with_unfolding_all rfl) (by decide) (by with_unfolding_all rfl) rfl (by omega) ?_ | with_reducible refine fG H (by with_unfolding_all first | exact H.b | exact hS) (by with_unfolding_all rfl) ?_ | with_reducible refine aG H (by with_unfolding_all first | exact H.b | exact hS) (by with_unfolding_all rfl) (by decide) rfl (by omega) ?_))
    rw [c1 j hj]
    (repeat (first | with_reducible refine c_isInArea ?_ | with_reducible refine bd_i ?_ | with_reducible refine fP H (by with_unfolding_all first | exact H.b | exact hS) (by with_unfolding_all rfl) (by with_unfolding_all rfl) ?_ | with_reducible refine vG H (by with_unfolding_all first | exact H.b | exact hS) (by with_unfolding_all rfl) ?_ | with_reducible refine fC_ H R (by with_unfolding_all exact H.b) (by with_unfolding_all rfl) (by with_unfolding_all rfl) ?_ | with_reducible refine aC H R (by with_unfolding_all exact H.b) (by with_unfolding_all rfl) (by decide) (by with_unfolding_all rfl) rfl (by omega) ?_ | with_reducible refine fG H (by with_unfolding_all first | exact H.b | exact hS) (by with_unfolding_all rfl) ?_ | with_reducible refine aG H (by with_unfolding_all first | exact H.b | exact hS) (by with_unfolding_all rfl) (by decide) rfl (by omega) ?_))
    refine br_bI (fun c4 => ?_) (fun c4 => ?_)
    · rw [row_of (by omega)]
      refine br_if (fun d => ?_) (fun d => ?_)
      · rw [near_cov O (by omega)] at d
        rw [if_pos (by simp [stB, c4, row_of (show j ≤ 255 by omega)]; simpa using d)] at kk
        exact kk
      · rw [near_cov O (by omega)] at d
        rw [if_neg (by simp [stB, row_of (show j ≤ 255 by omega)]; simp_all)] at kk
        exact kk
    · rw [if_neg (by simp_all [stB])] at kk
      exact kk
  · dsimp only [w_X8_mostUnseen_78, w_X8_mostUnseen_72, w_X8_mostUnseen_25, w_X8_mostUnseen]
    exact br_end (a := 256) z
theorem m_casesAt (H : G A S h0 X h) (M : MR X wd) (O : Ok wd N) {c_ : Nat} (k : Q (tly wd N (fun f => (caseM wd N f).isSome) c_) h) : w_X12_casesAt (A 12) (nI c_) h Q := by
  obtain ⟨e3, h3⟩ := O.f
  refine lp_up (N 3) (fun j => (cnt (fun f => decide (wd (350 + 6 * f) = nI c_) && (caseM wd N f).isSome) j, nI j, h)) (fun j kk1 hj kk => ?_) (fun kk1 => ?_) (Nat.zero_le _)
  · dsimp only [w_X12_casesAt_44, w_X12_casesAt_36, w_X12_casesAt_35, w_X12_casesAt_4, w_X12_casesAt]
    (repeat (first | with_reducible refine m_finds H M ?_ | with_reducible refine bd_i ?_ | with_reducible refine fP H (by with_unfolding_all exact H.b) (by with_unfolding_all rfl) (by with_unfolding_all rfl) ?_ | with_reducible refine vG H (by with_unfolding_all exact H.b) (by with_unfolding_all rfl) ?_ | with_reducible refine aM H M rfl (by omega) ?_ | with_reducible refine aM H M (ix0 0) (by omega) ?_ | with_reducible refine aM H M (ix0 1) (by omega) ?_ | with_reducible refine aM H M (ix0 2) (by omega) ?_ | with_reducible refine aM H M (ix0 3) (by omega) ?_ | with_reducible refine aM H M (ix0 4) (by omega) ?_ | with_reducible refine aM H M (ix0 5) (by omega) ?_ | with_reducible refine aM H M (ix0 6) (by omega) ?_ | with_reducible refine aM H M (ix0 7) (by omega) ?_ | with_reducible refine aM H M (ix0 8) (by omega) ?_ | with_reducible refine aM H M (ix0 9) (by omega) ?_ | with_reducible refine aM H M (ix0 10) (by omega) ?_ | with_reducible refine aM H M (ix0 11) (by omega) ?_ | with_reducible refine aM H M (ix0 12) (by omega) ?_ | with_reducible refine aM H M (ix1 13 _) (by omega) ?_ | with_reducible refine aM H M (ix1 1161 _) (by omega) ?_ | with_reducible refine aM H M (ix2 269 4 _) (by omega) ?_ | with_reducible refine aM H M (ix4 269 4 _ 1) (by omega) ?_ | with_reducible refine aM H M (ix4 269 4 _ 2) (by omega) ?_ | with_reducible refine aM H M (ix4 269 4 _ 3) (by omega) ?_ | with_reducible refine fG H (by with_unfolding_all exact H.b) (by with_unfolding_all rfl) ?_ | with_reducible refine aG H (by with_unfolding_all exact H.b) (by with_unfolding_all rfl) (by decide) rfl (by omega) ?_))
    rw [e3]
    refine br_go hj (by omega) ?_
    (repeat' (first | with_reducible refine f1 H M (by omega) ?_ | with_reducible refine m_isSeenCase (N := N) H M (by omega) ?_ | with_reducible refine bd_i ?_ | with_reducible refine fP H (by with_unfolding_all exact H.b) (by with_unfolding_all rfl) (by with_unfolding_all rfl) ?_ | with_reducible refine vG H (by with_unfolding_all exact H.b) (by with_unfolding_all rfl) ?_ | with_reducible refine aM H M rfl (by omega) ?_ | with_reducible refine aM H M (ix0 0) (by omega) ?_ | with_reducible refine aM H M (ix0 1) (by omega) ?_ | with_reducible refine aM H M (ix0 2) (by omega) ?_ | with_reducible refine aM H M (ix0 3) (by omega) ?_ | with_reducible refine aM H M (ix0 4) (by omega) ?_ | with_reducible refine aM H M (ix0 5) (by omega) ?_ | with_reducible refine aM H M (ix0 6) (by omega) ?_ | with_reducible refine aM H M (ix0 7) (by omega) ?_ | with_reducible refine aM H M (ix0 8) (by omega) ?_ | with_reducible refine aM H M (ix0 9) (by omega) ?_ | with_reducible refine aM H M (ix0 10) (by omega) ?_ | with_reducible refine aM H M (ix0 11) (by omega) ?_ | with_reducible refine aM H M (ix0 12) (by omega) ?_ | with_reducible refine aM H M (ix1 13 _) (by omega) ?_ | with_reducible refine aM H M (ix1 1161 _) (by omega) ?_ | with_reducible refine aM H M (ix2 269 4 _) (by omega) ?_ | with_reducible refine aM H M (ix4 269 4 _ 1) (by omega) ?_ | with_reducible refine aM H M (ix4 269 4 _ 2) (by omega) ?_ | with_reducible refine aM H M (ix4 269 4 _ 3) (by omega) ?_ | with_reducible refine fG H (by with_unfolding_all exact H.b) (by with_unfolding_all rfl) ?_ | with_reducible refine aG H (by with_unfolding_all exact H.b) (by with_unfolding_all rfl) (by decide) rfl (by omega) ?_ | (with_reducible refine br_bI (fun c => ?_) (fun c => ?_)) | (with_reducible refine br_if (fun c => ?_) (fun c => ?_))))
    all_goals (first | exact kk | (simp only [nI_succ] at kk; first | exact kk | (simp_all [cnt]; done)))
  · dsimp only [w_X12_casesAt_44, w_X12_casesAt_36, w_X12_casesAt_35, w_X12_casesAt_4, w_X12_casesAt]
    (repeat (first | with_reducible refine m_finds H M ?_ | with_reducible refine bd_i ?_ | with_reducible refine fP H (by with_unfolding_all exact H.b) (by with_unfolding_all rfl) (by with_unfolding_all rfl) ?_ | with_reducible refine vG H (by with_unfolding_all exact H.b) (by with_unfolding_all rfl) ?_ | with_reducible refine aM H M rfl (by omega) ?_ | with_reducible refine aM H M (ix0 0) (by omega) ?_ | with_reducible refine aM H M (ix0 1) (by omega) ?_ | with_reducible refine aM H M (ix0 2) (by omega) ?_ | with_reducible refine aM H M (ix0 3) (by omega) ?_ | with_reducible refine aM H M (ix0 4) (by omega) ?_ | with_reducible refine aM H M (ix0 5) (by omega) ?_ | with_reducible refine aM H M (ix0 6) (by omega) ?_ | with_reducible refine aM H M (ix0 7) (by omega) ?_ | with_reducible refine aM H M (ix0 8) (by omega) ?_ | with_reducible refine aM H M (ix0 9) (by omega) ?_ | with_reducible refine aM H M (ix0 10) (by omega) ?_ | with_reducible refine aM H M (ix0 11) (by omega) ?_ | with_reducible refine aM H M (ix0 12) (by omega) ?_ | with_reducible refine aM H M (ix1 13 _) (by omega) ?_ | with_reducible refine aM H M (ix1 1161 _) (by omega) ?_ | with_reducible refine aM H M (ix2 269 4 _) (by omega) ?_ | with_reducible refine aM H M (ix4 269 4 _ 1) (by omega) ?_ | with_reducible refine aM H M (ix4 269 4 _ 2) (by omega) ?_ | with_reducible refine aM H M (ix4 269 4 _ 3) (by omega) ?_ | with_reducible refine fG H (by with_unfolding_all exact H.b) (by with_unfolding_all rfl) ?_ | with_reducible refine aG H (by with_unfolding_all exact H.b) (by with_unfolding_all rfl) (by decide) rfl (by omega) ?_))
    rw [e3]
    exact br_end k
theorem m_heapsOf (H : G A S h0 X h) (M : MR X wd) (O : Ok wd N) {cs_ : Int32} {b : Bool} (k1 : b = false → Q (cnt (heP wd N cs_) 256) h) (k2 : b = true → Q (oI (fsO (heP wd N cs_) 256)) h) : w_X12_heapsOf (A 12) cs_ (bI b) h Q := by
  cases b
  · refine lp_up 256 (fun j => (cnt (heP wd N cs_) j, nI j, h)) (fun j kk1 hj kk => ?_) (fun kk1 => ?_) (Nat.zero_le _)
    · rw [nI_succ] at kk
      simp only [cnt] at kk
      dsimp only [w_X12_heapsOf_51, w_X12_heapsOf_42, w_X12_heapsOf_36, w_X12_heapsOf_30, w_X12_heapsOf_5, w_X12_heapsOf]
      refine br_go (a := 256) hj (by omega) ?_
      (repeat (first | with_reducible refine m_casesAt H M O ?_ | with_reducible refine bd_i ?_ | with_reducible refine fP H (by with_unfolding_all exact H.b) (by with_unfolding_all rfl) (by with_unfolding_all rfl) ?_ | with_reducible refine vG H (by with_unfolding_all exact H.b) (by with_unfolding_all rfl) ?_ | with_reducible refine aM H M rfl (by omega) ?_ | with_reducible refine aM H M (ix0 0) (by omega) ?_ | with_reducible refine aM H M (ix0 1) (by omega) ?_ | with_reducible refine aM H M (ix0 2) (by omega) ?_ | with_reducible refine aM H M (ix0 3) (by omega) ?_ | with_reducible refine aM H M (ix0 4) (by omega) ?_ | with_reducible refine aM H M (ix0 5) (by omega) ?_ | with_reducible refine aM H M (ix0 6) (by omega) ?_ | with_reducible refine aM H M (ix0 7) (by omega) ?_ | with_reducible refine aM H M (ix0 8) (by omega) ?_ | with_reducible refine aM H M (ix0 9) (by omega) ?_ | with_reducible refine aM H M (ix0 10) (by omega) ?_ | with_reducible refine aM H M (ix0 11) (by omega) ?_ | with_reducible refine aM H M (ix0 12) (by omega) ?_ | with_reducible refine aM H M (ix1 13 _) (by omega) ?_ | with_reducible refine aM H M (ix1 1161 _) (by omega) ?_ | with_reducible refine aM H M (ix2 269 4 _) (by omega) ?_ | with_reducible refine aM H M (ix4 269 4 _ 1) (by omega) ?_ | with_reducible refine aM H M (ix4 269 4 _ 2) (by omega) ?_ | with_reducible refine aM H M (ix4 269 4 _ 3) (by omega) ?_ | with_reducible refine fG H (by with_unfolding_all exact H.b) (by with_unfolding_all rfl) ?_ | with_reducible refine aG H (by with_unfolding_all exact H.b) (by with_unfolding_all rfl) (by decide) rfl (by omega) ?_))
      refine br_if (fun c2 => ?_) (fun c2 => ?_)
      · refine br_T rfl ?_
        rw [if_pos (by simp [heP, c2])] at kk
        exact kk
      · rw [if_neg (by simpa [heP] using c2)] at kk
        exact kk
    · dsimp only [w_X12_heapsOf_51, w_X12_heapsOf_42, w_X12_heapsOf_36, w_X12_heapsOf_30, w_X12_heapsOf_5, w_X12_heapsOf]
      exact br_end (a := 256) (br_T rfl (k1 rfl))
  · have z := k2 rfl
    refine lp_ex 256 (fun j => (0, nI j, h)) (fun j => fsO (heP wd N cs_) j = none) (fun j kk1 hj hP kk => ?_) (fun hP kk1 => ?_) (Nat.zero_le _) rfl
    · rw [nI_succ] at kk
      dsimp only [w_X12_heapsOf_51, w_X12_heapsOf_42, w_X12_heapsOf_36, w_X12_heapsOf_30, w_X12_heapsOf_5, w_X12_heapsOf]
      refine br_go (a := 256) hj (by omega) ?_
      (repeat (first | with_reducible refine m_casesAt H M O ?_ | with_reducible refine bd_i ?_ | with_reducible refine fP H (by with_unfolding_all exact H.b) (by with_unfolding_all rfl) (by with_unfolding_all rfl) ?_ | with_reducible refine vG H (by with_unfolding_all exact H.b) (by with_unfolding_all rfl) ?_ | with_reducible refine aM H M rfl (by omega) ?_ | with_reducible refine aM H M (ix0 0) (by omega) ?_ | with_reducible refine aM H M (ix0 1) (by omega) ?_ | with_reducible refine aM H M (ix0 2) (by omega) ?_ | with_reducible refine aM H M (ix0 3) (by omega) ?_ | with_reducible refine aM H M (ix0 4) (by omega) ?_ | with_reducible refine aM H M (ix0 5) (by omega) ?_ | with_reducible refine aM H M (ix0 6) (by omega) ?_ | with_reducible refine aM H M (ix0 7) (by omega) ?_ | with_reducible refine aM H M (ix0 8) (by omega) ?_ | with_reducible refine aM H M (ix0 9) (by omega) ?_ | with_reducible refine aM H M (ix0 10) (by omega) ?_ | with_reducible refine aM H M (ix0 11) (by omega) ?_ | with_reducible refine aM H M (ix0 12) (by omega) ?_ | with_reducible refine aM H M (ix1 13 _) (by omega) ?_ | with_reducible refine aM H M (ix1 1161 _) (by omega) ?_ | with_reducible refine aM H M (ix2 269 4 _) (by omega) ?_ | with_reducible refine aM H M (ix4 269 4 _ 1) (by omega) ?_ | with_reducible refine aM H M (ix4 269 4 _ 2) (by omega) ?_ | with_reducible refine aM H M (ix4 269 4 _ 3) (by omega) ?_ | with_reducible refine fG H (by with_unfolding_all exact H.b) (by with_unfolding_all rfl) ?_ | with_reducible refine aG H (by with_unfolding_all exact H.b) (by with_unfolding_all rfl) (by decide) rfl (by omega) ?_))
      refine br_if (fun c2 => ?_) (fun c2 => ?_)
      · refine br_F (by decide) ?_
        rw [fsO_at hj hP (by simpa [heP] using c2)] at z
        exact z
      · refine kk ?_
        simp only [fsO, hP]
        rw [if_neg (by simpa [heP] using c2)]
    · dsimp only [w_X12_heapsOf_51, w_X12_heapsOf_42, w_X12_heapsOf_36, w_X12_heapsOf_30, w_X12_heapsOf_5, w_X12_heapsOf]
      rw [hP] at z
      exact br_end (a := 256) (br_F (by decide) z)
theorem m_isModern (H : G A S h0 X h) (M : MR X wd) (O : Ok wd N) {f m : Nat} (hf : f < 120) (e : caseM wd N f = some m) (k : Q (bI (mdn wd N f)) h) : w_X12_isModern (A 12) (nI f) h Q := by
  obtain ⟨e0, h8⟩ := O.g
  have hm := caseM_256 O e
  simp only [mdn, e] at k
  unfold w_X12_isModern
  (repeat (first | with_reducible refine m_mayBe H M O hf ?_ | with_reducible refine bd_i ?_ | with_reducible refine fP H (by with_unfolding_all exact H.b) (by with_unfolding_all rfl) (by with_unfolding_all rfl) ?_ | with_reducible refine vG H (by with_unfolding_all exact H.b) (by with_unfolding_all rfl) ?_ | with_reducible refine aM H M rfl (by omega) ?_ | with_reducible refine aM H M (ix0 0) (by omega) ?_ | with_reducible refine aM H M (ix0 1) (by omega) ?_ | with_reducible refine aM H M (ix0 2) (by omega) ?_ | with_reducible refine aM H M (ix0 3) (by omega) ?_ | with_reducible refine aM H M (ix0 4) (by omega) ?_ | with_reducible refine aM H M (ix0 5) (by omega) ?_ | with_reducible refine aM H M (ix0 6) (by omega) ?_ | with_reducible refine aM H M (ix0 7) (by omega) ?_ | with_reducible refine aM H M (ix0 8) (by omega) ?_ | with_reducible refine aM H M (ix0 9) (by omega) ?_ | with_reducible refine aM H M (ix0 10) (by omega) ?_ | with_reducible refine aM H M (ix0 11) (by omega) ?_ | with_reducible refine aM H M (ix0 12) (by omega) ?_ | with_reducible refine aM H M (ix1 13 _) (by omega) ?_ | with_reducible refine aM H M (ix1 1161 _) (by omega) ?_ | with_reducible refine aM H M (ix2 269 4 _) (by omega) ?_ | with_reducible refine aM H M (ix4 269 4 _ 1) (by omega) ?_ | with_reducible refine aM H M (ix4 269 4 _ 2) (by omega) ?_ | with_reducible refine aM H M (ix4 269 4 _ 3) (by omega) ?_ | with_reducible refine fG H (by with_unfolding_all exact H.b) (by with_unfolding_all rfl) ?_ | with_reducible refine aG H (by with_unfolding_all exact H.b) (by with_unfolding_all rfl) (by decide) rfl (by omega) ?_))
  rw [mb_M O e]
  have key : w_X12_isModern_15 (A 12) (nI m) (bI (decide (m ≠ 0))) h Q := by
    unfold w_X12_isModern_15
    refine lp_upE (N 0) (fun j => (bI (decide (m ≠ 0) && allB (fun g => !m.testBit g || decide (¬ wd (271 + 4 * g) ≤ wd 8)) j), nI j, h)) (by simp [allB]; rfl) (fun j kk1 hj kk => ?_) (fun kk1 => ?_)
    · rw [nI_succ] at kk
      simp only [allB] at kk
      dsimp only [w_X12_isModern_80, w_X12_isModern_73, w_X12_isModern_72, w_X12_isModern_68, w_X12_isModern_19, w_X12_isModern_15, w_X12_isModern]
      (repeat (first | with_reducible refine bd_i ?_ | with_reducible refine fP H (by with_unfolding_all exact H.b) (by with_unfolding_all rfl) (by with_unfolding_all rfl) ?_ | with_reducible refine vG H (by with_unfolding_all exact H.b) (by with_unfolding_all rfl) ?_ | with_reducible refine aM H M rfl (by omega) ?_ | with_reducible refine aM H M (ix0 0) (by omega) ?_ | with_reducible refine aM H M (ix0 1) (by omega) ?_ | with_reducible refine aM H M (ix0 2) (by omega) ?_ | with_reducible refine aM H M (ix0 3) (by omega) ?_ | with_reducible refine aM H M (ix0 4) (by omega) ?_ | with_reducible refine aM H M (ix0 5) (by omega) ?_ | with_reducible refine aM H M (ix0 6) (by omega) ?_ | with_reducible refine aM H M (ix0 7) (by omega) ?_ | with_reducible refine aM H M (ix0 8) (by omega) ?_ | with_reducible refine aM H M (ix0 9) (by omega) ?_ | with_reducible refine aM H M (ix0 10) (by omega) ?_ | with_reducible refine aM H M (ix0 11) (by omega) ?_ | with_reducible refine aM H M (ix0 12) (by omega) ?_ | with_reducible refine aM H M (ix1 13 _) (by omega) ?_ | with_reducible refine aM H M (ix1 1161 _) (by omega) ?_ | with_reducible refine aM H M (ix2 269 4 _) (by omega) ?_ | with_reducible refine aM H M (ix4 269 4 _ 1) (by omega) ?_ | with_reducible refine aM H M (ix4 269 4 _ 2) (by omega) ?_ | with_reducible refine aM H M (ix4 269 4 _ 3) (by omega) ?_ | with_reducible refine fG H (by with_unfolding_all exact H.b) (by with_unfolding_all rfl) ?_ | with_reducible refine aG H (by with_unfolding_all exact H.b) (by with_unfolding_all rfl) (by decide) rfl (by omega) ?_))
      rw [e0]
      refine br_go hj (by omega) ?_
      generalize hP : (decide (m ≠ 0) && allB (fun g => !m.testBit g || decide (¬ wd (271 + 4 * g) ≤ wd 8)) j) = P at *
      rw [← Bool.and_assoc, hP] at kk
      cases P
      · exact br_T rfl kk
      · refine br_F (by decide) ?_
        have hb : (nI m >>> (nI j &&& 31)) &&& 1 = 0 ↔ ¬ m.testBit j = true := by
          rw [← b_nI (show j < 32 by omega), ← b_at (by omega)]
          rcases and1 (nI m >>> (nI j &&& 31)) with z | z
          · rw [z]; decide
          · rw [z]; decide
        refine br_if (fun d => ?_) (fun d => ?_)
        · rw [hb] at d
          rw [bI_t (by simp_all)] at kk
          exact kk
        · rw [hb] at d
          (repeat (first | with_reducible refine bd_i ?_ | with_reducible refine fP H (by with_unfolding_all exact H.b) (by with_unfolding_all rfl) (by with_unfolding_all rfl) ?_ | with_reducible refine vG H (by with_unfolding_all exact H.b) (by with_unfolding_all rfl) ?_ | with_reducible refine aM H M rfl (by omega) ?_ | with_reducible refine aM H M (ix0 0) (by omega) ?_ | with_reducible refine aM H M (ix0 1) (by omega) ?_ | with_reducible refine aM H M (ix0 2) (by omega) ?_ | with_reducible refine aM H M (ix0 3) (by omega) ?_ | with_reducible refine aM H M (ix0 4) (by omega) ?_ | with_reducible refine aM H M (ix0 5) (by omega) ?_ | with_reducible refine aM H M (ix0 6) (by omega) ?_ | with_reducible refine aM H M (ix0 7) (by omega) ?_ | with_reducible refine aM H M (ix0 8) (by omega) ?_ | with_reducible refine aM H M (ix0 9) (by omega) ?_ | with_reducible refine aM H M (ix0 10) (by omega) ?_ | with_reducible refine aM H M (ix0 11) (by omega) ?_ | with_reducible refine aM H M (ix0 12) (by omega) ?_ | with_reducible refine aM H M (ix1 13 _) (by omega) ?_ | with_reducible refine aM H M (ix1 1161 _) (by omega) ?_ | with_reducible refine aM H M (ix2 269 4 _) (by omega) ?_ | with_reducible refine aM H M (ix4 269 4 _ 1) (by omega) ?_ | with_reducible refine aM H M (ix4 269 4 _ 2) (by omega) ?_ | with_reducible refine aM H M (ix4 269 4 _ 3) (by omega) ?_ | with_reducible refine fG H (by with_unfolding_all exact H.b) (by with_unfolding_all rfl) ?_ | with_reducible refine aG H (by with_unfolding_all exact H.b) (by with_unfolding_all rfl) (by decide) rfl (by omega) ?_))
          rw [show 269 + 4 * j + 2 = 271 + 4 * j by omega]
          refine br_if (fun c2 => ?_) (fun c2 => ?_)
          · rw [bI_f (by simp_all)] at kk
            exact kk
          · rw [bI_t (by simp_all)] at kk
            exact kk
    · dsimp only [w_X12_isModern_80, w_X12_isModern_73, w_X12_isModern_72, w_X12_isModern_68, w_X12_isModern_19, w_X12_isModern_15, w_X12_isModern]
      (repeat (first | with_reducible refine bd_i ?_ | with_reducible refine fP H (by with_unfolding_all exact H.b) (by with_unfolding_all rfl) (by with_unfolding_all rfl) ?_ | with_reducible refine vG H (by with_unfolding_all exact H.b) (by with_unfolding_all rfl) ?_ | with_reducible refine aM H M rfl (by omega) ?_ | with_reducible refine aM H M (ix0 0) (by omega) ?_ | with_reducible refine aM H M (ix0 1) (by omega) ?_ | with_reducible refine aM H M (ix0 2) (by omega) ?_ | with_reducible refine aM H M (ix0 3) (by omega) ?_ | with_reducible refine aM H M (ix0 4) (by omega) ?_ | with_reducible refine aM H M (ix0 5) (by omega) ?_ | with_reducible refine aM H M (ix0 6) (by omega) ?_ | with_reducible refine aM H M (ix0 7) (by omega) ?_ | with_reducible refine aM H M (ix0 8) (by omega) ?_ | with_reducible refine aM H M (ix0 9) (by omega) ?_ | with_reducible refine aM H M (ix0 10) (by omega) ?_ | with_reducible refine aM H M (ix0 11) (by omega) ?_ | with_reducible refine aM H M (ix0 12) (by omega) ?_ | with_reducible refine aM H M (ix1 13 _) (by omega) ?_ | with_reducible refine aM H M (ix1 1161 _) (by omega) ?_ | with_reducible refine aM H M (ix2 269 4 _) (by omega) ?_ | with_reducible refine aM H M (ix4 269 4 _ 1) (by omega) ?_ | with_reducible refine aM H M (ix4 269 4 _ 2) (by omega) ?_ | with_reducible refine aM H M (ix4 269 4 _ 3) (by omega) ?_ | with_reducible refine fG H (by with_unfolding_all exact H.b) (by with_unfolding_all rfl) ?_ | with_reducible refine aG H (by with_unfolding_all exact H.b) (by with_unfolding_all rfl) (by decide) rfl (by omega) ?_))
      rw [e0]
      exact br_end (zb k)
  refine br_Eq (b := 0) (by omega) (by decide) (fun c => ?_) (fun c => ?_)
  · rw [bI_f (by simp [c])] at key
    exact key
  · rw [bI_t (by simp [c])] at key
    exact key
end TALLY
