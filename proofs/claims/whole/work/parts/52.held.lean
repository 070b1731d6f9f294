/-! rows that held -/
def mSL : List Nat := [1311, 1314, 1318, 1319, 1321, 1322, 1323, 1325, 1327]
def mSF : List Nat := [15, 16, 17, 20, 24, 26]
def mS (id n : Nat) : Bool := mSL.contains id || (id == 12 && mSF.contains n)
/-- the reference wrote only what it writes anew each time -/
def OM (X X' : Nat → Nat → Int32) : Prop := ∀ id n, mS id n = false → X' id n = X id n
theorem OM.rf (X : Nat → Nat → Int32) : OM X X := fun _ _ _ => rfl
theorem OM.tr {X X' X'' : Nat → Nat → Int32} (a : OM X X') (b : OM X' X'') : OM X X'' := fun id n h => (b id n h).trans (a id n h)
theorem OM.up {X X' : Nat → Nat → Int32} (a : OM X X') {id n : Nat} (hi : mS id n = true) (v : Int32) : OM X (up X' id n v) := fun j m hj => by
  by_cases e : j = id
  · subst e
    have : m ≠ n := fun z => by rw [z, hi] at hj; exact Bool.noConfusion hj
    rw [up_n _ _ _ this]
    exact a j m hj
  · rw [up_row _ _ _ e]
    exact a j m hj
theorem mS_row {id n : Nat} (h : mSL.contains id = true) : mS id n = true := by
  unfold mS
  rw [h]
  rfl
theorem OM.MR {X X' : Nat → Nat → Int32} {wd : Nat → Int32} (a : OM X X') (M : MR X wd) : MR X' wd := fun w hw => by rw [a 1301 w (by unfold mS; rfl)]; exact M w hw
def colP (wd : Nat → Int32) (N : Nat → Nat) (side : Int32) (r f : Nat) : Option Nat := match sureG wd N f with
  | none => none
  | some g => if wd (269 + 4 * g) = side ∧ nt (wd (350 + 6 * f)) / 16 = r then some (nt (wd (350 + 6 * f)) % 16) else none
def hxB (wd : Nat → Int32) (N : Nat → Nat) (side : Int32) (r x : Nat) : Bool := anyB (fun f => decide (colP wd N side r f = some x)) (N 3)
def clL (p : Nat → Bool) : Nat → List Nat
  | 0 => []
  | x + 1 => if p x then clL p x ++ [x] else clL p x
theorem clL_len {p : Nat → Bool} : ∀ {n : Nat}, (clL p n).length ≤ n := by
  intro n
  induction n with
  | zero => simp [clL]
  | succ n ih =>
    simp only [clL]
    split
    · rw [List.length_append, List.length_singleton]; omega
    · omega
theorem clL_lt {p : Nat → Bool} : ∀ {n i : Nat}, i < (clL p n).length → (clL p n).getD i 0 < n := by
  intro n
  induction n with
  | zero => intro i h; simp [clL] at h
  | succ n ih =>
    intro i h
    simp only [clL] at h ⊢
    split
    · rename_i c
      rw [if_pos c, List.length_append, List.length_singleton] at h
      by_cases e : i = (clL p n).length
      · subst e
        simp
      · have := ih (i := i) (by omega)
        rw [List.getD_eq_getElem?_getD, List.getElem?_append_left (by omega), ← List.getD_eq_getElem?_getD]
        omega
    · rename_i c
      rw [if_neg c] at h
      have := ih h
      omega
theorem clL_up {p : Nat → Bool} : ∀ {n i : Nat}, i + 1 < (clL p n).length → (clL p n).getD i 0 < (clL p n).getD (i + 1) 0 := by
  intro n
  induction n with
  | zero => intro i h; simp [clL] at h
  | succ n ih =>
    intro i h
    simp only [clL] at h ⊢
    split
    · rename_i c
      rw [if_pos c, List.length_append, List.length_singleton] at h
      have h1 := clL_lt (p := p) (n := n) (i := i) (by omega)
      rw [List.getD_eq_getElem?_getD, List.getElem?_append_left (by omega), ← List.getD_eq_getElem?_getD]
      by_cases e : i + 1 = (clL p n).length
      · rw [e]
        simpa using h1
      · have e2 : (clL p n ++ [n]).getD (i + 1) 0 = (clL p n).getD (i + 1) 0 := by
          simp [List.getD_eq_getElem?_getD, List.getElem?_append_left (show i + 1 < (clL p n).length by omega)]
        rw [e2]
        exact ih (by omega)
    · rename_i c
      rw [if_neg c] at h
      exact ih h
def sp (l : List Nat) (i : Nat) : Nat := l.getD (i + 1) 0 - l.getD i 0
def loS (l : List Nat) (a : Nat) : Nat → Nat
  | 0 => 16
  | j + 1 => min (loS l a j) (sp l (a + j))
def hiS (l : List Nat) (a : Nat) : Nat → Nat
  | 0 => 0
  | j + 1 => max (hiS l a j) (sp l (a + j))
def gdB (l : List Nat) (o a j : Nat) : Bool := decide (hiS l a (j + 1) ≤ loS l a (j + 1) + o)
def pfN (l : List Nat) (o a : Nat) : Nat → Nat
  | 0 => 0
  | j + 1 => if gdB l o a j then j + 1 else pfN l o a j
theorem gd_mono {l : List Nat} {o a j : Nat} (h : gdB l o a (j + 1) = true) : gdB l o a j = true := by
  unfold gdB at *
  rw [decide_eq_true_eq] at *
  simp only [hiS, loS] at h ⊢
  omega
theorem gd_all {l : List Nat} {o a : Nat} : ∀ {j i : Nat}, i ≤ j → gdB l o a j = true → gdB l o a i = true := by
  intro j
  induction j with
  | zero =>
    intro i hi h
    have : i = 0 := by omega
    subst this
    exact h
  | succ j ih =>
    intro i hi h
    by_cases e : i = j + 1
    · subst e; exact h
    · exact ih (by omega) (gd_mono h)
theorem pf_le {l : List Nat} {o a : Nat} : ∀ {j : Nat}, pfN l o a j ≤ j := by
  intro j
  induction j with
  | zero => exact Nat.le_refl _
  | succ j ih =>
    simp only [pfN]
    split
    · omega
    · omega
theorem pf_bad {l : List Nat} {o a j : Nat} (h : gdB l o a j = false) (hg : ∀ i, i < j → gdB l o a i = true) : ∀ d, pfN l o a (j + d) = j := by
  intro d
  induction d with
  | zero =>
    cases j with
    | zero => rfl
    | succ j => simp only [Nat.add_zero, pfN]; rw [if_pos (hg j (by omega))]
  | succ d ih =>
    rw [← Nat.add_assoc]
    simp only [pfN]
    rw [if_neg, ih]
    intro z
    have := gd_all (i := j) (by omega) z
    rw [h] at this
    exact Bool.noConfusion this
theorem pf_good {l : List Nat} {o a j : Nat} (hg : ∀ i, i < j → gdB l o a i = true) : pfN l o a j = j := by
  cases j with
  | zero => rfl
  | succ j => simp only [pfN]; rw [if_pos (hg j (by omega))]
def lgH (l : List Nat) (o : Nat) : Nat → Nat
  | 0 => 0
  | a + 1 => max (lgH l o a) (pfN l o a (l.length - 1 - a))
theorem lgH_le {l : List Nat} {o : Nat} : ∀ {n : Nat}, lgH l o n ≤ l.length := by
  intro n
  induction n with
  | zero => exact Nat.zero_le _
  | succ n ih =>
    simp only [lgH]
    have := pf_le (l := l) (o := o) (a := n) (j := l.length - 1 - n)
    omega
def bkB (l : List Nat) (o i : Nat) : Bool := decide (¬ sp l (i + 1) ≤ sp l i + o)
theorem j_max {a b : Nat} (ha : a < 2 ^ 31) (hb : b < 2 ^ 31) : jmax (nI a) (nI b) = nI (max a b) := by
  unfold jmax
  by_cases e : a < b
  · rw [if_pos (nI_lt e hb), Nat.max_eq_right (by omega)]
  · rw [if_neg (nI_nlt (by omega) ha), Nat.max_eq_left (by omega)]
theorem j_min {a b : Nat} (ha : a < 2 ^ 31) (hb : b < 2 ^ 31) : jmin (nI a) (nI b) = nI (min a b) := by
  unfold jmin
  by_cases e : b < a
  · rw [if_pos (nI_lt e ha), Nat.min_eq_right (by omega)]
  · rw [if_neg (nI_nlt (by omega) hb), Nat.min_eq_left (by omega)]
theorem sub_le {a b c : Nat} (ha : a < 2 ^ 30) (hb : b < 2 ^ 30) (hc : c < 2 ^ 30) : nI a - nI b ≤ nI c ↔ a ≤ b + c := by
  rw [Int32.le_iff_toInt_le, pk_sub_toInt ha hb, nI_toInt (by omega)]
  omega
section HELD
variable {A : Nat → Nat} {S : Nat → Prop} {h0 h : AH} {X : Nat → Nat → Int32} {wd : Nat → Int32} {N : Nat → Nat} {Q : Int32 → AH → Prop} {Qv : AH → Prop}
theorem c_gatherColumns (H : G A S h0 X h) (R : CR X wd) (O : Ok wd N) (C : CG X wd N) {side : Int32} {r : Nat} (hr : r < 16) (k : ∀ X' h', G A S h0 X' h' → Off [903] X X' → RoL X' 903 (clL (hxB wd N side r) 16) → Q (nI (clL (hxB wd N side r) 16).length) h') : w_X8_gatherColumns (A 8) side (nI r) h Q := by
  obtain ⟨e3, h3⟩ := O.f
  have h8 := O.g.2
  unfold w_X8_gatherColumns
  (repeat (first | with_reducible refine c_ofSide H R O ?_ | with_reducible refine bd_i ?_ | with_reducible refine fP H (by with_unfolding_all first | exact H.b | exact hS) (by with_unfolding_all rfl) (by with_unfolding_all rfl) ?_ | with_reducible refine vG H (by with_unfolding_all first | exact H.b | exact hS) (by with_unfolding_all rfl) ?_ | with_reducible refine fC_ H R (by with_unfolding_all exact H.b) (by with_unfolding_all rfl) (by with_unfolding_all rfl) ?_ | with_reducible refine aC H R (by with_unfolding_all exact H.b) (by with_unfolding_all rfl) (by decide) (by with_unfolding_all rfl) rfl (by omega) ?_ | with_reducible refine fG H (by with_unfolding_all first | exact H.b | exact hS) (by with_unfolding_all rfl) ?_ | with_reducible refine aG H (by with_unfolding_all first | exact H.b | exact hS) (by with_unfolding_all rfl) (by decide) rfl (by omega) ?_))
  rw [bts_N (by omega)]
  refine lp_inv (N 3) (fun j (s : Int32 × Int32 × AH) => s.2.1 = nI j ∧ s.2.2 = h ∧ ∀ x, x < 32 → bt s.1 x = anyB (fun f => decide (colP wd N side r f = some x)) j) (fun j s kk1 hj hI kk => ?_) (fun s kk1 hI => ?_) (Nat.zero_le _) ⟨rfl, rfl, fun x _ => b_0 x⟩
  · obtain ⟨v, w, h1⟩ := s
    obtain ⟨e1, e2, c1⟩ := hI
    dsimp only at e1 e2 c1 ⊢
    subst e1 e2
    obtain ⟨ec, hc⟩ := (O.F hj).2.1
    have kn : colP wd N side r j = none → kk1 (v, nI j + 1, h1) := by
      intro e
      refine kk _ ⟨(nI_succ j).symm, rfl, fun x hx => ?_⟩
      simp only [anyB, e]
      simpa using c1 x hx
    have ks : ∀ x, x < 16 → colP wd N side r j = some x → kk1 (v ||| (1 <<< (nI x &&& 31)), nI j + 1, h1) := by
      intro x hx e
      refine kk _ ⟨(nI_succ j).symm, rfl, fun y hy => ?_⟩
      dsimp only
      rw [b_or, c1 y hy, b_sh1 (by omega) hy]
      simp only [anyB, e, Option.some.injEq, eq_comm]
    unfold w_X8_gatherColumns_18
    dsimp only
    (repeat (first | with_reducible refine bd_i ?_ | with_reducible refine fP H (by with_unfolding_all first | exact H.b | exact hS) (by with_unfolding_all rfl) (by with_unfolding_all rfl) ?_ | with_reducible refine vG H (by with_unfolding_all first | exact H.b | exact hS) (by with_unfolding_all rfl) ?_ | with_reducible refine fC_ H R (by with_unfolding_all exact H.b) (by with_unfolding_all rfl) (by with_unfolding_all rfl) ?_ | with_reducible refine aC H R (by with_unfolding_all exact H.b) (by with_unfolding_all rfl) (by decide) (by with_unfolding_all rfl) rfl (by omega) ?_ | with_reducible refine fG H (by with_unfolding_all first | exact H.b | exact hS) (by with_unfolding_all rfl) ?_ | with_reducible refine aG H (by with_unfolding_all first | exact H.b | exact hS) (by with_unfolding_all rfl) (by decide) rfl (by omega) ?_))
    rw [e3]
    refine br_go hj (by omega) ?_
    dsimp only [w_X8_gatherColumns_90, w_X3_row, w_X3_column]
    (repeat (first | with_reducible refine bd_i ?_ | with_reducible refine fP H (by with_unfolding_all first | exact H.b | exact hS) (by with_unfolding_all rfl) (by with_unfolding_all rfl) ?_ | with_reducible refine vG H (by with_unfolding_all first | exact H.b | exact hS) (by with_unfolding_all rfl) ?_ | with_reducible refine fC_ H R (by with_unfolding_all exact H.b) (by with_unfolding_all rfl) (by with_unfolding_all rfl) ?_ | with_reducible refine aC H R (by with_unfolding_all exact H.b) (by with_unfolding_all rfl) (by decide) (by with_unfolding_all rfl) rfl (by omega) ?_ | with_reducible refine fG H (by with_unfolding_all first | exact H.b | exact hS) (by with_unfolding_all rfl) ?_ | with_reducible refine aG H (by with_unfolding_all first | exact H.b | exact hS) (by with_unfolding_all rfl) (by decide) rfl (by omega) ?_))
    rw [ec, row_of hc, col_of hc]
    refine br_Eq (by omega) (by omega) (fun d1 => ?_) (fun d1 => ?_)
    · (repeat (first | with_reducible refine c_isSure H O C hj ?_ | with_reducible refine bd_i ?_ | with_reducible refine fP H (by with_unfolding_all first | exact H.b | exact hS) (by with_unfolding_all rfl) (by with_unfolding_all rfl) ?_ | with_reducible refine vG H (by with_unfolding_all first | exact H.b | exact hS) (by with_unfolding_all rfl) ?_ | with_reducible refine fC_ H R (by with_unfolding_all exact H.b) (by with_unfolding_all rfl) (by with_unfolding_all rfl) ?_ | with_reducible refine aC H R (by with_unfolding_all exact H.b) (by with_unfolding_all rfl) (by decide) (by with_unfolding_all rfl) rfl (by omega) ?_ | with_reducible refine fG H (by with_unfolding_all first | exact H.b | exact hS) (by with_unfolding_all rfl) ?_ | with_reducible refine aG H (by with_unfolding_all first | exact H.b | exact hS) (by with_unfolding_all rfl) (by decide) rfl (by omega) ?_))
      cases e : sureG wd N j with
      | none => exact br_T rfl (kn (by simp [colP, e]))
      | some g =>
        obtain ⟨hg, eg⟩ := (sureG_iff O).mp e
        refine br_F (show ¬ bI true = 0 by decide) ?_
        (repeat (first | with_reducible refine bd_i ?_ | with_reducible refine fP H (by with_unfolding_all first | exact H.b | exact hS) (by with_unfolding_all rfl) (by with_unfolding_all rfl) ?_ | with_reducible refine vG H (by with_unfolding_all first | exact H.b | exact hS) (by with_unfolding_all rfl) ?_ | with_reducible refine fC_ H R (by with_unfolding_all exact H.b) (by with_unfolding_all rfl) (by with_unfolding_all rfl) ?_ | with_reducible refine aC H R (by with_unfolding_all exact H.b) (by with_unfolding_all rfl) (by decide) (by with_unfolding_all rfl) rfl (by omega) ?_ | with_reducible refine fG H (by with_unfolding_all first | exact H.b | exact hS) (by with_unfolding_all rfl) ?_ | with_reducible refine aG H (by with_unfolding_all first | exact H.b | exact hS) (by with_unfolding_all rfl) (by decide) rfl (by omega) ?_))
        rw [C j hj, eg]
        dsimp only [oI]
        rw [nI_and]
        have hb : (2 ^ g &&& btN (fun g => decide (wd (269 + 4 * g) = side)) (N 0)) = 0 ↔ ¬ wd (269 + 4 * g) = side := by
          constructor
          · intro z y
            have : (2 ^ g &&& btN (fun g => decide (wd (269 + 4 * g) = side)) (N 0)).testBit g = true := by
              rw [Nat.testBit_and, Nat.testBit_two_pow_self, btN_bit]
              simp [hg, y]
            rw [z, Nat.zero_testBit] at this
            exact Bool.noConfusion this
          · intro y
            apply Nat.eq_of_testBit_eq
            intro i
            rw [Nat.testBit_and, btN_bit, Nat.zero_testBit, Nat.testBit_two_pow]
            by_cases z : g = i
            · subst z
              simp [y]
            · simp [z]
        have hl : (2 ^ g &&& btN (fun g => decide (wd (269 + 4 * g) = side)) (N 0)) < 2 ^ 8 := by
          refine Nat.lt_of_le_of_lt Nat.and_le_left ?_
          exact Nat.pow_lt_pow_right (by omega) (by omega)
        refine br_Eq (b := 0) (by omega) (by decide) (fun d2 => ?_) (fun d2 => ?_)
        · rw [hb] at d2
          exact kn (by simp [colP, e, d2])
        · rw [hb] at d2
          refine bd_i ?_
          refine ks _ (by omega) ?_
          simp only [colP, e]
          rw [if_pos ⟨Decidable.byContradiction d2, d1⟩]
    · refine kn ?_
      unfold colP
      cases e : sureG wd N j with
      | none => rfl
      | some g =>
        dsimp only
        rw [if_neg (fun z => d1 z.2)]
  · obtain ⟨v, w, h1⟩ := s
    obtain ⟨e1, e2, c1⟩ := hI
    dsimp only at e1 e2 c1 ⊢
    subst e1 e2
    unfold w_X8_gatherColumns_18
    dsimp only
    (repeat (first | with_reducible refine bd_i ?_ | with_reducible refine fP H (by with_unfolding_all first | exact H.b | exact hS) (by with_unfolding_all rfl) (by with_unfolding_all rfl) ?_ | with_reducible refine vG H (by with_unfolding_all first | exact H.b | exact hS) (by with_unfolding_all rfl) ?_ | with_reducible refine fC_ H R (by with_unfolding_all exact H.b) (by with_unfolding_all rfl) (by with_unfolding_all rfl) ?_ | with_reducible refine aC H R (by with_unfolding_all exact H.b) (by with_unfolding_all rfl) (by decide) (by with_unfolding_all rfl) rfl (by omega) ?_ | with_reducible refine fG H (by with_unfolding_all first | exact H.b | exact hS) (by with_unfolding_all rfl) ?_ | with_reducible refine aG H (by with_unfolding_all first | exact H.b | exact hS) (by with_unfolding_all rfl) (by decide) rfl (by omega) ?_))
    rw [e3]
    refine br_end ?_
    unfold w_X8_gatherColumns_96
    have hv : ∀ x, x < 16 → ((v >>> (nI x &&& 31)) &&& 1 = 1 ↔ hxB wd N side r x = true) := by
      intro x hx
      rw [b_at (by omega), c1 x (by omega)]
      rfl
    refine lp_inv 16 (fun j (s : Int32 × Int32 × AH) => s.1 = nI (clL (hxB wd N side r) j).length ∧ s.2.1 = nI j ∧ ∃ X', G A S h0 X' s.2.2 ∧ Off [903] X X' ∧ RoL X' 903 (clL (hxB wd N side r) j)) (fun j s kk1 hj hI kk => ?_) (fun s kk1 hI => ?_) (Nat.zero_le _) ⟨rfl, rfl, X, H, Off.rf _ _, RoL.nil⟩
    · obtain ⟨v2, w, h2⟩ := s
      obtain ⟨e1, e2, X1, H1, o1, L1⟩ := hI
      dsimp only at e1 e2 H1 ⊢
      subst e1 e2
      have hl := clL_len (p := hxB wd N side r) (n := j)
      dsimp only [w_X8_gatherColumns_102, w_X8_gatherColumns_132]
      refine br_go (a := 16) hj (by omega) ?_
      refine br_if (fun d => ?_) (fun d => ?_)
      · rw [hv j hj] at d
        refine fP (o := 8) H1 H1.b rfl rfl ?_
        refine tG (id := 903) H1 H1.b rfl (by decide) rfl (by omega) (fun h' H' => ?_)
        refine kk _ ⟨?_, (nI_succ j).symm, _, H', o1.up (by decide) _ _, ?_⟩
        · simp only [clL, if_pos d, List.length_append, List.length_singleton]
          rw [nI_succ]
        · simp only [clL, if_pos d]
          exact L1.add j
      · rw [hv j hj] at d
        refine kk _ ⟨?_, (nI_succ j).symm, X1, H1, o1, ?_⟩
        · simp only [clL, if_neg d]
        · simp only [clL, if_neg d]
          exact L1
    · obtain ⟨v2, w, h2⟩ := s
      obtain ⟨e1, e2, X1, H1, o1, L1⟩ := hI
      dsimp only at e1 e2 H1 ⊢
      subst e1 e2
      dsimp only [w_X8_gatherColumns_102, w_X8_gatherColumns_138]
      exact br_end (a := 16) (k X1 h2 H1 o1 L1)
end HELD
