/-! ways: the class's tables -/
def en1 (o : Option Nat) : Int32 := match o with
  | none => -1
  | some t => nI t
def mn2 (o p : Option Nat) : Option Nat := match p with
  | none => o
  | some t => mnO o t
theorem erl_s {T : Nat → Nat → Option Nat} {s i : Nat} : erl T s (i + 1) = mn2 (erl T s i) (T s i) := by
  simp only [erl]
  unfold mn2
  cases T s i <;> rfl
def WA (X : Nat → Nat → Int32) (n : Nat) (fr ti : Nat → Nat) (on : Nat → Nat → Nat) : Prop := X 10 0 = nI n ∧ (∀ i, i < n → X 1102 i = nI (fr i) ∧ X 1103 i = nI (ti i)) ∧ ∀ i j, i < n → j < n → i ≠ j → X 1104 (8 * i + j) = nI (on i j)
def WB (n : Nat) (fr ti : Nat → Nat) (on : Nat → Nat → Nat) : Prop := n ≤ 8 ∧ (∀ i, i < n → fr i ≤ ti i ∧ ti i ≤ 239) ∧ ∀ i j, i < n → j < n → on i j ≤ 100
def TE (r : Nat) (en : Option Nat → Int32) (n : Nat) (T : Nat → Nat → Option Nat) (X : Nat → Nat → Int32) : Prop := ∀ s k, s < 2 ^ n → k < n → X r (8 * s + k) = en (T s k)
def TB (T : Nat → Nat → Option Nat) : Prop := ∀ s k t, T s k = some t → t ≤ 239 ∧ s.testBit k = true
theorem WA.off {X X' : Nat → Nat → Int32} {n : Nat} {fr ti : Nat → Nat} {on : Nat → Nat → Nat} (W : WA X n fr ti on) (h0 : X' 10 0 = X 10 0) (h2 : X' 1102 = X 1102) (h3 : X' 1103 = X 1103) (h4 : X' 1104 = X 1104) : WA X' n fr ti on := by
  refine ⟨h0.trans W.1, fun i hi => ?_, fun i j hi hj hn => ?_⟩
  · rw [h2, h3]
    exact W.2.1 i hi
  · rw [h4]
    exact W.2.2 i j hi hj hn
theorem TB.up {T : Nat → Nat → Option Nat} (B : TB T) {s i t : Nat} (ht : t ≤ 239) (hb : s.testBit i = true) : TB (up2 T s i (mnO (T s i) t)) := by
  intro a b u h
  unfold up2 at h
  by_cases c : a = s ∧ b = i
  · rw [if_pos c] at h
    obtain ⟨rfl, rfl⟩ := c
    have := mnO_le h
    exact ⟨by omega, hb⟩
  · rw [if_neg c] at h
    exact B a b u h
theorem or_self_bit {s i : Nat} : (s ||| 2 ^ i).testBit i = true := by rw [ob]; simp
theorem TB.rlxI {T : Nat → Nat → Option Nat} {fr ti : Nat → Nat} {on : Nat → Nat → Nat} {n s k t : Nat} (B : TB T) (hti : ∀ i, i < n → ti i ≤ 239) : ∀ i, i ≤ n → TB (rlx fr ti on T s k t i) := by
  intro i
  induction i with
  | zero => exact fun _ => B
  | succ i ih =>
    intro hi
    simp only [rlx]
    split
    · rename_i c
      exact (ih (by omega)).up (Nat.le_trans c.2 (hti i (by omega))) or_self_bit
    · exact ih (by omega)
theorem TB.stKI {T : Nat → Nat → Option Nat} {fr ti : Nat → Nat} {on : Nat → Nat → Nat} {n s : Nat} (B : TB T) (hti : ∀ i, i < n → ti i ≤ 239) : ∀ k, TB (stK fr ti on n T s k) := by
  intro k
  induction k with
  | zero => exact B
  | succ k ih =>
    simp only [stK]
    cases e : stK fr ti on n T s k s k with
    | none => exact ih
    | some t => exact ih.rlxI hti n (Nat.le_refl _)
theorem TB.stSI {T : Nat → Nat → Option Nat} {fr ti : Nat → Nat} {on : Nat → Nat → Nat} {n : Nat} (B : TB T) (hti : ∀ i, i < n → ti i ≤ 239) : ∀ s, TB (stS fr ti on n T s) := by
  intro s
  induction s with
  | zero => exact B
  | succ s ih =>
    simp only [stS]
    exact ih.stKI hti n
theorem ixw (s k : Nat) : nI s * 8 + nI k = nI (8 * s + k) := by
  rw [show (8 : Int32) = nI 8 from rfl, pk_mul, nI_add, Nat.mul_comm]
theorem ixv (s k : Nat) : (8 : Int32) * nI s + nI k = nI (8 * s + k) := by
  rw [show (8 : Int32) = nI 8 from rfl, pk_mul, nI_add]
theorem b_at0N {s i : Nat} (hi : i < 32) : (nI s >>> (nI i &&& 31)) &&& 1 = 0 ↔ s.testBit i = false := by
  rw [b_at0 hi, b_nI hi, Bool.not_eq_true]
theorem TE.up {r : Nat} {en : Option Nat → Int32} {n : Nat} {T : Nat → Nat → Option Nat} {X : Nat → Nat → Int32} (E : TE r en n T X) {s i : Nat} (hi : i < n) (hn : n ≤ 8) (o : Option Nat) : TE r en n (up2 T s i o) (up X r (8 * s + i) (en o)) := by
  intro a b ha hb
  unfold up2
  by_cases c : a = s ∧ b = i
  · obtain ⟨rfl, rfl⟩ := c
    rw [if_pos ⟨rfl, rfl⟩, up_same]
  · rw [if_neg c, up_n _ _ _ (by omega)]
    exact E a b ha hb
theorem en1_m {o : Option Nat} (h : ∀ t, o = some t → t ≤ 239) : en1 o = -1 ↔ o = none := by
  cases o with
  | none => exact ⟨fun _ => rfl, fun _ => rfl⟩
  | some t =>
    have := h t rfl
    refine ⟨fun e => ?_, fun e => by cases e⟩
    have e2 : (nI t).toInt = (-1 : Int32).toInt := congrArg Int32.toInt e
    rw [nI_toInt (by omega)] at e2
    have e3 : ((-1 : Int32)).toInt = -1 := rfl
    omega
theorem p2_8 {n : Nat} (h : n ≤ 8) : 2 ^ n ≤ 256 := Nat.pow_le_pow_right (n := 2) (by decide) h
section WAYC
variable {A : Nat → Nat} {S : Nat → Prop} {h0 h : AH} {X : Nat → Nat → Int32} {wd : Nat → Int32} {N : Nat → Nat} {Q : Int32 → AH → Prop} {Qv : AH → Prop} {a3 : Nat} {n : Nat} {fr ti : Nat → Nat} {on : Nat → Nat → Nat}
theorem c_sooner {o : Option Nat} {t : Nat} (ho : ∀ t, o = some t → t ≤ 239) (ht : t ≤ 10000) (k : Q (en1 (mnO o t)) h) : w_X10_sooner (en1 o) (nI t) h Q := by
  dsimp only [w_X10_sooner, w_X10_sooner_10]
  cases o with
  | none =>
    refine br_T rfl ?_
    have : jmax (en1 none) (nI t) = nI t := by
      unfold jmax
      rw [if_pos]
      show (-1 : Int32) < nI t
      rw [Int32.lt_iff_toInt_lt, nI_toInt (by omega)]
      show (-1 : Int) < _
      omega
    rw [this]
    exact k
  | some u =>
    have hu := ho u rfl
    refine br_F (fun e => ?_) (br_F (fun e => ?_) ?_)
    · exact absurd ((en1_m ho).mp e) (fun z => by cases z)
    · have e2 : (nI t).toInt = (-1 : Int32).toInt := congrArg Int32.toInt e
      rw [nI_toInt (by omega)] at e2
      have e3 : ((-1 : Int32)).toInt = -1 := rfl
      omega
    · have : jmin (en1 (some u)) (nI t) = nI (min u t) := j_min (by omega) (by omega)
      rw [this]
      exact k
theorem c_sooner2 {o : Option Nat} {p : Option Nat} (ho : ∀ t, o = some t → t ≤ 239) (hp : ∀ t, p = some t → t ≤ 239) (k : Q (en1 (mn2 o p)) h) : w_X10_sooner (en1 o) (en1 p) h Q := by
  cases p with
  | some t => exact c_sooner ho (by have := hp t rfl; omega) k
  | none =>
    dsimp only [w_X10_sooner, w_X10_sooner_10]
    have : jmax (en1 o) (en1 none) = en1 o := by
      unfold jmax
      rw [if_neg]
      show ¬ en1 o < (-1 : Int32)
      cases o with
      | none => show ¬ ((-1 : Int32) < -1); decide
      | some u =>
        have := ho u rfl
        show ¬ nI u < (-1 : Int32)
        rw [Int32.lt_iff_toInt_lt, nI_toInt (by omega)]
        show ¬ (_ < (-1 : Int))
        omega
    rw [this]
    exact br_if (fun _ => k) (fun _ => br_T rfl k)
theorem c_goFrom (H : G A S h0 X h) (hS : S 1) (W : WA X n fr ti on) (B : WB n fr ti on) {T : Nat → Nat → Option Nat} {s k t : Nat} (hs : s < 2 ^ n) (hk : k < n) (hT : T s k = some t) (TBT : TB T) (E : TE 1105 en1 n T X) (kk : ∀ X' h', G A S h0 X' h' → Off [1105] X X' → TE 1105 en1 n (rlx fr ti on T s k t n) X' → Qv h') : w_X10_goFrom (A 10) (nI s) (nI k) h Qv := by
  have hp8 := p2_8 B.1
  have hb := TBT s k t hT
  have hn8 := B.1
  dsimp only [w_X10_goFrom, w_X10_goFrom_110]
  refine fP (o := 10) H hS rfl rfl ?_
  refine aG (id := 1105) H hS rfl (by decide) (ixw s k) (by omega) ?_
  rw [E s k hs hk, hT]
  refine lp_inv n (fun j (x : Int32 × AH) => x.1 = nI j ∧ ∃ X', G A S h0 X' x.2 ∧ Off [1105] X X' ∧ TE 1105 en1 n (rlx fr ti on T s k t j) X') (fun j x kk1 hj hI kn => ?_) (fun x kk1 hI => ?_) (Nat.zero_le _) ⟨rfl, X, H, Off.rf _ _, E⟩
  · obtain ⟨v, h1⟩ := x
    obtain ⟨e1, X1, H1, o1, E1⟩ := hI
    dsimp only at e1 H1 ⊢
    subst e1
    have W1 : WA X1 n fr ti on := W.off (by rw [o1 10 (by decide)]) (o1 1102 (by decide)) (o1 1103 (by decide)) (o1 1104 (by decide))
    dsimp only [w_X10_goFrom_15, w_X10_goFrom_104, en1]
    refine fG (o := 10) H1 hS rfl ?_
    rw [W1.1]
    refine br_go hj (by omega) ?_
    refine fP (o := 10) H1 hS rfl rfl ?_
    refine aG (id := 1102) H1 hS rfl (by decide) rfl (by omega) ?_
    refine fP (o := 10) H1 hS rfl rfl ?_
    refine aG (id := 1104) H1 hS rfl (by decide) (ixw k j) (by omega) ?_
    have skip : ¬ (s.testBit j = false ∧ arv fr on t k j ≤ ti j) → kk1 (nI j + 1, h1) := fun z => kn _ ⟨(nI_succ j).symm, X1, H1, o1, by simp only [rlx]; rw [if_neg z]; exact E1⟩
    refine bd_i (br_if (fun c => ?_) (fun c => ?_))
    · rw [b_at0N (by omega)] at c
      have hkj : k ≠ j := by
        rintro rfl
        rw [hb.2] at c
        cases c
      rw [(W1.2.1 j hj).1, W1.2.2 k j hk hj hkj]
      have b1 := B.2.1 j hj
      have b2 := B.2.2 k j hk hj
      have e2 : jmax (nI (fr j)) (nI t + nI (on k j)) = nI (arv fr on t k j) := by
        rw [nI_add, j_max (by omega) (by omega)]
        rfl
      rw [e2]
      refine fP (o := 10) H1 hS rfl rfl ?_
      refine aG (id := 1103) H1 hS rfl (by decide) rfl (by omega) ?_
      rw [(W1.2.1 j hj).2]
      have ha : arv fr on t k j < 2 ^ 31 := by unfold arv; omega
      refine br_Lt (by omega) ha (fun d => skip (fun z => by omega)) (fun d => ?_)
      have hor : s ||| 2 ^ j < 2 ^ n := Nat.or_lt_two_pow hs (Nat.pow_lt_pow_right (by omega) hj)
      rw [sh1 (by omega), nI_or]
      refine bd_i ?_
      refine fP (o := 10) H1 hS rfl rfl ?_
      refine fP (o := 10) H1 hS rfl rfl ?_
      refine aG (id := 1105) H1 hS rfl (by decide) (ixw _ _) (by omega) ?_
      rw [E1 _ _ hor hj]
      have TB1 := TBT.rlxI (fr := fr) (on := on) (s := s) (k := k) (t := t) (fun i hi => (B.2.1 i hi).2) j (Nat.le_of_lt hj)
      refine c_sooner (fun u hu => (TB1 _ _ u hu).1) (by omega) ?_
      refine tG (id := 1105) H1 hS rfl (by decide) (ixw _ _) (by omega) (fun h2 H2 => ?_)
      refine kn _ ⟨(nI_succ j).symm, _, H2, o1.up (by decide) _ _, ?_⟩
      simp only [rlx]
      rw [if_pos ⟨c, d⟩]
      exact E1.up hj hn8 _
    · rw [b_at0N (by omega)] at c
      exact skip (fun z => c z.1)
  · obtain ⟨v, h1⟩ := x
    obtain ⟨e1, X1, H1, o1, E1⟩ := hI
    dsimp only at e1 H1 ⊢
    subst e1
    dsimp only [w_X10_goFrom_15]
    refine fG (o := 10) H1 hS rfl ?_
    rw [o1 10 (by decide), W.1]
    exact br_end (kk _ _ H1 o1 E1)
end WAYC
