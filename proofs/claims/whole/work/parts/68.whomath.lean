/-! who: people for bones, as mathematics -/
def cl (s p : Nat) : Nat := s ^^^ (s &&& 2 ^ p)
theorem cl_bit {s p i : Nat} : (cl s p).testBit i = (s.testBit i && decide (i ≠ p)) := by
  unfold cl
  rw [Nat.testBit_xor, Nat.testBit_and, Nat.testBit_two_pow]
  by_cases e : i = p
  · subst e
    simp
  · have : ¬ p = i := fun z => e z.symm
    simp [e, this]
theorem cl_cm {s p q : Nat} : cl (cl s p) q = cl (cl s q) p := by
  apply Nat.eq_of_testBit_eq
  intro i
  rw [cl_bit, cl_bit, cl_bit, cl_bit]
  cases s.testBit i <;> cases decide (i ≠ p) <;> cases decide (i ≠ q) <;> rfl
/-- a set of people who all bones of a list (the last first) can be together -/
def Rr : List Nat → Nat → Prop
  | [], s => s = 0
  | m :: l, s => ∃ p, p < 8 ∧ s.testBit p = true ∧ m.testBit p = true ∧ Rr l (cl s p)
theorem Rr_swap {x y : Nat} {l : List Nat} {s : Nat} (h : Rr (y :: x :: l) s) : Rr (x :: y :: l) s := by
  obtain ⟨p, h1, h2, h3, q, h4, h5, h6, h7⟩ := h
  rw [cl_bit, Bool.and_eq_true, decide_eq_true_eq] at h5
  refine ⟨q, h4, h5.1, h6, p, h1, ?_, h3, ?_⟩
  · rw [cl_bit, h2, Bool.true_and, decide_eq_true_eq]
    exact fun z => h5.2 z.symm
  · rw [cl_cm]
    exact h7
theorem Rr_lt : ∀ {l : List Nat} {s : Nat}, Rr l s → s < 256 := by
  intro l
  induction l with
  | nil =>
    intro s h
    have : s = 0 := h
    omega
  | cons m l ih =>
    rintro s ⟨p, h1, h2, h3, h4⟩
    have h5 := ih h4
    refine Nat.lt_pow_two_of_testBit (n := 8) s (fun i hi => ?_)
    have h6 : (cl s p).testBit i = false := Nat.testBit_lt_two_pow (Nat.lt_of_lt_of_le (show cl s p < 2 ^ 8 from h5) (Nat.pow_le_pow_right (by omega) hi))
    rw [cl_bit, decide_eq_true (show i ≠ p by omega), Bool.and_true] at h6
    exact h6
theorem pop_cl : ∀ s, s < 256 → ∀ p, p < 8 → s.testBit p = true → popN 8 s = popN 8 (cl s p) + 1 := by decide +kernel
theorem cl_lt : ∀ s, s < 256 → ∀ p, p < 8 → cl s p < 256 := by decide +kernel
theorem Rr_pop : ∀ {l : List Nat} {s : Nat}, Rr l s → popN 8 s = l.length := by
  intro l
  induction l with
  | nil =>
    intro s h
    have : s = 0 := h
    subst this
    rfl
  | cons m l ih =>
    intro s h
    have hs := Rr_lt h
    obtain ⟨p, h1, h2, h3, h4⟩ := h
    rw [pop_cl s hs p h1 h2, ih h4]
    rfl
def Ac : List Nat → Nat → Prop
  | [], s => s = 0
  | m :: l, s => Rr (m :: l) s ∨ Ac l s
theorem Ac_pop : ∀ {l : List Nat} {s : Nat}, Ac l s → popN 8 s ≤ l.length := by
  intro l
  induction l with
  | nil =>
    intro s h
    have : s = 0 := h
    subst this
    exact Nat.le_refl _
  | cons m l ih =>
    intro s h
    rcases h with h | h
    · rw [Rr_pop h]
      exact Nat.le_refl _
    · have := ih h
      simp only [List.length_cons]
      omega
theorem Ac_Rr {l : List Nat} {s : Nat} : (Ac l s ∧ popN 8 s = l.length) ↔ Rr l s := by
  constructor
  · rintro ⟨h1, h2⟩
    cases l with
    | nil => exact h1
    | cons m l =>
      rcases h1 with h1 | h1
      · exact h1
      · have := Ac_pop h1
        simp only [List.length_cons] at h2
        omega
  · intro h
    refine ⟨?_, Rr_pop h⟩
    cases l with
    | nil => exact h
    | cons m l => exact Or.inl h
/-- the masks of all bones but one, the last first; with that one held to a person -/
def othL (m : Nat → Nat) (w : Nat) : Nat → List Nat
  | 0 => []
  | i + 1 => if i = w then othL m w i else m i :: othL m w i
def refL (m : Nat → Nat) (w p : Nat) : Nat → List Nat
  | 0 => []
  | i + 1 => (if i = w then m i &&& 2 ^ p else m i) :: refL m w p i
theorem oth_len {m : Nat → Nat} {w : Nat} : ∀ {n : Nat}, (othL m w n).length = if w < n then n - 1 else n := by
  intro n
  induction n with
  | zero => rfl
  | succ n ih =>
    simp only [othL]
    by_cases e : n = w
    · subst e
      rw [if_pos rfl, ih, if_neg (by omega), if_pos (by omega)]
      omega
    · rw [if_neg e, List.length_cons, ih]
      by_cases c : w < n
      · rw [if_pos c, if_pos (by omega)]
        omega
      · rw [if_neg c, if_neg (by omega)]
theorem ref_len {m : Nat → Nat} {w p : Nat} : ∀ {n : Nat}, (refL m w p n).length = n := by
  intro n
  induction n with
  | zero => rfl
  | succ n ih => simp only [refL, List.length_cons, ih]
theorem ref_low {m : Nat → Nat} {w p : Nat} : ∀ {n : Nat}, n ≤ w → refL m w p n = othL m w n := by
  intro n
  induction n with
  | zero => intro _; rfl
  | succ n ih =>
    intro h
    simp only [refL, othL]
    rw [if_neg (by omega), if_neg (by omega), ih (by omega)]
theorem ref_oth {m : Nat → Nat} {w p : Nat} : ∀ {n : Nat}, w < n → ∀ {s : Nat}, Rr (refL m w p n) s ↔ Rr ((m w &&& 2 ^ p) :: othL m w n) s := by
  intro n
  induction n with
  | zero => intro h; omega
  | succ n ih =>
    intro h s
    by_cases e : n = w
    · subst e
      simp only [refL, othL, if_true]
      rw [ref_low (Nat.le_refl _)]
    · simp only [refL, othL]
      rw [if_neg e, if_neg e]
      have h2 : Rr (m n :: refL m w p n) s ↔ Rr (m n :: (m w &&& 2 ^ p) :: othL m w n) s := by
        constructor
        · rintro ⟨q, q1, q2, q3, q4⟩
          exact ⟨q, q1, q2, q3, (ih (by omega)).mp q4⟩
        · rintro ⟨q, q1, q2, q3, q4⟩
          exact ⟨q, q1, q2, q3, (ih (by omega)).mpr q4⟩
      rw [h2]
      exact ⟨Rr_swap, Rr_swap⟩
/-- who: a person for one of the bones -/
theorem who_iff {m p : Nat} {l : List Nat} (hp : p < 8) : (∃ s, Rr ((m &&& 2 ^ p) :: l) s) ↔ (m.testBit p = true ∧ ∃ s, Rr l s ∧ s.testBit p = false) := by
  constructor
  · rintro ⟨s, q, q1, q2, q3, q4⟩
    rw [Nat.testBit_and, Nat.testBit_two_pow, Bool.and_eq_true, decide_eq_true_eq] at q3
    obtain ⟨q3, rfl⟩ := q3
    refine ⟨q3, _, q4, ?_⟩
    rw [cl_bit]
    simp
  · rintro ⟨h1, s, h2, h3⟩
    refine ⟨s ||| 2 ^ p, p, hp, ?_, ?_, ?_⟩
    · rw [Nat.testBit_or, Nat.testBit_two_pow_self, Bool.or_true]
    · rw [Nat.testBit_and, h1, Nat.testBit_two_pow_self]
      rfl
    · have : cl (s ||| 2 ^ p) p = s := by
        apply Nat.eq_of_testBit_eq
        intro i
        rw [cl_bit, Nat.testBit_or, Nat.testBit_two_pow]
        by_cases e : i = p
        · subst e
          rw [h3]
          simp
        · have : ¬ p = i := fun z => e z.symm
          simp [e, this]
      rw [this]
      exact h2
noncomputable def pI (c : Prop) : Int32 := cIf c 1 0
noncomputable def pB (c : Prop) : Bool := cIf c true false
theorem pI_t {c : Prop} (h : c) : pI c = 1 := cIf_t h
theorem pI_f {c : Prop} (h : ¬ c) : pI c = 0 := cIf_f h
theorem pB_iff {c : Prop} : pB c = true ↔ c := by
  by_cases h : c
  · exact ⟨fun _ => h, fun _ => cIf_t h⟩
  · refine ⟨fun z => ?_, fun z => absurd z h⟩
    rw [pB, cIf_f h] at z
    exact Bool.noConfusion z
theorem pI_1 {c : Prop} : pI c = 1 ↔ c := by
  by_cases h : c
  · exact ⟨fun _ => h, fun _ => pI_t h⟩
  · refine ⟨fun z => ?_, fun z => absurd z h⟩
    rw [pI_f h] at z
    exact absurd z (by decide)
theorem pI_B {c : Prop} : pI c = bI (pB c) := by
  by_cases h : c
  · rw [pI_t h, bI_t (pB_iff.mpr h)]
  · rw [pI_f h, bI_f (by rw [← Bool.not_eq_true, pB_iff]; exact h)]
/-- the seen bones, the first eight -/
def boL (wd : Nat → Int32) : Nat → List Nat
  | 0 => []
  | f + 1 => if (boL wd f).length < 8 ∧ wd (349 + 6 * f) = 2 ∧ sn wd f = true then boL wd f ++ [f] else boL wd f
theorem boL_8 {wd : Nat → Int32} : ∀ {n : Nat}, (boL wd n).length ≤ 8 := by
  intro n
  induction n with
  | zero => exact Nat.zero_le _
  | succ n ih =>
    simp only [boL]
    split
    · rw [List.length_append, List.length_singleton]; omega
    · exact ih
theorem boL_mem {wd : Nat → Int32} : ∀ {n f : Nat}, f ∈ boL wd n → f < n ∧ wd (349 + 6 * f) = 2 := by
  intro n
  induction n with
  | zero => intro f h; simp [boL] at h
  | succ n ih =>
    intro f h
    simp only [boL] at h
    split at h
    · rename_i c
      rw [List.mem_append, List.mem_singleton] at h
      rcases h with h | h
      · have := ih h
        exact ⟨by omega, this.2⟩
      · subst h
        exact ⟨by omega, c.2.1⟩
    · have := ih h
      exact ⟨by omega, this.2⟩
theorem boL_full {wd : Nat → Int32} {j : Nat} (h : ¬ (boL wd j).length < 8) : ∀ {n : Nat}, j ≤ n → boL wd n = boL wd j := by
  intro n
  induction n with
  | zero =>
    intro hj
    have : j = 0 := by omega
    subst this
    rfl
  | succ n ih =>
    intro hj
    by_cases e : j = n + 1
    · rw [e]
    · have := ih (by omega)
      simp only [boL]
      rw [this, if_neg (fun z => h z.1)]
def mkB (wd : Nat → Int32) (l : List Nat) (i : Nat) : Nat := nt (wd (352 + 6 * l.getD i 0))
theorem mkB_at {wd : Nat → Int32} {N : Nat → Nat} (O : Ok wd N) {i : Nat} (hi : i < (boL wd (N 3)).length) : (boL wd (N 3)).getD i 0 < N 3 ∧ wd (352 + 6 * (boL wd (N 3)).getD i 0) = nI (mkB wd (boL wd (N 3)) i) ∧ mkB wd (boL wd (N 3)) i < 256 := by
  have hm : (boL wd (N 3)).getD i 0 ∈ boL wd (N 3) := by
    rw [List.getD_eq_getElem?_getD, List.getElem?_eq_getElem hi]
    exact List.getElem_mem hi
  obtain ⟨h1, h2⟩ := boL_mem hm
  obtain ⟨q1, q2, q3, q4, q5, q6, q7, q8⟩ := O.F h1
  have := (q8 h2).2
  exact ⟨h1, q4.1, by unfold mkB; omega⟩
noncomputable def whB (wd : Nat → Int32) (l : List Nat) (w p : Nat) : Bool := pB (∃ s, Rr (refL (mkB wd l) w p l.length) s)
