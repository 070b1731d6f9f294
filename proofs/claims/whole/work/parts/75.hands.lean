/-! the fewest hands: parts of a set -/
theorem and_2 (a b : Nat) : (a &&& b) / 2 = a / 2 &&& b / 2 ∧ (a &&& b) % 2 = (a % 2) * (b % 2) := by
  constructor
  · apply Nat.eq_of_testBit_eq
    intro i
    rw [← Nat.testBit_succ, Nat.testBit_and, Nat.testBit_and, Nat.testBit_succ, Nat.testBit_succ]
  · have h := Nat.testBit_and a b 0
    rw [Nat.testBit_zero, Nat.testBit_zero, Nat.testBit_zero] at h
    rcases Nat.mod_two_eq_zero_or_one a with ha | ha <;> rcases Nat.mod_two_eq_zero_or_one b with hb | hb <;> rcases Nat.mod_two_eq_zero_or_one (a &&& b) with hc | hc <;> simp_all
theorem xor_2 (a b : Nat) : (a ^^^ b) / 2 = a / 2 ^^^ b / 2 ∧ (a ^^^ b) % 2 = (a % 2 + b % 2) % 2 := by
  constructor
  · apply Nat.eq_of_testBit_eq
    intro i
    rw [← Nat.testBit_succ, Nat.testBit_xor, Nat.testBit_xor, Nat.testBit_succ, Nat.testBit_succ]
  · have h := Nat.testBit_xor a b 0
    rw [Nat.testBit_zero, Nat.testBit_zero, Nat.testBit_zero] at h
    rcases Nat.mod_two_eq_zero_or_one a with ha | ha <;> rcases Nat.mod_two_eq_zero_or_one b with hb | hb <;> rcases Nat.mod_two_eq_zero_or_one (a ^^^ b) with hc | hc <;> simp_all
def sub_ (p s : Nat) : Prop := p &&& s = p
theorem sub_half {p s : Nat} (h : sub_ p s) : sub_ (p / 2) (s / 2) ∧ p % 2 ≤ s % 2 := by
  unfold sub_ at *
  obtain ⟨h1, h2⟩ := and_2 p s
  rw [h] at h1 h2
  refine ⟨h1.symm, ?_⟩
  rcases Nat.mod_two_eq_zero_or_one p with hp | hp <;> rcases Nat.mod_two_eq_zero_or_one s with hs | hs <;> rw [hp, hs] at h2 <;> omega
/-- the next smaller part of a set -/
theorem sub_next : ∀ (n p s q : Nat), p ≤ n → sub_ p s → 0 < p → sub_ q s → q < p → q ≤ (p - 1) &&& s := by
  intro n
  induction n with
  | zero => intro p s q h1 h2 h3; omega
  | succ n ih =>
    intro p s q h1 h2 h3 h4 h5
    obtain ⟨p1, p2⟩ := sub_half h2
    obtain ⟨q1, q2⟩ := sub_half h4
    obtain ⟨a1, a2⟩ := and_2 (p - 1) s
    by_cases c : p % 2 = 1
    · have e : (p - 1) / 2 = p / 2 := by omega
      rw [e] at a1
      have e2 : p / 2 &&& s / 2 = p / 2 := p1
      rw [e2] at a1
      omega
    · have e : (p - 1) / 2 = p / 2 - 1 := by omega
      have e1 : (p - 1) % 2 = 1 := by omega
      rw [e] at a1
      rw [e1, Nat.one_mul] at a2
      have := ih (p / 2) (s / 2) (q / 2) (by omega) p1 (by omega) q1 (by omega)
      rw [← a1] at this
      omega
theorem sub_and {p s : Nat} : sub_ ((p - 1) &&& s) s := by
  unfold sub_
  rw [Nat.and_assoc, Nat.and_self]
theorem xor_add : ∀ (n p s : Nat), s ≤ n → sub_ p s → (s ^^^ p) + p = s := by
  intro n
  induction n with
  | zero =>
    intro p s h1 h2
    have : s = 0 := by omega
    subst this
    unfold sub_ at h2
    rw [Nat.and_zero] at h2
    subst h2
    rfl
  | succ n ih =>
    intro p s h1 h2
    by_cases c : s = 0
    · exact (ih p s (by omega) h2)
    · obtain ⟨p1, p2⟩ := sub_half h2
      obtain ⟨x1, x2⟩ := xor_2 s p
      have := ih (p / 2) (s / 2) (by omega) p1
      rw [← x1] at this
      rcases Nat.mod_two_eq_zero_or_one p with hp | hp <;> rcases Nat.mod_two_eq_zero_or_one s with hs | hs <;> rw [hp, hs] at x2 <;> omega
theorem xor_lt {p s : Nat} (h : sub_ p s) (h0 : p ≠ 0) : s ^^^ p < s := by
  have := xor_add s p s (Nat.le_refl _) h
  omega
theorem sub_bit {p s : Nat} : sub_ p s ↔ ∀ i, p.testBit i = true → s.testBit i = true := by
  unfold sub_
  constructor
  · intro h i hi
    rw [← h, Nat.testBit_and, Bool.and_eq_true] at hi
    exact hi.2
  · intro h
    apply Nat.eq_of_testBit_eq
    intro i
    rw [Nat.testBit_and]
    cases hp : p.testBit i
    · rfl
    · rw [h i hp]
      rfl
theorem df_bit {p s i : Nat} : (s ^^^ p).testBit i = (s.testBit i ^^ p.testBit i) := Nat.testBit_xor s p i
/-- the fewest parts: by parts that hold the least of a set, and by all parts -/
def IsO (pos : Nat → Prop) (n : Nat) (t : Nat → Nat) : Prop := t 0 = 0 ∧ ∀ s, 0 < s → s < 2 ^ n → t s ≤ n ∧ (∀ p, sub_ p s → p ≠ 0 → pos p → (∃ e, p.testBit e = true ∧ ∀ i, i < e → s.testBit i = false) → t s ≤ t (s ^^^ p) + 1) ∧ (t s = n ∨ ∃ p, sub_ p s ∧ p ≠ 0 ∧ pos p ∧ (∃ e, p.testBit e = true ∧ ∀ i, i < e → s.testBit i = false) ∧ t s = t (s ^^^ p) + 1)
def IsA (pos : Nat → Prop) (n : Nat) (t : Nat → Nat) : Prop := t 0 = 0 ∧ ∀ s, 0 < s → s < 2 ^ n → t s ≤ 9 ∧ (∀ p, sub_ p s → p ≠ 0 → pos p → t s ≤ t (s ^^^ p) + 1) ∧ (t s = 9 ∨ ∃ p, sub_ p s ∧ p ≠ 0 ∧ pos p ∧ t s = t (s ^^^ p) + 1)
theorem O_le {pos : Nat → Prop} {n : Nat} {t : Nat → Nat} (O : IsO pos n t) : ∀ (m s p : Nat), s ≤ m → s < 2 ^ n → sub_ p s → p ≠ 0 → pos p → t s ≤ t (s ^^^ p) + 1 := by
  intro m
  induction m with
  | zero =>
    intro s p h1 h2 h3 h4 h5
    have : s = 0 := by omega
    subst this
    unfold sub_ at h3
    rw [Nat.and_zero] at h3
    exact absurd h3.symm h4
  | succ m ih =>
    intro s p h1 h2 h3 h4 h5
    have hlt := xor_lt h3 h4
    obtain ⟨o1, o2, o3⟩ := O.2 s (by omega) h2
    by_cases c : ∃ e, p.testBit e = true ∧ ∀ i, i < e → s.testBit i = false
    · exact o2 p h3 h4 h5 c
    · by_cases z : s ^^^ p = 0
      · exfalso
        have hsp : s = p := by
          apply Nat.eq_of_testBit_eq
          intro i
          have := df_bit (p := p) (s := s) (i := i)
          rw [z, Nat.zero_testBit] at this
          cases h7 : s.testBit i <;> cases h8 : p.testBit i <;> rw [h7, h8] at this <;> first | rfl | exact absurd this (by decide)
        subst hsp
        obtain ⟨e, he⟩ := Nat.exists_testBit_of_ne_zero h4
        apply c
        have hex : ∃ k, ∃ e, e ≤ k ∧ s.testBit e = true := ⟨e, e, Nat.le_refl _, he⟩
        have key : ∀ k, (∃ e, e ≤ k ∧ s.testBit e = true) → ∃ e, s.testBit e = true ∧ ∀ i, i < e → s.testBit i = false := by
          intro k
          induction k with
          | zero =>
            rintro ⟨e, h1, h2⟩
            have : e = 0 := by omega
            subst this
            exact ⟨0, h2, fun i hi => absurd hi (Nat.not_lt_zero _)⟩
          | succ k ih2 =>
            rintro ⟨e, h1, h2⟩
            by_cases w : ∃ e, e ≤ k ∧ s.testBit e = true
            · exact ih2 w
            · refine ⟨e, h2, fun i hi => ?_⟩
              cases h9 : s.testBit i
              · rfl
              · exact absurd ⟨i, by omega, h9⟩ w
        exact key e ⟨e, Nat.le_refl _, he⟩
      · obtain ⟨u1, u2, u3⟩ := O.2 (s ^^^ p) (by omega) (by omega)
        rcases u3 with u3 | ⟨q, q1, q2, q3, ⟨e, q4, q5⟩, q6⟩
        · omega
        · have b := fun i => df_bit (p := p) (s := s) (i := i)
          have hqs : ∀ i, q.testBit i = true → s.testBit i = true ∧ p.testBit i = false := by
            intro i hi
            have h7 := sub_bit.mp q1 i hi
            rw [b i] at h7
            have h8 := sub_bit.mp h3 i
            cases h9 : s.testBit i <;> cases h10 : p.testBit i <;> simp_all
          have hq : sub_ q s := sub_bit.mpr (fun i hi => (hqs i hi).1)
          have hle : ∀ i, i < e → s.testBit i = false := by
            intro i hi
            have h7 := q5 i hi
            rw [b i] at h7
            cases h9 : s.testBit i
            · rfl
            · have h10 : p.testBit i = true := by
                cases h11 : p.testBit i
                · rw [h9, h11] at h7
                  exact absurd h7 (by decide)
                · rfl
              exfalso
              apply c
              have key : ∀ k, k ≤ i → (∀ j, j < k → s.testBit j = false) → ∃ e, p.testBit e = true ∧ ∀ j, j < e → s.testBit j = false := by
                intro k hk
                induction hd : i - k generalizing k with
                | zero =>
                  intro hall
                  have : k = i := by omega
                  subst this
                  exact ⟨k, h10, hall⟩
                | succ d ihd =>
                  intro hall
                  cases hsk : s.testBit k
                  · exact ihd (k + 1) (by omega) (by omega) (fun j hj => by
                      by_cases hjk : j = k
                      · rw [hjk]; exact hsk
                      · exact hall j (by omega))
                  · have h12 := q5 k (by omega)
                    rw [b k, hsk] at h12
                    refine ⟨k, ?_, hall⟩
                    cases h13 : p.testBit k
                    · rw [h13] at h12
                      exact absurd h12 (by decide)
                    · rfl
              exact key 0 (Nat.zero_le _) (fun j hj => absurd hj (Nat.not_lt_zero _))
          have h20 := o2 q hq q2 q3 ⟨e, q4, hle⟩
          have hlt2 := xor_lt hq q2
          have hp2 : sub_ p (s ^^^ q) := sub_bit.mpr (fun i hi => by
            rw [df_bit, sub_bit.mp h3 i hi]
            cases h9 : q.testBit i
            · rfl
            · have := (hqs i h9).2
              rw [hi] at this
              exact Bool.noConfusion this)
          have h21 := ih (s ^^^ q) p (by omega) (by omega) hp2 h4 h5
          have h22 : s ^^^ q ^^^ p = s ^^^ p ^^^ q := by rw [Nat.xor_assoc, Nat.xor_comm q p, ← Nat.xor_assoc]
          rw [h22] at h21
          omega
theorem least_ex {s : Nat} (h : s ≠ 0) : ∃ e, s.testBit e = true ∧ ∀ i, i < e → s.testBit i = false := by
  obtain ⟨e, he⟩ := Nat.exists_testBit_of_ne_zero h
  have key : ∀ k, (∃ e, e ≤ k ∧ s.testBit e = true) → ∃ e, s.testBit e = true ∧ ∀ i, i < e → s.testBit i = false := by
    intro k
    induction k with
    | zero =>
      rintro ⟨e, h1, h2⟩
      have : e = 0 := by omega
      subst this
      exact ⟨0, h2, fun i hi => absurd hi (Nat.not_lt_zero _)⟩
    | succ k ih2 =>
      rintro ⟨e, h1, h2⟩
      by_cases w : ∃ e, e ≤ k ∧ s.testBit e = true
      · exact ih2 w
      · refine ⟨e, h2, fun i hi => ?_⟩
        cases h9 : s.testBit i
        · rfl
        · exact absurd ⟨i, by omega, h9⟩ w
  exact key e ⟨e, Nat.le_refl _, he⟩
theorem bit_lt {s n e : Nat} (hs : s < 2 ^ n) (he : s.testBit e = true) : e < n := by
  rcases Nat.lt_or_ge e n with h | h
  · exact h
  · rw [Nat.testBit_lt_two_pow (Nat.lt_of_lt_of_le hs (Nat.pow_le_pow_right (by omega) h))] at he
    exact Bool.noConfusion he
theorem one_sub {s e : Nat} (he : s.testBit e = true) : sub_ (2 ^ e) s ∧ 2 ^ e ≠ 0 := by
  refine ⟨sub_bit.mpr (fun i hi => ?_), Nat.pos_iff_ne_zero.mp (Nat.two_pow_pos e)⟩
  rw [Nat.testBit_two_pow, decide_eq_true_eq] at hi
  rw [← hi]
  exact he
theorem pop_one : ∀ s, s < 256 → ∀ e, e < 8 → s.testBit e = true → popN 8 (s ^^^ 2 ^ e) + 1 = popN 8 s := by decide +kernel
theorem pop_n : ∀ n, n ≤ 8 → ∀ s, s < 256 → s < 2 ^ n → popN 8 s ≤ n := by decide +kernel
theorem O_pop {pos : Nat → Prop} {n : Nat} {t : Nat → Nat} (hn : n ≤ 8) (O : IsO pos n t) (h1 : ∀ k, k < n → pos (2 ^ k)) : ∀ (m s : Nat), s ≤ m → s < 2 ^ n → t s ≤ popN 8 s := by
  have h8 : 2 ^ n ≤ 2 ^ 8 := Nat.pow_le_pow_right (by omega) hn
  intro m
  induction m with
  | zero =>
    intro s hs _
    have : s = 0 := by omega
    subst this
    rw [O.1]
    exact Nat.zero_le _
  | succ m ih =>
    intro s hs hs2
    by_cases c : s = 0
    · subst c
      rw [O.1]
      exact Nat.zero_le _
    · obtain ⟨e, e1, e2⟩ := least_ex c
      have e3 := bit_lt hs2 e1
      obtain ⟨q1, q2⟩ := one_sub e1
      have q3 := xor_lt q1 q2
      have q4 := (O.2 s (by omega) hs2).2.1 (2 ^ e) q1 q2 (h1 e e3) ⟨e, Nat.testBit_two_pow_self, e2⟩
      have q5 := ih (s ^^^ 2 ^ e) (by omega) (by omega)
      have q6 := pop_one s (by omega) e (by omega) e1
      omega
/-- both ways to count hands agree -/
theorem O_A {pos : Nat → Prop} {n : Nat} {t u : Nat → Nat} (hn : n ≤ 8) (O : IsO pos n t) (U : IsA pos n u) (h1 : ∀ k, k < n → pos (2 ^ k)) : ∀ (m s : Nat), s ≤ m → s < 2 ^ n → t s = u s := by
  have h8 : 2 ^ n ≤ 2 ^ 8 := Nat.pow_le_pow_right (by omega) hn
  intro m
  induction m with
  | zero =>
    intro s hs _
    have : s = 0 := by omega
    subst this
    rw [O.1, U.1]
  | succ m ih =>
    intro s hs hs2
    by_cases c : s = 0
    · subst c
      rw [O.1, U.1]
    · obtain ⟨o1, o2, o3⟩ := O.2 s (by omega) hs2
      obtain ⟨u1, u2, u3⟩ := U.2 s (by omega) hs2
      have hle : t s ≤ u s := by
        rcases u3 with u3 | ⟨p, p1, p2, p3, p4⟩
        · omega
        · have q3 := xor_lt p1 p2
          have := O_le O s s p (Nat.le_refl _) hs2 p1 p2 p3
          rw [ih (s ^^^ p) (by omega) (by omega)] at this
          omega
      have hge : u s ≤ t s := by
        have key : ∀ p, sub_ p s → p ≠ 0 → pos p → t s = t (s ^^^ p) + 1 → u s ≤ t s := by
          intro p p1 p2 p3 p4
          have q3 := xor_lt p1 p2
          have := u2 p p1 p2 p3
          rw [← ih (s ^^^ p) (by omega) (by omega)] at this
          omega
        rcases o3 with o3 | ⟨p, p1, p2, p3, _, p4⟩
        · obtain ⟨e, e1, e2⟩ := least_ex c
          have e3 := bit_lt hs2 e1
          obtain ⟨q1, q2⟩ := one_sub e1
          have q3 := xor_lt q1 q2
          have q4 := u2 (2 ^ e) q1 q2 (h1 e e3)
          rw [← ih (s ^^^ 2 ^ e) (by omega) (by omega)] at q4
          have q5 := O_pop hn O h1 _ (s ^^^ 2 ^ e) (Nat.le_refl _) (by omega)
          have q6 := pop_one s (by omega) e (by omega) e1
          have q7 := pop_n n hn s (by omega) hs2
          omega
        · exact key p p1 p2 p3 p4
      omega
