/-! ways: the table of a gun's cases, as mathematics -/
def up2 (T : Nat → Nat → Option Nat) (s k : Nat) (v : Option Nat) : Nat → Nat → Option Nat := fun a b => if a = s ∧ b = k then v else T a b
def mnO (o : Option Nat) (t : Nat) : Option Nat := match o with
  | none => some t
  | some u => some (min u t)
def arv (fr : Nat → Nat) (on : Nat → Nat → Nat) (t k i : Nat) : Nat := max (fr i) (t + on k i)
def rlx (fr ti : Nat → Nat) (on : Nat → Nat → Nat) (T : Nat → Nat → Option Nat) (s k t : Nat) : Nat → Nat → Nat → Option Nat
  | 0 => T
  | i + 1 => if s.testBit i = false ∧ arv fr on t k i ≤ ti i then up2 (rlx fr ti on T s k t i) (s ||| 2 ^ i) i (mnO (rlx fr ti on T s k t i (s ||| 2 ^ i) i) (arv fr on t k i)) else rlx fr ti on T s k t i
def stK (fr ti : Nat → Nat) (on : Nat → Nat → Nat) (n : Nat) (T : Nat → Nat → Option Nat) (s : Nat) : Nat → Nat → Nat → Option Nat
  | 0 => T
  | k + 1 => match stK fr ti on n T s k s k with
    | none => stK fr ti on n T s k
    | some t => rlx fr ti on (stK fr ti on n T s k) s k t n
def stS (fr ti : Nat → Nat) (on : Nat → Nat → Nat) (n : Nat) (T : Nat → Nat → Option Nat) : Nat → Nat → Nat → Option Nat
  | 0 => T
  | s + 1 => stK fr ti on n (stS fr ti on n T s) s n
theorem or_gt {s i : Nat} (h : s.testBit i = false) : s < s ||| 2 ^ i := by
  have h1 : sub_ (2 ^ i) (s ||| 2 ^ i) := sub_bit.mpr (fun j hj => by rw [Nat.testBit_or, hj, Bool.or_true])
  have h2 := xor_add _ _ _ (Nat.le_refl _) h1
  have h3 : (s ||| 2 ^ i) ^^^ 2 ^ i = s := by
    apply Nat.eq_of_testBit_eq
    intro j
    rw [Nat.testBit_xor, Nat.testBit_or, Nat.testBit_two_pow]
    by_cases e : i = j
    · subst e
      rw [h]
      simp
    · simp [e]
  have := Nat.two_pow_pos i
  omega
section EDGE
variable {fr ti : Nat → Nat} {on : Nat → Nat → Nat} {T0 : Nat → Nat → Option Nat}
/-- the steps in D are in the table -/
def Jn (fr ti : Nat → Nat) (on : Nat → Nat → Nat) (T0 : Nat → Nat → Option Nat) (D : Nat → Nat → Nat → Prop) (T : Nat → Nat → Option Nat) : Prop :=
  (∀ s i t, T s i = some t → T0 s i = some t ∨ ∃ s' k t', D s' k i ∧ s = s' ||| 2 ^ i ∧ s'.testBit i = false ∧ T s' k = some t' ∧ t = arv fr on t' k i ∧ arv fr on t' k i ≤ ti i) ∧
  (∀ s' k i t', D s' k i → T s' k = some t' → s'.testBit i = false → arv fr on t' k i ≤ ti i → ∃ t, t ≤ arv fr on t' k i ∧ T (s' ||| 2 ^ i) i = some t) ∧
  ∀ s i t, T0 s i = some t → ∃ t', t' ≤ t ∧ T s i = some t'
theorem Jn.mono {D D' : Nat → Nat → Nat → Prop} {T : Nat → Nat → Option Nat} (J : Jn fr ti on T0 D T) (h1 : ∀ s k i, D s k i → D' s k i) (h2 : ∀ s k i, D' s k i → D s k i ∨ s.testBit i = true ∨ T s k = none ∨ ∀ t, T s k = some t → ¬ arv fr on t k i ≤ ti i) : Jn fr ti on T0 D' T := by
  refine ⟨fun s i t h => ?_, fun s' k i t' hD hT hb ha => ?_, J.2.2⟩
  · rcases J.1 s i t h with h | ⟨s', k, t', q1, q2⟩
    · exact Or.inl h
    · exact Or.inr ⟨s', k, t', h1 _ _ _ q1, q2⟩
  · rcases h2 s' k i hD with q | q | q | q
    · exact J.2.1 s' k i t' q hT hb ha
    · rw [hb] at q; exact Bool.noConfusion q
    · rw [q] at hT; cases hT
    · exact absurd ha (q t' hT)
theorem Jn.edge {D : Nat → Nat → Nat → Prop} {T : Nat → Nat → Option Nat} (J : Jn fr ti on T0 D T) {s k i t : Nat} (hT : T s k = some t) (hb : s.testBit i = false) (ha : arv fr on t k i ≤ ti i) (hD : ∀ a b c, D a b c → a ≤ s) : Jn fr ti on T0 (fun a b c => D a b c ∨ (a = s ∧ b = k ∧ c = i)) (up2 T (s ||| 2 ^ i) i (mnO (T (s ||| 2 ^ i) i) (arv fr on t k i))) := by
  have hg := or_gt hb
  have keep : ∀ a b, a ≤ s → up2 T (s ||| 2 ^ i) i (mnO (T (s ||| 2 ^ i) i) (arv fr on t k i)) a b = T a b := by
    intro a b h
    unfold up2
    rw [if_neg (fun z => by omega)]
  have less : ∀ a b u, T a b = some u → ∃ u', u' ≤ u ∧ up2 T (s ||| 2 ^ i) i (mnO (T (s ||| 2 ^ i) i) (arv fr on t k i)) a b = some u' := by
    intro a b u h
    unfold up2
    by_cases c : a = s ||| 2 ^ i ∧ b = i
    · rw [if_pos c]
      obtain ⟨rfl, rfl⟩ := c
      rw [h]
      exact ⟨_, Nat.min_le_left _ _, rfl⟩
    · rw [if_neg c]
      exact ⟨u, Nat.le_refl _, h⟩
  refine ⟨fun a b u h => ?_, fun s' k' i' t' hD' hT' hb' ha' => ?_, fun a b u h => ?_⟩
  · have old : T a b = some u → T0 a b = some u ∨ ∃ s' k_1 t', (D s' k_1 b ∨ (s' = s ∧ k_1 = k ∧ b = i)) ∧ a = s' ||| 2 ^ b ∧ s'.testBit b = false ∧ up2 T (s ||| 2 ^ i) i (mnO (T (s ||| 2 ^ i) i) (arv fr on t k i)) s' k_1 = some t' ∧ u = arv fr on t' k_1 b ∧ arv fr on t' k_1 b ≤ ti b := by
      intro h
      rcases J.1 a b u h with q | ⟨s', k', t', q1, q2, q3, q4, q5⟩
      · exact Or.inl q
      · exact Or.inr ⟨s', k', t', Or.inl q1, q2, q3, by rw [keep _ _ (hD _ _ _ q1)]; exact q4, q5⟩
    unfold up2 at h
    by_cases c : a = s ||| 2 ^ i ∧ b = i
    · rw [if_pos c] at h
      obtain ⟨rfl, rfl⟩ := c
      generalize hV : mnO (T (s ||| 2 ^ b) b) (arv fr on t k b) = V at *
      cases hc : T (s ||| 2 ^ b) b with
      | none =>
        rw [hc, h] at hV
        exact Or.inr ⟨s, k, t, Or.inr ⟨rfl, rfl, rfl⟩, rfl, hb, (keep s k (Nat.le_refl _)).trans hT, (Option.some.inj hV).symm, ha⟩
      | some w =>
        rw [hc, h] at hV
        have hm := (Option.some.inj hV).symm
        rcases Nat.le_total w (arv fr on t k b) with z | z
        · rw [Nat.min_eq_left z] at hm
          exact old (by rw [hc, hm])
        · rw [Nat.min_eq_right z] at hm
          exact Or.inr ⟨s, k, t, Or.inr ⟨rfl, rfl, rfl⟩, rfl, hb, (keep s k (Nat.le_refl _)).trans hT, hm, ha⟩
    · rw [if_neg c] at h
      exact old h
  · rcases hD' with q | ⟨rfl, rfl, rfl⟩
    · rw [keep _ _ (hD _ _ _ q)] at hT'
      obtain ⟨u, u1, u2⟩ := J.2.1 s' k' i' t' q hT' hb' ha'
      obtain ⟨u', u3, u4⟩ := less _ _ u u2
      exact ⟨u', Nat.le_trans u3 u1, u4⟩
    · rw [keep _ _ (Nat.le_refl _), hT] at hT'
      have := Option.some.inj hT'
      subst this
      unfold up2
      rw [if_pos ⟨rfl, rfl⟩]
      cases T (s' ||| 2 ^ i') i' with
      | none => exact ⟨_, Nat.le_refl _, rfl⟩
      | some w => exact ⟨_, Nat.min_le_right _ _, rfl⟩
  · obtain ⟨u1, q1, q2⟩ := J.2.2 a b u h
    obtain ⟨u2, q3, q4⟩ := less a b u1 q2
    exact ⟨u2, Nat.le_trans q3 q1, q4⟩
theorem rlx_same {T : Nat → Nat → Option Nat} {s k t : Nat} : ∀ {i a b : Nat}, a ≤ s → rlx fr ti on T s k t i a b = T a b := by
  intro i
  induction i with
  | zero => intro a b _; rfl
  | succ i ih =>
    intro a b h
    simp only [rlx]
    split
    · rename_i c
      have := or_gt c.1
      unfold up2
      rw [if_neg (fun z => by omega)]
      exact ih h
    · exact ih h
theorem Jn.rlxI {D : Nat → Nat → Nat → Prop} {T : Nat → Nat → Option Nat} (J : Jn fr ti on T0 D T) {s k t : Nat} (hT : T s k = some t) (hD : ∀ a b c, D a b c → a ≤ s) : ∀ i, Jn fr ti on T0 (fun a b c => D a b c ∨ (a = s ∧ b = k ∧ c < i)) (rlx fr ti on T s k t i) := by
  intro i
  induction i with
  | zero => exact J.mono (fun _ _ _ h => Or.inl h) (fun a b c h => Or.inl (h.resolve_right (fun z => by omega)))
  | succ i ih =>
    have hT2 : rlx fr ti on T s k t i s k = some t := by rw [rlx_same (Nat.le_refl _)]; exact hT
    have hD2 : ∀ a b c, (D a b c ∨ (a = s ∧ b = k ∧ c < i)) → a ≤ s := fun a b c h => h.elim (hD a b c) (fun z => by omega)
    simp only [rlx]
    by_cases c : s.testBit i = false ∧ arv fr on t k i ≤ ti i
    · rw [if_pos c]
      refine (ih.edge hT2 c.1 c.2 hD2).mono (fun a b d h => ?_) (fun a b d h => Or.inl ?_)
      · rcases h with (h | h) | h
        · exact Or.inl h
        · exact Or.inr ⟨h.1, h.2.1, by omega⟩
        · exact Or.inr ⟨h.1, h.2.1, by omega⟩
      · rcases h with h | h
        · exact Or.inl (Or.inl h)
        · by_cases e : d = i
          · exact Or.inr ⟨h.1, h.2.1, e⟩
          · exact Or.inl (Or.inr ⟨h.1, h.2.1, by omega⟩)
    · rw [if_neg c]
      refine ih.mono (fun a b d h => ?_) (fun a b d h => ?_)
      · rcases h with h | h
        · exact Or.inl h
        · exact Or.inr ⟨h.1, h.2.1, by omega⟩
      · rcases h with h | ⟨rfl, rfl, h⟩
        · exact Or.inl (Or.inl h)
        · by_cases e : d = i
          · subst e
            by_cases z : a.testBit d = true
            · exact Or.inr (Or.inl z)
            · refine Or.inr (Or.inr (Or.inr (fun t2 ht2 y => ?_)))
              rw [hT2] at ht2
              have := Option.some.inj ht2
              subst this
              exact c ⟨by simpa using z, y⟩
          · exact Or.inl (Or.inr ⟨rfl, rfl, by omega⟩)
theorem stK_same {T : Nat → Nat → Option Nat} {n s : Nat} : ∀ {k a b : Nat}, a ≤ s → stK fr ti on n T s k a b = T a b := by
  intro k
  induction k with
  | zero => intro a b _; rfl
  | succ k ih =>
    intro a b h
    simp only [stK]
    cases stK fr ti on n T s k s k with
    | none => exact ih h
    | some t =>
      dsimp only
      rw [rlx_same h]
      exact ih h
theorem Jn.stKI {D : Nat → Nat → Nat → Prop} {T : Nat → Nat → Option Nat} {n s : Nat} (J : Jn fr ti on T0 D T) (hD : ∀ a b c, D a b c → a < s) : ∀ k, Jn fr ti on T0 (fun a b c => D a b c ∨ (a = s ∧ b < k ∧ c < n)) (stK fr ti on n T s k) := by
  intro k
  induction k with
  | zero => exact J.mono (fun _ _ _ h => Or.inl h) (fun a b c h => Or.inl (h.resolve_right (fun z => by omega)))
  | succ k ih =>
    simp only [stK]
    cases e : stK fr ti on n T s k s k with
    | none =>
      dsimp only
      refine ih.mono (fun a b d h => ?_) (fun a b d h => ?_)
      · rcases h with h | h
        · exact Or.inl h
        · exact Or.inr ⟨h.1, by omega, h.2.2⟩
      · rcases h with h | ⟨rfl, h1, h2⟩
        · exact Or.inl (Or.inl h)
        · by_cases z : b = k
          · subst z
            exact Or.inr (Or.inr (Or.inl e))
          · exact Or.inl (Or.inr ⟨rfl, by omega, h2⟩)
    | some t =>
      dsimp only
      refine (ih.rlxI e (fun a b c h => ?_) n).mono (fun a b d h => ?_) (fun a b d h => Or.inl ?_)
      · rcases h with h | h
        · exact Nat.le_of_lt (hD a b c h)
        · omega
      · rcases h with (h | h) | h
        · exact Or.inl h
        · exact Or.inr ⟨h.1, by omega, h.2.2⟩
        · exact Or.inr ⟨h.1, by omega, h.2.2⟩
      · rcases h with h | h
        · exact Or.inl (Or.inl h)
        · by_cases z : b = k
          · exact Or.inr ⟨h.1, z, h.2.2⟩
          · exact Or.inl (Or.inr ⟨h.1, by omega, h.2.2⟩)
theorem Jn.stSI {n : Nat} : ∀ s, Jn fr ti on T0 (fun a b c => a < s ∧ b < n ∧ c < n) (stS fr ti on n T0 s) := by
  intro s
  induction s with
  | zero => exact ⟨fun s i t h => Or.inl h, fun s' k i t' h => absurd h.1 (Nat.not_lt_zero _), fun s i t h => ⟨t, Nat.le_refl _, h⟩⟩
  | succ s ih =>
    simp only [stS]
    refine (ih.stKI (s := s) (fun a b c h => h.1) n).mono (fun a b d h => ?_) (fun a b d h => Or.inl ?_)
    · rcases h with h | h
      · exact ⟨by omega, h.2⟩
      · exact ⟨by omega, h.2⟩
    · by_cases z : a = s
      · exact Or.inr ⟨z, h.2⟩
      · exact Or.inl ⟨by omega, h.2⟩
theorem stS_same {n : Nat} {T : Nat → Nat → Option Nat} {s a b : Nat} (h : a ≤ s) : ∀ {d : Nat}, stS fr ti on n T (s + d) a b = stS fr ti on n T s a b := by
  intro d
  induction d with
  | zero => rfl
  | succ d ih =>
    rw [← Nat.add_assoc]
    simp only [stS]
    rw [stK_same (by omega), ih]
end EDGE
