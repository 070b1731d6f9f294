/-! ways: schedules, forward and backward -/
section PATHS
variable {fr ti : Nat → Nat} {on : Nat → Nat → Nat} {n : Nat}
/-- a schedule of m + 1 visits over the set s from (a, x) to (b, y), cut at its end -/
def PS (fr ti : Nat → Nat) (on : Nat → Nat → Nat) (n : Nat) : Nat → Nat → Nat → Nat → Nat → Nat → Prop
  | 0, s, a, x, b, y => s = 2 ^ a ∧ a = b ∧ x = y ∧ a < n ∧ fr a ≤ x ∧ x ≤ ti a
  | m + 1, s, a, x, b, y => ∃ s' d w, s = s' ||| 2 ^ b ∧ s'.testBit b = false ∧ b < n ∧ fr b ≤ y ∧ y ≤ ti b ∧ w + on d b ≤ y ∧ PS fr ti on n m s' a x d w
/-- the same, cut at its beginning -/
def PC (fr ti : Nat → Nat) (on : Nat → Nat → Nat) (n : Nat) : Nat → Nat → Nat → Nat → Nat → Nat → Prop
  | 0, s, a, x, b, y => s = 2 ^ a ∧ a = b ∧ x = y ∧ a < n ∧ fr a ≤ x ∧ x ≤ ti a
  | m + 1, s, a, x, b, y => ∃ s' c z, s = s' ||| 2 ^ a ∧ s'.testBit a = false ∧ a < n ∧ fr a ≤ x ∧ x ≤ ti a ∧ x + on a c ≤ z ∧ PC fr ti on n m s' c z b y
theorem or_cm3 {s a b : Nat} : s ||| 2 ^ b ||| 2 ^ a = s ||| 2 ^ a ||| 2 ^ b := by
  rw [Nat.or_assoc, Nat.or_comm (2 ^ b), ← Nat.or_assoc]
theorem ob {s a b : Nat} : (s ||| 2 ^ a).testBit b = (s.testBit b || decide (a = b)) := by
  rw [Nat.testBit_or, Nat.testBit_two_pow]
theorem PS_cons : ∀ {m s' a x c z b y : Nat}, PS fr ti on n m s' c z b y → s'.testBit a = false → a < n → fr a ≤ x → x ≤ ti a → x + on a c ≤ z → PS fr ti on n (m + 1) (s' ||| 2 ^ a) a x b y := by
  intro m
  induction m with
  | zero =>
    rintro s' a x c z b y ⟨rfl, rfl, rfl, h1, h2, h3⟩ h4 h5 h6 h7 h8
    refine ⟨2 ^ a, a, x, Nat.or_comm _ _, ?_, h1, h2, h3, h8, rfl, rfl, rfl, h5, h6, h7⟩
    rw [Nat.testBit_two_pow] at h4 ⊢
    rw [decide_eq_false_iff_not] at h4 ⊢
    exact fun q => h4 q.symm
  | succ m ih =>
    rintro s' a x c z b y ⟨s2, d, w, rfl, q2, q3, q4, q5, q6, q7⟩ h4 h5 h6 h7 h8
    rw [ob, Bool.or_eq_false_iff, decide_eq_false_iff_not] at h4
    refine ⟨s2 ||| 2 ^ a, d, w, or_cm3, ?_, q3, q4, q5, q6, ih q7 h4.1 h5 h6 h7 h8⟩
    rw [ob, q2, Bool.false_or, decide_eq_false_iff_not]
    exact fun q => h4.2 q.symm
theorem PC_snoc : ∀ {m s' a x d w b y : Nat}, PC fr ti on n m s' a x d w → s'.testBit b = false → b < n → fr b ≤ y → y ≤ ti b → w + on d b ≤ y → PC fr ti on n (m + 1) (s' ||| 2 ^ b) a x b y := by
  intro m
  induction m with
  | zero =>
    rintro s' a x d w b y ⟨rfl, rfl, rfl, h1, h2, h3⟩ h4 h5 h6 h7 h8
    refine ⟨2 ^ b, b, y, Nat.or_comm _ _, ?_, h1, h2, h3, h8, rfl, rfl, rfl, h5, h6, h7⟩
    rw [Nat.testBit_two_pow] at h4 ⊢
    rw [decide_eq_false_iff_not] at h4 ⊢
    exact fun q => h4 q.symm
  | succ m ih =>
    rintro s' a x d w b y ⟨s2, c, z, rfl, q2, q3, q4, q5, q6, q7⟩ h4 h5 h6 h7 h8
    rw [ob, Bool.or_eq_false_iff, decide_eq_false_iff_not] at h4
    refine ⟨s2 ||| 2 ^ b, c, z, or_cm3, ?_, q3, q4, q5, q6, ih q7 h4.1 h5 h6 h7 h8⟩
    rw [ob, q2, Bool.false_or, decide_eq_false_iff_not]
    exact fun q => h4.2 q.symm
theorem PC_PS : ∀ {m s a x b y : Nat}, PC fr ti on n m s a x b y → PS fr ti on n m s a x b y := by
  intro m
  induction m with
  | zero => exact fun h => h
  | succ m ih =>
    rintro s a x b y ⟨s', c, z, rfl, q2, q3, q4, q5, q6, q7⟩
    exact PS_cons (ih q7) q2 q3 q4 q5 q6
theorem PS_PC : ∀ {m s a x b y : Nat}, PS fr ti on n m s a x b y → PC fr ti on n m s a x b y := by
  intro m
  induction m with
  | zero => exact fun h => h
  | succ m ih =>
    rintro s a x b y ⟨s', d, w, rfl, q2, q3, q4, q5, q6, q7⟩
    exact PC_snoc (ih q7) q2 q3 q4 q5 q6
/-- a table's first entries -/
def Ini (n : Nat) (ok : Nat → Prop) (st : Nat → Nat) (T0 : Nat → Nat → Option Nat) : Prop := ∀ s i t, T0 s i = some t ↔ (s = 2 ^ i ∧ i < n ∧ ok i ∧ t = st i)
theorem F_sound {ok : Nat → Prop} {st : Nat → Nat} {T0 F : Nat → Nat → Option Nat} (I : Ini n ok st T0) (hst : ∀ i, ok i → fr i ≤ st i ∧ st i ≤ ti i) (J : Jn fr ti on T0 (fun a b c => a < 2 ^ n ∧ b < n ∧ c < n) F) : ∀ (m s i t : Nat), s ≤ m → F s i = some t → ∃ l a x, ok a ∧ x = st a ∧ PS fr ti on n l s a x i t := by
  intro m
  induction m with
  | zero =>
    intro s i t hs h
    rcases J.1 s i t h with q | ⟨s', k, t', q1, q2, q3, q4, q5⟩
    · obtain ⟨h1, h2, h3, h4⟩ := (I s i t).mp q
      have := Nat.two_pow_pos i
      omega
    · have := or_gt q3
      omega
  | succ m ih =>
    intro s i t hs h
    rcases J.1 s i t h with q | ⟨s', k, t', q1, q2, q3, q4, q5, q6⟩
    · obtain ⟨h1, h2, h3, h4⟩ := (I s i t).mp q
      obtain ⟨h5, h6⟩ := hst i h3
      exact ⟨0, i, t, h3, h4, h1, rfl, rfl, h2, by omega, by omega⟩
    · have h7 := or_gt q3
      obtain ⟨l, a, x, r1, r2, r3⟩ := ih s' k t' (by omega) q4
      refine ⟨l + 1, a, x, r1, r2, s', k, t', q2, q3, q1.2.2, ?_, ?_, ?_, r3⟩
      · rw [q5]; unfold arv; omega
      · rw [q5]; exact q6
      · rw [q5]; unfold arv; omega
theorem PS_lt : ∀ {m s a x b y : Nat}, PS fr ti on n m s a x b y → s < 2 ^ n ∧ b < n := by
  intro m
  induction m with
  | zero =>
    rintro s a x b y ⟨rfl, rfl, rfl, h1, h2, h3⟩
    exact ⟨Nat.pow_lt_pow_right (by omega) h1, h1⟩
  | succ m ih =>
    rintro s a x b y ⟨s', d, w, rfl, q2, q3, q4, q5, q6, q7⟩
    exact ⟨Nat.or_lt_two_pow (ih q7).1 (Nat.pow_lt_pow_right (by omega) q3), q3⟩
theorem F_comp {ok : Nat → Prop} {st : Nat → Nat} {T0 F : Nat → Nat → Option Nat} (I : Ini n ok st T0) (J : Jn fr ti on T0 (fun a b c => a < 2 ^ n ∧ b < n ∧ c < n) F) : ∀ {m s a x i t : Nat}, PS fr ti on n m s a x i t → ok a → st a ≤ x → ∃ t', t' ≤ t ∧ F s i = some t' := by
  intro m
  induction m with
  | zero =>
    rintro s a x i t ⟨rfl, rfl, rfl, h1, h2, h3⟩ h4 h5
    obtain ⟨t', q1, q2⟩ := J.2.2 (2 ^ a) a (st a) ((I _ _ _).mpr ⟨rfl, h1, h4, rfl⟩)
    exact ⟨t', by omega, q2⟩
  | succ m ih =>
    rintro s a x i t ⟨s', d, w, rfl, q2, q3, q4, q5, q6, q7⟩ h4 h5
    obtain ⟨w', r1, r2⟩ := ih q7 h4 h5
    have h6 := PS_lt q7
    have h7 : arv fr on w' d i ≤ t := by unfold arv; omega
    obtain ⟨t', r3, r4⟩ := J.2.1 s' d i w' ⟨h6.1, h6.2, q3⟩ r2 q2 (by omega)
    exact ⟨t', by omega, r4⟩
end PATHS
/-- a schedule read backwards, its minutes taken from C -/
theorem PS_back {fr ti : Nat → Nat} {on : Nat → Nat → Nat} {n C : Nat} (hC : ∀ i, i < n → ti i ≤ C) : ∀ {m s a x b y : Nat}, PC fr ti on n m s a x b y → PS (fun i => C - ti i) (fun i => C - fr i) (fun k i => on i k) n m s b (C - y) a (C - x) := by
  intro m
  induction m with
  | zero =>
    rintro s a x b y ⟨rfl, rfl, rfl, h1, h2, h3⟩
    have := hC a h1
    exact ⟨rfl, rfl, rfl, h1, by dsimp only; omega, by dsimp only; omega⟩
  | succ m ih =>
    rintro s a x b y ⟨s', c, z, rfl, q2, q3, q4, q5, q6, q7⟩
    have h1 := hC a q3
    have h3 := ih q7
    have hz : z ≤ C := by
      cases m with
      | zero =>
        obtain ⟨r1, r2, r3, r4, r5, r6⟩ := q7
        have := hC c r4
        omega
      | succ m =>
        obtain ⟨s2, c2, z2, r1, r2, r3, r4, r5, r6⟩ := q7
        have := hC c r3
        omega
    refine ⟨s', c, C - z, rfl, q2, q3, ?_, ?_, ?_, h3⟩
    · dsimp only; omega
    · dsimp only; omega
    · dsimp only; omega
