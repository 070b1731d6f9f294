/-! ways: the first case of a soonest round, forward and backward -/
theorem PS_rev {fr ti fr2 ti2 : Nat → Nat} {on on2 : Nat → Nat → Nat} {n C : Nat} (h1 : ∀ i, i < n → fr2 i + ti i = C) (h2 : ∀ i, i < n → ti2 i + fr i = C) (h3 : ∀ k i, on2 k i = on i k) : ∀ {m s a x b y : Nat}, PC fr ti on n m s a x b y → PS fr2 ti2 on2 n m s b (C - y) a (C - x) := by
  intro m
  induction m with
  | zero =>
    rintro s a x b y ⟨rfl, rfl, rfl, q1, q2, q3⟩
    have := h1 a q1
    have := h2 a q1
    exact ⟨rfl, rfl, rfl, q1, by omega, by omega⟩
  | succ m ih =>
    rintro s a x b y ⟨s', c, z, rfl, q2, q3, q4, q5, q6, q7⟩
    have g1 := h1 a q3
    have g2 := h2 a q3
    have hz : z ≤ C := by
      cases m with
      | zero =>
        obtain ⟨r1, r2, r3, r4, r5, r6⟩ := q7
        have := h1 c r4
        omega
      | succ m =>
        obtain ⟨s2, c2, z2, r1, r2, r3, r4, r5, r6⟩ := q7
        have := h1 c r3
        omega
    refine ⟨s', c, C - z, rfl, q2, q3, by omega, by omega, ?_, ih q7⟩
    rw [h3]
    omega
theorem PS_end {fr ti : Nat → Nat} {on : Nat → Nat → Nat} {n : Nat} : ∀ {m s a x b y : Nat}, PS fr ti on n m s a x b y → b < n ∧ fr b ≤ y ∧ y ≤ ti b := by
  intro m
  cases m with
  | zero =>
    rintro s a x b y ⟨rfl, rfl, rfl, q1, q2, q3⟩
    exact ⟨q1, q2, q3⟩
  | succ m =>
    rintro s a x b y ⟨s', c, z, rfl, q2, q3, q4, q5, q6, q7⟩
    exact ⟨q3, q4, q5⟩
theorem PS_beg {fr ti : Nat → Nat} {on : Nat → Nat → Nat} {n : Nat} : ∀ {m s a x b y : Nat}, PS fr ti on n m s a x b y → a < n := by
  intro m
  induction m with
  | zero =>
    rintro s a x b y ⟨rfl, rfl, rfl, q1, q2, q3⟩
    exact q1
  | succ m ih =>
    rintro s a x b y ⟨s', c, z, rfl, q2, q3, q4, q5, q6, q7⟩
    exact ih q7
abbrev JF (fr ti : Nat → Nat) (on : Nat → Nat → Nat) (n : Nat) (T0 F : Nat → Nat → Option Nat) : Prop := Jn fr ti on T0 (fun a b c => a < 2 ^ n ∧ b < n ∧ c < n) F
theorem way_last {fr ti fr2 ti2 : Nat → Nat} {on on2 : Nat → Nat → Nat} {n C E k s : Nat} {T1 F T2 B : Nat → Nat → Option Nat} (h0 : ∀ i, i < n → fr i ≤ ti i) (h1 : ∀ i, i < n → fr2 i + ti i = C) (h2 : ∀ i, i < n → ti2 i + fr i = C) (h3 : ∀ k i, on2 k i = on i k) (hk : k < n) (I1 : Ini n (fun i => i = k) fr T1) (J1 : JF fr ti on n T1 F) (I2 : Ini n (fun i => i < n ∧ fr i ≤ min (ti i) E) (fun i => C - min (ti i) E) T2) (J2 : JF fr2 ti2 on2 n T2 B) : (∃ i t, F s i = some t ∧ t ≤ E) ↔ ∃ u, B s k = some u := by
  constructor
  · rintro ⟨i, t, q1, q2⟩
    obtain ⟨l, a, x, r1, r2, r3⟩ := F_sound I1 (fun i e => by subst e; exact ⟨Nat.le_refl _, h0 i hk⟩) J1 s s i t (Nat.le_refl _) q1
    subst r1
    have r4 := PS_end r3
    have g1 := h1 i r4.1
    obtain ⟨t', p1, p2⟩ := F_comp I2 J2 (PS_rev h1 h2 h3 (PS_PC r3)) ⟨r4.1, by omega⟩ (by omega)
    exact ⟨t', p2⟩
  · rintro ⟨u, q1⟩
    obtain ⟨l, a, x, r1, r2, r3⟩ := F_sound I2 (fun i e => by have := h1 i e.1; have := h2 i e.1; omega) J2 s s k u (Nat.le_refl _) q1
    have g1 := h1 a r1.1
    have g2 := h2 a r1.1
    have g3 := PS_rev (fr := fr2) (ti := ti2) (fr2 := fr) (ti2 := ti) (on := on2) (on2 := on) (C := C) (fun i h => by have := h2 i h; omega) (fun i h => by have := h1 i h; omega) (fun k i => (h3 i k).symm) (PS_PC r3)
    have g4 := PS_end r3
    have g5 := h2 k hk
    obtain ⟨t', p1, p2⟩ := F_comp I1 J1 g3 rfl (by omega)
    exact ⟨a, t', p2, by omega⟩
/-- the soonest end of a set -/
def erl (T : Nat → Nat → Option Nat) (s : Nat) : Nat → Option Nat
  | 0 => none
  | i + 1 => match T s i with
    | none => erl T s i
    | some t => mnO (erl T s i) t
theorem mnO_le {o : Option Nat} {t e : Nat} (h : mnO o t = some e) : (e = t ∨ o = some e) ∧ e ≤ t ∧ ∀ u, o = some u → e ≤ u := by
  cases o with
  | none => cases h; exact ⟨Or.inl rfl, Nat.le_refl _, fun u z => by cases z⟩
  | some w =>
    have q : min w t = e := Option.some.inj h
    refine ⟨?_, by omega, fun u z => ?_⟩
    · rcases Nat.le_total w t with c | c
      · exact Or.inr (congrArg some (by omega))
      · exact Or.inl (by omega)
    · cases z; omega
theorem mnO_ne {o : Option Nat} {t : Nat} : mnO o t ≠ none := by cases o <;> exact fun h => by cases h
theorem erl_some {T : Nat → Nat → Option Nat} {s : Nat} : ∀ {i e : Nat}, erl T s i = some e → (∃ j, j < i ∧ T s j = some e) ∧ ∀ j t, j < i → T s j = some t → e ≤ t := by
  intro i
  induction i with
  | zero => intro e h; cases h
  | succ i ih =>
    intro e h
    simp only [erl] at h
    cases c : T s i with
    | none =>
      rw [c] at h
      obtain ⟨⟨j, j1, j2⟩, q⟩ := ih h
      refine ⟨⟨j, by omega, j2⟩, fun j t hj ht => ?_⟩
      by_cases z : j = i
      · subst z; rw [c] at ht; cases ht
      · exact q j t (by omega) ht
    | some t =>
      rw [c] at h
      obtain ⟨m1, m2, m3⟩ := mnO_le h
      refine ⟨?_, fun j u hj hu => ?_⟩
      · rcases m1 with m1 | m1
        · exact ⟨i, by omega, by rw [c, m1]⟩
        · obtain ⟨⟨j, j1, j2⟩, _⟩ := ih m1
          exact ⟨j, by omega, j2⟩
      · by_cases z : j = i
        · subst z; rw [c] at hu; cases hu; exact m2
        · cases d : erl T s i with
          | none =>
            have : ∀ {i : Nat}, erl T s i = none → ∀ j, j < i → T s j = none := by
              intro i
              induction i with
              | zero => exact fun _ j h => absurd h (Nat.not_lt_zero _)
              | succ i ih2 =>
                intro h j hj
                simp only [erl] at h
                cases c2 : T s i with
                | none =>
                  rw [c2] at h
                  by_cases z2 : j = i
                  · subst z2; exact c2
                  · exact ih2 h j (by omega)
                | some t2 => rw [c2] at h; exact absurd h mnO_ne
            rw [this d j (by omega)] at hu
            cases hu
          | some w =>
            obtain ⟨_, q⟩ := ih d
            exact Nat.le_trans (m3 w d) (q j u (by omega) hu)
theorem erl_none {T : Nat → Nat → Option Nat} {s : Nat} : ∀ {i : Nat}, erl T s i = none ↔ ∀ j, j < i → T s j = none := by
  intro i
  induction i with
  | zero => exact ⟨fun _ j h => absurd h (Nat.not_lt_zero _), fun _ => rfl⟩
  | succ i ih =>
    simp only [erl]
    constructor
    · intro h j hj
      cases c : T s i with
      | none =>
        rw [c] at h
        by_cases z : j = i
        · subst z; exact c
        · exact ih.mp h j (by omega)
      | some t => rw [c] at h; exact absurd h mnO_ne
    · intro h
      rw [h i (by omega)]
      exact ih.mpr (fun j hj => h j (by omega))
/-- a case begins a soonest round -/
theorem way_first {fr ti fr2 ti2 : Nat → Nat} {on on2 : Nat → Nat → Nat} {n C E k s : Nat} {T0 F0 T1 F T2 B : Nat → Nat → Option Nat} (h0 : ∀ i, i < n → fr i ≤ ti i) (h1 : ∀ i, i < n → fr2 i + ti i = C) (h2 : ∀ i, i < n → ti2 i + fr i = C) (h3 : ∀ k i, on2 k i = on i k) (hk : k < n) (I0 : Ini n (fun _ => True) fr T0) (J0 : JF fr ti on n T0 F0) (hE : erl F0 s n = some E) (I1 : Ini n (fun i => i = k) fr T1) (J1 : JF fr ti on n T1 F) (I2 : Ini n (fun i => i < n ∧ fr i ≤ min (ti i) E) (fun i => C - min (ti i) E) T2) (J2 : JF fr2 ti2 on2 n T2 B) : erl F s n = some E ↔ B s k ≠ none := by
  have key := way_last (s := s) h0 h1 h2 h3 hk I1 J1 I2 J2
  have hB : B s k ≠ none ↔ ∃ u, B s k = some u := by
    cases B s k with
    | none => exact ⟨fun h => absurd rfl h, fun ⟨u, h⟩ => by cases h⟩
    | some u => exact ⟨fun _ => ⟨u, rfl⟩, fun _ h => by cases h⟩
  rw [hB, ← key]
  constructor
  · intro h
    obtain ⟨⟨j, _, j2⟩, _⟩ := erl_some h
    exact ⟨j, E, j2, Nat.le_refl _⟩
  · rintro ⟨i, t, q1, q2⟩
    have low : ∀ j t, F s j = some t → E ≤ t := by
      intro j t hj
      obtain ⟨l, a, x, r1, r2, r3⟩ := F_sound I1 (fun i e => by subst e; exact ⟨Nat.le_refl _, h0 i hk⟩) J1 s s j t (Nat.le_refl _) hj
      obtain ⟨t', p1, p2⟩ := F_comp I0 J0 r3 trivial (by subst r1; omega)
      have := (erl_some hE).2 j t' (PS_end r3).1 p2
      omega
    have hi : i < n := by
      obtain ⟨l, a, x, r1, r2, r3⟩ := F_sound I1 (fun i e => by subst e; exact ⟨Nat.le_refl _, h0 i hk⟩) J1 s s i t (Nat.le_refl _) q1
      exact (PS_end r3).1
    cases c : erl F s n with
    | none =>
      rw [erl_none.mp c i hi] at q1
      cases q1
    | some e =>
      obtain ⟨⟨j, _, j2⟩, q⟩ := erl_some c
      have := low j e j2
      have := q i t hi q1
      exact congrArg some (by omega)
