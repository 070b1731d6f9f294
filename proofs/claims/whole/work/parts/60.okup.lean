/-! what keeps the bounds -/
theorem OkG_c {wd wd' : Nat → Int32} {g : Nat} (h : OkG wd g) (e : ∀ i, 269 + 4 * g ≤ i → i < 269 + 4 * g + 4 → wd' i = wd i) : OkG wd' g := by
  unfold OkG at *
  rw [e (269 + 4 * g) (by omega) (by omega)]
  rw [e (270 + 4 * g) (by omega) (by omega)]
  rw [e (272 + 4 * g) (by omega) (by omega)]
  exact h
theorem OkP_c {wd wd' : Nat → Int32} {N : Nat → Nat} {g : Nat} (h : OkP wd N g) (e : ∀ i, 301 + 6 * g ≤ i → i < 301 + 6 * g + 6 → wd' i = wd i) : OkP wd' N g := by
  unfold OkP at *
  rw [e (301 + 6 * g) (by omega) (by omega)]
  rw [e (302 + 6 * g) (by omega) (by omega)]
  rw [e (303 + 6 * g) (by omega) (by omega)]
  rw [e (304 + 6 * g) (by omega) (by omega)]
  rw [e (305 + 6 * g) (by omega) (by omega)]
  rw [e (306 + 6 * g) (by omega) (by omega)]
  exact h
theorem OkF_c {wd wd' : Nat → Int32} {g : Nat} (h : OkF wd g) (e : ∀ i, 349 + 6 * g ≤ i → i < 349 + 6 * g + 6 → wd' i = wd i) : OkF wd' g := by
  unfold OkF at *
  rw [e (349 + 6 * g) (by omega) (by omega)]
  rw [e (350 + 6 * g) (by omega) (by omega)]
  rw [e (351 + 6 * g) (by omega) (by omega)]
  rw [e (352 + 6 * g) (by omega) (by omega)]
  rw [e (353 + 6 * g) (by omega) (by omega)]
  rw [e (354 + 6 * g) (by omega) (by omega)]
  exact h
theorem OkT_c {wd wd' : Nat → Int32} {g : Nat} (h : OkT wd g) (e : ∀ i, 1069 + 4 * g ≤ i → i < 1069 + 4 * g + 4 → wd' i = wd i) : OkT wd' g := by
  unfold OkT at *
  rw [e (1069 + 4 * g) (by omega) (by omega)]
  rw [e (1070 + 4 * g) (by omega) (by omega)]
  rw [e (1071 + 4 * g) (by omega) (by omega)]
  rw [e (1072 + 4 * g) (by omega) (by omega)]
  exact h
theorem OkL_c {wd wd' : Nat → Int32} {N : Nat → Nat} {g : Nat} (h : OkL wd N g) (e : ∀ i, 1101 + 3 * g ≤ i → i < 1101 + 3 * g + 3 → wd' i = wd i) : OkL wd' N g := by
  unfold OkL at *
  rw [e (1101 + 3 * g) (by omega) (by omega)]
  rw [e (1102 + 3 * g) (by omega) (by omega)]
  rw [e (1103 + 3 * g) (by omega) (by omega)]
  exact h
theorem OkS_c {wd wd' : Nat → Int32} {g : Nat} (h : OkS wd g) (e : ∀ i, 1161 + g ≤ i → i < 1161 + g + 1 → wd' i = wd i) : OkS wd' g := by
  unfold OkS at *
  rw [e (1161 + g) (by omega) (by omega)]
  exact h
/-- places that the bounds speak of -/
def us (N : Nat → Nat) (w : Nat) : Prop := (w < 8 ∨ 10 ≤ w ∧ w < 269) ∨ (269 ≤ w ∧ w < 269 + 4 * N 0) ∨ (301 ≤ w ∧ w < 301 + 6 * N 1) ∨ (349 ≤ w ∧ w < 349 + 6 * N 3) ∨ (1069 ≤ w ∧ w < 1069 + 4 * N 4) ∨ (1101 ≤ w ∧ w < 1101 + 3 * N 5) ∨ (1161 ≤ w ∧ w < 1161 + N 6)
section OKU
variable {wd : Nat → Int32} {N : Nat → Nat}
theorem Ok.co {wd' : Nat → Int32} (O : Ok wd N) (e : ∀ i, us N i → wd' i = wd i) : Ok wd' N := by
  have hg := O.g.2; have hp := O.p.2; have hl := O.l.2; have hf := O.f.2; have ht := O.t.2; have ho := O.o.2; have hs := O.s.2
  have q : ∀ i M, i < 8 ∨ 10 ≤ i ∧ i < 269 → bN wd N i M → bN wd' N i M := fun i M hi h => ⟨by rw [e i (Or.inl hi)]; exact h.1, h.2⟩
  obtain ⟨⟨n0, n1, n2, n3, n4, n5, n6, n7, n10, n11, n12⟩, o1, o2, o3, o4, o5, o6, o7⟩ := O
  refine ⟨⟨q _ _ (by omega) n0, q _ _ (by omega) n1, q _ _ (by omega) n2, q _ _ (by omega) n3, q _ _ (by omega) n4, q _ _ (by omega) n5, q _ _ (by omega) n6, q _ _ (by omega) n7, q _ _ (by omega) n10, q _ _ (by omega) n11, q _ _ (by omega) n12⟩, ?_, ?_, ?_, ?_, ?_, ?_, ?_⟩
  · intro c hc
    rw [e (13 + c) (by unfold us; omega)]
    exact o1 c hc
  · exact fun g h => OkG_c (o2 g h) (fun i h1 h2 => e i (by unfold us; omega))
  · exact fun g h => OkP_c (o3 g h) (fun i h1 h2 => e i (by unfold us; omega))
  · exact fun g h => OkF_c (o4 g h) (fun i h1 h2 => e i (by unfold us; omega))
  · exact fun g h => OkT_c (o5 g h) (fun i h1 h2 => e i (by unfold us; omega))
  · exact fun g h => OkL_c (o6 g h) (fun i h1 h2 => e i (by unfold us; omega))
  · exact fun g h => OkS_c (o7 g h) (fun i h1 h2 => e i (by unfold us; omega))
theorem Ok.irr (O : Ok wd N) {w : Nat} (h : ¬ us N w) (v : Int32) : Ok (va_up wd w v) N := O.co (fun i hi => va_up_ne _ _ (fun z => h (z ▸ hi)))
theorem Ok.sc (O : Ok wd N) {w n M : Nat} (hw : (w = 7 ∧ M = 239) ∨ (w = 10 ∧ M = 9) ∨ (w = 11 ∧ M = 3) ∨ (w = 12 ∧ M = 65535)) (hn : n ≤ M) : Ok (va_up wd w (nI n)) (va_up N w n) := by
  have q : ∀ i M', (i ≠ w ∨ (i = w ∧ M' = M)) → bN wd N i M' → bN (va_up wd w (nI n)) (va_up N w n) i M' := by
    intro i M' hi h
    by_cases c : i = w
    · subst c
      have : M' = M := by omega
      subst this
      exact ⟨by rw [va_up_self, va_up_self], by rw [va_up_self]; exact hn⟩
    · exact ⟨by rw [va_up_ne _ _ c, va_up_ne _ _ c]; exact h.1, by rw [va_up_ne _ _ c]; exact h.2⟩
  have e : ∀ i, 13 ≤ i → va_up wd w (nI n) i = wd i := fun i hi => va_up_ne _ _ (by omega)
  have f : ∀ i, i < 7 → va_up N w n i = N i := fun i hi => va_up_ne _ _ (by omega)
  obtain ⟨⟨n0, n1, n2, n3, n4, n5, n6, n7, n10, n11, n12⟩, o1, o2, o3, o4, o5, o6, o7⟩ := O
  refine ⟨⟨q _ _ (by omega) n0, q _ _ (by omega) n1, q _ _ (by omega) n2, q _ _ (by omega) n3, q _ _ (by omega) n4, q _ _ (by omega) n5, q _ _ (by omega) n6, q _ _ (by omega) n7, q _ _ (by omega) n10, q _ _ (by omega) n11, q _ _ (by omega) n12⟩, ?_, ?_, ?_, ?_, ?_, ?_, ?_⟩
  · intro c hc
    rw [e (13 + c) (by omega)]
    exact o1 c hc
  · rw [f 0 (by decide)]
    exact fun g h => OkG_c (o2 g h) (fun i h1 h2 => e i (by omega))
  · rw [f 1 (by decide)]
    intro g h
    have := OkP_c (wd' := va_up wd w (nI n)) (o3 g h) (fun i h1 h2 => e i (by omega))
    unfold OkP at this ⊢
    rw [f 0 (by decide), f 2 (by decide)]
    exact this
  · rw [f 3 (by decide)]
    exact fun g h => OkF_c (o4 g h) (fun i h1 h2 => e i (by omega))
  · rw [f 4 (by decide)]
    exact fun g h => OkT_c (o5 g h) (fun i h1 h2 => e i (by omega))
  · rw [f 5 (by decide)]
    intro g h
    have := OkL_c (wd' := va_up wd w (nI n)) (o6 g h) (fun i h1 h2 => e i (by omega))
    unfold OkL at this ⊢
    rw [f 4 (by decide)]
    exact this
  · rw [f 6 (by decide)]
    exact fun g h => OkS_c (o7 g h) (fun i h1 h2 => e i (by omega))
/-- one more of a kind -/
theorem Ok.inc (O : Ok wd N) {w M : Nat} (hw : (w = 0 ∧ M = 8 ∧ OkG wd (N 0)) ∨ (w = 1 ∧ M = 8 ∧ OkP wd N (N 1)) ∨ (w = 2 ∧ M = 4) ∨ (w = 3 ∧ M = 120 ∧ OkF wd (N 3)) ∨ (w = 4 ∧ M = 8 ∧ OkT wd (N 4)) ∨ (w = 5 ∧ M = 20 ∧ OkL wd N (N 5)) ∨ (w = 6 ∧ M = 5 ∧ OkS wd (N 6))) (hn : N w < M) : Ok (va_up wd w (nI (N w + 1))) (va_up N w (N w + 1)) := by
  have q : ∀ i M', (i ≠ w ∨ (i = w ∧ M' = M)) → bN wd N i M' → bN (va_up wd w (nI (N w + 1))) (va_up N w (N w + 1)) i M' := by
    intro i M' hi h
    by_cases c : i = w
    · subst c
      have : M' = M := by omega
      subst this
      exact ⟨by rw [va_up_self, va_up_self], by rw [va_up_self]; exact hn⟩
    · exact ⟨by rw [va_up_ne _ _ c, va_up_ne _ _ c]; exact h.1, by rw [va_up_ne _ _ c]; exact h.2⟩
  have e : ∀ i, 7 ≤ i → va_up wd w (nI (N w + 1)) i = wd i := fun i hi => va_up_ne _ _ (by omega)
  have g0 : ∀ i, va_up N w (N w + 1) i = if i = w then N w + 1 else N i := fun i => rfl
  have mono : ∀ i, N i ≤ va_up N w (N w + 1) i := by
    intro i
    rw [g0]
    split
    · rename_i c
      rw [c]
      omega
    · exact Nat.le_refl _
  have lt : ∀ i g, g < va_up N w (N w + 1) i → g < N i ∨ (i = w ∧ g = N i) := by
    intro i g h
    rw [g0] at h
    split at h
    · rename_i c
      subst c
      omega
    · exact Or.inl h
  have hP : ∀ p, OkP wd N p → OkP (va_up wd w (nI (N w + 1))) (va_up N w (N w + 1)) p := by
    intro p h
    have := OkP_c (wd' := va_up wd w (nI (N w + 1))) h (fun i h1 h2 => e i (by omega))
    unfold OkP at this ⊢
    refine ⟨this.1.imp id (fun ⟨g, h1, h2⟩ => ⟨g, Nat.lt_of_lt_of_le h1 (mono 0), h2⟩), this.2.1, this.2.2.1, this.2.2.2.1, this.2.2.2.2.1, this.2.2.2.2.2.imp id (fun ⟨g, h1, h2⟩ => ⟨g, Nat.lt_of_lt_of_le h1 (mono 2), h2⟩)⟩
  have hL : ∀ p, OkL wd N p → OkL (va_up wd w (nI (N w + 1))) (va_up N w (N w + 1)) p := by
    intro p h
    have := OkL_c (wd' := va_up wd w (nI (N w + 1))) h (fun i h1 h2 => e i (by omega))
    unfold OkL at this ⊢
    obtain ⟨⟨g, h1, h2⟩, h3⟩ := this
    exact ⟨⟨g, Nat.lt_of_lt_of_le h1 (mono 4), h2⟩, h3⟩
  obtain ⟨⟨n0, n1, n2, n3, n4, n5, n6, n7, n10, n11, n12⟩, o1, o2, o3, o4, o5, o6, o7⟩ := O
  refine ⟨⟨q _ _ (by omega) n0, q _ _ (by omega) n1, q _ _ (by omega) n2, q _ _ (by omega) n3, q _ _ (by omega) n4, q _ _ (by omega) n5, q _ _ (by omega) n6, q _ _ (by omega) n7, q _ _ (by omega) n10, q _ _ (by omega) n11, q _ _ (by omega) n12⟩, ?_, ?_, ?_, ?_, ?_, ?_, ?_⟩
  · intro c hc
    rw [e (13 + c) (by omega)]
    exact o1 c hc
  · intro g h
    refine OkG_c (wd := wd) ?_ (fun i h1 h2 => e i (by omega))
    rcases lt 0 g h with h | ⟨c, rfl⟩
    · exact o2 g h
    · rcases hw with z | z | z | z | z | z | z
      · exact z.2.2
      all_goals (exact absurd z.1 (by omega))
  · intro g h
    refine hP g ?_
    rcases lt 1 g h with h | ⟨c, rfl⟩
    · exact o3 g h
    · rcases hw with z | z | z | z | z | z | z
      · exact absurd z.1 (by omega)
      · exact z.2.2
      all_goals (exact absurd z.1 (by omega))
  · intro g h
    refine OkF_c (wd := wd) ?_ (fun i h1 h2 => e i (by omega))
    rcases lt 3 g h with h | ⟨c, rfl⟩
    · exact o4 g h
    · rcases hw with z | z | z | z | z | z | z
      · exact absurd z.1 (by omega)
      · exact absurd z.1 (by omega)
      · exact absurd z.1 (by omega)
      · exact z.2.2
      all_goals (exact absurd z.1 (by omega))
  · intro g h
    refine OkT_c (wd := wd) ?_ (fun i h1 h2 => e i (by omega))
    rcases lt 4 g h with h | ⟨c, rfl⟩
    · exact o5 g h
    · rcases hw with z | z | z | z | z | z | z
      · exact absurd z.1 (by omega)
      · exact absurd z.1 (by omega)
      · exact absurd z.1 (by omega)
      · exact absurd z.1 (by omega)
      · exact z.2.2
      all_goals (exact absurd z.1 (by omega))
  · intro g h
    refine hL g ?_
    rcases lt 5 g h with h | ⟨c, rfl⟩
    · exact o6 g h
    · rcases hw with z | z | z | z | z | z | z
      · exact absurd z.1 (by omega)
      · exact absurd z.1 (by omega)
      · exact absurd z.1 (by omega)
      · exact absurd z.1 (by omega)
      · exact absurd z.1 (by omega)
      · exact z.2.2
      · exact absurd z.1 (by omega)
  · intro g h
    refine OkS_c (wd := wd) ?_ (fun i h1 h2 => e i (by omega))
    rcases lt 6 g h with h | ⟨c, rfl⟩
    · exact o7 g h
    · rcases hw with z | z | z | z | z | z | z
      · exact absurd z.1 (by omega)
      · exact absurd z.1 (by omega)
      · exact absurd z.1 (by omega)
      · exact absurd z.1 (by omega)
      · exact absurd z.1 (by omega)
      · exact absurd z.1 (by omega)
      · exact z.2.2
/-- one of the people, guns or finds is changed -/
theorem Ok.set (O : Ok wd N) {w : Nat} {v : Int32} (hw : (∃ p, p < N 1 ∧ 301 + 6 * p ≤ w ∧ w < 307 + 6 * p ∧ OkP (va_up wd w v) N p) ∨ (∃ p, p < N 0 ∧ 269 + 4 * p ≤ w ∧ w < 273 + 4 * p ∧ OkG (va_up wd w v) p) ∨ (∃ p, p < N 3 ∧ 349 + 6 * p ≤ w ∧ w < 355 + 6 * p ∧ OkF (va_up wd w v) p) ∨ (∃ c, c < 256 ∧ w = 13 + c ∧ bn v 9)) : Ok (va_up wd w v) N := by
  have hg := O.g.2; have hp := O.p.2; have hf := O.f.2; have ht := O.t.2; have ho := O.o.2; have hs := O.s.2
  have q : ∀ i M, i < 13 → bN wd N i M → bN (va_up wd w v) N i M := fun i M hi h => ⟨by rw [va_up_ne _ _ (by omega)]; exact h.1, h.2⟩
  obtain ⟨⟨n0, n1, n2, n3, n4, n5, n6, n7, n10, n11, n12⟩, o1, o2, o3, o4, o5, o6, o7⟩ := O
  refine ⟨⟨q _ _ (by omega) n0, q _ _ (by omega) n1, q _ _ (by omega) n2, q _ _ (by omega) n3, q _ _ (by omega) n4, q _ _ (by omega) n5, q _ _ (by omega) n6, q _ _ (by omega) n7, q _ _ (by omega) n10, q _ _ (by omega) n11, q _ _ (by omega) n12⟩, ?_, ?_, ?_, ?_, ?_, ?_, ?_⟩
  · intro c hc
    by_cases e : 13 + c = w
    · rcases hw with ⟨p, h1, h2, h3, h4⟩ | ⟨p, h1, h2, h3, h4⟩ | ⟨p, h1, h2, h3, h4⟩ | ⟨p, h1, h2, h3⟩
      · omega
      · omega
      · omega
      · rw [e, va_up_self]
        exact h3
    · rw [va_up_ne _ _ e]
      exact o1 c hc
  · intro g h
    by_cases e : 269 + 4 * g ≤ w ∧ w < 273 + 4 * g
    · rcases hw with ⟨p, h1, h2, h3, h4⟩ | ⟨p, h1, h2, h3, h4⟩ | ⟨p, h1, h2, h3, h4⟩ | ⟨p, h1, h2, h3⟩
      · omega
      · have : p = g := by omega
        subst this
        exact h4
      · omega
      · omega
    · exact OkG_c (o2 g h) (fun i h1 h2 => va_up_ne _ _ (by omega))
  · intro g h
    by_cases e : 301 + 6 * g ≤ w ∧ w < 307 + 6 * g
    · rcases hw with ⟨p, h1, h2, h3, h4⟩ | ⟨p, h1, h2, h3, h4⟩ | ⟨p, h1, h2, h3, h4⟩ | ⟨p, h1, h2, h3⟩
      · have : p = g := by omega
        subst this
        exact h4
      · omega
      · omega
      · omega
    · exact OkP_c (o3 g h) (fun i h1 h2 => va_up_ne _ _ (by omega))
  · intro g h
    by_cases e : 349 + 6 * g ≤ w ∧ w < 355 + 6 * g
    · rcases hw with ⟨p, h1, h2, h3, h4⟩ | ⟨p, h1, h2, h3, h4⟩ | ⟨p, h1, h2, h3, h4⟩ | ⟨p, h1, h2, h3⟩
      · omega
      · omega
      · have : p = g := by omega
        subst this
        exact h4
      · omega
    · exact OkF_c (o4 g h) (fun i h1 h2 => va_up_ne _ _ (by omega))
  · exact fun g h => OkT_c (o5 g h) (fun i h1 h2 => va_up_ne _ _ (by rcases hw with ⟨p, y⟩ | ⟨p, y⟩ | ⟨p, y⟩ | ⟨p, y⟩ <;> omega))
  · exact fun g h => OkL_c (o6 g h) (fun i h1 h2 => va_up_ne _ _ (by rcases hw with ⟨p, y⟩ | ⟨p, y⟩ | ⟨p, y⟩ | ⟨p, y⟩ <;> omega))
  · exact fun g h => OkS_c (o7 g h) (fun i h1 h2 => va_up_ne _ _ (by rcases hw with ⟨p, y⟩ | ⟨p, y⟩ | ⟨p, y⟩ | ⟨p, y⟩ <;> omega))
end OKU
