/-! who: the class -/
theorem cnd_bit {m j p : Nat} (hp : p < 32) : ((nI m &&& (nI j ^^^ (-1 : Int32))) &&& ((1 : Int32) <<< (nI p &&& 31))) = 0 ↔ ¬ (m.testBit p = true ∧ j.testBit p = false) := by
  have hb : ∀ i, i < 32 → bt ((nI m &&& (nI j ^^^ (-1 : Int32))) &&& ((1 : Int32) <<< (nI p &&& 31))) i = ((m.testBit i && !j.testBit i) && decide (i = p)) := by
    intro i hi
    rw [b_and, b_and, b_xor, b_m1 i hi, b_nI hi, b_nI hi, b_sh1 hp hi, Bool.xor_true]
  constructor
  · rintro h ⟨h1, h2⟩
    have := hb p hp
    rw [h, b_0, h1, h2] at this
    simp at this
  · intro h
    apply b_ext
    intro i hi
    rw [hb i hi, b_0]
    by_cases e : i = p
    · subst e
      cases h1 : m.testBit i <;> cases h2 : j.testBit i <;> simp_all
    · simp [e]
def Fw (l : List Nat) (m j s : Nat) : Prop := ∃ q p, q < j ∧ Rr l q ∧ p < 8 ∧ m.testBit p = true ∧ q.testBit p = false ∧ s = q ||| 2 ^ p
theorem or_lt : ∀ q, q < 256 → ∀ p, p < 8 → q ||| 2 ^ p < 256 := by decide +kernel
theorem pop_or : ∀ q, q < 256 → ∀ p, p < 8 → q.testBit p = false → popN 8 (q ||| 2 ^ p) = popN 8 q + 1 := by decide +kernel
theorem cl_or {q p : Nat} (h : q.testBit p = false) : cl (q ||| 2 ^ p) p = q := by
  apply Nat.eq_of_testBit_eq
  intro i
  rw [cl_bit, Nat.testBit_or, Nat.testBit_two_pow]
  by_cases e : i = p
  · subst e
    rw [h]
    simp
  · have : ¬ p = i := fun z => e z.symm
    simp [e, this]
theorem or_cl {s p : Nat} (h : s.testBit p = true) : cl s p ||| 2 ^ p = s := by
  apply Nat.eq_of_testBit_eq
  intro i
  rw [Nat.testBit_or, cl_bit, Nat.testBit_two_pow]
  by_cases e : i = p
  · subst e
    rw [h]
    simp
  · have : ¬ p = i := fun z => e z.symm
    simp [e, this]
theorem Fw_pop {l : List Nat} {m j s : Nat} (h : Fw l m j s) : popN 8 s = l.length + 1 := by
  obtain ⟨q, p, h1, h2, h3, h4, h5, rfl⟩ := h
  rw [pop_or q (Rr_lt h2) p h3 h5, Rr_pop h2]
theorem Fw_end {l : List Nat} {m s : Nat} : (Ac l s ∨ Fw l m 256 s) ↔ Ac (m :: l) s := by
  constructor
  · rintro (h | h)
    · exact Or.inr h
    · obtain ⟨q, p, h1, h2, h3, h4, h5, rfl⟩ := h
      refine Or.inl ⟨p, h3, ?_, h4, ?_⟩
      · rw [Nat.testBit_or, Nat.testBit_two_pow_self, Bool.or_true]
      · rw [cl_or h5]
        exact h2
  · rintro (h | h)
    · have hs := Rr_lt h
      obtain ⟨p, h1, h2, h3, h4⟩ := h
      refine Or.inr ⟨cl s p, p, cl_lt s hs p h1, h4, h1, h3, ?_, (or_cl h2).symm⟩
      rw [cl_bit]
      simp
    · exact Or.inl h
section WHOC
variable {A : Nat → Nat} {S : Nat → Prop} {h0 h : AH} {X : Nat → Nat → Int32} {wd : Nat → Int32} {N : Nat → Nat} {Q : Int32 → AH → Prop} {Qv : AH → Prop} {a3 : Nat}
theorem al_G (H : G A S h0 X h) {id len : Nat} (hs : S (sg id)) (ht : tk id = (20, len)) {K : Int32 → Prop} (kk : K (nI len)) : al h (A id) 0 K := ⟨H.kd (a := 19) hs ht, by rw [H.ln (a := 0) hs ht]; exact kk⟩
theorem c_nameOne (H : G A S h0 X h) {l : List Nat} {m : Nat} (hl : l.length ≤ 8) (I : ∀ s, s < 256 → X 907 s = pI (Ac l s)) (k : ∀ X' h', G A S h0 X' h' → Off [907] X X' → (∀ s, s < 256 → X' 907 s = pI (Ac (m :: l) s)) → Qv h') : w_X8_nameOne (A 8) (nI m) (nI l.length) h Qv := by
  refine lp_inv 256 (fun j (s : Int32 × AH) => s.1 = nI j ∧ ∃ X', G A S h0 X' s.2 ∧ Off [907] X X' ∧ ∀ s, s < 256 → X' 907 s = pI (Ac l s ∨ Fw l m j s)) (fun j s kk1 hj hI kk => ?_) (fun s kk1 hI => ?_) (Nat.zero_le _) ⟨rfl, X, H, Off.rf _ _, fun s hs => ?_⟩
  · obtain ⟨v, h1⟩ := s
    obtain ⟨e1, X1, H1, o1, I1⟩ := hI
    dsimp only at e1 H1 ⊢
    subst e1
    have knot : ¬ Rr l j → kk1 (nI j + 1, h1) := by
      intro hn
      refine kk _ ⟨(nI_succ j).symm, X1, H1, o1, fun s hs => ?_⟩
      rw [I1 s hs]
      congr 1
      refine propext (or_congr_right ?_)
      constructor
      · rintro ⟨q, p, q1, q2⟩
        exact ⟨q, p, by omega, q2⟩
      · rintro ⟨q, p, q1, q2, q3⟩
        have : q ≠ j := fun z => hn (z ▸ q2)
        exact ⟨q, p, by omega, q2, q3⟩
    unfold w_X8_nameOne_2
    dsimp only [w_X8_nameOne_70]
    refine fP (o := 8) H1 H1.b rfl rfl ?_
    refine al_G (id := 907) H1 H1.b rfl ?_
    refine br_go (a := 256) hj (by decide) ?_
    refine fP (o := 8) H1 H1.b rfl rfl ?_
    refine aG (id := 907) H1 H1.b rfl (by decide) rfl (by omega) ?_
    rw [I1 j hj]
    refine br_if (fun c => ?_) (fun c => ?_)
    · rw [pI_1] at c
      refine bitCount ?_
      rw [pc_N j hj]
      have hp8 := pc_lt j hj
      refine br_Eq (by omega) (by omega) (fun d => ?_) (fun d => ?_)
      · have hR : Rr l j := by
          rcases c with c | c
          · exact Ac_Rr.mp ⟨c, d⟩
          · have := Fw_pop c
            omega
        refine lp_inv 8 (fun p (s : Int32 × AH) => s.1 = nI p ∧ ∃ X', G A S h0 X' s.2 ∧ Off [907] X X' ∧ ∀ s, s < 256 → X' 907 s = pI (Ac l s ∨ Fw l m j s ∨ ∃ p', p' < p ∧ m.testBit p' = true ∧ j.testBit p' = false ∧ s = j ||| 2 ^ p')) (fun p s kk2 hp hI kk3 => ?_) (fun s kk2 hI => ?_) (Nat.zero_le _) ⟨rfl, X1, H1, o1, fun s hs => ?_⟩
        · obtain ⟨v, h2⟩ := s
          obtain ⟨e1, X2, H2, o2, I2⟩ := hI
          dsimp only at e1 H2 ⊢
          subst e1
          dsimp only [w_X8_nameOne_32, w_X8_nameOne_64]
          refine br_go (a := 8) hp (by decide) ?_
          refine br_if (fun c2 => ?_) (fun c2 => ?_)
          · rw [cnd_bit (by omega)] at c2
            refine kk3 _ ⟨(nI_succ p).symm, X2, H2, o2, fun s hs => ?_⟩
            rw [I2 s hs]
            congr 1
            refine propext (or_congr_right (or_congr_right ?_))
            constructor
            · rintro ⟨p', q1, q2⟩
              exact ⟨p', by omega, q2⟩
            · rintro ⟨p', q1, q2, q3, q4⟩
              have : p' ≠ p := fun z => c2 (z ▸ ⟨q2, q3⟩)
              exact ⟨p', by omega, q2, q3, q4⟩
          · rw [cnd_bit (by omega)] at c2
            have c2 := Decidable.not_not.mp c2
            refine fP (o := 8) H2 H2.b rfl rfl ?_
            rw [sh1 (by omega), nI_or]
            refine tG (id := 907) H2 H2.b rfl (by decide) rfl (or_lt j hj p hp) (fun h3 H3 => ?_)
            refine kk3 _ ⟨(nI_succ p).symm, _, H3, o2.up (by decide) _ _, fun s hs => ?_⟩
            by_cases e : s = j ||| 2 ^ p
            · subst e
              rw [up_same, pI_t (Or.inr (Or.inr ⟨p, by omega, c2.1, c2.2, rfl⟩))]
            · rw [up_n _ _ _ e, I2 s hs]
              congr 1
              refine propext (or_congr_right (or_congr_right ?_))
              constructor
              · rintro ⟨p', q1, q2⟩
                exact ⟨p', by omega, q2⟩
              · rintro ⟨p', q1, q2, q3, q4⟩
                have : p' ≠ p := fun z => e (z ▸ q4)
                exact ⟨p', by omega, q2, q3, q4⟩
        · obtain ⟨v, h2⟩ := s
          obtain ⟨e1, X2, H2, o2, I2⟩ := hI
          dsimp only at e1 H2 ⊢
          subst e1
          dsimp only [w_X8_nameOne_32]
          refine br_end (a := 8) ?_
          refine kk _ ⟨(nI_succ j).symm, X2, H2, o2, fun s hs => ?_⟩
          rw [I2 s hs]
          congr 1
          refine propext (or_congr_right ?_)
          constructor
          · rintro (⟨q, p, q1, q2⟩ | ⟨p, q1, q2, q3, q4⟩)
            · exact ⟨q, p, by omega, q2⟩
            · exact ⟨j, p, by omega, hR, q1, q2, q3, q4⟩
          · rintro ⟨q, p, q1, q2, q3, q4, q5, q6⟩
            by_cases e : q = j
            · subst e
              exact Or.inr ⟨p, q3, q4, q5, q6⟩
            · exact Or.inl ⟨q, p, by omega, q2, q3, q4, q5, q6⟩
        · rw [I1 s hs]
          congr 1
          refine propext (or_congr_right ⟨Or.inl, ?_⟩)
          rintro (z | ⟨p', q1, q2⟩)
          · exact z
          · omega
      · exact knot (fun z => d (Rr_pop z))
    · rw [pI_1] at c
      exact knot (fun z => c (Or.inl (Ac_Rr.mpr z).1))
  · obtain ⟨v, h1⟩ := s
    obtain ⟨e1, X1, H1, o1, I1⟩ := hI
    dsimp only at e1 H1 ⊢
    subst e1
    unfold w_X8_nameOne_2
    refine fP (o := 8) H1 H1.b rfl rfl ?_
    refine al_G (id := 907) H1 H1.b rfl ?_
    refine br_end (a := 256) (k X1 h1 H1 o1 (fun s hs => ?_))
    rw [I1 s hs]
    congr 1
    exact propext Fw_end
  · rw [I s hs]
    congr 1
    refine propext ⟨Or.inl, ?_⟩
    rintro (z | ⟨q, p, q1, q2⟩)
    · exact z
    · omega
end WHOC
