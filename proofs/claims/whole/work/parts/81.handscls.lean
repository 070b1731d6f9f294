/-! ways: hands, both programs' loops over parts -/
def LB (s p : Nat) : Prop := ∃ e, p.testBit e = true ∧ ∀ i, i < e → s.testBit i = false
def IsOp (pos : Nat → Prop) (n : Nat) (t : Nat → Nat) (m : Nat) : Prop := t 0 = 0 ∧ ∀ s, 0 < s → s < m → t s ≤ n ∧ (∀ p, sub_ p s → p ≠ 0 → pos p → LB s p → t s ≤ t (s ^^^ p) + 1) ∧ (t s = n ∨ ∃ p, sub_ p s ∧ p ≠ 0 ∧ pos p ∧ LB s p ∧ t s = t (s ^^^ p) + 1)
theorem IsOp.o {pos : Nat → Prop} {n : Nat} {t : Nat → Nat} (h : IsOp pos n t (2 ^ n)) : IsO pos n t := h
def IsAp (pos : Nat → Prop) (n : Nat) (t : Nat → Nat) (m : Nat) : Prop := t 0 = 0 ∧ ∀ s, 0 < s → s < m → t s ≤ 9 ∧ (∀ p, sub_ p s → p ≠ 0 → pos p → t s ≤ t (s ^^^ p) + 1) ∧ (t s = 9 ∨ ∃ p, sub_ p s ∧ p ≠ 0 ∧ pos p ∧ t s = t (s ^^^ p) + 1)
theorem IsAp.a {pos : Nat → Prop} {n : Nat} {t : Nat → Nat} (h : IsAp pos n t (2 ^ n)) : IsA pos n t := h
def put1 (t : Nat → Nat) (s c : Nat) : Nat → Nat := fun j => if j = s then c else t j
theorem put1_s {t : Nat → Nat} {s c : Nat} : put1 t s c s = c := if_pos rfl
theorem put1_n {t : Nat → Nat} {s c j : Nat} (h : j ≠ s) : put1 t s c j = t j := if_neg h
theorem IsOp.put {pos : Nat → Prop} {n : Nat} {t : Nat → Nat} {s c : Nat} (h : IsOp pos n t s) (hs : 0 < s) (h1 : c ≤ n) (h2 : ∀ p, sub_ p s → p ≠ 0 → pos p → LB s p → c ≤ t (s ^^^ p) + 1) (h3 : c = n ∨ ∃ p, sub_ p s ∧ p ≠ 0 ∧ pos p ∧ LB s p ∧ c = t (s ^^^ p) + 1) : IsOp pos n (put1 t s c) (s + 1) := by
  refine ⟨by rw [put1_n (by omega)]; exact h.1, fun a ha hb => ?_⟩
  by_cases e : a = s
  · subst e
    rw [put1_s]
    refine ⟨h1, fun p p1 p2 p3 p4 => ?_, ?_⟩
    · rw [put1_n (Nat.ne_of_lt (xor_lt p1 p2))]
      exact h2 p p1 p2 p3 p4
    · rcases h3 with h3 | ⟨p, p1, p2, p3, p4, p5⟩
      · exact Or.inl h3
      · exact Or.inr ⟨p, p1, p2, p3, p4, by rw [put1_n (Nat.ne_of_lt (xor_lt p1 p2))]; exact p5⟩
  · obtain ⟨g1, g2, g3⟩ := h.2 a ha (by omega)
    rw [put1_n e]
    refine ⟨g1, fun p p1 p2 p3 p4 => ?_, ?_⟩
    · have := xor_lt p1 p2
      rw [put1_n (by omega)]
      exact g2 p p1 p2 p3 p4
    · rcases g3 with h3 | ⟨p, p1, p2, p3, p4, p5⟩
      · exact Or.inl h3
      · have := xor_lt p1 p2
        exact Or.inr ⟨p, p1, p2, p3, p4, by rw [put1_n (by omega)]; exact p5⟩
theorem IsAp.put {pos : Nat → Prop} {n : Nat} {t : Nat → Nat} {s c : Nat} (h : IsAp pos n t s) (hs : 0 < s) (h1 : c ≤ 9) (h2 : ∀ p, sub_ p s → p ≠ 0 → pos p → c ≤ t (s ^^^ p) + 1) (h3 : c = 9 ∨ ∃ p, sub_ p s ∧ p ≠ 0 ∧ pos p ∧ c = t (s ^^^ p) + 1) : IsAp pos n (put1 t s c) (s + 1) := by
  refine ⟨by rw [put1_n (by omega)]; exact h.1, fun a ha hb => ?_⟩
  by_cases e : a = s
  · subst e
    rw [put1_s]
    refine ⟨h1, fun p p1 p2 p3 => ?_, ?_⟩
    · rw [put1_n (Nat.ne_of_lt (xor_lt p1 p2))]
      exact h2 p p1 p2 p3
    · rcases h3 with h3 | ⟨p, p1, p2, p3, p5⟩
      · exact Or.inl h3
      · exact Or.inr ⟨p, p1, p2, p3, by rw [put1_n (Nat.ne_of_lt (xor_lt p1 p2))]; exact p5⟩
  · obtain ⟨g1, g2, g3⟩ := h.2 a ha (by omega)
    rw [put1_n e]
    refine ⟨g1, fun p p1 p2 p3 => ?_, ?_⟩
    · have := xor_lt p1 p2
      rw [put1_n (by omega)]
      exact g2 p p1 p2 p3
    · rcases g3 with h3 | ⟨p, p1, p2, p3, p5⟩
      · exact Or.inl h3
      · have := xor_lt p1 p2
        exact Or.inr ⟨p, p1, p2, p3, by rw [put1_n (by omega)]; exact p5⟩
theorem low_bit : ∀ s, s < 256 → 0 < s → ∃ e, e < 8 ∧ nI s &&& (-nI s) = nI (2 ^ e) ∧ s.testBit e = true ∧ ∀ i, i < e → s.testBit i = false := by decide +kernel
theorem and_bit : ∀ e, e < 8 → ∀ p, p < 256 → (nI p &&& nI (2 ^ e) = 0 ↔ p.testBit e = false) := by decide +kernel
theorem LB_iff {s p e : Nat} (h1 : s.testBit e = true) (h2 : ∀ i, i < e → s.testBit i = false) (hp : sub_ p s) : LB s p ↔ p.testBit e = true := by
  constructor
  · rintro ⟨d, d1, d2⟩
    have d3 := sub_bit.mp hp d d1
    have : d = e := by
      rcases Nat.lt_trichotomy d e with q | q | q
      · rw [h2 d q] at d3; cases d3
      · exact q
      · rw [d2 e q] at h1; cases h1
    subst this
    exact d1
  · exact fun h => ⟨e, h, h2⟩
theorem and_not {s p : Nat} (hp : sub_ p s) : nI s &&& (nI p ^^^ (-1 : Int32)) = nI (s ^^^ p) := by
  apply b_ext
  intro i hi
  rw [b_and, b_xor, b_m1 i hi, b_nI hi, b_nI hi, b_nI hi, Nat.testBit_xor, Bool.xor_true]
  have := sub_bit.mp hp i
  cases h1 : p.testBit i <;> cases h2 : s.testBit i <;> simp_all
theorem sub_1 {p : Nat} (h : 0 < p) : nI p - 1 = nI (p - 1) := by
  have h2 : nI p = nI (p - 1) + 1 := by rw [show (1 : Int32) = nI 1 from rfl, nI_add, Nat.sub_add_cancel h]
  rw [h2, Int32.add_sub_cancel]
theorem sub_le_ {p s : Nat} (h : sub_ p s) : p ≤ s := by
  have := xor_add s p s (Nat.le_refl _) h
  omega
theorem sub_rf (s : Nat) : sub_ s s := Nat.and_self s
section HANDS
variable {A : Nat → Nat} {S : Nat → Prop} {h0 h : AH} {X : Nat → Nat → Int32} {wd : Nat → Int32} {N : Nat → Nat} {Q : Int32 → AH → Prop} {Qv : AH → Prop} {a3 : Nat} {n : Nat} {pos : Nat → Prop}
theorem c_fewest (H : G A S h0 X h) (hS : S 1) (hX : X 10 0 = nI n) (hn : n ≤ 8) (hP : ∀ s, 0 < s → s < 2 ^ n → X 1106 s = pI (pos s)) (kk1 : X 10 8 ≠ -1 → Q 1 h) (kk : X 10 8 = -1 → ∀ X' h' t, G A S h0 X' h' → Off [1107] X X' → IsO pos n t → Q (nI (t (2 ^ n - 1))) h') : w_X10_fewestHands (A 10) h Q := by
  have hp8 := p2_8 hn
  have hp0 := Nat.two_pow_pos n
  dsimp only [w_X10_fewestHands]
  refine fG (o := 10) H hS rfl ?_
  refine br_if (fun c0 => ?_) (fun c0 => kk1 c0)
  refine fG (o := 10) H hS rfl ?_
  rw [hX, shf hn]
  refine bd_i ?_
  refine fP (o := 10) H hS rfl rfl ?_
  refine tG (id := 1107) (n := 0) H hS rfl (by decide) rfl (by omega) (fun h1 H1 => ?_)
  refine lp_inv (2 ^ n) (fun s (x : Int32 × AH) => 0 < s ∧ x.1 = nI s ∧ ∃ X' t, G A S h0 X' x.2 ∧ Off [1107] X X' ∧ (∀ j, j < s → X' 1107 j = nI (t j)) ∧ IsOp pos n t s) (fun s x kk2 hs hI kn => ?_) (fun x kk2 hI => ?_) (i := 1) (by omega) ⟨by decide, rfl, _, fun _ => 0, H1, (Off.rf _ _).up (by decide) _ _, fun j hj => ?_, rfl, fun s a b => by omega⟩
  · obtain ⟨v, h2⟩ := x
    obtain ⟨s0, e1, X2, t, H2, o2, V2, I2⟩ := hI
    dsimp only at s0 e1 H2 ⊢
    subst e1
    obtain ⟨e, he8, ee, eb, el⟩ := low_bit s (by omega) s0
    have tn : ∀ j, j < s → t j ≤ n := by
      intro j hj
      by_cases z : j = 0
      · subst z; rw [I2.1]; exact Nat.zero_le _
      · exact (I2.2 j (by omega) hj).1
    dsimp only [w_X10_fewestHands_28]
    refine br_F (nI_nlt (by omega) (by omega)) ?_
    rw [ee]
    refine bd_i ?_
    refine fP (o := 10) H2 hS rfl rfl ?_
    refine fG (o := 10) H2 hS rfl ?_
    rw [o2 10 (by decide), hX]
    refine tG (id := 1107) H2 hS rfl (by decide) rfl (by omega) (fun h3 H3 => ?_)
    refine lp_ind (fun m (x : Int32 × AH) => ∃ p c X', p ≤ m ∧ x.1 = nI p ∧ sub_ p s ∧ G A S h0 X' x.2 ∧ Off [1107] X X' ∧ (∀ j, j < s → X' 1107 j = nI (t j)) ∧ X' 1107 s = nI c ∧ c ≤ n ∧ (∀ q, sub_ q s → p < q → pos q → LB s q → c ≤ t (s ^^^ q) + 1) ∧ (c = n ∨ ∃ q, sub_ q s ∧ q ≠ 0 ∧ pos q ∧ LB s q ∧ c = t (s ^^^ q) + 1)) (fun m x k3 hI kn3 => ?_) s _ ⟨s, n, _, Nat.le_refl _, rfl, sub_rf s, H3, o2.up (by decide) _ _, fun j hj => ?_, up_same _ _ _ _, Nat.le_refl _, fun q q1 q2 => ?_, Or.inl rfl⟩
    · obtain ⟨v, h4⟩ := x
      obtain ⟨p, c, X4, pm, e1, ps, H4, o4, V4, v4, cn, cl_, cr⟩ := hI
      dsimp only at e1 H4 ⊢
      subst e1
      have pl := sub_le_ ps
      dsimp only [w_X10_fewestHands_51, w_X10_fewestHands_102, w_X10_fewestHands_113]
      by_cases p0 : p = 0
      · subst p0
        refine br_T (Int32.le_refl _) ?_
        refine kn _ ⟨by omega, (nI_succ s).symm, X4, put1 t s c, H4, o4, fun j hj => ?_, I2.put s0 cn (fun q q1 q2 q3 q4 => cl_ q q1 (by omega) q3 q4) cr⟩
        by_cases z : j = s
        · subst z; rw [put1_s]; exact v4
        · rw [put1_n z]; exact V4 j (by omega)
      · refine br_F (nI_ge (a := 0) (b := p) (by omega) (by omega)) ?_
        have nx : ∀ X5 h5 c', G A S h0 X5 h5 → Off [1107] X X5 → (∀ j, j < s → X5 1107 j = nI (t j)) → X5 1107 s = nI c' → c' ≤ n → (∀ q, sub_ q s → p ≤ q → pos q → LB s q → c' ≤ t (s ^^^ q) + 1) → (c' = n ∨ ∃ q, sub_ q s ∧ q ≠ 0 ∧ pos q ∧ LB s q ∧ c' = t (s ^^^ q) + 1) → k3 ((nI p - 1) &&& nI s, h5) := by
          intro X5 h5 c' H5 o5 V5 v5 cn5 cl5 cr5
          have lt : (p - 1) &&& s ≤ p - 1 := Nat.and_le_left
          refine kn3 (m - 1) _ (by omega) ⟨(p - 1) &&& s, c', X5, by omega, ?_, sub_and, H5, o5, V5, v5, cn5, fun q q1 q2 q3 q4 => ?_, cr5⟩
          · rw [sub_1 (by omega), nI_and]
          · refine cl5 q q1 (Nat.le_of_not_lt (fun z => ?_)) q3 q4
            have := sub_next p p s q (Nat.le_refl _) ps (by omega) q1 z
            omega
        have skip : ¬ (pos p ∧ LB s p) → k3 ((nI p - 1) &&& nI s, h4) := by
          intro z
          refine nx X4 h4 c H4 o4 V4 v4 cn (fun q q1 q2 q3 q4 => ?_) cr
          refine cl_ q q1 (Nat.lt_of_le_of_ne q2 ?_) q3 q4
          rintro rfl
          exact z ⟨q3, q4⟩
        refine fP (o := 10) H4 hS rfl rfl ?_
        refine aG (id := 1106) H4 hS rfl (by decide) rfl (by omega) ?_
        rw [o4 1106 (by decide), hP p (by omega) (by omega)]
        refine br_if (fun c1 => ?_) (fun c1 => ?_)
        · rw [pI_1] at c1
          refine br_if (fun c2 => ?_) (fun c2 => ?_)
          · refine bd_i (skip (fun z => ?_))
            rw [and_bit e he8 p (by omega)] at c2
            have := (LB_iff eb el ps).mp z.2
            rw [c2] at this
            cases this
          · rw [and_bit e he8 p (by omega), Bool.not_eq_false] at c2
            have lb := (LB_iff eb el ps).mpr c2
            have xl := xor_lt ps p0
            have tx := tn _ xl
            refine fP (o := 10) H4 hS rfl rfl ?_
            refine fP (o := 10) H4 hS rfl rfl ?_
            refine aG (id := 1107) H4 hS rfl (by decide) rfl (by omega) ?_
            refine fP (o := 10) H4 hS rfl rfl ?_
            rw [and_not ps]
            refine aG (id := 1107) H4 hS rfl (by decide) rfl (by omega) ?_
            rw [v4, V4 _ xl, ← nI_succ, j_min (by omega) (by omega)]
            refine tG (id := 1107) H4 hS rfl (by decide) rfl (by omega) (fun h5 H5 => ?_)
            refine bd_i (nx _ h5 (min c (t (s ^^^ p) + 1)) H5 (o4.up (by decide) _ _) (fun j hj => by rw [up_n _ _ _ (by omega)]; exact V4 j hj) (up_same _ _ _ _) (by omega) (fun q q1 q2 q3 q4 => ?_) ?_)
            · by_cases z : q = p
              · subst z; exact Nat.min_le_right _ _
              · exact Nat.le_trans (Nat.min_le_left _ _) (cl_ q q1 (by omega) q3 q4)
            · rcases Nat.le_total c (t (s ^^^ p) + 1) with z | z
              · rw [Nat.min_eq_left z]; exact cr
              · rw [Nat.min_eq_right z]; exact Or.inr ⟨p, ps, p0, c1, lb, rfl⟩
        · exact bd_i (skip (fun z => c1 (pI_1.mpr z.1)))
    · rw [up_n _ _ _ (by omega)]
      exact V2 j hj
    · have := sub_le_ q1
      omega
  · obtain ⟨v, h2⟩ := x
    obtain ⟨s0, e1, X2, t, H2, o2, V2, I2⟩ := hI
    dsimp only at s0 e1 H2 ⊢
    subst e1
    dsimp only [w_X10_fewestHands_28, w_X10_fewestHands_119]
    refine br_T (nI_lt (by omega) (by omega)) ?_
    refine fP (o := 10) H2 hS rfl rfl ?_
    refine aG (id := 1107) H2 hS rfl (by decide) rfl (by omega) ?_
    rw [V2 _ (by omega)]
    exact kk c0 X2 h2 t H2 o2 I2.o
  · rw [show j = 0 by omega, up_same]
    rfl
end HANDS
