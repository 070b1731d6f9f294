/-! ways: the class's solve -/
def iniT (n : Nat) (ok : Nat → Bool) (st : Nat → Nat) : Nat → Nat → Option Nat := fun s i => if s = 2 ^ i ∧ i < n ∧ ok i = true then some (st i) else none
theorem iniT_Ini {n : Nat} {ok : Nat → Bool} {st : Nat → Nat} {p : Nat → Prop} (hp : ∀ i, i < n → (ok i = true ↔ p i)) : Ini n p st (iniT n ok st) := by
  intro s i t
  unfold iniT
  by_cases c : s = 2 ^ i ∧ i < n ∧ ok i = true
  · rw [if_pos c]
    exact ⟨fun h => ⟨c.1, c.2.1, (hp i c.2.1).mp c.2.2, (Option.some.inj h).symm⟩, fun h => congrArg some h.2.2.2.symm⟩
  · rw [if_neg c]
    exact ⟨fun h => (by cases h), fun h => absurd ⟨h.1, h.2.1, (hp i h.2.1).mpr h.2.2.1⟩ c⟩
theorem iniT_TB {n : Nat} {ok : Nat → Bool} {st : Nat → Nat} (h : ∀ i, i < n → ok i = true → st i ≤ 239) : TB (iniT n ok st) := by
  intro s i t e
  unfold iniT at e
  by_cases c : s = 2 ^ i ∧ i < n ∧ ok i = true
  · rw [if_pos c] at e
    have := h i c.2.1 c.2.2
    have := Option.some.inj e
    exact ⟨by omega, by rw [c.1]; exact Nat.testBit_two_pow_self⟩
  · rw [if_neg c] at e
    cases e
theorem TE_ini {r : Nat} {en : Option Nat → Int32} {n j : Nat} {ok : Nat → Bool} {st : Nat → Nat} {X : Nat → Nat → Int32} (E : TE r en n (iniT j ok st) X) (hj : j < n) (hn : n ≤ 8) {o : Option Nat} (ho : o = if ok j = true then some (st j) else none) : TE r en n (iniT (j + 1) ok st) (up X r (8 * 2 ^ j + j) (en o)) := by
  intro s k hs hk
  by_cases c : s = 2 ^ j ∧ k = j
  · obtain ⟨rfl, rfl⟩ := c
    rw [up_same, ho]
    unfold iniT
    by_cases d : ok k = true
    · rw [if_pos d, if_pos ⟨rfl, by omega, d⟩]
    · rw [if_neg d, if_neg (fun z => d z.2.2)]
  · rw [up_n _ _ _ (by omega), E s k hs hk]
    unfold iniT
    congr 1
    by_cases d : s = 2 ^ k ∧ k < j ∧ ok k = true
    · rw [if_pos d, if_pos ⟨d.1, by omega, d.2.2⟩]
    · rw [if_neg d, if_neg (fun z => ?_)]
      have : k ≠ j := fun y => c ⟨by rw [z.1, y], y⟩
      exact d ⟨z.1, by omega, z.2.2⟩
theorem stK_none {fr ti : Nat → Nat} {on : Nat → Nat → Nat} {n s : Nat} {T : Nat → Nat → Option Nat} (h : ∀ k, T s k = none) : ∀ k, stK fr ti on n T s k = T := by
  intro k
  induction k with
  | zero => rfl
  | succ k ih =>
    simp only [stK]
    rw [ih, h k]
theorem stS_1 {fr ti : Nat → Nat} {on : Nat → Nat → Nat} {n : Nat} {T : Nat → Nat → Option Nat} (B : TB T) : stS fr ti on n T 1 = T := by
  simp only [stS]
  refine stK_none (fun k => ?_) n
  cases e : T 0 k with
  | none => rfl
  | some t =>
    have := (B 0 k t e).2
    rw [Nat.zero_testBit] at this
    cases this
theorem stS_fin {fr ti : Nat → Nat} {on : Nat → Nat → Nat} {n : Nat} {T : Nat → Nat → Option Nat} {s m : Nat} (hs : s ≤ m) (k : Nat) : stS fr ti on n T s s k = stS fr ti on n T m s k := by
  obtain ⟨d, rfl⟩ := Nat.exists_eq_add_of_le hs
  exact (stS_same (Nat.le_refl _)).symm
def Op (F : Nat → Nat → Option Nat) (n s : Nat) : Prop := ∃ k, k < n ∧ F s k ≠ none
theorem sh8w {n : Nat} (h : n ≤ 8) : ((1 : Int32) <<< (nI n &&& 31)) * 8 = nI (8 * 2 ^ n) := by
  rw [sh1 (by omega), show (8 : Int32) = nI 8 from rfl, pk_mul, Nat.mul_comm]
theorem shf {n : Nat} (h : n ≤ 8) : ((1 : Int32) <<< (nI n &&& 31)) - 1 = nI (2 ^ n - 1) := by
  rw [sh1 (by omega)]
  have h1 := Nat.two_pow_pos n
  have h2 : nI (2 ^ n) = nI (2 ^ n - 1) + 1 := by rw [show (1 : Int32) = nI 1 from rfl, nI_add, Nat.sub_add_cancel h1]
  rw [h2, Int32.add_sub_cancel]
section SOLVE
variable {A : Nat → Nat} {S : Nat → Prop} {h0 h : AH} {X : Nat → Nat → Int32} {wd : Nat → Int32} {N : Nat → Nat} {Q : Int32 → AH → Prop} {Qv : AH → Prop} {a3 : Nat} {n : Nat} {fr ti : Nat → Nat} {on : Nat → Nat → Nat}
theorem c_clearBest (H : G A S h0 X h) (hS : S 1) (hX : X 10 0 = nI n) (hn : n ≤ 8) {en : Option Nat → Int32} (hen : en none = -1) (kk : ∀ X' h', G A S h0 X' h' → Off [1105] X X' → TE 1105 en n (fun _ _ => none) X' → Qv h') : w_X10_clearBest (A 10) h Qv := by
  have hp8 := p2_8 hn
  dsimp only [w_X10_clearBest, w_X10_clearBest_30]
  refine fG (o := 10) H hS rfl ?_
  rw [hX, sh8w hn]
  refine bd_i ?_
  refine lp_inv (8 * 2 ^ n) (fun j (x : Int32 × AH) => x.1 = nI j ∧ ∃ X', G A S h0 X' x.2 ∧ Off [1105] X X' ∧ ∀ i, i < j → X' 1105 i = -1) (fun j x kk1 hj hI kn => ?_) (fun x kk1 hI => ?_) (Nat.zero_le _) ⟨rfl, X, H, Off.rf _ _, fun i hi => absurd hi (Nat.not_lt_zero _)⟩
  · obtain ⟨v, h1⟩ := x
    obtain ⟨e1, X1, H1, o1, E1⟩ := hI
    dsimp only at e1 H1 ⊢
    subst e1
    dsimp only [w_X10_clearBest_12]
    refine br_go hj (by omega) ?_
    refine fP (o := 10) H1 hS rfl rfl ?_
    refine tG (id := 1105) H1 hS rfl (by decide) rfl (by omega) (fun h2 H2 => ?_)
    refine kn _ ⟨(nI_succ j).symm, _, H2, o1.up (by decide) _ _, fun i hi => ?_⟩
    by_cases e : i = j
    · subst e; rw [up_same]
    · rw [up_n _ _ _ e]
      exact E1 i (by omega)
  · obtain ⟨v, h1⟩ := x
    obtain ⟨e1, X1, H1, o1, E1⟩ := hI
    dsimp only at e1 H1 ⊢
    subst e1
    dsimp only [w_X10_clearBest_12]
    exact br_end (kk _ _ H1 o1 (fun s k hs hk => by rw [hen]; exact E1 _ (by omega)))
abbrev T0c (n : Nat) (fr : Nat → Nat) : Nat → Nat → Option Nat := iniT n (fun _ => true) fr
abbrev Fc (fr ti : Nat → Nat) (on : Nat → Nat → Nat) (n : Nat) : Nat → Nat → Option Nat := stS fr ti on n (T0c n fr) (2 ^ n)
theorem T0c_TB (B : WB n fr ti on) : TB (T0c n fr) := iniT_TB (fun i hi _ => by have := B.2.1 i hi; omega)
theorem Fc_TB (B : WB n fr ti on) : TB (Fc fr ti on n) := (T0c_TB B).stSI (fun i hi => (B.2.1 i hi).2) _
theorem c_solve (H : G A S h0 X h) (hS : S 1) (W : WA X n fr ti on) (B : WB n fr ti on) (kk : ∀ X' h', G A S h0 X' h' → Off [10, 1105, 1106] X X' → X' 10 0 = nI n → (∀ s, 0 < s → s < 2 ^ n → X' 1106 s = pI (Op (Fc fr ti on n) n s)) → X' 10 8 = en1 (erl (Fc fr ti on n) (2 ^ n - 1) n) → Qv h') : w_X10_solve (A 10) h Qv := by
  have hn8 := B.1
  have hp8 := p2_8 hn8
  have hp0 := Nat.two_pow_pos n
  have hti : ∀ i, i < n → ti i ≤ 239 := fun i hi => (B.2.1 i hi).2
  dsimp only [w_X10_solve]
  refine fG (o := 10) H hS rfl ?_
  rw [W.1, shf hn8]
  refine bd_i ?_
  refine vG (o := 10) H hS rfl ?_
  refine c_clearBest H hS W.1 hn8 (en := en1) rfl (fun X1 h1 H1 o1 E1 => ?_)
  refine lp_inv n (fun j (x : Int32 × AH) => x.1 = nI j ∧ ∃ X', G A S h0 X' x.2 ∧ Off [10, 1105, 1106] X X' ∧ X' 10 0 = nI n ∧ TE 1105 en1 n (iniT j (fun _ => true) fr) X') (fun j x kk1 hj hI kn => ?_) (fun x kk1 hI => ?_) (Nat.zero_le _) ⟨rfl, X1, H1, o1.mono (by decide), by rw [o1 10 (by decide)]; exact W.1, fun s k hs hk => by rw [E1 s k hs hk]; unfold iniT; rw [if_neg (fun z => absurd z.2.1 (Nat.not_lt_zero _))]⟩
  · obtain ⟨v, h2⟩ := x
    obtain ⟨e1, X2, H2, o2, n2, E2⟩ := hI
    dsimp only at e1 H2 ⊢
    subst e1
    dsimp only [w_X10_solve_15]
    refine fG (o := 10) H2 hS rfl ?_
    rw [n2]
    refine br_go hj (by omega) ?_
    have h2j : 2 ^ j < 2 ^ n := Nat.pow_lt_pow_right (by omega) hj
    refine fP (o := 10) H2 hS rfl rfl ?_
    refine fP (o := 10) H2 hS rfl rfl ?_
    refine aG (id := 1102) H2 hS rfl (by decide) rfl (by omega) ?_
    rw [o2 1102 (by decide), (W.2.1 j hj).1, sh1 (by omega)]
    refine tG (id := 1105) H2 hS rfl (by decide) (ixw _ _) (by omega) (fun h3 H3 => ?_)
    exact kn _ ⟨(nI_succ j).symm, _, H3, o2.up (by decide) _ _, by rw [up_row _ _ _ (by decide)]; exact n2, TE_ini E2 hj hn8 (o := some (fr j)) rfl⟩
  · obtain ⟨v, h2⟩ := x
    obtain ⟨e1, X2, H2, o2, n2, E2⟩ := hI
    dsimp only at e1 H2 ⊢
    subst e1
    dsimp only [w_X10_solve_15, w_X10_solve_48]
    refine fG (o := 10) H2 hS rfl ?_
    rw [n2]
    refine br_end ?_
    refine lp_inv (2 ^ n) (fun s (x : Int32 × AH) => 0 < s ∧ x.1 = nI s ∧ ∃ X', G A S h0 X' x.2 ∧ Off [10, 1105, 1106] X X' ∧ X' 10 0 = nI n ∧ TE 1105 en1 n (stS fr ti on n (T0c n fr) s) X' ∧ ∀ s', 0 < s' → s' < s → X' 1106 s' = pI (Op (Fc fr ti on n) n s')) (fun s x kk1 hs hI kn => ?_) (fun x kk1 hI => ?_) (i := 1) (by omega) ⟨by decide, rfl, X2, H2, o2, n2, by rw [stS_1 (T0c_TB B)]; exact E2, fun s' a b => by omega⟩
    · obtain ⟨v, h3⟩ := x
      obtain ⟨s0, e1, X3, H3, o3, n3, E3, P3⟩ := hI
      dsimp only at s0 e1 H3 ⊢
      subst e1
      dsimp only [w_X10_solve_50]
      refine br_F (nI_nlt (by omega) (by omega)) ?_
      refine fP (o := 10) H3 hS rfl rfl ?_
      refine tG (id := 1106) H3 hS rfl (by decide) rfl (by omega) (fun h4 H4 => ?_)
      have BS : TB (stS fr ti on n (T0c n fr) s) := (T0c_TB B).stSI hti s
      have hF : ∀ k, stS fr ti on n (T0c n fr) s s k = Fc fr ti on n s k := fun k => stS_fin (Nat.le_of_lt hs) k
      refine lp_inv n (fun k (x : Int32 × AH) => x.1 = nI k ∧ ∃ X', G A S h0 X' x.2 ∧ Off [10, 1105, 1106] X X' ∧ X' 10 0 = nI n ∧ TE 1105 en1 n (stK fr ti on n (stS fr ti on n (T0c n fr) s) s k) X' ∧ (∀ s', 0 < s' → s' < s → X' 1106 s' = pI (Op (Fc fr ti on n) n s')) ∧ X' 1106 s = pI (Op (Fc fr ti on n) k s)) (fun k x kk2 hk hI kn2 => ?_) (fun x kk2 hI => ?_) (Nat.zero_le _) ⟨rfl, _, H4, o3.up (by decide) _ _, by rw [up_row _ _ _ (by decide)]; exact n3, fun a b ha hb => by rw [up_row _ _ _ (by decide)]; exact E3 a b ha hb, fun s' q1 q2 => by rw [up_n _ _ _ (by omega)]; exact P3 s' q1 q2, by rw [up_same, pI_f (fun ⟨k, z, _⟩ => Nat.not_lt_zero _ z)]⟩
      · obtain ⟨v, h5⟩ := x
        obtain ⟨e1, X5, H5, o5, n5, E5, P5, p5⟩ := hI
        dsimp only at e1 H5 ⊢
        subst e1
        dsimp only [w_X10_solve_64, w_X10_solve_100]
        refine fG (o := 10) H5 hS rfl ?_
        rw [n5]
        refine br_go hk (by omega) ?_
        refine fP (o := 10) H5 hS rfl rfl ?_
        refine aG (id := 1105) H5 hS rfl (by decide) (ixw _ _) (by omega) ?_
        rw [E5 s k hs hk]
        have hsk : stK fr ti on n (stS fr ti on n (T0c n fr) s) s k s k = Fc fr ti on n s k := by rw [stK_same (Nat.le_refl _)]; exact hF k
        have BK : TB (stK fr ti on n (stS fr ti on n (T0c n fr) s) s k) := BS.stKI hti k
        refine br_if (fun c => ?_) (fun c => ?_)
        · rw [en1_m (fun t ht => (BK _ _ t ht).1)] at c
          refine kn2 _ ⟨(nI_succ k).symm, X5, H5, o5, n5, ?_, P5, ?_⟩
          · simp only [stK]
            rw [c]
            exact E5
          · rw [p5]
            congr 1
            refine propext ⟨fun ⟨k', q1, q2⟩ => ⟨k', by omega, q2⟩, fun ⟨k', q1, q2⟩ => ⟨k', ?_, q2⟩⟩
            have : k' ≠ k := by
              rintro rfl
              rw [hsk] at c
              exact q2 c
            omega
        · cases d : stK fr ti on n (stS fr ti on n (T0c n fr) s) s k s k with
          | none => rw [d] at c; exact absurd rfl c
          | some t =>
            refine fP (o := 10) H5 hS rfl rfl ?_
            refine tG (id := 1106) H5 hS rfl (by decide) rfl (by omega) (fun h6 H6 => ?_)
            refine vG (o := 10) H6 hS rfl ?_
            have W6 : WA (up X5 1106 s 1) n fr ti on := by
              refine W.off ?_ ?_ ?_ ?_
              · rw [up_row _ _ _ (by decide), n5, W.1]
              · rw [up_row _ _ _ (by decide), o5 1102 (by decide)]
              · rw [up_row _ _ _ (by decide), o5 1103 (by decide)]
              · rw [up_row _ _ _ (by decide), o5 1104 (by decide)]
            refine c_goFrom H6 hS W6 B hs hk d BK (fun a b ha hb => by rw [up_row _ _ _ (by decide)]; exact E5 a b ha hb) (fun X7 h7 H7 o7 E7 => ?_)
            refine kn2 _ ⟨(nI_succ k).symm, X7, H7, (o5.up (by decide) _ _).tr (o7.mono (by decide)), ?_, ?_, fun s' q1 q2 => ?_, ?_⟩
            · rw [o7 10 (by decide)]
              exact W6.1
            · simp only [stK]
              rw [d]
              exact E7
            · rw [o7 1106 (by decide), up_n _ _ _ (by omega)]
              exact P5 s' q1 q2
            · rw [o7 1106 (by decide), up_same, pI_t]
              refine ⟨k, by omega, ?_⟩
              rw [← hsk, d]
              exact fun z => by cases z
      · obtain ⟨v, h5⟩ := x
        obtain ⟨e1, X5, H5, o5, n5, E5, P5, p5⟩ := hI
        dsimp only at e1 H5 ⊢
        subst e1
        dsimp only [w_X10_solve_64, w_X10_solve_106]
        refine fG (o := 10) H5 hS rfl ?_
        rw [n5]
        refine br_end ?_
        refine kn _ ⟨by omega, (nI_succ s).symm, X5, H5, o5, n5, E5, fun s' q1 q2 => ?_⟩
        by_cases e : s' = s
        · subst e; exact p5
        · exact P5 s' q1 (by omega)
    · obtain ⟨v, h3⟩ := x
      obtain ⟨s0, e1, X3, H3, o3, n3, E3, P3⟩ := hI
      dsimp only at s0 e1 H3 ⊢
      subst e1
      dsimp only [w_X10_solve_50, w_X10_solve_112]
      refine br_T (nI_lt (by omega) (by omega)) ?_
      refine uG (o := 10) H3 hS rfl (fun h4 H4 => ?_)
      have BF := Fc_TB B
      refine lp_inv n (fun k (x : Int32 × AH) => x.1 = nI k ∧ ∃ X', G A S h0 X' x.2 ∧ Off [10, 1105, 1106] X X' ∧ X' 10 0 = nI n ∧ X' 1105 = X3 1105 ∧ X' 1106 = X3 1106 ∧ X' 10 8 = en1 (erl (Fc fr ti on n) (2 ^ n - 1) k)) (fun k x kk2 hk hI kn2 => ?_) (fun x kk2 hI => ?_) (Nat.zero_le _) ⟨rfl, _, H4, o3.up (by decide) _ _, by rw [up_n _ _ _ (by decide)]; exact n3, up_row _ _ _ (by decide), up_row _ _ _ (by decide), by rw [up_same]; rfl⟩
      · obtain ⟨v, h5⟩ := x
        obtain ⟨e1, X5, H5, o5, n5, E5, P5, p5⟩ := hI
        dsimp only at e1 H5 ⊢
        subst e1
        dsimp only [w_X10_solve_119]
        refine fG (o := 10) H5 hS rfl ?_
        rw [n5]
        refine br_go hk (by omega) ?_
        refine fG (o := 10) H5 hS rfl ?_
        refine fP (o := 10) H5 hS rfl rfl ?_
        refine aG (id := 1105) H5 hS rfl (by decide) (ixw _ _) (by omega) ?_
        rw [p5, E5, E3 (2 ^ n - 1) k (by omega) hk]
        refine c_sooner2 (fun t ht => ?_) (fun t ht => (BF _ _ t ht).1) ?_
        · obtain ⟨⟨j, j1, j2⟩, _⟩ := erl_some ht
          exact (BF _ _ t j2).1
        · refine uG (o := 10) H5 hS rfl (fun h6 H6 => ?_)
          refine kn2 _ ⟨(nI_succ k).symm, _, H6, o5.up (by decide) _ _, by rw [up_n _ _ _ (by decide)]; exact n5, by rw [up_row _ _ _ (by decide)]; exact E5, by rw [up_row _ _ _ (by decide)]; exact P5, ?_⟩
          rw [up_same, erl_s]
      · obtain ⟨v, h5⟩ := x
        obtain ⟨e1, X5, H5, o5, n5, E5, P5, p5⟩ := hI
        dsimp only at e1 H5 ⊢
        subst e1
        dsimp only [w_X10_solve_119, w_X10_solve_155]
        refine fG (o := 10) H5 hS rfl ?_
        rw [n5]
        exact br_end (kk _ _ H5 o5 n5 (fun s q1 q2 => by rw [P5]; exact P3 s q1 q2) p5)
end SOLVE
