/-! ways: the class's add, fillWays, way -/
theorem least_P {P : Nat → Prop} : ∀ (b n : Nat), n ≤ b → P n → ∃ m, P m ∧ ∀ k, P k → m ≤ k := by
  intro b
  induction b with
  | zero =>
    intro n h hn
    exact ⟨n, hn, fun k _ => by omega⟩
  | succ b ih =>
    intro n h hn
    by_cases c : ∃ k, k ≤ b ∧ P k
    · obtain ⟨k, k1, k2⟩ := c
      exact ih k k1 k2
    · refine ⟨n, hn, fun k hk => Decidable.byContradiction fun z => c ⟨k, by omega, hk⟩⟩
theorem A_ex (pos : Nat → Prop) (n : Nat) : ∃ t, IsA pos n t := by
  have key : ∀ m, ∃ t, IsAp pos n t (m + 1) := by
    intro m
    induction m with
    | zero => exact ⟨fun _ => 0, rfl, fun s a b => by omega⟩
    | succ m ih =>
      obtain ⟨t, ht⟩ := ih
      obtain ⟨c, c1, c2⟩ := least_P (P := fun c => c = 9 ∨ ∃ p, sub_ p (m + 1) ∧ p ≠ 0 ∧ pos p ∧ c = t ((m + 1) ^^^ p) + 1) 9 9 (Nat.le_refl _) (Or.inl rfl)
      exact ⟨_, ht.put (by omega) (c2 9 (Or.inl rfl)) (fun p p1 p2 p3 => c2 _ (Or.inr ⟨p, p1, p2, p3, rfl⟩)) c1⟩
  have h0 := Nat.two_pow_pos n
  obtain ⟨t, ht⟩ := key (2 ^ n - 1)
  rw [Nat.sub_add_cancel h0] at ht
  exact ⟨t, ht.a⟩
theorem hv_one {pos : Nat → Prop} {n : Nat} (hn : 0 < n) (h : pos (2 ^ n - 1)) : hv pos n = 1 := by
  obtain ⟨u, U⟩ := A_ex pos n
  rw [hv_eq U]
  have h1 : 2 ^ 1 ≤ 2 ^ n := Nat.pow_le_pow_right (by omega) hn
  obtain ⟨u1, u2, u3⟩ := U.2 (2 ^ n - 1) (by omega) (by omega)
  have h2 := u2 (2 ^ n - 1) (sub_rf _) (by omega) h
  rw [Nat.xor_self, U.1] at h2
  rcases u3 with u3 | ⟨p, p1, p2, p3, p4⟩
  · omega
  · omega
theorem O_to_A {pos : Nat → Prop} {n : Nat} {t : Nat → Nat} (hn : n ≤ 8) (O : IsO pos n t) (h1 : ∀ k, k < n → pos (2 ^ k)) : IsA pos n t := by
  have h8 : 2 ^ n ≤ 2 ^ 8 := Nat.pow_le_pow_right (by omega) hn
  refine ⟨O.1, fun s s0 s2 => ⟨by have := (O.2 s s0 s2).1; omega, fun p p1 p2 p3 => O_le O s s p (Nat.le_refl _) s2 p1 p2 p3, ?_⟩⟩
  obtain ⟨o1, o2, o3⟩ := O.2 s s0 s2
  rcases o3 with o3 | ⟨p, p1, p2, p3, p4, p5⟩
  · obtain ⟨e, e1, e2⟩ := least_ex (s := s) (by omega)
    have e3 := bit_lt s2 e1
    obtain ⟨q1, q2⟩ := one_sub e1
    have q3 := xor_lt q1 q2
    have q4 := O_le O s s (2 ^ e) (Nat.le_refl _) s2 q1 q2 (h1 e e3)
    have q5 := O_pop hn O h1 _ (s ^^^ 2 ^ e) (Nat.le_refl _) (by omega)
    have q6 := pop_one s (by omega) e (by omega) e1
    have q7 := pop_n n hn s (by omega) s2
    exact Or.inr ⟨2 ^ e, q1, q2, h1 e e3, by omega⟩
  · exact Or.inr ⟨p, p1, p2, p3, p5⟩
theorem Op_erl {F : Nat → Nat → Option Nat} {n : Nat} : Op F n = fun s => erl F s n ≠ none := by
  funext s
  refine propext ⟨fun ⟨k, k1, k2⟩ z => k2 (erl_none.mp z k k1), fun z => Classical.byContradiction fun y => z (erl_none.mpr fun j hj => Classical.byContradiction fun w => y ⟨j, hj, w⟩)⟩
def lc (l : List Nat) : Nat → Nat := fun i => l.getD i 0
theorem lc_old {l : List Nat} {f i : Nat} (h : i < l.length) : lc (l ++ [f]) i = lc l i := by
  unfold lc
  simp only [List.getD_eq_getElem?_getD]
  rw [List.getElem?_append_left h]
theorem lc_new {l : List Nat} {f : Nat} : lc (l ++ [f]) l.length = f := by
  unfold lc
  simp only [List.getD_eq_getElem?_getD]
  rw [List.getElem?_append_right (Nat.le_refl _), Nat.sub_self]
  rfl
/-- the ways' rows hold the cases l -/
def WF (X : Nat → Nat → Int32) (wd : Nat → Int32) (l : List Nat) : Prop := X 10 0 = nI l.length ∧ (∀ i, i < l.length → X 1101 i = nI (lc l i) ∧ X 1102 i = nI (frW wd (lc l) i) ∧ X 1103 i = nI (tiW wd (lc l) i)) ∧ ∀ i j, i < l.length → j < l.length → i ≠ j → X 1104 (8 * i + j) = nI (onW wd (lc l) i j)
section WAYC2
variable {A : Nat → Nat} {S : Nat → Prop} {h0 h : AH} {X : Nat → Nat → Int32} {wd : Nat → Int32} {N : Nat → Nat} {Q : Int32 → AH → Prop} {Qv : AH → Prop} {a3 : Nat}
theorem c_add (H : G A S h0 X h) (R : CR X wd) (O : Ok wd N) (hS : S 1) {l : List Nat} {f : Nat} (hl : l.length < 8) (hm : ∀ i, i < l.length → lc l i < N 3) (hf : f < N 3) (W : WF X wd l) (k : ∀ X' h', G A S h0 X' h' → Off [10, 1101, 1102, 1103, 1104] X X' → WF X' wd (l ++ [f]) → Qv h') : w_X10_add (A 10) (nI f) (A 1) (A 3) h Qv := by
  have h3 := O.f.2
  obtain ⟨ec, hc⟩ := (O.F hf).2.1
  have hh : ∀ i, i < l.length → wd (350 + 6 * lc l i) = nI (ceW wd (lc l) i) ∧ ceW wd (lc l) i ≤ 255 := fun i hi => W_ce O (hm i hi)
  dsimp only [w_X10_add]
  refine fP (o := 10) H hS rfl rfl ?_
  refine fG (o := 10) H hS rfl ?_
  rw [W.1]
  refine tG (id := 1101) H hS rfl (by decide) rfl (by omega) (fun h1 H1 => ?_)
  refine fP (o := 10) H1 hS rfl rfl ?_
  refine fG (o := 10) H1 hS rfl ?_
  rw [up_row _ _ _ (by decide), W.1]
  have R1 := R.offR (id := 1101) rfl l.length (nI f)
  refine fP (o := 1) H1 H1.b rfl rfl ?_
  refine aC (id := 205) H1 R1 H1.b rfl (by decide) rfl rfl (by omega) ?_
  refine tG (id := 1102) H1 hS rfl (by decide) rfl (by omega) (fun h2 H2 => ?_)
  have R2 := R1.offR (id := 1102) rfl l.length (wd (353 + 6 * f))
  refine fP (o := 10) H2 hS rfl rfl ?_
  refine fG (o := 10) H2 hS rfl ?_
  rw [up_row _ _ _ (by decide), up_row _ _ _ (by decide), W.1]
  refine fP (o := 1) H2 H2.b rfl rfl ?_
  refine aC (id := 206) H2 R2 H2.b rfl (by decide) rfl rfl (by omega) ?_
  refine tG (id := 1103) H2 hS rfl (by decide) rfl (by omega) (fun h3_ H3 => ?_)
  have R3 := R2.offR (id := 1103) rfl l.length (wd (354 + 6 * f))
  have efr : wd (353 + 6 * f) = nI (nt (wd (353 + 6 * f))) := (O.F hf).2.2.2.2.1.1
  have eti : wd (354 + 6 * f) = nI (nt (wd (354 + 6 * f))) := (O.F hf).2.2.2.2.2.1.1
  generalize hX3 : up (up (up X 1101 l.length (nI f)) 1102 l.length (wd (353 + 6 * f))) 1103 l.length (wd (354 + 6 * f)) = X3 at *
  have o3 : Off [10, 1101, 1102, 1103, 1104] X X3 := by
    rw [← hX3]
    exact (((Off.rf _ _).up (by decide) _ _).up (by decide) _ _).up (by decide) _ _
  have s3 : X3 10 0 = nI l.length := by
    rw [← hX3, up_row _ _ _ (by decide), up_row _ _ _ (by decide), up_row _ _ _ (by decide)]
    exact W.1
  have r1 : ∀ i, i < l.length + 1 → X3 1101 i = nI (lc (l ++ [f]) i) := by
    intro i hi
    rw [← hX3, up_row _ _ _ (by decide), up_row _ _ _ (by decide)]
    by_cases e : i = l.length
    · rw [e, up_same, lc_new]
    · rw [up_n _ _ _ e, lc_old (by omega)]
      exact (W.2.1 i (by omega)).1
  have r2 : ∀ i, i < l.length + 1 → X3 1102 i = nI (frW wd (lc (l ++ [f])) i) := by
    intro i hi
    rw [← hX3, up_row _ _ _ (by decide)]
    unfold frW
    by_cases e : i = l.length
    · rw [e, up_same, lc_new]
      exact efr
    · rw [up_n _ _ _ e, up_row _ _ _ (by decide), lc_old (by omega)]
      exact (W.2.1 i (by omega)).2.1
  have r3 : ∀ i, i < l.length + 1 → X3 1103 i = nI (tiW wd (lc (l ++ [f])) i) := by
    intro i hi
    rw [← hX3]
    unfold tiW
    by_cases e : i = l.length
    · rw [e, up_same, lc_new]
      exact eti
    · rw [up_n _ _ _ e, up_row _ _ _ (by decide), up_row _ _ _ (by decide), lc_old (by omega)]
      exact (W.2.1 i (by omega)).2.2
  have r4 : ∀ i j, i < l.length → j < l.length → i ≠ j → X3 1104 (8 * i + j) = nI (onW wd (lc (l ++ [f])) i j) := by
    intro i j hi hj hn
    rw [← hX3, up_row _ _ _ (by decide), up_row _ _ _ (by decide), up_row _ _ _ (by decide), W.2.2 i j hi hj hn]
    unfold onW ceW
    rw [lc_old hi, lc_old hj]
  have on1 : ∀ i, i < l.length → onf wd (ceW wd (lc l) i) (nt (wd (350 + 6 * f))) = nI (onW wd (lc (l ++ [f])) i l.length) := by
    intro i hi
    have e := (onf_bn (wd := wd) (hh i hi).2 hc).1
    unfold onW ceW at *
    rw [lc_old hi, lc_new]
    exact e
  have on2 : ∀ i, i < l.length → onf wd (nt (wd (350 + 6 * f))) (ceW wd (lc l) i) = nI (onW wd (lc (l ++ [f])) l.length i) := by
    intro i hi
    have e := (onf_bn (wd := wd) hc (hh i hi).2).1
    unfold onW ceW at *
    rw [lc_old hi, lc_new]
    exact e
  refine lp_inv l.length (fun j (x : Int32 × AH) => x.1 = nI j ∧ ∃ X', G A S h0 X' x.2 ∧ Off [1104] X3 X' ∧ (∀ a b, a < l.length → b < l.length → a ≠ b → X' 1104 (8 * a + b) = nI (onW wd (lc (l ++ [f])) a b)) ∧ ∀ i, i < j → X' 1104 (8 * i + l.length) = nI (onW wd (lc (l ++ [f])) i l.length) ∧ X' 1104 (8 * l.length + i) = nI (onW wd (lc (l ++ [f])) l.length i)) (fun j x kk1 hj hI kn => ?_) (fun x kk1 hI => ?_) (Nat.zero_le _) ⟨rfl, X3, H3, Off.rf _ _, r4, fun i hi => absurd hi (Nat.not_lt_zero _)⟩
  · obtain ⟨v, h4⟩ := x
    obtain ⟨e1, X4, H4, o4, a4, b4⟩ := hI
    dsimp only at e1 H4 ⊢
    subst e1
    have R4 := R3.offL o4 (by decide)
    have s4 : X4 10 0 = nI l.length := by rw [o4 10 (by decide)]; exact s3
    dsimp only [w_X10_add_43]
    refine fG (o := 10) H4 hS rfl ?_
    rw [s4]
    refine br_go hj (by omega) ?_
    refine fP (o := 1) H4 H4.b rfl rfl ?_
    refine fP (o := 10) H4 hS rfl rfl ?_
    refine aG (id := 1101) H4 hS rfl (by decide) rfl (by omega) ?_
    rw [o4 1101 (by decide), r1 j (by omega), lc_old hj]
    have hmj := hm j hj
    refine aC (id := 202) H4 R4 H4.b rfl (by decide) rfl rfl (by omega) ?_
    refine fP (o := 1) H4 H4.b rfl rfl ?_
    refine aC (id := 202) H4 R4 H4.b rfl (by decide) rfl rfl (by omega) ?_
    refine fP (o := 10) H4 hS rfl rfl ?_
    refine fG (o := 10) H4 hS rfl ?_
    rw [s4, (hh j hj).1, ec]
    refine vG (o := 3) H4 H4.b rfl ?_
    refine c_minutesOnFoot H4 R4 (hh j hj).2 hc ?_
    rw [on1 j hj]
    refine tG (id := 1104) H4 hS rfl (by decide) (ixw _ _) (by omega) (fun h5 H5 => ?_)
    have R5 := R4.offR (id := 1104) rfl (8 * j + l.length) (nI (onW wd (lc (l ++ [f])) j l.length))
    refine fP (o := 10) H5 hS rfl rfl ?_
    refine fG (o := 10) H5 hS rfl ?_
    rw [up_row _ _ _ (by decide), s4]
    refine vG (o := 3) H5 H5.b rfl ?_
    refine c_minutesOnFoot H5 R5 hc (hh j hj).2 ?_
    rw [on2 j hj]
    refine tG (id := 1104) H5 hS rfl (by decide) (ixw _ _) (by omega) (fun h6 H6 => ?_)
    refine kn _ ⟨(nI_succ j).symm, _, H6, (o4.up (by decide) _ _).up (by decide) _ _, fun a b ha hb hn => ?_, fun i hi => ?_⟩
    · rw [up_n _ _ _ (by omega), up_n _ _ _ (by omega)]
      exact a4 a b ha hb hn
    · by_cases e : i = j
      · subst e
        rw [up_n _ _ _ (by omega), up_same, up_same]
        exact ⟨rfl, rfl⟩
      · rw [up_n _ _ _ (by omega), up_n _ _ _ (by omega), up_n _ _ _ (by omega), up_n _ _ _ (by omega)]
        exact b4 i (by omega)
  · obtain ⟨v, h4⟩ := x
    obtain ⟨e1, X4, H4, o4, a4, b4⟩ := hI
    dsimp only at e1 H4 ⊢
    subst e1
    have s4 : X4 10 0 = nI l.length := by rw [o4 10 (by decide)]; exact s3
    dsimp only [w_X10_add_43, w_X10_add_126]
    refine fG (o := 10) H4 hS rfl ?_
    rw [s4]
    refine br_end ?_
    refine fG (o := 10) H4 hS rfl ?_
    rw [s4, ← nI_succ]
    refine uG (o := 10) H4 hS rfl (fun h5 H5 => ?_)
    refine k _ h5 H5 ((o3.tr (o4.mono (by decide))).up (by decide) _ _) ⟨?_, fun i hi => ?_, fun i j hi hj hn => ?_⟩
    · rw [up_same, List.length_append, List.length_singleton]
    · rw [List.length_append, List.length_singleton] at hi
      rw [up_row _ _ _ (by decide), up_row _ _ _ (by decide), up_row _ _ _ (by decide), o4 1101 (by decide), o4 1102 (by decide), o4 1103 (by decide)]
      exact ⟨r1 i hi, r2 i hi, r3 i hi⟩
    · rw [List.length_append, List.length_singleton] at hi hj
      rw [up_row _ _ _ (by decide)]
      by_cases e1 : i = l.length
      · subst e1
        exact (b4 j (by omega)).2
      · by_cases e2 : j = l.length
        · subst e2
          exact (b4 i (by omega)).1
        · exact a4 i j (by omega) (by omega) hn
theorem c_isFull (H : G A S h0 X h) (hS : S 1) {l : List Nat} (W : X 10 0 = nI l.length) (hl : l.length ≤ 8) (k : Q (bI (decide (8 ≤ l.length))) h) : w_X10_isFull (A 10) h Q := by
  dsimp only [w_X10_isFull, w_X10_isFull_14]
  refine fG (o := 10) H hS rfl ?_
  rw [W]
  refine br_Lt (b := 8) (by omega) (by decide) (fun c => zf k (by simp; omega)) (fun c => zt k (by simp; omega))
theorem c_fillWays (H : G A S h0 X h) (R : CR X wd) (O : Ok wd N) (C : CG X wd N) (hS : S 1) {g : Nat} (hg : g < N 0) (k : ∀ X' h', G A S h0 X' h' → Off [10, 1101, 1102, 1103, 1104] X X' → WF X' wd (waL wd N g) → Qv h') : w_X8_fillWays (A 8) (nI g) (A 10) h Qv := by
  obtain ⟨e3, h3⟩ := O.f
  have h8 := O.g.2
  dsimp only [w_X8_fillWays]
  refine uG (o := 10) H hS rfl (fun h1 H1 => ?_)
  refine lp_inv (N 3) (fun j (x : Int32 × AH) => x.1 = nI j ∧ ∃ X', G A S h0 X' x.2 ∧ Off [10, 1101, 1102, 1103, 1104] X X' ∧ WF X' wd (gaL wd N g j)) (fun j x kk1 hj hI kn => ?_) (fun x kk1 hI => ?_) (Nat.zero_le _) ⟨rfl, _, H1, (Off.rf _ _).up (by decide) _ _, up_same _ _ _ _, fun i hi => absurd hi (Nat.not_lt_zero _), fun i j hi => absurd hi (Nat.not_lt_zero _)⟩
  · obtain ⟨v, h2⟩ := x
    obtain ⟨e1, X2, H2, o2, W2⟩ := hI
    dsimp only at e1 H2 ⊢
    subst e1
    have R2 := R.offL o2 (by decide)
    have C2 := C.off o2 (by decide)
    have hl := gaL_len (wd := wd) (N := N) (g := g) (n := j)
    dsimp only [w_X8_fillWays_7, w_X8_fillWays_59, w_X8_fillWays_65]
    refine fP (o := 8) H2 H2.b rfl rfl ?_
    refine fP (o := 7) H2 H2.b rfl rfl ?_
    refine fC_ H2 R2 (o := 1) H2.b rfl rfl ?_
    rw [e3]
    refine br_go hj (by omega) ?_
    refine fP (o := 8) H2 H2.b rfl rfl ?_
    refine aG (id := 901) H2 H2.b rfl (by decide) rfl (by omega) ?_
    rw [C2 j hj, sh1 (by omega)]
    have hcs : (oI (caseM wd N j) = nI (2 ^ g)) ↔ sureG wd N j = some g := by
      have h2g : 2 ^ g < 2 ^ 8 := Nat.pow_lt_pow_right (by omega) (by omega)
      rw [sureG_iff O]
      constructor
      · intro z
        refine ⟨hg, ?_⟩
        cases c : caseM wd N j with
        | none => rw [c] at z; exact absurd z.symm (neg1_nI (by omega))
        | some m =>
          rw [c] at z
          have := caseM_256 O c
          rw [(nI_eq (a := m) (by omega) (by omega)).mp z]
      · rintro ⟨-, z⟩
        rw [z]
        rfl
    have no : ¬ ((gaL wd N g j).length < 8 ∧ sureG wd N j = some g) → kk1 (nI j + 1, h2) := by
      intro z
      refine kn _ ⟨(nI_succ j).symm, X2, H2, o2, ?_⟩
      simp only [gaL]
      rw [if_neg z]
      exact W2
    refine br_if (fun d => ?_) (fun d => no (fun z => d (hcs.mpr z.2)))
    refine vG (o := 10) H2 hS rfl ?_
    refine c_isFull H2 hS W2.1 hl ?_
    refine br_bI (fun c1 => no (fun z => ?_)) (fun c1 => ?_)
    · have := of_decide_eq_true c1
      omega
    · rw [decide_eq_true_iff] at c1
      refine fP (o := 8) H2 H2.b rfl rfl ?_
      refine fP (o := 7) H2 H2.b rfl rfl ?_
      refine fP (o := 8) H2 H2.b rfl rfl ?_
      refine fP (o := 7) H2 H2.b rfl rfl ?_
      refine vG (o := 10) H2 hS rfl ?_
      refine c_add H2 R2 O hS (by omega) (fun i hi => ?_) hj W2 (fun X3 h3_ H3 o3 W3 => ?_)
      · have := gaL_lt (wd := wd) (N := N) (g := g) hi
        exact Nat.lt_trans this hj
      · refine kn _ ⟨(nI_succ j).symm, X3, H3, o2.tr o3, ?_⟩
        simp only [gaL]
        rw [if_pos ⟨by omega, hcs.mp d⟩]
        exact W3
  · obtain ⟨v, h2⟩ := x
    obtain ⟨e1, X2, H2, o2, W2⟩ := hI
    dsimp only at e1 H2 ⊢
    subst e1
    have R2 := R.offL o2 (by decide)
    dsimp only [w_X8_fillWays_7, w_X8_fillWays_65]
    refine fP (o := 8) H2 H2.b rfl rfl ?_
    refine fP (o := 7) H2 H2.b rfl rfl ?_
    refine fC_ H2 R2 (o := 1) H2.b rfl rfl ?_
    rw [e3]
    exact br_end (k X2 h2 H2 o2 W2)
/-- the ways: made, or not yet -/
def WP (A : Nat → Nat) (S : Nat → Prop) (h0 : AH) : Prop := (¬ S 1 ∧ gP h0 (A 11) 4 = none) ∨ (S 1 ∧ gP h0 (A 11) 4 = some (A 10))
theorem fO11 (H : G A S h0 X h) {k : Nat} {r : Option Nat} (hr : gP h0 (A 11) k = r) {K : Option Nat → Prop} (kk : K r) : fO h (A 11) 11 k K := by
  refine ⟨H.kd (o := 11) H.b rfl, ?_⟩
  rw [H.2.2.2.1, hr]
  exact kk
def wSL : List Nat := [8, 101, 901, 902, 903, 904, 905, 907, 908, 10, 1101, 1102, 1103, 1104, 1105, 1106, 1107]
theorem c_way37 (H : G A S h0 X h) (R : CR X wd) (O : Ok wd N) (hS : S 1) (hP : gP h0 (A 11) 4 = some (A 10)) {g j : Nat} (hg : g < N 0) (hj : j < 3) {Xc : String → AH → Prop} (k : ∀ X' h', G A S h0 X' h' → Off wSL X X' → Q (wayV wd N g j) h') : w_X11_way_37 (A 11) (nI g) (nI j) h Q Xc := by
  have hp0 := Nat.two_pow_pos (waL wd N g).length
  dsimp only [w_X11_way_37, w_X11_way_97]
  refine fP (o := 11) H H.b rfl rfl ?_
  refine vG (o := 8) H H.b rfl ?_
  refine c_refresh H R O (fun X1 h1 H1 o1 R1 C1 => ?_)
  refine fP (o := 11) H1 H1.b rfl rfl ?_
  refine fO11 H1 hP ⟨_, rfl, ?_⟩
  refine vG (o := 8) H1 H1.b rfl ?_
  refine c_fillWays H1 R1 O C1 hS hg (fun X2 h2 H2 o2 W2 => ?_)
  have hl : (waL wd N g).length ≤ 8 := gaL_len
  have hc : ∀ i, i < (waL wd N g).length → waC wd N g i < N 3 := fun i hi => waC_lt hi
  have B := W_WB O (c := waC wd N g) (n := (waL wd N g).length) hl hc
  have WA2 : WA X2 (waL wd N g).length (frW wd (waC wd N g)) (tiW wd (waC wd N g)) (onW wd (waC wd N g)) := ⟨W2.1, fun i hi => (W2.2.1 i hi).2, W2.2.2⟩
  refine fO11 H2 hP ⟨_, rfl, ?_⟩
  refine vG (o := 10) H2 hS rfl ?_
  refine c_solve H2 hS WA2 B (fun X3 h3 H3 o3 n3 P3 E3 => ?_)
  have BF : TB (waF wd N g) := Fc_TB B
  have hbE : ∀ t, waE wd N g = some t → t ≤ 239 := fun t ht => by
    obtain ⟨⟨i, i1, i2⟩, _⟩ := erl_some ht
    exact (BF _ _ t i2).1
  have o3' : Off wSL X X3 := (o1.mono (by decide)).tr ((o2.mono (by decide)).tr (o3.mono (by decide)))
  refine br_Eq (a := j) (b := 0) (by omega) (by omega) (fun j0 => ?_) (fun j0 => ?_)
  · subst j0
    refine fO11 H3 hP ⟨_, rfl, ?_⟩
    refine vG (o := 10) H3 hS rfl ?_
    have v0 : wayV wd N g 0 = nI (hv (Op (waF wd N g) (waL wd N g).length) (waL wd N g).length) := by
      rw [wayV, if_pos rfl, Op_erl]
    rw [v0] at k
    refine c_fewest H3 hS n3 hl P3 (fun z => ?_) (fun z X4 h4 t H4 o4 I4 => ?_)
    · have z2 : waE wd N g ≠ none := fun y => z (by rw [show X3 10 8 = en1 (waE wd N g) from E3, y]; rfl)
      have ln : 0 < (waL wd N g).length := by
        refine Nat.pos_of_ne_zero (fun y => z2 ?_)
        show erl _ _ _ = none
        rw [y]
        rfl
      have y := k X3 h3 H3 o3'
      rw [hv_one ln (by rw [Op_erl]; exact z2)] at y
      exact y
    · have y := k X4 h4 H4 (o3'.tr (o4.mono (by decide)))
      rw [hv_eq (O_to_A hl I4 (fun i hi => ?_))] at y
      · exact y
      · refine ⟨i, hi, fun z => ?_⟩
        have q : T0c (waL wd N g).length (frW wd (waC wd N g)) (2 ^ i) i = some (frW wd (waC wd N g) i) := by
          show iniT _ _ _ _ _ = _
          unfold iniT
          rw [if_pos ⟨rfl, hi, rfl⟩]
        obtain ⟨t', -, q2⟩ := (Jn.stSI (fr := frW wd (waC wd N g)) (ti := tiW wd (waC wd N g)) (on := onW wd (waC wd N g)) (T0 := T0c (waL wd N g).length (frW wd (waC wd N g))) (n := (waL wd N g).length) (2 ^ (waL wd N g).length)).2.2 _ _ _ q
        exact absurd (q2.symm.trans z) (fun y => by cases y)
  · refine br_Eq (a := j) (b := 1) (by omega) (by omega) (fun j1 => ?_) (fun j1 => ?_)
    · subst j1
      refine fO11 H3 hP ⟨_, rfl, ?_⟩
      refine fG (o := 10) H3 hS rfl ?_
      have y := k X3 h3 H3 o3'
      rw [wayV, if_neg j0, if_pos rfl] at y
      rw [E3]
      exact y
    · refine fO11 H3 hP ⟨_, rfl, ?_⟩
      refine vG (o := 10) H3 hS rfl ?_
      rw [wayV, if_neg j0, if_neg j1] at k
      have W3 : WA X3 (waL wd N g).length (frW wd (waC wd N g)) (tiW wd (waC wd N g)) (onW wd (waC wd N g)) := ⟨n3, fun i hi => by rw [o3 1102 (by decide), o3 1103 (by decide)]; exact WA2.2.1 i hi, fun a b ha hb hn => by rw [o3 1104 (by decide)]; exact WA2.2.2 a b ha hb hn⟩
      refine c_firstFind H3 hS W3 B E3 hbE (fun z => ?_) (fun E hE X4 h4 H4 o4 => ?_)
      · have y := k X3 h3 H3 o3'
        have z2 : waE wd N g = none := z
        rw [z2] at y
        exact y
      · have y := k X4 h4 H4 (o3'.tr (o4.mono (by decide)))
        have z2 : waE wd N g = some E := hE
        rw [z2] at y
        dsimp only at y
        cases f : fsO (fun k => (waB wd N g E (2 ^ (waL wd N g).length - 1) k).isSome) (waL wd N g).length with
        | none =>
          rw [f] at y
          exact y
        | some i =>
          have hi := fsO_lt f
          rw [f] at y
          have e := (W2.2.1 i hi).1
          rw [← o3 1101 (by decide)] at e
          dsimp only
          rw [e]
          exact y
end WAYC2
