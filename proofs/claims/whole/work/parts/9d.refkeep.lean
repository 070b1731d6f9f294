/-! what was read is kept: the reference -/
theorem law_okL {th te : Nat → Nat} {c : Nat} {st : Bool} (T : TS th te c) : ∀ {f i : Nat} {a L : List (Nat × Seg)}, i ≤ c → (lwE a).length ≤ te i → LOk st a → pLawL th st f i a = .ok L → LOk st L ∧ (lwE L).length ≤ 400 ∧ L.length ≤ a.length + f := by
  intro f
  induction f with
  | zero => intro i a L _ _ _ h; cases h
  | succ f ih =>
    intro i a L hi hl ho h
    unfold pLawL at h
    cases e : pLine th st i with
    | error x => rw [e] at h; cases h
    | ok q =>
      obtain ⟨j, d, s⟩ := q
      rw [e] at h
      dsimp only at h
      obtain ⟨u1, u2, u3, u4, u5⟩ := pLine_bd T hi e
      have hl2 : (lwE (a ++ [(d, s)])).length ≤ te j := by
        rw [lwE_app, List.length_append, List.length_append]
        simp only [List.length_cons, List.length_nil]
        omega
      have ho2 : LOk st (a ++ [(d, s)]) := fun q hq => by
        rcases List.mem_append.mp hq with z | z
        · exact ho q z
        · rw [List.mem_singleton.mp z]
          exact ⟨u4, u5⟩
      split at h
      · have h := Except.ok.inj h
        subst h
        have := T.2.2.2.2.1 j u2
        exact ⟨ho2, by omega, by rw [List.length_append]; simp only [List.length_cons, List.length_nil]; omega⟩
      · split at h
        · rename_i d2
          obtain ⟨v1, v2, v3⟩ := T.up (i := j) (by omega)
          obtain ⟨w1, w2, w3⟩ := ih (by omega) (by omega) ho2 h
          refine ⟨w1, w2, ?_⟩
          rw [List.length_append] at w3
          simp only [List.length_cons, List.length_nil] at w3
          omega
        · cases h
theorem law_ok {B : Nat → Nat} {n : Nat} (hn : n ≤ 400) {L : List (Nat × Seg)} (h : pLaw (tkH B n) false = .ok L) : LOk false L ∧ (lwE L).length ≤ 400 ∧ L.length ≤ 10 := by
  unfold pLaw at h
  split at h
  · have h := Except.ok.inj h
    subst h
    exact ⟨fun q hq => absurd hq (List.not_mem_nil), by decide, by decide⟩
  · have := law_okL (tok_TS (B := B) hn) (Nat.zero_le _) (Nat.zero_le _) (fun q hq => absurd hq (List.not_mem_nil)) h
    exact ⟨this.1, this.2.1, by have := this.2.2; rwa [List.length_nil, Nat.zero_add, k10_eq] at this⟩
theorem story_ok {B : Nat → Nat} {n : Nat} (hn : n ≤ 400) {s : Seg} (h : pStory (tkH B n) true = .ok s) : TY true 19 true s ∧ s ≠ [] ∧ (enc s).length ≤ 400 := by
  unfold pStory at h
  have T := tok_TS (B := B) hn
  cases e : pAnyF (tkH B n) (pAt (tkH B n) true k6) 0 with
  | error x => rw [e] at h; cases h
  | ok q =>
    obtain ⟨j, s'⟩ := q
    rw [e] at h
    dsimp only at h
    split at h
    · have h := Except.ok.inj h
      subst h
      obtain ⟨w1, w2, w3, w4⟩ := pAnyF_bd T (pAt_bd T k6) 0 _ _ (Nat.zero_le _) e
      have := T.2.2.2.2.1 j w2
      exact ⟨cond_ty T.2.2.2.2.2.2.1 e, w4, by omega⟩
    · cases h
def cpy (X : Nat → Nat → Int32) (b i : Nat) : Nat → Nat → Int32 := fun id n => if id = 1301 ∧ b ≤ n ∧ n < b + i then X 1301 (8645 + (n - b)) else X id n
theorem cpy_0 {X : Nat → Nat → Int32} {b : Nat} : cpy X b 0 = X := by
  funext id n
  unfold cpy
  rw [if_neg (by omega)]
theorem cpy_S {X : Nat → Nat → Int32} {b i : Nat} : up (cpy X b i) 1301 (b + i) (X 1301 (8645 + i)) = cpy X b (i + 1) := by
  funext id n
  by_cases e : id = 1301
  · subst e
    by_cases e2 : n = b + i
    · subst e2
      rw [up_same]
      unfold cpy
      rw [if_pos ⟨rfl, by omega, by omega⟩]
      congr 1
      omega
    · rw [up_n _ _ _ e2]
      unfold cpy
      by_cases z : b ≤ n ∧ n < b + i
      · rw [if_pos ⟨rfl, z.1, z.2⟩, if_pos ⟨rfl, z.1, by omega⟩]
      · rw [if_neg (by omega), if_neg (by omega)]
  · rw [up_row _ _ _ e]
    unfold cpy
    rw [if_neg (fun z => e z.1), if_neg (fun z => e z.1)]
theorem cpy_id {X : Nat → Nat → Int32} {b i id n : Nat} (h : id ≠ 1301) : cpy X b i id n = X id n := if_neg fun z => h z.1
theorem cpy_out {X : Nat → Nat → Int32} {b i n : Nat} (h : n < b ∨ b + i ≤ n) : cpy X b i 1301 n = X 1301 n := if_neg (by omega)
theorem cpy_in {X : Nat → Nat → Int32} {b i j : Nat} (h : j < i) : cpy X b i 1301 (b + j) = X 1301 (8645 + j) := by
  unfold cpy
  rw [if_pos ⟨rfl, by omega, by omega⟩]
  congr 1
  omega
section MKEEP
variable {A : Nat → Nat} {S : Nat → Prop} {h0 h : AH} {X : Nat → Nat → Int32} {wd : Nat → Int32} {B : Nat → Nat} {n : Nat} {Qv : AH → Prop} {Q : Int32 → AH → Prop}
theorem m_kStep {b i t : Nat} {x38 : AH → Prop} {k : Int32 → AH → Prop} (H : G A S h0 (cpy X b i) h) (hb : 1166 + 831 * t = b) (hb2 : b + 831 ≤ 8645) (hi : i < 831) (kk : ∀ h', G A S h0 (cpy X b (i + 1)) h' → k (nI i + 1) h') : w_X12_keeps_2 x38 k (A 12) (nI t) (nI i) h Qv := by
  have et : (1166 : Int32) + (831 : Int32) * nI t = nI b := by rw [← hb]; exact ix2 1166 831 t
  dsimp only [w_X12_keeps_2, w_X12_textAt]
  refine br_go (a := 831) (by omega) (by decide) ?_
  refine fP (o := 12) H H.b rfl rfl ?_
  rw [et]
  refine fP (o := 12) H H.b rfl rfl ?_
  refine aG (id := 1301) (n := 8645 + i) H H.b rfl (by decide) (by rw [show (1166 : Int32) + 831 * 9 = nI 8645 by decide, nI_add]) (by omega) ?_
  rw [cpy_out (by omega)]
  refine tG (id := 1301) (n := b + i) H H.b rfl (by decide) (nI_add _ _) (by omega) (fun h2 H2 => ?_)
  rw [cpy_S] at H2
  exact kk h2 H2
theorem m_keeps (H : G A S h0 X h) {t : Nat} (ht : t ≤ 8) (k : ∀ h', G A S h0 (cpy X (1166 + 831 * t) 831) h' → Qv h') : w_X12_keeps (A 12) (nI t) h Qv := by
  have et : (1166 : Int32) + (831 : Int32) * nI t = nI (1166 + 831 * t) := ix2 1166 831 t
  generalize hb : 1166 + 831 * t = b at *
  have hb2 : b + 831 ≤ 8645 := by omega
  dsimp only [w_X12_keeps]
  refine ⟨831 + 1, ?_⟩
  have key : ∀ (m i : Nat) (h : AH), i + m = 831 → G A S h0 (cpy X b i) h → it (fun (k2 : Int32 × AH → Prop) (s2 : Int32 × AH) => w_X12_keeps_2 (fun h => w_X12_keeps_38 h Qv) (fun (y2 : Int32) h => k2 (y2, h)) (A 12) (nI t) s2.1 s2.2 Qv) (m + 1) (nI i, h) := by
    intro m
    induction m with
    | zero =>
      intro i h hi H
      obtain rfl : i = 831 := by omega
      rw [it]
      dsimp only [w_X12_keeps_2, w_X12_keeps_38]
      exact br_T (by decide) (k h H)
    | succ m ih =>
      intro i h hi H
      rw [it]
      refine m_kStep H hb hb2 (by omega) (fun h2 H2 => ?_)
      rw [← nI_succ]
      exact ih (i + 1) h2 (by omega) H2
  exact key 831 0 h rfl (by rw [cpy_0]; exact H)
end MKEEP
