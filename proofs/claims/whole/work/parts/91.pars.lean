/-! how a text is read: over its things -/
abbrev Seg := List (Nat × Nat)
abbrev Res := Except Nat (Nat × Seg)
def trS (e : Nat × Nat) : List Nat := if e.1 ≤ 8 then [1000 + e.1] else if e.1 = 9 then [1007, e.2, 9000] else if e.1 = 10 then [e.2] else [(e.1 - 9) * 1000]
def enc (s : Seg) : List Nat := s.flatMap trS
theorem enc_app {s t : Seg} : enc (s ++ t) = enc s ++ enc t := List.flatMap_append
theorem enc_one {e : Nat × Nat} : enc [e] = trS e := by simp [enc]
theorem enc_nil : enc [] = [] := rfl
def ff (st : Bool) : Nat := if st = true then 1018 else 1009
section PARS
variable (th : Nat → Nat) (st : Bool)
def pFact (i : Nat) : Res := if ff st ≤ th i ∧ th i < ff st + 7 then .ok (i + 1, [(th i - ff st, 0)]) else .error i
def pPart (i : Nat) : Res := if 2000 ≤ th i then (if th (i + 1) = 42 then (match pFact th st (i + 2) with
    | .ok (j, s) => .ok (j, [(10, th i - 2000)] ++ s ++ [(11, 0)])
    | .error e => .error e) else .ok (i + 1, [(10, th i - 2000)])) else pFact th st i
def pSumL : Nat → Nat → Seg → Res
  | 0, i, a => .ok (i, a)
  | f + 1, i, a => if th i = 43 then (match pPart th st (i + 1) with
    | .ok (j, s) => pSumL f j (a ++ s ++ [(12, 0)])
    | .error e => .error e) else .ok (i, a)
noncomputable def pSum (i : Nat) : Res := match pPart th st i with
  | .ok (j, s) => pSumL th st k400 j s
  | .error e => .error e
noncomputable def pCmp (i : Nat) : Res := match pSum th st i with
  | .ok (j, s) => if th j = 60 ∨ th j = 62 then (match pSum th st (j + 1) with
    | .ok (j2, s2) => .ok (j2, s ++ s2 ++ [(if th j = 60 then 13 else 14, 0)])
    | .error e => .error e) else .error j
  | .error e => .error e
def pHeld (i : Nat) : Res := if 2000 ≤ th (i + 1) then .ok (i + 2, [(9, th (i + 1) - 2000)]) else .error (i + 1)
def oSeg (o : Bool) (a : Seg) : Seg := if o = true then a ++ [(17, 0)] else a
def pAnyL (pa : Nat → Res) : Nat → Bool → Nat → Seg → Res
  | 0, o, i, a => .ok (i, oSeg o a)
  | f + 1, o, i, a => if th i = 1006 then (match pa (i + 1) with
    | .ok (j, s) => pAnyL pa f o j (a ++ s ++ [(16, 0)])
    | .error e => .error e) else if th i = 1007 then (match pa (i + 1) with
    | .ok (j, s) => pAnyL pa f true j (oSeg o a ++ s)
    | .error e => .error e) else .ok (i, oSeg o a)
noncomputable def pAnyF (pa : Nat → Res) (i : Nat) : Res := match pa i with
  | .ok (j, s) => pAnyL th pa k400 false j s
  | .error e => .error e
noncomputable def pAtF (pn pc : Nat → Res) (i : Nat) : Res := if th i = 1008 then (match pn (i + 1) with
    | .ok (j, s) => .ok (j, s ++ [(15, 0)])
    | .error e => .error e) else if th i = 40 then (match pc (i + 1) with
    | .ok (j, s) => if th j = 41 then .ok (j + 1, s) else .error j
    | .error e => .error e) else if st = false ∧ (th i = 1016 ∨ th i = 1017) then .ok (i + 1, [(th i - 1009, 0)]) else if st = true ∧ th i = 1025 then pHeld th i else pCmp th st i
def pBad (i : Nat) : Res := .error (i - 1)
noncomputable def pAt : Nat → Nat → Res
  | 0 => pAtF th st pBad pBad
  | k + 1 => pAtF th st (pAt k) (pAnyF th (pAt k))
noncomputable def pLine (i : Nat) : Except Nat (Nat × Nat × Seg) := if 1000 ≤ th i ∧ th i ≤ 1004 then (if th (i + 1) = 1005 then (match pAnyF th (pAt th st k6) (i + 2) with
    | .ok (j, s) => .ok (j, th i - 1000, s)
    | .error e => .error e) else .ok (i + 1, th i - 1000, [])) else .error i
noncomputable def pLawL : Nat → Nat → List (Nat × Seg) → Except Nat (List (Nat × Seg))
  | 0, i, _ => .error i
  | f + 1, i, a => match pLine th st i with
    | .ok (j, c, s) => if th j = 0 then .ok (a ++ [(c, s)]) else if th j = 59 then pLawL f (j + 1) (a ++ [(c, s)]) else .error j
    | .error e => .error e
noncomputable def pLaw : Except Nat (List (Nat × Seg)) := if th 0 = 0 then .ok [] else pLawL th st k10 0 []
noncomputable def pStory : Except Nat Seg := match pAnyF th (pAt th st k6) 0 with
  | .ok (j, s) => if th j = 0 then .ok s else .error j
  | .error e => .error e
/-- the reference's loops: all that "and" joins, then "or" -/
def rAllL (pa : Nat → Res) : Nat → Nat → Seg → Res
  | 0, i, a => .ok (i, a)
  | f + 1, i, a => if th i = 1006 then (match pa (i + 1) with
    | .ok (j, s) => rAllL pa f j (a ++ s ++ [(16, 0)])
    | .error e => .error e) else .ok (i, a)
noncomputable def rAll (pa : Nat → Res) (i : Nat) : Res := match pa i with
  | .ok (j, s) => rAllL th pa k400 j s
  | .error e => .error e
noncomputable def rCondL (pa : Nat → Res) : Nat → Nat → Seg → Res
  | 0, i, a => .ok (i, a)
  | f + 1, i, a => if th i = 1007 then (match rAll th pa (i + 1) with
    | .ok (j, s) => rCondL pa f j (a ++ s ++ [(17, 0)])
    | .error e => .error e) else .ok (i, a)
noncomputable def rCond (pa : Nat → Res) (i : Nat) : Res := match rAll th pa i with
  | .ok (j, s) => rCondL th pa k400 j s
  | .error e => .error e
end PARS
section PARSP
variable {th te : Nat → Nat} {c : Nat} {st : Bool}
/-- a reader goes on, and its steps are no more than the bytes it has read -/
def PBd (te : Nat → Nat) (c : Nat) (pa : Nat → Res) : Prop := ∀ i j s, i ≤ c → pa i = .ok (j, s) → i < j ∧ j ≤ c ∧ (enc s).length + te i ≤ te j ∧ s ≠ []
theorem TS.lt (T : TS th te c) {i : Nat} (h : th i ≠ 0) : i < c := Nat.lt_of_not_le fun z => h (T.2.2.1 i z)
theorem TS.up (T : TS th te c) {i : Nat} (h : th i ≠ 0) : i < c ∧ te i + 1 ≤ te (i + 1) ∧ te (i + 1) ≤ 400 := ⟨T.lt h, T.2.2.2.1 i (T.lt h), T.2.2.2.2.1 (i + 1) (T.lt h)⟩
theorem trS_len {e : Nat × Nat} (h : e.1 ≠ 9) : (trS e).length = 1 := by
  unfold trS
  split
  · rfl
  · (first | rw [if_neg h] | skip)
    split <;> rfl
theorem pFact_bd (T : TS th te c) : PBd te c (pFact th st) := by
  intro i j s hi h
  unfold pFact at h
  split at h
  · rename_i d
    cases h
    have h0 : th i ≠ 0 := by unfold ff at d; split at d <;> omega
    obtain ⟨u1, u2, u3⟩ := T.up h0
    refine ⟨by omega, by omega, ?_, by simp⟩
    rw [enc_one, trS_len (by dsimp only; omega)]
    omega
  · cases h
theorem pPart_bd (T : TS th te c) : PBd te c (pPart th st) := by
  intro i j s hi h
  unfold pPart at h
  split at h
  · rename_i d
    obtain ⟨u1, u2, u3⟩ := T.up (i := i) (by omega)
    split at h
    · rename_i d2
      obtain ⟨v1, v2, v3⟩ := T.up (i := i + 1) (by omega)
      cases e : pFact th st (i + 2) with
      | error x => rw [e] at h; cases h
      | ok q =>
        obtain ⟨a, b⟩ := q
        rw [e] at h
        cases h
        obtain ⟨w1, w2, w3, w4⟩ := pFact_bd T (i + 2) _ _ (by omega) e
        refine ⟨by omega, w2, ?_, by simp⟩
        rw [enc_app, enc_app, enc_one, enc_one, List.length_append, List.length_append, trS_len (show (10 : Nat) ≠ 9 by decide), trS_len (by decide)]
        have e2 : te (i + 2) = te (i + 1 + 1) := rfl
        omega
    · cases h
      refine ⟨by omega, by omega, ?_, by simp⟩
      rw [enc_one, trS_len (show (10 : Nat) ≠ 9 by decide)]
      omega
  · exact pFact_bd T i j s hi h
theorem pSumL_bd (T : TS th te c) : ∀ {f i : Nat} {a : Seg} {j : Nat} {s : Seg}, i ≤ c → a ≠ [] → pSumL th st f i a = .ok (j, s) → i ≤ j ∧ j ≤ c ∧ (enc s).length + te i ≤ te j + (enc a).length ∧ s ≠ [] := by
  intro f
  induction f with
  | zero =>
    intro i a j s hi ha h
    simp only [pSumL] at h
    cases h
    exact ⟨Nat.le_refl _, hi, by omega, ha⟩
  | succ f ih =>
    intro i a j s hi ha h
    simp only [pSumL] at h
    split at h
    · rename_i d
      obtain ⟨u1, u2, u3⟩ := T.up (i := i) (by omega)
      cases e : pPart th st (i + 1) with
      | error x => rw [e] at h; cases h
      | ok q =>
        obtain ⟨x, y⟩ := q
        rw [e] at h
        obtain ⟨w1, w2, w3, w4⟩ := pPart_bd T (i + 1) _ _ (by omega) e
        obtain ⟨z1, z2, z3, z4⟩ := ih w2 (by simp) h
        refine ⟨by omega, z2, ?_, z4⟩
        rw [enc_app, enc_app, enc_one, List.length_append, List.length_append, trS_len (by decide)] at z3
        omega
    · cases h
      exact ⟨Nat.le_refl _, hi, by omega, ha⟩
theorem pSum_bd (T : TS th te c) : PBd te c (pSum th st) := by
  intro i j s hi h
  unfold pSum at h
  cases e : pPart th st i with
  | error x => rw [e] at h; cases h
  | ok q =>
    obtain ⟨x, y⟩ := q
    rw [e] at h
    obtain ⟨w1, w2, w3, w4⟩ := pPart_bd T i _ _ hi e
    obtain ⟨z1, z2, z3, z4⟩ := pSumL_bd T w2 w4 h
    exact ⟨by omega, z2, by omega, z4⟩
theorem pCmp_bd (T : TS th te c) : PBd te c (pCmp th st) := by
  intro i j s hi h
  unfold pCmp at h
  cases e : pSum th st i with
  | error x => rw [e] at h; cases h
  | ok q =>
    obtain ⟨x, y⟩ := q
    rw [e] at h
    dsimp only at h
    obtain ⟨w1, w2, w3, w4⟩ := pSum_bd T i _ _ hi e
    split at h
    · rename_i d
      obtain ⟨u1, u2, u3⟩ := T.up (i := x) (by omega)
      cases e2 : pSum th st (x + 1) with
      | error x => rw [e2] at h; cases h
      | ok q =>
        obtain ⟨x2, y2⟩ := q
        rw [e2] at h
        cases h
        obtain ⟨z1, z2, z3, z4⟩ := pSum_bd T (x + 1) _ _ (by omega) e2
        refine ⟨by omega, z2, ?_, by simp⟩
        rw [enc_app, enc_app, enc_one, List.length_append, List.length_append, trS_len (by dsimp only; split <;> decide)]
        omega
    · cases h
theorem pHeld_bd (T : TS th te c) {i j : Nat} {s : Seg} (h9 : th i = 1025) (h : pHeld th i = .ok (j, s)) : i < j ∧ j ≤ c ∧ (enc s).length + te i ≤ te j ∧ s ≠ [] := by
  unfold pHeld at h
  split at h
  · rename_i d
    cases h
    obtain ⟨u1, u2, u3⟩ := T.up (i := i) (by omega)
    obtain ⟨v1, v2, v3⟩ := T.up (i := i + 1) (by omega)
    have := T.2.2.2.2.2.1 i u1 (Or.inr h9)
    refine ⟨by omega, by omega, ?_, by simp⟩
    rw [enc_one]
    show 3 + te i ≤ te (i + 1 + 1)
    omega
  · cases h
theorem oSeg_len {o : Bool} {a : Seg} : (enc (oSeg o a)).length = (enc a).length + (if o = true then 1 else 0) := by
  unfold oSeg
  split
  · rw [enc_app, enc_one, List.length_append, trS_len (by decide)]
  · rfl
theorem oSeg_ne {o : Bool} {a : Seg} (h : a ≠ []) : oSeg o a ≠ [] := by
  unfold oSeg
  split
  · simp
  · exact h
theorem pAnyL_bd (T : TS th te c) {pa : Nat → Res} (B : PBd te c pa) : ∀ {f : Nat} {o : Bool} {i : Nat} {a : Seg} {j : Nat} {s : Seg}, i ≤ c → a ≠ [] → pAnyL th pa f o i a = .ok (j, s) → i ≤ j ∧ j ≤ c ∧ (enc s).length + te i ≤ te j + (enc (oSeg o a)).length ∧ s ≠ [] := by
  intro f
  induction f with
  | zero =>
    intro o i a j s hi ha h
    simp only [pAnyL] at h
    cases h
    exact ⟨Nat.le_refl _, hi, by omega, oSeg_ne ha⟩
  | succ f ih =>
    intro o i a j s hi ha h
    simp only [pAnyL] at h
    split at h
    · rename_i d
      obtain ⟨u1, u2, u3⟩ := T.up (i := i) (by omega)
      cases e : pa (i + 1) with
      | error x => rw [e] at h; cases h
      | ok q =>
        obtain ⟨x, y⟩ := q
        rw [e] at h
        obtain ⟨w1, w2, w3, w4⟩ := B (i + 1) _ _ (by omega) e
        obtain ⟨z1, z2, z3, z4⟩ := ih w2 (by simp) h
        refine ⟨by omega, z2, ?_, z4⟩
        rw [oSeg_len, enc_app, enc_app, enc_one, List.length_append, List.length_append, trS_len (by decide)] at z3
        rw [oSeg_len]
        omega
    · split at h
      · rename_i d
        obtain ⟨u1, u2, u3⟩ := T.up (i := i) (by omega)
        cases e : pa (i + 1) with
        | error x => rw [e] at h; cases h
        | ok q =>
          obtain ⟨x, y⟩ := q
          rw [e] at h
          obtain ⟨w1, w2, w3, w4⟩ := B (i + 1) _ _ (by omega) e
          obtain ⟨z1, z2, z3, z4⟩ := ih w2 (by simp [w4]) h
          refine ⟨by omega, z2, ?_, z4⟩
          rw [oSeg_len, enc_app, List.length_append, if_pos rfl] at z3
          omega
      · cases h
        exact ⟨Nat.le_refl _, hi, by omega, oSeg_ne ha⟩
theorem pAnyF_bd (T : TS th te c) {pa : Nat → Res} (B : PBd te c pa) : PBd te c (pAnyF th pa) := by
  intro i j s hi h
  unfold pAnyF at h
  cases e : pa i with
  | error x => rw [e] at h; cases h
  | ok q =>
    obtain ⟨x, y⟩ := q
    rw [e] at h
    obtain ⟨w1, w2, w3, w4⟩ := B i _ _ hi e
    obtain ⟨z1, z2, z3, z4⟩ := pAnyL_bd T B w2 w4 h
    rw [oSeg_len, if_neg (by decide)] at z3
    exact ⟨by omega, z2, by omega, z4⟩
theorem pAtF_bd (T : TS th te c) {pn pc : Nat → Res} (B1 : PBd te c pn) (B2 : PBd te c pc) : PBd te c (pAtF th st pn pc) := by
  intro i j s hi h
  unfold pAtF at h
  split at h
  · rename_i d
    obtain ⟨u1, u2, u3⟩ := T.up (i := i) (by omega)
    cases e : pn (i + 1) with
    | error x => rw [e] at h; cases h
    | ok q =>
      obtain ⟨x, y⟩ := q
      rw [e] at h
      cases h
      obtain ⟨w1, w2, w3, w4⟩ := B1 (i + 1) _ _ (by omega) e
      refine ⟨by omega, w2, ?_, by simp⟩
      rw [enc_app, enc_one, List.length_append, trS_len (by decide)]
      omega
  · split at h
    · rename_i d
      obtain ⟨u1, u2, u3⟩ := T.up (i := i) (by omega)
      cases e : pc (i + 1) with
      | error x => rw [e] at h; cases h
      | ok q =>
        obtain ⟨x, y⟩ := q
        rw [e] at h
        dsimp only at h
        obtain ⟨w1, w2, w3, w4⟩ := B2 (i + 1) _ _ (by omega) e
        split at h
        · rename_i d2
          cases h
          obtain ⟨v1, v2, v3⟩ := T.up (i := x) (by omega)
          exact ⟨by omega, by omega, by omega, w4⟩
        · cases h
    · split at h
      · rename_i d
        cases h
        obtain ⟨u1, u2, u3⟩ := T.up (i := i) (by omega)
        refine ⟨by omega, by omega, ?_, by simp⟩
        rw [enc_one, trS_len (by dsimp only; omega)]
        omega
      · split at h
        · rename_i d
          exact pHeld_bd T d.2 h
        · exact pCmp_bd T i j s hi h
theorem pBad_bd : PBd te c pBad := fun i j s _ h => by cases h
theorem pAt_bd (T : TS th te c) : ∀ k, PBd te c (pAt th st k) := by
  intro k
  induction k with
  | zero => exact pAtF_bd T pBad_bd pBad_bd
  | succ k ih => exact pAtF_bd T ih (pAnyF_bd T ih)
/-- nested loops read as one -/
theorem any_loops (T : TS th te c) {pa : Nat → Res} (B : PBd te c pa) : ∀ (m i f f' f'' : Nat) (o : Bool) (P a : Seg), 401 - i ≤ m → i ≤ c → 401 - i ≤ f → 401 - i ≤ f' → 401 - i ≤ f'' → pAnyL th pa f o i (P ++ a) = (match rAllL th pa f' i a with
    | .ok (j, a') => rCondL th pa f'' j (oSeg o (P ++ a'))
    | .error e => .error e) := by
  intro m
  induction m with
  | zero =>
    intro i f f' f'' o P a hm hi
    have := T.1
    omega
  | succ m ih =>
    intro i f f' f'' o P a hm hi h1 h2 h3
    have hc := T.1
    obtain ⟨f, rfl⟩ : ∃ g, f = g + 1 := ⟨f - 1, by omega⟩
    obtain ⟨f', rfl⟩ : ∃ g, f' = g + 1 := ⟨f' - 1, by omega⟩
    obtain ⟨f'', rfl⟩ : ∃ g, f'' = g + 1 := ⟨f'' - 1, by omega⟩
    simp only [pAnyL, rAllL]
    by_cases d : th i = 1006
    · rw [if_pos d, if_pos d]
      have hl := T.lt (i := i) (by omega)
      cases e : pa (i + 1) with
      | error x => rfl
      | ok q =>
        obtain ⟨j, s⟩ := q
        obtain ⟨w1, w2, w3, w4⟩ := B (i + 1) _ _ (by omega) e
        dsimp only
        have := ih j f f' (f'' + 1) o P (a ++ s ++ [(16, 0)]) (by omega) w2 (by omega) (by omega) (by omega)
        rw [← this]
        congr 1
        simp only [List.append_assoc]
    · rw [if_neg d, if_neg d]
      dsimp only
      simp only [rCondL]
      by_cases d2 : th i = 1007
      · rw [if_pos d2, if_pos d2]
        have hl := T.lt (i := i) (by omega)
        unfold rAll
        cases e : pa (i + 1) with
        | error x => rfl
        | ok q =>
          obtain ⟨j, s⟩ := q
          obtain ⟨w1, w2, w3, w4⟩ := B (i + 1) _ _ (by omega) e
          dsimp only
          rw [ih j f k400 f'' true (oSeg o (P ++ a)) s (by omega) w2 (by omega) (by rw [k400_eq]; omega) (by omega)]
          cases rAllL th pa k400 j s with
          | error x => rfl
          | ok q =>
            obtain ⟨j2, s2⟩ := q
            dsimp only
            congr 1
      · rw [if_neg d2, if_neg d2]
theorem rCond_eq (T : TS th te c) {pa : Nat → Res} (B : PBd te c pa) {i : Nat} (hi : i ≤ c) : rCond th pa i = pAnyF th pa i := by
  unfold rCond pAnyF rAll
  cases e : pa i with
  | error x => rfl
  | ok q =>
    obtain ⟨j, s⟩ := q
    obtain ⟨w1, w2, w3, w4⟩ := B i _ _ hi e
    dsimp only
    have := any_loops T B 401 j k400 k400 k400 false [] s (by omega) w2 (by rw [k400_eq]; omega) (by rw [k400_eq]; omega) (by rw [k400_eq]; omega)
    rw [List.nil_append] at this
    rw [this]
    cases rAllL th pa k400 j s with
    | error x => rfl
    | ok q => rfl
end PARSP
