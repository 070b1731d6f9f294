/-! what is read is well made: types and depths of the pile -/
def ckS (st : Bool) (e : Nat × Nat) (T : List Bool) : Option (List Bool) :=
  if e.1 ≤ 10 then (if T.length < 31 ∧ e.2 < 1000 ∧ (e.1 = 9 → st = true) ∧ (e.1 = 7 ∨ e.1 = 8 → st = false) then some (decide (7 ≤ e.1 ∧ e.1 ≤ 9) :: T) else none)
  else if e.1 = 15 then (match T with
    | true :: R => some (true :: R)
    | _ => none)
  else match T with
    | b :: a :: R => if e.1 ≤ 12 then (if a = false ∧ b = false then some (false :: R) else none)
      else if e.1 ≤ 14 then (if a = false ∧ b = false then some (true :: R) else none)
      else if e.1 ≤ 17 then (if a = true ∧ b = true then some (true :: R) else none) else none
    | _ => none
def ck (st : Bool) : Seg → List Bool → Option (List Bool)
  | [], T => some T
  | e :: s, T => (ckS st e T).bind (ck st s)
theorem ck_app {st : Bool} {s t : Seg} : ∀ {T : List Bool}, ck st (s ++ t) T = (ck st s T).bind (ck st t) := by
  induction s with
  | nil => intro T; rfl
  | cons e s ih =>
    intro T
    simp only [List.cons_append, ck]
    cases ckS st e T with
    | none => rfl
    | some T2 => exact ih
def TY (st : Bool) (d : Nat) (b : Bool) (s : Seg) : Prop := ∀ T, T.length + d ≤ 32 → ck st s T = some (b :: T)
theorem TY.mono {st : Bool} {d d' : Nat} {b : Bool} {s : Seg} (h : TY st d b s) (hd : d ≤ d') : TY st d' b s := fun T hT => h T (by omega)
theorem ck_one {st : Bool} {e : Nat × Nat} {T : List Bool} : ck st [e] T = ckS st e T := by
  simp only [ck]
  cases ckS st e T <;> rfl
theorem ty_push {st : Bool} {e : Nat × Nat} (h : e.1 ≤ 10) (hv : e.2 < 1000) (hs : (e.1 = 9 → st = true) ∧ (e.1 = 7 ∨ e.1 = 8 → st = false)) : TY st 2 (decide (7 ≤ e.1 ∧ e.1 ≤ 9)) [e] := by
  intro T hT
  rw [ck_one]
  unfold ckS
  rw [if_pos h, if_pos ⟨by omega, hv, hs⟩]
theorem ty_num {st : Bool} {v : Nat} (hv : v < 1000) : TY st 2 false [(10, v)] := by
  have := ty_push (e := (10, v)) (st := st) (show (10 : Nat) ≤ 10 by decide) hv ⟨fun z => absurd z (by dsimp only; omega), fun z => absurd z (by dsimp only; omega)⟩
  exact this
theorem ty_2 {st : Bool} {d1 d2 : Nat} {x : Bool} {s t : Seg} {e : Nat × Nat} (h1 : TY st d1 x s) (h2 : TY st d2 x t) (b : Bool) (he : ∀ R, ckS st e (x :: x :: R) = some (b :: R)) : TY st (max d1 (d2 + 1)) b (s ++ t ++ [e]) := by
  intro T hT
  rw [ck_app, ck_app, h1 T (by omega)]
  show ((ck st t (x :: T)).bind _) = _
  rw [h2 (x :: T) (by simp only [List.length_cons]; omega)]
  show ck st [e] _ = _
  rw [ck_one, he]
theorem e_ari {st : Bool} {e : Nat × Nat} (h : e.1 = 11 ∨ e.1 = 12) (R : List Bool) : ckS st e (false :: false :: R) = some (false :: R) := by
  unfold ckS
  rw [if_neg (by omega), if_neg (by omega)]
  dsimp only
  rw [if_pos (by omega), if_pos ⟨rfl, rfl⟩]
theorem e_cmp {st : Bool} {e : Nat × Nat} (h : e.1 = 13 ∨ e.1 = 14) (R : List Bool) : ckS st e (false :: false :: R) = some (true :: R) := by
  unfold ckS
  rw [if_neg (by omega), if_neg (by omega)]
  dsimp only
  rw [if_neg (by omega), if_pos (by omega), if_pos ⟨rfl, rfl⟩]
theorem e_log {st : Bool} {e : Nat × Nat} (h : e.1 = 16 ∨ e.1 = 17) (R : List Bool) : ckS st e (true :: true :: R) = some (true :: R) := by
  unfold ckS
  rw [if_neg (by omega), if_neg (by omega)]
  dsimp only
  rw [if_neg (by omega), if_neg (by omega), if_pos (by omega), if_pos ⟨rfl, rfl⟩]
theorem e_not {st : Bool} {e : Nat × Nat} (h : e.1 = 15) (R : List Bool) : ckS st e (true :: R) = some (true :: R) := by
  unfold ckS
  rw [if_neg (by omega), if_pos h]
section TYPES
variable {th : Nat → Nat} {st : Bool}
def PTy (st : Bool) (d : Nat) (b : Bool) (pa : Nat → Res) : Prop := ∀ i j s, pa i = .ok (j, s) → TY st d b s
theorem pFact_ty : PTy st 2 false (pFact th st) := by
  intro i j s h
  unfold pFact at h
  split at h
  · rename_i d
    cases h
    have := ty_push (st := st) (e := (th i - ff st, 0)) (by dsimp only; omega) (show (0 : Nat) < 1000 by decide) ⟨fun z => absurd z (by dsimp only; omega), fun z => absurd z (by dsimp only; omega)⟩
    rw [show decide (7 ≤ (th i - ff st, 0).1 ∧ (th i - ff st, 0).1 ≤ 9) = false from decide_eq_false (by dsimp only; omega)] at this
    exact this
  · cases h
theorem pPart_ty (hT : ∀ i, th i < 3000) : PTy st 3 false (pPart th st) := by
  intro i j s h
  unfold pPart at h
  split at h
  · split at h
    · cases e : pFact th st (i + 2) with
      | error x => rw [e] at h; cases h
      | ok q =>
        obtain ⟨a, b⟩ := q
        rw [e] at h
        cases h
        exact (ty_2 (ty_num (by have := hT i; omega)) (pFact_ty _ _ _ e) false (e_ari (Or.inl rfl))).mono (by decide)
    · cases h
      exact (ty_num (by have := hT i; omega)).mono (by decide)
  · exact (pFact_ty _ _ _ h).mono (by decide)
theorem pSumL_ty (hT : ∀ i, th i < 3000) : ∀ {f i : Nat} {a : Seg} {j : Nat} {s : Seg}, TY st 4 false a → pSumL th st f i a = .ok (j, s) → TY st 4 false s := by
  intro f
  induction f with
  | zero => intro i a j s ha h; simp only [pSumL] at h; cases h; exact ha
  | succ f ih =>
    intro i a j s ha h
    simp only [pSumL] at h
    split at h
    · cases e : pPart th st (i + 1) with
      | error x => rw [e] at h; cases h
      | ok q =>
        obtain ⟨x, y⟩ := q
        rw [e] at h
        exact ih ((ty_2 ha (pPart_ty hT _ _ _ e) false (e_ari (Or.inr rfl))).mono (by decide)) h
    · cases h; exact ha
theorem pSum_ty (hT : ∀ i, th i < 3000) : PTy st 4 false (pSum th st) := by
  intro i j s h
  unfold pSum at h
  cases e : pPart th st i with
  | error x => rw [e] at h; cases h
  | ok q =>
    obtain ⟨x, y⟩ := q
    rw [e] at h
    exact pSumL_ty hT ((pPart_ty hT _ _ _ e).mono (by decide)) h
theorem pCmp_ty (hT : ∀ i, th i < 3000) : PTy st 5 true (pCmp th st) := by
  intro i j s h
  unfold pCmp at h
  cases e : pSum th st i with
  | error x => rw [e] at h; cases h
  | ok q =>
    obtain ⟨x, y⟩ := q
    rw [e] at h
    dsimp only at h
    split at h
    · cases e2 : pSum th st (x + 1) with
      | error x => rw [e2] at h; cases h
      | ok q =>
        obtain ⟨x2, y2⟩ := q
        rw [e2] at h
        cases h
        exact ty_2 (pSum_ty hT _ _ _ e) (pSum_ty hT _ _ _ e2) true (e_cmp (by dsimp only; split <;> simp))
    · cases h
theorem pAnyL_ty {pa : Nat → Res} {d : Nat} (B : PTy st d true pa) : ∀ {f : Nat} {o : Bool} {i : Nat} {a : Seg} {j : Nat} {s : Seg}, (∀ T, T.length + (d + 2) ≤ 32 → ck st a T = some (if o = true then true :: true :: T else true :: T)) → pAnyL th pa f o i a = .ok (j, s) → TY st (d + 2) true s := by
  intro f
  have fin : ∀ {o : Bool} {a : Seg}, (∀ T, T.length + (d + 2) ≤ 32 → ck st a T = some (if o = true then true :: true :: T else true :: T)) → TY st (d + 2) true (oSeg o a) := by
    intro o a ha T hT
    unfold oSeg
    cases o with
    | false => exact ha T hT
    | true =>
      rw [if_pos rfl, ck_app, ha T hT]
      exact ck_one.trans (e_log (st := st) (e := (17, 0)) (Or.inr rfl) T)
  induction f with
  | zero => intro o i a j s ha h; simp only [pAnyL] at h; cases h; exact fin ha
  | succ f ih =>
    intro o i a j s ha h
    simp only [pAnyL] at h
    split at h
    · cases e : pa (i + 1) with
      | error x => rw [e] at h; cases h
      | ok q =>
        obtain ⟨x, y⟩ := q
        rw [e] at h
        refine ih (fun T hT => ?_) h
        rw [ck_app, ck_app, ha T hT]
        cases o with
        | false =>
          show ((ck st y (true :: T)).bind _) = _
          rw [B _ _ _ e (true :: T) (by simp only [List.length_cons]; omega)]
          exact ck_one.trans (e_log (st := st) (e := (16, 0)) (Or.inl rfl) T)
        | true =>
          show ((ck st y (true :: true :: T)).bind _) = _
          rw [B _ _ _ e (true :: true :: T) (by simp only [List.length_cons]; omega)]
          exact ck_one.trans (e_log (st := st) (e := (16, 0)) (Or.inl rfl) (true :: T))
    · split at h
      · cases e : pa (i + 1) with
        | error x => rw [e] at h; cases h
        | ok q =>
          obtain ⟨x, y⟩ := q
          rw [e] at h
          refine ih (fun T hT => ?_) h
          rw [ck_app, fin ha T hT]
          exact B _ _ _ e (true :: T) (by simp only [List.length_cons]; omega)
      · cases h; exact fin ha
theorem pAnyF_ty {pa : Nat → Res} {d : Nat} (B : PTy st d true pa) : PTy st (d + 2) true (pAnyF th pa) := by
  intro i j s h
  unfold pAnyF at h
  cases e : pa i with
  | error x => rw [e] at h; cases h
  | ok q =>
    obtain ⟨x, y⟩ := q
    rw [e] at h
    exact pAnyL_ty B (fun T hT => (B _ _ _ e T (by omega))) h
theorem pAtF_ty (hT : ∀ i, th i < 3000) {pn pc : Nat → Res} {d : Nat} (hd : 5 ≤ d) (B1 : PTy st d true pn) (B2 : PTy st d true pc) : PTy st d true (pAtF th st pn pc) := by
  intro i j s h
  unfold pAtF at h
  split at h
  · cases e : pn (i + 1) with
    | error x => rw [e] at h; cases h
    | ok q =>
      obtain ⟨x, y⟩ := q
      rw [e] at h
      cases h
      intro T hT
      rw [ck_app, B1 _ _ _ e T hT]
      exact ck_one.trans (e_not (st := st) (e := (15, 0)) rfl T)
  · split at h
    · cases e : pc (i + 1) with
      | error x => rw [e] at h; cases h
      | ok q =>
        obtain ⟨x, y⟩ := q
        rw [e] at h
        dsimp only at h
        split at h
        · cases h; exact B2 _ _ _ e
        · cases h
    · split at h
      · rename_i z
        cases h
        have := ty_push (st := st) (e := (th i - 1009, 0)) (by dsimp only; omega) (show (0 : Nat) < 1000 by decide) ⟨fun y => absurd y (by dsimp only; omega), fun _ => z.1⟩
        rw [show decide (7 ≤ (th i - 1009, 0).1 ∧ (th i - 1009, 0).1 ≤ 9) = true from decide_eq_true (by dsimp only; omega)] at this
        exact this.mono (by omega)
      · split at h
        · rename_i w
          unfold pHeld at h
          split at h
          · cases h
            exact (ty_push (st := st) (e := (9, th (i + 1) - 2000)) (by dsimp only; omega) (by have := hT (i + 1); dsimp only; omega) ⟨fun _ => w.1, fun y => absurd y (by dsimp only; omega)⟩).mono (by omega)
          · cases h
        · exact (pCmp_ty hT _ _ _ h).mono hd
theorem pBad_ty {d : Nat} : PTy st d true pBad := fun i j s h => by cases h
theorem pAt_ty (hT : ∀ i, th i < 3000) : ∀ k, PTy st (5 + 2 * k) true (pAt th st k) := by
  intro k
  induction k with
  | zero => exact pAtF_ty hT (by omega) pBad_ty pBad_ty
  | succ k ih =>
    refine pAtF_ty hT (by omega) (fun i j s h => (ih i j s h).mono (by omega)) (fun i j s h => ?_)
    have := pAnyF_ty ih i j s h
    exact this.mono (by omega)
/-- a condition, as it is read -/
theorem cond_ty (hT : ∀ i, th i < 3000) {i j : Nat} {s : Seg} (h : pAnyF th (pAt th st k6) i = .ok (j, s)) : TY st 19 true s := by
  have := pAnyF_ty (pAt_ty hT k6) i j s h
  rw [k6_eq] at this
  exact this
end TYPES
/-! what a step does to the pile -/
def evS (F : Nat → Int32) (ar al mh : Int32) (e : Nat × Nat) (P : List Int32) : List Int32 :=
  if e.1 ≤ 6 then F e.1 :: P
  else if e.1 = 7 then ar :: P
  else if e.1 = 8 then al :: P
  else if e.1 = 9 then bI (decide (nI e.2 ≤ mh)) :: P
  else if e.1 = 10 then nI e.2 :: P
  else if e.1 = 15 then (match P with
    | a :: R => (1 - a) :: R
    | R => R)
  else match P with
    | b :: a :: R => (if e.1 = 11 then a * b else if e.1 = 12 then a + b else if e.1 = 13 then bI (decide (a < b)) else if e.1 = 14 then bI (decide (b < a)) else if e.1 = 16 then bI (decide (a + b = 2)) else bI (decide (0 < a + b))) :: R
    | R => R
def ev (F : Nat → Int32) (ar al mh : Int32) : Seg → List Int32 → List Int32
  | [], P => P
  | e :: s, P => ev F ar al mh s (evS F ar al mh e P)
theorem ev_app {F : Nat → Int32} {ar al mh : Int32} {s t : Seg} : ∀ {P : List Int32}, ev F ar al mh (s ++ t) P = ev F ar al mh t (ev F ar al mh s P) := by
  induction s with
  | nil => intro P; rfl
  | cons e s ih =>
    intro P
    simp only [List.cons_append, ev]
    exact ih
/-- a pile has the types T -/
def TP : List Bool → List Int32 → Prop
  | [], P => P = []
  | b :: T, P => ∃ a R, P = a :: R ∧ (b = true → a = 0 ∨ a = 1) ∧ TP T R
theorem TP.len : ∀ {T : List Bool} {P : List Int32}, TP T P → P.length = T.length := by
  intro T
  induction T with
  | nil => intro P h; rw [h]; rfl
  | cons b T ih =>
    rintro P ⟨a, R, rfl, -, h⟩
    simp only [List.length_cons]
    rw [ih h]
theorem evS_ty {st : Bool} {F : Nat → Int32} {ar al mh : Int32} (har : ar = 0 ∨ ar = 1) (hal : al = 0 ∨ al = 1) {e : Nat × Nat} {T T' : List Bool} {P : List Int32} (h : ckS st e T = some T') (hP : TP T P) : TP T' (evS F ar al mh e P) := by
  unfold ckS at h
  unfold evS
  split at h
  · rename_i c
    split at h
    · cases h
      by_cases c1 : e.1 ≤ 6
      · rw [if_pos c1]
        exact ⟨_, _, rfl, fun z => absurd (of_decide_eq_true z) (by omega), hP⟩
      · rw [if_neg c1]
        by_cases c2 : e.1 = 7
        · rw [if_pos c2]
          exact ⟨_, _, rfl, fun _ => har, hP⟩
        · rw [if_neg c2]
          by_cases c3 : e.1 = 8
          · rw [if_pos c3]
            exact ⟨_, _, rfl, fun _ => hal, hP⟩
          · rw [if_neg c3]
            by_cases c4 : e.1 = 9
            · rw [if_pos c4]
              exact ⟨_, _, rfl, fun _ => bI_or, hP⟩
            · rw [if_neg c4, if_pos (by omega)]
              exact ⟨_, _, rfl, fun z => absurd (of_decide_eq_true z) (by omega), hP⟩
    · cases h
  · rename_i c
    rw [if_neg (by omega), if_neg (by omega), if_neg (by omega), if_neg (by omega), if_neg (by omega)]
    split at h
    · rename_i c2
      rw [if_pos c2]
      cases T with
      | nil => cases h
      | cons b T =>
        cases b with
        | false => cases h
        | true =>
          cases h
          obtain ⟨a, R, rfl, h1, h2⟩ := hP
          refine ⟨1 - a, R, rfl, fun _ => ?_, h2⟩
          rcases h1 rfl with rfl | rfl
          · exact Or.inr rfl
          · exact Or.inl rfl
    · rename_i c2
      rw [if_neg c2]
      cases T with
      | nil => cases h
      | cons b T =>
        cases T with
        | nil => cases h
        | cons b2 T =>
          obtain ⟨x, R, rfl, h1, y, R2, rfl, h2, h3⟩ := hP
          dsimp only at h ⊢
          split at h
          · split at h
            · cases h
              exact ⟨_, _, rfl, fun z => absurd z (by decide), h3⟩
            · cases h
          · rw [if_neg (by omega), if_neg (by omega)]
            split at h
            · split at h
              · cases h
                refine ⟨_, _, rfl, fun _ => ?_, h3⟩
                split
                · exact bI_or
                · rw [if_pos (by omega)]; exact bI_or
              · cases h
            · rw [if_neg (by omega), if_neg (by omega)]
              split at h
              · split at h
                · cases h
                  refine ⟨_, _, rfl, fun _ => ?_, h3⟩
                  split <;> exact bI_or
                · cases h
              · cases h
theorem ev_ty {st : Bool} {F : Nat → Int32} {ar al mh : Int32} (har : ar = 0 ∨ ar = 1) (hal : al = 0 ∨ al = 1) : ∀ {s : Seg} {T T' : List Bool} {P : List Int32}, ck st s T = some T' → TP T P → TP T' (ev F ar al mh s P) := by
  intro s
  induction s with
  | nil => intro T T' P h hP; cases h; exact hP
  | cons e s ih =>
    intro T T' P h hP
    simp only [ck] at h
    cases c : ckS st e T with
    | none => rw [c] at h; cases h
    | some T2 =>
      rw [c] at h
      exact ih h (evS_ty har hal c hP)
