/-! one step to another cell: the reference -/
def nbN (c x : Nat) : Bool := decide ((c % 16 ≤ x % 16 + 1 ∧ x % 16 ≤ c % 16 + 1) ∧ c / 16 ≤ x / 16 + 1 ∧ x / 16 ≤ c / 16 + 1)
def besN (c k : Nat) : Option Nat := if 1 ≤ c % 16 + k % 3 ∧ c % 16 + k % 3 ≤ 16 ∧ 1 ≤ c / 16 + k / 3 ∧ c / 16 + k / 3 ≤ 16 then some (16 * (c / 16 + k / 3 - 1) + (c % 16 + k % 3 - 1)) else none
theorem nb_bes : ∀ c, c < 256 → (List.range 256).filter (nbN c) = (List.range 9).filterMap (besN c) := by decide +kernel
def bst (s : Nat → Int32) : Option Nat → List Nat → Option Nat
  | o, [] => o
  | none, x :: l => bst s (some x) l
  | some b, x :: l => if s b < s x then bst s (some x) l else bst s (some b) l
theorem bst_app {s : Nat → Int32} {r : List Nat} : ∀ {l : List Nat} {o : Option Nat}, bst s o (l ++ r) = bst s (bst s o l) r := by
  intro l
  induction l with
  | nil => intro o; cases o <;> rfl
  | cons x l ih =>
    intro o
    cases o with
    | none => exact ih
    | some b =>
      simp only [List.cons_append, bst]
      split <;> exact ih
theorem bst_some {s : Nat → Int32} : ∀ {l : List Nat} {o : Option Nat}, (o ≠ none ∨ l ≠ []) → ∃ x, bst s o l = some x ∧ (o = some x ∨ x ∈ l) := by
  intro l
  induction l with
  | nil =>
    intro o h
    cases o with
    | none => rcases h with h | h <;> exact absurd rfl h
    | some b => exact ⟨b, rfl, Or.inl rfl⟩
  | cons x l ih =>
    intro o h
    cases o with
    | none =>
      obtain ⟨y, e, m⟩ := ih (o := some x) (Or.inl (fun z => by cases z))
      refine ⟨y, e, Or.inr ?_⟩
      rcases m with m | m
      · cases m; exact List.mem_cons_self
      · exact List.mem_cons_of_mem _ m
    | some b =>
      simp only [bst]
      split
      · obtain ⟨y, e, m⟩ := ih (o := some x) (Or.inl (fun z => by cases z))
        refine ⟨y, e, Or.inr ?_⟩
        rcases m with m | m
        · cases m; exact List.mem_cons_self
        · exact List.mem_cons_of_mem _ m
      · obtain ⟨y, e, m⟩ := ih (o := some b) (Or.inl (fun z => by cases z))
        refine ⟨y, e, ?_⟩
        rcases m with m | m
        · exact Or.inl m
        · exact Or.inr (List.mem_cons_of_mem _ m)
theorem bst_rng {s : Nat → Int32} {nb : Nat → Bool} {j : Nat} : bst s none ((List.range (j + 1)).filter nb) = (if nb j = true then (match bst s none ((List.range j).filter nb) with
    | none => some j
    | some b => if s b < s j then some j else some b) else bst s none ((List.range j).filter nb)) := by
  rw [List.range_succ, List.filter_append, bst_app]
  by_cases c : nb j = true
  · rw [if_pos c, List.filter_cons_of_pos c, List.filter_nil]
    cases bst s none ((List.range j).filter nb) with
    | none => rfl
    | some b =>
      simp only [bst]
  · rw [if_neg c, List.filter_cons_of_neg c, List.filter_nil]
    cases bst s none ((List.range j).filter nb) <;> rfl
noncomputable def sFlee (wd : Nat → Int32) (N : Nat → Nat) (p x : Nat) : Int32 := match nst wd true p (nI x) (N 1) with
  | some r => farI (nI x) (wd (302 + 6 * r))
  | none => 0
noncomputable def sJoin (wd : Nat → Int32) (q x : Nat) : Int32 := -(farI (nI x) (wd (302 + 6 * q)))
noncomputable def mvW (wd : Nat → Int32) (p : Nat) (s : Nat → Int32) : Nat → Int32 := va_up wd (302 + 6 * p) (oI (bst s none ((List.range 256).filter (nbN (nt (wd (302 + 6 * p)))))))
noncomputable def fleeW (wd : Nat → Int32) (N : Nat → Nat) (p : Nat) : Nat → Int32 := match nst wd true p (wd (302 + 6 * p)) (N 1) with
  | some _ => mvW wd p (sFlee wd N p)
  | none => wd
noncomputable def joinW (wd : Nat → Int32) (N : Nat → Nat) (p : Nat) : Nat → Int32 := match nst wd false p (wd (302 + 6 * p)) (N 1) with
  | some q => mvW wd p (sJoin wd q)
  | none => wd
