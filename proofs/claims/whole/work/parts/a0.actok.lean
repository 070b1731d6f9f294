/-! a person's turn keeps the bounds: all sorts -/
theorem ok_n3 {wd : Nat → Int32} {N : Nat → Nat} (O : Ok wd N) : ∃ n, Ok wd (va_up N 3 n) := by
  refine ⟨N 3, ?_⟩
  have ev : va_up N 3 (N 3) = N := by
    funext i
    by_cases c : i = 3
    · rw [c, va_up_self]
    · rw [va_ne c]
  rw [ev]
  exact O
theorem actT_ok {wd : Nat → Int32} {N : Nat → Nat} (O : Ok wd N) {p s : Nat} (hp : p < N 1) : ∃ n, Ok (actT wd N p s) (va_up N 3 n) := by
  have hG := O.g.2
  match s with
  | 0 =>
    show ∃ n, Ok (shootW wd N p) (va_up N 3 n)
    unfold shootW
    cases e : nst wd true p (wd (302 + 6 * p)) (N 1) with
    | none => exact ok_n3 (calm_ok O hp)
    | some q =>
      dsimp only
      split
      · exact ok_n3 (calm_ok O hp)
      · rename_i w
        rcases (O.P hp).1 with eg | ⟨g, hg, eg⟩
        · exact absurd (Or.inl eg) w
        · rw [eg, nt_nI (by omega)] at w ⊢
          exact shot_ok O hp hg (nst_lt e) (fun z => w (Or.inr z))
  | 1 =>
    show ∃ n, Ok (fleeW wd N p) (va_up N 3 n)
    unfold fleeW
    split
    · exact ok_n3 (mv_ok O hp)
    · exact ok_n3 O
  | 2 =>
    show ∃ n, Ok (joinW wd N p) (va_up N 3 n)
    unfold joinW
    split
    · exact ok_n3 (mv_ok O hp)
    · exact ok_n3 O
  | 3 => exact ok_n3 (calm_ok O hp)
  | s + 4 => exact ok_n3 (drop_ok O hp)
theorem act_ok {wd : Nat → Int32} {N : Nat → Nat} {LL : Nat → List (Nat × Seg)} (O : Ok wd N) {p : Nat} (hp : p < N 1) : ∃ n, Ok (actW wd N LL p) (va_up N 3 n) := actT_ok (O.cv hp (jc9 _)) hp
