/-! a person's turn leaves the texts alone -/
theorem lvF_hi {wd : Nat → Int32} {a b c d : Int32} {n w : Nat} (e : wd 3 = nI n) (hn : n ≤ 120) (hw : 1166 ≤ w) : lvF wd a b c d w = wd w := by
  unfold lvF
  split
  · rfl
  · rename_i z
    have : n ≠ 120 := fun y => z (by rw [e, y])
    unfold addF
    rw [e, nt_nI (by omega), va_ne (by omega), va_ne (by omega), va_ne (by omega), va_ne (by omega), va_ne (by omega), va_ne (by omega), va_ne (by omega)]
theorem mv_hi {wd : Nat → Int32} {p w : Nat} {s : Nat → Int32} (hp : p < 8) (hw : 1166 ≤ w) : mvW wd p s w = wd w := va_ne (by omega)
theorem shot_hi {wd : Nat → Int32} {N : Nat → Nat} (O : Ok wd N) {p g q w : Nat} (hg : g < 8) (hq : q < 8) (hw : 1166 ≤ w) : shotW wd p g q w = wd w := by
  obtain ⟨⟨m1, e1, b1⟩, ⟨m2, e2, b2⟩, m4, e4, b4⟩ := sW_3 O (p := p) (g := g) (q := q) hg
  have x1 : sW1 wd g w = wd w := va_ne (by omega)
  have x2 : sW2 wd p g w = wd w := (lvF_hi e1 b1 hw).trans x1
  have x3 : sW3 wd p g q w = wd w := (lvF_hi e2 b2 hw).trans x2
  have x4 : sW4 wd p g q w = wd w := (va_ne (by omega)).trans x3
  have x5 : sW5 wd p g q w = wd w := (lvF_hi e4 b4 hw).trans x4
  unfold shotW
  split
  · exact (va_ne (by omega)).trans x5
  · exact x4
theorem act_hi {wd : Nat → Int32} {N : Nat → Nat} {LL : Nat → List (Nat × Seg)} (O : Ok wd N) {p w : Nat} (hp : p < N 1) (hw : 1166 ≤ w) : actW wd N LL p w = wd w := by
  have hP := O.p.2
  have hG := O.g.2
  have OW := O.cv hp (jc9 (((wd (303 + 6 * p) + cnt (nrC wd true 3 p) (N 1)) - cnt (nrC wd false 2 p) (N 1))))
  have OW : Ok (va_up wd (303 + 6 * p) (cvS wd N p)) N := OW
  have e0 : va_up wd (303 + 6 * p) (cvS wd N p) w = wd w := va_ne (by omega)
  unfold actW
  generalize va_up wd (303 + 6 * p) (cvS wd N p) = W at *
  rw [← e0]
  generalize nt (srt W N LL p) = s
  match s with
  | 0 =>
    show shootW W N p w = W w
    unfold shootW
    cases e : nst W true p (W (302 + 6 * p)) (N 1) with
    | none => exact va_ne (by omega)
    | some q =>
      have hq := nst_lt e
      dsimp only
      split
      · exact va_ne (by omega)
      · rename_i z
        rcases (OW.P hp).1 with eg | ⟨g, hg, eg⟩
        · exact absurd (Or.inl eg) z
        · rw [eg, nt_nI (by omega)]
          exact shot_hi OW (by omega) (by omega) hw
  | 1 =>
    show fleeW W N p w = W w
    unfold fleeW
    cases nst W true p (W (302 + 6 * p)) (N 1)
    · rfl
    · exact mv_hi (by omega) hw
  | 2 =>
    show joinW W N p w = W w
    unfold joinW
    cases nst W false p (W (302 + 6 * p)) (N 1)
    · rfl
    · exact mv_hi (by omega) hw
  | 3 => exact va_ne (by omega)
  | s + 4 => exact va_ne (by omega)
