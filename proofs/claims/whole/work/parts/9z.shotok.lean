/-! a shot keeps the bounds -/
theorem bit16 : ∀ b, b < 16 → (1 : Int32) <<< (nI b &&& 31) = nI (2 ^ b) ∧ 2 ^ b ≤ 32768 := by decide +kernel
theorem up_up {α : Type} {f : Nat → α} {k : Nat} {a b : α} : va_up (va_up f k a) k b = va_up f k b := by
  funext i
  by_cases c : i = k
  · rw [c, va_up_self, va_up_self]
  · rw [va_ne c, va_ne c, va_ne c]
theorem shot_ok {wd : Nat → Int32} {N : Nat → Nat} (O : Ok wd N) {p g q : Nat} (hp : p < N 1) (hg : g < N 0) (hq : q < N 1) (hw : ¬ wd (272 + 4 * g) = 0) : ∃ n, Ok (shotW wd p g q) (va_up N 3 n) := by
  have hG := O.g.2
  have hP := O.p.2
  obtain ⟨g1, g2, g3⟩ := O.2.2.1 g hg
  obtain ⟨r, er, hr⟩ := g3.ex
  have O1 : Ok (sW1 wd g) N := by
    refine O.set (Or.inr (Or.inl ⟨g, hg, by omega, by omega, ?_⟩))
    unfold OkG
    rw [va_ne (by omega), va_ne (by omega), va_up_self]
    refine ⟨g1, g2, ?_⟩
    cases r with
    | zero => exact absurd er hw
    | succ r =>
      rw [er, nI_pred]
      exact bn.of (by omega) (by decide)
  obtain ⟨b, eb, hb⟩ := g2.ex
  obtain ⟨k1, k2⟩ := bit16 b (by omega)
  obtain ⟨e7, h7⟩ := O.1.2.2.2.2.2.2.2.1
  have t9 : bn (jrem (wd 7) 10) 9 := by
    rw [e7, show jrem (nI (N 7)) 10 = nI (N 7 % 10) from pk_rem (d := 10) (by omega) (by decide) (by decide)]
    exact bn.of (by omega) (by decide)
  have b1 : ∀ x, x < N 1 → bn (wd (302 + 6 * x)) 255 := fun x hx => (O.P hx).2.1
  have b5 : bn (wd (305 + 6 * p)) 65535 := by
    obtain ⟨y, ey, hy⟩ := (O.P hp).2.2.2.2.1.ex
    rw [ey]
    exact bn.of (by omega) (by decide)
  obtain ⟨n2, O2⟩ := lvF_ok O1 (a := 0) (b := wd (302 + 6 * p)) (c := jrem (wd 7) 10) (d := 1 <<< (wd (270 + 4 * g) &&& 31)) (bn.of (n := 0) (by decide) (by decide)) (b1 p hp) t9 (by rw [eb, k1]; exact bn.of (by omega) (by decide)) (fun z => absurd z (by decide))
  obtain ⟨n3, O3⟩ := lvF_ok O2 (a := 1) (b := wd (302 + 6 * q)) (c := jrem (wd 7) 10) (d := wd (305 + 6 * p)) (bn.of (n := 1) (by decide) (by decide)) (b1 q hq) t9 b5 (fun z => absurd z (by decide))
  rw [up_up] at O3
  have O4 : Ok (sW4 wd p g q) (va_up N 3 n3) := O3.irr (w := 9) (by unfold us; rw [va_ne (by decide)]; omega) _
  obtain ⟨j1, j2⟩ := bit16 q (by omega)
  have j3 : 1 ≤ 2 ^ q ∧ 2 ^ q ≤ 255 := by
    have : ∀ q, q < 8 → 1 ≤ 2 ^ q ∧ 2 ^ q ≤ 255 := by decide
    exact this q (by omega)
  obtain ⟨n5, O5⟩ := lvF_ok O4 (a := 2) (b := wd (302 + 6 * q)) (c := jrem (wd 7) 10) (d := 1 <<< (nI q &&& 31)) (bn.of (n := 2) (by decide) (by decide)) (b1 q hq) t9 (by rw [j1]; exact bn.of (by omega) (by decide)) (fun _ => by rw [j1, nt_nI (by omega)]; exact j3)
  rw [up_up] at O5
  have O5 : Ok (sW5 wd p g q) (va_up N 3 n5) := O5
  unfold shotW
  split
  · refine ⟨n5, O5.set (Or.inl ⟨q, by rw [va_ne (by decide)]; exact hq, by omega, by omega, ?_⟩)⟩
    obtain ⟨c1, c2, c3, c4, c5, c6⟩ := O5.P (p := q) (by rw [va_ne (by decide)]; exact hq)
    unfold OkP
    have v : ∀ w, w ≠ 304 + 6 * q → va_up (sW5 wd p g q) (304 + 6 * q) 0 w = sW5 wd p g q w := fun w hw => va_ne hw
    rw [v _ (by omega), v _ (by omega), v _ (by omega), va_up_self, v _ (by omega), v _ (by omega)]
    exact ⟨c1, c2, c3, bn.of (n := 0) (by decide) (by decide), c5, c6⟩
  · exact ⟨n3, O4⟩
