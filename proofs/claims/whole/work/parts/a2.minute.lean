/-! a minute: all persons in their order -/
theorem tF_N {wd : Nat → Int32} {N N' : Nat → Nat} (e : N' 1 = N 1) {p : Nat} : tF wd N' p = tF wd N p := by
  funext f
  unfold tF foeFar
  rw [e]
theorem actT_N {W : Nat → Int32} {N N' : Nat → Nat} (e : N' 1 = N 1) {p : Nat} : ∀ {s : Nat}, actT W N' p s = actT W N p s := by
  have a0 : shootW W N' p = shootW W N p := by unfold shootW; rw [e]
  have f : sFlee W N' p = sFlee W N p := by funext x; unfold sFlee; rw [e]
  have a1 : fleeW W N' p = fleeW W N p := by unfold fleeW; rw [e, f]
  have a2 : joinW W N' p = joinW W N p := by unfold joinW; rw [e]
  intro s
  unfold actT
  rw [a0, a1, a2]
theorem srt_N {W : Nat → Int32} {N N' : Nat → Nat} {LL : Nat → List (Nat × Seg)} (e : N' 1 = N 1) {p : Nat} : srt W N' LL p = srt W N LL p := by
  have a : tAr W N' p = tAr W N p := by unfold tAr; rw [tF_N e]
  have b : tAl W N' p = tAl W N p := by unfold tAl; rw [tF_N e]
  have c : ∀ L, lwS W N' p L = lwS W N p L := fun L => by unfold lwS; rw [a, b, tF_N e]
  have d : ∀ L, srtL W N' p L = srtL W N p L := fun L => by unfold srtL; rw [c]
  unfold srt
  rw [d]
theorem act_N {wd : Nat → Int32} {N N' : Nat → Nat} {LL : Nat → List (Nat × Seg)} (e : N' 1 = N 1) {p : Nat} : actW wd N' LL p = actW wd N LL p := by
  have c : cvS wd N' p = cvS wd N p := by unfold cvS; rw [e]
  unfold actW
  rw [c, srt_N e]
  exact actT_N e
noncomputable def mnW (wd : Nat → Int32) (N : Nat → Nat) (LL : Nat → List (Nat × Seg)) : Nat → (Nat → Int32)
  | 0 => wd
  | j + 1 => if mnW wd N LL j (304 + 6 * j) = 1 then actW (mnW wd N LL j) N LL j else mnW wd N LL j
theorem mn_ok {wd : Nat → Int32} {N : Nat → Nat} {LL : Nat → List (Nat × Seg)} (O : Ok wd N) : ∀ {j : Nat}, j ≤ N 1 → (∃ n, Ok (mnW wd N LL j) (va_up N 3 n)) ∧ ∀ w, 1166 ≤ w → mnW wd N LL j w = wd w := by
  intro j
  induction j with
  | zero => exact fun _ => ⟨ok_n3 O, fun _ _ => rfl⟩
  | succ j ih =>
    intro hj
    obtain ⟨⟨n, o⟩, e⟩ := ih (by omega)
    have e1 : va_up N 3 n 1 = N 1 := va_ne (by decide)
    unfold mnW
    split
    · rw [← act_N (N' := va_up N 3 n) e1]
      obtain ⟨m, o2⟩ := act_ok (LL := LL) o (p := j) (by rw [e1]; omega)
      rw [up_up] at o2
      exact ⟨⟨m, o2⟩, fun w hw => (act_hi o (by rw [e1]; omega) hw).trans (e w hw)⟩
    · exact ⟨⟨n, o⟩, e⟩
