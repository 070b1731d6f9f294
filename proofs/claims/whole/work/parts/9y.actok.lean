/-! a person's turn keeps the bounds -/
theorem lvF_ok {wd : Nat → Int32} {N : Nat → Nat} (O : Ok wd N) {a b c d : Int32} (ha : bn a 3) (hb : bn b 255) (hc : bn c 9) (hd : bn d 65535) (h2 : a = 2 → 1 ≤ nt d ∧ nt d ≤ 255) : ∃ n, Ok (lvF wd a b c d) (va_up N 3 n) := by
  obtain ⟨e, h⟩ := O.f
  unfold lvF
  by_cases z : N 3 = 120
  · rw [if_pos (by rw [e, z])]
    refine ⟨N 3, ?_⟩
    have ev : va_up N 3 (N 3) = N := by
      funext i
      by_cases c : i = 3
      · rw [c, va_up_self]
      · rw [va_ne c]
    rw [ev]
    exact O
  · rw [if_neg (fun y => z ((nI_eq (by omega) (by decide)).mp (e ▸ y))), e, nt_nI (by omega)]
    exact ⟨N 3 + 1, O.addF (by omega) ha hb hc hd h2⟩
theorem calm_ok {wd : Nat → Int32} {N : Nat → Nat} (O : Ok wd N) {p : Nat} (hp : p < N 1) : Ok (calmW wd p) N := by
  refine O.cv hp ?_
  obtain ⟨n, e, hn⟩ := (O.P hp).2.2.1.ex
  rw [e]
  cases n with
  | zero => exact bn.of (n := 0) (by decide) (by decide)
  | succ n =>
    rw [nI_pred, show (0 : Int32) = nI 0 from rfl, j_max (by decide) (by omega)]
    exact bn.of (by omega) (by decide)
theorem mv_ok {wd : Nat → Int32} {N : Nat → Nat} (O : Ok wd N) {p : Nat} (hp : p < N 1) {s : Nat → Int32} : Ok (mvW wd p s) N := by
  obtain ⟨c, ec, hc⟩ := (O.P hp).2.1.ex
  have ne : (List.range 256).filter (nbN c) ≠ [] := by
    intro z
    have : c ∈ (List.range 256).filter (nbN c) := List.mem_filter.mpr ⟨List.mem_range.mpr (by omega), by unfold nbN; rw [decide_eq_true_eq]; omega⟩
    rw [z] at this
    exact absurd this List.not_mem_nil
  obtain ⟨b, eb, mb⟩ := bst_some (s := s) (l := (List.range 256).filter (nbN c)) (o := none) (Or.inr ne)
  have hb : b < 256 := by
    rcases mb with mb | mb
    · cases mb
    · exact List.mem_range.mp (List.mem_filter.mp mb).1
  unfold mvW
  rw [ec, nt_nI (by omega), eb]
  refine O.set (Or.inl ⟨p, hp, by omega, by omega, ?_⟩)
  obtain ⟨a1, a2, a3, a4, a5, a6⟩ := O.P hp
  unfold OkP
  rw [va_ne (by omega), va_up_self, va_ne (by omega), va_ne (by omega), va_ne (by omega), va_ne (by omega)]
  exact ⟨a1, bn.of (by omega) (by decide), a3, a4, a5, a6⟩
theorem drop_ok {wd : Nat → Int32} {N : Nat → Nat} (O : Ok wd N) {p : Nat} (hp : p < N 1) : Ok (dropW wd p) N := by
  refine O.set (Or.inl ⟨p, hp, by omega, by omega, ?_⟩)
  obtain ⟨a1, a2, a3, a4, a5, a6⟩ := O.P hp
  unfold OkP
  rw [va_up_self, va_ne (by omega), va_ne (by omega), va_ne (by omega), va_ne (by omega), va_ne (by omega)]
  exact ⟨Or.inl rfl, a2, a3, a4, a5, a6⟩
