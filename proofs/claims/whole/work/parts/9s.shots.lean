/-! a shot: what it leaves -/
noncomputable def lvF (wd : Nat → Int32) (a b c d : Int32) : Nat → Int32 := if wd 3 = nI 120 then wd else addF wd (nt (wd 3)) a b c d
theorem lvF_off {wd : Nat → Int32} {a b c d : Int32} {w : Nat} (h3 : w ≠ 3) (hw : w < 349) : lvF wd a b c d w = wd w := by
  unfold lvF
  split
  · rfl
  · unfold addF
    rw [va_ne h3, va_ne (by omega), va_ne (by omega), va_ne (by omega), va_ne (by omega), va_ne (by omega), va_ne (by omega)]
theorem lvF_3 {wd : Nat → Int32} {a b c d : Int32} {n : Nat} (e : wd 3 = nI n) (hn : n ≤ 120) : ∃ m, lvF wd a b c d 3 = nI m ∧ m ≤ 120 := by
  unfold lvF
  split
  · exact ⟨n, e, hn⟩
  · rename_i z
    refine ⟨n + 1, ?_, ?_⟩
    · unfold addF
      rw [va_up_self, e, nt_nI (by omega)]
    · have : n ≠ 120 := fun y => z (by rw [e, y])
      omega
section SHOTS
variable {A : Nat → Nat} {S : Nat → Prop} {h0 h : AH} {X : Nat → Nat → Int32} {wd : Nat → Int32} {N : Nat → Nat} {Q : Int32 → AH → Prop} {Qv : AH → Prop} {p : Nat}
theorem c_lvF (H : G A S h0 X h) (R : CR X wd) {n : Nat} (e : wd 3 = nI n) (hn : n ≤ 120) {a b c d : Int32} (k : ∀ r X' h', G A S h0 X' h' → CR X' (lvF wd a b c d) → ST X X' → Q r h') : w_X1_add (A 1) a b c d h Q := by
  unfold lvF at k
  by_cases z : n = 120
  · rw [if_pos (by rw [e, z])] at k
    exact c_addFull H R (by rw [e, z]) (k _ X h H R (ST.rf _))
  · rw [if_neg (fun y => z ((nI_eq (by omega) (by decide)).mp (e ▸ y))), e, nt_nI (by omega)] at k
    exact c_addFind H R e (by omega) (fun X' h' H' R' s' => k _ X' h' H' R' s')
theorem m_lvF (H : G A S h0 X h) (M : MR X wd) {n : Nat} (e : wd 3 = nI n) (hn : n ≤ 120) {a b c d : Int32} (k : ∀ X' h', G A S h0 X' h' → MR X' (lvF wd a b c d) → (∀ id, id ≠ 1301 → X' id = X id) → Qv h') : w_X12_leaves (A 12) a b c d h Qv := by
  unfold lvF at k
  by_cases z : n = 120
  · rw [if_pos (by rw [e, z])] at k
    exact m_leavesFull H M (by rw [e, z]) (k X h H M (fun _ _ => rfl))
  · rw [if_neg (fun y => z ((nI_eq (by omega) (by decide)).mp (e ▸ y))), e, nt_nI (by omega)] at k
    exact m_leaves H M e (by omega) k
def calmW (wd : Nat → Int32) (p : Nat) : Nat → Int32 := va_up wd (303 + 6 * p) (jmax 0 (wd (303 + 6 * p) - 1))
theorem m_holdsStill (H : G A S h0 X h) (M : MR X wd) (hp : p < 8) (k : ∀ X' h', G A S h0 X' h' → MR X' (calmW wd p) → (∀ id, id ≠ 1301 → X' id = X id) → Qv h') : w_X12_holdsStill (A 12) (nI p) h Qv := by
  dsimp only [w_X12_holdsStill]
  refine vG (o := 12) H H.b rfl ?_
  refine p2 H M hp ?_
  refine vG (o := 12) H H.b rfl ?_
  exact m_sets H M (303 + 6 * p) 2 rfl (by omega) (by omega) (fun h' H' M' => k _ h' H' M' (fun id hi => up_row _ _ _ hi))
theorem c_calmDown (H : G A S h0 X h) (R : CR X wd) (hp : p < 8) (k : ∀ X' h', G A S h0 X' h' → CR X' (calmW wd p) → Off [504] X X' → Qv h') : w_X0_calmDown (A 0) (nI p) h Qv := by
  dsimp only [w_X0_calmDown]
  refine fP (o := 0) H H.b rfl rfl ?_
  refine fP (o := 7) H H.b rfl rfl ?_
  refine fP (o := 4) H H.b rfl rfl ?_
  refine fP (o := 0) H H.b rfl rfl ?_
  refine fP (o := 7) H H.b rfl rfl ?_
  refine fP (o := 4) H H.b rfl rfl ?_
  refine aC (id := 504) H R H.b rfl (by decide) rfl rfl (by omega) ?_
  exact tC (id := 504) H R H.b rfl (by decide) rfl rfl (by omega) (fun h2 H2 R2 => k _ h2 H2 R2 ((Off.rf _ _).up (by decide) _ _))
end SHOTS
