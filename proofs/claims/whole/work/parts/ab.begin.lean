/-! the two objects made: the invariant holds -/
theorem start_hi : ∀ i, i ∈ nwStartL → i < 10000 := by decide +kernel
theorem start_lv (id : Nat) : lv (fun i => i = 0) id ↔ id ∈ nwStartL := by
  constructor
  · rintro ⟨h1, h2⟩
    exact (start_ids id (Nat.lt_of_not_le fun z => h1 (ht5 id z))).mp ⟨h1, h2⟩
  · intro h
    exact (start_ids id (start_hi id h)).mpr h
section BEGIN
variable {hB h : AH} {A0 A : Nat → Nat}
theorem G.start (HA : AL hB (fun _ => False) A0 nwStartL nwStartP nwStartW A h) : G A (fun i => i = 0) h (rd nwStartW) h := by
  obtain ⟨-, -, f4, f5, f6, -⟩ := HA
  refine G.self ⟨rfl, fun id hi => ?_, fun o k t ho hp => ?_, fun i j hi hj e => ?_⟩ (fun id hi => ?_)
  · obtain ⟨-, -, -, g1, g2, -⟩ := f4 id ((start_lv id).mp hi)
    exact ⟨g1, g2⟩
  · obtain ⟨-, t', q2, -, q4⟩ := f5 (o, k) (pt_mem (by decide +kernel) ((start_lv o).mp ho) hp)
    dsimp only at q2 q4
    rw [q2] at hp
    rw [q4, ← Option.some.inj hp]
  · exact f6 i ((start_lv i).mp hi) j ((start_lv j).mp hj) e
  · exact (f4 id ((start_lv id).mp hi)).2.2.2.2.2.1
theorem G.alloc {S : Nat → Prop} {X : Nat → Nat → Int32} (H : G A S h X h) {a j n : Nat} (ha : gK h a = 0) : G A S (nA h a j n) X (nA h a j n) := by
  have far : ∀ id, lv S id → A id ≠ a := fun id hd z => H.k0 hd (by rw [z]; exact ha)
  obtain ⟨⟨s1, s2, s3, s4⟩, -, -, -, -, g5, -⟩ := H
  refine G.self ⟨s1, fun id hd => ?_, fun o k t ho hp => ?_, s4⟩ (fun id hd => ?_)
  · have e1 : gK (nA h a j n) (A id) = gK h (A id) := va_ne (far id hd)
    have e2 : gL (nA h a j n) (A id) = gL h (A id) := va_ne (far id hd)
    rw [e1, e2]
    exact s2 id hd
  · have e1 : gP (nA h a j n) (A o) = gP h (A o) := va_ne (far o ho)
    rw [e1]
    exact s3 o k t ho hp
  · have e1 : gI (nA h a j n) (A id) = gI h (A id) := va_ne (far id hd)
    rw [e1]
    exact g5 id hd
end BEGIN
def wd0 (w : Nat) : Int32 := if w = 8 then 1876 else if w = 10 then 9 else 0
def nn0 (i : Nat) : Nat := if i = 10 then 9 else 0
theorem wd0_0 {w : Nat} (h8 : w ≠ 8) (h10 : w ≠ 10) : wd0 w = 0 := by
  unfold wd0
  rw [if_neg h8, if_neg h10]
theorem ok0 : Ok wd0 nn0 := by
  have b0 : ∀ M, bn 0 M := fun M => ⟨rfl, Nat.zero_le _⟩
  refine ⟨?_, fun c _ => ?_, fun g h => absurd h (Nat.not_lt_zero _), fun g h => absurd h (Nat.not_lt_zero _), fun g h => absurd h (Nat.not_lt_zero _), fun g h => absurd h (Nat.not_lt_zero _), fun g h => absurd h (Nat.not_lt_zero _), fun g h => absurd h (Nat.not_lt_zero _)⟩
  · refine ⟨⟨rfl, ?_⟩, ⟨rfl, ?_⟩, ⟨rfl, ?_⟩, ⟨rfl, ?_⟩, ⟨rfl, ?_⟩, ⟨rfl, ?_⟩, ⟨rfl, ?_⟩, ⟨rfl, ?_⟩, ⟨rfl, ?_⟩, ⟨rfl, ?_⟩, ⟨rfl, ?_⟩⟩ <;> decide
  · rw [wd0_0 (by omega) (by omega)]
    exact b0 9
theorem cr0 : CR (rd nwStartW) wd0 := by
  have b1 : ∀ e ∈ cbL, (∀ x ∈ nwStartW, x.1 ≠ e.1) ∧ 13 ≤ e.2.2.1 := by decide +kernel
  have b2 : ∀ e ∈ csL, rd nwStartW e.1 e.2.1 = wd0 e.2.2 := by decide +kernel
  refine ⟨fun e he n hn => ?_, b2⟩
  obtain ⟨c1, c2⟩ := b1 e he
  rw [rd_0 c1, wd0_0 (by omega) (by omega)]
theorem mr0 : MR (rd nwStartW) wd0 := by
  intro w _
  unfold wd0
  by_cases c8 : w = 8
  · rw [c8]; rfl
  · by_cases c10 : w = 10
    · rw [c10]; rfl
    · rw [if_neg c8, if_neg c10]
      show (if 1301 = 1301 ∧ w = 10 then _ else if 1301 = 1301 ∧ w = 8 then _ else rd _ 1301 w) = _
      rw [if_neg (fun z => c10 z.2), if_neg (fun z => c8 z.2), rd_0 (by decide)]
theorem li_start {hB h : AH} {A0 A : Nat → Nat} (HA : AL hB (fun _ => False) A0 nwStartL nwStartP nwStartW A h) {a3 : Nat} (ha : gK h a3 = 0) : LI (A 11) (A 12) a3 (nA h a3 3 1) := by
  have H := G.start HA
  have H2 := H.alloc (j := 3) (n := 1) ha
  have nul : ∀ id k, id ∈ nwStartL → pt id k = none → gP (nA h a3 3 1) (A id) k = none := fun id k hi hp => by
    have e : gP (nA h a3 3 1) (A id) = gP h (A id) := va_ne (fun z => H.k0 ((start_lv id).mpr hi) (by rw [z]; exact ha))
    rw [e]
    exact (HA.2.2.1 id hi).2.2.2.2.2.2 k hp
  have pl : ∀ u, u < 9 → (slO u).1 ∈ nwStartL := by decide +kernel
  refine ⟨A, _, _, _, 9, fun _ => False, fun _ => [], wd0, nn0, fun _ => [], fun _ => [], fun _ => 0, 0, H2, ⟨rfl, rfl, ⟨?_, ?_⟩, by decide, ⟨fun _ => 0, fun _ => 0, fun _ => 0, fun u z => z.elim, fun u hu => ⟨(start_lv _).mpr (pl u hu), fun b hb => ?_⟩, fun u z => z.elim, fun u v z => z.elim⟩, Or.inl ⟨by decide, nul 11 4 (by decide) rfl⟩, Or.inl ⟨by decide, nul 11 5 (by decide) rfl, rfl⟩⟩, ⟨⟨rfl, fun i hi => absurd hi (Nat.not_lt_zero _)⟩, ⟨rfl, fun i hi => absurd hi (Nat.not_lt_zero _)⟩, ⟨by decide, fun i hi => absurd hi (Nat.not_lt_zero _)⟩, rfl, Or.inl ⟨rfl, rfl⟩⟩, cr0, mr0, ok0, fun l hl => absurd hl (Nat.not_lt_zero _), fun l hl => absurd hl (Nat.not_lt_zero _), fun l hl => absurd hl (Nat.not_lt_zero _), fun l hl => absurd hl (Nat.not_lt_zero _), fun l hl => absurd hl (Nat.not_lt_zero _), fun l hl => absurd hl (Nat.not_lt_zero _), fun l _ _ z => z, fun l _ _ z => z⟩
  · exact va_up_self _ _ _
  · exact va_up_self _ _ _
  · rw [nul _ _ (pl u hu) (slO_row u (by omega)).2.2] at hb
    cases hb
