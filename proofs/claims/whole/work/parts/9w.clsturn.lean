/-! a person's turn: the class -/
def SFr (X X' : Nat → Nat → Int32) : Prop := ∀ id, stR id = false → id ≠ 101 → X' id = X id
theorem SFr.rf (X : Nat → Nat → Int32) : SFr X X := fun _ _ _ => rfl
theorem SFr.tr {X X' X'' : Nat → Nat → Int32} (a : SFr X X') (b : SFr X' X'') : SFr X X'' := fun id h g => (b id h g).trans (a id h g)
theorem SFr.st {X X' : Nat → Nat → Int32} (a : ST X X') : SFr X X' := fun id h _ => a id h
section CTURN
variable {A : Nat → Nat} {S : Nat → Prop} {h0 h : AH} {X : Nat → Nat → Int32} {wd : Nat → Int32} {N : Nat → Nat} {LL : Nat → List (Nat × Seg)} {Q : Int32 → AH → Prop} {Qv : AH → Prop} {p nr : Nat} {V : Nat → Prop} {E : Nat → List Nat} {ps ss qs : Nat → Nat}
theorem c_turn (H : G A S h0 X h) (R : CR X wd) (O : Ok wd N) (hp : p < N 1) (P : PGx A S h0 nr V E ps ss qs) (hr : nr ≤ 18) (vl : VL V E LL (N 2)) (hO : LKs LL (N 2)) (k : ∀ hb X' h', G A S hb X' h' → PGx A S hb nr V E ps ss qs → BZ h0 hb → CR X' (actW wd N LL p) → SFr X X' → Qv h') : vr h (A 0) 0 (w_X0_gatherFacts (A 0) (nI p) h fun h => vr h (A 0) 0 (w_X0_takeTurn (A 0) (nI p) h Qv)) := by
  have hP := O.p.2
  refine vG (o := 0) H H.b rfl ?_
  refine c_gf0 H R O hp (fun X1 h1 H1 o1 R1 F1 F7 F8 => ?_)
  have OW1 : Ok (va_up wd (303 + 6 * p) (cvS wd N p)) N := O.cv hp (jc9 _)
  unfold actW at k
  generalize va_up wd (303 + 6 * p) (cvS wd N p) = W at *
  have r1 : SFr X X1 := fun id h g => o1 id (by
    intro z
    simp only [List.mem_cons, List.not_mem_nil, or_false] at z
    rcases z with z | z
    · exact g z
    · rw [z] at h; exact absurd h (by decide))
  refine vG (o := 0) H1 H1.b rfl ?_
  dsimp only [w_X0_takeTurn, w_X0_takeTurn_85]
  refine vG (o := 0) H1 H1.b rfl ?_
  refine c_choiceOf H1 R1 OW1 hp P hr vl hO F1 F7 F8 (fun hb h2 H2 P2 b2 => ?_)
  obtain ⟨c, hc, ec, es⟩ := ch_srt OW1 hp hO
  rw [es] at k
  rw [ec]
  rw [nt_nI (by split <;> omega)] at k
  have hs' : c = 0 ∨ c = 1 ∨ c = 2 ∨ c = 3 ∨ c = 4 ∨ c = 5 := by omega
  have st1 : ∀ {X3 : Nat → Nat → Int32}, ST X1 X3 → SFr X X3 := fun s => r1.tr (SFr.st s)
  rcases hs' with rfl | rfl | rfl | rfl | rfl | rfl
  · refine br_F (by decide) (br_F (by decide) (br_F (by decide) (br_F (by decide) (br_F (by decide) (vG (o := 0) H2 H2.b rfl ?_)))))
    exact c_calmDown H2 R1 (by omega) (fun X3 h3 H3 R3 o3 => k hb X3 h3 H3 P2 b2 R3 (st1 (ST.of o3 (by decide))))
  · refine br_T rfl (vG (o := 0) H2 H2.b rfl ?_)
    exact c_shoot H2 R1 OW1 hp (fun X3 h3 H3 R3 o3 => k hb X3 h3 H3 P2 b2 R3 (st1 o3))
  · refine br_F (by decide) (br_T rfl (vG (o := 0) H2 H2.b rfl ?_))
    exact c_flee H2 R1 OW1 hp (fun X3 h3 H3 R3 o3 => k hb X3 h3 H3 P2 b2 R3 (st1 (ST.of o3 (by decide))))
  · refine br_F (by decide) (br_F (by decide) (br_T rfl (vG (o := 0) H2 H2.b rfl ?_)))
    exact c_join H2 R1 OW1 hp (fun X3 h3 H3 R3 o3 => k hb X3 h3 H3 P2 b2 R3 (st1 (ST.of o3 (by decide))))
  · refine br_F (by decide) (br_F (by decide) (br_F (by decide) (br_T rfl (vG (o := 0) H2 H2.b rfl ?_))))
    exact c_calmDown H2 R1 (by omega) (fun X3 h3 H3 R3 o3 => k hb X3 h3 H3 P2 b2 R3 (st1 (ST.of o3 (by decide))))
  · refine br_F (by decide) (br_F (by decide) (br_F (by decide) (br_F (by decide) (br_T rfl ?_))))
    refine fP (o := 0) H2 H2.b rfl rfl ?_
    refine fP (o := 7) H2 H2.b rfl rfl ?_
    refine fP (o := 4) H2 H2.b rfl rfl ?_
    exact tC (id := 501) H2 R1 H2.b rfl (by decide) rfl rfl (by omega) (fun h3 H3 R3 => k hb _ h3 H3 P2 b2 R3 (st1 ((ST.rf _).up (by decide) _ _)))
end CTURN
