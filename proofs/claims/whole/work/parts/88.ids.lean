/-! which rows there are -/
theorem ht5 (id : Nat) (h : 10000 ≤ id) : (tk id).1 = 0 := by
  unfold tk
  rw [if_neg (by omega), if_neg (fun z => by omega)]
def idB (i : Nat) (L : List Nat) (id : Nat) : Bool := (!(tk id).1.beq 0 && (sg id).beq i) == L.any fun j => id.beq j
theorem idB_iff {i : Nat} {L : List Nat} {id : Nat} (h : idB i L id = true) : (tk id).1 ≠ 0 ∧ sg id = i ↔ id ∈ L := by
  unfold idB at h
  rw [beq_iff_eq] at h
  have h1 : (!(tk id).1.beq 0 && (sg id).beq i) = true ↔ ((tk id).1 ≠ 0 ∧ sg id = i) := by
    rw [Bool.and_eq_true, Bool.not_eq_true', Nat.beq_eq]
    refine and_congr ⟨fun z y => ?_, fun z => ?_⟩ Iff.rfl
    · rw [y] at z; cases z
    · cases e : (tk id).1.beq 0 with
      | false => rfl
      | true => exact absurd (Nat.eq_of_beq_eq_true e) z
  rw [← h1, h, List.any_eq_true]
  exact ⟨fun ⟨j, j1, j2⟩ => by rw [Nat.eq_of_beq_eq_true j2]; exact j1, fun z => ⟨id, z, Nat.beq_refl id⟩⟩
theorem ways_i0 : ((List.range 500).all fun j => idB 1 nwWaysL (0 + j)) = true := by decide +kernel
theorem ways_i1 : ((List.range 500).all fun j => idB 1 nwWaysL (500 + j)) = true := by decide +kernel
theorem ways_i2 : ((List.range 500).all fun j => idB 1 nwWaysL (1000 + j)) = true := by decide +kernel
theorem ways_i3 : ((List.range 500).all fun j => idB 1 nwWaysL (1500 + j)) = true := by decide +kernel
theorem ways_i4 : ((List.range 500).all fun j => idB 1 nwWaysL (2000 + j)) = true := by decide +kernel
theorem ways_i5 : ((List.range 500).all fun j => idB 1 nwWaysL (2500 + j)) = true := by decide +kernel
theorem ways_i6 : ((List.range 500).all fun j => idB 1 nwWaysL (3000 + j)) = true := by decide +kernel
theorem ways_i7 : ((List.range 500).all fun j => idB 1 nwWaysL (3500 + j)) = true := by decide +kernel
theorem ways_i8 : ((List.range 500).all fun j => idB 1 nwWaysL (4000 + j)) = true := by decide +kernel
theorem ways_i9 : ((List.range 500).all fun j => idB 1 nwWaysL (4500 + j)) = true := by decide +kernel
theorem ways_i10 : ((List.range 500).all fun j => idB 1 nwWaysL (5000 + j)) = true := by decide +kernel
theorem ways_i11 : ((List.range 500).all fun j => idB 1 nwWaysL (5500 + j)) = true := by decide +kernel
theorem ways_i12 : ((List.range 500).all fun j => idB 1 nwWaysL (6000 + j)) = true := by decide +kernel
theorem ways_i13 : ((List.range 500).all fun j => idB 1 nwWaysL (6500 + j)) = true := by decide +kernel
theorem ways_i14 : ((List.range 500).all fun j => idB 1 nwWaysL (7000 + j)) = true := by decide +kernel
theorem ways_i15 : ((List.range 500).all fun j => idB 1 nwWaysL (7500 + j)) = true := by decide +kernel
theorem ways_i16 : ((List.range 500).all fun j => idB 1 nwWaysL (8000 + j)) = true := by decide +kernel
theorem ways_i17 : ((List.range 500).all fun j => idB 1 nwWaysL (8500 + j)) = true := by decide +kernel
theorem ways_i18 : ((List.range 500).all fun j => idB 1 nwWaysL (9000 + j)) = true := by decide +kernel
theorem ways_i19 : ((List.range 500).all fun j => idB 1 nwWaysL (9500 + j)) = true := by decide +kernel
theorem ways_ids (id : Nat) (h : id < 10000) : (tk id).1 ≠ 0 ∧ sg id = 1 ↔ id ∈ nwWaysL := by
  refine idB_iff ?_
  have e : id = 500 * (id / 500) + id % 500 := (Nat.div_add_mod id 500).symm
  have hm : id % 500 < 500 := Nat.mod_lt _ (by decide)
  have hq : id / 500 < 20 := by omega
  generalize id / 500 = q at *
  generalize id % 500 = r at *
  subst e
  have hr := List.mem_range.mpr hm
  match q, hq with
  | 0, _ => exact List.all_eq_true.mp ways_i0 r hr
  | 1, _ => exact List.all_eq_true.mp ways_i1 r hr
  | 2, _ => exact List.all_eq_true.mp ways_i2 r hr
  | 3, _ => exact List.all_eq_true.mp ways_i3 r hr
  | 4, _ => exact List.all_eq_true.mp ways_i4 r hr
  | 5, _ => exact List.all_eq_true.mp ways_i5 r hr
  | 6, _ => exact List.all_eq_true.mp ways_i6 r hr
  | 7, _ => exact List.all_eq_true.mp ways_i7 r hr
  | 8, _ => exact List.all_eq_true.mp ways_i8 r hr
  | 9, _ => exact List.all_eq_true.mp ways_i9 r hr
  | 10, _ => exact List.all_eq_true.mp ways_i10 r hr
  | 11, _ => exact List.all_eq_true.mp ways_i11 r hr
  | 12, _ => exact List.all_eq_true.mp ways_i12 r hr
  | 13, _ => exact List.all_eq_true.mp ways_i13 r hr
  | 14, _ => exact List.all_eq_true.mp ways_i14 r hr
  | 15, _ => exact List.all_eq_true.mp ways_i15 r hr
  | 16, _ => exact List.all_eq_true.mp ways_i16 r hr
  | 17, _ => exact List.all_eq_true.mp ways_i17 r hr
  | 18, _ => exact List.all_eq_true.mp ways_i18 r hr
  | 19, _ => exact List.all_eq_true.mp ways_i19 r hr
  | q + 20, hq => exact absurd hq (by omega)
theorem kept_i0 : ((List.range 500).all fun j => idB 2 nwKeptL (0 + j)) = true := by decide +kernel
theorem kept_i1 : ((List.range 500).all fun j => idB 2 nwKeptL (500 + j)) = true := by decide +kernel
theorem kept_i2 : ((List.range 500).all fun j => idB 2 nwKeptL (1000 + j)) = true := by decide +kernel
theorem kept_i3 : ((List.range 500).all fun j => idB 2 nwKeptL (1500 + j)) = true := by decide +kernel
theorem kept_i4 : ((List.range 500).all fun j => idB 2 nwKeptL (2000 + j)) = true := by decide +kernel
theorem kept_i5 : ((List.range 500).all fun j => idB 2 nwKeptL (2500 + j)) = true := by decide +kernel
theorem kept_i6 : ((List.range 500).all fun j => idB 2 nwKeptL (3000 + j)) = true := by decide +kernel
theorem kept_i7 : ((List.range 500).all fun j => idB 2 nwKeptL (3500 + j)) = true := by decide +kernel
theorem kept_i8 : ((List.range 500).all fun j => idB 2 nwKeptL (4000 + j)) = true := by decide +kernel
theorem kept_i9 : ((List.range 500).all fun j => idB 2 nwKeptL (4500 + j)) = true := by decide +kernel
theorem kept_i10 : ((List.range 500).all fun j => idB 2 nwKeptL (5000 + j)) = true := by decide +kernel
theorem kept_i11 : ((List.range 500).all fun j => idB 2 nwKeptL (5500 + j)) = true := by decide +kernel
theorem kept_i12 : ((List.range 500).all fun j => idB 2 nwKeptL (6000 + j)) = true := by decide +kernel
theorem kept_i13 : ((List.range 500).all fun j => idB 2 nwKeptL (6500 + j)) = true := by decide +kernel
theorem kept_i14 : ((List.range 500).all fun j => idB 2 nwKeptL (7000 + j)) = true := by decide +kernel
theorem kept_i15 : ((List.range 500).all fun j => idB 2 nwKeptL (7500 + j)) = true := by decide +kernel
theorem kept_i16 : ((List.range 500).all fun j => idB 2 nwKeptL (8000 + j)) = true := by decide +kernel
theorem kept_i17 : ((List.range 500).all fun j => idB 2 nwKeptL (8500 + j)) = true := by decide +kernel
theorem kept_i18 : ((List.range 500).all fun j => idB 2 nwKeptL (9000 + j)) = true := by decide +kernel
theorem kept_i19 : ((List.range 500).all fun j => idB 2 nwKeptL (9500 + j)) = true := by decide +kernel
theorem kept_ids (id : Nat) (h : id < 10000) : (tk id).1 ≠ 0 ∧ sg id = 2 ↔ id ∈ nwKeptL := by
  refine idB_iff ?_
  have e : id = 500 * (id / 500) + id % 500 := (Nat.div_add_mod id 500).symm
  have hm : id % 500 < 500 := Nat.mod_lt _ (by decide)
  have hq : id / 500 < 20 := by omega
  generalize id / 500 = q at *
  generalize id % 500 = r at *
  subst e
  have hr := List.mem_range.mpr hm
  match q, hq with
  | 0, _ => exact List.all_eq_true.mp kept_i0 r hr
  | 1, _ => exact List.all_eq_true.mp kept_i1 r hr
  | 2, _ => exact List.all_eq_true.mp kept_i2 r hr
  | 3, _ => exact List.all_eq_true.mp kept_i3 r hr
  | 4, _ => exact List.all_eq_true.mp kept_i4 r hr
  | 5, _ => exact List.all_eq_true.mp kept_i5 r hr
  | 6, _ => exact List.all_eq_true.mp kept_i6 r hr
  | 7, _ => exact List.all_eq_true.mp kept_i7 r hr
  | 8, _ => exact List.all_eq_true.mp kept_i8 r hr
  | 9, _ => exact List.all_eq_true.mp kept_i9 r hr
  | 10, _ => exact List.all_eq_true.mp kept_i10 r hr
  | 11, _ => exact List.all_eq_true.mp kept_i11 r hr
  | 12, _ => exact List.all_eq_true.mp kept_i12 r hr
  | 13, _ => exact List.all_eq_true.mp kept_i13 r hr
  | 14, _ => exact List.all_eq_true.mp kept_i14 r hr
  | 15, _ => exact List.all_eq_true.mp kept_i15 r hr
  | 16, _ => exact List.all_eq_true.mp kept_i16 r hr
  | 17, _ => exact List.all_eq_true.mp kept_i17 r hr
  | 18, _ => exact List.all_eq_true.mp kept_i18 r hr
  | 19, _ => exact List.all_eq_true.mp kept_i19 r hr
  | q + 20, hq => exact absurd hq (by omega)
theorem start_i0 : ((List.range 500).all fun j => idB 0 nwStartL (0 + j)) = true := by decide +kernel
theorem start_i1 : ((List.range 500).all fun j => idB 0 nwStartL (500 + j)) = true := by decide +kernel
theorem start_i2 : ((List.range 500).all fun j => idB 0 nwStartL (1000 + j)) = true := by decide +kernel
theorem start_i3 : ((List.range 500).all fun j => idB 0 nwStartL (1500 + j)) = true := by decide +kernel
theorem start_i4 : ((List.range 500).all fun j => idB 0 nwStartL (2000 + j)) = true := by decide +kernel
theorem start_i5 : ((List.range 500).all fun j => idB 0 nwStartL (2500 + j)) = true := by decide +kernel
theorem start_i6 : ((List.range 500).all fun j => idB 0 nwStartL (3000 + j)) = true := by decide +kernel
theorem start_i7 : ((List.range 500).all fun j => idB 0 nwStartL (3500 + j)) = true := by decide +kernel
theorem start_i8 : ((List.range 500).all fun j => idB 0 nwStartL (4000 + j)) = true := by decide +kernel
theorem start_i9 : ((List.range 500).all fun j => idB 0 nwStartL (4500 + j)) = true := by decide +kernel
theorem start_i10 : ((List.range 500).all fun j => idB 0 nwStartL (5000 + j)) = true := by decide +kernel
theorem start_i11 : ((List.range 500).all fun j => idB 0 nwStartL (5500 + j)) = true := by decide +kernel
theorem start_i12 : ((List.range 500).all fun j => idB 0 nwStartL (6000 + j)) = true := by decide +kernel
theorem start_i13 : ((List.range 500).all fun j => idB 0 nwStartL (6500 + j)) = true := by decide +kernel
theorem start_i14 : ((List.range 500).all fun j => idB 0 nwStartL (7000 + j)) = true := by decide +kernel
theorem start_i15 : ((List.range 500).all fun j => idB 0 nwStartL (7500 + j)) = true := by decide +kernel
theorem start_i16 : ((List.range 500).all fun j => idB 0 nwStartL (8000 + j)) = true := by decide +kernel
theorem start_i17 : ((List.range 500).all fun j => idB 0 nwStartL (8500 + j)) = true := by decide +kernel
theorem start_i18 : ((List.range 500).all fun j => idB 0 nwStartL (9000 + j)) = true := by decide +kernel
theorem start_i19 : ((List.range 500).all fun j => idB 0 nwStartL (9500 + j)) = true := by decide +kernel
theorem start_ids (id : Nat) (h : id < 10000) : (tk id).1 ≠ 0 ∧ sg id = 0 ↔ id ∈ nwStartL := by
  refine idB_iff ?_
  have e : id = 500 * (id / 500) + id % 500 := (Nat.div_add_mod id 500).symm
  have hm : id % 500 < 500 := Nat.mod_lt _ (by decide)
  have hq : id / 500 < 20 := by omega
  generalize id / 500 = q at *
  generalize id % 500 = r at *
  subst e
  have hr := List.mem_range.mpr hm
  match q, hq with
  | 0, _ => exact List.all_eq_true.mp start_i0 r hr
  | 1, _ => exact List.all_eq_true.mp start_i1 r hr
  | 2, _ => exact List.all_eq_true.mp start_i2 r hr
  | 3, _ => exact List.all_eq_true.mp start_i3 r hr
  | 4, _ => exact List.all_eq_true.mp start_i4 r hr
  | 5, _ => exact List.all_eq_true.mp start_i5 r hr
  | 6, _ => exact List.all_eq_true.mp start_i6 r hr
  | 7, _ => exact List.all_eq_true.mp start_i7 r hr
  | 8, _ => exact List.all_eq_true.mp start_i8 r hr
  | 9, _ => exact List.all_eq_true.mp start_i9 r hr
  | 10, _ => exact List.all_eq_true.mp start_i10 r hr
  | 11, _ => exact List.all_eq_true.mp start_i11 r hr
  | 12, _ => exact List.all_eq_true.mp start_i12 r hr
  | 13, _ => exact List.all_eq_true.mp start_i13 r hr
  | 14, _ => exact List.all_eq_true.mp start_i14 r hr
  | 15, _ => exact List.all_eq_true.mp start_i15 r hr
  | 16, _ => exact List.all_eq_true.mp start_i16 r hr
  | 17, _ => exact List.all_eq_true.mp start_i17 r hr
  | 18, _ => exact List.all_eq_true.mp start_i18 r hr
  | 19, _ => exact List.all_eq_true.mp start_i19 r hr
  | q + 20, hq => exact absurd hq (by omega)
