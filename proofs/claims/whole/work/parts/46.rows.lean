/-! by bits: begun with rows of kit/laws/BITS.to-paste -/
def bt (x : Int32) (i : Nat) : Bool := x.toBitVec.getLsbD i
theorem b_ext {x y : Int32} (h : ∀ i, i < 32 → bt x i = bt y i) : x = y := Int32.toBitVec_inj.mp (BitVec.eq_of_getLsbD_eq (fun i hi => h i hi))
theorem b_or (x y : Int32) (i : Nat) : bt (x ||| y) i = (bt x i || bt y i) := by unfold bt; rw [Int32.toBitVec_or, BitVec.getLsbD_or]
theorem b_and (x y : Int32) (i : Nat) : bt (x &&& y) i = (bt x i && bt y i) := by unfold bt; rw [Int32.toBitVec_and, BitVec.getLsbD_and]
theorem b_xor (x y : Int32) (i : Nat) : bt (x ^^^ y) i = (bt x i ^^ bt y i) := by unfold bt; rw [Int32.toBitVec_xor, BitVec.getLsbD_xor]
theorem b_big {x : Int32} {i : Nat} (h : 32 ≤ i) : bt x i = false := BitVec.getLsbD_of_ge _ _ h
theorem b_65535 (i : Nat) : bt 65535 i = decide (i < 16) := by
  rcases Nat.lt_or_ge i 32 with h | h
  · exact (by decide +kernel : ∀ i, i < 32 → bt 65535 i = decide (i < 16)) i h
  · rw [b_big h, decide_eq_false (by omega)]
theorem b_m1 : ∀ i, i < 32 → bt (-1) i = true := by decide +kernel
theorem b_0 (i : Nat) : bt 0 i = false := BitVec.getLsbD_zero
theorem s_l : ∀ n, n < 32 → ((nI n &&& 31).toBitVec.smod 32).toNat = n := by decide +kernel
theorem s_u : ∀ n, n < 32 → (((nI n).toUInt32 &&& Int32.toUInt32 31).toBitVec % 32).toNat = n := by decide +kernel
theorem b_shl (n : Nat) (hn : n < 32) (x : Int32) {i : Nat} (hi : i < 32) : bt (x <<< (nI n &&& 31)) i = (decide (n ≤ i) && bt x (i - n)) := by
  unfold bt
  rw [Int32.toBitVec_shiftLeft]
  show (x.toBitVec <<< ((nI n &&& 31).toBitVec.smod 32).toNat).getLsbD i = _
  rw [s_l n hn, BitVec.getLsbD_shiftLeft]
  rcases Nat.lt_or_ge i n with h | h
  · simp [h, Nat.not_le.mpr h]
  · simp [hi, h, Nat.not_lt.mpr h]
theorem b_ushr (n : Nat) (hn : n < 32) (x : Int32) (i : Nat) : bt ((x.toUInt32 >>> ((nI n).toUInt32 &&& Int32.toUInt32 31)).toInt32) i = bt x (n + i) := by
  show (x.toUInt32 >>> ((nI n).toUInt32 &&& Int32.toUInt32 31)).toBitVec.getLsbD i = x.toUInt32.toBitVec.getLsbD (n + i)
  rw [UInt32.toBitVec_shiftRight]
  show (x.toUInt32.toBitVec >>> (((nI n).toUInt32 &&& Int32.toUInt32 31).toBitVec % 32).toNat).getLsbD i = _
  rw [s_u n hn, BitVec.getLsbD_ushiftRight]
theorem b_sshr (n : Nat) (hn : n < 32) (x : Int32) {i : Nat} (hi : i < 32) : bt (x >>> (nI n &&& 31)) i = if n + i < 32 then bt x (n + i) else bt x 31 := by
  unfold bt
  rw [Int32.toBitVec_shiftRight]
  show (x.toBitVec.sshiftRight ((nI n &&& 31).toBitVec.smod 32).toNat).getLsbD i = _
  rw [s_l n hn, BitVec.getLsbD_sshiftRight, BitVec.msb_eq_getLsbD_last]
  simp [hi]
theorem b_1 (i : Nat) : bt 1 i = decide (i = 0) := by
  rcases Nat.lt_or_ge i 32 with h | h
  · exact (by decide +kernel : ∀ i, i < 32 → bt 1 i = decide (i = 0)) i h
  · rw [b_big h, decide_eq_false (by omega)]
theorem b_at {x : Int32} {r : Nat} (hr : r < 32) : (x >>> (nI r &&& 31)) &&& 1 = 1 ↔ bt x r = true := by
  have h0 : bt ((x >>> (nI r &&& 31)) &&& 1) 0 = bt x r := by
    rw [b_and, b_sshr r hr x (by omega), b_1]
    simp [hr]
  constructor
  · intro e
    rw [e] at h0
    rw [← h0]
    decide
  · intro e
    rcases and1 (x >>> (nI r &&& 31)) with c | c
    · rw [c, e] at h0
      exact absurd h0 (by decide)
    · exact c
theorem b_nI {w i : Nat} (hi : i < 32) : bt (nI w) i = w.testBit i := by
  unfold bt nI
  show (BitVec.ofNat 32 w).getLsbD i = _
  rw [BitVec.getLsbD_ofNat]
  simp [hi]
theorem b_hi {w i n : Nat} (hw : w < 2 ^ n) (hi : n ≤ i) : bt (nI w) i = false := by
  rcases Nat.lt_or_ge i 32 with h | h
  · rw [b_nI h]
    exact Nat.testBit_lt_two_pow (Nat.lt_of_lt_of_le hw (Nat.pow_le_pow_right (by omega) hi))
  · exact b_big h
theorem b_sh1 {n i : Nat} (hn : n < 32) (hi : i < 32) : bt (1 <<< (nI n &&& 31)) i = decide (i = n) := by
  rw [b_shl n hn 1 hi, b_1]
  by_cases e : i = n
  · subst e; simp
  · by_cases e2 : n ≤ i
    · have : i - n ≠ 0 := by omega
      simp [e, e2, this]
    · simp [e, e2]
def nrF (rows : Int32) : Nat → Int32
  | 0 => rows
  | i + 1 => nrF rows i ||| ((rows <<< (nI (i + 1) &&& 31)) ||| (rows >>> (nI (i + 1) &&& 31)))
theorem nrF_bit {rows : Int32} {r : Nat} (hr : r < 16) : ∀ {d : Nat}, d ≤ 3 → (bt (nrF rows d) r = true ↔ ∃ i, i ≤ d ∧ ((i ≤ r ∧ bt rows (r - i) = true) ∨ bt rows (r + i) = true)) := by
  intro d
  induction d with
  | zero =>
    intro _
    constructor
    · exact fun h => ⟨0, Nat.le_refl _, Or.inr h⟩
    · rintro ⟨i, h1, h2⟩
      have : i = 0 := by omega
      subst this
      rcases h2 with h2 | h2
      · exact h2.2
      · exact h2
  | succ d ih =>
    intro hd
    simp only [nrF, b_or]
    rw [b_shl (d + 1) (by omega) rows (by omega), b_sshr (d + 1) (by omega) rows (by omega), if_pos (by omega)]
    simp only [Bool.or_eq_true, Bool.and_eq_true, decide_eq_true_eq]
    rw [ih (by omega)]
    constructor
    · rintro (⟨i, h1, h2⟩ | h | h)
      · exact ⟨i, by omega, h2⟩
      · exact ⟨d + 1, Nat.le_refl _, Or.inl h⟩
      · exact ⟨d + 1, Nat.le_refl _, Or.inr (by rw [Nat.add_comm]; exact h)⟩
    · rintro ⟨i, h1, h2⟩
      by_cases e : i = d + 1
      · subst e
        rcases h2 with h2 | h2
        · exact Or.inr (Or.inl h2)
        · exact Or.inr (Or.inr (by rw [Nat.add_comm]; exact h2))
      · exact Or.inl ⟨i, by omega, h2⟩
theorem abs_le : ∀ y, y < 16 → ∀ r, r < 16 → ∀ d, d < 4 → ((¬ nI d < jabs (nI y - nI r)) ↔ (y ≤ r + d ∧ r ≤ y + d)) := by decide +kernel
/-- a row is near walked ones -/
def nrB (rows : Int32) (d r : Nat) : Bool := anyB (fun y => bt rows y && decide (y ≤ r + d ∧ r ≤ y + d)) 16
theorem nrF_nrB {rows : Int32} {r d : Nat} (hr : r < 16) (hd : d ≤ 3) (hh : ∀ y, 16 ≤ y → bt rows y = false) : bt (nrF rows d &&& 65535) r = nrB rows d r := by
  rw [b_and, b_65535, decide_eq_true hr, Bool.and_true, Bool.eq_iff_iff, nrF_bit hr hd, nrB, anyB_iff]
  constructor
  · rintro ⟨i, h1, h2⟩
    rcases h2 with ⟨h2, h3⟩ | h3
    · refine ⟨r - i, by omega, ?_⟩
      rw [h3, Bool.true_and, decide_eq_true_eq]
      omega
    · have : r + i < 16 := by
        rcases Nat.lt_or_ge (r + i) 16 with z | z
        · exact z
        · rw [hh _ z] at h3; exact absurd h3 (by decide)
      refine ⟨r + i, this, ?_⟩
      rw [h3, Bool.true_and, decide_eq_true_eq]
      omega
  · rintro ⟨y, h1, h2⟩
    rw [Bool.and_eq_true, decide_eq_true_eq] at h2
    obtain ⟨h2, h3, h4⟩ := h2
    by_cases e : y ≤ r
    · refine ⟨r - y, by omega, Or.inl ⟨by omega, ?_⟩⟩
      rw [show r - (r - y) = y by omega]
      exact h2
    · refine ⟨y - r, by omega, Or.inr ?_⟩
      rw [show r + (y - r) = y by omega]
      exact h2
theorem cov_nrB {wd : Nat → Int32} {r d : Nat} (hr : r < 16) (hd : d ≤ 3) (e : wd 11 = nI d) : cov wd (nI r) = nrB (wd 12) d r := by
  unfold cov nrB
  rw [Bool.eq_iff_iff, anyB_iff, anyB_iff, e]
  constructor
  all_goals
    rintro ⟨y, h1, h2⟩
    refine ⟨y, h1, ?_⟩
    simp only [Bool.and_eq_true, decide_eq_true_eq] at h2 ⊢
  · exact ⟨(b_at (by omega)).mp h2.1, (abs_le y h1 r hr d (by omega)).mp h2.2⟩
  · exact ⟨(b_at (by omega)).mpr h2.1, (abs_le y h1 r hr d (by omega)).mpr h2.2⟩
theorem row_of {c : Nat} (h : c ≤ 255) : nI c / 16 = nI (c / 16) := pk_div (d := 16) (by omega) (by decide) (by decide)
theorem col_of {c : Nat} (h : c ≤ 255) : jrem (nI c) 16 = nI (c % 16) := pk_rem (d := 16) (by omega) (by decide) (by decide)
/-- the rows that are near: the finds that they show -/
theorem snR_near {wd : Nat → Int32} {N : Nat → Nat} (O : Ok wd N) {f : Nat} (hf : f < N 3) {rows : Int32} (hh : ∀ y, 16 ≤ y → bt rows y = false) : snR wd (nrF rows (N 11) &&& 65535) f = (decide (¬ wd 10 < wd (351 + 6 * f)) && nrB rows (N 11) (nt (wd (350 + 6 * f)) / 16)) := by
  obtain ⟨e, hc⟩ := (O.F hf).2.1
  unfold snR
  congr 1
  rw [e, row_of hc, nt_nI (by omega), ← nrF_nrB (rows := rows) (by omega) O.wi.2 hh, Bool.eq_iff_iff, decide_eq_true_eq]
  exact b_at (by omega)
theorem sn_near {wd : Nat → Int32} {N : Nat → Nat} (O : Ok wd N) {f : Nat} (hf : f < N 3) : sn wd f = (decide (¬ wd 10 < wd (351 + 6 * f)) && nrB (wd 12) (N 11) (nt (wd (350 + 6 * f)) / 16)) := by
  obtain ⟨e, hc⟩ := (O.F hf).2.1
  unfold sn
  congr 1
  rw [e, row_of hc, nt_nI (by omega)]
  exact cov_nrB (by omega) O.wi.2 O.wi.1
theorem wa_hi {wd : Nat → Int32} {N : Nat → Nat} (O : Ok wd N) : ∀ y, 16 ≤ y → bt (wd 12) y = false := by
  intro y hy
  rw [O.wa.1]
  exact b_hi (n := 16) (by have := O.wa.2; omega) hy
theorem snR_sn {wd : Nat → Int32} {N : Nat → Nat} (O : Ok wd N) {f : Nat} (hf : f < N 3) : snR wd (nrF (wd 12) (N 11) &&& 65535) f = sn wd f := by
  rw [snR_near O hf (wa_hi O), sn_near O hf]
section ROWS
variable {A : Nat → Nat} {S : Nat → Prop} {h0 h : AH} {X : Nat → Nat → Int32} {wd : Nat → Int32} {N : Nat → Nat} {Q : Int32 → AH → Prop}
theorem c_rowsNear (H : G A S h0 X h) (R : CR X wd) (O : Ok wd N) {rows : Int32} (k : Q (nrF rows (N 11) &&& 65535) h) : w_X1_rowsNear (A 1) rows h Q := by
  obtain ⟨e0, h0⟩ := O.wi
  refine lp_up (N 11) (fun j => (nrF rows j, nI (j + 1), h)) (fun j kk1 hj kk => ?_) (fun kk1 => ?_) (Nat.zero_le _)
  · dsimp only [w_X1_rowsNear_28, w_X1_rowsNear_4, w_X1_rowsNear]
    (repeat (first | with_reducible refine bd_i ?_ | with_reducible refine fP H (by with_unfolding_all first | exact H.b | exact hS) (by with_unfolding_all rfl) (by with_unfolding_all rfl) ?_ | with_reducible refine vG H (by with_unfolding_all first | exact H.b | exact hS) (by with_unfolding_all rfl) ?_ | with_reducible refine fC_ H R (by with_unfolding_all exact H.b) (by with_unfolding_all rfl) (by with_unfolding_all rfl) ?_ | with_reducible refine aC H R (by with_unfolding_all exact H.b) (by with_unfolding_all rfl) (by decide) (by with_unfolding_all rfl) rfl (by omega) ?_ | with_reducible refine fG H (by with_unfolding_all first | exact H.b | exact hS) (by with_unfolding_all rfl) ?_ | with_reducible refine aG H (by with_unfolding_all first | exact H.b | exact hS) (by with_unfolding_all rfl) (by decide) rfl (by omega) ?_))
    rw [e0]
    refine br_F (nI_nlt (by omega) (by omega)) ?_
    (repeat (first | with_reducible refine bd_i ?_ | with_reducible refine fP H (by with_unfolding_all first | exact H.b | exact hS) (by with_unfolding_all rfl) (by with_unfolding_all rfl) ?_ | with_reducible refine vG H (by with_unfolding_all first | exact H.b | exact hS) (by with_unfolding_all rfl) ?_ | with_reducible refine fC_ H R (by with_unfolding_all exact H.b) (by with_unfolding_all rfl) (by with_unfolding_all rfl) ?_ | with_reducible refine aC H R (by with_unfolding_all exact H.b) (by with_unfolding_all rfl) (by decide) (by with_unfolding_all rfl) rfl (by omega) ?_ | with_reducible refine fG H (by with_unfolding_all first | exact H.b | exact hS) (by with_unfolding_all rfl) ?_ | with_reducible refine aG H (by with_unfolding_all first | exact H.b | exact hS) (by with_unfolding_all rfl) (by decide) rfl (by omega) ?_))
    rw [nI_succ (j + 1)] at kk
    exact kk
  · dsimp only [w_X1_rowsNear_28, w_X1_rowsNear_4, w_X1_rowsNear]
    (repeat (first | with_reducible refine bd_i ?_ | with_reducible refine fP H (by with_unfolding_all first | exact H.b | exact hS) (by with_unfolding_all rfl) (by with_unfolding_all rfl) ?_ | with_reducible refine vG H (by with_unfolding_all first | exact H.b | exact hS) (by with_unfolding_all rfl) ?_ | with_reducible refine fC_ H R (by with_unfolding_all exact H.b) (by with_unfolding_all rfl) (by with_unfolding_all rfl) ?_ | with_reducible refine aC H R (by with_unfolding_all exact H.b) (by with_unfolding_all rfl) (by decide) (by with_unfolding_all rfl) rfl (by omega) ?_ | with_reducible refine fG H (by with_unfolding_all first | exact H.b | exact hS) (by with_unfolding_all rfl) ?_ | with_reducible refine aG H (by with_unfolding_all first | exact H.b | exact hS) (by with_unfolding_all rfl) (by decide) rfl (by omega) ?_))
    rw [e0]
    exact br_T (nI_lt (by omega) (by omega)) k
theorem c_nearRows (H : G A S h0 X h) (R : CR X wd) (O : Ok wd N) (k : Q (nrF (wd 12) (N 11) &&& 65535) h) : w_X1_nearRows (A 1) h Q := by
  dsimp only [w_X1_nearRows]
  (repeat (first | with_reducible refine c_rowsNear H R O ?_ | with_reducible refine bd_i ?_ | with_reducible refine fP H (by with_unfolding_all first | exact H.b | exact hS) (by with_unfolding_all rfl) (by with_unfolding_all rfl) ?_ | with_reducible refine vG H (by with_unfolding_all first | exact H.b | exact hS) (by with_unfolding_all rfl) ?_ | with_reducible refine fC_ H R (by with_unfolding_all exact H.b) (by with_unfolding_all rfl) (by with_unfolding_all rfl) ?_ | with_reducible refine aC H R (by with_unfolding_all exact H.b) (by with_unfolding_all rfl) (by decide) (by with_unfolding_all rfl) rfl (by omega) ?_ | with_reducible refine fG H (by with_unfolding_all first | exact H.b | exact hS) (by with_unfolding_all rfl) ?_ | with_reducible refine aG H (by with_unfolding_all first | exact H.b | exact hS) (by with_unfolding_all rfl) (by decide) rfl (by omega) ?_))
  exact k
theorem c_seenCount (H : G A S h0 X h) (R : CR X wd) (O : Ok wd N) (k : Q (cnt (sn wd) (N 3)) h) : w_X1_seenCount (A 1) h Q := by
  dsimp only [w_X1_seenCount]
  (repeat (first | with_reducible refine c_nearRows H R O ?_ | with_reducible refine c_seenIn H R O ?_ | with_reducible refine bd_i ?_ | with_reducible refine fP H (by with_unfolding_all first | exact H.b | exact hS) (by with_unfolding_all rfl) (by with_unfolding_all rfl) ?_ | with_reducible refine vG H (by with_unfolding_all first | exact H.b | exact hS) (by with_unfolding_all rfl) ?_ | with_reducible refine fC_ H R (by with_unfolding_all exact H.b) (by with_unfolding_all rfl) (by with_unfolding_all rfl) ?_ | with_reducible refine aC H R (by with_unfolding_all exact H.b) (by with_unfolding_all rfl) (by decide) (by with_unfolding_all rfl) rfl (by omega) ?_ | with_reducible refine fG H (by with_unfolding_all first | exact H.b | exact hS) (by with_unfolding_all rfl) ?_ | with_reducible refine aG H (by with_unfolding_all first | exact H.b | exact hS) (by with_unfolding_all rfl) (by decide) rfl (by omega) ?_))
  rw [cnt_congr (fun f hf => snR_sn O hf)]
  exact k
end ROWS
