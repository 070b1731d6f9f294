/-! the study: which guns a case may be of -/
def Off (L : List Nat) (X X' : Nat → Nat → Int32) : Prop := ∀ id, id ∉ L → X' id = X id
theorem Off.rf (L : List Nat) (X : Nat → Nat → Int32) : Off L X X := fun _ _ => rfl
theorem Off.tr {L : List Nat} {X X' X'' : Nat → Nat → Int32} (a : Off L X X') (b : Off L X' X'') : Off L X X'' := fun id h => (b id h).trans (a id h)
theorem Off.up {L : List Nat} {X X' : Nat → Nat → Int32} (a : Off L X X') {id : Nat} (hi : id ∈ L) (n : Nat) (v : Int32) : Off L X (up X' id n v) := fun j hj => by
  rw [up_row _ _ _ (fun z => hj (by rw [z]; exact hi))]
  exact a j hj
theorem Off.mono {L L' : List Nat} {X X' : Nat → Nat → Int32} (a : Off L X X') (h : ∀ id, id ∈ L → id ∈ L') : Off L' X X' := fun id hi => a id (fun z => hi (h id z))
theorem CR.offL {L : List Nat} {X X' : Nat → Nat → Int32} {wd : Nat → Int32} (R : CR X wd) (a : Off L X X') (h : ∀ id, id ∈ L → stR id = false) : CR X' wd :=
  R.off (fun id n hs => by
    rw [a id (fun z => by rw [h id z] at hs; exact Bool.noConfusion hs)])
theorem MR.offL {L : List Nat} {X X' : Nat → Nat → Int32} {wd : Nat → Int32} (M : MR X wd) (a : Off L X X') (h : 1301 ∉ L) : MR X' wd := fun w hw => by rw [a 1301 h]; exact M w hw
theorem nI_or (a b : Nat) : nI a ||| nI b = nI (a ||| b) := by
  apply Int32.toBitVec_inj.1
  show BitVec.ofNat 32 a ||| BitVec.ofNat 32 b = BitVec.ofNat 32 (a ||| b)
  apply BitVec.eq_of_getLsbD_eq
  intro i hi
  simp [hi]
theorem nI_and (a b : Nat) : nI a &&& nI b = nI (a &&& b) := by
  apply Int32.toBitVec_inj.1
  show BitVec.ofNat 32 a &&& BitVec.ofNat 32 b = BitVec.ofNat 32 (a &&& b)
  apply BitVec.eq_of_getLsbD_eq
  intro i hi
  simp [hi]
theorem sh1 {g : Nat} (h : g < 31) : (1 : Int32) <<< (nI g &&& 31) = nI (2 ^ g) := by
  have := pk_shlN (n := 1) (nI g &&& 31) g (s_l g (by omega)) (by
    have : 2 ^ g ≤ 2 ^ 30 := Nat.pow_le_pow_right (by omega) (by omega)
    omega)
  rw [Nat.one_mul] at this
  exact this
def btN (p : Nat → Bool) : Nat → Nat
  | 0 => 0
  | n + 1 => if p n then btN p n + 2 ^ n else btN p n
theorem btN_lt {p : Nat → Bool} : ∀ {n : Nat}, btN p n < 2 ^ n := by
  intro n
  induction n with
  | zero => simp [btN]
  | succ n ih =>
    simp only [btN]
    rw [Nat.pow_succ]
    split <;> omega
theorem btN_bit {p : Nat → Bool} {i : Nat} : ∀ {n : Nat}, (btN p n).testBit i = (decide (i < n) && p i) := by
  intro n
  induction n with
  | zero => simp [btN]
  | succ n ih =>
    simp only [btN]
    have h2 : btN p n + 2 ^ n = 2 ^ n ||| btN p n := by
      have h3 := Nat.two_pow_add_eq_or_of_lt (btN_lt (p := p) (n := n)) 1
      rw [Nat.mul_one] at h3
      rw [← h3, Nat.add_comm]
    by_cases e : p n = true
    · rw [if_pos e, h2, Nat.testBit_or, ih, Nat.testBit_two_pow]
      by_cases c : i = n
      · subst c
        simp [e]
      · by_cases d : i < n
        · simp [d, show i < n + 1 by omega, show ¬ n = i by omega]
        · simp [d, show ¬ i < n + 1 by omega, show ¬ n = i by omega]
    · rw [if_neg e, ih]
      by_cases c : i = n
      · subst c
        simp [e]
      · by_cases d : i < n
        · simp [d, show i < n + 1 by omega]
        · simp [d, show ¬ i < n + 1 by omega]
theorem bts_N {p : Nat → Bool} : ∀ {n : Nat}, n ≤ 30 → bts p n = nI (btN p n) := by
  intro n
  induction n with
  | zero => intro _; rfl
  | succ n ih =>
    intro h
    simp only [bts, btN]
    rw [ih (by omega), sh1 (by omega), nI_or]
    by_cases e : p n = true
    · rw [if_pos e, if_pos e]
      congr 1
      have h3 := Nat.two_pow_add_eq_or_of_lt (btN_lt (p := p) (n := n)) 1
      rw [Nat.mul_one] at h3
      rw [Nat.or_comm, ← h3, Nat.add_comm]
    · rw [if_neg e, if_neg e]
/-- the number of bits, as Java counts them -/
def pcI (v0 : Int32) : Int32 :=
  let x1 := v0 - ((jushr v0 1) &&& 1431655765)
  let x2 := (x1 &&& 858993459) + ((jushr x1 2) &&& 858993459)
  let x3 := (x2 + (jushr x2 4)) &&& 252645135
  let x4 := x3 + (jushr x3 8)
  let x5 := x4 + (jushr x4 16)
  x5 &&& 63
def popN : Nat → Nat → Nat
  | 0, _ => 0
  | k + 1, n => n % 2 + popN k (n / 2)
theorem pc_N : ∀ n, n < 256 → pcI (nI n) = nI (popN 8 n) := by decide +kernel
theorem pc_1 : ∀ n, n < 256 → popN 8 n = 1 → n = 2 ^ Nat.log2 n ∧ Nat.log2 n < 8 := by decide +kernel
theorem pc_p : ∀ g, g < 8 → popN 8 (2 ^ g) = 1 ∧ Nat.log2 (2 ^ g) = g := by decide +kernel
theorem pc_lt : ∀ n, n < 256 → popN 8 n ≤ 8 := by decide +kernel
/-- the guns that a find that is seen may be of -/
def caseM (wd : Nat → Int32) (N : Nat → Nat) (f : Nat) : Option Nat := if wd (349 + 6 * f) = 0 ∧ sn wd f = true then some (btN (wm wd (wd (352 + 6 * f))) (N 0)) else none
theorem caseM_lt {wd : Nat → Int32} {N : Nat → Nat} {f m : Nat} (h : caseM wd N f = some m) : m < 2 ^ N 0 := by
  unfold caseM at h
  split at h
  · cases h
    exact btN_lt
  · cases h
theorem caseM_256 {wd : Nat → Int32} {N : Nat → Nat} (O : Ok wd N) {f m : Nat} (h : caseM wd N f = some m) : m < 256 := by
  have h1 := caseM_lt h
  have h2 : 2 ^ N 0 ≤ 2 ^ 8 := Nat.pow_le_pow_right (by omega) O.g.2
  omega
def sureG (wd : Nat → Int32) (N : Nat → Nat) (f : Nat) : Option Nat := match caseM wd N f with
  | none => none
  | some m => if popN 8 m = 1 then some (Nat.log2 m) else none
theorem sureG_iff {wd : Nat → Int32} {N : Nat → Nat} (O : Ok wd N) {f g : Nat} : sureG wd N f = some g ↔ (g < N 0 ∧ caseM wd N f = some (2 ^ g)) := by
  unfold sureG
  cases e : caseM wd N f with
  | none => simp
  | some m =>
    simp only
    have hm := caseM_256 O e
    have hm2 := caseM_lt e
    constructor
    · intro h
      split at h
      · rename_i c
        obtain ⟨h1, h2⟩ := pc_1 m hm c
        cases h
        refine ⟨?_, by rw [← h1]⟩
        rw [h1] at hm2
        exact (Nat.pow_lt_pow_iff_right (by omega)).mp hm2
      · cases h
    · rintro ⟨h1, h2⟩
      cases h2
      have := pc_p g (by have := O.g.2; omega)
      rw [if_pos this.1, this.2]
section STUDY
variable {A : Nat → Nat} {S : Nat → Prop} {h0 h : AH} {X : Nat → Nat → Int32} {wd : Nat → Int32} {N : Nat → Nat} {Q : Int32 → AH → Prop} {Qv : AH → Prop}
theorem bitCount {v : Int32} (k : Q (pcI v) h) : w_J6_bitCount_0f7a4 v h Q := k
theorem ntz : ∀ {g : Nat}, g < 8 → Q (nI g) h → w_J6_numberOfTrailingZeros_0f7a4 (nI (2 ^ g)) h Q := by
  intro g hg k
  have : g = 0 ∨ g = 1 ∨ g = 2 ∨ g = 3 ∨ g = 4 ∨ g = 5 ∨ g = 6 ∨ g = 7 := by omega
  rcases this with e | e | e | e | e | e | e | e
  all_goals
    subst e
    dsimp only [w_J6_numberOfTrailingZeros_0f7a4_74, w_J6_numberOfTrailingZeros_0f7a4_62, w_J6_numberOfTrailingZeros_0f7a4_49, w_J6_numberOfTrailingZeros_0f7a4_34, w_J6_numberOfTrailingZeros_0f7a4]
    repeat (first | with_reducible refine bd_i ?_ | with_reducible refine br_T (by decide) ?_ | with_reducible refine br_F (by decide) ?_)
    exact k
theorem mb_N (O : Ok wd N) {f : Nat} (e : wd (349 + 6 * f) = 0) : mb wd N f = nI (btN (wm wd (wd (352 + 6 * f))) (N 0)) := by
  rw [mb, if_pos e, bts_N (by have := O.g.2; omega)]
/-- what the study's row of cases holds -/
def CG (X : Nat → Nat → Int32) (wd : Nat → Int32) (N : Nat → Nat) : Prop := ∀ f, f < N 3 → X 901 f = oI (caseM wd N f)
theorem CG.off {X X' : Nat → Nat → Int32} (C : CG X wd N) {L : List Nat} (o : Off L X X') (h : 901 ∉ L) : CG X' wd N := fun f hf => by rw [o 901 h]; exact C f hf
theorem c_refresh (H : G A S h0 X h) (R : CR X wd) (O : Ok wd N) (k : ∀ X' h', G A S h0 X' h' → Off [901] X X' → CR X' wd → CG X' wd N → Qv h') : w_X8_refresh (A 8) h Qv := by
  obtain ⟨e3, h3⟩ := O.f
  unfold w_X8_refresh
  (repeat (first | with_reducible refine c_nearRows H R O ?_ | with_reducible refine bd_i ?_ | with_reducible refine fP H (by with_unfolding_all first | exact H.b | exact hS) (by with_unfolding_all rfl) (by with_unfolding_all rfl) ?_ | with_reducible refine vG H (by with_unfolding_all first | exact H.b | exact hS) (by with_unfolding_all rfl) ?_ | with_reducible refine fC_ H R (by with_unfolding_all exact H.b) (by with_unfolding_all rfl) (by with_unfolding_all rfl) ?_ | with_reducible refine aC H R (by with_unfolding_all exact H.b) (by with_unfolding_all rfl) (by decide) (by with_unfolding_all rfl) rfl (by omega) ?_ | with_reducible refine fG H (by with_unfolding_all first | exact H.b | exact hS) (by with_unfolding_all rfl) ?_ | with_reducible refine aG H (by with_unfolding_all first | exact H.b | exact hS) (by with_unfolding_all rfl) (by decide) rfl (by omega) ?_))
  refine lp_inv (N 3) (fun j (s : Int32 × AH) => s.1 = nI j ∧ ∃ X', G A S h0 X' s.2 ∧ Off [901] X X' ∧ ∀ f, f < j → X' 901 f = oI (caseM wd N f)) (fun j s kk1 hj hI kk => ?_) (fun s kk1 hI => ?_) (Nat.zero_le _) ⟨rfl, X, H, Off.rf _ _, fun f hf => absurd hf (Nat.not_lt_zero _)⟩
  · obtain ⟨v, h1⟩ := s
    obtain ⟨rfl, X1, H1, o1, c1⟩ := hI
    have R1 := R.offL o1 (by decide)
    clear H R
    dsimp only at H1 ⊢
    have key : ∀ v, v = oI (caseM wd N j) → ∀ h', G A S h0 (up X1 901 j v) h' → kk1 (nI j + 1, h') := by
      intro v hv h' H'
      rw [← nI_succ]
      refine kk _ ⟨rfl, _, H', o1.up (by decide) _ _, fun f hf => ?_⟩
      by_cases e : f = j
      · subst e
        rw [up_same, hv]
      · rw [up_n _ _ _ e]
        exact c1 f (by omega)
    have H := H1
    have R := R1
    dsimp only [w_X8_refresh_77, w_X8_refresh_70, w_X8_refresh_46, w_X8_refresh_45, w_X8_refresh_15, w_X8_refresh]
    (repeat (first | with_reducible refine bd_i ?_ | with_reducible refine fP H (by with_unfolding_all first | exact H.b | exact hS) (by with_unfolding_all rfl) (by with_unfolding_all rfl) ?_ | with_reducible refine vG H (by with_unfolding_all first | exact H.b | exact hS) (by with_unfolding_all rfl) ?_ | with_reducible refine fC_ H R (by with_unfolding_all exact H.b) (by with_unfolding_all rfl) (by with_unfolding_all rfl) ?_ | with_reducible refine aC H R (by with_unfolding_all exact H.b) (by with_unfolding_all rfl) (by decide) (by with_unfolding_all rfl) rfl (by omega) ?_ | with_reducible refine fG H (by with_unfolding_all first | exact H.b | exact hS) (by with_unfolding_all rfl) ?_ | with_reducible refine aG H (by with_unfolding_all first | exact H.b | exact hS) (by with_unfolding_all rfl) (by decide) rfl (by omega) ?_))
    rw [e3]
    refine br_go hj (by omega) ?_
    (repeat' (first | with_reducible refine c_isSeen H R (by omega) ?_ | with_reducible refine c_gunsOf H R O (by omega) ?_ | with_reducible refine br_T rfl ?_ | with_reducible refine br_F (by decide) ?_ | with_reducible refine bd_i ?_ | with_reducible refine fP H (by with_unfolding_all first | exact H.b | exact hS) (by with_unfolding_all rfl) (by with_unfolding_all rfl) ?_ | with_reducible refine vG H (by with_unfolding_all first | exact H.b | exact hS) (by with_unfolding_all rfl) ?_ | with_reducible refine fC_ H R (by with_unfolding_all exact H.b) (by with_unfolding_all rfl) (by with_unfolding_all rfl) ?_ | with_reducible refine aC H R (by with_unfolding_all exact H.b) (by with_unfolding_all rfl) (by decide) (by with_unfolding_all rfl) rfl (by omega) ?_ | with_reducible refine fG H (by with_unfolding_all first | exact H.b | exact hS) (by with_unfolding_all rfl) ?_ | with_reducible refine aG H (by with_unfolding_all first | exact H.b | exact hS) (by with_unfolding_all rfl) (by decide) rfl (by omega) ?_ | (with_reducible refine br_bI (fun c => ?_) (fun c => ?_)) | (with_reducible refine br_if (fun c => ?_) (fun c => ?_))))
    all_goals (refine tG (id := 901) H H.b rfl (by decide) rfl (by omega) (fun h' H' => key _ ?_ h' H'))
    all_goals (try rw [snR_sn O hj] at *)
    all_goals (first | (rw [caseM, if_neg (by simp_all)]; rfl) | (rw [caseM, if_pos (by simp_all)]; exact mb_N O (by assumption)))
  · obtain ⟨v, h1⟩ := s
    obtain ⟨rfl, X1, H1, o1, c1⟩ := hI
    have R1 := R.offL o1 (by decide)
    have z := k X1 h1 H1 o1 R1 c1
    clear H R
    have H := H1
    have R := R1
    dsimp only at H ⊢
    dsimp only [w_X8_refresh_77, w_X8_refresh_70, w_X8_refresh_46, w_X8_refresh_45, w_X8_refresh_15, w_X8_refresh]
    (repeat (first | with_reducible refine bd_i ?_ | with_reducible refine fP H (by with_unfolding_all first | exact H.b | exact hS) (by with_unfolding_all rfl) (by with_unfolding_all rfl) ?_ | with_reducible refine vG H (by with_unfolding_all first | exact H.b | exact hS) (by with_unfolding_all rfl) ?_ | with_reducible refine fC_ H R (by with_unfolding_all exact H.b) (by with_unfolding_all rfl) (by with_unfolding_all rfl) ?_ | with_reducible refine aC H R (by with_unfolding_all exact H.b) (by with_unfolding_all rfl) (by decide) (by with_unfolding_all rfl) rfl (by omega) ?_ | with_reducible refine fG H (by with_unfolding_all first | exact H.b | exact hS) (by with_unfolding_all rfl) ?_ | with_reducible refine aG H (by with_unfolding_all first | exact H.b | exact hS) (by with_unfolding_all rfl) (by decide) rfl (by omega) ?_))
    rw [e3]
    exact br_end z
theorem oI_ne {m : Nat} (h : m < 2 ^ 31) : ¬ oI (some m) = -1 := by
  intro z
  have := nI_pos h
  dsimp only [oI] at z
  rw [z] at this
  exact this (by decide)
theorem c_isCase (H : G A S h0 X h) (O : Ok wd N) (C : CG X wd N) {f : Nat} (hf : f < N 3) (k : Q (bI (caseM wd N f).isSome) h) : w_X8_isCase (A 8) (nI f) h Q := by
  have h3 := O.f.2
  have R : True := trivial
  dsimp only [w_X8_isCase_15, w_X8_isCase]
  (repeat (first | with_reducible refine bd_i ?_ | with_reducible refine fP H (by with_unfolding_all first | exact H.b | exact hS) (by with_unfolding_all rfl) (by with_unfolding_all rfl) ?_ | with_reducible refine vG H (by with_unfolding_all first | exact H.b | exact hS) (by with_unfolding_all rfl) ?_ | with_reducible refine fC_ H R (by with_unfolding_all exact H.b) (by with_unfolding_all rfl) (by with_unfolding_all rfl) ?_ | with_reducible refine aC H R (by with_unfolding_all exact H.b) (by with_unfolding_all rfl) (by decide) (by with_unfolding_all rfl) rfl (by omega) ?_ | with_reducible refine fG H (by with_unfolding_all first | exact H.b | exact hS) (by with_unfolding_all rfl) ?_ | with_reducible refine aG H (by with_unfolding_all first | exact H.b | exact hS) (by with_unfolding_all rfl) (by decide) rfl (by omega) ?_))
  rw [C f hf]
  cases e : caseM wd N f with
  | none =>
    rw [e] at k
    exact br_T rfl (zf k rfl)
  | some m =>
    rw [e] at k
    exact br_F (oI_ne (by have := caseM_256 O e; omega)) (zt k rfl)
theorem c_isSure (H : G A S h0 X h) (O : Ok wd N) (C : CG X wd N) {f : Nat} (hf : f < N 3) (k : Q (bI (sureG wd N f).isSome) h) : w_X8_isSure (A 8) (nI f) h Q := by
  have h3 := O.f.2
  have R : True := trivial
  dsimp only [w_X8_isSure_26, w_X8_isSure_25, w_X8_isSure]
  (repeat (first | with_reducible refine c_isCase H O C hf ?_ | with_reducible refine bd_i ?_ | with_reducible refine fP H (by with_unfolding_all first | exact H.b | exact hS) (by with_unfolding_all rfl) (by with_unfolding_all rfl) ?_ | with_reducible refine vG H (by with_unfolding_all first | exact H.b | exact hS) (by with_unfolding_all rfl) ?_ | with_reducible refine fC_ H R (by with_unfolding_all exact H.b) (by with_unfolding_all rfl) (by with_unfolding_all rfl) ?_ | with_reducible refine aC H R (by with_unfolding_all exact H.b) (by with_unfolding_all rfl) (by decide) (by with_unfolding_all rfl) rfl (by omega) ?_ | with_reducible refine fG H (by with_unfolding_all first | exact H.b | exact hS) (by with_unfolding_all rfl) ?_ | with_reducible refine aG H (by with_unfolding_all first | exact H.b | exact hS) (by with_unfolding_all rfl) (by decide) rfl (by omega) ?_))
  unfold sureG at k
  cases e : caseM wd N f with
  | none =>
    rw [e] at k
    exact br_T rfl (zf k rfl)
  | some m =>
    rw [e] at k
    refine br_F (show ¬ bI true = 0 by decide) ?_
    have hm := caseM_256 O e
    (repeat (first | with_reducible refine bd_i ?_ | with_reducible refine fP H (by with_unfolding_all first | exact H.b | exact hS) (by with_unfolding_all rfl) (by with_unfolding_all rfl) ?_ | with_reducible refine vG H (by with_unfolding_all first | exact H.b | exact hS) (by with_unfolding_all rfl) ?_ | with_reducible refine fC_ H R (by with_unfolding_all exact H.b) (by with_unfolding_all rfl) (by with_unfolding_all rfl) ?_ | with_reducible refine aC H R (by with_unfolding_all exact H.b) (by with_unfolding_all rfl) (by decide) (by with_unfolding_all rfl) rfl (by omega) ?_ | with_reducible refine fG H (by with_unfolding_all first | exact H.b | exact hS) (by with_unfolding_all rfl) ?_ | with_reducible refine aG H (by with_unfolding_all first | exact H.b | exact hS) (by with_unfolding_all rfl) (by decide) rfl (by omega) ?_))
    rw [C f hf, e]
    refine bitCount ?_
    show br (pcI (nI m) = 1) _ _
    rw [pc_N m hm]
    refine br_Eq (b := 1) (by have := pc_lt m hm; omega) (by decide) (fun c => ?_) (fun c => ?_)
    · exact zt k (by simp [c])
    · exact zf k (by simp [c])
theorem m_isSeenCase (H : G A S h0 X h) (M : MR X wd) {f : Nat} (hf : f < 120) (k : Q (bI (caseM wd N f).isSome) h) : w_X12_isSeenCase (A 12) (nI f) h Q := by
  dsimp only [w_X12_isSeenCase_22, w_X12_isSeenCase_21, w_X12_isSeenCase]
  (repeat' (first | with_reducible refine m_isKind H M (by omega) ?_ | with_reducible refine m_isSeen H M (by omega) ?_ | with_reducible refine bd_i ?_ | with_reducible refine fP H (by with_unfolding_all exact H.b) (by with_unfolding_all rfl) (by with_unfolding_all rfl) ?_ | with_reducible refine vG H (by with_unfolding_all exact H.b) (by with_unfolding_all rfl) ?_ | with_reducible refine aM H M rfl (by omega) ?_ | with_reducible refine aM H M (ix0 0) (by omega) ?_ | with_reducible refine aM H M (ix0 1) (by omega) ?_ | with_reducible refine aM H M (ix0 2) (by omega) ?_ | with_reducible refine aM H M (ix0 3) (by omega) ?_ | with_reducible refine aM H M (ix0 4) (by omega) ?_ | with_reducible refine aM H M (ix0 5) (by omega) ?_ | with_reducible refine aM H M (ix0 6) (by omega) ?_ | with_reducible refine aM H M (ix0 7) (by omega) ?_ | with_reducible refine aM H M (ix0 8) (by omega) ?_ | with_reducible refine aM H M (ix0 9) (by omega) ?_ | with_reducible refine aM H M (ix0 10) (by omega) ?_ | with_reducible refine aM H M (ix0 11) (by omega) ?_ | with_reducible refine aM H M (ix0 12) (by omega) ?_ | with_reducible refine aM H M (ix1 13 _) (by omega) ?_ | with_reducible refine aM H M (ix1 1161 _) (by omega) ?_ | with_reducible refine aM H M (ix2 269 4 _) (by omega) ?_ | with_reducible refine aM H M (ix4 269 4 _ 1) (by omega) ?_ | with_reducible refine aM H M (ix4 269 4 _ 2) (by omega) ?_ | with_reducible refine aM H M (ix4 269 4 _ 3) (by omega) ?_ | with_reducible refine fG H (by with_unfolding_all exact H.b) (by with_unfolding_all rfl) ?_ | with_reducible refine aG H (by with_unfolding_all exact H.b) (by with_unfolding_all rfl) (by decide) rfl (by omega) ?_ | (with_reducible refine br_bI (fun c => ?_) (fun c => ?_)) | (with_reducible refine br_if (fun c => ?_) (fun c => ?_))))
  all_goals (first | exact zt k (by first | (simp_all [caseM]; done) | grind [caseM]) | exact zf k (by first | (simp_all [caseM]; done) | grind [caseM]) | exact qt k (by first | (simp_all [caseM]; done) | grind [caseM]) | exact qf k (by first | (simp_all [caseM]; done) | grind [caseM]))
theorem caseM_k {f m : Nat} (h : caseM wd N f = some m) : wd (349 + 6 * f) = 0 ∧ sn wd f = true ∧ m = btN (wm wd (wd (352 + 6 * f))) (N 0) := by
  unfold caseM at h
  split at h
  · rename_i c
    cases h
    exact ⟨c.1, c.2, rfl⟩
  · cases h
theorem mb_M (O : Ok wd N) {f m : Nat} (h : caseM wd N f = some m) : mb wd N f = nI m := by
  obtain ⟨h1, h2, h3⟩ := caseM_k h
  rw [mb_N O h1, h3]
theorem m_sureOf (H : G A S h0 X h) (M : MR X wd) (O : Ok wd N) {f : Nat} (hf : f < 120) (k : Q (oI (sureG wd N f)) h) : w_X12_sureOf (A 12) (nI f) h Q := by
  dsimp only [w_X12_sureOf_34, w_X12_sureOf_17, w_X12_sureOf]
  (repeat (first | with_reducible refine m_isSeenCase (N := N) H M hf ?_ | with_reducible refine bd_i ?_ | with_reducible refine fP H (by with_unfolding_all exact H.b) (by with_unfolding_all rfl) (by with_unfolding_all rfl) ?_ | with_reducible refine vG H (by with_unfolding_all exact H.b) (by with_unfolding_all rfl) ?_ | with_reducible refine aM H M rfl (by omega) ?_ | with_reducible refine aM H M (ix0 0) (by omega) ?_ | with_reducible refine aM H M (ix0 1) (by omega) ?_ | with_reducible refine aM H M (ix0 2) (by omega) ?_ | with_reducible refine aM H M (ix0 3) (by omega) ?_ | with_reducible refine aM H M (ix0 4) (by omega) ?_ | with_reducible refine aM H M (ix0 5) (by omega) ?_ | with_reducible refine aM H M (ix0 6) (by omega) ?_ | with_reducible refine aM H M (ix0 7) (by omega) ?_ | with_reducible refine aM H M (ix0 8) (by omega) ?_ | with_reducible refine aM H M (ix0 9) (by omega) ?_ | with_reducible refine aM H M (ix0 10) (by omega) ?_ | with_reducible refine aM H M (ix0 11) (by omega) ?_ | with_reducible refine aM H M (ix0 12) (by omega) ?_ | with_reducible refine aM H M (ix1 13 _) (by omega) ?_ | with_reducible refine aM H M (ix1 1161 _) (by omega) ?_ | with_reducible refine aM H M (ix2 269 4 _) (by omega) ?_ | with_reducible refine aM H M (ix4 269 4 _ 1) (by omega) ?_ | with_reducible refine aM H M (ix4 269 4 _ 2) (by omega) ?_ | with_reducible refine aM H M (ix4 269 4 _ 3) (by omega) ?_ | with_reducible refine fG H (by with_unfolding_all exact H.b) (by with_unfolding_all rfl) ?_ | with_reducible refine aG H (by with_unfolding_all exact H.b) (by with_unfolding_all rfl) (by decide) rfl (by omega) ?_))
  unfold sureG at k
  cases e : caseM wd N f with
  | none =>
    rw [e] at k
    refine br_T rfl ?_
    refine bitCount ?_
    exact br_F (by decide) k
  | some m =>
    rw [e] at k
    have hm := caseM_256 O e
    refine br_F (show ¬ bI true = 0 by decide) ?_
    (repeat (first | with_reducible refine m_mayBe H M O hf ?_ | with_reducible refine bd_i ?_ | with_reducible refine fP H (by with_unfolding_all exact H.b) (by with_unfolding_all rfl) (by with_unfolding_all rfl) ?_ | with_reducible refine vG H (by with_unfolding_all exact H.b) (by with_unfolding_all rfl) ?_ | with_reducible refine aM H M rfl (by omega) ?_ | with_reducible refine aM H M (ix0 0) (by omega) ?_ | with_reducible refine aM H M (ix0 1) (by omega) ?_ | with_reducible refine aM H M (ix0 2) (by omega) ?_ | with_reducible refine aM H M (ix0 3) (by omega) ?_ | with_reducible refine aM H M (ix0 4) (by omega) ?_ | with_reducible refine aM H M (ix0 5) (by omega) ?_ | with_reducible refine aM H M (ix0 6) (by omega) ?_ | with_reducible refine aM H M (ix0 7) (by omega) ?_ | with_reducible refine aM H M (ix0 8) (by omega) ?_ | with_reducible refine aM H M (ix0 9) (by omega) ?_ | with_reducible refine aM H M (ix0 10) (by omega) ?_ | with_reducible refine aM H M (ix0 11) (by omega) ?_ | with_reducible refine aM H M (ix0 12) (by omega) ?_ | with_reducible refine aM H M (ix1 13 _) (by omega) ?_ | with_reducible refine aM H M (ix1 1161 _) (by omega) ?_ | with_reducible refine aM H M (ix2 269 4 _) (by omega) ?_ | with_reducible refine aM H M (ix4 269 4 _ 1) (by omega) ?_ | with_reducible refine aM H M (ix4 269 4 _ 2) (by omega) ?_ | with_reducible refine aM H M (ix4 269 4 _ 3) (by omega) ?_ | with_reducible refine fG H (by with_unfolding_all exact H.b) (by with_unfolding_all rfl) ?_ | with_reducible refine aG H (by with_unfolding_all exact H.b) (by with_unfolding_all rfl) (by decide) rfl (by omega) ?_))
    rw [mb_M O e]
    refine bitCount ?_
    rw [pc_N m hm]
    refine br_Eq (b := 1) (by have := pc_lt m hm; omega) (by decide) (fun c => ?_) (fun c => ?_)
    · obtain ⟨h1, h2⟩ := pc_1 m hm c
      dsimp only at k
      rw [if_pos c] at k
      rw [h1]
      exact ntz h2 k
    · dsimp only at k
      rw [if_neg c] at k
      exact k
end STUDY
