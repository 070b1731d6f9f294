/-! the reference's scanner -/
theorem sb8 : ∀ c, c < 256 → ((nI c).toInt8.toInt32).toInt = if c < 128 then (c : Int) else (c : Int) - 256 := by decide +kernel
theorem sb_eq {c : Nat} (h : c < 128) : (nI c).toInt8.toInt32 = nI c := by
  apply Int32.toInt_inj.mp
  rw [sb8 c (by omega), if_pos h, nI_toInt (by omega)]
/-- the tape that is read: n bytes -/
def MTp (X : Nat → Nat → Int32) (B : Nat → Nat) (n : Nat) : Prop := X 12 7 = nI n ∧ ∀ i, i < n → X 1304 i = (nI (B i)).toInt8.toInt32
def UB (X X' : Nat → Nat → Int32) : Prop := ∀ id n, ¬ (id = 12 ∧ (n = 6 ∨ n = 8)) → X' id n = X id n
theorem UB.rf (X : Nat → Nat → Int32) : UB X X := fun _ _ _ => rfl
theorem UB.tr {X X' X'' : Nat → Nat → Int32} (a : UB X X') (b : UB X' X'') : UB X X'' := fun id n h => (b id n h).trans (a id n h)
theorem UB.up {X X' : Nat → Nat → Int32} (a : UB X X') {k : Nat} (hk : k = 6 ∨ k = 8) (v : Int32) : UB X (up X' 12 k v) := fun id n h => by
  by_cases e : id = 12
  · subst e
    rw [up_n _ _ _ (fun z => h ⟨rfl, by rw [z]; exact hk⟩)]
    exact a 12 n h
  · rw [up_row _ _ _ e]
    exact a id n h
theorem MTp.ub {X X' : Nat → Nat → Int32} {B : Nat → Nat} {n : Nat} (M : MTp X B n) (u : UB X X') : MTp X' B n := ⟨by rw [u 12 7 (fun z => by omega)]; exact M.1, fun i hi => by rw [u 1304 i (fun z => absurd z.1 (by decide))]; exact M.2 i hi⟩
/-- before thing i -/
def PT (X : Nat → Nat → Int32) (B : Nat → Nat) (n i : Nat) : Prop := ∃ p, X 12 6 = nI p ∧ p ≤ n ∧ be B n 32 32 p = tkB B n i
/-- which word a text is -/
def txW (t : Nat) : Nat := [8, 25, 16, 17, 18, 19, 20, 21, 22, 23, 24, 9, 10, 11, 12, 13, 14, 15, 6, 7, 0, 1, 2, 3, 4, 5].getD (t - 8) 0
theorem txW_len : ∀ t, t < 34 → 8 ≤ t → (wds.getD (txW t) []).length = strL.getD t 0 ∧ txW t < 26 ∧ 1 ≤ strL.getD t 0 := by decide +kernel
theorem txW_at : ((List.range 34).all fun t => decide (t < 8) || (List.range (strL.getD t 0)).all fun j => decide ((wds.getD (txW t) []).getD j 0 = txB t j)) = true := by decide +kernel
theorem txW_b {t j : Nat} (h1 : t < 34) (h2 : 8 ≤ t) (hj : j < strL.getD t 0) : (wds.getD (txW t) []).getD j 0 = txB t j := by
  have a := List.all_eq_true.mp txW_at t (List.mem_range.mpr h1)
  rw [decide_eq_false (by omega), Bool.false_or] at a
  exact of_decide_eq_true (List.all_eq_true.mp a j (List.mem_range.mpr hj))
theorem mL_all {B : Nat → Nat} : ∀ {w : List Nat} {p : Nat}, mL B p w = true ↔ ∀ j, j < w.length → B (p + j) = w.getD j 0 := by
  intro w
  induction w with
  | nil => intro p; exact ⟨fun _ j hj => absurd hj (Nat.not_lt_zero _), fun _ => rfl⟩
  | cons c cs ih =>
    intro p
    show (decide (B p = c) && mL B (p + 1) cs) = true ↔ _
    rw [Bool.and_eq_true, decide_eq_true_iff, ih]
    constructor
    · rintro ⟨h1, h2⟩ j hj
      cases j with
      | zero => exact h1
      | succ j =>
        have := h2 j (by simpa using hj)
        rw [show p + (j + 1) = p + 1 + j by omega]
        simpa using this
    · intro h
      refine ⟨h 0 (by simp), fun j hj => ?_⟩
      have := h (j + 1) (by simpa using hj)
      rw [show p + 1 + j = p + (j + 1) by omega]
      simpa using this
section TKF
variable {B : Nat → Nat} {n : Nat}
theorem tk_nl (hn : n ≤ 400) {i : Nat} (h : inB B n 97 122 (tkB B n i) = false) : tkH B n i < 1000 ∨ 2000 ≤ tkH B n i := by
  unfold tkH
  split
  · unfold tkV
    rw [if_neg (by rw [h]; decide)]
    split
    · split <;> omega
    · split
      · rename_i e
        unfold sgn at e
        simp only [Bool.or_eq_true, decide_eq_true_eq] at e
        omega
      · omega
  · omega
theorem tk_word (hn : n ≤ 400) {i k : Nat} (hk : k < 26) (hw : 1 ≤ (wds.getD k []).length) : tkH B n i = 1000 + k ↔ mW B (tkB B n i) (be B n 97 122 (tkB B n i) - tkB B n i) (wds.getD k []) = true := by
  by_cases c : inB B n 97 122 (tkB B n i) = true
  · have hl := (inB_iff.mp c).1
    rw [← wI_iff hk, tkH_at hl]
    unfold tkV
    rw [if_pos c]
    cases e : wI B (tkB B n i) (be B n 97 122 (tkB B n i) - tkB B n i) wds 0 with
    | none => exact ⟨fun z => by dsimp only at z; omega, fun z => by cases z⟩
    | some r =>
      dsimp only
      exact ⟨fun z => congrArg some (by omega), fun z => by cases z; rfl⟩
  · rw [Bool.not_eq_true] at c
    have h1 := tk_nl hn c
    rw [be_stop hn c, Nat.sub_self]
    refine ⟨fun z => by omega, fun z => ?_⟩
    unfold mW at z
    rw [Bool.and_eq_true, decide_eq_true_iff] at z
    omega
theorem tk_sign (hn : n ≤ 400) {i c : Nat} (hc : sgn c = true) : inB B n c c (tkB B n i) = true ↔ tkH B n i = c := by
  have hc2 : c = 40 ∨ c = 41 ∨ c = 42 ∨ c = 43 ∨ c = 59 ∨ c = 60 ∨ c = 62 := by
    unfold sgn at hc
    simp only [Bool.or_eq_true, decide_eq_true_eq] at hc
    omega
  constructor
  · intro h
    obtain ⟨h1, h2, h3⟩ := inB_iff.mp h
    have e : B (tkB B n i) = c := by omega
    rw [tkH_at h1]
    unfold tkV
    rw [if_neg (fun z => by have := inB_iff.mp z; omega), if_neg (fun z => by have := inB_iff.mp z; omega), e, if_pos hc]
  · intro h
    by_cases l : tkB B n i < n
    · rw [tkH_at l] at h
      unfold tkV at h
      split at h
      · cases e : wI B (tkB B n i) (be B n 97 122 (tkB B n i) - tkB B n i) wds 0 with
        | none => rw [e] at h; dsimp only at h; omega
        | some r => rw [e] at h; dsimp only at h; omega
      · split at h
        · split at h <;> omega
        · split at h
          · rw [inB_iff]
            omega
          · omega
    · unfold tkH at h
      rw [if_neg l] at h
      omega
theorem tk_num (hn : n ≤ 400) {i : Nat} : 2000 ≤ tkH B n i ↔ (inB B n 48 57 (tkB B n i) = true ∧ be B n 48 57 (tkB B n i) - tkB B n i ≤ 3) := by
  constructor
  · intro h
    by_cases l : tkB B n i < n
    · rw [tkH_at l] at h
      unfold tkV at h
      split at h
      · cases e : wI B (tkB B n i) (be B n 97 122 (tkB B n i) - tkB B n i) wds 0 with
        | none => rw [e] at h; dsimp only at h; omega
        | some r => have := wI_lt e; rw [e] at h; dsimp only at h; omega
      · split at h
        · rename_i d
          split at h
          · rename_i e
            exact ⟨d, e⟩
          · omega
        · split at h
          · rename_i e
            unfold sgn at e
            simp only [Bool.or_eq_true, decide_eq_true_eq] at e
            omega
          · omega
    · unfold tkH at h
      rw [if_neg l] at h
      omega
  · rintro ⟨h1, h2⟩
    have l := inB_iff.mp h1
    rw [tkH_at l.1]
    unfold tkV
    rw [if_neg (fun z => by have := inB_iff.mp z; omega), if_pos h1, if_pos h2]
    omega
theorem tk_nval (hn : n ≤ 400) {i : Nat} (h : 2000 ≤ tkH B n i) : tkH B n i = 2000 + nVal B (tkB B n i) (be B n 48 57 (tkB B n i) - tkB B n i) ∧ tkE B n (tkB B n i) = be B n 48 57 (tkB B n i) := by
  obtain ⟨h1, h2⟩ := (tk_num hn).mp h
  have l := inB_iff.mp h1
  rw [tkH_at l.1]
  unfold tkV tkE
  rw [if_neg (fun z => by have := inB_iff.mp z; omega), if_pos h1, if_pos h2, if_neg (fun z => by have := inB_iff.mp z; omega), if_pos h1]
  exact ⟨rfl, rfl⟩
theorem tkB_next {i : Nat} (h : tkB B n i < n) : tkB B n (i + 1) = be B n 32 32 (tkE B n (tkB B n i)) := by
  simp only [tkB]
  rw [if_pos h]
end TKF
section SCAN
variable {A : Nat → Nat} {S : Nat → Prop} {h0 h : AH} {X : Nat → Nat → Int32} {Q : Int32 → AH → Prop} {Qv : AH → Prop} {B : Nat → Nat} {n i : Nat}
theorem m_isAt (H : G A S h0 X h) (M : MTp X B n) (hn : n ≤ 400) (hB : ∀ i, i < n → B i < 256) {p lo hi : Nat} (hp : X 12 6 = nI p) (hpn : p ≤ n) (hl : 0 < lo) (hh : hi < 128) (hlh : lo ≤ hi) (k : Q (bI (inB B n lo hi p)) h) : w_X12_isAt (A 12) (nI lo) (nI hi) h Q := by
  dsimp only [w_X12_isAt, w_X12_isAt_41, w_X12_isAt_42]
  have no : ¬ inB B n lo hi p = true → z1 0 (Q 0 h) := fun z => zf k (by simpa using z)
  refine fG (o := 12) H H.b rfl ?_
  refine fG (o := 12) H H.b rfl ?_
  rw [hp, M.1]
  refine br_Le (by omega) (by omega) (fun c => no (fun z => by have := (inB_iff.mp z).1; omega)) (fun c => ?_)
  have hb := hB p c
  have e8 := sb8 (B p) hb
  refine fP (o := 12) H H.b rfl rfl ?_
  refine fG (o := 12) H H.b rfl ?_
  rw [hp]
  refine aBG (id := 1304) H H.b rfl (by decide) rfl (by omega) ?_
  rw [M.2 p c]
  refine br_if (fun d => no (fun z => ?_)) (fun d => ?_)
  · rw [Int32.lt_iff_toInt_lt, e8, nI_toInt (by omega)] at d
    have := inB_iff.mp z
    split at d <;> omega
  · rw [Int32.lt_iff_toInt_lt, e8, nI_toInt (by omega)] at d
    refine fP (o := 12) H H.b rfl rfl ?_
    refine fG (o := 12) H H.b rfl ?_
    rw [hp]
    refine aBG (id := 1304) H H.b rfl (by decide) rfl (by omega) ?_
    rw [M.2 p c]
    refine br_if (fun d2 => no (fun z => ?_)) (fun d2 => zt k ?_)
    · rw [Int32.lt_iff_toInt_lt, e8, nI_toInt (by omega)] at d2
      have := inB_iff.mp z
      split at d2 <;> omega
    · rw [Int32.lt_iff_toInt_lt, e8, nI_toInt (by omega)] at d2
      rw [inB_iff]
      split at d2
      · rename_i e
        rw [if_pos e] at d
        exact ⟨c, by omega, by omega⟩
      · rename_i e
        rw [if_neg e] at d
        omega
theorem m_blanks (H : G A S h0 X h) (M : MTp X B n) (hn : n ≤ 400) (hB : ∀ i, i < n → B i < 256) (P : PT X B n i) (k : ∀ X' h', G A S h0 X' h' → UB X X' → X' 12 6 = nI (tkB B n i) → X' 12 8 = nI (tkB B n i) → Qv h') : w_X12_blanks (A 12) h Qv := by
  obtain ⟨p, p1, p2, p3⟩ := P
  dsimp only [w_X12_blanks]
  refine lp_ind (fun m (s : AH) => ∃ q X', n ≤ q + m ∧ q ≤ n ∧ be B n 32 32 q = tkB B n i ∧ G A S h0 X' s ∧ UB X X' ∧ X' 12 6 = nI q) (fun m s kk hI kn => ?_) n h ⟨p, X, by omega, p2, p3, H, UB.rf _, p1⟩
  obtain ⟨q, X2, q1, q2, q3, H2, u2, q4⟩ := hI
  dsimp only [w_X12_blanks_0, w_X12_blanks_24]
  refine vG (o := 12) H2 H2.b rfl ?_
  refine m_isAt (lo := 32) (hi := 32) H2 (M.ub u2) hn hB q4 q2 (by decide) (by decide) (by decide) ?_
  refine br_bI (fun d => ?_) (fun d => ?_)
  · have hq := (inB_iff.mp d).1
    refine fG (o := 12) H2 H2.b rfl ?_
    rw [q4, ← nI_succ]
    refine uG (o := 12) H2 H2.b rfl (fun h3 H3 => ?_)
    exact kn (m - 1) h3 (by omega) ⟨q + 1, _, by omega, by omega, (be_step hn d).trans q3, H3, u2.up (Or.inl rfl) _, up_same _ _ _ _⟩
  · rw [Bool.not_eq_true] at d
    have e := (be_stop hn d).symm.trans q3
    refine fG (o := 12) H2 H2.b rfl ?_
    refine uG (o := 12) H2 H2.b rfl (fun h3 H3 => ?_)
    rw [e] at q4
    exact k _ h3 H3 (u2.up (Or.inr rfl) _) (by rw [up_n _ _ _ (by decide)]; exact q4) (by rw [up_same]; exact q4)
theorem m_letters (H : G A S h0 X h) (M : MTp X B n) (hn : n ≤ 400) (hB : ∀ i, i < n → B i < 256) (P : PT X B n i) (k : ∀ X' h', G A S h0 X' h' → UB X X' → X' 12 6 = nI (be B n 97 122 (tkB B n i)) → X' 12 8 = nI (tkB B n i) → Qv h') : w_X12_letters (A 12) h Qv := by
  have hle := tkB_le (B := B) hn i
  dsimp only [w_X12_letters]
  refine vG (o := 12) H H.b rfl ?_
  refine m_blanks H M hn hB P (fun X1 h1 H1 u1 a1 b1 => ?_)
  refine lp_ind (fun m (s : AH) => ∃ q X', n ≤ q + m ∧ q ≤ n ∧ be B n 97 122 q = be B n 97 122 (tkB B n i) ∧ G A S h0 X' s ∧ UB X X' ∧ X' 12 6 = nI q ∧ X' 12 8 = nI (tkB B n i)) (fun m s kk hI kn => ?_) n h1 ⟨_, X1, by omega, hle, rfl, H1, u1, a1, b1⟩
  obtain ⟨q, X2, q1, q2, q3, H2, u2, q4, q5⟩ := hI
  dsimp only [w_X12_letters_4, w_X12_letters_28]
  refine vG (o := 12) H2 H2.b rfl ?_
  refine m_isAt (lo := 97) (hi := 122) H2 (M.ub u2) hn hB q4 q2 (by decide) (by decide) (by decide) ?_
  refine br_bI (fun d => ?_) (fun d => ?_)
  · have hq := (inB_iff.mp d).1
    refine fG (o := 12) H2 H2.b rfl ?_
    rw [q4, ← nI_succ]
    refine uG (o := 12) H2 H2.b rfl (fun h3 H3 => ?_)
    exact kn (m - 1) h3 (by omega) ⟨q + 1, _, by omega, by omega, (be_step hn d).trans q3, H3, u2.up (Or.inl rfl) _, up_same _ _ _ _, by rw [up_n _ _ _ (by decide)]; exact q5⟩
  · rw [Bool.not_eq_true] at d
    have e := (be_stop hn d).symm.trans q3
    rw [e] at q4
    exact k _ _ H2 u2 q4 q5
theorem m_isWord (H : G A S h0 X h) (M : MTp X B n) (hn : n ≤ 400) (hB : ∀ i, i < n → B i < 256) (h6 : X 12 6 = nI (be B n 97 122 (tkB B n i))) (h8 : X 12 8 = nI (tkB B n i)) {a t : Nat} (ha : gS h a = some t) (ht : t < 34) (h28 : 8 ≤ t) (k : Q (bI (decide (tkH B n i = 1000 + txW t))) h) : w_X12_isWord (A 12) a h Q := by
  obtain ⟨w1, w2, w3⟩ := txW_len t ht h28
  have hlt := strL_lt t ht
  have hle := tkB_le (B := B) hn i
  obtain ⟨b1, b2, b3, b4⟩ := be_spec (B := B) (lo := 97) (hi := 122) hn (tkB B n i)
  have hw := tk_word (B := B) hn (i := i) w2 (by rw [w1]; exact w3)
  have b5 := b4 hle
  dsimp only [w_X12_isWord, w_X12_isWord_21]
  refine fG (o := 12) H H.b rfl ?_
  refine fG (o := 12) H H.b rfl ?_
  rw [h6, h8, pk_sub b1]
  generalize tkB B n i = b at *
  generalize be B n 97 122 b = e at *
  refine ⟨⟨t, ha⟩, J_len ha ?_⟩
  have no : ¬ tkH B n i = 1000 + txW t → Q 0 h := fun z => by
    rw [decide_eq_false z] at k
    exact k
  have yes : tkH B n i = 1000 + txW t → Q 1 h := fun z => by
    rw [decide_eq_true z] at k
    exact k
  unfold mW at hw
  rw [Bool.and_eq_true, decide_eq_true_iff, w1, mL_all, w1] at hw
  refine br_Eq (a := e - b) (b := strL.getD t 0) (by omega) (by omega) (fun c => ?_) (fun c => ?_)
  · refine lp_inv (strL.getD t 0 + 1) (fun j (s : Int32 × Int32 × AH) => (s = (1, nI j, h) ∧ j ≤ strL.getD t 0 ∧ ∀ m, m < j → B (b + m) = txB t m) ∨ (s = (0, nI j, h) ∧ ¬ tkH B n i = 1000 + txW t)) (fun j s kk hj hI kn => ?_) (fun s kk hI => ?_) (Nat.zero_le _) (Or.inl ⟨rfl, Nat.zero_le _, fun m hm => absurd hm (Nat.not_lt_zero _)⟩)
    · rcases hI with ⟨rfl, i1, i2⟩ | ⟨rfl, i1⟩
      · dsimp only [w_X12_isWord_24, w_X12_isWord_60, w_X12_isWord_67]
        refine br_F (by decide) ⟨⟨t, ha⟩, J_len ha (br_Le (by omega) (by omega) (fun d => ?_) (fun d => ?_))⟩
        · refine ⟨Or.inr rfl, yes (hw.mpr ⟨c, fun m hm => ?_⟩)⟩
          rw [txW_b ht h28 hm]
          exact i2 m (by omega)
        · have htx := txB_at ht d
          have hbb := hB (b + j) (by omega)
          refine fP (o := 12) H H.b rfl rfl ?_
          refine fG (o := 12) H H.b rfl ?_
          rw [h8, nI_add]
          refine aBG (id := 1304) H H.b rfl (by decide) rfl (by omega) ?_
          rw [M.2 _ (by omega)]
          refine ⟨⟨t, ha⟩, J_chr ha ht d ?_⟩
          rw [← nI_succ]
          have key : (nI (B (b + j))).toInt8.toInt32 = nI (txB t j) ↔ B (b + j) = txB t j := by
            constructor
            · intro z
              have z2 := congrArg Int32.toInt z
              rw [sb8 _ hbb, nI_toInt (by omega)] at z2
              split at z2 <;> omega
            · intro z
              rw [z]
              exact sb_eq htx.2
          refine br_if (fun d2 => ?_) (fun d2 => ?_)
          · refine kn _ (Or.inl ⟨rfl, d, fun m hm => ?_⟩)
            by_cases e2 : m = j
            · rw [e2]
              exact key.mp d2
            · exact i2 m (by omega)
          · refine kn _ (Or.inr ⟨rfl, fun z => d2 (key.mpr ?_)⟩)
            have := (hw.mp z).2 j d
            rw [txW_b ht h28 d] at this
            exact this
      · dsimp only [w_X12_isWord_24, w_X12_isWord_67]
        exact br_T rfl ⟨Or.inl rfl, no i1⟩
    · rcases hI with ⟨rfl, i1, i2⟩ | ⟨rfl, i1⟩
      · omega
      · dsimp only [w_X12_isWord_24, w_X12_isWord_67]
        exact br_T rfl ⟨Or.inl rfl, no i1⟩
  · refine lp_inv 0 (fun _ (s : Int32 × Int32 × AH) => s = (0, 0, h)) (fun j s kk hj hI kn => absurd hj (Nat.not_lt_zero _)) (fun s kk hI => ?_) (Nat.le_refl _) rfl
    subst hI
    dsimp only [w_X12_isWord_24, w_X12_isWord_67]
    exact br_T rfl ⟨Or.inl rfl, no (fun z => c (hw.mp z).1)⟩
/-- in the middle of a word: the thing is over -/
theorem PT.word (hn : n ≤ 400) (h6 : X 12 6 = nI (be B n 97 122 (tkB B n i))) (hi : 1000 ≤ tkH B n i) (hi2 : tkH B n i < 2000) : PT X B n (i + 1) := by
  have hle := tkB_le (B := B) hn i
  obtain ⟨b1, b2, b3, b4⟩ := be_spec (B := B) (lo := 97) (hi := 122) hn (tkB B n i)
  have c : inB B n 97 122 (tkB B n i) = true := by
    cases d : inB B n 97 122 (tkB B n i) with
    | true => rfl
    | false =>
      have := tk_nl hn d
      omega
  refine ⟨_, h6, b4 hle, ?_⟩
  rw [tkB_next (inB_iff.mp c).1]
  unfold tkE
  rw [if_pos c]
theorem PT.at (hn : n ≤ 400) (h6 : X 12 6 = nI (tkB B n i)) : PT X B n i := ⟨_, h6, tkB_le hn i, be_stop hn (tkB_nb hn i)⟩
theorem m_passes (H : G A S h0 X h) (M : MTp X B n) (hn : n ≤ 400) (hB : ∀ i, i < n → B i < 256) (P : PT X B n i) {a t : Nat} (ha : gS h a = some t) (ht : t < 34) (h28 : 8 ≤ t) (k1 : tkH B n i = 1000 + txW t → ∀ X' h', G A S h0 X' h' → UB X X' → PT X' B n (i + 1) → X' 12 8 = nI (tkB B n i) → Q 1 h') (k2 : ¬ tkH B n i = 1000 + txW t → ∀ X' h', G A S h0 X' h' → UB X X' → PT X' B n i → X' 12 8 = nI (tkB B n i) → Q 0 h') : w_X12_passes (A 12) a h Q := by
  obtain ⟨w1, w2, w3⟩ := txW_len t ht h28
  dsimp only [w_X12_passes]
  refine vG (o := 12) H H.b rfl ?_
  refine m_letters H M hn hB P (fun X1 h1 H1 u1 a1 b1 => ?_)
  refine vG (o := 12) H1 H1.b rfl ?_
  have e1 : gS h1 = gS h := by
    have e2 := congrArg (fun x => x.2.1) H1.2.2.2.2.1
    have e3 := congrArg (fun x => x.2.1) H.2.2.2.2.1
    exact e2.trans e3.symm
  refine m_isWord H1 (M.ub u1) hn hB a1 b1 (by rw [e1]; exact ha) ht h28 ?_
  refine br_bI (fun d => ?_) (fun d => ?_)
  · rw [decide_eq_true_iff] at d
    exact k1 d X1 h1 H1 u1 (PT.word hn a1 (by omega) (by omega)) b1
  · rw [decide_eq_true_iff] at d
    refine fG (o := 12) H1 H1.b rfl ?_
    rw [b1]
    refine uG (o := 12) H1 H1.b rfl (fun h2 H2 => ?_)
    exact k2 d _ h2 H2 (u1.up (Or.inl rfl) _) (PT.at hn (up_same _ _ _ _)) (by rw [up_n _ _ _ (by decide)]; exact b1)
theorem m_sign (H : G A S h0 X h) (M : MTp X B n) (hn : n ≤ 400) (hB : ∀ i, i < n → B i < 256) (P : PT X B n i) {c : Nat} (hc : sgn c = true) (k1 : tkH B n i = c → ∀ X' h', G A S h0 X' h' → UB X X' → PT X' B n (i + 1) → X' 12 8 = nI (tkB B n i) → Q 1 h') (k2 : ¬ tkH B n i = c → ∀ X' h', G A S h0 X' h' → UB X X' → PT X' B n i → X' 12 8 = nI (tkB B n i) → Q 0 h') : w_X12_sign (A 12) (nI c) h Q := by
  have hc2 : c = 40 ∨ c = 41 ∨ c = 42 ∨ c = 43 ∨ c = 59 ∨ c = 60 ∨ c = 62 := by
    unfold sgn at hc
    simp only [Bool.or_eq_true, decide_eq_true_eq] at hc
    omega
  have hle := tkB_le (B := B) hn i
  dsimp only [w_X12_sign]
  refine vG (o := 12) H H.b rfl ?_
  refine m_blanks H M hn hB P (fun X1 h1 H1 u1 a1 b1 => ?_)
  refine vG (o := 12) H1 H1.b rfl ?_
  refine m_isAt (lo := c) (hi := c) H1 (M.ub u1) hn hB a1 hle (by omega) (by omega) (Nat.le_refl _) ?_
  refine br_bI (fun d => ?_) (fun d => ?_)
  · have e := (tk_sign hn hc).mp d
    have l := inB_iff.mp d
    refine fG (o := 12) H1 H1.b rfl ?_
    rw [a1, ← nI_succ]
    refine uG (o := 12) H1 H1.b rfl (fun h2 H2 => ?_)
    refine k1 e _ h2 H2 (u1.up (Or.inl rfl) _) ⟨_, up_same _ _ _ _, by omega, ?_⟩ (by rw [up_n _ _ _ (by decide)]; exact b1)
    rw [tkB_next l.1]
    unfold tkE
    rw [if_neg (fun z => by have := inB_iff.mp z; omega), if_neg (fun z => by have := inB_iff.mp z; omega)]
  · exact k2 (fun z => d ((tk_sign hn hc).mpr z)) X1 h1 H1 u1 (PT.at hn a1) b1
theorem m_number (H : G A S h0 X h) (M : MTp X B n) (hn : n ≤ 400) (hB : ∀ i, i < n → B i < 256) (P : PT X B n i) (k1 : 2000 ≤ tkH B n i → ∀ X' h', G A S h0 X' h' → UB X X' → PT X' B n (i + 1) → X' 12 8 = nI (tkB B n i) → Q (nI (tkH B n i - 2000)) h') (k2 : ¬ 2000 ≤ tkH B n i → ∀ X' h', G A S h0 X' h' → UB X X' → X' 12 8 = nI (tkB B n i) → Q (-1) h') : w_X12_number (A 12) h Q := by
  have hle := tkB_le (B := B) hn i
  obtain ⟨b1, b2, b3, b4⟩ := be_spec (B := B) (lo := 48) (hi := 57) hn (tkB B n i)
  have b5 := b4 hle
  dsimp only [w_X12_number]
  refine vG (o := 12) H H.b rfl ?_
  refine m_blanks H M hn hB P (fun X1 h1 H1 u1 a1 a8 => ?_)
  refine lp_ind (fun m (s : Int32 × AH) => ∃ j X', be B n 48 57 (tkB B n i) = tkB B n i + j + m ∧ s.1 = nI (nVal B (tkB B n i) (min j 3)) ∧ G A S h0 X' s.2 ∧ UB X X' ∧ X' 12 6 = nI (tkB B n i + j) ∧ X' 12 8 = nI (tkB B n i)) (fun m s kk hI kn => ?_) (be B n 48 57 (tkB B n i) - tkB B n i) _ ⟨0, X1, by omega, rfl, H1, u1, a1, a8⟩
  obtain ⟨v, h2⟩ := s
  obtain ⟨j, X2, q1, q2, H2, u2, q4, q5⟩ := hI
  dsimp only at q2 H2 ⊢
  subst q2
  dsimp only [w_X12_number_6, w_X12_number_51]
  refine vG (o := 12) H2 H2.b rfl ?_
  refine m_isAt (lo := 48) (hi := 57) H2 (M.ub u2) hn hB q4 (by omega) (by decide) (by decide) (by decide) ?_
  by_cases hm : m = 0
  · have hj : tkB B n i + j = be B n 48 57 (tkB B n i) := by omega
    rw [hj, b3]
    refine br_T rfl ?_
    dsimp only [w_X12_number_65, w_X12_number_89, w_X12_number_94]
    refine fG (o := 12) H2 H2.b rfl ?_
    refine fG (o := 12) H2 H2.b rfl ?_
    rw [q4, q5]
    refine br_Eq (by omega) (by omega) (fun d => ?_) (fun d => ?_)
    · refine k2 (fun z => ?_) X2 h2 H2 u2 q5
      have := ((tk_num hn).mp z).1
      rw [show be B n 48 57 (tkB B n i) = tkB B n i by omega] at b3
      rw [b3] at this
      cases this
    · refine fG (o := 12) H2 H2.b rfl ?_
      refine fG (o := 12) H2 H2.b rfl ?_
      rw [q4, q5, pk_sub (by omega)]
      refine br_Le (b := 3) (by omega) (by decide) (fun d2 => ?_) (fun d2 => ?_)
      · have hd : inB B n 48 57 (tkB B n i) = true := b2 _ (Nat.le_refl _) (by omega)
        have h2k : 2000 ≤ tkH B n i := (tk_num hn).mpr ⟨hd, by omega⟩
        obtain ⟨n1, n2⟩ := tk_nval hn h2k
        have y := k1 h2k X2 h2 H2 u2 ⟨_, q4, by omega, by rw [hj, tkB_next (inB_iff.mp hd).1, n2]⟩ q5
        have e : tkH B n i - 2000 = nVal B (tkB B n i) (min j 3) := by
          rw [n1, show be B n 48 57 (tkB B n i) - tkB B n i = j by omega, show min j 3 = j by omega]
          omega
        rw [e] at y
        exact y
      · refine k2 (fun z => ?_) X2 h2 H2 u2 q5
        have := ((tk_num hn).mp z).2
        omega
  · have hd : inB B n 48 57 (tkB B n i + j) = true := b2 _ (by omega) (by omega)
    have l := inB_iff.mp hd
    rw [hd]
    refine br_F (by decide) ?_
    refine fG (o := 12) H2 H2.b rfl ?_
    refine fG (o := 12) H2 H2.b rfl ?_
    rw [q4, q5, pk_sub (by omega), show tkB B n i + j - tkB B n i = j by omega]
    have go : ∀ v, v = nI (nVal B (tkB B n i) (min (j + 1) 3)) → fI h2 (A 12) 12 6 fun x1 => uI h2 (A 12) 12 6 (x1 + 1) fun h => kk (v, h) := by
      intro v hv
      refine fG (o := 12) H2 H2.b rfl ?_
      rw [q4, ← nI_succ]
      refine uG (o := 12) H2 H2.b rfl (fun h3 H3 => ?_)
      exact kn (m - 1) _ (by omega) ⟨j + 1, _, by omega, hv, H3, u2.up (Or.inl rfl) _, up_same _ _ _ _, by rw [up_n _ _ _ (by decide)]; exact q5⟩
    refine br_Le (a := 3) (by decide) (by omega) (fun d => ?_) (fun d => ?_)
    · exact go _ (by rw [show min j 3 = min (j + 1) 3 by omega])
    · refine fP (o := 12) H2 H2.b rfl rfl ?_
      refine fG (o := 12) H2 H2.b rfl ?_
      rw [q4]
      refine aBG (id := 1304) H2 H2.b rfl (by decide) rfl (by omega) ?_
      rw [(M.ub u2).2 _ l.1, sb_eq (by omega), show (10 : Int32) = nI 10 from rfl, pk_mul, nI_add, show (48 : Int32) = nI 48 from rfl, pk_sub (by omega)]
      refine go _ ?_
      rw [show min j 3 = j by omega, show min (j + 1) 3 = j + 1 by omega]
      congr 1
      simp only [nVal]
      omega
end SCAN
