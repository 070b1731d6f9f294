/-! the tape: feed, end, fault -/
theorem to8 (y : Int32) : y.toInt8 = (nI (y.toBitVec.toNat % 256)).toInt8 := by
  apply Int8.toBitVec_inj.mp
  show (y.toBitVec.signExtend 8) = ((BitVec.ofNat 32 (y.toBitVec.toNat % 256)).signExtend 8)
  rw [BitVec.signExtend_eq_setWidth_of_le _ (by decide), BitVec.signExtend_eq_setWidth_of_le _ (by decide)]
  apply BitVec.eq_of_toNat_eq
  rw [BitVec.toNat_setWidth, BitVec.toNat_setWidth, BitVec.toNat_ofNat]
  omega
theorem to8_2 (y : Int32) : y.toInt8.toInt32.toInt8 = y.toInt8 := by simp
/-- byte r of a number, the highest first -/
def nb (v : Int32) (r : Nat) : Nat := (v >>> (nI (24 - 8 * r) &&& 31)).toBitVec.toNat % 256
theorem nb_lt {v : Int32} {r : Nat} : nb v r < 256 := Nat.mod_lt _ (by decide)
theorem nb_and {v : Int32} {r : Nat} : (v >>> (nI (24 - 8 * r) &&& 31)) &&& 255 = nI (nb v r) := pk_and _ 8 (by decide)
def tpA (tp : Nat → Nat) (T : Nat) (f : Nat → Nat) (j i : Nat) : Nat := if T ≤ i ∧ i < T + j then f (i - T) else tp i
def TC (X : Nat → Nat → Int32) (tp : Nat → Nat) (T : Nat) : Prop := X 6 1 = nI T ∧ ∀ i, i < T → X 700 i = nI (tp i)
def TM (X : Nat → Nat → Int32) (tp : Nat → Nat) (T : Nat) : Prop := X 12 5 = nI T ∧ ∀ i, i < T → X 1304 i = (nI (tp i)).toInt8.toInt32
/-- only the class's tape has changed -/
def TF (X X' : Nat → Nat → Int32) : Prop := ∀ id n, id ≠ 700 → ¬ (id = 6 ∧ n = 1) → X' id n = X id n
theorem TF.rf (X : Nat → Nat → Int32) : TF X X := fun _ _ _ _ => rfl
theorem TF.tr {X X' X'' : Nat → Nat → Int32} (a : TF X X') (b : TF X' X'') : TF X X'' := fun id n h g => (b id n h g).trans (a id n h g)
theorem tpA_0 {tp : Nat → Nat} {T : Nat} {f : Nat → Nat} : tpA tp T f 0 = tp := by
  funext i
  unfold tpA
  rw [if_neg (by omega)]
section TAPE
variable {A : Nat → Nat} {S : Nat → Prop} {h0 h : AH} {X : Nat → Nat → Int32} {wd : Nat → Int32} {N : Nat → Nat} {Q : Int32 → AH → Prop} {Qv : AH → Prop} {a3 : Nat}
theorem sh8 : ∀ j, j < 4 → nI (32 - 8 * j) + (-8) = nI (24 - 8 * j) ∧ ¬ nI (24 - 8 * j) < 0 ∧ nI (24 - 8 * j) + (-8) = nI (32 - 8 * (j + 1)) + (-8) := by decide +kernel
theorem c_addNumber (H : G A S h0 X h) {tp : Nat → Nat} {T : Nat} (C : TC X tp T) (hT : T + 4 ≤ 400) {v : Int32} (k : ∀ X' h', G A S h0 X' h' → TF X X' → TC X' (tpA tp T (nb v) 4) (T + 4) → Qv h') : w_X6_addNumber (A 6) v h Qv := by
  refine lp_inv 4 (fun j (s : Int32 × AH) => s.1 = nI (32 - 8 * j) + (-8) ∧ ∃ X', G A S h0 X' s.2 ∧ TF X X' ∧ TC X' (tpA tp T (nb v) j) (T + j)) (fun j s kk1 hj hI kk => ?_) (fun s kk1 hI => ?_) (Nat.zero_le _) ⟨show (24 : Int32) = nI 32 + (-8) by decide, X, H, TF.rf _, by rw [tpA_0]; exact C⟩
  · obtain ⟨w, h1⟩ := s
    obtain ⟨e1, X1, H1, f1, c1, c2⟩ := hI
    dsimp only at e1 H1 ⊢
    obtain ⟨q1, q2, q3⟩ := sh8 j hj
    rw [q1] at e1
    subst e1
    dsimp only [w_X6_addNumber_3]
    refine br_F q2 ?_
    refine fP (o := 6) H1 H1.b rfl rfl ?_
    refine fG (o := 6) H1 H1.b rfl ?_
    rw [c1, nb_and]
    refine tG (id := 700) H1 H1.b rfl (by decide) rfl (by omega) (fun h2 H2 => ?_)
    refine fG (o := 6) H2 H2.b rfl ?_
    refine uG (o := 6) H2 H2.b rfl (fun h3 H3 => ?_)
    rw [up_row _ _ _ (show (6 : Nat) ≠ 700 by decide), c1] at H3
    refine kk _ ⟨q3, _, H3, fun id n hid hn => ?_, ?_, fun i hi => ?_⟩
    · by_cases e : id = 6
      · subst e
        rw [up_n _ _ _ (fun z => hn ⟨rfl, z⟩), up_row _ _ _ (by decide)]
        exact f1 _ _ hid hn
      · rw [up_row _ _ _ e, up_row _ _ _ hid]
        exact f1 _ _ hid hn
    · rw [up_same, nI_1]
      rfl
    · rw [up_row _ _ _ (show (700 : Nat) ≠ 6 by decide)]
      unfold tpA
      by_cases e : i = T + j
      · subst e
        rw [up_same, if_pos (by omega), show T + j - T = j by omega]
      · rw [up_n _ _ _ e, c2 i (by omega)]
        unfold tpA
        by_cases d : T ≤ i
        · rw [if_pos (by omega), if_pos (by omega)]
        · rw [if_neg (by omega), if_neg (by omega)]
  · obtain ⟨w, h1⟩ := s
    obtain ⟨e1, X1, H1, f1, c1⟩ := hI
    dsimp only at e1 H1 ⊢
    subst e1
    dsimp only [w_X6_addNumber_3, w_X6_addNumber_39]
    exact br_T (by decide) (k X1 h1 H1 f1 c1)
def fb (a b c d e : Int32) (k : Nat) : Nat := nb (if k / 4 = 0 then a else if k / 4 = 1 then b else if k / 4 = 2 then c else if k / 4 = 3 then d else e) (k % 4)
theorem fb_lt {a b c d e : Int32} {k : Nat} : fb a b c d e k < 256 := nb_lt
def fdT (T : Nat) : Nat := if T + 20 ≤ 400 then T + 20 else T
def fdP (tp : Nat → Nat) (T : Nat) (a b c d e : Int32) : Nat → Nat := if T + 20 ≤ 400 then tpA tp T (fb a b c d e) 20 else tp
def fdV (T : Nat) : Int32 := if T + 20 ≤ 400 then nI (T + 20) else -1
theorem fd5 {tp : Nat → Nat} {T : Nat} {a b c d e : Int32} : tpA (tpA (tpA (tpA (tpA tp T (nb a) 4) (T + 4) (nb b) 4) (T + 8) (nb c) 4) (T + 12) (nb d) 4) (T + 16) (nb e) 4 = tpA tp T (fb a b c d e) 20 := by
  funext i
  unfold tpA fb
  by_cases h : T ≤ i ∧ i < T + 20
  · obtain ⟨h1, h2⟩ := h
    obtain ⟨k, rfl⟩ : ∃ k, i = T + k := ⟨i - T, by omega⟩
    have hk : k < 20 := by omega
    rw [if_pos (show T ≤ T + k ∧ T + k < T + 20 by omega), show T + k - T = k by omega]
    by_cases e4 : 16 ≤ k
    · rw [if_pos (by omega), if_neg (by omega), if_neg (by omega), if_neg (by omega), if_neg (by omega), show T + k - (T + 16) = k % 4 by omega]
    · rw [if_neg (by omega)]
      by_cases e3 : 12 ≤ k
      · rw [if_pos (by omega), if_neg (by omega), if_neg (by omega), if_neg (by omega), if_pos (by omega), show T + k - (T + 12) = k % 4 by omega]
      · rw [if_neg (by omega)]
        by_cases e2 : 8 ≤ k
        · rw [if_pos (by omega), if_neg (by omega), if_neg (by omega), if_pos (by omega), show T + k - (T + 8) = k % 4 by omega]
        · rw [if_neg (by omega)]
          by_cases e1 : 4 ≤ k
          · rw [if_pos (by omega), if_neg (by omega), if_pos (by omega), show T + k - (T + 4) = k % 4 by omega]
          · rw [if_neg (by omega), if_pos (by omega), if_pos (by omega), show k = k % 4 by omega]
            rw [Nat.mod_mod]
  · rw [if_neg (by omega), if_neg (by omega), if_neg (by omega), if_neg (by omega), if_neg (by omega), if_neg (by omega)]
theorem c_feed (H : G A S h0 X h) {tp : Nat → Nat} {T : Nat} (C : TC X tp T) (hT : T ≤ 400) {a b c d e : Int32} (k : ∀ X' h', G A S h0 X' h' → TF X X' → TC X' (fdP tp T a b c d e) (fdT T) → Q (fdV T) h') : w_X11_feed (A 11) a b c d e h Q := by
  have R : True := trivial
  unfold w_X11_feed
  refine fP (o := 11) H H.b rfl rfl ?_
  refine vG (o := 6) H H.b rfl ?_
  dsimp only [w_X6_hasRoom_18, w_X6_hasRoom]
  refine fG (o := 6) H H.b rfl ?_
  rw [C.1, ix0 20, nI_add]
  refine br_Lt (a := 400) (by decide) (by omega) (fun c1 => ?_) (fun c1 => ?_)
  · rw [fdV, fdP, fdT, if_neg (by omega), if_neg (by omega), if_neg (by omega)] at k
    exact ⟨Or.inl rfl, br_T rfl (k X h H (TF.rf _) C)⟩
  · rw [fdV, fdP, fdT, if_pos (by omega), if_pos (by omega), if_pos (by omega)] at k
    refine ⟨Or.inr rfl, br_F (by decide) ?_⟩
    refine fP (o := 11) H H.b rfl rfl ?_
    refine vG (o := 6) H H.b rfl ?_
    refine c_addNumber H C (by omega) (fun X1 h1 H1 f1 C1 => ?_)
    refine fP (o := 11) H1 H1.b rfl rfl ?_
    refine vG (o := 6) H1 H1.b rfl ?_
    refine c_addNumber H1 C1 (by omega) (fun X2 h2 H2 f2 C2 => ?_)
    refine fP (o := 11) H2 H2.b rfl rfl ?_
    refine vG (o := 6) H2 H2.b rfl ?_
    refine c_addNumber H2 C2 (by omega) (fun X3 h3 H3 f3 C3 => ?_)
    refine fP (o := 11) H3 H3.b rfl rfl ?_
    refine vG (o := 6) H3 H3.b rfl ?_
    refine c_addNumber H3 C3 (by omega) (fun X4 h4 H4 f4 C4 => ?_)
    refine fP (o := 11) H4 H4.b rfl rfl ?_
    refine vG (o := 6) H4 H4.b rfl ?_
    refine c_addNumber H4 C4 (by omega) (fun X5 h5 H5 f5 C5 => ?_)
    refine fP (o := 11) H5 H5.b rfl rfl ?_
    refine fG (o := 6) H5 H5.b rfl ?_
    have C6 : TC X5 (tpA tp T (fb a b c d e) 20) (T + 20) := by
      rw [← fd5]
      exact C5
    rw [C6.1]
    exact k X5 h5 H5 ((((f1.tr f2).tr f3).tr f4).tr f5) C6
/-- only the reference's tape and its five numbers have changed -/
def UF (X X' : Nat → Nat → Int32) : Prop := ∀ id n, mS id n = false → ¬ (id = 12 ∧ n = 0) → id ≠ 1304 → ¬ (id = 12 ∧ n = 5) → X' id n = X id n
theorem m_feed_ (H : G A S h0 X h) {tp : Nat → Nat} {T : Nat} (C : TM X tp T) (hT : T ≤ 400) {a b c d e : Int32} (k : ∀ X' h', G A S h0 X' h' → UF X X' → TM X' (fdP tp T a b c d e) (fdT T) → Q (fdV T) h') : w_X12_feed (A 12) a b c d e h Q := by
  unfold w_X12_feed
  refine uG (o := 12) H H.b rfl (fun h1 H1 => ?_)
  refine fG (o := 12) H1 H1.b rfl ?_
  rw [up_n _ _ _ (show (5 : Nat) ≠ 0 by decide), C.1, ix0 20, nI_add]
  refine br_Le (b := 400) (by omega) (by decide) (fun c1 => ?_) (fun c1 => ?_)
  · rw [fdV, fdP, fdT, if_pos c1, if_pos c1, if_pos c1] at k
    refine fP (o := 12) H1 H1.b rfl rfl ?_
    refine tG (id := 1311) H1 H1.b rfl (by decide) (ix0 0) (by decide) (fun h2 H2 => ?_)
    refine fP (o := 12) H2 H2.b rfl rfl ?_
    refine tG (id := 1311) H2 H2.b rfl (by decide) (ix0 1) (by decide) (fun h3 H3 => ?_)
    refine fP (o := 12) H3 H3.b rfl rfl ?_
    refine tG (id := 1311) H3 H3.b rfl (by decide) (ix0 2) (by decide) (fun h4 H4 => ?_)
    refine fP (o := 12) H4 H4.b rfl rfl ?_
    refine tG (id := 1311) H4 H4.b rfl (by decide) (ix0 3) (by decide) (fun h5 H5 => ?_)
    refine fP (o := 12) H5 H5.b rfl rfl ?_
    refine tG (id := 1311) H5 H5.b rfl (by decide) (ix0 4) (by decide) (fun h6 H6 => ?_)
    have hv : ∀ q, q < 5 → up (up (up (up (up (up X 12 0 0) 1311 0 a) 1311 1 b) 1311 2 c) 1311 3 d) 1311 4 e 1311 q = if q = 0 then a else if q = 1 then b else if q = 2 then c else if q = 3 then d else e := by
      intro q hq
      have : q = 0 ∨ q = 1 ∨ q = 2 ∨ q = 3 ∨ q = 4 := by omega
      rcases this with rfl | rfl | rfl | rfl | rfl <;> simp [up, va_up]
    have hf : ∀ id n, ¬ (id = 12 ∧ n = 0) → id ≠ 1311 → up (up (up (up (up (up X 12 0 0) 1311 0 a) 1311 1 b) 1311 2 c) 1311 3 d) 1311 4 e id n = X id n := by
      intro id n h1 h2
      rw [up_row _ _ _ h2, up_row _ _ _ h2, up_row _ _ _ h2, up_row _ _ _ h2, up_row _ _ _ h2]
      by_cases e : id = 12
      · subst e
        rw [up_n _ _ _ (fun z => h1 ⟨rfl, z⟩)]
      · rw [up_row _ _ _ e]
    generalize up (up (up (up (up (up X 12 0 0) 1311 0 a) 1311 1 b) 1311 2 c) 1311 3 d) 1311 4 e = X6 at *
    refine lp_inv 20 (fun j (s : Int32 × AH) => s.1 = nI j ∧ ∃ X', G A S h0 X' s.2 ∧ (∀ id, id ≠ 1304 → X' id = X6 id) ∧ ∀ i, i < T + j → X' 1304 i = (nI (tpA tp T (fb a b c d e) j i)).toInt8.toInt32) (fun j s kk1 hj hI kk => ?_) (fun s kk1 hI => ?_) (Nat.zero_le _) ⟨rfl, X6, H6, fun _ _ => rfl, fun i hi => ?_⟩
    · obtain ⟨w, h7⟩ := s
      obtain ⟨e1, X7, H7, f7, c7⟩ := hI
      dsimp only at e1 H7 ⊢
      subst e1
      have n7 : X7 12 5 = nI T := by rw [f7 12 (by decide), hf 12 5 (by decide) (by decide)]; exact C.1
      dsimp only [w_X12_feed_60]
      refine br_go (a := 20) hj (by decide) ?_
      refine fP (o := 12) H7 H7.b rfl rfl ?_
      refine fG (o := 12) H7 H7.b rfl ?_
      refine fP (o := 12) H7 H7.b rfl rfl ?_
      rw [n7, show nI j / 4 = nI (j / 4) from pk_div (d := 4) (by omega) (by decide) (by decide), show jrem (nI j) 4 = nI (j % 4) from pk_rem (d := 4) (by omega) (by decide) (by decide), nI_add]
      refine aG (id := 1311) H7 H7.b rfl (by decide) rfl (by omega) ?_
      rw [f7 1311 (by decide), hv (j / 4) (by omega), show (24 : Int32) - 8 * nI (j % 4) = nI (24 - 8 * (j % 4)) by rw [ix0 24, ix0 8, pk_mul, pk_sub (by omega)]]
      refine tBG (id := 1304) H7 H7.b rfl (by decide) rfl (by omega) (fun h8 H8 => ?_)
      rw [to8_2, to8] at H8
      refine kk _ ⟨(nI_succ j).symm, _, H8, fun id hid => by rw [up_row _ _ _ hid]; exact f7 id hid, fun i hi => ?_⟩
      unfold tpA
      by_cases g : i = T + j
      · subst g
        rw [up_same, if_pos (show T ≤ T + j ∧ T + j < T + (j + 1) by omega), show T + j - T = j by omega]
        rfl
      · rw [up_n _ _ _ g, c7 i (by omega)]
        unfold tpA
        by_cases d : T ≤ i
        · rw [if_pos (by omega), if_pos (by omega)]
        · rw [if_neg (by omega), if_neg (by omega)]
    · obtain ⟨w, h7⟩ := s
      obtain ⟨e1, X7, H7, f7, c7⟩ := hI
      dsimp only at e1 H7 ⊢
      subst e1
      have n7 : X7 12 5 = nI T := by rw [f7 12 (by decide), hf 12 5 (by decide) (by decide)]; exact C.1
      dsimp only [w_X12_feed_60, w_X12_feed_106]
      refine br_end (a := 20) ?_
      refine fG (o := 12) H7 H7.b rfl ?_
      rw [n7, ix0 20, nI_add]
      refine uG (o := 12) H7 H7.b rfl (fun h8 H8 => ?_)
      refine fG (o := 12) H8 H8.b rfl ?_
      rw [up_same]
      refine k _ h8 H8 (fun id n q1 q2 q3 q4 => ?_) ⟨up_same _ _ _ _, fun i hi => ?_⟩
      · by_cases g : id = 12
        · subst g
          rw [up_n _ _ _ (fun z => q4 ⟨rfl, z⟩), f7 12 (by decide)]
          exact hf 12 n q2 (by decide)
        · rw [up_row _ _ _ g, f7 id q3]
          refine hf id n q2 (fun z => ?_)
          rw [z] at q1
          exact Bool.noConfusion q1
      · rw [up_row _ _ _ (show (1304 : Nat) ≠ 12 by decide)]
        exact c7 i hi
    · rw [hf 1304 i (fun z => absurd z.1 (by decide)) (by decide), tpA_0]
      exact C.2 i (by omega)
  · rw [fdV, fdP, fdT, if_neg (by omega), if_neg (by omega), if_neg (by omega)] at k
    refine k _ h1 H1 (fun id n q1 q2 q3 q4 => ?_) ⟨?_, fun i hi => ?_⟩
    · by_cases g : id = 12
      · subst g
        rw [up_n _ _ _ (fun z => q2 ⟨rfl, z⟩)]
      · rw [up_row _ _ _ g]
    · rw [up_n _ _ _ (by decide)]
      exact C.1
    · rw [up_row _ _ _ (by decide)]
      exact C.2 i hi
end TAPE
