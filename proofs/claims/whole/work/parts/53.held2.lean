/-! rows that held: pieces and breaks -/
section HELD2
variable {A : Nat → Nat} {S : Nat → Prop} {h0 h : AH} {X : Nat → Nat → Int32} {wd : Nat → Int32} {N : Nat → Nat} {Q : Int32 → AH → Prop} {Qv : AH → Prop}
/-- the columns that both sides hold: few, and they rise -/
def Up16 (l : List Nat) : Prop := l.length ≤ 16 ∧ (∀ i, i < l.length → l.getD i 0 < 16) ∧ ∀ i, i + 1 < l.length → l.getD i 0 < l.getD (i + 1) 0
theorem clL_Up {p : Nat → Bool} : Up16 (clL p 16) := ⟨clL_len, fun i h => clL_lt h, fun i h => clL_up h⟩
theorem sp_lt {l : List Nat} (U : Up16 l) {i : Nat} (hi : i + 1 < l.length) : sp l i < 16 ∧ nI (l.getD (i + 1) 0) - nI (l.getD i 0) = nI (sp l i) := by
  have h1 := U.2.1 (i + 1) hi
  have h2 := U.2.2 i hi
  refine ⟨by unfold sp; omega, ?_⟩
  exact pk_sub (by omega)
theorem hi_lt {l : List Nat} (U : Up16 l) {a : Nat} : ∀ {j : Nat}, a + j < l.length → hiS l a j < 16 ∧ loS l a j ≤ 16 := by
  intro j
  induction j with
  | zero => intro _; exact ⟨by simp [hiS], by simp [loS]⟩
  | succ j ih =>
    intro hj
    have h1 := ih (by omega)
    have h2 := (sp_lt U (i := a + j) (by omega)).1
    simp only [hiS, loS]
    omega
theorem lo_hi {l : List Nat} {a j : Nat} : loS l a (j + 1) ≤ hiS l a (j + 1) := by
  simp only [hiS, loS]
  omega
theorem c_stepFrom (H : G A S h0 X h) {l : List Nat} (U : Up16 l) (L : RoL X 903 l) {i : Nat} (hi : i + 1 < l.length) (k : Q (nI (sp l i)) h) : w_X8_stepFrom (A 8) (nI i) h Q := by
  have R : True := trivial
  have hu := U.1
  dsimp only [w_X8_stepFrom]
  rw [nI_1]
  (repeat (first | with_reducible refine bd_i ?_ | with_reducible refine fP H (by with_unfolding_all first | exact H.b | exact hS) (by with_unfolding_all rfl) (by with_unfolding_all rfl) ?_ | with_reducible refine vG H (by with_unfolding_all first | exact H.b | exact hS) (by with_unfolding_all rfl) ?_ | with_reducible refine fC_ H R (by with_unfolding_all exact H.b) (by with_unfolding_all rfl) (by with_unfolding_all rfl) ?_ | with_reducible refine aC H R (by with_unfolding_all exact H.b) (by with_unfolding_all rfl) (by decide) (by with_unfolding_all rfl) rfl (by omega) ?_ | with_reducible refine fG H (by with_unfolding_all first | exact H.b | exact hS) (by with_unfolding_all rfl) ?_ | with_reducible refine aG H (by with_unfolding_all first | exact H.b | exact hS) (by with_unfolding_all rfl) (by decide) rfl (by omega) ?_))
  rw [L (i + 1) hi, L i (by omega), (sp_lt U hi).2]
  exact k
theorem c_pieceFrom (H : G A S h0 X h) {l : List Nat} (U : Up16 l) (L : RoL X 903 l) {a o : Nat} (ho : o ≤ 15) (ha : a + 1 < l.length) (k : Q (nI (pfN l o a (l.length - 1 - a))) h) : w_X8_pieceFrom (A 8) (nI a) (nI (l.length - 1)) (nI o) h Q := by
  have R : True := trivial
  have hu := U.1
  unfold w_X8_pieceFrom
  (repeat (first | with_reducible refine c_stepFrom H U L ha ?_ | with_reducible refine bd_i ?_ | with_reducible refine fP H (by with_unfolding_all first | exact H.b | exact hS) (by with_unfolding_all rfl) (by with_unfolding_all rfl) ?_ | with_reducible refine vG H (by with_unfolding_all first | exact H.b | exact hS) (by with_unfolding_all rfl) ?_ | with_reducible refine fC_ H R (by with_unfolding_all exact H.b) (by with_unfolding_all rfl) (by with_unfolding_all rfl) ?_ | with_reducible refine aC H R (by with_unfolding_all exact H.b) (by with_unfolding_all rfl) (by decide) (by with_unfolding_all rfl) rfl (by omega) ?_ | with_reducible refine fG H (by with_unfolding_all first | exact H.b | exact hS) (by with_unfolding_all rfl) ?_ | with_reducible refine aG H (by with_unfolding_all first | exact H.b | exact hS) (by with_unfolding_all rfl) (by decide) rfl (by omega) ?_))
  have hsp := (sp_lt U ha).1
  refine lp_ex (l.length - 1 - a) (fun j => (nI (if j = 0 then sp l a else loS l a j), nI (if j = 0 then sp l a else hiS l a j), nI (a + j), h)) (fun j => ∀ i, i < j → gdB l o a i = true) (fun j kk1 hj hP kk => ?_) (fun hP kk1 => ?_) (Nat.zero_le _) (fun i hi => absurd hi (Nat.not_lt_zero _))
  · have hs2 := (sp_lt U (i := a + j) (by omega)).1
    have hh := hi_lt U (a := a) (j := j) (by omega)
    have hm1 : min (if j = 0 then sp l a else loS l a j) (sp l (a + j)) = loS l a (j + 1) := by
      by_cases e : j = 0
      · subst e
        simp only [if_true, loS, Nat.add_zero]
        omega
      · rw [if_neg e]; rfl
    have hm2 : max (if j = 0 then sp l a else hiS l a j) (sp l (a + j)) = hiS l a (j + 1) := by
      by_cases e : j = 0
      · subst e
        simp only [if_true, hiS, Nat.add_zero]
        omega
      · rw [if_neg e]; rfl
    have hb1 : (if j = 0 then sp l a else loS l a j) < 2 ^ 31 := by split <;> omega
    have hb2 : (if j = 0 then sp l a else hiS l a j) < 2 ^ 31 := by split <;> omega
    have hh2 := hi_lt U (a := a) (j := j + 1) (by omega)
    dsimp only [w_X8_pieceFrom_66, w_X8_pieceFrom_55, w_X8_pieceFrom_14, w_X8_pieceFrom]
    refine br_go (by omega) (by omega) ?_
    (repeat (first | with_reducible refine c_stepFrom H U L (by omega) ?_ | with_reducible refine bd_i ?_ | with_reducible refine fP H (by with_unfolding_all first | exact H.b | exact hS) (by with_unfolding_all rfl) (by with_unfolding_all rfl) ?_ | with_reducible refine vG H (by with_unfolding_all first | exact H.b | exact hS) (by with_unfolding_all rfl) ?_ | with_reducible refine fC_ H R (by with_unfolding_all exact H.b) (by with_unfolding_all rfl) (by with_unfolding_all rfl) ?_ | with_reducible refine aC H R (by with_unfolding_all exact H.b) (by with_unfolding_all rfl) (by decide) (by with_unfolding_all rfl) rfl (by omega) ?_ | with_reducible refine fG H (by with_unfolding_all first | exact H.b | exact hS) (by with_unfolding_all rfl) ?_ | with_reducible refine aG H (by with_unfolding_all first | exact H.b | exact hS) (by with_unfolding_all rfl) (by decide) rfl (by omega) ?_))
    rw [j_min hb1 (by omega), j_max hb2 (by omega), hm1, hm2]
    refine br_if (fun c => ?_) (fun c => ?_)
    · rw [sub_le (by omega) (by omega) (by omega)] at c
      rw [if_neg (by omega), if_neg (by omega), ← Nat.add_assoc, nI_succ (a + j)] at kk
      refine kk (fun i hi => ?_)
      by_cases e : i = j
      · subst e
        exact decide_eq_true c
      · exact hP i (by omega)
    · rw [sub_le (by omega) (by omega) (by omega)] at c
      have hb : gdB l o a j = false := decide_eq_false c
      have := pf_bad hb hP (l.length - 1 - a - j)
      rw [show j + (l.length - 1 - a - j) = l.length - 1 - a by omega] at this
      rw [this] at k
      rw [pk_sub (by omega), show a + j - a = j by omega]
      exact k
  · dsimp only [w_X8_pieceFrom_66, w_X8_pieceFrom_55, w_X8_pieceFrom_14, w_X8_pieceFrom]
    rw [show a + (l.length - 1 - a) = l.length - 1 by omega]
    refine br_end ?_
    rw [pf_good hP] at k
    rw [pk_sub (by omega)]
    exact k
theorem c_longestPiece (H : G A S h0 X h) (R : CR X wd) (O : Ok wd N) (C : CG X wd N) {side : Int32} {r o : Nat} (hr : r < 16) (ho : o ≤ 15) (k : ∀ X' h', G A S h0 X' h' → Off [903] X X' → Q (nI (lgH (clL (hxB wd N side r) 16) o ((clL (hxB wd N side r) 16).length - 1))) h') : w_X8_longestPiece (A 8) side (nI r) (nI o) h Q := by
  unfold w_X8_longestPiece
  (repeat (first | with_reducible refine bd_i ?_ | with_reducible refine fP H (by with_unfolding_all first | exact H.b | exact hS) (by with_unfolding_all rfl) (by with_unfolding_all rfl) ?_ | with_reducible refine vG H (by with_unfolding_all first | exact H.b | exact hS) (by with_unfolding_all rfl) ?_ | with_reducible refine fC_ H R (by with_unfolding_all exact H.b) (by with_unfolding_all rfl) (by with_unfolding_all rfl) ?_ | with_reducible refine aC H R (by with_unfolding_all exact H.b) (by with_unfolding_all rfl) (by decide) (by with_unfolding_all rfl) rfl (by omega) ?_ | with_reducible refine fG H (by with_unfolding_all first | exact H.b | exact hS) (by with_unfolding_all rfl) ?_ | with_reducible refine aG H (by with_unfolding_all first | exact H.b | exact hS) (by with_unfolding_all rfl) (by decide) rfl (by omega) ?_))
  refine c_gatherColumns H R O C hr (fun X1 h1 H1 o1 L => ?_)
  have z := k X1 h1 H1 o1
  have U := clL_Up (p := hxB wd N side r)
  clear k H R C
  generalize clL (hxB wd N side r) 16 = l at *
  have H := H1
  have R : True := trivial
  have hu := U.1
  refine bd_i ?_
  by_cases e0 : l.length = 0
  · rw [e0] at z ⊢
    refine lp_up 0 (fun j => (nI 0, nI 0, h1)) (fun j kk1 hj kk => absurd hj (Nat.not_lt_zero _)) (fun kk1 => ?_) (Nat.zero_le _)
    dsimp only [w_X8_longestPiece_45, w_X8_longestPiece_16, w_X8_longestPiece]
    exact br_T (by decide) z
  · rw [show nI l.length - 1 = nI (l.length - 1) from pk_sub (b := 1) (by omega)]
    refine lp_up (l.length - 1) (fun j => (nI (lgH l o j), nI j, h1)) (fun j kk1 hj kk => ?_) (fun kk1 => ?_) (Nat.zero_le _)
    · rw [nI_succ] at kk
      simp only [lgH] at kk
      have b1 := lgH_le (l := l) (o := o) (n := j)
      have b2 := pf_le (l := l) (o := o) (a := j) (j := l.length - 1 - j)
      dsimp only [w_X8_longestPiece_45, w_X8_longestPiece_16, w_X8_longestPiece]
      refine br_go hj (by omega) ?_
      (repeat (first | with_reducible refine c_pieceFrom H U L ho (by omega) ?_ | with_reducible refine bd_i ?_ | with_reducible refine fP H (by with_unfolding_all first | exact H.b | exact hS) (by with_unfolding_all rfl) (by with_unfolding_all rfl) ?_ | with_reducible refine vG H (by with_unfolding_all first | exact H.b | exact hS) (by with_unfolding_all rfl) ?_ | with_reducible refine fC_ H R (by with_unfolding_all exact H.b) (by with_unfolding_all rfl) (by with_unfolding_all rfl) ?_ | with_reducible refine aC H R (by with_unfolding_all exact H.b) (by with_unfolding_all rfl) (by decide) (by with_unfolding_all rfl) rfl (by omega) ?_ | with_reducible refine fG H (by with_unfolding_all first | exact H.b | exact hS) (by with_unfolding_all rfl) ?_ | with_reducible refine aG H (by with_unfolding_all first | exact H.b | exact hS) (by with_unfolding_all rfl) (by decide) rfl (by omega) ?_))
      rw [j_max (by omega) (by omega)]
      exact kk
    · dsimp only [w_X8_longestPiece_45, w_X8_longestPiece_16, w_X8_longestPiece]
      exact br_end z
theorem c_breakOf (H : G A S h0 X h) (R : CR X wd) (O : Ok wd N) (C : CG X wd N) {side : Int32} {r o : Nat} (hr : r < 16) (ho : o ≤ 15) (k : ∀ X' h', G A S h0 X' h' → Off [903] X X' → Q (oI ((fsO (bkB (clL (hxB wd N side r) 16) o) ((clL (hxB wd N side r) 16).length - 2)).map fun i => (clL (hxB wd N side r) 16).getD (i + 1) 0)) h') : w_X8_breakOf (A 8) side (nI r) (nI o) h Q := by
  unfold w_X8_breakOf
  (repeat (first | with_reducible refine bd_i ?_ | with_reducible refine fP H (by with_unfolding_all first | exact H.b | exact hS) (by with_unfolding_all rfl) (by with_unfolding_all rfl) ?_ | with_reducible refine vG H (by with_unfolding_all first | exact H.b | exact hS) (by with_unfolding_all rfl) ?_ | with_reducible refine fC_ H R (by with_unfolding_all exact H.b) (by with_unfolding_all rfl) (by with_unfolding_all rfl) ?_ | with_reducible refine aC H R (by with_unfolding_all exact H.b) (by with_unfolding_all rfl) (by decide) (by with_unfolding_all rfl) rfl (by omega) ?_ | with_reducible refine fG H (by with_unfolding_all first | exact H.b | exact hS) (by with_unfolding_all rfl) ?_ | with_reducible refine aG H (by with_unfolding_all first | exact H.b | exact hS) (by with_unfolding_all rfl) (by decide) rfl (by omega) ?_))
  refine c_gatherColumns H R O C hr (fun X1 h1 H1 o1 L => ?_)
  have z := k X1 h1 H1 o1
  have U := clL_Up (p := hxB wd N side r)
  clear k H R C
  generalize clL (hxB wd N side r) 16 = l at *
  have H := H1
  have R : True := trivial
  have hu := U.1
  refine bd_i ?_
  by_cases e0 : l.length = 0
  · rw [e0] at z ⊢
    refine lp_up 0 (fun j => (nI 1, h1)) (fun j kk1 hj kk => absurd hj (Nat.not_lt_zero _)) (fun kk1 => ?_) (Nat.zero_le _)
    dsimp only [w_X8_breakOf_53, w_X8_breakOf_39, w_X8_breakOf_13, w_X8_breakOf]
    exact br_T (by decide) z
  · rw [show nI l.length - 1 = nI (l.length - 1) from pk_sub (b := 1) (by omega)]
    refine lp_ex (l.length - 2) (fun j => (nI (j + 1), h1)) (fun j => fsO (bkB l o) j = none) (fun j kk1 hj hP kk => ?_) (fun hP kk1 => ?_) (Nat.zero_le _) rfl
    · rw [nI_succ (j + 1)] at kk
      have b1 := (sp_lt U (i := j) (by omega)).1
      have b2 := (sp_lt U (i := j + 1) (by omega)).1
      dsimp only [w_X8_breakOf_53, w_X8_breakOf_39, w_X8_breakOf_13, w_X8_breakOf]
      refine br_go (by omega) (by omega) ?_
      rw [nI_pred]
      (repeat (first | with_reducible refine c_stepFrom H U L (by omega) ?_ | with_reducible refine bd_i ?_ | with_reducible refine fP H (by with_unfolding_all first | exact H.b | exact hS) (by with_unfolding_all rfl) (by with_unfolding_all rfl) ?_ | with_reducible refine vG H (by with_unfolding_all first | exact H.b | exact hS) (by with_unfolding_all rfl) ?_ | with_reducible refine fC_ H R (by with_unfolding_all exact H.b) (by with_unfolding_all rfl) (by with_unfolding_all rfl) ?_ | with_reducible refine aC H R (by with_unfolding_all exact H.b) (by with_unfolding_all rfl) (by decide) (by with_unfolding_all rfl) rfl (by omega) ?_ | with_reducible refine fG H (by with_unfolding_all first | exact H.b | exact hS) (by with_unfolding_all rfl) ?_ | with_reducible refine aG H (by with_unfolding_all first | exact H.b | exact hS) (by with_unfolding_all rfl) (by decide) rfl (by omega) ?_))
      refine br_if (fun c => ?_) (fun c => ?_)
      · rw [sub_le (by omega) (by omega) (by omega)] at c
        refine kk ?_
        simp only [fsO, hP]
        rw [if_neg (by simp only [bkB, decide_eq_true_eq]; exact fun y => y c)]
      · rw [sub_le (by omega) (by omega) (by omega)] at c
        rw [fsO_at hj hP (decide_eq_true c)] at z
        (repeat (first | with_reducible refine bd_i ?_ | with_reducible refine fP H (by with_unfolding_all first | exact H.b | exact hS) (by with_unfolding_all rfl) (by with_unfolding_all rfl) ?_ | with_reducible refine vG H (by with_unfolding_all first | exact H.b | exact hS) (by with_unfolding_all rfl) ?_ | with_reducible refine fC_ H R (by with_unfolding_all exact H.b) (by with_unfolding_all rfl) (by with_unfolding_all rfl) ?_ | with_reducible refine aC H R (by with_unfolding_all exact H.b) (by with_unfolding_all rfl) (by decide) (by with_unfolding_all rfl) rfl (by omega) ?_ | with_reducible refine fG H (by with_unfolding_all first | exact H.b | exact hS) (by with_unfolding_all rfl) ?_ | with_reducible refine aG H (by with_unfolding_all first | exact H.b | exact hS) (by with_unfolding_all rfl) (by decide) rfl (by omega) ?_))
        rw [L (j + 1) (by omega)]
        exact z
    · dsimp only [w_X8_breakOf_53, w_X8_breakOf_39, w_X8_breakOf_13, w_X8_breakOf]
      rw [hP] at z
      exact br_T (nI_le (by omega) (by omega)) z
theorem m_gathersRow (H : G A S h0 X h) (M : MR X wd) (O : Ok wd N) {side : Int32} {r : Nat} (hr : r < 16) (k : ∀ X' h', G A S h0 X' h' → OM X X' → RoL X' 1323 (clL (hxB wd N side r) 16) → X' 12 24 = nI (clL (hxB wd N side r) 16).length → Qv h') : w_X12_gathersRow (A 12) side (nI r) h Qv := by
  obtain ⟨e3, h3⟩ := O.f
  have h8 := O.g.2
  unfold w_X12_gathersRow
  refine uG (o := 12) H H.b rfl (fun h1 H1 => ?_)
  refine lp_inv 16 (fun j (s : Int32 × AH) => s.1 = nI j ∧ ∃ X', G A S h0 X' s.2 ∧ OM X X' ∧ RoL X' 1323 (clL (hxB wd N side r) j) ∧ X' 12 24 = nI (clL (hxB wd N side r) j).length) (fun j s kk1 hj hI kk => ?_) (fun s kk1 hI => ?_) (Nat.zero_le _) ⟨rfl, _, H1, (OM.rf X).up (by decide) _, RoL.nil, up_same _ _ _ _⟩
  · obtain ⟨v, h2⟩ := s
    obtain ⟨e1, X2, H2, o2, L2, n2⟩ := hI
    dsimp only at e1 H2 ⊢
    subst e1
    have M2 := o2.MR M
    clear H M H1
    have H := H2
    have M := M2
    have hl := clL_len (p := hxB wd N side r) (n := j)
    unfold w_X12_gathersRow_7
    refine br_go (a := 16) hj (by omega) ?_
    have fin : w_X12_gathersRow_92 (fun h => w_X12_gathersRow_126 h Qv) (fun y3 h => kk1 (y3, h)) (A 12) side (nI r) (nI j) (bI (hxB wd N side r j)) h2 Qv := by
      dsimp only [w_X12_gathersRow_92, w_X12_gathersRow_120]
      refine br_bI (fun d => ?_) (fun d => ?_)
      · (repeat (first | with_reducible refine bd_i ?_ | with_reducible refine fP H (by with_unfolding_all exact H.b) (by with_unfolding_all rfl) (by with_unfolding_all rfl) ?_ | with_reducible refine vG H (by with_unfolding_all exact H.b) (by with_unfolding_all rfl) ?_ | with_reducible refine aM H M rfl (by omega) ?_ | with_reducible refine aM H M (ix0 0) (by omega) ?_ | with_reducible refine aM H M (ix0 1) (by omega) ?_ | with_reducible refine aM H M (ix0 2) (by omega) ?_ | with_reducible refine aM H M (ix0 3) (by omega) ?_ | with_reducible refine aM H M (ix0 4) (by omega) ?_ | with_reducible refine aM H M (ix0 5) (by omega) ?_ | with_reducible refine aM H M (ix0 6) (by omega) ?_ | with_reducible refine aM H M (ix0 7) (by omega) ?_ | with_reducible refine aM H M (ix0 8) (by omega) ?_ | with_reducible refine aM H M (ix0 9) (by omega) ?_ | with_reducible refine aM H M (ix0 10) (by omega) ?_ | with_reducible refine aM H M (ix0 11) (by omega) ?_ | with_reducible refine aM H M (ix0 12) (by omega) ?_ | with_reducible refine aM H M (ix1 13 _) (by omega) ?_ | with_reducible refine aM H M (ix1 1161 _) (by omega) ?_ | with_reducible refine aM H M (ix2 269 4 _) (by omega) ?_ | with_reducible refine aM H M (ix4 269 4 _ 1) (by omega) ?_ | with_reducible refine aM H M (ix4 269 4 _ 2) (by omega) ?_ | with_reducible refine aM H M (ix4 269 4 _ 3) (by omega) ?_ | with_reducible refine fG H (by with_unfolding_all exact H.b) (by with_unfolding_all rfl) ?_ | with_reducible refine aG H (by with_unfolding_all exact H.b) (by with_unfolding_all rfl) (by decide) rfl (by omega) ?_))
        rw [n2]
        refine tG (id := 1323) H H.b rfl (by decide) rfl (by omega) (fun h3_ H3 => ?_)
        refine fG (o := 12) H3 H3.b rfl ?_
        refine uG (o := 12) H3 H3.b rfl (fun h4 H4 => ?_)
        refine kk _ ⟨(nI_succ j).symm, _, H4, (o2.up (mS_row rfl) _).up (by decide) _, ?_, ?_⟩
        · simp only [clL, if_pos d]
          refine RoL.off (L2.add j) ?_
          rw [up_row _ _ _ (by decide)]
        · simp only [clL, if_pos d]
          rw [up_same, up_row _ _ _ (by decide), n2, List.length_append, List.length_singleton, nI_succ]
      · refine kk _ ⟨(nI_succ j).symm, X2, H2, o2, ?_, ?_⟩
        · simp only [clL, if_neg d]
          exact L2
        · simp only [clL, if_neg d]
          exact n2
    refine lp_up (N 3) (fun i => (bI (anyB (fun f => decide (colP wd N side r f = some j)) i), nI i, h2)) (fun i kk2 hi kk3 => ?_) (fun kk2 => ?_) (Nat.zero_le _)
    · rw [nI_succ] at kk3
      simp only [anyB] at kk3
      obtain ⟨ec, hc⟩ := (O.F hi).2.1
      dsimp only [w_X12_gathersRow_19, w_X12_gathersRow_79, w_X12_gathersRow_83, w_X12_gathersRow_84]
      (repeat (first | with_reducible refine m_finds H M ?_ | with_reducible refine bd_i ?_ | with_reducible refine fP H (by with_unfolding_all exact H.b) (by with_unfolding_all rfl) (by with_unfolding_all rfl) ?_ | with_reducible refine vG H (by with_unfolding_all exact H.b) (by with_unfolding_all rfl) ?_ | with_reducible refine aM H M rfl (by omega) ?_ | with_reducible refine aM H M (ix0 0) (by omega) ?_ | with_reducible refine aM H M (ix0 1) (by omega) ?_ | with_reducible refine aM H M (ix0 2) (by omega) ?_ | with_reducible refine aM H M (ix0 3) (by omega) ?_ | with_reducible refine aM H M (ix0 4) (by omega) ?_ | with_reducible refine aM H M (ix0 5) (by omega) ?_ | with_reducible refine aM H M (ix0 6) (by omega) ?_ | with_reducible refine aM H M (ix0 7) (by omega) ?_ | with_reducible refine aM H M (ix0 8) (by omega) ?_ | with_reducible refine aM H M (ix0 9) (by omega) ?_ | with_reducible refine aM H M (ix0 10) (by omega) ?_ | with_reducible refine aM H M (ix0 11) (by omega) ?_ | with_reducible refine aM H M (ix0 12) (by omega) ?_ | with_reducible refine aM H M (ix1 13 _) (by omega) ?_ | with_reducible refine aM H M (ix1 1161 _) (by omega) ?_ | with_reducible refine aM H M (ix2 269 4 _) (by omega) ?_ | with_reducible refine aM H M (ix4 269 4 _ 1) (by omega) ?_ | with_reducible refine aM H M (ix4 269 4 _ 2) (by omega) ?_ | with_reducible refine aM H M (ix4 269 4 _ 3) (by omega) ?_ | with_reducible refine fG H (by with_unfolding_all exact H.b) (by with_unfolding_all rfl) ?_ | with_reducible refine aG H (by with_unfolding_all exact H.b) (by with_unfolding_all rfl) (by decide) rfl (by omega) ?_))
      rw [e3]
      refine br_go hi (by omega) ?_
      refine br_bI (fun c1 => ?_) (fun c1 => ?_)
      · rw [c1, Bool.true_or] at kk3
        exact kk3
      · rw [Bool.not_eq_true] at c1
        rw [c1, Bool.false_or] at kk3
        (repeat (first | with_reducible refine f1 H M (by omega) ?_ | with_reducible refine bd_i ?_ | with_reducible refine fP H (by with_unfolding_all exact H.b) (by with_unfolding_all rfl) (by with_unfolding_all rfl) ?_ | with_reducible refine vG H (by with_unfolding_all exact H.b) (by with_unfolding_all rfl) ?_ | with_reducible refine aM H M rfl (by omega) ?_ | with_reducible refine aM H M (ix0 0) (by omega) ?_ | with_reducible refine aM H M (ix0 1) (by omega) ?_ | with_reducible refine aM H M (ix0 2) (by omega) ?_ | with_reducible refine aM H M (ix0 3) (by omega) ?_ | with_reducible refine aM H M (ix0 4) (by omega) ?_ | with_reducible refine aM H M (ix0 5) (by omega) ?_ | with_reducible refine aM H M (ix0 6) (by omega) ?_ | with_reducible refine aM H M (ix0 7) (by omega) ?_ | with_reducible refine aM H M (ix0 8) (by omega) ?_ | with_reducible refine aM H M (ix0 9) (by omega) ?_ | with_reducible refine aM H M (ix0 10) (by omega) ?_ | with_reducible refine aM H M (ix0 11) (by omega) ?_ | with_reducible refine aM H M (ix0 12) (by omega) ?_ | with_reducible refine aM H M (ix1 13 _) (by omega) ?_ | with_reducible refine aM H M (ix1 1161 _) (by omega) ?_ | with_reducible refine aM H M (ix2 269 4 _) (by omega) ?_ | with_reducible refine aM H M (ix4 269 4 _ 1) (by omega) ?_ | with_reducible refine aM H M (ix4 269 4 _ 2) (by omega) ?_ | with_reducible refine aM H M (ix4 269 4 _ 3) (by omega) ?_ | with_reducible refine fG H (by with_unfolding_all exact H.b) (by with_unfolding_all rfl) ?_ | with_reducible refine aG H (by with_unfolding_all exact H.b) (by with_unfolding_all rfl) (by decide) rfl (by omega) ?_))
        rw [ec, show (16 : Int32) * nI r + nI j = nI (16 * r + j) by rw [ix0 16, pk_mul, nI_add]]
        refine br_Eq (by omega) (by omega) (fun d => ?_) (fun d => ?_)
        · (repeat (first | with_reducible refine m_sureOf H M O (by omega) ?_ | with_reducible refine bd_i ?_ | with_reducible refine fP H (by with_unfolding_all exact H.b) (by with_unfolding_all rfl) (by with_unfolding_all rfl) ?_ | with_reducible refine vG H (by with_unfolding_all exact H.b) (by with_unfolding_all rfl) ?_ | with_reducible refine aM H M rfl (by omega) ?_ | with_reducible refine aM H M (ix0 0) (by omega) ?_ | with_reducible refine aM H M (ix0 1) (by omega) ?_ | with_reducible refine aM H M (ix0 2) (by omega) ?_ | with_reducible refine aM H M (ix0 3) (by omega) ?_ | with_reducible refine aM H M (ix0 4) (by omega) ?_ | with_reducible refine aM H M (ix0 5) (by omega) ?_ | with_reducible refine aM H M (ix0 6) (by omega) ?_ | with_reducible refine aM H M (ix0 7) (by omega) ?_ | with_reducible refine aM H M (ix0 8) (by omega) ?_ | with_reducible refine aM H M (ix0 9) (by omega) ?_ | with_reducible refine aM H M (ix0 10) (by omega) ?_ | with_reducible refine aM H M (ix0 11) (by omega) ?_ | with_reducible refine aM H M (ix0 12) (by omega) ?_ | with_reducible refine aM H M (ix1 13 _) (by omega) ?_ | with_reducible refine aM H M (ix1 1161 _) (by omega) ?_ | with_reducible refine aM H M (ix2 269 4 _) (by omega) ?_ | with_reducible refine aM H M (ix4 269 4 _ 1) (by omega) ?_ | with_reducible refine aM H M (ix4 269 4 _ 2) (by omega) ?_ | with_reducible refine aM H M (ix4 269 4 _ 3) (by omega) ?_ | with_reducible refine fG H (by with_unfolding_all exact H.b) (by with_unfolding_all rfl) ?_ | with_reducible refine aG H (by with_unfolding_all exact H.b) (by with_unfolding_all rfl) (by decide) rfl (by omega) ?_))
          cases e : sureG wd N i with
          | none =>
            refine br_T (show oI none < 0 by decide) ?_
            rw [bI_f (by simp [colP, e])] at kk3
            exact kk3
          | some g =>
            obtain ⟨hg, eg⟩ := (sureG_iff O).mp e
            refine br_F (show ¬ oI (some g) < 0 from nI_pos (by omega)) ?_
            (repeat (first | with_reducible refine m_sureOf H M O (by omega) ?_ | with_reducible refine bd_i ?_ | with_reducible refine fP H (by with_unfolding_all exact H.b) (by with_unfolding_all rfl) (by with_unfolding_all rfl) ?_ | with_reducible refine vG H (by with_unfolding_all exact H.b) (by with_unfolding_all rfl) ?_ | with_reducible refine aM H M rfl (by omega) ?_ | with_reducible refine aM H M (ix0 0) (by omega) ?_ | with_reducible refine aM H M (ix0 1) (by omega) ?_ | with_reducible refine aM H M (ix0 2) (by omega) ?_ | with_reducible refine aM H M (ix0 3) (by omega) ?_ | with_reducible refine aM H M (ix0 4) (by omega) ?_ | with_reducible refine aM H M (ix0 5) (by omega) ?_ | with_reducible refine aM H M (ix0 6) (by omega) ?_ | with_reducible refine aM H M (ix0 7) (by omega) ?_ | with_reducible refine aM H M (ix0 8) (by omega) ?_ | with_reducible refine aM H M (ix0 9) (by omega) ?_ | with_reducible refine aM H M (ix0 10) (by omega) ?_ | with_reducible refine aM H M (ix0 11) (by omega) ?_ | with_reducible refine aM H M (ix0 12) (by omega) ?_ | with_reducible refine aM H M (ix1 13 _) (by omega) ?_ | with_reducible refine aM H M (ix1 1161 _) (by omega) ?_ | with_reducible refine aM H M (ix2 269 4 _) (by omega) ?_ | with_reducible refine aM H M (ix4 269 4 _ 1) (by omega) ?_ | with_reducible refine aM H M (ix4 269 4 _ 2) (by omega) ?_ | with_reducible refine aM H M (ix4 269 4 _ 3) (by omega) ?_ | with_reducible refine fG H (by with_unfolding_all exact H.b) (by with_unfolding_all rfl) ?_ | with_reducible refine aG H (by with_unfolding_all exact H.b) (by with_unfolding_all rfl) (by decide) rfl (by omega) ?_))
            rw [e]
            dsimp only [oI]
            (repeat (first | with_reducible refine bd_i ?_ | with_reducible refine fP H (by with_unfolding_all exact H.b) (by with_unfolding_all rfl) (by with_unfolding_all rfl) ?_ | with_reducible refine vG H (by with_unfolding_all exact H.b) (by with_unfolding_all rfl) ?_ | with_reducible refine aM H M rfl (by omega) ?_ | with_reducible refine aM H M (ix0 0) (by omega) ?_ | with_reducible refine aM H M (ix0 1) (by omega) ?_ | with_reducible refine aM H M (ix0 2) (by omega) ?_ | with_reducible refine aM H M (ix0 3) (by omega) ?_ | with_reducible refine aM H M (ix0 4) (by omega) ?_ | with_reducible refine aM H M (ix0 5) (by omega) ?_ | with_reducible refine aM H M (ix0 6) (by omega) ?_ | with_reducible refine aM H M (ix0 7) (by omega) ?_ | with_reducible refine aM H M (ix0 8) (by omega) ?_ | with_reducible refine aM H M (ix0 9) (by omega) ?_ | with_reducible refine aM H M (ix0 10) (by omega) ?_ | with_reducible refine aM H M (ix0 11) (by omega) ?_ | with_reducible refine aM H M (ix0 12) (by omega) ?_ | with_reducible refine aM H M (ix1 13 _) (by omega) ?_ | with_reducible refine aM H M (ix1 1161 _) (by omega) ?_ | with_reducible refine aM H M (ix2 269 4 _) (by omega) ?_ | with_reducible refine aM H M (ix4 269 4 _ 1) (by omega) ?_ | with_reducible refine aM H M (ix4 269 4 _ 2) (by omega) ?_ | with_reducible refine aM H M (ix4 269 4 _ 3) (by omega) ?_ | with_reducible refine fG H (by with_unfolding_all exact H.b) (by with_unfolding_all rfl) ?_ | with_reducible refine aG H (by with_unfolding_all exact H.b) (by with_unfolding_all rfl) (by decide) rfl (by omega) ?_))
            refine br_if (fun d2 => ?_) (fun d2 => ?_)
            · rw [bI_t (by simp only [colP, e, decide_eq_true_eq]; rw [if_pos ⟨d2, by omega⟩, Option.some.injEq]; omega)] at kk3
              exact kk3
            · rw [bI_f (by simp [colP, e, d2])] at kk3
              exact kk3
        · have : ¬ colP wd N side r i = some j := by
            unfold colP
            cases e : sureG wd N i with
            | none => simp
            | some g =>
              dsimp only
              intro z
              split at z
              · rename_i y
                have := Option.some.inj z
                omega
              · cases z
          rw [bI_f (by simpa using this)] at kk3
          exact kk3
    · dsimp only [w_X12_gathersRow_19]
      (repeat (first | with_reducible refine m_finds H M ?_ | with_reducible refine bd_i ?_ | with_reducible refine fP H (by with_unfolding_all exact H.b) (by with_unfolding_all rfl) (by with_unfolding_all rfl) ?_ | with_reducible refine vG H (by with_unfolding_all exact H.b) (by with_unfolding_all rfl) ?_ | with_reducible refine aM H M rfl (by omega) ?_ | with_reducible refine aM H M (ix0 0) (by omega) ?_ | with_reducible refine aM H M (ix0 1) (by omega) ?_ | with_reducible refine aM H M (ix0 2) (by omega) ?_ | with_reducible refine aM H M (ix0 3) (by omega) ?_ | with_reducible refine aM H M (ix0 4) (by omega) ?_ | with_reducible refine aM H M (ix0 5) (by omega) ?_ | with_reducible refine aM H M (ix0 6) (by omega) ?_ | with_reducible refine aM H M (ix0 7) (by omega) ?_ | with_reducible refine aM H M (ix0 8) (by omega) ?_ | with_reducible refine aM H M (ix0 9) (by omega) ?_ | with_reducible refine aM H M (ix0 10) (by omega) ?_ | with_reducible refine aM H M (ix0 11) (by omega) ?_ | with_reducible refine aM H M (ix0 12) (by omega) ?_ | with_reducible refine aM H M (ix1 13 _) (by omega) ?_ | with_reducible refine aM H M (ix1 1161 _) (by omega) ?_ | with_reducible refine aM H M (ix2 269 4 _) (by omega) ?_ | with_reducible refine aM H M (ix4 269 4 _ 1) (by omega) ?_ | with_reducible refine aM H M (ix4 269 4 _ 2) (by omega) ?_ | with_reducible refine aM H M (ix4 269 4 _ 3) (by omega) ?_ | with_reducible refine fG H (by with_unfolding_all exact H.b) (by with_unfolding_all rfl) ?_ | with_reducible refine aG H (by with_unfolding_all exact H.b) (by with_unfolding_all rfl) (by decide) rfl (by omega) ?_))
      rw [e3]
      exact br_end fin
  · obtain ⟨v, h2⟩ := s
    obtain ⟨e1, X2, H2, o2, L2, n2⟩ := hI
    dsimp only at e1 H2 ⊢
    subst e1
    unfold w_X12_gathersRow_7
    exact br_end (a := 16) (k X2 h2 H2 o2 L2 n2)
end HELD2
