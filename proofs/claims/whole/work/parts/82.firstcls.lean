/-! ways: the class's first case of a soonest round -/
def en2 (o : Option Nat) : Int32 := match o with
  | none => -1
  | some t => nI (239 - t)
abbrev bF (ti : Nat → Nat) : Nat → Nat := fun i => 239 - ti i
abbrev bO (on : Nat → Nat → Nat) : Nat → Nat → Nat := fun k i => on i k
abbrev T2c (n : Nat) (fr ti : Nat → Nat) (E : Nat) : Nat → Nat → Option Nat := iniT n (fun i => decide (fr i ≤ min (ti i) E)) (fun i => 239 - min (ti i) E)
abbrev Bc (fr ti : Nat → Nat) (on : Nat → Nat → Nat) (n E : Nat) : Nat → Nat → Option Nat := stS (bF ti) (bF fr) (bO on) n (T2c n fr ti E) (2 ^ n)
theorem neg1_nI {t : Nat} (h : t < 2 ^ 31) : ¬ nI t = -1 := by
  intro e
  have e2 : (nI t).toInt = (-1 : Int32).toInt := congrArg Int32.toInt e
  rw [nI_toInt h] at e2
  have e3 : ((-1 : Int32)).toInt = -1 := rfl
  omega
theorem en2_m {o : Option Nat} : en2 o = -1 ↔ o = none := by
  cases o with
  | none => exact ⟨fun _ => rfl, fun _ => rfl⟩
  | some t => exact ⟨fun e => absurd e (neg1_nI (by omega)), fun e => by cases e⟩
theorem jmax_m1 {t : Nat} (h : t < 2 ^ 31) : jmax (nI t) (-1) = nI t ∧ jmax (-1) (nI t) = nI t := by
  unfold jmax
  constructor
  · rw [if_neg]
    rw [Int32.lt_iff_toInt_lt, nI_toInt h]
    show ¬ (_ < (-1 : Int))
    omega
  · rw [if_pos]
    rw [Int32.lt_iff_toInt_lt, nI_toInt h]
    show (-1 : Int) < _
    omega
theorem en2_max {o : Option Nat} {a : Nat} (ho : ∀ t, o = some t → t ≤ 239) (ha : a ≤ 239) : jmax (en2 o) (nI (239 - a)) = en2 (mnO o a) := by
  cases o with
  | none => exact (jmax_m1 (by omega)).2
  | some t =>
    have := ho t rfl
    show jmax (nI (239 - t)) (nI (239 - a)) = nI (239 - min t a)
    rw [j_max (by omega) (by omega)]
    congr 1
    omega
theorem en2_max0 {o : Option Nat} : jmax (en2 o) (-1) = en2 o := by
  cases o with
  | none => decide
  | some t => exact (jmax_m1 (by omega)).1
section FIRSTC
variable {A : Nat → Nat} {S : Nat → Prop} {h0 h : AH} {X : Nat → Nat → Int32} {wd : Nat → Int32} {N : Nat → Nat} {Q : Int32 → AH → Prop} {Qv : AH → Prop} {a3 : Nat} {n : Nat} {fr ti : Nat → Nat} {on : Nat → Nat → Nat}
theorem c_inTime (H : G A S h0 X h) (hS : S 1) (W : WA X n fr ti on) (B : WB n fr ti on) {i a : Nat} {w : Int32} (hi : i < n) (ha : a ≤ 10000) (hw : w.toInt = 239 - a) (k : Q (if max (239 - ti i) a ≤ 239 - fr i then nI (239 - max (239 - ti i) a) else -1) h) : w_X10_inTime (A 10) (nI i) w h Q := by
  have hn8 := B.1
  have b1 := B.2.1 i hi
  dsimp only [w_X10_inTime, w_X10_inTime_26]
  refine fP (o := 10) H hS rfl rfl ?_
  refine aG (id := 1103) H hS rfl (by decide) rfl (by omega) ?_
  refine bd_i ?_
  refine fP (o := 10) H hS rfl rfl ?_
  refine aG (id := 1102) H hS rfl (by decide) rfl (by omega) ?_
  rw [(W.2.1 i hi).1, (W.2.1 i hi).2]
  have hm : (jmin (nI (ti i)) w).toInt = 239 - ((max (239 - ti i) a : Nat) : Int) := by
    unfold jmin
    by_cases c : w < nI (ti i)
    · rw [if_pos c, hw]
      rw [Int32.lt_iff_toInt_lt, hw, nI_toInt (by omega)] at c
      omega
    · rw [if_neg c, nI_toInt (by omega)]
      rw [Int32.lt_iff_toInt_lt, hw, nI_toInt (by omega)] at c
      omega
  refine br_if (fun c => ?_) (fun c => ?_)
  · rw [Int32.lt_iff_toInt_lt, hm, nI_toInt (by omega)] at c
    rw [if_neg (by omega)] at k
    exact k
  · rw [Int32.lt_iff_toInt_lt, hm, nI_toInt (by omega)] at c
    rw [if_pos (by omega)] at k
    have : jmin (nI (ti i)) w = nI (239 - max (239 - ti i) a) := by
      apply Int32.toInt_inj.mp
      rw [hm, nI_toInt (by omega)]
      omega
    rw [this]
    exact k
theorem c_comeTo (H : G A S h0 X h) (hS : S 1) (W : WA X n fr ti on) (B : WB n fr ti on) {T : Nat → Nat → Option Nat} {s k t : Nat} (hs : s < 2 ^ n) (hk : k < n) (hT : T s k = some t) (TBT : TB T) (E : TE 1105 en2 n T X) (kk : ∀ X' h', G A S h0 X' h' → Off [1105] X X' → TE 1105 en2 n (rlx (bF ti) (bF fr) (bO on) T s k t n) X' → Qv h') : w_X10_comeTo (A 10) (nI s) (nI k) h Qv := by
  have hp8 := p2_8 B.1
  have hb := TBT s k t hT
  have hn8 := B.1
  dsimp only [w_X10_comeTo, w_X10_comeTo_90]
  refine fP (o := 10) H hS rfl rfl ?_
  refine aG (id := 1105) H hS rfl (by decide) (ixw s k) (by omega) ?_
  rw [E s k hs hk, hT]
  refine lp_inv n (fun j (x : Int32 × AH) => x.1 = nI j ∧ ∃ X', G A S h0 X' x.2 ∧ Off [1105] X X' ∧ TE 1105 en2 n (rlx (bF ti) (bF fr) (bO on) T s k t j) X') (fun j x kk1 hj hI kn => ?_) (fun x kk1 hI => ?_) (Nat.zero_le _) ⟨rfl, X, H, Off.rf _ _, E⟩
  · obtain ⟨v, h1⟩ := x
    obtain ⟨e1, X1, H1, o1, E1⟩ := hI
    dsimp only at e1 H1 ⊢
    subst e1
    have W1 : WA X1 n fr ti on := W.off (by rw [o1 10 (by decide)]) (o1 1102 (by decide)) (o1 1103 (by decide)) (o1 1104 (by decide))
    dsimp only [w_X10_comeTo_15, w_X10_comeTo_84, en2]
    refine fG (o := 10) H1 hS rfl ?_
    rw [W1.1]
    refine br_go hj (by omega) ?_
    refine br_if (fun c => ?_) (fun c => ?_)
    · rw [b_at0N (by omega)] at c
      have hkj : j ≠ k := by
        rintro rfl
        rw [hb.2] at c
        cases c
      have hor : s ||| 2 ^ j < 2 ^ n := Nat.or_lt_two_pow hs (Nat.pow_lt_pow_right (by omega) hj)
      rw [sh1 (by omega), nI_or]
      refine bd_i ?_
      refine fP (o := 10) H1 hS rfl rfl ?_
      refine fP (o := 10) H1 hS rfl rfl ?_
      refine aG (id := 1105) H1 hS rfl (by decide) (ixw _ _) (by omega) ?_
      refine fP (o := 10) H1 hS rfl rfl ?_
      refine aG (id := 1104) H1 hS rfl (by decide) (ixw j k) (by omega) ?_
      refine vG (o := 10) H1 hS rfl ?_
      rw [E1 _ _ hor hj, W1.2.2 j k hj hk hkj]
      have b1 := B.2.1 j hj
      have b2 := B.2.2 j k hj hk
      have TB1 := TBT.rlxI (fr := bF ti) (ti := bF fr) (on := bO on) (s := s) (k := k) (t := t) (n := n) (fun i hi => by dsimp only [bF]; omega) j (Nat.le_of_lt hj)
      refine c_inTime H1 hS W1 B (a := t + on j k) hj (by omega) (by rw [pk_sub_toInt (by omega) (by omega)]; omega) ?_
      by_cases d : max (239 - ti j) (t + on j k) ≤ 239 - fr j
      · rw [if_pos d, en2_max (fun u hu => (TB1 _ _ u hu).1) (by omega)]
        refine tG (id := 1105) H1 hS rfl (by decide) (ixw _ _) (by omega) (fun h2 H2 => ?_)
        refine kn _ ⟨(nI_succ j).symm, _, H2, o1.up (by decide) _ _, ?_⟩
        simp only [rlx]
        rw [if_pos ⟨c, d⟩]
        exact E1.up hj hn8 _
      · rw [if_neg d, en2_max0]
        refine tG (id := 1105) H1 hS rfl (by decide) (ixw _ _) (by omega) (fun h2 H2 => ?_)
        refine kn _ ⟨(nI_succ j).symm, _, H2, o1.up (by decide) _ _, ?_⟩
        simp only [rlx]
        rw [if_neg (fun z => d z.2)]
        have := E1.up (s := s ||| 2 ^ j) hj hn8 (rlx (bF ti) (bF fr) (bO on) T s k t j (s ||| 2 ^ j) j)
        intro a b ha hb'
        rw [this a b ha hb']
        unfold up2
        congr 1
        by_cases z : a = s ||| 2 ^ j ∧ b = j
        · rw [if_pos z, z.1, z.2]
        · rw [if_neg z]
    · rw [b_at0N (by omega)] at c
      refine kn _ ⟨(nI_succ j).symm, X1, H1, o1, ?_⟩
      simp only [rlx]
      rw [if_neg (fun z => c z.1)]
      exact E1
  · obtain ⟨v, h1⟩ := x
    obtain ⟨e1, X1, H1, o1, E1⟩ := hI
    dsimp only at e1 H1 ⊢
    subst e1
    dsimp only [w_X10_comeTo_15]
    refine fG (o := 10) H1 hS rfl ?_
    rw [o1 10 (by decide), W.1]
    exact br_end (kk _ _ H1 o1 E1)
theorem T2c_TB {E : Nat} : TB (T2c n fr ti E) := iniT_TB (fun i _ _ => by omega)
theorem c_firstFind (H : G A S h0 X h) (hS : S 1) (W : WA X n fr ti on) (B : WB n fr ti on) {oE : Option Nat} (hE : X 10 8 = en1 oE) (hE2 : ∀ E, oE = some E → E ≤ 239) (kk0 : oE = none → Q (-1) h) (kk : ∀ E, oE = some E → ∀ X' h', G A S h0 X' h' → Off [1105] X X' → Q (match fsO (fun k => (Bc fr ti on n E (2 ^ n - 1) k).isSome) n with | none => -1 | some k => X 1101 k) h') : w_X10_firstFind (A 10) h Q := by
  have hn8 := B.1
  have hp8 := p2_8 hn8
  have hp0 := Nat.two_pow_pos n
  have hti : ∀ i, i < n → bF fr i ≤ 239 := fun i hi => by dsimp only [bF]; omega
  dsimp only [w_X10_firstFind]
  refine fG (o := 10) H hS rfl ?_
  rw [hE]
  refine br_if (fun c => kk0 ((en1_m hE2).mp c)) (fun c => ?_)
  cases oE with
  | none => exact absurd rfl c
  | some E =>
  have hE3 := hE2 E rfl
  have kk := kk E rfl
  refine fG (o := 10) H hS rfl ?_
  rw [W.1, shf hn8]
  refine bd_i ?_
  refine vG (o := 10) H hS rfl ?_
  refine c_clearBest H hS W.1 hn8 (en := en2) rfl (fun X1 h1 H1 o1 E1 => ?_)
  refine lp_inv n (fun j (x : Int32 × AH) => x.1 = nI j ∧ ∃ X', G A S h0 X' x.2 ∧ Off [1105] X X' ∧ TE 1105 en2 n (iniT j (fun i => decide (fr i ≤ min (ti i) E)) (fun i => 239 - min (ti i) E)) X') (fun j x kk1 hj hI kn => ?_) (fun x kk1 hI => ?_) (Nat.zero_le _) ⟨rfl, X1, H1, o1, fun s k hs hk => by rw [E1 s k hs hk]; unfold iniT; rw [if_neg (fun z => absurd z.2.1 (Nat.not_lt_zero _))]⟩
  · obtain ⟨v, h2⟩ := x
    obtain ⟨e1, X2, H2, o2, E2⟩ := hI
    dsimp only at e1 H2 ⊢
    subst e1
    have W2 : WA X2 n fr ti on := W.off (by rw [o2 10 (by decide)]) (o2 1102 (by decide)) (o2 1103 (by decide)) (o2 1104 (by decide))
    have b1 := B.2.1 j hj
    dsimp only [w_X10_firstFind_25]
    refine fG (o := 10) H2 hS rfl ?_
    rw [W2.1]
    refine br_go hj (by omega) ?_
    have h2j : 2 ^ j < 2 ^ n := Nat.pow_lt_pow_right (by omega) hj
    refine fP (o := 10) H2 hS rfl rfl ?_
    refine fG (o := 10) H2 hS rfl ?_
    refine vG (o := 10) H2 hS rfl ?_
    rw [o2 10 (by decide), hE]
    refine c_inTime H2 hS W2 B (a := 239 - E) hj (by omega) (by show (nI E).toInt = _; rw [nI_toInt (by omega)]; omega) ?_
    rw [sh1 (by omega)]
    refine tG (id := 1105) H2 hS rfl (by decide) (ixw _ _) (by omega) (fun h3 H3 => ?_)
    refine kn _ ⟨(nI_succ j).symm, _, H3, o2.up (by decide) _ _, ?_⟩
    by_cases d : max (239 - ti j) (239 - E) ≤ 239 - fr j
    · rw [if_pos d]
      have e4 : 239 - max (239 - ti j) (239 - E) = 239 - (239 - min (ti j) E) := by omega
      have d2 : fr j ≤ min (ti j) E := by omega
      rw [e4]
      exact TE_ini E2 hj hn8 (o := some (239 - min (ti j) E)) (by rw [if_pos (decide_eq_true d2)])
    · rw [if_neg d]
      have d2 : ¬ fr j ≤ min (ti j) E := by omega
      exact TE_ini E2 hj hn8 (o := none) (by rw [if_neg (by rw [decide_eq_true_iff]; exact d2)])
  · obtain ⟨v, h2⟩ := x
    obtain ⟨e1, X2, H2, o2, E2⟩ := hI
    dsimp only at e1 H2 ⊢
    subst e1
    dsimp only [w_X10_firstFind_25, w_X10_firstFind_61]
    refine fG (o := 10) H2 hS rfl ?_
    rw [o2 10 (by decide), W.1]
    refine br_end ?_
    refine lp_inv (2 ^ n) (fun s (x : Int32 × AH) => 0 < s ∧ x.1 = nI s ∧ ∃ X', G A S h0 X' x.2 ∧ Off [1105] X X' ∧ TE 1105 en2 n (stS (bF ti) (bF fr) (bO on) n (T2c n fr ti E) s) X') (fun s x kk1 hs hI kn => ?_) (fun x kk1 hI => ?_) (i := 1) (by omega) ⟨by decide, rfl, X2, H2, o2, by rw [stS_1 T2c_TB]; exact E2⟩
    · obtain ⟨v, h3⟩ := x
      obtain ⟨s0, e1, X3, H3, o3, E3⟩ := hI
      dsimp only at s0 e1 H3 ⊢
      subst e1
      dsimp only [w_X10_firstFind_63]
      refine br_F (nI_nlt (by omega) (by omega)) ?_
      have BS : TB (stS (bF ti) (bF fr) (bO on) n (T2c n fr ti E) s) := T2c_TB.stSI hti s
      refine lp_inv n (fun k (x : Int32 × AH) => x.1 = nI k ∧ ∃ X', G A S h0 X' x.2 ∧ Off [1105] X X' ∧ TE 1105 en2 n (stK (bF ti) (bF fr) (bO on) n (stS (bF ti) (bF fr) (bO on) n (T2c n fr ti E) s) s k) X') (fun k x kk2 hk hI kn2 => ?_) (fun x kk2 hI => ?_) (Nat.zero_le _) ⟨rfl, _, H3, o3, E3⟩
      · obtain ⟨v, h5⟩ := x
        obtain ⟨e1, X5, H5, o5, E5⟩ := hI
        dsimp only at e1 H5 ⊢
        subst e1
        have W5 : WA X5 n fr ti on := W.off (by rw [o5 10 (by decide)]) (o5 1102 (by decide)) (o5 1103 (by decide)) (o5 1104 (by decide))
        dsimp only [w_X10_firstFind_70, w_X10_firstFind_99]
        refine fG (o := 10) H5 hS rfl ?_
        rw [W5.1]
        refine br_go hk (by omega) ?_
        refine fP (o := 10) H5 hS rfl rfl ?_
        refine aG (id := 1105) H5 hS rfl (by decide) (ixw _ _) (by omega) ?_
        rw [E5 s k hs hk]
        have BK : TB (stK (bF ti) (bF fr) (bO on) n (stS (bF ti) (bF fr) (bO on) n (T2c n fr ti E) s) s k) := BS.stKI hti k
        refine br_if (fun c => ?_) (fun c => ?_)
        · rw [en2_m] at c
          refine kn2 _ ⟨(nI_succ k).symm, X5, H5, o5, ?_⟩
          simp only [stK]
          rw [c]
          exact E5
        · cases d : stK (bF ti) (bF fr) (bO on) n (stS (bF ti) (bF fr) (bO on) n (T2c n fr ti E) s) s k s k with
          | none => rw [d] at c; exact absurd rfl c
          | some t =>
            refine vG (o := 10) H5 hS rfl ?_
            refine c_comeTo H5 hS W5 B hs hk d BK E5 (fun X7 h7 H7 o7 E7 => ?_)
            refine kn2 _ ⟨(nI_succ k).symm, X7, H7, o5.tr o7, ?_⟩
            simp only [stK]
            rw [d]
            exact E7
      · obtain ⟨v, h5⟩ := x
        obtain ⟨e1, X5, H5, o5, E5⟩ := hI
        dsimp only at e1 H5 ⊢
        subst e1
        dsimp only [w_X10_firstFind_70, w_X10_firstFind_105]
        refine fG (o := 10) H5 hS rfl ?_
        rw [o5 10 (by decide), W.1]
        refine br_end ?_
        exact kn _ ⟨by omega, (nI_succ s).symm, X5, H5, o5, E5⟩
    · obtain ⟨v, h3⟩ := x
      obtain ⟨s0, e1, X3, H3, o3, E3⟩ := hI
      dsimp only at s0 e1 H3 ⊢
      subst e1
      dsimp only [w_X10_firstFind_63, w_X10_firstFind_111]
      refine br_T (nI_lt (by omega) (by omega)) ?_
      have kk := kk X3 h3 H3 o3
      refine lp_ex n (fun j => (nI j, h3)) (fun j => fsO (fun k => (Bc fr ti on n E (2 ^ n - 1) k).isSome) j = none) (fun j kk2 hj hP kn2 => ?_) (fun hP kk2 => ?_) (Nat.zero_le _) rfl
      · dsimp only [w_X10_firstFind_113]
        refine fG (o := 10) H3 hS rfl ?_
        rw [o3 10 (by decide), W.1]
        refine br_go hj (by omega) ?_
        refine fP (o := 10) H3 hS rfl rfl ?_
        refine aG (id := 1105) H3 hS rfl (by decide) (ixw _ _) (by omega) ?_
        rw [E3 (2 ^ n - 1) j (by omega) hj]
        refine br_if (fun c => ?_) (fun c => ?_)
        · rw [en2_m] at c
          rw [nI_succ] at kn2
          refine kn2 ?_
          simp only [fsO, hP]
          rw [if_neg]
          show ¬ (stS (bF ti) (bF fr) (bO on) n (T2c n fr ti E) (2 ^ n) (2 ^ n - 1) j).isSome = true
          rw [c]
          exact fun z => by cases z
        · have c2 : (Bc fr ti on n E (2 ^ n - 1) j).isSome = true := by
            cases z : Bc fr ti on n E (2 ^ n - 1) j with
            | none => rw [en2_m] at c; exact absurd z c
            | some t => rfl
          dsimp only [w_X10_firstFind_136]
          refine fP (o := 10) H3 hS rfl rfl ?_
          refine aG (id := 1101) H3 hS rfl (by decide) rfl (by omega) ?_
          rw [fsO_at hj hP c2] at kk
          rw [o3 1101 (by decide)]
          exact kk
      · dsimp only [w_X10_firstFind_113, w_X10_firstFind_149]
        refine fG (o := 10) H3 hS rfl ?_
        rw [o3 10 (by decide), W.1]
        refine br_end ?_
        rw [hP] at kk
        exact kk
end FIRSTC
