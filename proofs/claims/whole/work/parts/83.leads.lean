/-! ways: the reference's leads, earliest and hands -/
def enM (o : Option Nat) : Int32 := match o with
  | none => 100000
  | some t => nI t
def frW (wd : Nat → Int32) (c : Nat → Nat) (i : Nat) : Nat := nt (wd (353 + 6 * c i))
def tiW (wd : Nat → Int32) (c : Nat → Nat) (i : Nat) : Nat := nt (wd (354 + 6 * c i))
def ceW (wd : Nat → Int32) (c : Nat → Nat) (i : Nat) : Nat := nt (wd (350 + 6 * c i))
def onW (wd : Nat → Int32) (c : Nat → Nat) (i j : Nat) : Nat := nt (onf wd (ceW wd c i) (ceW wd c j))
theorem onf_bn {wd : Nat → Int32} {a b : Nat} (ha : a ≤ 255) (hb : b ≤ 255) : bn (onf wd a b) 100 := by
  obtain ⟨h1, h2⟩ := far_N ha hb
  unfold onf
  rw [h1]
  rcases bI_or (b := decide (¬ wd (13 + b) ≤ wd (13 + a))) with e | e
  · rw [e, Int32.add_zero]
    exact bn.of (by omega) (by decide)
  · rw [e, ← nI_succ]
    exact bn.of (by omega) (by decide)
section WD
variable {wd : Nat → Int32} {N : Nat → Nat} {n : Nat} {c : Nat → Nat}
theorem W_fr (O : Ok wd N) {i : Nat} (h : c i < N 3) : wd (353 + 6 * c i) = nI (frW wd c i) := (O.F h).2.2.2.2.1.1
theorem W_ti (O : Ok wd N) {i : Nat} (h : c i < N 3) : wd (354 + 6 * c i) = nI (tiW wd c i) := (O.F h).2.2.2.2.2.1.1
theorem W_ce (O : Ok wd N) {i : Nat} (h : c i < N 3) : wd (350 + 6 * c i) = nI (ceW wd c i) ∧ ceW wd c i ≤ 255 := (O.F h).2.1
theorem W_on (O : Ok wd N) {i j : Nat} (hi : c i < N 3) (hj : c j < N 3) : onf wd (ceW wd c i) (ceW wd c j) = nI (onW wd c i j) := (onf_bn (W_ce O hi).2 (W_ce O hj).2).1
theorem W_WB (O : Ok wd N) (hn : n ≤ 8) (hc : ∀ i, i < n → c i < N 3) : WB n (frW wd c) (tiW wd c) (onW wd c) := by
  refine ⟨hn, fun i hi => ⟨(O.F (hc i hi)).2.2.2.2.2.2.1, (O.F (hc i hi)).2.2.2.2.2.1.2⟩, fun i j hi hj => (onf_bn (W_ce O (hc i hi)).2 (W_ce O (hc j hj)).2).2⟩
end WD
def RW (X : Nat → Nat → Int32) (n : Nat) (c : Nat → Nat) : Prop := X 12 20 = nI n ∧ ∀ i, i < n → X 1319 i = nI (c i)
theorem RW.off {X X' : Nat → Nat → Int32} {n : Nat} {c : Nat → Nat} (W : RW X n c) (h0 : X' 12 20 = X 12 20) (h2 : X' 1319 = X 1319) : RW X' n c := ⟨h0.trans W.1, fun i hi => by rw [h2]; exact W.2 i hi⟩
theorem enM_m {o : Option Nat} (h : ∀ t, o = some t → t ≤ 239) : enM o = 100000 ↔ o = none := by
  cases o with
  | none => exact ⟨fun _ => rfl, fun _ => rfl⟩
  | some t =>
    have := h t rfl
    refine ⟨fun e => ?_, fun e => by cases e⟩
    have e2 : (nI t).toInt = (nI 100000).toInt := congrArg Int32.toInt e
    rw [nI_toInt (by omega), nI_toInt (by decide)] at e2
    omega
theorem enM_min {o : Option Nat} {a : Nat} (h : ∀ t, o = some t → t ≤ 239) (ha : a ≤ 10000) : jmin (enM o) (nI a) = enM (mnO o a) := by
  cases o with
  | none =>
    have : jmin (nI 100000) (nI a) = nI (min 100000 a) := j_min (by decide) (by omega)
    rw [Nat.min_eq_right (by omega)] at this
    exact this
  | some t =>
    have := h t rfl
    exact j_min (by omega) (by omega)
theorem enM_min2 {o p : Option Nat} (h : ∀ t, o = some t → t ≤ 239) (hp : ∀ t, p = some t → t ≤ 239) : jmin (enM o) (enM p) = enM (mn2 o p) := by
  cases p with
  | some a =>
    have := hp a rfl
    exact enM_min h (by omega)
  | none =>
    cases o with
    | none => decide
    | some t =>
      have := h t rfl
      have e : jmin (nI t) (nI 100000) = nI (min t 100000) := j_min (by omega) (by decide)
      rw [Nat.min_eq_left (by omega)] at e
      exact e
theorem sh8m {n : Nat} (h : n ≤ 8) : (8 : Int32) <<< (nI n &&& 31) = nI (8 * 2 ^ n) := by
  have key : ∀ n, n ≤ 8 → (8 : Int32) <<< (nI n &&& 31) = nI (8 * 2 ^ n) := by decide +kernel
  exact key n h
section LEADS
variable {A : Nat → Nat} {S : Nat → Prop} {h0 h : AH} {X : Nat → Nat → Int32} {wd : Nat → Int32} {N : Nat → Nat} {Q : Int32 → AH → Prop} {Qv : AH → Prop} {n : Nat} {c : Nat → Nat}
theorem m_earliest (H : G A S h0 X h) (hX : X 12 20 = nI n) (hn : n ≤ 8) {T : Nat → Nat → Option Nat} (B : TB T) (E : TE 1321 enM n T X) {s : Nat} (hs : s < 2 ^ n) (k : Q (enM (erl T s n)) h) : w_X12_earliest (A 12) (nI s) h Q := by
  have hp8 := p2_8 hn
  have hb : ∀ j t, erl T s j = some t → t ≤ 239 := fun j t ht => by
    obtain ⟨⟨i, i1, i2⟩, _⟩ := erl_some ht
    exact (B _ _ t i2).1
  refine lp_up n (fun j => (enM (erl T s j), nI j, h)) (fun j kk hj kn => ?_) (fun kk => ?_) (Nat.zero_le _)
  · dsimp only [w_X12_earliest_6]
    refine fG (o := 12) H H.b rfl ?_
    rw [hX]
    refine br_go hj (by omega) ?_
    refine fP (o := 12) H H.b rfl rfl ?_
    refine aG (id := 1321) H H.b rfl (by decide) (ixv _ _) (by omega) ?_
    rw [E s j hs hj, enM_min2 (hb j) (fun t ht => (B _ _ t ht).1), ← erl_s]
    rw [nI_succ] at kn
    exact bd_i kn
  · dsimp only [w_X12_earliest_6, w_X12_earliest_36]
    refine fG (o := 12) H H.b rfl ?_
    rw [hX]
    exact br_end k
theorem m_leads (H : G A S h0 X h) (M : MR X wd) (O : Ok wd N) (W : RW X n c) (hn8 : n ≤ 8) (hc : ∀ i, i < n → c i < N 3) {v : Int32} {ok : Nat → Bool} (hv : (v = -1 ∧ ok = fun _ => true) ∨ ∃ f, f < 8 ∧ v = nI f ∧ ok = fun i => decide (i = f)) (kk : ∀ X' h', G A S h0 X' h' → Off [1321] X X' → TE 1321 enM n (stS (frW wd c) (tiW wd c) (onW wd c) n (iniT n ok (frW wd c)) (2 ^ n)) X' → Qv h') : w_X12_leads (A 12) v h Qv := by
  have hp8 := p2_8 hn8
  have hp0 := Nat.two_pow_pos n
  have B := W_WB O hn8 hc
  have hti : ∀ i, i < n → tiW wd c i ≤ 239 := fun i hi => (B.2.1 i hi).2
  have hN3 := O.f.2
  dsimp only [w_X12_leads]
  refine lp_inv (8 * 2 ^ n) (fun j (x : Int32 × AH) => x.1 = nI j ∧ ∃ X', G A S h0 X' x.2 ∧ Off [1321] X X' ∧ ∀ i, i < j → X' 1321 i = 100000) (fun j x kk1 hj hI kn => ?_) (fun x kk1 hI => ?_) (Nat.zero_le _) ⟨rfl, X, H, Off.rf _ _, fun i hi => absurd hi (Nat.not_lt_zero _)⟩
  · obtain ⟨v, h1⟩ := x
    obtain ⟨e1, X1, H1, o1, E1⟩ := hI
    dsimp only at e1 H1 ⊢
    subst e1
    dsimp only [w_X12_leads_2]
    refine fG (o := 12) H1 H1.b rfl ?_
    rw [o1 12 (by decide), W.1, sh8m hn8]
    refine br_go hj (by omega) ?_
    refine fP (o := 12) H1 H1.b rfl rfl ?_
    refine tG (id := 1321) H1 H1.b rfl (by decide) rfl (by omega) (fun h2 H2 => ?_)
    refine kn _ ⟨(nI_succ j).symm, _, H2, o1.up (by decide) _ _, fun i hi => ?_⟩
    by_cases e : i = j
    · subst e; rw [up_same]
    · rw [up_n _ _ _ e]
      exact E1 i (by omega)
  · obtain ⟨v2, h1⟩ := x
    obtain ⟨e1, X1, H1, o1, E1⟩ := hI
    dsimp only at e1 H1 ⊢
    subst e1
    dsimp only [w_X12_leads_2, w_X12_leads_28]
    refine fG (o := 12) H1 H1.b rfl ?_
    rw [o1 12 (by decide), W.1, sh8m hn8]
    refine br_end ?_
    refine lp_inv n (fun j (x : Int32 × AH) => x.1 = nI j ∧ ∃ X', G A S h0 X' x.2 ∧ Off [1321] X X' ∧ TE 1321 enM n (iniT j ok (frW wd c)) X') (fun j x kk1 hj hI kn => ?_) (fun x kk1 hI => ?_) (Nat.zero_le _) ⟨rfl, X1, H1, o1, fun s k hs hk => by rw [E1 _ (by omega)]; unfold iniT; rw [if_neg (fun z => absurd z.2.1 (Nat.not_lt_zero _))]; rfl⟩
    · obtain ⟨v3, h2⟩ := x
      obtain ⟨e1, X2, H2, o2, E2⟩ := hI
      dsimp only at e1 H2 ⊢
      subst e1
      have W2 : RW X2 n c := W.off (by rw [o2 12 (by decide)]) (o2 1319 (by decide))
      have M2 := M.offL o2 (by decide)
      have hcj := hc j hj
      have h2j : 2 ^ j < 2 ^ n := Nat.pow_lt_pow_right (by omega) hj
      dsimp only [w_X12_leads_30]
      refine fG (o := 12) H2 H2.b rfl ?_
      rw [W2.1]
      refine br_go hj (by omega) ?_
      have yes : ok j = true → w_X12_leads_47 (fun h => w_X12_leads_77 (A 12) h Qv) (fun y2 h => kk1 (y2, h)) (A 12) v (nI j) h2 Qv := by
        intro hok
        dsimp only [w_X12_leads_47, w_X12_leads_71]
        refine fP (o := 12) H2 H2.b rfl rfl ?_
        refine fP (o := 12) H2 H2.b rfl rfl ?_
        refine aG (id := 1319) H2 H2.b rfl (by decide) rfl (by omega) ?_
        rw [W2.2 j hj]
        refine vG (o := 12) H2 H2.b rfl ?_
        refine f4 H2 M2 (by omega) ?_
        rw [W_fr O hcj, sh1 (by omega)]
        refine tG (id := 1321) H2 H2.b rfl (by decide) (ixv _ _) (by omega) (fun h3 H3 => ?_)
        exact kn _ ⟨(nI_succ j).symm, _, H3, o2.up (by decide) _ _, TE_ini E2 hj hn8 (o := some (frW wd c j)) (by rw [if_pos hok])⟩
      rcases hv with ⟨rfl, rfl⟩ | ⟨f, f8, rfl, rfl⟩
      · exact br_T (by decide) (yes rfl)
      · refine br_F (nI_nlt (a := f) (b := 0) (by omega) (by omega)) ?_
        refine br_Eq (by omega) (by omega) (fun d => yes (decide_eq_true d)) (fun d => ?_)
        refine kn _ ⟨(nI_succ j).symm, X2, H2, o2, fun a b ha hb => ?_⟩
        rw [E2 a b ha hb]
        unfold iniT
        congr 1
        by_cases z : a = 2 ^ b ∧ b < j ∧ decide (b = f) = true
        · rw [if_pos z, if_pos ⟨z.1, by omega, z.2.2⟩]
        · rw [if_neg z, if_neg (fun y => ?_)]
          have y2 := of_decide_eq_true y.2.2
          exact z ⟨y.1, by omega, y.2.2⟩
    · obtain ⟨v3, h2⟩ := x
      obtain ⟨e1, X2, H2, o2, E2⟩ := hI
      dsimp only at e1 H2 ⊢
      subst e1
      dsimp only [w_X12_leads_30, w_X12_leads_77]
      refine fG (o := 12) H2 H2.b rfl ?_
      rw [o2 12 (by decide), W.1]
      refine br_end ?_
      have T0B : TB (iniT n ok (frW wd c)) := iniT_TB (fun i hi _ => by have := B.2.1 i hi; omega)
      refine lp_inv (2 ^ n) (fun s (x : Int32 × AH) => 0 < s ∧ x.1 = nI s ∧ ∃ X', G A S h0 X' x.2 ∧ Off [1321] X X' ∧ TE 1321 enM n (stS (frW wd c) (tiW wd c) (onW wd c) n (iniT n ok (frW wd c)) s) X') (fun s x kk1 hs hI kn => ?_) (fun x kk1 hI => ?_) (i := 1) (by omega) ⟨by decide, rfl, X2, H2, o2, by rw [stS_1 T0B]; exact E2⟩
      · obtain ⟨v4, h3⟩ := x
        obtain ⟨s0, e1, X3, H3, o3, E3⟩ := hI
        dsimp only at s0 e1 H3 ⊢
        subst e1
        dsimp only [w_X12_leads_79]
        refine fG (o := 12) H3 H3.b rfl ?_
        rw [o3 12 (by decide), W.1, sh1 (by omega)]
        refine br_go hs (by omega) ?_
        have BS : TB (stS (frW wd c) (tiW wd c) (onW wd c) n (iniT n ok (frW wd c)) s) := T0B.stSI hti s
        refine lp_inv n (fun k (x : Int32 × AH) => x.1 = nI k ∧ ∃ X', G A S h0 X' x.2 ∧ Off [1321] X X' ∧ TE 1321 enM n (stK (frW wd c) (tiW wd c) (onW wd c) n (stS (frW wd c) (tiW wd c) (onW wd c) n (iniT n ok (frW wd c)) s) s k) X') (fun k x kk2 hk hI kn2 => ?_) (fun x kk2 hI => ?_) (Nat.zero_le _) ⟨rfl, _, H3, o3, E3⟩
        · obtain ⟨v5, h5⟩ := x
          obtain ⟨e1, X5, H5, o5, E5⟩ := hI
          dsimp only at e1 H5 ⊢
          subst e1
          dsimp only [w_X12_leads_91, w_X12_leads_251]
          refine fG (o := 12) H5 H5.b rfl ?_
          rw [o5 12 (by decide), W.1]
          refine br_go hk (by omega) ?_
          refine fP (o := 12) H5 H5.b rfl rfl ?_
          refine aG (id := 1321) H5 H5.b rfl (by decide) (ixv _ _) (by omega) ?_
          rw [E5 s k hs hk]
          have BK : TB (stK (frW wd c) (tiW wd c) (onW wd c) n (stS (frW wd c) (tiW wd c) (onW wd c) n (iniT n ok (frW wd c)) s) s k) := BS.stKI hti k
          refine br_if (fun cc => ?_) (fun cc => ?_)
          · rw [enM_m (fun t ht => (BK _ _ t ht).1)] at cc
            refine kn2 _ ⟨(nI_succ k).symm, X5, H5, o5, ?_⟩
            simp only [stK]
            rw [cc]
            exact E5
          · cases d : stK (frW wd c) (tiW wd c) (onW wd c) n (stS (frW wd c) (tiW wd c) (onW wd c) n (iniT n ok (frW wd c)) s) s k s k with
            | none => rw [d] at cc; exact absurd rfl cc
            | some t =>
              have ht9 := (BK _ _ t d).1
              refine lp_inv n (fun j (x : Int32 × AH) => x.1 = nI j ∧ ∃ X', G A S h0 X' x.2 ∧ Off [1321] X X' ∧ TE 1321 enM n (rlx (frW wd c) (tiW wd c) (onW wd c) (stK (frW wd c) (tiW wd c) (onW wd c) n (stS (frW wd c) (tiW wd c) (onW wd c) n (iniT n ok (frW wd c)) s) s k) s k t j) X') (fun j x kk3 hj hI kn3 => ?_) (fun x kk3 hI => ?_) (Nat.zero_le _) ⟨rfl, X5, H5, o5, E5⟩
              · obtain ⟨v6, h6⟩ := x
                obtain ⟨e1, X6, H6, o6, E6⟩ := hI
                dsimp only at e1 H6 ⊢
                subst e1
                have W6 : RW X6 n c := W.off (by rw [o6 12 (by decide)]) (o6 1319 (by decide))
                have M6 := M.offL o6 (by decide)
                dsimp only [w_X12_leads_126, w_X12_leads_245, enM]
                refine fG (o := 12) H6 H6.b rfl ?_
                rw [W6.1]
                refine br_go hj (by omega) ?_
                refine br_if (fun c1 => ?_) (fun c1 => ?_)
                · rw [b_at (by omega), b_nI (by omega)] at c1
                  refine kn3 _ ⟨(nI_succ j).symm, X6, H6, o6, ?_⟩
                  simp only [rlx]
                  rw [if_neg (fun z => by rw [c1] at z; cases z.1)]
                  exact E6
                · rw [b_at (by omega), b_nI (by omega), Bool.not_eq_true] at c1
                  have hck := hc k hk
                  have hcj := hc j hj
                  have g1 := W_ce O hck
                  have g2 := W_ce O hcj
                  have b1 := B.2.1 j hj
                  have b2 := B.2.2 k j hk hj
                  refine fP (o := 12) H6 H6.b rfl rfl ?_
                  refine aG (id := 1319) H6 H6.b rfl (by decide) rfl (by omega) ?_
                  rw [W6.2 k hk]
                  refine vG (o := 12) H6 H6.b rfl ?_
                  refine f1 H6 M6 (by omega) ?_
                  rw [g1.1]
                  refine fP (o := 12) H6 H6.b rfl rfl ?_
                  refine aG (id := 1319) H6 H6.b rfl (by decide) rfl (by omega) ?_
                  rw [W6.2 j hj]
                  refine vG (o := 12) H6 H6.b rfl ?_
                  refine f1 H6 M6 (by omega) ?_
                  rw [g2.1]
                  refine vG (o := 12) H6 H6.b rfl ?_
                  refine m_goes H6 M6 g1.2 g2.2 ?_
                  rw [W_on O hck hcj]
                  refine fP (o := 12) H6 H6.b rfl rfl ?_
                  refine aG (id := 1319) H6 H6.b rfl (by decide) rfl (by omega) ?_
                  rw [W6.2 j hj]
                  refine vG (o := 12) H6 H6.b rfl ?_
                  refine f4 H6 M6 (by omega) ?_
                  have e2 : jmax (nI t + nI (onW wd c k j)) (nI (frW wd c j)) = nI (arv (frW wd c) (onW wd c) t k j) := by
                    rw [nI_add, j_max (by omega) (by omega), Nat.max_comm]
                    rfl
                  have ha : arv (frW wd c) (onW wd c) t k j ≤ 10000 := by unfold arv; omega
                  rw [W_fr O hcj, e2]
                  refine bd_i ?_
                  have hor : s ||| 2 ^ j < 2 ^ n := Nat.or_lt_two_pow hs (Nat.pow_lt_pow_right (by omega) hj)
                  rw [sh1 (by omega), nI_or]
                  refine bd_i ?_
                  refine fP (o := 12) H6 H6.b rfl rfl ?_
                  refine aG (id := 1319) H6 H6.b rfl (by decide) rfl (by omega) ?_
                  rw [W6.2 j hj]
                  refine vG (o := 12) H6 H6.b rfl ?_
                  refine f5 H6 M6 (by omega) ?_
                  rw [W_ti O hcj]
                  refine br_Lt (by omega) (by omega) (fun d1 => ?_) (fun d1 => ?_)
                  · refine kn3 _ ⟨(nI_succ j).symm, X6, H6, o6, ?_⟩
                    simp only [rlx]
                    rw [if_neg (fun z => by omega)]
                    exact E6
                  · have TB1 := BK.rlxI (fr := frW wd c) (on := onW wd c) (s := s) (k := k) (t := t) hti j (Nat.le_of_lt hj)
                    refine fP (o := 12) H6 H6.b rfl rfl ?_
                    refine fP (o := 12) H6 H6.b rfl rfl ?_
                    refine aG (id := 1321) H6 H6.b rfl (by decide) (ixv _ _) (by omega) ?_
                    rw [E6 _ _ hor hj, enM_min (fun u hu => (TB1 _ _ u hu).1) ha]
                    refine tG (id := 1321) H6 H6.b rfl (by decide) (ixv _ _) (by omega) (fun h7 H7 => ?_)
                    refine kn3 _ ⟨(nI_succ j).symm, _, H7, o6.up (by decide) _ _, ?_⟩
                    simp only [rlx]
                    rw [if_pos ⟨c1, d1⟩]
                    exact E6.up hj hn8 _
              · obtain ⟨v6, h6⟩ := x
                obtain ⟨e1, X6, H6, o6, E6⟩ := hI
                dsimp only at e1 H6 ⊢
                subst e1
                dsimp only [w_X12_leads_126]
                refine fG (o := 12) H6 H6.b rfl ?_
                rw [o6 12 (by decide), W.1]
                refine br_end ?_
                refine kn2 _ ⟨(nI_succ k).symm, X6, H6, o6, ?_⟩
                simp only [stK]
                rw [d]
                exact E6
        · obtain ⟨v5, h5⟩ := x
          obtain ⟨e1, X5, H5, o5, E5⟩ := hI
          dsimp only at e1 H5 ⊢
          subst e1
          dsimp only [w_X12_leads_91, w_X12_leads_257]
          refine fG (o := 12) H5 H5.b rfl ?_
          rw [o5 12 (by decide), W.1]
          refine br_end ?_
          exact kn _ ⟨by omega, (nI_succ s).symm, X5, H5, o5, E5⟩
      · obtain ⟨v4, h3⟩ := x
        obtain ⟨s0, e1, X3, H3, o3, E3⟩ := hI
        dsimp only at s0 e1 H3 ⊢
        subst e1
        dsimp only [w_X12_leads_79, w_X12_leads_263]
        refine fG (o := 12) H3 H3.b rfl ?_
        rw [o3 12 (by decide), W.1, sh1 (by omega)]
        exact br_end (kk _ _ H3 o3 E3)
end LEADS
