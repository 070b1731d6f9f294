/-! who: the reference, the whole call -/
section WHOR2
variable {A : Nat → Nat} {S : Nat → Prop} {h0 h : AH} {X : Nat → Nat → Int32} {wd : Nat → Int32} {N : Nat → Nat} {Q : Int32 → AH → Prop} {Qv : AH → Prop} {a3 : Nat}
theorem m_canAll (H : G A S h0 X h) (M : MR X wd) (O : Ok wd N) (L : RoL X 1325 (boL wd (N 3))) (n1 : X 12 26 = nI (boL wd (N 3)).length) {w p : Nat} (hw : w < 8) (hp : p < 8) (k : ∀ X' h', G A S h0 X' h' → OM X X' → (∀ id, id ≠ 1327 → X' id = X id) → Q (bI (whB wd (boL wd (N 3)) w p)) h') : w_X12_canAll (A 12) (nI w) (nI p) h Q := by
  have h3 := O.f.2
  have b8 := boL_8 (wd := wd) (n := N 3)
  refine lp_inv 256 (fun j (s : Int32 × AH) => s.1 = nI j ∧ ∃ X', G A S h0 X' s.2 ∧ OM X X' ∧ (∀ id, id ≠ 1327 → X' id = X id) ∧ ∀ s, s < j → X' 1327 s = pI (s = 0)) (fun j s kk1 hj hI kk => ?_) (fun s kk1 hI => ?_) (Nat.zero_le _) ⟨rfl, X, H, OM.rf _, fun _ _ => rfl, fun s hs => absurd hs (Nat.not_lt_zero _)⟩
  · obtain ⟨v, h1⟩ := s
    obtain ⟨e1, X1, H1, o1, r1, I1⟩ := hI
    dsimp only at e1 H1 ⊢
    subst e1
    have fin : ∀ h2, G A S h0 (up X1 1327 j (pI (j = 0))) h2 → kk1 (nI j + 1, h2) := by
      intro h2 H2
      refine kk _ ⟨(nI_succ j).symm, _, H2, O27 o1 _ _, fun id hid => by rw [up_row _ _ _ hid]; exact r1 id hid, fun s hs => ?_⟩
      by_cases e : s = j
      · subst e
        rw [up_same]
      · rw [up_n _ _ _ e]
        exact I1 s (by omega)
    dsimp only [w_X12_canAll_2, w_X12_canAll_23]
    refine br_go (a := 256) hj (by decide) ?_
    refine fP (o := 12) H1 H1.b rfl rfl ?_
    refine br_Eq (b := 0) (by omega) (by decide) (fun c => ?_) (fun c => ?_)
    · refine tZG (id := 1327) H1 H1.b rfl (by decide) rfl hj (Or.inr rfl) (fun h2 H2 => fin h2 ?_)
      rw [pI_t c]
      exact H2
    · refine tZG (id := 1327) H1 H1.b rfl (by decide) rfl hj (Or.inl rfl) (fun h2 H2 => fin h2 ?_)
      rw [pI_f c]
      exact H2
  · obtain ⟨v, h1⟩ := s
    obtain ⟨e1, X1, H1, o1, r1, I1⟩ := hI
    dsimp only at e1 H1 ⊢
    subst e1
    dsimp only [w_X12_canAll_2]
    refine br_end (a := 256) ?_
    unfold w_X12_canAll_30
    refine lp_inv (boL wd (N 3)).length (fun b (s : Int32 × AH) => s.1 = nI b ∧ ∃ X', G A S h0 X' s.2 ∧ OM X X' ∧ (∀ id, id ≠ 1327 → X' id = X id) ∧ ∀ s, s < 256 → X' 1327 s = pI (Ac (refL (mkB wd (boL wd (N 3))) w p b) s)) (fun b s kk2 hb hI kk => ?_) (fun s kk2 hI => ?_) (Nat.zero_le _) ⟨rfl, X1, H1, o1, r1, I1⟩
    · obtain ⟨v, h2⟩ := s
      obtain ⟨e1, X2, H2, o2, r2, I2⟩ := hI
      dsimp only at e1 H2 ⊢
      subst e1
      have M2 := o2.MR M
      have L2 : RoL X2 1325 (boL wd (N 3)) := RoL.off L (r2 1325 (by decide))
      have n2 : X2 12 26 = nI (boL wd (N 3)).length := by rw [r2 12 (by decide)]; exact n1
      obtain ⟨q1, q2, q3⟩ := mkB_at O hb
      have hlen := ref_len (m := mkB wd (boL wd (N 3))) (w := w) (p := p) (n := b)
      have fin : ∀ m, m < 256 → m = (if b = w then mkB wd (boL wd (N 3)) b &&& 2 ^ p else mkB wd (boL wd (N 3)) b) → w_X12_canAll_74 (fun h => w_X12_canAll_204 (A 12) h Q) (fun y3 h => kk2 (y3, h)) (A 12) (nI w) (nI p) (nI b) (nI m) h2 Q := by
        intro m hm em
        refine m_bone H2 hlen (by omega) hm I2 (fun X3 h3_ H3 o3 r3 I3 => ?_)
        refine kk _ ⟨(nI_succ b).symm, X3, H3, o2.tr o3, fun id hid => (r3 id hid).trans (r2 id hid), ?_⟩
        simp only [refL]
        rw [← em]
        exact I3
      clear H M H1
      have H := H2
      have M := M2
      unfold w_X12_canAll_32
      (repeat (first | with_reducible refine bd_i ?_ | with_reducible refine fP H (by with_unfolding_all exact H.b) (by with_unfolding_all rfl) (by with_unfolding_all rfl) ?_ | with_reducible refine vG H (by with_unfolding_all exact H.b) (by with_unfolding_all rfl) ?_ | with_reducible refine aM H M rfl (by omega) ?_ | with_reducible refine aM H M (ix0 0) (by omega) ?_ | with_reducible refine aM H M (ix0 1) (by omega) ?_ | with_reducible refine aM H M (ix0 2) (by omega) ?_ | with_reducible refine aM H M (ix0 3) (by omega) ?_ | with_reducible refine aM H M (ix0 4) (by omega) ?_ | with_reducible refine aM H M (ix0 5) (by omega) ?_ | with_reducible refine aM H M (ix0 6) (by omega) ?_ | with_reducible refine aM H M (ix0 7) (by omega) ?_ | with_reducible refine aM H M (ix0 8) (by omega) ?_ | with_reducible refine aM H M (ix0 9) (by omega) ?_ | with_reducible refine aM H M (ix0 10) (by omega) ?_ | with_reducible refine aM H M (ix0 11) (by omega) ?_ | with_reducible refine aM H M (ix0 12) (by omega) ?_ | with_reducible refine aM H M (ix1 13 _) (by omega) ?_ | with_reducible refine aM H M (ix1 1161 _) (by omega) ?_ | with_reducible refine aM H M (ix2 269 4 _) (by omega) ?_ | with_reducible refine aM H M (ix4 269 4 _ 1) (by omega) ?_ | with_reducible refine aM H M (ix4 269 4 _ 2) (by omega) ?_ | with_reducible refine aM H M (ix4 269 4 _ 3) (by omega) ?_ | with_reducible refine fG H (by with_unfolding_all exact H.b) (by with_unfolding_all rfl) ?_ | with_reducible refine aG H (by with_unfolding_all exact H.b) (by with_unfolding_all rfl) (by decide) rfl (by omega) ?_))
      rw [n2]
      refine br_go hb (by omega) ?_
      refine br_Eq (by omega) (by omega) (fun c => ?_) (fun c => ?_)
      · (repeat (first | with_reducible refine bd_i ?_ | with_reducible refine fP H (by with_unfolding_all exact H.b) (by with_unfolding_all rfl) (by with_unfolding_all rfl) ?_ | with_reducible refine vG H (by with_unfolding_all exact H.b) (by with_unfolding_all rfl) ?_ | with_reducible refine aM H M rfl (by omega) ?_ | with_reducible refine aM H M (ix0 0) (by omega) ?_ | with_reducible refine aM H M (ix0 1) (by omega) ?_ | with_reducible refine aM H M (ix0 2) (by omega) ?_ | with_reducible refine aM H M (ix0 3) (by omega) ?_ | with_reducible refine aM H M (ix0 4) (by omega) ?_ | with_reducible refine aM H M (ix0 5) (by omega) ?_ | with_reducible refine aM H M (ix0 6) (by omega) ?_ | with_reducible refine aM H M (ix0 7) (by omega) ?_ | with_reducible refine aM H M (ix0 8) (by omega) ?_ | with_reducible refine aM H M (ix0 9) (by omega) ?_ | with_reducible refine aM H M (ix0 10) (by omega) ?_ | with_reducible refine aM H M (ix0 11) (by omega) ?_ | with_reducible refine aM H M (ix0 12) (by omega) ?_ | with_reducible refine aM H M (ix1 13 _) (by omega) ?_ | with_reducible refine aM H M (ix1 1161 _) (by omega) ?_ | with_reducible refine aM H M (ix2 269 4 _) (by omega) ?_ | with_reducible refine aM H M (ix4 269 4 _ 1) (by omega) ?_ | with_reducible refine aM H M (ix4 269 4 _ 2) (by omega) ?_ | with_reducible refine aM H M (ix4 269 4 _ 3) (by omega) ?_ | with_reducible refine fG H (by with_unfolding_all exact H.b) (by with_unfolding_all rfl) ?_ | with_reducible refine aG H (by with_unfolding_all exact H.b) (by with_unfolding_all rfl) (by decide) rfl (by omega) ?_))
        rw [L2 b hb]
        (repeat (first | with_reducible refine f3 H M (by omega) ?_ | with_reducible refine bd_i ?_ | with_reducible refine fP H (by with_unfolding_all exact H.b) (by with_unfolding_all rfl) (by with_unfolding_all rfl) ?_ | with_reducible refine vG H (by with_unfolding_all exact H.b) (by with_unfolding_all rfl) ?_ | with_reducible refine aM H M rfl (by omega) ?_ | with_reducible refine aM H M (ix0 0) (by omega) ?_ | with_reducible refine aM H M (ix0 1) (by omega) ?_ | with_reducible refine aM H M (ix0 2) (by omega) ?_ | with_reducible refine aM H M (ix0 3) (by omega) ?_ | with_reducible refine aM H M (ix0 4) (by omega) ?_ | with_reducible refine aM H M (ix0 5) (by omega) ?_ | with_reducible refine aM H M (ix0 6) (by omega) ?_ | with_reducible refine aM H M (ix0 7) (by omega) ?_ | with_reducible refine aM H M (ix0 8) (by omega) ?_ | with_reducible refine aM H M (ix0 9) (by omega) ?_ | with_reducible refine aM H M (ix0 10) (by omega) ?_ | with_reducible refine aM H M (ix0 11) (by omega) ?_ | with_reducible refine aM H M (ix0 12) (by omega) ?_ | with_reducible refine aM H M (ix1 13 _) (by omega) ?_ | with_reducible refine aM H M (ix1 1161 _) (by omega) ?_ | with_reducible refine aM H M (ix2 269 4 _) (by omega) ?_ | with_reducible refine aM H M (ix4 269 4 _ 1) (by omega) ?_ | with_reducible refine aM H M (ix4 269 4 _ 2) (by omega) ?_ | with_reducible refine aM H M (ix4 269 4 _ 3) (by omega) ?_ | with_reducible refine fG H (by with_unfolding_all exact H.b) (by with_unfolding_all rfl) ?_ | with_reducible refine aG H (by with_unfolding_all exact H.b) (by with_unfolding_all rfl) (by decide) rfl (by omega) ?_))
        rw [q2, sh1 (by omega), nI_and]
        exact fin _ (Nat.lt_of_le_of_lt Nat.and_le_left q3) (by rw [if_pos c])
      · (repeat (first | with_reducible refine bd_i ?_ | with_reducible refine fP H (by with_unfolding_all exact H.b) (by with_unfolding_all rfl) (by with_unfolding_all rfl) ?_ | with_reducible refine vG H (by with_unfolding_all exact H.b) (by with_unfolding_all rfl) ?_ | with_reducible refine aM H M rfl (by omega) ?_ | with_reducible refine aM H M (ix0 0) (by omega) ?_ | with_reducible refine aM H M (ix0 1) (by omega) ?_ | with_reducible refine aM H M (ix0 2) (by omega) ?_ | with_reducible refine aM H M (ix0 3) (by omega) ?_ | with_reducible refine aM H M (ix0 4) (by omega) ?_ | with_reducible refine aM H M (ix0 5) (by omega) ?_ | with_reducible refine aM H M (ix0 6) (by omega) ?_ | with_reducible refine aM H M (ix0 7) (by omega) ?_ | with_reducible refine aM H M (ix0 8) (by omega) ?_ | with_reducible refine aM H M (ix0 9) (by omega) ?_ | with_reducible refine aM H M (ix0 10) (by omega) ?_ | with_reducible refine aM H M (ix0 11) (by omega) ?_ | with_reducible refine aM H M (ix0 12) (by omega) ?_ | with_reducible refine aM H M (ix1 13 _) (by omega) ?_ | with_reducible refine aM H M (ix1 1161 _) (by omega) ?_ | with_reducible refine aM H M (ix2 269 4 _) (by omega) ?_ | with_reducible refine aM H M (ix4 269 4 _ 1) (by omega) ?_ | with_reducible refine aM H M (ix4 269 4 _ 2) (by omega) ?_ | with_reducible refine aM H M (ix4 269 4 _ 3) (by omega) ?_ | with_reducible refine fG H (by with_unfolding_all exact H.b) (by with_unfolding_all rfl) ?_ | with_reducible refine aG H (by with_unfolding_all exact H.b) (by with_unfolding_all rfl) (by decide) rfl (by omega) ?_))
        rw [L2 b hb]
        (repeat (first | with_reducible refine f3 H M (by omega) ?_ | with_reducible refine bd_i ?_ | with_reducible refine fP H (by with_unfolding_all exact H.b) (by with_unfolding_all rfl) (by with_unfolding_all rfl) ?_ | with_reducible refine vG H (by with_unfolding_all exact H.b) (by with_unfolding_all rfl) ?_ | with_reducible refine aM H M rfl (by omega) ?_ | with_reducible refine aM H M (ix0 0) (by omega) ?_ | with_reducible refine aM H M (ix0 1) (by omega) ?_ | with_reducible refine aM H M (ix0 2) (by omega) ?_ | with_reducible refine aM H M (ix0 3) (by omega) ?_ | with_reducible refine aM H M (ix0 4) (by omega) ?_ | with_reducible refine aM H M (ix0 5) (by omega) ?_ | with_reducible refine aM H M (ix0 6) (by omega) ?_ | with_reducible refine aM H M (ix0 7) (by omega) ?_ | with_reducible refine aM H M (ix0 8) (by omega) ?_ | with_reducible refine aM H M (ix0 9) (by omega) ?_ | with_reducible refine aM H M (ix0 10) (by omega) ?_ | with_reducible refine aM H M (ix0 11) (by omega) ?_ | with_reducible refine aM H M (ix0 12) (by omega) ?_ | with_reducible refine aM H M (ix1 13 _) (by omega) ?_ | with_reducible refine aM H M (ix1 1161 _) (by omega) ?_ | with_reducible refine aM H M (ix2 269 4 _) (by omega) ?_ | with_reducible refine aM H M (ix4 269 4 _ 1) (by omega) ?_ | with_reducible refine aM H M (ix4 269 4 _ 2) (by omega) ?_ | with_reducible refine aM H M (ix4 269 4 _ 3) (by omega) ?_ | with_reducible refine fG H (by with_unfolding_all exact H.b) (by with_unfolding_all rfl) ?_ | with_reducible refine aG H (by with_unfolding_all exact H.b) (by with_unfolding_all rfl) (by decide) rfl (by omega) ?_))
        rw [q2]
        exact fin _ q3 (by rw [if_neg c])
    · obtain ⟨v, h2⟩ := s
      obtain ⟨e1, X2, H2, o2, r2, I2⟩ := hI
      dsimp only at e1 H2 ⊢
      subst e1
      have n2 : X2 12 26 = nI (boL wd (N 3)).length := by rw [r2 12 (by decide)]; exact n1
      have z := k X2 h2 H2 o2 r2
      have hlen := ref_len (m := mkB wd (boL wd (N 3))) (w := w) (p := p) (n := (boL wd (N 3)).length)
      unfold w_X12_canAll_32
      refine fG (o := 12) H2 H2.b rfl ?_
      rw [n2]
      refine br_end ?_
      unfold w_X12_canAll_204
      unfold whB at z
      generalize refL (mkB wd (boL wd (N 3))) w p (boL wd (N 3)).length = l at *
      have hx : pB (∃ s, Rr l s) = anyB (fun s => pB (Rr l s)) 256 := by
        rw [Bool.eq_iff_iff, pB_iff, anyB_iff]
        constructor
        · rintro ⟨s, hs⟩
          exact ⟨s, Rr_lt hs, pB_iff.mpr hs⟩
        · rintro ⟨s, _, hs⟩
          exact ⟨s, pB_iff.mp hs⟩
      rw [hx] at z
      refine lp_up 256 (fun j => (bI (anyB (fun s => pB (Rr l s)) j), nI j, h2)) (fun j kk3 hj kk4 => ?_) (fun kk3 => ?_) (Nat.zero_le _)
      · rw [nI_succ] at kk4
        simp only [anyB] at kk4
        have hp8 := pc_lt j hj
        dsimp only [w_X12_canAll_209, w_X12_canAll_243, w_X12_canAll_247, w_X12_canAll_248]
        refine br_go (a := 256) hj (by decide) ?_
        refine br_bI (fun c1 => ?_) (fun c1 => ?_)
        · rw [c1, Bool.true_or] at kk4
          exact kk4
        · rw [Bool.eq_false_iff.mpr c1, Bool.false_or] at kk4
          refine bitCount ?_
          refine fG (o := 12) H2 H2.b rfl ?_
          rw [n2, pc_N j hj]
          refine br_Eq (by omega) (by omega) (fun d => ?_) (fun d => ?_)
          · refine fP (o := 12) H2 H2.b rfl rfl ?_
            refine aZG (id := 1327) H2 H2.b rfl (by decide) rfl hj ?_
            rw [I2 j hj]
            have hAR : Ac l j ↔ Rr l j := by
              rw [← Ac_Rr]
              exact ⟨fun y => ⟨y, by rw [d]; exact hlen.symm⟩, fun y => y.1⟩
            by_cases hR : Rr l j
            · rw [pI_t (hAR.mpr hR)]
              rw [bI_t (pB_iff.mpr hR)] at kk4
              exact br_F (by decide) kk4
            · rw [pI_f (fun y => hR (hAR.mp y))]
              rw [bI_f (Bool.eq_false_iff.mpr (fun y => hR (pB_iff.mp y)))] at kk4
              exact br_T rfl kk4
          · rw [bI_f (Bool.eq_false_iff.mpr (fun y => d (by rw [Rr_pop (pB_iff.mp y)]; exact hlen)))] at kk4
            exact kk4
      · dsimp only [w_X12_canAll_209, w_X12_canAll_255]
        generalize anyB (fun s => pB (Rr l s)) 256 = bb at *
        exact br_end (a := 256) (zb z)
theorem m_who_ (H : G A S h0 X h) (M : MR X wd) (O : Ok wd N) {f : Int32} (k : ∀ X' h', G A S h0 X' h' → OT X X' → X' 12 0 = (whoS wd N f).1 → Q (whoS wd N f).2 h') : w_X12_who (A 12) f h Q := by
  obtain ⟨e3, h3⟩ := O.f
  unfold w_X12_who
  refine m_ent H M (fun X1 h1 H1 M1 o1 t1 => ?_)
  clear H M
  have H := H1
  have M := M1
  (repeat (first | with_reducible refine bd_i ?_ | with_reducible refine fP H (by with_unfolding_all exact H.b) (by with_unfolding_all rfl) (by with_unfolding_all rfl) ?_ | with_reducible refine vG H (by with_unfolding_all exact H.b) (by with_unfolding_all rfl) ?_ | with_reducible refine aM H M rfl (by omega) ?_ | with_reducible refine aM H M (ix0 0) (by omega) ?_ | with_reducible refine aM H M (ix0 1) (by omega) ?_ | with_reducible refine aM H M (ix0 2) (by omega) ?_ | with_reducible refine aM H M (ix0 3) (by omega) ?_ | with_reducible refine aM H M (ix0 4) (by omega) ?_ | with_reducible refine aM H M (ix0 5) (by omega) ?_ | with_reducible refine aM H M (ix0 6) (by omega) ?_ | with_reducible refine aM H M (ix0 7) (by omega) ?_ | with_reducible refine aM H M (ix0 8) (by omega) ?_ | with_reducible refine aM H M (ix0 9) (by omega) ?_ | with_reducible refine aM H M (ix0 10) (by omega) ?_ | with_reducible refine aM H M (ix0 11) (by omega) ?_ | with_reducible refine aM H M (ix0 12) (by omega) ?_ | with_reducible refine aM H M (ix1 13 _) (by omega) ?_ | with_reducible refine aM H M (ix1 1161 _) (by omega) ?_ | with_reducible refine aM H M (ix2 269 4 _) (by omega) ?_ | with_reducible refine aM H M (ix4 269 4 _ 1) (by omega) ?_ | with_reducible refine aM H M (ix4 269 4 _ 2) (by omega) ?_ | with_reducible refine aM H M (ix4 269 4 _ 3) (by omega) ?_ | with_reducible refine fG H (by with_unfolding_all exact H.b) (by with_unfolding_all rfl) ?_ | with_reducible refine aG H (by with_unfolding_all exact H.b) (by with_unfolding_all rfl) (by decide) rfl (by omega) ?_))
  refine m_num H M (ix0 3) (by decide) (by omega) e3 (fun c1 => ?_) (fun c1 => ?_)
  · rw [whoS, cIf_t c1] at k
    obtain ⟨n, hn, rfl⟩ := c1
    rw [nt_nI (by omega)] at k
    (repeat (first | with_reducible refine thr0 ?_ | with_reducible refine bd_i ?_ | with_reducible refine fP H (by with_unfolding_all exact H.b) (by with_unfolding_all rfl) (by with_unfolding_all rfl) ?_ | with_reducible refine vG H (by with_unfolding_all exact H.b) (by with_unfolding_all rfl) ?_ | with_reducible refine aM H M rfl (by omega) ?_ | with_reducible refine aM H M (ix0 0) (by omega) ?_ | with_reducible refine aM H M (ix0 1) (by omega) ?_ | with_reducible refine aM H M (ix0 2) (by omega) ?_ | with_reducible refine aM H M (ix0 3) (by omega) ?_ | with_reducible refine aM H M (ix0 4) (by omega) ?_ | with_reducible refine aM H M (ix0 5) (by omega) ?_ | with_reducible refine aM H M (ix0 6) (by omega) ?_ | with_reducible refine aM H M (ix0 7) (by omega) ?_ | with_reducible refine aM H M (ix0 8) (by omega) ?_ | with_reducible refine aM H M (ix0 9) (by omega) ?_ | with_reducible refine aM H M (ix0 10) (by omega) ?_ | with_reducible refine aM H M (ix0 11) (by omega) ?_ | with_reducible refine aM H M (ix0 12) (by omega) ?_ | with_reducible refine aM H M (ix1 13 _) (by omega) ?_ | with_reducible refine aM H M (ix1 1161 _) (by omega) ?_ | with_reducible refine aM H M (ix2 269 4 _) (by omega) ?_ | with_reducible refine aM H M (ix4 269 4 _ 1) (by omega) ?_ | with_reducible refine aM H M (ix4 269 4 _ 2) (by omega) ?_ | with_reducible refine aM H M (ix4 269 4 _ 3) (by omega) ?_ | with_reducible refine fG H (by with_unfolding_all exact H.b) (by with_unfolding_all rfl) ?_ | with_reducible refine aG H (by with_unfolding_all exact H.b) (by with_unfolding_all rfl) (by decide) rfl (by omega) ?_))
    refine br_T rfl ?_
    refine uG (o := 12) H H.b rfl (fun h2 H2 => ?_)
    have fin : ∀ X5 h5, G A S h0 X5 h5 → OM X1 X5 → RoL X5 1325 (boL wd (N 3)) → X5 12 26 = nI (boL wd (N 3)).length → w_X12_who_107 (A 12) (oI (plO (boL wd (N 3)) n (boL wd (N 3)).length)) h5 Q := by
      intro X5 h5 H5 o5 L5 n5
      have b8 := boL_8 (wd := wd) (n := N 3)
      have t5 : X5 12 0 = 0 := by rw [o5 12 0 (by decide)]; exact t1
      have M5 := o5.MR M
      unfold w_X12_who_107
      cases e : plO (boL wd (N 3)) n (boL wd (N 3)).length with
      | none =>
        rw [e] at k
        dsimp only at k
        refine br_F (show ¬ 0 ≤ oI none by decide) ?_
        unfold w_X12_who_117
        refine vG (o := 12) H5 H5.b rfl ?_
        exact thr1 H5 (fun h6 H6 => br_F (by decide) (k _ _ H6 ((o1.tr (OT.of o5)).th 2) (up_same _ _ _ _)))
      | some w =>
        have hw := fsO_lt e
        rw [e] at k
        dsimp only at k
        refine br_T (show 0 ≤ oI (some w) from nI_pos' (by omega)) ?_
        unfold w_X12_who_117
        refine vG (o := 12) H5 H5.b rfl ?_
        refine thr0 (br_T rfl ?_)
        refine lp_inv 8 (fun j (s : Int32 × Int32 × AH) => s.1 = bts (whB wd (boL wd (N 3)) w) j ∧ s.2.1 = nI j ∧ ∃ X', G A S h0 X' s.2.2 ∧ OM X5 X' ∧ ∀ id, id ≠ 1327 → X' id = X5 id) (fun j s kk1 hj hI kk => ?_) (fun s kk1 hI => ?_) (Nat.zero_le _) ⟨rfl, rfl, X5, H5, OM.rf _, fun _ _ => rfl⟩
        · obtain ⟨v1, v2, h6⟩ := s
          obtain ⟨g1, g2, X6, H6, o6, r6⟩ := hI
          dsimp only at g1 g2 H6 ⊢
          subst g1 g2
          dsimp only [w_X12_who_131, w_X12_who_157, oI]
          refine br_go (a := 8) hj (by decide) ?_
          refine vG (o := 12) H6 H6.b rfl ?_
          refine m_canAll H6 (o6.MR M5) O (RoL.off L5 (r6 1325 (by decide))) (by rw [r6 12 (by decide)]; exact n5) (by omega) hj (fun X7 h7 H7 o7 r7 => ?_)
          have key : ∀ v, v = bts (whB wd (boL wd (N 3)) w) (j + 1) → kk1 (v, nI j + 1, h7) := by
            intro v hv
            subst hv
            exact kk _ ⟨rfl, (nI_succ j).symm, X7, H7, o6.tr o7, fun id hid => (r7 id hid).trans (r6 id hid)⟩
          refine br_bI (fun c1 => ?_) (fun c1 => ?_)
          · exact bd_i (key _ (by simp only [bts, if_pos c1]))
          · exact bd_i (key _ (by simp only [bts, if_neg c1]; rw [Int32.or_zero]))
        · obtain ⟨v1, v2, h6⟩ := s
          obtain ⟨g1, g2, X6, H6, o6, r6⟩ := hI
          dsimp only at g1 g2 H6 ⊢
          subst g1 g2
          dsimp only [w_X12_who_131, w_X12_who_165]
          refine br_end (a := 8) ?_
          exact k X6 h6 H6 ((o1.tr (OT.of o5)).tr (OT.of o6)) (by rw [o6 12 0 (by decide)]; exact t5)
    refine lp_inv (N 3) (fun j (s : Int32 × Int32 × AH) => s.1 = oI (plO (boL wd j) n (boL wd j).length) ∧ s.2.1 = nI j ∧ ∃ X', G A S h0 X' s.2.2 ∧ OM X1 X' ∧ RoL X' 1325 (boL wd j) ∧ X' 12 26 = nI (boL wd j).length) (fun j s kk1 hj hI kk => ?_) (fun s kk1 hI => ?_) (Nat.zero_le _) ⟨rfl, rfl, _, H2, (OM.rf X1).up (by decide) _, RoL.nil, up_same _ _ _ _⟩
    · obtain ⟨v1, v2, h5⟩ := s
      obtain ⟨g1, g2, X5, H5, o5, L5, n5⟩ := hI
      dsimp only at g1 g2 H5 ⊢
      subst g1 g2
      have M5 := o5.MR M
      have b8 := boL_8 (wd := wd) (n := j)
      have kn : ¬ ((boL wd j).length < 8 ∧ wd (349 + 6 * j) = 2 ∧ sn wd j = true) → kk1 (oI (plO (boL wd j) n (boL wd j).length), nI j + 1, h5) := by
        intro z
        refine kk _ ⟨?_, (nI_succ j).symm, X5, H5, o5, ?_, ?_⟩
        · simp only [boL, if_neg z]
        · simp only [boL, if_neg z]
          exact L5
        · simp only [boL, if_neg z]
          exact n5
      clear H M H1 M1 H2
      have H := H5
      have M := M5
      dsimp only [w_X12_who_30, w_X12_who_80, w_X12_who_101]
      (repeat (first | with_reducible refine m_finds H M ?_ | with_reducible refine bd_i ?_ | with_reducible refine fP H (by with_unfolding_all exact H.b) (by with_unfolding_all rfl) (by with_unfolding_all rfl) ?_ | with_reducible refine vG H (by with_unfolding_all exact H.b) (by with_unfolding_all rfl) ?_ | with_reducible refine aM H M rfl (by omega) ?_ | with_reducible refine aM H M (ix0 0) (by omega) ?_ | with_reducible refine aM H M (ix0 1) (by omega) ?_ | with_reducible refine aM H M (ix0 2) (by omega) ?_ | with_reducible refine aM H M (ix0 3) (by omega) ?_ | with_reducible refine aM H M (ix0 4) (by omega) ?_ | with_reducible refine aM H M (ix0 5) (by omega) ?_ | with_reducible refine aM H M (ix0 6) (by omega) ?_ | with_reducible refine aM H M (ix0 7) (by omega) ?_ | with_reducible refine aM H M (ix0 8) (by omega) ?_ | with_reducible refine aM H M (ix0 9) (by omega) ?_ | with_reducible refine aM H M (ix0 10) (by omega) ?_ | with_reducible refine aM H M (ix0 11) (by omega) ?_ | with_reducible refine aM H M (ix0 12) (by omega) ?_ | with_reducible refine aM H M (ix1 13 _) (by omega) ?_ | with_reducible refine aM H M (ix1 1161 _) (by omega) ?_ | with_reducible refine aM H M (ix2 269 4 _) (by omega) ?_ | with_reducible refine aM H M (ix4 269 4 _ 1) (by omega) ?_ | with_reducible refine aM H M (ix4 269 4 _ 2) (by omega) ?_ | with_reducible refine aM H M (ix4 269 4 _ 3) (by omega) ?_ | with_reducible refine fG H (by with_unfolding_all exact H.b) (by with_unfolding_all rfl) ?_ | with_reducible refine aG H (by with_unfolding_all exact H.b) (by with_unfolding_all rfl) (by decide) rfl (by omega) ?_))
      rw [e3]
      refine br_go hj (by omega) ?_
      refine fG (o := 12) H H.b rfl ?_
      rw [n5]
      refine br_Le (a := 8) (by decide) (by omega) (fun c => ?_) (fun c => ?_)
      · have hf := boL_full (wd := wd) (j := j) (by omega) (Nat.le_of_lt hj)
        rw [← hf] at L5 n5 ⊢
        exact fin X5 h5 H5 o5 L5 n5
      · (repeat (first | with_reducible refine m_isKind H M (by omega) ?_ | with_reducible refine bd_i ?_ | with_reducible refine fP H (by with_unfolding_all exact H.b) (by with_unfolding_all rfl) (by with_unfolding_all rfl) ?_ | with_reducible refine vG H (by with_unfolding_all exact H.b) (by with_unfolding_all rfl) ?_ | with_reducible refine aM H M rfl (by omega) ?_ | with_reducible refine aM H M (ix0 0) (by omega) ?_ | with_reducible refine aM H M (ix0 1) (by omega) ?_ | with_reducible refine aM H M (ix0 2) (by omega) ?_ | with_reducible refine aM H M (ix0 3) (by omega) ?_ | with_reducible refine aM H M (ix0 4) (by omega) ?_ | with_reducible refine aM H M (ix0 5) (by omega) ?_ | with_reducible refine aM H M (ix0 6) (by omega) ?_ | with_reducible refine aM H M (ix0 7) (by omega) ?_ | with_reducible refine aM H M (ix0 8) (by omega) ?_ | with_reducible refine aM H M (ix0 9) (by omega) ?_ | with_reducible refine aM H M (ix0 10) (by omega) ?_ | with_reducible refine aM H M (ix0 11) (by omega) ?_ | with_reducible refine aM H M (ix0 12) (by omega) ?_ | with_reducible refine aM H M (ix1 13 _) (by omega) ?_ | with_reducible refine aM H M (ix1 1161 _) (by omega) ?_ | with_reducible refine aM H M (ix2 269 4 _) (by omega) ?_ | with_reducible refine aM H M (ix4 269 4 _ 1) (by omega) ?_ | with_reducible refine aM H M (ix4 269 4 _ 2) (by omega) ?_ | with_reducible refine aM H M (ix4 269 4 _ 3) (by omega) ?_ | with_reducible refine fG H (by with_unfolding_all exact H.b) (by with_unfolding_all rfl) ?_ | with_reducible refine aG H (by with_unfolding_all exact H.b) (by with_unfolding_all rfl) (by decide) rfl (by omega) ?_))
        refine br_bI (fun c2 => ?_) (fun c2 => ?_)
        · have c2 := of_decide_eq_true c2
          (repeat (first | with_reducible refine m_isSeen H M (by omega) ?_ | with_reducible refine bd_i ?_ | with_reducible refine fP H (by with_unfolding_all exact H.b) (by with_unfolding_all rfl) (by with_unfolding_all rfl) ?_ | with_reducible refine vG H (by with_unfolding_all exact H.b) (by with_unfolding_all rfl) ?_ | with_reducible refine aM H M rfl (by omega) ?_ | with_reducible refine aM H M (ix0 0) (by omega) ?_ | with_reducible refine aM H M (ix0 1) (by omega) ?_ | with_reducible refine aM H M (ix0 2) (by omega) ?_ | with_reducible refine aM H M (ix0 3) (by omega) ?_ | with_reducible refine aM H M (ix0 4) (by omega) ?_ | with_reducible refine aM H M (ix0 5) (by omega) ?_ | with_reducible refine aM H M (ix0 6) (by omega) ?_ | with_reducible refine aM H M (ix0 7) (by omega) ?_ | with_reducible refine aM H M (ix0 8) (by omega) ?_ | with_reducible refine aM H M (ix0 9) (by omega) ?_ | with_reducible refine aM H M (ix0 10) (by omega) ?_ | with_reducible refine aM H M (ix0 11) (by omega) ?_ | with_reducible refine aM H M (ix0 12) (by omega) ?_ | with_reducible refine aM H M (ix1 13 _) (by omega) ?_ | with_reducible refine aM H M (ix1 1161 _) (by omega) ?_ | with_reducible refine aM H M (ix2 269 4 _) (by omega) ?_ | with_reducible refine aM H M (ix4 269 4 _ 1) (by omega) ?_ | with_reducible refine aM H M (ix4 269 4 _ 2) (by omega) ?_ | with_reducible refine aM H M (ix4 269 4 _ 3) (by omega) ?_ | with_reducible refine fG H (by with_unfolding_all exact H.b) (by with_unfolding_all rfl) ?_ | with_reducible refine aG H (by with_unfolding_all exact H.b) (by with_unfolding_all rfl) (by decide) rfl (by omega) ?_))
          refine br_bI (fun c3 => ?_) (fun c3 => ?_)
          · have hc : (boL wd j).length < 8 ∧ wd (349 + 6 * j) = 2 ∧ sn wd j = true := ⟨c, c2, c3⟩
            have key : ∀ v, v = oI (plO (boL wd (j + 1)) n (boL wd (j + 1)).length) → ∀ h7, G A S h0 (up (up X5 1325 (boL wd j).length (nI j)) 12 26 (nI (boL wd j).length + 1)) h7 → kk1 (v, nI j + 1, h7) := by
              intro v hv h7 H7
              refine kk _ ⟨hv, (nI_succ j).symm, _, H7, (o5.up (mS_row rfl) _).up (by decide) _, ?_, ?_⟩
              · simp only [boL, if_pos hc]
                exact RoL.off (L5.add j) (up_row _ _ _ (by decide))
              · simp only [boL, if_pos hc]
                rw [up_same, List.length_append, List.length_singleton, nI_succ]
            have hpl : plO (boL wd (j + 1)) n (boL wd (j + 1)).length = match plO (boL wd j) n (boL wd j).length with
                | some x => some x
                | none => if j = n then some (boL wd j).length else none := by
              simp only [boL, if_pos hc, List.length_append, List.length_singleton]
              exact plO_add
            refine br_Eq (by omega) (by omega) (fun d => ?_) (fun d => ?_)
            · refine fG (o := 12) H H.b rfl ?_
              refine fP (o := 12) H H.b rfl rfl ?_
              refine fG (o := 12) H H.b rfl ?_
              rw [n5]
              refine tG (id := 1325) H H.b rfl (by decide) rfl (by omega) (fun h6 H6 => ?_)
              refine fG (o := 12) H6 H6.b rfl ?_
              refine uG (o := 12) H6 H6.b rfl (fun h7 H7 => ?_)
              rw [up_row _ _ _ (show (12 : Nat) ≠ 1325 by decide), n5] at H7
              refine key _ ?_ h7 H7
              rw [hpl]
              subst d
              rw [plO_new]
              simp [oI]
            · refine fP (o := 12) H H.b rfl rfl ?_
              refine fG (o := 12) H H.b rfl ?_
              rw [n5]
              refine tG (id := 1325) H H.b rfl (by decide) rfl (by omega) (fun h6 H6 => ?_)
              refine fG (o := 12) H6 H6.b rfl ?_
              refine uG (o := 12) H6 H6.b rfl (fun h7 H7 => ?_)
              rw [up_row _ _ _ (show (12 : Nat) ≠ 1325 by decide), n5] at H7
              refine key _ ?_ h7 H7
              rw [hpl]
              cases plO (boL wd j) n (boL wd j).length with
              | none => simp [d]
              | some x => rfl
          · exact kn (fun z => c3 z.2.2)
        · exact kn (fun z => c2 (decide_eq_true z.2.1))
    · obtain ⟨v1, v2, h5⟩ := s
      obtain ⟨g1, g2, X5, H5, o5, L5, n5⟩ := hI
      dsimp only at g1 g2 H5 ⊢
      subst g1 g2
      have M5 := o5.MR M
      dsimp only [w_X12_who_30]
      refine vG (o := 12) H5 H5.b rfl ?_
      refine m_finds H5 M5 ?_
      rw [e3]
      exact br_end (fin X5 h5 H5 o5 L5 n5)
  · rw [whoS, cIf_f c1] at k
    ((try refine vG (o := 12) H H.b rfl ?_); refine thr1 H (fun h2 H2 => br_F (by decide) (k _ _ H2 (o1.th 1) (up_same _ _ _ _))))
end WHOR2
