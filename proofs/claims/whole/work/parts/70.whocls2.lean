/-! who: the class, the whole call -/
section WHOC2
variable {A : Nat → Nat} {S : Nat → Prop} {h0 h : AH} {X : Nat → Nat → Int32} {wd : Nat → Int32} {N : Nat → Nat} {Q : Int32 → AH → Prop} {Qv : AH → Prop} {a3 : Nat}
theorem c_gatherBones (H : G A S h0 X h) (R : CR X wd) (O : Ok wd N) (k : ∀ X' h', G A S h0 X' h' → Off [8, 905] X X' → RoL X' 905 (boL wd (N 3)) → X' 8 6 = nI (boL wd (N 3)).length → Qv h') : w_X8_gatherBones (A 8) h Qv := by
  obtain ⟨e3, h3⟩ := O.f
  unfold w_X8_gatherBones
  (repeat (first | with_reducible refine c_nearRows H R O ?_ | with_reducible refine bd_i ?_ | with_reducible refine fP H (by with_unfolding_all first | exact H.b | exact hS) (by with_unfolding_all rfl) (by with_unfolding_all rfl) ?_ | with_reducible refine vG H (by with_unfolding_all first | exact H.b | exact hS) (by with_unfolding_all rfl) ?_ | with_reducible refine fC_ H R (by with_unfolding_all exact H.b) (by with_unfolding_all rfl) (by with_unfolding_all rfl) ?_ | with_reducible refine aC H R (by with_unfolding_all exact H.b) (by with_unfolding_all rfl) (by decide) (by with_unfolding_all rfl) rfl (by omega) ?_ | with_reducible refine fG H (by with_unfolding_all first | exact H.b | exact hS) (by with_unfolding_all rfl) ?_ | with_reducible refine aG H (by with_unfolding_all first | exact H.b | exact hS) (by with_unfolding_all rfl) (by decide) rfl (by omega) ?_))
  refine uG (o := 8) H H.b rfl (fun h1 H1 => ?_)
  refine lp_inv (N 3) (fun j (s : Int32 × AH) => s.1 = nI j ∧ ∃ X', G A S h0 X' s.2 ∧ Off [8, 905] X X' ∧ RoL X' 905 (boL wd j) ∧ X' 8 6 = nI (boL wd j).length) (fun j s kk1 hj hI kk => ?_) (fun s kk1 hI => ?_) (Nat.zero_le _) ⟨rfl, _, H1, (Off.rf _ X).up (by decide) _ _, RoL.nil, up_same _ _ _ _⟩
  · obtain ⟨v, h2⟩ := s
    obtain ⟨e1, X2, H2, o2, L2, n2⟩ := hI
    dsimp only at e1 H2 ⊢
    subst e1
    have R2 := R.offL o2 (by decide)
    have b8 := boL_8 (wd := wd) (n := j)
    clear H R H1
    have H := H2
    have R := R2
    have kn : ¬ ((boL wd j).length < 8 ∧ wd (349 + 6 * j) = 2 ∧ sn wd j = true) → kk1 (nI j + 1, h2) := by
      intro z
      refine kk _ ⟨(nI_succ j).symm, X2, H2, o2, ?_, ?_⟩
      · simp only [boL, if_neg z]
        exact L2
      · simp only [boL, if_neg z]
        exact n2
    dsimp only [w_X8_gatherBones_20, w_X8_gatherBones_76, w_X8_gatherBones_82]
    (repeat (first | with_reducible refine bd_i ?_ | with_reducible refine fP H (by with_unfolding_all first | exact H.b | exact hS) (by with_unfolding_all rfl) (by with_unfolding_all rfl) ?_ | with_reducible refine vG H (by with_unfolding_all first | exact H.b | exact hS) (by with_unfolding_all rfl) ?_ | with_reducible refine fC_ H R (by with_unfolding_all exact H.b) (by with_unfolding_all rfl) (by with_unfolding_all rfl) ?_ | with_reducible refine aC H R (by with_unfolding_all exact H.b) (by with_unfolding_all rfl) (by decide) (by with_unfolding_all rfl) rfl (by omega) ?_ | with_reducible refine fG H (by with_unfolding_all first | exact H.b | exact hS) (by with_unfolding_all rfl) ?_ | with_reducible refine aG H (by with_unfolding_all first | exact H.b | exact hS) (by with_unfolding_all rfl) (by decide) rfl (by omega) ?_))
    rw [e3]
    refine br_go hj (by omega) ?_
    (repeat (first | with_reducible refine bd_i ?_ | with_reducible refine fP H (by with_unfolding_all first | exact H.b | exact hS) (by with_unfolding_all rfl) (by with_unfolding_all rfl) ?_ | with_reducible refine vG H (by with_unfolding_all first | exact H.b | exact hS) (by with_unfolding_all rfl) ?_ | with_reducible refine fC_ H R (by with_unfolding_all exact H.b) (by with_unfolding_all rfl) (by with_unfolding_all rfl) ?_ | with_reducible refine aC H R (by with_unfolding_all exact H.b) (by with_unfolding_all rfl) (by decide) (by with_unfolding_all rfl) rfl (by omega) ?_ | with_reducible refine fG H (by with_unfolding_all first | exact H.b | exact hS) (by with_unfolding_all rfl) ?_ | with_reducible refine aG H (by with_unfolding_all first | exact H.b | exact hS) (by with_unfolding_all rfl) (by decide) rfl (by omega) ?_))
    rw [n2]
    refine br_Le (a := 8) (by decide) (by omega) (fun c => ?_) (fun c => ?_)
    · have hf := boL_full (wd := wd) (j := j) (by omega) (Nat.le_of_lt hj)
      rw [← hf] at L2 n2
      exact k X2 h2 H2 o2 L2 n2
    · (repeat (first | with_reducible refine bd_i ?_ | with_reducible refine fP H (by with_unfolding_all first | exact H.b | exact hS) (by with_unfolding_all rfl) (by with_unfolding_all rfl) ?_ | with_reducible refine vG H (by with_unfolding_all first | exact H.b | exact hS) (by with_unfolding_all rfl) ?_ | with_reducible refine fC_ H R (by with_unfolding_all exact H.b) (by with_unfolding_all rfl) (by with_unfolding_all rfl) ?_ | with_reducible refine aC H R (by with_unfolding_all exact H.b) (by with_unfolding_all rfl) (by decide) (by with_unfolding_all rfl) rfl (by omega) ?_ | with_reducible refine fG H (by with_unfolding_all first | exact H.b | exact hS) (by with_unfolding_all rfl) ?_ | with_reducible refine aG H (by with_unfolding_all first | exact H.b | exact hS) (by with_unfolding_all rfl) (by decide) rfl (by omega) ?_))
      refine br_if (fun c2 => ?_) (fun c2 => ?_)
      · (repeat (first | with_reducible refine c_isSeen H R (by omega) ?_ | with_reducible refine bd_i ?_ | with_reducible refine fP H (by with_unfolding_all first | exact H.b | exact hS) (by with_unfolding_all rfl) (by with_unfolding_all rfl) ?_ | with_reducible refine vG H (by with_unfolding_all first | exact H.b | exact hS) (by with_unfolding_all rfl) ?_ | with_reducible refine fC_ H R (by with_unfolding_all exact H.b) (by with_unfolding_all rfl) (by with_unfolding_all rfl) ?_ | with_reducible refine aC H R (by with_unfolding_all exact H.b) (by with_unfolding_all rfl) (by decide) (by with_unfolding_all rfl) rfl (by omega) ?_ | with_reducible refine fG H (by with_unfolding_all first | exact H.b | exact hS) (by with_unfolding_all rfl) ?_ | with_reducible refine aG H (by with_unfolding_all first | exact H.b | exact hS) (by with_unfolding_all rfl) (by decide) rfl (by omega) ?_))
        rw [snR_sn O hj]
        refine br_bI (fun c3 => ?_) (fun c3 => ?_)
        · (repeat (first | with_reducible refine bd_i ?_ | with_reducible refine fP H (by with_unfolding_all first | exact H.b | exact hS) (by with_unfolding_all rfl) (by with_unfolding_all rfl) ?_ | with_reducible refine vG H (by with_unfolding_all first | exact H.b | exact hS) (by with_unfolding_all rfl) ?_ | with_reducible refine fC_ H R (by with_unfolding_all exact H.b) (by with_unfolding_all rfl) (by with_unfolding_all rfl) ?_ | with_reducible refine aC H R (by with_unfolding_all exact H.b) (by with_unfolding_all rfl) (by decide) (by with_unfolding_all rfl) rfl (by omega) ?_ | with_reducible refine fG H (by with_unfolding_all first | exact H.b | exact hS) (by with_unfolding_all rfl) ?_ | with_reducible refine aG H (by with_unfolding_all first | exact H.b | exact hS) (by with_unfolding_all rfl) (by decide) rfl (by omega) ?_))
          rw [n2]
          refine tG (id := 905) H H.b rfl (by decide) rfl (by omega) (fun h4 H4 => ?_)
          refine fG (o := 8) H4 H4.b rfl ?_
          refine uG (o := 8) H4 H4.b rfl (fun h5 H5 => ?_)
          have hc : (boL wd j).length < 8 ∧ wd (349 + 6 * j) = 2 ∧ sn wd j = true := ⟨c, c2, c3⟩
          refine kk _ ⟨(nI_succ j).symm, _, H5, (o2.up (by decide) _ _).up (by decide) _ _, ?_, ?_⟩
          · simp only [boL, if_pos hc]
            exact RoL.off (L2.add j) (up_row _ _ _ (by decide))
          · simp only [boL, if_pos hc]
            rw [up_same, up_row _ _ _ (by decide), n2, List.length_append, List.length_singleton, nI_succ]
        · exact kn (fun z => c3 z.2.2)
      · exact kn (fun z => c2 z.2.1)
  · obtain ⟨v, h2⟩ := s
    obtain ⟨e1, X2, H2, o2, L2, n2⟩ := hI
    dsimp only at e1 H2 ⊢
    subst e1
    have R2 := R.offL o2 (by decide)
    have z := k X2 h2 H2 o2 L2 n2
    clear H R H1
    have H := H2
    have R := R2
    dsimp only [w_X8_gatherBones_20, w_X8_gatherBones_82]
    (repeat (first | with_reducible refine bd_i ?_ | with_reducible refine fP H (by with_unfolding_all first | exact H.b | exact hS) (by with_unfolding_all rfl) (by with_unfolding_all rfl) ?_ | with_reducible refine vG H (by with_unfolding_all first | exact H.b | exact hS) (by with_unfolding_all rfl) ?_ | with_reducible refine fC_ H R (by with_unfolding_all exact H.b) (by with_unfolding_all rfl) (by with_unfolding_all rfl) ?_ | with_reducible refine aC H R (by with_unfolding_all exact H.b) (by with_unfolding_all rfl) (by decide) (by with_unfolding_all rfl) rfl (by omega) ?_ | with_reducible refine fG H (by with_unfolding_all first | exact H.b | exact hS) (by with_unfolding_all rfl) ?_ | with_reducible refine aG H (by with_unfolding_all first | exact H.b | exact hS) (by with_unfolding_all rfl) (by decide) rfl (by omega) ?_))
    rw [e3]
    exact br_end z
def plO (l : List Nat) (f n : Nat) : Option Nat := fsO (fun i => decide (l.getD i 0 = f)) n
theorem c_placeOfBones (H : G A S h0 X h) (O : Ok wd N) (L : RoL X 905 (boL wd (N 3))) (n1 : X 8 6 = nI (boL wd (N 3)).length) {f : Nat} (hf : f < N 3) (k : Q (oI (plO (boL wd (N 3)) f (boL wd (N 3)).length)) h) : w_X8_placeOfBones (A 8) (nI f) h Q := by
  have R : True := trivial
  have h3 := O.f.2
  have b8 := boL_8 (wd := wd) (n := N 3)
  refine lp_ex (boL wd (N 3)).length (fun j => (nI j, h)) (fun j => plO (boL wd (N 3)) f j = none) (fun j kk1 hj hP kk => ?_) (fun hP kk1 => ?_) (Nat.zero_le _) rfl
  · rw [nI_succ] at kk
    have hb := (mkB_at O hj).1
    dsimp only [w_X8_placeOfBones_28, w_X8_placeOfBones_20, w_X8_placeOfBones_2, w_X8_placeOfBones]
    (repeat (first | with_reducible refine bd_i ?_ | with_reducible refine fP H (by with_unfolding_all first | exact H.b | exact hS) (by with_unfolding_all rfl) (by with_unfolding_all rfl) ?_ | with_reducible refine vG H (by with_unfolding_all first | exact H.b | exact hS) (by with_unfolding_all rfl) ?_ | with_reducible refine fC_ H R (by with_unfolding_all exact H.b) (by with_unfolding_all rfl) (by with_unfolding_all rfl) ?_ | with_reducible refine aC H R (by with_unfolding_all exact H.b) (by with_unfolding_all rfl) (by decide) (by with_unfolding_all rfl) rfl (by omega) ?_ | with_reducible refine fG H (by with_unfolding_all first | exact H.b | exact hS) (by with_unfolding_all rfl) ?_ | with_reducible refine aG H (by with_unfolding_all first | exact H.b | exact hS) (by with_unfolding_all rfl) (by decide) rfl (by omega) ?_))
    rw [n1]
    refine br_go hj (by omega) ?_
    (repeat (first | with_reducible refine bd_i ?_ | with_reducible refine fP H (by with_unfolding_all first | exact H.b | exact hS) (by with_unfolding_all rfl) (by with_unfolding_all rfl) ?_ | with_reducible refine vG H (by with_unfolding_all first | exact H.b | exact hS) (by with_unfolding_all rfl) ?_ | with_reducible refine fC_ H R (by with_unfolding_all exact H.b) (by with_unfolding_all rfl) (by with_unfolding_all rfl) ?_ | with_reducible refine aC H R (by with_unfolding_all exact H.b) (by with_unfolding_all rfl) (by decide) (by with_unfolding_all rfl) rfl (by omega) ?_ | with_reducible refine fG H (by with_unfolding_all first | exact H.b | exact hS) (by with_unfolding_all rfl) ?_ | with_reducible refine aG H (by with_unfolding_all first | exact H.b | exact hS) (by with_unfolding_all rfl) (by decide) rfl (by omega) ?_))
    rw [L j hj]
    refine br_Eq (by omega) (by omega) (fun c => ?_) (fun c => ?_)
    · rw [plO, fsO_at hj hP (decide_eq_true c)] at k
      exact k
    · refine kk ?_
      unfold plO at hP ⊢
      simp only [fsO, hP]
      rw [if_neg (by simpa using c)]
  · dsimp only [w_X8_placeOfBones_28, w_X8_placeOfBones_20, w_X8_placeOfBones_2, w_X8_placeOfBones]
    (repeat (first | with_reducible refine bd_i ?_ | with_reducible refine fP H (by with_unfolding_all first | exact H.b | exact hS) (by with_unfolding_all rfl) (by with_unfolding_all rfl) ?_ | with_reducible refine vG H (by with_unfolding_all first | exact H.b | exact hS) (by with_unfolding_all rfl) ?_ | with_reducible refine fC_ H R (by with_unfolding_all exact H.b) (by with_unfolding_all rfl) (by with_unfolding_all rfl) ?_ | with_reducible refine aC H R (by with_unfolding_all exact H.b) (by with_unfolding_all rfl) (by decide) (by with_unfolding_all rfl) rfl (by omega) ?_ | with_reducible refine fG H (by with_unfolding_all first | exact H.b | exact hS) (by with_unfolding_all rfl) ?_ | with_reducible refine aG H (by with_unfolding_all first | exact H.b | exact hS) (by with_unfolding_all rfl) (by decide) rfl (by omega) ?_))
    rw [n1]
    rw [hP] at k
    exact br_end k
theorem c_nameOthers (H : G A S h0 X h) (R : CR X wd) (O : Ok wd N) (L : RoL X 905 (boL wd (N 3))) (n1 : X 8 6 = nI (boL wd (N 3)).length) {w : Nat} (hw : w < (boL wd (N 3)).length) (k : ∀ X' h', G A S h0 X' h' → Off [907] X X' → (∀ s, s < 256 → X' 907 s = pI (Ac (othL (mkB wd (boL wd (N 3))) w (boL wd (N 3)).length) s)) → Qv h') : w_X8_nameOthers (A 8) (nI w) h Qv := by
  have h3 := O.f.2
  have b8 := boL_8 (wd := wd) (n := N 3)
  unfold w_X8_nameOthers
  (repeat (first | with_reducible refine bd_i ?_ | with_reducible refine fP H (by with_unfolding_all first | exact H.b | exact hS) (by with_unfolding_all rfl) (by with_unfolding_all rfl) ?_ | with_reducible refine vG H (by with_unfolding_all first | exact H.b | exact hS) (by with_unfolding_all rfl) ?_ | with_reducible refine fC_ H R (by with_unfolding_all exact H.b) (by with_unfolding_all rfl) (by with_unfolding_all rfl) ?_ | with_reducible refine aC H R (by with_unfolding_all exact H.b) (by with_unfolding_all rfl) (by decide) (by with_unfolding_all rfl) rfl (by omega) ?_ | with_reducible refine fG H (by with_unfolding_all first | exact H.b | exact hS) (by with_unfolding_all rfl) ?_ | with_reducible refine aG H (by with_unfolding_all first | exact H.b | exact hS) (by with_unfolding_all rfl) (by decide) rfl (by omega) ?_))
  refine c_fill (id := 907) H H.b rfl (by decide) (fun X1 h1 H1 o1 c1 => ?_)
  refine fP (o := 8) H1 H1.b rfl rfl ?_
  refine tG (id := 907) H1 H1.b rfl (by decide) (ix0 0) (by decide) (fun h2 H2 => ?_)
  refine lp_inv (boL wd (N 3)).length (fun j (s : Int32 × Int32 × AH) => s.1 = nI (othL (mkB wd (boL wd (N 3))) w j).length ∧ s.2.1 = nI j ∧ ∃ X', G A S h0 X' s.2.2 ∧ Off [907] X X' ∧ ∀ s, s < 256 → X' 907 s = pI (Ac (othL (mkB wd (boL wd (N 3))) w j) s)) (fun j s kk1 hj hI kk => ?_) (fun s kk1 hI => ?_) (Nat.zero_le _) ⟨rfl, rfl, _, H2, o1.up (by decide) _ _, fun s hs => ?_⟩
  · obtain ⟨v1, v2, h5⟩ := s
    obtain ⟨e1, e2, X5, H5, o5, I5⟩ := hI
    dsimp only at e1 e2 H5 ⊢
    subst e1 e2
    have R5 := R.offL o5 (by decide)
    have L5 : RoL X5 905 (boL wd (N 3)) := RoL.off L (o5 905 (by decide))
    have n5 : X5 8 6 = nI (boL wd (N 3)).length := by rw [o5 8 (by decide)]; exact n1
    clear H R H1 H2
    have H := H5
    have R := R5
    obtain ⟨q1, q2, q3⟩ := mkB_at O hj
    dsimp only [w_X8_nameOthers_19, w_X8_nameOthers_57]
    (repeat (first | with_reducible refine bd_i ?_ | with_reducible refine fP H (by with_unfolding_all first | exact H.b | exact hS) (by with_unfolding_all rfl) (by with_unfolding_all rfl) ?_ | with_reducible refine vG H (by with_unfolding_all first | exact H.b | exact hS) (by with_unfolding_all rfl) ?_ | with_reducible refine fC_ H R (by with_unfolding_all exact H.b) (by with_unfolding_all rfl) (by with_unfolding_all rfl) ?_ | with_reducible refine aC H R (by with_unfolding_all exact H.b) (by with_unfolding_all rfl) (by decide) (by with_unfolding_all rfl) rfl (by omega) ?_ | with_reducible refine fG H (by with_unfolding_all first | exact H.b | exact hS) (by with_unfolding_all rfl) ?_ | with_reducible refine aG H (by with_unfolding_all first | exact H.b | exact hS) (by with_unfolding_all rfl) (by decide) rfl (by omega) ?_))
    rw [n5]
    refine br_go hj (by omega) ?_
    refine br_Eq (by omega) (by omega) (fun c => ?_) (fun c => ?_)
    · refine kk _ ⟨?_, (nI_succ j).symm, X5, H5, o5, ?_⟩
      · simp only [othL, if_pos c]
      · simp only [othL, if_pos c]
        exact I5
    · (repeat (first | with_reducible refine bd_i ?_ | with_reducible refine fP H (by with_unfolding_all first | exact H.b | exact hS) (by with_unfolding_all rfl) (by with_unfolding_all rfl) ?_ | with_reducible refine vG H (by with_unfolding_all first | exact H.b | exact hS) (by with_unfolding_all rfl) ?_ | with_reducible refine fC_ H R (by with_unfolding_all exact H.b) (by with_unfolding_all rfl) (by with_unfolding_all rfl) ?_ | with_reducible refine aC H R (by with_unfolding_all exact H.b) (by with_unfolding_all rfl) (by decide) (by with_unfolding_all rfl) rfl (by omega) ?_ | with_reducible refine fG H (by with_unfolding_all first | exact H.b | exact hS) (by with_unfolding_all rfl) ?_ | with_reducible refine aG H (by with_unfolding_all first | exact H.b | exact hS) (by with_unfolding_all rfl) (by decide) rfl (by omega) ?_))
      rw [L5 j hj]
      (repeat (first | with_reducible refine bd_i ?_ | with_reducible refine fP H (by with_unfolding_all first | exact H.b | exact hS) (by with_unfolding_all rfl) (by with_unfolding_all rfl) ?_ | with_reducible refine vG H (by with_unfolding_all first | exact H.b | exact hS) (by with_unfolding_all rfl) ?_ | with_reducible refine fC_ H R (by with_unfolding_all exact H.b) (by with_unfolding_all rfl) (by with_unfolding_all rfl) ?_ | with_reducible refine aC H R (by with_unfolding_all exact H.b) (by with_unfolding_all rfl) (by decide) (by with_unfolding_all rfl) rfl (by omega) ?_ | with_reducible refine fG H (by with_unfolding_all first | exact H.b | exact hS) (by with_unfolding_all rfl) ?_ | with_reducible refine aG H (by with_unfolding_all first | exact H.b | exact hS) (by with_unfolding_all rfl) (by decide) rfl (by omega) ?_))
      rw [q2]
      have hl : (othL (mkB wd (boL wd (N 3))) w j).length ≤ 8 := by
        rw [oth_len]
        split <;> omega
      refine c_nameOne H hl I5 (fun X6 h6 H6 o6 I6 => ?_)
      refine kk _ ⟨?_, (nI_succ j).symm, X6, H6, o5.tr o6, ?_⟩
      · simp only [othL, if_neg c, List.length_cons]
        rw [nI_succ]
      · simp only [othL, if_neg c]
        exact I6
  · obtain ⟨v1, v2, h5⟩ := s
    obtain ⟨e1, e2, X5, H5, o5, I5⟩ := hI
    dsimp only at e1 e2 H5 ⊢
    subst e1 e2
    have n5 : X5 8 6 = nI (boL wd (N 3)).length := by rw [o5 8 (by decide)]; exact n1
    dsimp only [w_X8_nameOthers_19, w_X8_nameOthers_63]
    refine fG (o := 8) H5 H5.b rfl ?_
    rw [n5]
    exact br_end (k X5 h5 H5 o5 I5)
  · show up X1 907 0 1 907 s = pI (s = 0)
    by_cases e : s = 0
    · subst e
      rw [up_same, pI_t rfl]
    · rw [up_n _ _ _ e, c1 s hs, pI_f e]
theorem who_bits {l : List Nat} {m : Nat} {b : Int32} (hm : m < 256) (hb : ∀ p, p < 32 → (bt b p = true ↔ ∃ q, q < 256 ∧ Rr l q ∧ m.testBit p = true ∧ q.testBit p = false)) : b = bts (fun p => pB (∃ s, Rr ((m &&& 2 ^ p) :: l) s)) 8 := by
  apply b_ext
  intro p hp
  rw [bts_N (by decide), b_nI hp, btN_bit, Bool.eq_iff_iff, hb p hp, Bool.and_eq_true, decide_eq_true_eq, pB_iff]
  constructor
  · rintro ⟨q, q1, q2, q3, q4⟩
    have h8 : p < 8 := by
      rcases Nat.lt_or_ge p 8 with z | z
      · exact z
      · rw [Nat.testBit_lt_two_pow (Nat.lt_of_lt_of_le (show m < 2 ^ 8 from hm) (Nat.pow_le_pow_right (by omega) z))] at q3
        exact Bool.noConfusion q3
    exact ⟨h8, (who_iff h8).mpr ⟨q3, q, q2, q4⟩⟩
  · rintro ⟨h8, h⟩
    obtain ⟨h1, q, h2, h3⟩ := (who_iff h8).mp h
    exact ⟨q, Rr_lt h2, h2, h1, h3⟩
theorem c_peopleFor (H : G A S h0 X h) (R : CR X wd) (O : Ok wd N) (L : RoL X 905 (boL wd (N 3))) (n1 : X 8 6 = nI (boL wd (N 3)).length) {w : Nat} (hw : w < (boL wd (N 3)).length) (k : ∀ X' h', G A S h0 X' h' → Off [907] X X' → Q (bts (whB wd (boL wd (N 3)) w) 8) h') : w_X8_peopleFor (A 8) (nI w) h Q := by
  have h3 := O.f.2
  have b8 := boL_8 (wd := wd) (n := N 3)
  obtain ⟨q1, q2, q3⟩ := mkB_at O hw
  unfold w_X8_peopleFor
  (repeat (first | with_reducible refine bd_i ?_ | with_reducible refine fP H (by with_unfolding_all first | exact H.b | exact hS) (by with_unfolding_all rfl) (by with_unfolding_all rfl) ?_ | with_reducible refine vG H (by with_unfolding_all first | exact H.b | exact hS) (by with_unfolding_all rfl) ?_ | with_reducible refine fC_ H R (by with_unfolding_all exact H.b) (by with_unfolding_all rfl) (by with_unfolding_all rfl) ?_ | with_reducible refine aC H R (by with_unfolding_all exact H.b) (by with_unfolding_all rfl) (by decide) (by with_unfolding_all rfl) rfl (by omega) ?_ | with_reducible refine fG H (by with_unfolding_all first | exact H.b | exact hS) (by with_unfolding_all rfl) ?_ | with_reducible refine aG H (by with_unfolding_all first | exact H.b | exact hS) (by with_unfolding_all rfl) (by decide) rfl (by omega) ?_))
  refine c_nameOthers H R O L n1 hw (fun X1 h1 H1 o1 I1 => ?_)
  have z := k X1 h1 H1 o1
  have R1 := R.offL o1 (by decide)
  have L1 : RoL X1 905 (boL wd (N 3)) := RoL.off L (o1 905 (by decide))
  have n2 : X1 8 6 = nI (boL wd (N 3)).length := by rw [o1 8 (by decide)]; exact n1
  have ol : (othL (mkB wd (boL wd (N 3))) w (boL wd (N 3)).length).length = (boL wd (N 3)).length - 1 := by rw [oth_len, if_pos hw]
  clear H R k
  have H := H1
  have R := R1
  have hx : bts (whB wd (boL wd (N 3)) w) 8 = bts (fun p => pB (∃ s, Rr ((mkB wd (boL wd (N 3)) w &&& 2 ^ p) :: othL (mkB wd (boL wd (N 3))) w (boL wd (N 3)).length) s)) 8 := by
    refine bts_congr (fun p _ => ?_)
    unfold whB
    congr 1
    refine propext ⟨fun ⟨s, hs⟩ => ⟨s, (ref_oth hw).mp hs⟩, fun ⟨s, hs⟩ => ⟨s, (ref_oth hw).mpr hs⟩⟩
  rw [hx] at z
  generalize othL (mkB wd (boL wd (N 3))) w (boL wd (N 3)).length = l at *
  refine lp_inv 256 (fun j (s : Int32 × Int32 × AH) => s.2.1 = nI j ∧ s.2.2 = h1 ∧ ∀ p, p < 32 → (bt s.1 p = true ↔ ∃ q, q < j ∧ Rr l q ∧ (mkB wd (boL wd (N 3)) w).testBit p = true ∧ q.testBit p = false)) (fun j s kk1 hj hI kk => ?_) (fun s kk1 hI => ?_) (Nat.zero_le _) ⟨rfl, rfl, fun p hp => ?_⟩
  · obtain ⟨v, v2, h5⟩ := s
    obtain ⟨e1, e2, I⟩ := hI
    dsimp only at e1 e2 I ⊢
    subst e1 e2
    have knot : ¬ Rr l j → kk1 (v, nI j + 1, h5) := by
      intro hn
      refine kk _ ⟨(nI_succ j).symm, rfl, fun p hp => ?_⟩
      rw [I p hp]
      constructor
      · rintro ⟨q, y1, y2⟩
        exact ⟨q, by omega, y2⟩
      · rintro ⟨q, y1, y2, y3⟩
        have : q ≠ j := fun z => hn (z ▸ y2)
        exact ⟨q, by omega, y2, y3⟩
    dsimp only [w_X8_peopleFor_9, w_X8_peopleFor_65]
    refine fP (o := 8) H H.b rfl rfl ?_
    refine al_G (id := 907) H H.b rfl ?_
    refine br_go (a := 256) hj (by decide) ?_
    (repeat (first | with_reducible refine bd_i ?_ | with_reducible refine fP H (by with_unfolding_all first | exact H.b | exact hS) (by with_unfolding_all rfl) (by with_unfolding_all rfl) ?_ | with_reducible refine vG H (by with_unfolding_all first | exact H.b | exact hS) (by with_unfolding_all rfl) ?_ | with_reducible refine fC_ H R (by with_unfolding_all exact H.b) (by with_unfolding_all rfl) (by with_unfolding_all rfl) ?_ | with_reducible refine aC H R (by with_unfolding_all exact H.b) (by with_unfolding_all rfl) (by decide) (by with_unfolding_all rfl) rfl (by omega) ?_ | with_reducible refine fG H (by with_unfolding_all first | exact H.b | exact hS) (by with_unfolding_all rfl) ?_ | with_reducible refine aG H (by with_unfolding_all first | exact H.b | exact hS) (by with_unfolding_all rfl) (by decide) rfl (by omega) ?_))
    rw [I1 j hj]
    refine br_if (fun c => ?_) (fun c => knot (fun y => c (pI_1.mpr (Ac_Rr.mpr y).1)))
    rw [pI_1] at c
    refine bitCount ?_
    (repeat (first | with_reducible refine bd_i ?_ | with_reducible refine fP H (by with_unfolding_all first | exact H.b | exact hS) (by with_unfolding_all rfl) (by with_unfolding_all rfl) ?_ | with_reducible refine vG H (by with_unfolding_all first | exact H.b | exact hS) (by with_unfolding_all rfl) ?_ | with_reducible refine fC_ H R (by with_unfolding_all exact H.b) (by with_unfolding_all rfl) (by with_unfolding_all rfl) ?_ | with_reducible refine aC H R (by with_unfolding_all exact H.b) (by with_unfolding_all rfl) (by decide) (by with_unfolding_all rfl) rfl (by omega) ?_ | with_reducible refine fG H (by with_unfolding_all first | exact H.b | exact hS) (by with_unfolding_all rfl) ?_ | with_reducible refine aG H (by with_unfolding_all first | exact H.b | exact hS) (by with_unfolding_all rfl) (by decide) rfl (by omega) ?_))
    rw [n2, show nI (boL wd (N 3)).length - 1 = nI ((boL wd (N 3)).length - 1) from pk_sub (b := 1) (by omega), pc_N j hj]
    have hp8 := pc_lt j hj
    refine br_Eq (by omega) (by omega) (fun d => ?_) (fun d => knot (fun y => d (by rw [Rr_pop y]; exact ol)))
    have hR : Rr l j := Ac_Rr.mp ⟨c, by rw [d]; exact ol.symm⟩
    (repeat (first | with_reducible refine bd_i ?_ | with_reducible refine fP H (by with_unfolding_all first | exact H.b | exact hS) (by with_unfolding_all rfl) (by with_unfolding_all rfl) ?_ | with_reducible refine vG H (by with_unfolding_all first | exact H.b | exact hS) (by with_unfolding_all rfl) ?_ | with_reducible refine fC_ H R (by with_unfolding_all exact H.b) (by with_unfolding_all rfl) (by with_unfolding_all rfl) ?_ | with_reducible refine aC H R (by with_unfolding_all exact H.b) (by with_unfolding_all rfl) (by decide) (by with_unfolding_all rfl) rfl (by omega) ?_ | with_reducible refine fG H (by with_unfolding_all first | exact H.b | exact hS) (by with_unfolding_all rfl) ?_ | with_reducible refine aG H (by with_unfolding_all first | exact H.b | exact hS) (by with_unfolding_all rfl) (by decide) rfl (by omega) ?_))
    rw [L1 w hw]
    (repeat (first | with_reducible refine bd_i ?_ | with_reducible refine fP H (by with_unfolding_all first | exact H.b | exact hS) (by with_unfolding_all rfl) (by with_unfolding_all rfl) ?_ | with_reducible refine vG H (by with_unfolding_all first | exact H.b | exact hS) (by with_unfolding_all rfl) ?_ | with_reducible refine fC_ H R (by with_unfolding_all exact H.b) (by with_unfolding_all rfl) (by with_unfolding_all rfl) ?_ | with_reducible refine aC H R (by with_unfolding_all exact H.b) (by with_unfolding_all rfl) (by decide) (by with_unfolding_all rfl) rfl (by omega) ?_ | with_reducible refine fG H (by with_unfolding_all first | exact H.b | exact hS) (by with_unfolding_all rfl) ?_ | with_reducible refine aG H (by with_unfolding_all first | exact H.b | exact hS) (by with_unfolding_all rfl) (by decide) rfl (by omega) ?_))
    rw [q2]
    refine kk _ ⟨(nI_succ j).symm, rfl, fun p hp => ?_⟩
    dsimp only
    rw [b_or, Bool.or_eq_true, I p hp, b_and, b_xor, b_m1 p hp, b_nI hp, b_nI hp, Bool.xor_true, Bool.and_eq_true, Bool.not_eq_true']
    constructor
    · rintro (⟨q, y1, y2⟩ | ⟨y1, y2⟩)
      · exact ⟨q, by omega, y2⟩
      · exact ⟨j, by omega, hR, y1, y2⟩
    · rintro ⟨q, y1, y2, y3, y4⟩
      by_cases e : q = j
      · subst e
        exact Or.inr ⟨y3, y4⟩
      · exact Or.inl ⟨q, by omega, y2, y3, y4⟩
  · obtain ⟨v, v2, h5⟩ := s
    obtain ⟨e1, e2, I⟩ := hI
    dsimp only at e1 e2 I ⊢
    subst e1 e2
    dsimp only [w_X8_peopleFor_9, w_X8_peopleFor_71]
    refine fP (o := 8) H H.b rfl rfl ?_
    refine al_G (id := 907) H H.b rfl ?_
    rw [who_bits q3 I]
    exact br_end (a := 256) z
  · rw [b_0]
    constructor
    · intro y
      exact Bool.noConfusion y
    · rintro ⟨q, y, _⟩
      omega
noncomputable def whoS (wd : Nat → Int32) (N : Nat → Nat) (f : Int32) : Int32 × Int32 := cIf (isN f (N 3)) (match plO (boL wd (N 3)) (nt f) (boL wd (N 3)).length with
  | none => (2, 0)
  | some w => (0, bts (whB wd (boL wd (N 3)) w) 8)) (1, 0)
theorem fsO_lt {p : Nat → Bool} : ∀ {n w : Nat}, fsO p n = some w → w < n := by
  intro n
  induction n with
  | zero => intro w h; simp [fsO] at h
  | succ n ih =>
    intro w h
    simp only [fsO] at h
    cases e : fsO p n with
    | none =>
      rw [e] at h
      dsimp only at h
      split at h
      · cases h; omega
      · cases h
    | some x =>
      rw [e] at h
      cases h
      have := ih e
      omega
theorem L_who (H : G A S h0 X h) (R : CR X wd) (O : Ok wd N) (J : J3 h0 a3) {f : Int32} (k : ∀ h1 X' h', G A S h1 X' h' → hJ h0 h1 → OC X X' → ((whoS wd N f).1 = 0 → gJ h' a3 0 = (whoS wd N f).2.toInt64) → Q (whoS wd N f).1 h') : w_L_who (A 11) f a3 h Q := by
  obtain ⟨e3, h3⟩ := O.f
  have b8 := boL_8 (wd := wd) (n := N 3)
  dsimp only [w_L_who_15, w_L_who_12, w_L_who, w_X11_who_40, w_X11_who]
  (repeat (first | with_reducible refine bd_i ?_ | with_reducible refine fP H (by with_unfolding_all first | exact H.b | exact hS) (by with_unfolding_all rfl) (by with_unfolding_all rfl) ?_ | with_reducible refine vG H (by with_unfolding_all first | exact H.b | exact hS) (by with_unfolding_all rfl) ?_ | with_reducible refine fC_ H R (by with_unfolding_all exact H.b) (by with_unfolding_all rfl) (by with_unfolding_all rfl) ?_ | with_reducible refine aC H R (by with_unfolding_all exact H.b) (by with_unfolding_all rfl) (by decide) (by with_unfolding_all rfl) rfl (by omega) ?_ | with_reducible refine fG H (by with_unfolding_all first | exact H.b | exact hS) (by with_unfolding_all rfl) ?_ | with_reducible refine aG H (by with_unfolding_all first | exact H.b | exact hS) (by with_unfolding_all rfl) (by decide) rfl (by omega) ?_))
  rw [e3]
  refine c_num (by omega) (fun c1 => ?_) (fun c1 => ?_)
  · rw [whoS, cIf_t c1] at k
    obtain ⟨n, hn, rfl⟩ := c1
    rw [nt_nI (by omega)] at k
    (repeat (first | with_reducible refine bd_i ?_ | with_reducible refine fP H (by with_unfolding_all first | exact H.b | exact hS) (by with_unfolding_all rfl) (by with_unfolding_all rfl) ?_ | with_reducible refine vG H (by with_unfolding_all first | exact H.b | exact hS) (by with_unfolding_all rfl) ?_ | with_reducible refine fC_ H R (by with_unfolding_all exact H.b) (by with_unfolding_all rfl) (by with_unfolding_all rfl) ?_ | with_reducible refine aC H R (by with_unfolding_all exact H.b) (by with_unfolding_all rfl) (by decide) (by with_unfolding_all rfl) rfl (by omega) ?_ | with_reducible refine fG H (by with_unfolding_all first | exact H.b | exact hS) (by with_unfolding_all rfl) ?_ | with_reducible refine aG H (by with_unfolding_all first | exact H.b | exact hS) (by with_unfolding_all rfl) (by decide) rfl (by omega) ?_))
    refine c_gatherBones H R O (fun X1 h1 H1 o1 L1 n1 => ?_)
    have R1 := R.offL o1 (by decide)
    clear H R
    have H := H1
    have R := R1
    (repeat (first | with_reducible refine c_placeOfBones H O L1 n1 hn ?_ | with_reducible refine bd_i ?_ | with_reducible refine fP H (by with_unfolding_all first | exact H.b | exact hS) (by with_unfolding_all rfl) (by with_unfolding_all rfl) ?_ | with_reducible refine vG H (by with_unfolding_all first | exact H.b | exact hS) (by with_unfolding_all rfl) ?_ | with_reducible refine fC_ H R (by with_unfolding_all exact H.b) (by with_unfolding_all rfl) (by with_unfolding_all rfl) ?_ | with_reducible refine aC H R (by with_unfolding_all exact H.b) (by with_unfolding_all rfl) (by decide) (by with_unfolding_all rfl) rfl (by omega) ?_ | with_reducible refine fG H (by with_unfolding_all first | exact H.b | exact hS) (by with_unfolding_all rfl) ?_ | with_reducible refine aG H (by with_unfolding_all first | exact H.b | exact hS) (by with_unfolding_all rfl) (by decide) rfl (by omega) ?_))
    cases e : plO (boL wd (N 3)) n (boL wd (N 3)).length with
    | none =>
      rw [e] at k
      dsimp only at k
      refine br_T rfl (c_ne0 ?_)
      exact br_F (by decide) (br_T rfl (fun q => k _ _ _ H (hJ.rf _) (o1.mono (by decide)) (fun z => absurd z (by decide))))
    | some w =>
      have hw := fsO_lt e
      rw [e] at k
      refine br_F (oI_ne (by omega)) (c_ne1 ?_)
      (repeat (first | with_reducible refine bd_i ?_ | with_reducible refine fP H (by with_unfolding_all first | exact H.b | exact hS) (by with_unfolding_all rfl) (by with_unfolding_all rfl) ?_ | with_reducible refine vG H (by with_unfolding_all first | exact H.b | exact hS) (by with_unfolding_all rfl) ?_ | with_reducible refine fC_ H R (by with_unfolding_all exact H.b) (by with_unfolding_all rfl) (by with_unfolding_all rfl) ?_ | with_reducible refine aC H R (by with_unfolding_all exact H.b) (by with_unfolding_all rfl) (by decide) (by with_unfolding_all rfl) rfl (by omega) ?_ | with_reducible refine fG H (by with_unfolding_all first | exact H.b | exact hS) (by with_unfolding_all rfl) ?_ | with_reducible refine aG H (by with_unfolding_all first | exact H.b | exact hS) (by with_unfolding_all rfl) (by decide) rfl (by omega) ?_))
      refine c_peopleFor H R O L1 n1 hw (fun X2 h2 H2 o2 => ?_)
      exact tJG H2 J (fun h4 h' H' j1 j2 => k h4 X2 h' H' j1 ((o1.mono (by decide)).tr (o2.mono (by decide))) (fun _ => j2))
  · rw [whoS, cIf_f c1] at k
    (repeat (first | exact br_T rfl (fun q => k _ _ _ H (hJ.rf _) (Off.rf _ _) (fun z => absurd z (by decide))) | refine br_F (by decide) ?_))
end WHOC2
