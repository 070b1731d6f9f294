/-! walk, next, person -/
section NEXT
variable {A : Nat → Nat} {S : Nat → Prop} {h0 h : AH} {X : Nat → Nat → Int32} {wd : Nat → Int32} {N : Nat → Nat} {Q : Int32 → AH → Prop} {Qv : AH → Prop} {a3 : Nat}
def wkW (wd : Nat → Int32) (r : Nat) : Nat → Int32 := va_up wd 12 (wd 12 ||| (1 <<< (nI r &&& 31)))
def wkN (N : Nat → Nat) (r : Nat) : Nat → Nat := va_up N 12 (N 12 ||| 2 ^ r)
theorem wk_ok (O : Ok wd N) {r : Nat} (hr : r < 16) : Ok (wkW wd r) (wkN N r) := by
  unfold wkW wkN
  rw [O.wa.1, sh1 (by omega), nI_or]
  refine O.sc (w := 12) (M := 65535) (by omega) ?_
  have h1 : N 12 < 2 ^ 16 := by have := O.wa.2; omega
  have h2 : 2 ^ r < 2 ^ 16 := Nat.pow_lt_pow_right (by omega) hr
  have := Nat.or_lt_two_pow h1 h2
  omega
noncomputable def walkS (wd : Nat → Int32) (N : Nat → Nat) (r : Int32) : Int32 × Int32 := cIf (isN r 16) (0, cnt (sn (wkW wd (nt r))) (N 3) - cnt (sn wd) (N 3)) (1, 0)
noncomputable def walkW (wd : Nat → Int32) (r : Int32) : Nat → Int32 := cIf (isN r 16) (wkW wd (nt r)) wd
noncomputable def walkN (N : Nat → Nat) (r : Int32) : Nat → Nat := cIf (isN r 16) (wkN N (nt r)) N
theorem walk_ok (O : Ok wd N) {r : Int32} : Ok (walkW wd r) (walkN N r) := by
  unfold walkW walkN
  by_cases e : isN r 16
  · rw [cIf_t e, cIf_t e]
    exact wk_ok O (isN_nt (by decide) e).2
  · rw [cIf_f e, cIf_f e]
    exact O
theorem wk3 {r : Nat} : wkN N r 3 = N 3 := va_up_ne _ _ (by decide)
theorem L_walk (H : G A S h0 X h) (R : CR X wd) (O : Ok wd N) (J : J3 h0 a3) {r : Int32} (k : ∀ h1 X' h', G A S h1 X' h' → hJ h0 h1 → SC X X' → CR X' (walkW wd r) → ((walkS wd N r).1 = 0 → gJ h' a3 0 = (walkS wd N r).2.toInt64) → Q (walkS wd N r).1 h') : w_L_walk (A 11) r a3 h Q := by
  dsimp only [w_L_walk_12, w_L_walk, w_X11_walk]
  (repeat (first | with_reducible refine bd_i ?_ | with_reducible refine fP H (by with_unfolding_all first | exact H.b | exact hS) (by with_unfolding_all rfl) (by with_unfolding_all rfl) ?_ | with_reducible refine vG H (by with_unfolding_all first | exact H.b | exact hS) (by with_unfolding_all rfl) ?_ | with_reducible refine fC_ H R (by with_unfolding_all exact H.b) (by with_unfolding_all rfl) (by with_unfolding_all rfl) ?_ | with_reducible refine aC H R (by with_unfolding_all exact H.b) (by with_unfolding_all rfl) (by decide) (by with_unfolding_all rfl) rfl (by omega) ?_ | with_reducible refine fG H (by with_unfolding_all first | exact H.b | exact hS) (by with_unfolding_all rfl) ?_ | with_reducible refine aG H (by with_unfolding_all first | exact H.b | exact hS) (by with_unfolding_all rfl) (by decide) rfl (by omega) ?_))
  refine c_num (m := 16) (by decide) (fun c => ?_) (fun c => ?_)
  · rw [walkS, walkW, cIf_t c, cIf_t c] at k
    obtain ⟨n, hn, rfl⟩ := c
    rw [nt_nI (by omega)] at k
    (repeat (first | with_reducible refine c_seenCount H R O ?_ | with_reducible refine bd_i ?_ | with_reducible refine fP H (by with_unfolding_all first | exact H.b | exact hS) (by with_unfolding_all rfl) (by with_unfolding_all rfl) ?_ | with_reducible refine vG H (by with_unfolding_all first | exact H.b | exact hS) (by with_unfolding_all rfl) ?_ | with_reducible refine fC_ H R (by with_unfolding_all exact H.b) (by with_unfolding_all rfl) (by with_unfolding_all rfl) ?_ | with_reducible refine aC H R (by with_unfolding_all exact H.b) (by with_unfolding_all rfl) (by decide) (by with_unfolding_all rfl) rfl (by omega) ?_ | with_reducible refine fG H (by with_unfolding_all first | exact H.b | exact hS) (by with_unfolding_all rfl) ?_ | with_reducible refine aG H (by with_unfolding_all first | exact H.b | exact hS) (by with_unfolding_all rfl) (by decide) rfl (by omega) ?_))
    refine uC (o := 1) H R H.b rfl rfl (fun h1 H1 R1 => ?_)
    have s1 : ST X (up X 1 9 (wd 12 ||| (1 <<< (nI n &&& 31)))) := (ST.rf X).up rfl _ _
    have R2 : CR _ (wkW wd n) := R1
    have O1 := wk_ok O hn
    generalize up X 1 9 (wd 12 ||| (1 <<< (nI n &&& 31))) = X1 at *
    clear H R
    have H := H1
    have R := R2
    (repeat (first | with_reducible refine c_seenCount H R O1 ?_ | with_reducible refine bd_i ?_ | with_reducible refine fP H (by with_unfolding_all first | exact H.b | exact hS) (by with_unfolding_all rfl) (by with_unfolding_all rfl) ?_ | with_reducible refine vG H (by with_unfolding_all first | exact H.b | exact hS) (by with_unfolding_all rfl) ?_ | with_reducible refine fC_ H R (by with_unfolding_all exact H.b) (by with_unfolding_all rfl) (by with_unfolding_all rfl) ?_ | with_reducible refine aC H R (by with_unfolding_all exact H.b) (by with_unfolding_all rfl) (by decide) (by with_unfolding_all rfl) rfl (by omega) ?_ | with_reducible refine fG H (by with_unfolding_all first | exact H.b | exact hS) (by with_unfolding_all rfl) ?_ | with_reducible refine aG H (by with_unfolding_all first | exact H.b | exact hS) (by with_unfolding_all rfl) (by decide) rfl (by omega) ?_))
    rw [wk3]
    exact tJG H J (fun h2 h' H' j1 j2 => k h2 _ h' H' j1 (SC.of s1) R (fun _ => j2))
  · rw [walkS, walkW, cIf_f c, cIf_f c] at k
    exact br_T rfl (fun q => k _ _ _ H (hJ.rf _) (SC.of (ST.rf _)) R (fun z => absurd z (by decide)))
theorem m_walk_ (H : G A S h0 X h) (M : MR X wd) (O : Ok wd N) {r : Int32} (k : ∀ X' h', G A S h0 X' h' → OW X X' → MR X' (walkW wd r) → X' 12 0 = (walkS wd N r).1 → Q (walkS wd N r).2 h') : w_X12_walk (A 12) r h Q := by
  dsimp only [w_X12_walk]
  refine m_ent H M (fun X1 h1 H1 M1 o1 t1 => ?_)
  clear H M
  have H := H1
  have M := M1
  refine m_row (fun c => ?_) (fun c => ?_)
  · rw [walkS, walkW, cIf_t c, cIf_t c] at k
    obtain ⟨n, hn, rfl⟩ := c
    rw [nt_nI (by omega)] at k
    (repeat (first | with_reducible refine thr0 ?_ | with_reducible refine br_T rfl ?_ | with_reducible refine m_seenMany H M O ?_ | with_reducible refine bd_i ?_ | with_reducible refine fP H (by with_unfolding_all exact H.b) (by with_unfolding_all rfl) (by with_unfolding_all rfl) ?_ | with_reducible refine vG H (by with_unfolding_all exact H.b) (by with_unfolding_all rfl) ?_ | with_reducible refine aM H M rfl (by omega) ?_ | with_reducible refine aM H M (ix0 0) (by omega) ?_ | with_reducible refine aM H M (ix0 1) (by omega) ?_ | with_reducible refine aM H M (ix0 2) (by omega) ?_ | with_reducible refine aM H M (ix0 3) (by omega) ?_ | with_reducible refine aM H M (ix0 4) (by omega) ?_ | with_reducible refine aM H M (ix0 5) (by omega) ?_ | with_reducible refine aM H M (ix0 6) (by omega) ?_ | with_reducible refine aM H M (ix0 7) (by omega) ?_ | with_reducible refine aM H M (ix0 8) (by omega) ?_ | with_reducible refine aM H M (ix0 9) (by omega) ?_ | with_reducible refine aM H M (ix0 10) (by omega) ?_ | with_reducible refine aM H M (ix0 11) (by omega) ?_ | with_reducible refine aM H M (ix0 12) (by omega) ?_ | with_reducible refine aM H M (ix1 13 _) (by omega) ?_ | with_reducible refine aM H M (ix1 1161 _) (by omega) ?_ | with_reducible refine aM H M (ix2 269 4 _) (by omega) ?_ | with_reducible refine aM H M (ix4 269 4 _ 1) (by omega) ?_ | with_reducible refine aM H M (ix4 269 4 _ 2) (by omega) ?_ | with_reducible refine aM H M (ix4 269 4 _ 3) (by omega) ?_ | with_reducible refine fG H (by with_unfolding_all exact H.b) (by with_unfolding_all rfl) ?_ | with_reducible refine aG H (by with_unfolding_all exact H.b) (by with_unfolding_all rfl) (by decide) rfl (by omega) ?_))
    refine tM H M (ix0 12) (by decide) (fun h2 H2 M2 => ?_)
    have M3 : MR _ (wkW wd n) := M2
    have o2 := (OW.of o1).wr 12 (wd 12 ||| (1 <<< (nI n &&& 31)))
    have t2 : up X1 1301 12 (wd 12 ||| (1 <<< (nI n &&& 31))) 12 0 = 0 := by rw [up_row _ _ _ (by decide)]; exact t1
    have O1 := wk_ok O hn
    refine vG (o := 12) H2 H2.b rfl ?_
    refine m_seenMany H2 M3 O1 ?_
    rw [wk3]
    exact k _ h2 H2 o2 M3 t2
  · rw [walkS, walkW, cIf_f c, cIf_f c] at k
    (repeat (first | with_reducible refine bd_i ?_ | with_reducible refine fP H (by with_unfolding_all exact H.b) (by with_unfolding_all rfl) (by with_unfolding_all rfl) ?_ | with_reducible refine vG H (by with_unfolding_all exact H.b) (by with_unfolding_all rfl) ?_ | with_reducible refine aM H M rfl (by omega) ?_ | with_reducible refine aM H M (ix0 0) (by omega) ?_ | with_reducible refine aM H M (ix0 1) (by omega) ?_ | with_reducible refine aM H M (ix0 2) (by omega) ?_ | with_reducible refine aM H M (ix0 3) (by omega) ?_ | with_reducible refine aM H M (ix0 4) (by omega) ?_ | with_reducible refine aM H M (ix0 5) (by omega) ?_ | with_reducible refine aM H M (ix0 6) (by omega) ?_ | with_reducible refine aM H M (ix0 7) (by omega) ?_ | with_reducible refine aM H M (ix0 8) (by omega) ?_ | with_reducible refine aM H M (ix0 9) (by omega) ?_ | with_reducible refine aM H M (ix0 10) (by omega) ?_ | with_reducible refine aM H M (ix0 11) (by omega) ?_ | with_reducible refine aM H M (ix0 12) (by omega) ?_ | with_reducible refine aM H M (ix1 13 _) (by omega) ?_ | with_reducible refine aM H M (ix1 1161 _) (by omega) ?_ | with_reducible refine aM H M (ix2 269 4 _) (by omega) ?_ | with_reducible refine aM H M (ix4 269 4 _ 1) (by omega) ?_ | with_reducible refine aM H M (ix4 269 4 _ 2) (by omega) ?_ | with_reducible refine aM H M (ix4 269 4 _ 3) (by omega) ?_ | with_reducible refine fG H (by with_unfolding_all exact H.b) (by with_unfolding_all rfl) ?_ | with_reducible refine aG H (by with_unfolding_all exact H.b) (by with_unfolding_all rfl) (by decide) rfl (by omega) ?_))
    exact thr1 H (fun h2 H2 => br_F (by decide) (k _ _ H2 ((OW.of o1).th 1) (M.off (id := 12) (by decide) 0 1) (up_same _ _ _ _)))
theorem sh_hi {y : Nat} (hy : y < 16) : ∀ i, 16 ≤ i → bt ((1 : Int32) <<< (nI y &&& 31)) i = false := by
  intro i hi
  rcases Nat.lt_or_ge i 32 with h | h
  · rw [b_sh1 (by omega) h]
    exact decide_eq_false (by omega)
  · exact b_big h
theorem fr_comp (O : Ok wd N) {y f : Nat} (hy : y < 16) (hf : f < N 3) : snR wd ((nrF (1 <<< (nI y &&& 31)) (N 11) &&& 65535) &&& ((nrF (wd 12) (N 11) &&& 65535) ^^^ -1)) f = frB wd N y f := by
  obtain ⟨e, hc⟩ := (O.F hf).2.1
  unfold snR frB
  congr 1
  rw [e, row_of hc, nt_nI (by omega), ← nrF_nrB (by omega) O.wi.2 (sh_hi hy), ← nrF_nrB (by omega) O.wi.2 (wa_hi O), Bool.eq_iff_iff, decide_eq_true_eq, b_at (by omega), b_and, b_xor, b_m1 _ (by omega), Bool.xor_true]
theorem fr_ref (O : Ok wd N) {y : Nat} (hy : y < 16) : cnt (sn (wkW wd y)) (N 3) = cnt (sn wd) (N 3) + frC wd N y := by
  have O1 := wk_ok O hy
  have h : cnt (sn (wkW wd y)) (N 3) = cnt (fun f => sn wd f || frB wd N y f) (N 3) := by
    refine cnt_congr (fun f hf => ?_)
    rw [sn_near O1 (by rw [wk3]; exact hf), sn_near O hf]
    unfold frB
    have e1 : wkW wd y 10 = wd 10 := va_up_ne _ _ (by decide)
    have e2 : wkW wd y (351 + 6 * f) = wd (351 + 6 * f) := va_up_ne _ _ (by omega)
    have e3 : wkW wd y (350 + 6 * f) = wd (350 + 6 * f) := va_up_ne _ _ (by omega)
    have e4 : wkN N y 11 = N 11 := va_up_ne _ _ (by decide)
    have e5 : wkW wd y 12 = wd 12 ||| (1 <<< (nI y &&& 31)) := va_up_self _ _ _
    rw [e1, e2, e3, e4, e5, nrB_or]
    cases decide (¬ wd 10 < wd (351 + 6 * f)) <;> cases nrB (wd 12) (N 11) (nt (wd (350 + 6 * f)) / 16) <;> cases nrB (1 <<< (nI y &&& 31)) (N 11) (nt (wd (350 + 6 * f)) / 16) <;> rfl
  rw [h, cnt_or]
  · rfl
  · intro f hf
    rw [sn_near O hf]
    unfold frB
    cases decide (¬ wd 10 < wd (351 + 6 * f)) <;> cases nrB (wd 12) (N 11) (nt (wd (350 + 6 * f)) / 16) <;> cases nrB (1 <<< (nI y &&& 31)) (N 11) (nt (wd (350 + 6 * f)) / 16) <;> rfl
theorem add_sub (a b : Int32) : a + b - a = b := by grind
theorem frC_pos (O : Ok wd N) {y : Nat} : ¬ frC wd N y ≤ -1 := by
  obtain ⟨m, h1, h2⟩ := cnt_N (p := frB wd N y) (n := N 3)
  unfold frC
  rw [h2]
  intro z
  have h3 := O.f.2
  have := Int32.le_trans (nI_pos' (n := m) (by omega)) z
  exact absurd this (by decide)
theorem b_at0 {x : Int32} {r : Nat} (hr : r < 32) : (x >>> (nI r &&& 31)) &&& 1 = 0 ↔ ¬ bt x r = true := by
  rw [← b_at hr]
  rcases and1 (x >>> (nI r &&& 31)) with c | c
  · rw [c]; decide
  · rw [c]; decide
theorem c_next (H : G A S h0 X h) (R : CR X wd) (O : Ok wd N) (k : Q (oI (nxO wd N 16)) h) : w_X11_next (A 11) h Q := by
  unfold w_X11_next
  (repeat (first | with_reducible refine bd_i ?_ | with_reducible refine fP H (by with_unfolding_all first | exact H.b | exact hS) (by with_unfolding_all rfl) (by with_unfolding_all rfl) ?_ | with_reducible refine vG H (by with_unfolding_all first | exact H.b | exact hS) (by with_unfolding_all rfl) ?_ | with_reducible refine fC_ H R (by with_unfolding_all exact H.b) (by with_unfolding_all rfl) (by with_unfolding_all rfl) ?_ | with_reducible refine aC H R (by with_unfolding_all exact H.b) (by with_unfolding_all rfl) (by decide) (by with_unfolding_all rfl) rfl (by omega) ?_ | with_reducible refine fG H (by with_unfolding_all first | exact H.b | exact hS) (by with_unfolding_all rfl) ?_ | with_reducible refine aG H (by with_unfolding_all first | exact H.b | exact hS) (by with_unfolding_all rfl) (by decide) rfl (by omega) ?_))
  unfold w_X1_bestRow
  (repeat (first | with_reducible refine c_nearRows H R O ?_ | with_reducible refine bd_i ?_ | with_reducible refine fP H (by with_unfolding_all first | exact H.b | exact hS) (by with_unfolding_all rfl) (by with_unfolding_all rfl) ?_ | with_reducible refine vG H (by with_unfolding_all first | exact H.b | exact hS) (by with_unfolding_all rfl) ?_ | with_reducible refine fC_ H R (by with_unfolding_all exact H.b) (by with_unfolding_all rfl) (by with_unfolding_all rfl) ?_ | with_reducible refine aC H R (by with_unfolding_all exact H.b) (by with_unfolding_all rfl) (by decide) (by with_unfolding_all rfl) rfl (by omega) ?_ | with_reducible refine fG H (by with_unfolding_all first | exact H.b | exact hS) (by with_unfolding_all rfl) ?_ | with_reducible refine aG H (by with_unfolding_all first | exact H.b | exact hS) (by with_unfolding_all rfl) (by decide) rfl (by omega) ?_))
  refine lp_up 16 (fun j => (oI (nxO wd N j), moC wd N (-1) (nxO wd N j), nI j, h)) (fun j kk1 hj kk => ?_) (fun kk1 => ?_) (Nat.zero_le _)
  · rw [nI_succ] at kk
    simp only [nxO] at kk
    dsimp only [w_X1_bestRow_67, w_X1_bestRow_61, w_X1_bestRow_12, w_X1_bestRow]
    refine br_go (a := 16) hj (by decide) ?_
    (repeat (first | with_reducible refine bd_i ?_ | with_reducible refine fP H (by with_unfolding_all first | exact H.b | exact hS) (by with_unfolding_all rfl) (by with_unfolding_all rfl) ?_ | with_reducible refine vG H (by with_unfolding_all first | exact H.b | exact hS) (by with_unfolding_all rfl) ?_ | with_reducible refine fC_ H R (by with_unfolding_all exact H.b) (by with_unfolding_all rfl) (by with_unfolding_all rfl) ?_ | with_reducible refine aC H R (by with_unfolding_all exact H.b) (by with_unfolding_all rfl) (by decide) (by with_unfolding_all rfl) rfl (by omega) ?_ | with_reducible refine fG H (by with_unfolding_all first | exact H.b | exact hS) (by with_unfolding_all rfl) ?_ | with_reducible refine aG H (by with_unfolding_all first | exact H.b | exact hS) (by with_unfolding_all rfl) (by decide) rfl (by omega) ?_))
    refine br_if (fun c => ?_) (fun c => ?_)
    · rw [b_at0 (by omega)] at c
      rw [if_neg c] at kk
      (repeat (first | with_reducible refine c_rowsNear H R O ?_ | with_reducible refine c_seenIn H R O ?_ | with_reducible refine bd_i ?_ | with_reducible refine fP H (by with_unfolding_all first | exact H.b | exact hS) (by with_unfolding_all rfl) (by with_unfolding_all rfl) ?_ | with_reducible refine vG H (by with_unfolding_all first | exact H.b | exact hS) (by with_unfolding_all rfl) ?_ | with_reducible refine fC_ H R (by with_unfolding_all exact H.b) (by with_unfolding_all rfl) (by with_unfolding_all rfl) ?_ | with_reducible refine aC H R (by with_unfolding_all exact H.b) (by with_unfolding_all rfl) (by decide) (by with_unfolding_all rfl) rfl (by omega) ?_ | with_reducible refine fG H (by with_unfolding_all first | exact H.b | exact hS) (by with_unfolding_all rfl) ?_ | with_reducible refine aG H (by with_unfolding_all first | exact H.b | exact hS) (by with_unfolding_all rfl) (by decide) rfl (by omega) ?_))
      rw [cnt_congr (fun f hf => fr_comp O hj hf)]
      have hx : cnt (frB wd N j) (N 3) = frC wd N j := rfl
      rw [hx]
      cases e : nxO wd N j with
      | none =>
        rw [e] at kk
        exact br_F (frC_pos O) kk
      | some b =>
        rw [e] at kk
        dsimp only [moC] at kk ⊢
        refine br_if (fun c2 => ?_) (fun c2 => ?_)
        · rw [if_neg (Int32.not_lt.mpr c2)] at kk
          exact kk
        · rw [if_pos (Int32.not_le.mp c2)] at kk
          exact kk
    · rw [b_at0 (by omega)] at c
      rw [if_pos (Decidable.not_not.mp c)] at kk
      exact kk
  · dsimp only [w_X1_bestRow_67, w_X1_bestRow_61, w_X1_bestRow_12, w_X1_bestRow]
    exact br_end (a := 16) k
theorem m_next_ (H : G A S h0 X h) (M : MR X wd) (O : Ok wd N) (k : ∀ X' h', G A S h0 X' h' → OT X X' → X' 12 0 = 0 → Q (oI (nxO wd N 16)) h') : w_X12_next (A 12) h Q := by
  unfold w_X12_next
  refine m_ent H M (fun X1 h1 H1 M1 o1 t1 => ?_)
  clear H M
  have H := H1
  have M := M1
  (repeat (first | with_reducible refine m_seenMany H M O ?_ | with_reducible refine bd_i ?_ | with_reducible refine fP H (by with_unfolding_all exact H.b) (by with_unfolding_all rfl) (by with_unfolding_all rfl) ?_ | with_reducible refine vG H (by with_unfolding_all exact H.b) (by with_unfolding_all rfl) ?_ | with_reducible refine aM H M rfl (by omega) ?_ | with_reducible refine aM H M (ix0 0) (by omega) ?_ | with_reducible refine aM H M (ix0 1) (by omega) ?_ | with_reducible refine aM H M (ix0 2) (by omega) ?_ | with_reducible refine aM H M (ix0 3) (by omega) ?_ | with_reducible refine aM H M (ix0 4) (by omega) ?_ | with_reducible refine aM H M (ix0 5) (by omega) ?_ | with_reducible refine aM H M (ix0 6) (by omega) ?_ | with_reducible refine aM H M (ix0 7) (by omega) ?_ | with_reducible refine aM H M (ix0 8) (by omega) ?_ | with_reducible refine aM H M (ix0 9) (by omega) ?_ | with_reducible refine aM H M (ix0 10) (by omega) ?_ | with_reducible refine aM H M (ix0 11) (by omega) ?_ | with_reducible refine aM H M (ix0 12) (by omega) ?_ | with_reducible refine aM H M (ix1 13 _) (by omega) ?_ | with_reducible refine aM H M (ix1 1161 _) (by omega) ?_ | with_reducible refine aM H M (ix2 269 4 _) (by omega) ?_ | with_reducible refine aM H M (ix4 269 4 _ 1) (by omega) ?_ | with_reducible refine aM H M (ix4 269 4 _ 2) (by omega) ?_ | with_reducible refine aM H M (ix4 269 4 _ 3) (by omega) ?_ | with_reducible refine fG H (by with_unfolding_all exact H.b) (by with_unfolding_all rfl) ?_ | with_reducible refine aG H (by with_unfolding_all exact H.b) (by with_unfolding_all rfl) (by decide) rfl (by omega) ?_))
  refine lp_inv 16 (fun j (s : Int32 × Int32 × Int32 × AH) => s.1 = oI (nxO wd N j) ∧ s.2.1 = moC wd N 0 (nxO wd N j) ∧ s.2.2.1 = nI j ∧ ∃ X2, G A S h0 X2 s.2.2.2 ∧ ∀ id n, ¬ (id = 1301 ∧ n = 12) → X2 id n = X1 id n) (fun j s kk1 hj hI kk => ?_) (fun s kk1 hI => ?_) (Nat.zero_le _) ⟨rfl, rfl, rfl, X1, H1, fun _ _ _ => rfl⟩
  · obtain ⟨v1, v2, v3, h2⟩ := s
    obtain ⟨e1, e2, e3, X2, H2, q2⟩ := hI
    dsimp only at e1 e2 e3 H2 ⊢
    subst e1 e2 e3
    dsimp only [w_X12_next_94, w_X12_next_88, w_X12_next_81, w_X12_next_26, w_X12_next]
    refine br_go (a := 16) hj (by decide) ?_
    refine br_if (fun c => ?_) (fun c => ?_)
    · rw [b_at (by omega)] at c
      have en : nxO wd N (j + 1) = nxO wd N j := by simp only [nxO, if_pos c]
      exact kk _ ⟨by rw [en], by rw [en], (nI_succ j).symm, X2, H2, q2⟩
    · rw [b_at (by omega)] at c
      refine fP (o := 12) H2 H2.b rfl rfl ?_
      refine tG (id := 1301) H2 H2.b rfl (by decide) (ix0 12) (by decide) (fun h3 H3 => ?_)
      have M3 : MR (up X2 1301 12 (wd 12 ||| (1 <<< (nI j &&& 31)))) (wkW wd j) := by
        intro w hw
        by_cases e : w = 12
        · subst e
          rw [up_same]
          exact (va_up_self _ _ _).symm
        · rw [up_n _ _ _ e, q2 1301 w (fun z => e z.2), M w hw]
          exact (va_up_ne _ _ e).symm
      have q3 : ∀ id n, ¬ (id = 1301 ∧ n = 12) → up X2 1301 12 (wd 12 ||| (1 <<< (nI j &&& 31))) id n = X1 id n := by
        intro id n hn
        by_cases e : id = 1301
        · subst e
          rw [up_n _ _ _ (fun z => hn ⟨rfl, z⟩)]
          exact q2 _ _ hn
        · rw [up_row _ _ _ e]
          exact q2 _ _ hn
      refine vG (o := 12) H3 H3.b rfl ?_
      refine m_seenMany H3 M3 (wk_ok O hj) ?_
      rw [wk3, fr_ref O hj, add_sub]
      refine bd_i ?_
      have key : ∀ o, nxO wd N (j + 1) = o → kk1 (oI o, moC wd N 0 o, nI j + 1, h3) := by
        intro o ho
        subst ho
        exact kk _ ⟨rfl, rfl, (nI_succ j).symm, _, H3, q3⟩
      cases e : nxO wd N j with
      | none =>
        refine br_T (show oI none < 0 by decide) ?_
        exact key (some j) (by simp only [nxO, if_neg c, e])
      | some b =>
        have hb := nxO_lt e
        refine br_F (show ¬ oI (some b) < 0 from nI_pos (by omega)) ?_
        dsimp only [moC]
        refine br_if (fun c2 => ?_) (fun c2 => ?_)
        · exact key (some j) (by simp only [nxO, if_neg c, e, if_pos c2])
        · exact key (some b) (by simp only [nxO, if_neg c, e, if_neg c2])
  · obtain ⟨v1, v2, v3, h2⟩ := s
    obtain ⟨e1, e2, e3, X2, H2, q2⟩ := hI
    dsimp only at e1 e2 e3 H2 ⊢
    subst e1 e2 e3
    dsimp only [w_X12_next_94, w_X12_next_88, w_X12_next_81, w_X12_next_26, w_X12_next]
    refine br_end (a := 16) ?_
    refine fP (o := 12) H2 H2.b rfl rfl ?_
    refine tG (id := 1301) H2 H2.b rfl (by decide) (ix0 12) (by decide) (fun h3 H3 => ?_)
    refine k _ h3 H3 (o1.tr (fun id n _ _ => ?_)) ?_
    · by_cases e : id = 1301
      · subst e
        by_cases e2 : n = 12
        · subst e2
          rw [up_same, M 12 (by decide)]
        · rw [up_n _ _ _ e2]
          exact q2 _ _ (fun z => e2 z.2)
      · rw [up_row _ _ _ e]
        exact q2 _ _ (fun z => e z.1)
    · rw [up_row _ _ _ (by decide), q2 12 0 (by decide)]
      exact t1
end NEXT
