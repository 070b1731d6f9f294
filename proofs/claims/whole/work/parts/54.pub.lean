/-! frames of calls; what a call answers; height, sees, later -/
noncomputable def cIf {α : Type} (c : Prop) (a b : α) : α := @ite α c (Classical.propDecidable c) a b
theorem cIf_t {α : Type} {c : Prop} {a b : α} (h : c) : cIf c a b = a := if_pos h
theorem cIf_f {α : Type} {c : Prop} {a b : α} (h : ¬ c) : cIf c a b = b := if_neg h
def isN (v : Int32) (m : Nat) : Prop := ∃ j, j < m ∧ v = nI j
theorem isN_lt {v : Int32} {m : Nat} (hm : m < 2 ^ 31) : (0 ≤ v ∧ v < nI m) ↔ isN v m := by
  constructor
  · rintro ⟨h1, h2⟩
    obtain ⟨j, h3, h4⟩ := nI_of (Int32.not_lt.mpr h1)
    subst h4
    exact ⟨j, (nI_ltI h3 hm).mp h2, rfl⟩
  · rintro ⟨j, h1, rfl⟩
    exact ⟨nI_pos' (by omega), nI_lt h1 hm⟩
theorem isN_le {v : Int32} {m : Nat} (hm : m < 2 ^ 31) : inR v 0 (nI m - 1) ↔ isN v m := by
  constructor
  · rintro ⟨h1, h2⟩
    obtain ⟨j, h3, h4⟩ := nI_of (Int32.not_lt.mpr h1)
    subst h4
    refine ⟨j, ?_, rfl⟩
    cases m with
    | zero =>
      exfalso
      have : nI j ≤ -1 := h2
      have h5 := Int32.le_trans h1 this
      exact absurd h5 (by decide)
    | succ m =>
      rw [nI_pred, nI_leI h3 (by omega)] at h2
      omega
  · rintro ⟨j, h1, rfl⟩
    cases m with
    | zero => exact absurd h1 (Nat.not_lt_zero _)
    | succ m =>
      rw [nI_pred]
      exact ⟨nI_pos' (by omega), nI_le (by omega) (by omega)⟩
theorem isN_255 {v : Int32} : inR v 0 255 ↔ isN v 256 := isN_le (m := 256) (by decide)
theorem isN_nt {v : Int32} {m : Nat} (hm : m < 2 ^ 31) (h : isN v m) : v = nI (nt v) ∧ nt v < m := by
  obtain ⟨j, h1, rfl⟩ := h
  rw [nt_nI (by omega)]
  exact ⟨rfl, h1⟩
def cSL : List Nat := [8, 101, 901, 902, 903, 904, 905, 907, 908]
/-- the class wrote only what it writes anew each time -/
def OC (X X' : Nat → Nat → Int32) : Prop := Off cSL X X'
def OT (X X' : Nat → Nat → Int32) : Prop := ∀ id n, mS id n = false → ¬ (id = 12 ∧ n = 0) → X' id n = X id n
theorem OT.of {X X' : Nat → Nat → Int32} (a : OM X X') : OT X X' := fun id n h _ => a id n h
theorem OT.rf (X : Nat → Nat → Int32) : OT X X := fun _ _ _ _ => rfl
theorem OT.tr {X X' X'' : Nat → Nat → Int32} (a : OT X X') (b : OT X' X'') : OT X X'' := fun id n h g => (b id n h g).trans (a id n h g)
theorem OT.th {X X' : Nat → Nat → Int32} (a : OT X X') (v : Int32) : OT X (up X' 12 0 v) := fun id n h g => by
  by_cases e : id = 12
  · subst e
    rw [up_n _ _ _ (fun z => g ⟨rfl, z⟩)]
    exact a 12 n h g
  · rw [up_row _ _ _ e]
    exact a id n h g
/-- two bases that differ only in longs -/
def hJ (h0 h1 : AH) : Prop := h1.1 = h0.1 ∧ h1.2.1 = h0.2.1 ∧ h1.2.2.1 = h0.2.2.1 ∧ h1.2.2.2.1 = h0.2.2.2.1 ∧ h1.2.2.2.2.2 = h0.2.2.2.2.2
theorem hJ.rf (h0 : AH) : hJ h0 h0 := ⟨rfl, rfl, rfl, rfl, rfl⟩
section PUB
variable {A : Nat → Nat} {S : Nat → Prop} {h0 h : AH} {X : Nat → Nat → Int32} {wd : Nat → Int32} {N : Nat → Nat} {Q : Int32 → AH → Prop} {Qv : AH → Prop} {a3 : Nat}
theorem G.sJ (H : G A S h0 X h) (a k : Nat) (v : Int64) : G A S (sJ h0 a k v) X (sJ h a k v) := by
  obtain ⟨h1, h2, h3, h4, h5, h6, h7⟩ := H
  refine ⟨h1, h2, h3, h4, ?_, h6, h7⟩
  show (va_up h.2.2.2.2.1 a (va_up (h.2.2.2.2.1 a) k v), h.2.2.2.2.2) = (va_up h0.2.2.2.2.1 a (va_up (h0.2.2.2.2.1 a) k v), h0.2.2.2.2.2)
  rw [h5]
def J3 (h0 : AH) (a3 : Nat) : Prop := gK h0 a3 = 23 ∧ gL h0 a3 = 1
theorem tJG (H : G A S h0 X h) (J : J3 h0 a3) {v : Int64} {K : AH → Prop} (kk : ∀ h1 h', G A S h1 X h' → hJ h0 h1 → gJ h' a3 0 = v → K h') : tJ h a3 0 v K := by
  refine ⟨by rw [H.2.1]; exact J.1, ?_, ?_⟩
  · rw [H.2.2.1, J.2]
    exact vp_in_nI (n := 0) (by decide) (by decide)
  · refine kk _ _ (H.sJ a3 0 v) ⟨rfl, rfl, rfl, rfl, rfl⟩ ?_
    show va_up (gJ h) a3 (va_up (gJ h a3) 0 v) a3 0 = v
    rw [va_up_self, va_up_self]
theorem thr1 (H : G A S h0 X h) {code : Int32} {K : Int32 → AH → Prop} (kk : ∀ h', G A S h0 (up X 12 0 code) h' → K 1 h') : w_X12_throwsIf (A 12) 1 code h K := by
  dsimp only [w_X12_throwsIf_9, w_X12_throwsIf]
  refine br_F (by decide) ?_
  refine uG (o := 12) H H.b rfl (fun h' H' => ⟨Or.inr rfl, kk h' H'⟩)
theorem thr0 {code : Int32} {K : Int32 → AH → Prop} (kk : K 0 h) : w_X12_throwsIf (A 12) 0 code h K := by
  dsimp only [w_X12_throwsIf_9, w_X12_throwsIf]
  exact br_T rfl ⟨Or.inl rfl, kk⟩
theorem thrB (H : G A S h0 X h) {b : Bool} {code : Int32} {K : Int32 → AH → Prop} (k1 : b = true → ∀ h', G A S h0 (up X 12 0 code) h' → K 1 h') (k2 : ¬ b = true → K 0 h) : w_X12_throwsIf (A 12) (bI b) code h K := by
  cases b
  · exact thr0 (k2 (by decide))
  · exact thr1 H (k1 rfl)
theorem m_noCell_ {v : Int32} (k : Q (bI (!decide (inR v 0 255))) h) : w_X12_noCell v h Q := m_noCell (by rw [b2_bI, decide_not]; exact k)
theorem m_cell {v : Int32} (k1 : isN v 256 → Q 0 h) (k2 : ¬ isN v 256 → Q 1 h) : w_X12_noCell v h Q := by
  refine m_noCell_ ?_
  by_cases c : isN v 256
  · rw [bI_f (by simp [isN_255.mpr c])]
    exact k1 c
  · rw [bI_t (by rw [Bool.not_eq_true', decide_eq_false_iff_not, isN_255]; exact c)]
    exact k2 c
theorem m_rng {v lo hi : Int32} (k1 : inR v lo hi → Q 1 h) (k2 : ¬ inR v lo hi → Q 0 h) : w_X12_in v lo hi h Q := by
  refine m_in_ ?_
  by_cases c : inR v lo hi
  · rw [bI_t (decide_eq_true c)]
    exact k1 c
  · rw [bI_f (decide_eq_false c)]
    exact k2 c
theorem m_num (H : G A S h0 X h) (M : MR X wd) {v : Int32} {c m : Nat} {ci : Int32} (hi : ci = nI c) (hc : c < 13) (hm : m < 2 ^ 31) (e : wd c = nI m) (k1 : isN v m → Q 0 h) (k2 : ¬ isN v m → Q 1 h) : w_X12_none (A 12) v ci h Q := by
  subst hi
  dsimp only [w_X12_none_21, w_X12_none]
  (repeat (first | with_reducible refine bd_i ?_ | with_reducible refine fP H (by with_unfolding_all exact H.b) (by with_unfolding_all rfl) (by with_unfolding_all rfl) ?_ | with_reducible refine vG H (by with_unfolding_all exact H.b) (by with_unfolding_all rfl) ?_ | with_reducible refine aM H M rfl (by omega) ?_ | with_reducible refine aM H M (ix0 0) (by omega) ?_ | with_reducible refine aM H M (ix0 1) (by omega) ?_ | with_reducible refine aM H M (ix0 2) (by omega) ?_ | with_reducible refine aM H M (ix0 3) (by omega) ?_ | with_reducible refine aM H M (ix0 4) (by omega) ?_ | with_reducible refine aM H M (ix0 5) (by omega) ?_ | with_reducible refine aM H M (ix0 6) (by omega) ?_ | with_reducible refine aM H M (ix0 7) (by omega) ?_ | with_reducible refine aM H M (ix0 8) (by omega) ?_ | with_reducible refine aM H M (ix0 9) (by omega) ?_ | with_reducible refine aM H M (ix0 10) (by omega) ?_ | with_reducible refine aM H M (ix0 11) (by omega) ?_ | with_reducible refine aM H M (ix0 12) (by omega) ?_ | with_reducible refine aM H M (ix1 13 _) (by omega) ?_ | with_reducible refine aM H M (ix1 1161 _) (by omega) ?_ | with_reducible refine aM H M (ix2 269 4 _) (by omega) ?_ | with_reducible refine aM H M (ix4 269 4 _ 1) (by omega) ?_ | with_reducible refine aM H M (ix4 269 4 _ 2) (by omega) ?_ | with_reducible refine aM H M (ix4 269 4 _ 3) (by omega) ?_ | with_reducible refine fG H (by with_unfolding_all exact H.b) (by with_unfolding_all rfl) ?_ | with_reducible refine aG H (by with_unfolding_all exact H.b) (by with_unfolding_all rfl) (by decide) rfl (by omega) ?_))
  rw [e]
  refine m_rng (fun d => br_F (by decide) ⟨Or.inl rfl, k1 ((isN_le hm).mp d)⟩) (fun d => br_T rfl ⟨Or.inr rfl, k2 (fun z => d ((isN_le hm).mpr z))⟩)
theorem m_ent (H : G A S h0 X h) (M : MR X wd) {K : AH → Prop} (kk : ∀ X1 h1, G A S h0 X1 h1 → MR X1 wd → OT X X1 → X1 12 0 = 0 → K h1) : uI h (A 12) 12 0 0 K :=
  uG (o := 12) H H.b rfl (fun h1 H1 => kk _ h1 H1 (M.off (id := 12) (by decide) 0 0) ((OT.rf X).th 0) (up_same _ _ _ _))
theorem m_side {v : Int32} (k1 : isN v 2 → Q 0 h) (k2 : ¬ isN v 2 → Q 1 h) : w_X12_noSide v h Q := by
  dsimp only [w_X12_noSide_14, w_X12_noSide]
  refine m_rng (fun d => br_F (by decide) ⟨Or.inl rfl, k1 ((isN_le (m := 2) (by decide)).mp d)⟩) (fun d => br_T rfl ⟨Or.inr rfl, k2 (fun z => d ((isN_le (m := 2) (by decide)).mpr z))⟩)
theorem m_row {v : Int32} (k1 : isN v 16 → Q 0 h) (k2 : ¬ isN v 16 → Q 1 h) : w_X12_noRow v h Q := by
  dsimp only [w_X12_noRow_15, w_X12_noRow]
  refine m_rng (fun d => br_F (by decide) ⟨Or.inl rfl, k1 ((isN_le (m := 16) (by decide)).mp d)⟩) (fun d => br_T rfl ⟨Or.inr rfl, k2 (fun z => d ((isN_le (m := 16) (by decide)).mpr z))⟩)
theorem m_year {v : Int32} (k1 : inR v 1800 1999 → Q 0 h) (k2 : ¬ inR v 1800 1999 → Q 1 h) : w_X12_noYear v h Q := by
  dsimp only [w_X12_noYear_18, w_X12_noYear]
  refine m_rng (fun d => br_F (by decide) ⟨Or.inl rfl, k1 d⟩) (fun d => br_T rfl ⟨Or.inr rfl, k2 d⟩)
theorem c_num {v : Int32} {m : Nat} (hm : m < 2 ^ 31) {Xc : String → AH → Prop} (k1 : isN v m → Qv h) (k2 : ¬ isN v m → Xc "java/lang/IndexOutOfBoundsException" h) : w_X11_needNumber v (nI m) h Qv Xc :=
  c_needNumber (fun a b => k1 ((isN_lt hm).mp ⟨a, b⟩)) (fun a => k2 (fun z => a ((isN_lt hm).mpr z)))
theorem c_cell {v : Int32} {Xc : String → AH → Prop} (k1 : isN v 256 → Qv h) (k2 : ¬ isN v 256 → Xc "java/lang/IndexOutOfBoundsException" h) : w_X11_needCell v h Qv Xc := c_num (m := 256) (by decide) k1 k2
noncomputable def heightS (wd : Nat → Int32) (c : Int32) : Int32 × Int32 := cIf (isN c 256) (0, wd (13 + nt c)) (1, 0)
theorem c_wi {v lo hi : Int32} (k1 : inR v lo hi → Q 1 h) (k2 : ¬ inR v lo hi → Q 0 h) : w_X11_isWithin v lo hi h Q := by
  refine c_isWithin ?_
  rw [b2_bI]
  by_cases c : inR v lo hi
  · rw [bI_t (decide_eq_true c)]
    exact k1 c
  · rw [bI_f (decide_eq_false c)]
    exact k2 c
theorem c_ne1 {Xc : String → AH → Prop} (k : Qv h) : w_X11_need 1 h Qv Xc := br_F (by decide) k
theorem c_ne0 {Xc : String → AH → Prop} (k : Xc "java/lang/IllegalArgumentException" h) : w_X11_need 0 h Qv Xc := br_T rfl k
theorem c_ques {v n : Int32} {Xc : String → AH → Prop} (k1 : inR v 0 n → Qv h) (k2 : ¬ inR v 0 n → Xc "java/util/NoSuchElementException" h) : w_X11_needQuestion v n h Qv Xc := c_needQuestion k1 k2
theorem L_height (H : G A S h0 X h) (R : CR X wd) (J : J3 h0 a3) {c_ : Int32} (k : ∀ h1 X' h', G A S h1 X' h' → hJ h0 h1 → OC X X' → ((heightS wd c_).1 = 0 → gJ h' a3 0 = (heightS wd c_).2.toInt64) → Q (heightS wd c_).1 h') : w_L_height (A 11) c_ a3 h Q := by
  dsimp only [w_L_height_12, w_L_height, w_X11_height]
  (repeat (first | with_reducible refine bd_i ?_ | with_reducible refine fP H (by with_unfolding_all first | exact H.b | exact hS) (by with_unfolding_all rfl) (by with_unfolding_all rfl) ?_ | with_reducible refine vG H (by with_unfolding_all first | exact H.b | exact hS) (by with_unfolding_all rfl) ?_ | with_reducible refine fC_ H R (by with_unfolding_all exact H.b) (by with_unfolding_all rfl) (by with_unfolding_all rfl) ?_ | with_reducible refine aC H R (by with_unfolding_all exact H.b) (by with_unfolding_all rfl) (by decide) (by with_unfolding_all rfl) rfl (by omega) ?_ | with_reducible refine fG H (by with_unfolding_all first | exact H.b | exact hS) (by with_unfolding_all rfl) ?_ | with_reducible refine aG H (by with_unfolding_all first | exact H.b | exact hS) (by with_unfolding_all rfl) (by decide) rfl (by omega) ?_))
  refine c_cell (fun c => ?_) (fun c => ?_)
  · rw [heightS, cIf_t c] at k
    obtain ⟨n, hn, rfl⟩ := c
    rw [nt_nI (by omega)] at k
    (repeat (first | with_reducible refine bd_i ?_ | with_reducible refine fP H (by with_unfolding_all first | exact H.b | exact hS) (by with_unfolding_all rfl) (by with_unfolding_all rfl) ?_ | with_reducible refine vG H (by with_unfolding_all first | exact H.b | exact hS) (by with_unfolding_all rfl) ?_ | with_reducible refine fC_ H R (by with_unfolding_all exact H.b) (by with_unfolding_all rfl) (by with_unfolding_all rfl) ?_ | with_reducible refine aC H R (by with_unfolding_all exact H.b) (by with_unfolding_all rfl) (by decide) (by with_unfolding_all rfl) rfl (by omega) ?_ | with_reducible refine fG H (by with_unfolding_all first | exact H.b | exact hS) (by with_unfolding_all rfl) ?_ | with_reducible refine aG H (by with_unfolding_all first | exact H.b | exact hS) (by with_unfolding_all rfl) (by decide) rfl (by omega) ?_))
    refine tJG H J (fun h1 h' H' j1 j2 => k h1 X h' H' j1 (Off.rf _ _) (fun _ => ?_))
    rw [j2, Nat.one_mul]
  · rw [heightS, cIf_f c] at k
    (repeat (first | exact br_T rfl (fun q => k _ _ _ H (hJ.rf _) (Off.rf _ _) (fun z => absurd z (by decide))) | refine br_F (by decide) ?_))
theorem m_height_ (H : G A S h0 X h) (M : MR X wd) {c_ : Int32} (k : ∀ X' h', G A S h0 X' h' → OT X X' → X' 12 0 = (heightS wd c_).1 → Q (heightS wd c_).2 h') : w_X12_height (A 12) c_ h Q := by
  dsimp only [w_X12_height_30, w_X12_height]
  refine m_ent H M (fun X1 h1 H1 M1 o1 t1 => ?_)
  clear H M
  have H := H1
  have M := M1
  refine m_cell (fun c => ?_) (fun c => ?_)
  · rw [heightS, cIf_t c] at k
    obtain ⟨n, hn, rfl⟩ := c
    rw [nt_nI (by omega)] at k
    (repeat (first | with_reducible refine thr0 ?_ | with_reducible refine br_T rfl ?_ | with_reducible refine bd_i ?_ | with_reducible refine fP H (by with_unfolding_all exact H.b) (by with_unfolding_all rfl) (by with_unfolding_all rfl) ?_ | with_reducible refine vG H (by with_unfolding_all exact H.b) (by with_unfolding_all rfl) ?_ | with_reducible refine aM H M rfl (by omega) ?_ | with_reducible refine aM H M (ix0 0) (by omega) ?_ | with_reducible refine aM H M (ix0 1) (by omega) ?_ | with_reducible refine aM H M (ix0 2) (by omega) ?_ | with_reducible refine aM H M (ix0 3) (by omega) ?_ | with_reducible refine aM H M (ix0 4) (by omega) ?_ | with_reducible refine aM H M (ix0 5) (by omega) ?_ | with_reducible refine aM H M (ix0 6) (by omega) ?_ | with_reducible refine aM H M (ix0 7) (by omega) ?_ | with_reducible refine aM H M (ix0 8) (by omega) ?_ | with_reducible refine aM H M (ix0 9) (by omega) ?_ | with_reducible refine aM H M (ix0 10) (by omega) ?_ | with_reducible refine aM H M (ix0 11) (by omega) ?_ | with_reducible refine aM H M (ix0 12) (by omega) ?_ | with_reducible refine aM H M (ix1 13 _) (by omega) ?_ | with_reducible refine aM H M (ix1 1161 _) (by omega) ?_ | with_reducible refine aM H M (ix2 269 4 _) (by omega) ?_ | with_reducible refine aM H M (ix4 269 4 _ 1) (by omega) ?_ | with_reducible refine aM H M (ix4 269 4 _ 2) (by omega) ?_ | with_reducible refine aM H M (ix4 269 4 _ 3) (by omega) ?_ | with_reducible refine fG H (by with_unfolding_all exact H.b) (by with_unfolding_all rfl) ?_ | with_reducible refine aG H (by with_unfolding_all exact H.b) (by with_unfolding_all rfl) (by decide) rfl (by omega) ?_))
    exact k _ _ H1 o1 t1
  · rw [heightS, cIf_f c] at k
    ((try refine vG (o := 12) H H.b rfl ?_); refine thr1 H (fun h2 H2 => br_F (by decide) (k _ _ H2 (o1.th 1) (up_same _ _ _ _))))
end PUB
