/-! ground, walk, next -/
def gW (wd : Nat → Int32) (a b t : Int32) (j i : Nat) : Int32 := if 13 ≤ i ∧ i < 13 + j ∧ inA (nI (i - 13)) a b = true then t else wd i
theorem gW_t {wd : Nat → Int32} {a b t : Int32} {j : Nat} (h : inA (nI j) a b = true) : va_up (gW wd a b t j) (13 + j) t = gW wd a b t (j + 1) := by
  funext i
  unfold gW
  by_cases e : i = 13 + j
  · subst e
    rw [va_up_self, if_pos ⟨by omega, by omega, by rw [show 13 + j - 13 = j by omega]; exact h⟩]
  · rw [va_up_ne _ _ e]
    by_cases c : 13 ≤ i ∧ i < 13 + j ∧ inA (nI (i - 13)) a b = true
    · rw [if_pos c, if_pos ⟨c.1, by omega, c.2.2⟩]
    · rw [if_neg c, if_neg (fun z => c ⟨z.1, by omega, z.2.2⟩)]
theorem gW_f {wd : Nat → Int32} {a b t : Int32} {j : Nat} (h : ¬ inA (nI j) a b = true) : gW wd a b t j = gW wd a b t (j + 1) := by
  funext i
  unfold gW
  by_cases c : 13 ≤ i ∧ i < 13 + j ∧ inA (nI (i - 13)) a b = true
  · rw [if_pos c, if_pos ⟨c.1, by omega, c.2.2⟩]
  · rw [if_neg c, if_neg]
    intro z
    by_cases e : i = 13 + j
    · subst e
      have := z.2.2
      rw [show 13 + j - 13 = j by omega] at this
      exact h this
    · exact c ⟨z.1, by omega, z.2.2⟩
theorem gW_0 {wd : Nat → Int32} {a b t : Int32} : gW wd a b t 0 = wd := by
  funext i
  unfold gW
  rw [if_neg (by omega)]
theorem nrB_or {x y : Int32} {d r : Nat} : nrB (x ||| y) d r = (nrB x d r || nrB y d r) := by
  unfold nrB
  rw [Bool.eq_iff_iff, Bool.or_eq_true, anyB_iff, anyB_iff, anyB_iff]
  constructor
  · rintro ⟨i, h1, h2⟩
    rw [b_or, Bool.and_eq_true, Bool.or_eq_true] at h2
    rcases h2.1 with z | z
    · exact Or.inl ⟨i, h1, by rw [z, h2.2]; rfl⟩
    · exact Or.inr ⟨i, h1, by rw [z, h2.2]; rfl⟩
  · rintro (⟨i, h1, h2⟩ | ⟨i, h1, h2⟩)
    · rw [Bool.and_eq_true] at h2
      exact ⟨i, h1, by rw [b_or, h2.1, h2.2]; rfl⟩
    · rw [Bool.and_eq_true] at h2
      exact ⟨i, h1, by rw [b_or, h2.1, h2.2, Bool.or_true]; rfl⟩
theorem cnt_N {p : Nat → Bool} : ∀ {n : Nat}, ∃ m, m ≤ n ∧ cnt p n = nI m := by
  intro n
  induction n with
  | zero => exact ⟨0, Nat.le_refl _, rfl⟩
  | succ n ih =>
    obtain ⟨m, h1, h2⟩ := ih
    simp only [cnt]
    by_cases e : p n = true
    · rw [if_pos e, h2]
      exact ⟨m + 1, by omega, nI_1 m⟩
    · rw [if_neg e]
      exact ⟨m, by omega, h2⟩
def frB (wd : Nat → Int32) (N : Nat → Nat) (y f : Nat) : Bool := decide (¬ wd 10 < wd (351 + 6 * f)) && (nrB (1 <<< (nI y &&& 31)) (N 11) (nt (wd (350 + 6 * f)) / 16) && !nrB (wd 12) (N 11) (nt (wd (350 + 6 * f)) / 16))
def frC (wd : Nat → Int32) (N : Nat → Nat) (y : Nat) : Int32 := cnt (frB wd N y) (N 3)
def nxO (wd : Nat → Int32) (N : Nat → Nat) : Nat → Option Nat
  | 0 => none
  | y + 1 => if bt (wd 12) y then nxO wd N y else match nxO wd N y with
    | none => some y
    | some b => if frC wd N b < frC wd N y then some y else some b
theorem nxO_lt {wd : Nat → Int32} {N : Nat → Nat} : ∀ {y b : Nat}, nxO wd N y = some b → b < y := by
  intro y
  induction y with
  | zero => intro b h; simp [nxO] at h
  | succ y ih =>
    intro b h
    simp only [nxO] at h
    split at h
    · have := ih h
      omega
    · cases e : nxO wd N y with
      | none =>
        rw [e] at h
        cases h
        omega
      | some q =>
        rw [e] at h
        have := ih e
        dsimp only at h
        split at h
        · cases h; omega
        · cases h; omega
def moC (wd : Nat → Int32) (N : Nat → Nat) (d : Int32) (o : Option Nat) : Int32 := match o with
  | none => d
  | some b => frC wd N b
section WALK
variable {A : Nat → Nat} {S : Nat → Prop} {h0 h : AH} {X : Nat → Nat → Int32} {wd : Nat → Int32} {N : Nat → Nat} {Q : Int32 → AH → Prop} {Qv : AH → Prop} {a3 : Nat}
theorem Ok.setH (O : Ok wd N) {wd' : Nat → Int32} (e : ∀ i, i < 13 ∨ 269 ≤ i → wd' i = wd i) (h : ∀ c, c < 256 → bn (wd' (13 + c)) 9) : Ok wd' N := by
  have q : ∀ i M, i < 13 → bN wd N i M → bN wd' N i M := fun i M hi h => ⟨by rw [e i (by omega)]; exact h.1, h.2⟩
  obtain ⟨⟨n0, n1, n2, n3, n4, n5, n6, n7, n10, n11, n12⟩, o1, o2, o3, o4, o5, o6, o7⟩ := O
  refine ⟨⟨q _ _ (by omega) n0, q _ _ (by omega) n1, q _ _ (by omega) n2, q _ _ (by omega) n3, q _ _ (by omega) n4, q _ _ (by omega) n5, q _ _ (by omega) n6, q _ _ (by omega) n7, q _ _ (by omega) n10, q _ _ (by omega) n11, q _ _ (by omega) n12⟩, h, ?_, ?_, ?_, ?_, ?_, ?_⟩
  · exact fun g h => OkG_c (o2 g h) (fun i h1 h2 => e i (by omega))
  · exact fun g h => OkP_c (o3 g h) (fun i h1 h2 => e i (by omega))
  · exact fun g h => OkF_c (o4 g h) (fun i h1 h2 => e i (by omega))
  · exact fun g h => OkT_c (o5 g h) (fun i h1 h2 => e i (by omega))
  · exact fun g h => OkL_c (o6 g h) (fun i h1 h2 => e i (by omega))
  · exact fun g h => OkS_c (o7 g h) (fun i h1 h2 => e i (by omega))
def grC (a b t : Int32) : Prop := (isN a 256 ∧ isN b 256) ∧ inR t 0 9
noncomputable def groundS (a b t : Int32) : Int32 × Int32 := cIf (isN a 256 ∧ isN b 256) (cIf (inR t 0 9) (0, 0) (2, 0)) (1, 0)
noncomputable def groundW (wd : Nat → Int32) (a b t : Int32) : Nat → Int32 := cIf (grC a b t) (gW wd a b t 256) wd
theorem ground_ok (O : Ok wd N) {a b t : Int32} : Ok (groundW wd a b t) N := by
  unfold groundW
  by_cases e : grC a b t
  · rw [cIf_t e]
    refine O.setH (fun i hi => ?_) (fun c hc => ?_)
    · unfold gW
      rw [if_neg (by omega)]
    · unfold gW
      split
      · exact inR_bn (M := 9) (by decide) e.2
      · exact O.ht hc
  · rw [cIf_f e]
    exact O
theorem c_raise (H : G A S h0 X h) (R : CR X wd) {a b t : Int32} (k : ∀ X' h', G A S h0 X' h' → ST X X' → CR X' (gW wd a b t 256) → Qv h') : w_X3_raise (A 3) a b t h Qv := by
  refine lp_inv 256 (fun j (s : Int32 × AH) => s.1 = nI j ∧ ∃ X', G A S h0 X' s.2 ∧ ST X X' ∧ CR X' (gW wd a b t j)) (fun j s kk1 hj hI kk => ?_) (fun s kk1 hI => ?_) (Nat.zero_le _) ⟨rfl, X, H, ST.rf _, by rw [gW_0]; exact R⟩
  · obtain ⟨v, h1⟩ := s
    obtain ⟨e1, X1, H1, s1, R1⟩ := hI
    dsimp only at e1 H1 ⊢
    subst e1
    dsimp only [w_X3_raise_35, w_X3_raise_29, w_X3_raise_3, w_X3_raise]
    refine br_go (a := 256) hj (by decide) ?_
    refine c_isInArea ?_
    refine br_bI (fun c1 => ?_) (fun c1 => ?_)
    · refine fP (o := 3) H1 H1.b rfl rfl ?_
      refine tC (id := 400) H1 R1 H1.b rfl (by decide) rfl rfl (by omega) (fun h2 H2 R2 => ?_)
      rw [Nat.one_mul, gW_t c1] at R2
      exact kk _ ⟨(nI_succ j).symm, _, H2, s1.up rfl _ _, R2⟩
    · rw [gW_f c1] at R1
      exact kk _ ⟨(nI_succ j).symm, _, H1, s1, R1⟩
  · obtain ⟨v, h1⟩ := s
    obtain ⟨e1, X1, H1, s1, R1⟩ := hI
    dsimp only at e1 H1 ⊢
    subst e1
    dsimp only [w_X3_raise_35, w_X3_raise_29, w_X3_raise_3, w_X3_raise]
    exact br_end (a := 256) (k _ _ H1 s1 R1)
theorem L_ground (H : G A S h0 X h) (R : CR X wd) {a b t : Int32} (k : ∀ X' h', G A S h0 X' h' → SC X X' → CR X' (groundW wd a b t) → Q (groundS a b t).1 h') : w_L_ground (A 11) a b t h Q := by
  have kf : ¬ (isN a 256 ∧ isN b 256) → Q 1 h := by
    intro c
    rw [groundS, groundW, cIf_f c, cIf_f (show ¬ grC a b t from fun z => c z.1)] at k
    exact k _ _ H (SC.of (ST.rf _)) R
  dsimp only [w_L_ground_14, w_L_ground_10, w_L_ground, w_X11_ground]
  (repeat (first | with_reducible refine bd_i ?_ | with_reducible refine fP H (by with_unfolding_all first | exact H.b | exact hS) (by with_unfolding_all rfl) (by with_unfolding_all rfl) ?_ | with_reducible refine vG H (by with_unfolding_all first | exact H.b | exact hS) (by with_unfolding_all rfl) ?_ | with_reducible refine fC_ H R (by with_unfolding_all exact H.b) (by with_unfolding_all rfl) (by with_unfolding_all rfl) ?_ | with_reducible refine aC H R (by with_unfolding_all exact H.b) (by with_unfolding_all rfl) (by decide) (by with_unfolding_all rfl) rfl (by omega) ?_ | with_reducible refine fG H (by with_unfolding_all first | exact H.b | exact hS) (by with_unfolding_all rfl) ?_ | with_reducible refine aG H (by with_unfolding_all first | exact H.b | exact hS) (by with_unfolding_all rfl) (by decide) rfl (by omega) ?_))
  refine c_cell (fun c1 => ?_) (fun c1 => br_T rfl (fun q => kf (fun z => c1 z.1)))
  refine c_cell (fun c2 => ?_) (fun c2 => br_T rfl (fun q => kf (fun z => c2 z.2)))
  refine c_wi (fun c3 => c_ne1 ?_) (fun c3 => c_ne0 ?_)
  · rw [groundS, groundW, cIf_t (show isN a 256 ∧ isN b 256 from ⟨c1, c2⟩), cIf_t c3, cIf_t (show grC a b t from ⟨⟨c1, c2⟩, c3⟩)] at k
    (repeat (first | with_reducible refine bd_i ?_ | with_reducible refine fP H (by with_unfolding_all first | exact H.b | exact hS) (by with_unfolding_all rfl) (by with_unfolding_all rfl) ?_ | with_reducible refine vG H (by with_unfolding_all first | exact H.b | exact hS) (by with_unfolding_all rfl) ?_ | with_reducible refine fC_ H R (by with_unfolding_all exact H.b) (by with_unfolding_all rfl) (by with_unfolding_all rfl) ?_ | with_reducible refine aC H R (by with_unfolding_all exact H.b) (by with_unfolding_all rfl) (by decide) (by with_unfolding_all rfl) rfl (by omega) ?_ | with_reducible refine fG H (by with_unfolding_all first | exact H.b | exact hS) (by with_unfolding_all rfl) ?_ | with_reducible refine aG H (by with_unfolding_all first | exact H.b | exact hS) (by with_unfolding_all rfl) (by decide) rfl (by omega) ?_))
    exact c_raise H R (fun X1 h1 H1 s1 R1 => k _ _ H1 (SC.of s1) R1)
  · rw [groundS, groundW, cIf_t (show isN a 256 ∧ isN b 256 from ⟨c1, c2⟩), cIf_f c3, cIf_f (show ¬ grC a b t from fun z => c3 z.2)] at k
    exact br_F (by decide) (br_T rfl (fun q => k _ _ H (SC.of (ST.rf _)) R))
theorem m_ground_ (H : G A S h0 X h) (M : MR X wd) {a b t : Int32} (k : ∀ X' h', G A S h0 X' h' → OW X X' → MR X' (groundW wd a b t) → X' 12 0 = (groundS a b t).1 → Qv h') : w_X12_ground (A 12) a b t h Qv := by
  unfold w_X12_ground
  refine m_ent H M (fun X1 h1 H1 M1 o1 t1 => ?_)
  clear H M
  have H := H1
  have M := M1
  have kf : ¬ (isN a 256 ∧ isN b 256) → ∀ K : Int32 → AH → Prop, (∀ h2, K 1 h2 = Qv h2) → vr h1 (A 12) 12 (w_X12_throwsIf (A 12) 1 1 h1 K) := by
    intro c K hK
    rw [groundS, groundW, cIf_f c, cIf_f (show ¬ grC a b t from fun z => c z.1)] at k
    refine vG (o := 12) H H.b rfl ?_
    refine thr1 H (fun h2 H2 => ?_)
    rw [hK]
    exact k _ _ H2 ((OW.of o1).th 1) (M.off (id := 12) (by decide) 0 1) (up_same _ _ _ _)
  refine m_cell (fun c1 => br_T rfl ?_) (fun c1 => br_F (by decide) (kf (fun z => c1 z.1) _ (fun h2 => br10 _ _)))
  refine m_cell (fun c2 => br_T rfl ?_) (fun c2 => br_F (by decide) (kf (fun z => c2 z.2) _ (fun h2 => br10 _ _)))
  have c12 : isN a 256 ∧ isN b 256 := ⟨c1, c2⟩
  dsimp only [w_X12_ground_25]
  (repeat (first | with_reducible refine thr0 ?_ | with_reducible refine bd_i ?_ | with_reducible refine fP H (by with_unfolding_all exact H.b) (by with_unfolding_all rfl) (by with_unfolding_all rfl) ?_ | with_reducible refine vG H (by with_unfolding_all exact H.b) (by with_unfolding_all rfl) ?_ | with_reducible refine aM H M rfl (by omega) ?_ | with_reducible refine aM H M (ix0 0) (by omega) ?_ | with_reducible refine aM H M (ix0 1) (by omega) ?_ | with_reducible refine aM H M (ix0 2) (by omega) ?_ | with_reducible refine aM H M (ix0 3) (by omega) ?_ | with_reducible refine aM H M (ix0 4) (by omega) ?_ | with_reducible refine aM H M (ix0 5) (by omega) ?_ | with_reducible refine aM H M (ix0 6) (by omega) ?_ | with_reducible refine aM H M (ix0 7) (by omega) ?_ | with_reducible refine aM H M (ix0 8) (by omega) ?_ | with_reducible refine aM H M (ix0 9) (by omega) ?_ | with_reducible refine aM H M (ix0 10) (by omega) ?_ | with_reducible refine aM H M (ix0 11) (by omega) ?_ | with_reducible refine aM H M (ix0 12) (by omega) ?_ | with_reducible refine aM H M (ix1 13 _) (by omega) ?_ | with_reducible refine aM H M (ix1 1161 _) (by omega) ?_ | with_reducible refine aM H M (ix2 269 4 _) (by omega) ?_ | with_reducible refine aM H M (ix4 269 4 _ 1) (by omega) ?_ | with_reducible refine aM H M (ix4 269 4 _ 2) (by omega) ?_ | with_reducible refine aM H M (ix4 269 4 _ 3) (by omega) ?_ | with_reducible refine fG H (by with_unfolding_all exact H.b) (by with_unfolding_all rfl) ?_ | with_reducible refine aG H (by with_unfolding_all exact H.b) (by with_unfolding_all rfl) (by decide) rfl (by omega) ?_))
  refine br_T rfl ?_
  refine m_rng (fun c3 => br_F (by decide) ?_) (fun c3 => br_T rfl ?_)
  · rw [groundS, groundW, cIf_t c12, cIf_t c3, cIf_t (show grC a b t from ⟨c12, c3⟩)] at k
    dsimp only [w_X12_ground_48]
    (repeat (first | with_reducible refine thr0 ?_ | with_reducible refine bd_i ?_ | with_reducible refine fP H (by with_unfolding_all exact H.b) (by with_unfolding_all rfl) (by with_unfolding_all rfl) ?_ | with_reducible refine vG H (by with_unfolding_all exact H.b) (by with_unfolding_all rfl) ?_ | with_reducible refine aM H M rfl (by omega) ?_ | with_reducible refine aM H M (ix0 0) (by omega) ?_ | with_reducible refine aM H M (ix0 1) (by omega) ?_ | with_reducible refine aM H M (ix0 2) (by omega) ?_ | with_reducible refine aM H M (ix0 3) (by omega) ?_ | with_reducible refine aM H M (ix0 4) (by omega) ?_ | with_reducible refine aM H M (ix0 5) (by omega) ?_ | with_reducible refine aM H M (ix0 6) (by omega) ?_ | with_reducible refine aM H M (ix0 7) (by omega) ?_ | with_reducible refine aM H M (ix0 8) (by omega) ?_ | with_reducible refine aM H M (ix0 9) (by omega) ?_ | with_reducible refine aM H M (ix0 10) (by omega) ?_ | with_reducible refine aM H M (ix0 11) (by omega) ?_ | with_reducible refine aM H M (ix0 12) (by omega) ?_ | with_reducible refine aM H M (ix1 13 _) (by omega) ?_ | with_reducible refine aM H M (ix1 1161 _) (by omega) ?_ | with_reducible refine aM H M (ix2 269 4 _) (by omega) ?_ | with_reducible refine aM H M (ix4 269 4 _ 1) (by omega) ?_ | with_reducible refine aM H M (ix4 269 4 _ 2) (by omega) ?_ | with_reducible refine aM H M (ix4 269 4 _ 3) (by omega) ?_ | with_reducible refine fG H (by with_unfolding_all exact H.b) (by with_unfolding_all rfl) ?_ | with_reducible refine aG H (by with_unfolding_all exact H.b) (by with_unfolding_all rfl) (by decide) rfl (by omega) ?_))
    refine br_T rfl ?_
    refine lp_inv 256 (fun j (s : Int32 × AH) => s.1 = nI j ∧ ∃ X', G A S h0 X' s.2 ∧ OW X X' ∧ X' 12 0 = 0 ∧ MR X' (gW wd a b t j)) (fun j s kk1 hj hI kk => ?_) (fun s kk1 hI => ?_) (Nat.zero_le _) ⟨rfl, X1, H1, OW.of o1, t1, by rw [gW_0]; exact M⟩
    · obtain ⟨v, h2⟩ := s
      obtain ⟨e1, X2, H2, s2, t2, M2⟩ := hI
      dsimp only at e1 H2 ⊢
      subst e1
      dsimp only [w_X12_ground_94, w_X12_ground_88, w_X12_ground_59, w_X12_ground_55, w_X12_ground_48, w_X12_ground_25, w_X12_ground_20, w_X12_ground]
      refine br_go (a := 256) hj (by decide) ?_
      refine m_isInArea ?_
      refine br_bI (fun c1 => ?_) (fun c1 => ?_)
      · refine adM H2 M2 (13 + j) (ix1 13 j) (by omega) (fun h3 H3 M3 => ?_)
        rw [gW_t c1] at M3
        exact kk _ ⟨(nI_succ j).symm, _, H3, s2.wr _ _, by rw [up_row _ _ _ (by decide)]; exact t2, M3⟩
      · rw [gW_f c1] at M2
        exact kk _ ⟨(nI_succ j).symm, _, H2, s2, t2, M2⟩
    · obtain ⟨v, h2⟩ := s
      obtain ⟨e1, X2, H2, s2, t2, M2⟩ := hI
      dsimp only at e1 H2 ⊢
      subst e1
      dsimp only [w_X12_ground_94, w_X12_ground_88, w_X12_ground_59, w_X12_ground_55, w_X12_ground_48, w_X12_ground_25, w_X12_ground_20, w_X12_ground]
      exact br_end (a := 256) (k _ _ H2 s2 M2 t2)
  · rw [groundS, groundW, cIf_t c12, cIf_f c3, cIf_f (show ¬ grC a b t from fun z => c3 z.2)] at k
    dsimp only [w_X12_ground_48]
    (repeat (first | with_reducible refine bd_i ?_ | with_reducible refine fP H (by with_unfolding_all exact H.b) (by with_unfolding_all rfl) (by with_unfolding_all rfl) ?_ | with_reducible refine vG H (by with_unfolding_all exact H.b) (by with_unfolding_all rfl) ?_ | with_reducible refine aM H M rfl (by omega) ?_ | with_reducible refine aM H M (ix0 0) (by omega) ?_ | with_reducible refine aM H M (ix0 1) (by omega) ?_ | with_reducible refine aM H M (ix0 2) (by omega) ?_ | with_reducible refine aM H M (ix0 3) (by omega) ?_ | with_reducible refine aM H M (ix0 4) (by omega) ?_ | with_reducible refine aM H M (ix0 5) (by omega) ?_ | with_reducible refine aM H M (ix0 6) (by omega) ?_ | with_reducible refine aM H M (ix0 7) (by omega) ?_ | with_reducible refine aM H M (ix0 8) (by omega) ?_ | with_reducible refine aM H M (ix0 9) (by omega) ?_ | with_reducible refine aM H M (ix0 10) (by omega) ?_ | with_reducible refine aM H M (ix0 11) (by omega) ?_ | with_reducible refine aM H M (ix0 12) (by omega) ?_ | with_reducible refine aM H M (ix1 13 _) (by omega) ?_ | with_reducible refine aM H M (ix1 1161 _) (by omega) ?_ | with_reducible refine aM H M (ix2 269 4 _) (by omega) ?_ | with_reducible refine aM H M (ix4 269 4 _ 1) (by omega) ?_ | with_reducible refine aM H M (ix4 269 4 _ 2) (by omega) ?_ | with_reducible refine aM H M (ix4 269 4 _ 3) (by omega) ?_ | with_reducible refine fG H (by with_unfolding_all exact H.b) (by with_unfolding_all rfl) ?_ | with_reducible refine aG H (by with_unfolding_all exact H.b) (by with_unfolding_all rfl) (by decide) rfl (by omega) ?_))
    exact thr1 H (fun h2 H2 => br_F (by decide) (k _ _ H2 ((OW.of o1).th 2) (M.off (id := 12) (by decide) 0 2) (up_same _ _ _ _)))
end WALK
