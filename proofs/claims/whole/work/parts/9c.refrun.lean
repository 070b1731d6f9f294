/-! the reference runs a line -/
def RVr (X : Nat → Nat → Int32) : List Int32 → Prop
  | [] => True
  | a :: R => X 1318 R.length = a ∧ RVr X R
theorem RVr.put {X : Nat → Nat → Int32} {m : Nat} {v : Int32} : ∀ {P : List Int32}, RVr X P → P.length ≤ m → RVr (up X 1318 m v) P := by
  intro P
  induction P with
  | nil => exact fun _ _ => trivial
  | cons a R ih =>
    rintro ⟨h1, h2⟩ hm
    simp only [List.length_cons] at hm
    refine ⟨?_, ih h2 (by omega)⟩
    rw [up_n _ _ _ (by omega)]
    exact h1
theorem dn1 : ∀ n, n < 40 → nI (n + 1) + (-1) = nI n := by decide +kernel
def evB (c : Nat) (a b : Int32) : Int32 := if c = 11 then a * b else if c = 12 then a + b else if c = 13 then bI (decide (a < b)) else if c = 14 then bI (decide (b < a)) else if c = 16 then bI (decide (a + b = 2)) else bI (decide (0 < a + b))
section MRUN
variable {A : Nat → Nat} {S : Nat → Prop} {h0 h : AH} {X : Nat → Nat → Int32} {wd : Nat → Int32} {Q : Int32 → AH → Prop}
theorem m_hStep (H : G A S h0 X h) (M : MR X wd) {t ln f0 n m b : Nat} {e : Nat × Nat} {st : Bool} {F : Nat → Int32} {ar al mh : Int32} {P : List Int32} {T T2 : List Bool} {x362 : Int32 → AH → Prop} {k : Int32 → Int32 → AH → Prop} (hln : ln ≤ 9) (hb : 1166 + 831 * t = b) (hb2 : b + 831 ≤ 8645) (h2 : wd (b + 3 + 3 * ln) = nI (f0 + n)) (hm : m < n) (h3 : f0 + n ≤ 400) (x5 : wd (b + 31 + 2 * (f0 + m)) = nI e.1) (x8 : wd (b + 32 + 2 * (f0 + m)) = nI e.2) (iF : ∀ f, f < 7 → X 1314 f = F f) (har : ar = 0 ∨ ar = 1) (hal : al = 0 ∨ al = 1) (i15 : st = false → X 12 15 = ar) (i16 : st = false → X 12 16 = al) (i17 : st = true → X 12 17 = mh) (c : ckS st e T = some T2) (hP : TP T P) (hl : P.length ≤ 32) (RV : RVr X P) (nx : ∀ X3 h3_, (evS F ar al mh e P).length ≤ 32 → RVr X3 (evS F ar al mh e P) → G A S h0 X3 h3_ → Off [1318] X X3 → k (nI (evS F ar al mh e P).length) (nI (f0 + m) + 1) h3_) : w_X12_holdsLine_20 x362 k (A 12) (nI t) (nI (b + 1 + 3 * ln)) (nI P.length) (nI (f0 + m)) h Q := by
  have et : (1166 : Int32) + (831 : Int32) * nI t = nI b := by rw [← hb]; exact ix2 1166 831 t
  have hlT := hP.len
  dsimp only [w_X12_holdsLine_20, w_X12_holdsLine_356, w_X12_holdsLine_355, w_X12_holdsLine_306, w_X12_holdsLine_169, w_X12_holdsLine_123, w_X12_textAt]
  refine fP (o := 12) H H.b rfl rfl ?_
  refine aM H M (n := b + 3 + 3 * ln) (by rw [show (2 : Int32) = nI 2 from rfl, nI_add]; congr 1; omega) (by omega) ?_
  rw [h2]
  refine br_go (by omega) (by omega) ?_
  refine fP (o := 12) H H.b rfl rfl ?_
  rw [et]
  refine aM H M (n := b + 31 + 2 * (f0 + m)) (by rw [show (31 : Int32) = nI 31 from rfl, show (2 : Int32) = nI 2 from rfl, nI_add, pk_mul, nI_add]) (by omega) ?_
  rw [x5]
  refine fP (o := 12) H H.b rfl rfl ?_
  refine aM H M (n := b + 32 + 2 * (f0 + m)) (by rw [show (31 : Int32) = nI 31 from rfl, show (2 : Int32) = nI 2 from rfl, show (1 : Int32) = nI 1 from rfl, nI_add, pk_mul, nI_add, nI_add]; congr 1; omega) (by omega) ?_
  rw [x8]
  have h17' : e.1 ≤ 17 := by
    unfold ckS at c
    split at c
    · omega
    · split at c
      · omega
      · cases T with
        | nil => cases c
        | cons x T =>
          cases T with
          | nil => cases c
          | cons y T =>
            dsimp only at c
            split at c
            · omega
            · split at c
              · omega
              · split at c
                · omega
                · cases c
  refine br_Lt (a := 10) (by decide) (by omega) (fun c10 => ?_) (fun c10 => ?_)
  · -- operators
    unfold ckS at c
    rw [if_neg (by omega)] at c
    refine br_Eq (b := 15) (by omega) (by decide) (fun c15 => ?_) (fun c15 => ?_)
    · rw [if_pos c15] at c
      cases T with
      | nil => cases c
      | cons x T =>
        obtain ⟨a, R, rfl, q1, q2⟩ := hP
        simp only [List.length_cons] at hl
        refine fP (o := 12) H H.b rfl rfl ?_
        refine fP (o := 12) H H.b rfl rfl ?_
        have el : nI (a :: R).length - 1 = nI R.length := nI_pred _
        rw [el]
        refine aG (id := 1318) H H.b rfl (by decide) rfl (by omega) ?_
        rw [RV.1]
        refine tG (id := 1318) H H.b rfl (by decide) rfl (by omega) (fun h3_ H3 => ?_)
        have ee : evS F ar al mh e (a :: R) = (1 - a) :: R := by
          unfold evS
          rw [if_neg (by omega), if_neg (by omega), if_neg (by omega), if_neg (by omega), if_neg (by omega), if_pos c15]
        rw [ee] at nx
        exact nx _ h3_ (by simp only [List.length_cons]; omega) ⟨up_same _ _ _ _, RV.2.put (Nat.le_refl _)⟩ H3 ((Off.rf _ _).up (by decide) _ _)
    · rw [if_neg c15] at c
      cases T with
      | nil => cases c
      | cons x T =>
        cases T with
        | nil => cases c
        | cons y T =>
          obtain ⟨bb, R0, rfl, q1, a, R, rfl, q2, q3⟩ := hP
          simp only [List.length_cons] at hl
          have ee : evS F ar al mh e (bb :: a :: R) = evB e.1 a bb :: R := by
            unfold evS
            rw [if_neg (by omega), if_neg (by omega), if_neg (by omega), if_neg (by omega), if_neg (by omega), if_neg c15]
            rfl
          rw [ee] at nx
          have el1 : nI (bb :: a :: R).length + (-1) = nI (R.length + 1) := dn1 _ (by simp only [List.length_cons]; omega)
          have el2 : nI (R.length + 1) - 1 = nI R.length := nI_pred _
          have r1 : X 1318 (R.length + 1) = bb := RV.1
          have r2 : X 1318 R.length = a := RV.2.1
          refine fP (o := 12) H H.b rfl rfl ?_
          rw [el1, el2]
          refine aG (id := 1318) H H.b rfl (by decide) rfl (by omega) ?_
          refine fP (o := 12) H H.b rfl rfl ?_
          refine aG (id := 1318) H H.b rfl (by decide) rfl (by omega) ?_
          rw [r1, r2]
          have put : ∀ v, v = evB e.1 a bb → tI h (A 1318) (nI R.length) v fun h => k (nI (R.length + 1)) (nI (f0 + m) + 1) h := by
            intro v hv
            refine tG (id := 1318) H H.b rfl (by decide) rfl (by omega) (fun h3_ H3 => ?_)
            exact nx _ h3_ (by simp only [List.length_cons]; omega) ⟨by rw [up_same]; exact hv, RV.2.2.put (Nat.le_refl _)⟩ H3 ((Off.rf _ _).up (by decide) _ _)
          -- the last choice
          have last : ∀ v, (e.1 ≠ 11 → e.1 ≠ 12 → bI v = evB e.1 a bb) → fN h (A 12) 12 18 fun a1 => br (nI e.1 = 12) (tI h a1 (nI R.length) (a + bb) fun h => k (nI (R.length + 1)) (nI (f0 + m) + 1) h) (br (nI e.1 = 11) (tI h a1 (nI R.length) (a * bb) fun h => k (nI (R.length + 1)) (nI (f0 + m) + 1) h) (br (bI v = 0) (tI h a1 (nI R.length) 0 fun h => k (nI (R.length + 1)) (nI (f0 + m) + 1) h) (tI h a1 (nI R.length) 1 fun h => k (nI (R.length + 1)) (nI (f0 + m) + 1) h))) := by
            intro v hv
            refine fP (o := 12) H H.b rfl rfl ?_
            refine br_Eq (b := 12) (by omega) (by decide) (fun d => put _ ?_) (fun d => ?_)
            · unfold evB
              rw [if_neg (by omega), if_pos d]
            refine br_Eq (b := 11) (by omega) (by decide) (fun d2 => put _ ?_) (fun d2 => ?_)
            · unfold evB
              rw [if_pos d2]
            have hv2 := hv d2 d
            cases v with
            | true => exact br_F (by decide) (put _ hv2)
            | false => exact br_T rfl (put _ hv2)
          refine br_Eq (b := 13) (by omega) (by decide) (fun d => ?_) (fun d => ?_)
          · refine br_if (fun w => ?_) (fun w => ?_)
            · exact last false (fun _ _ => by unfold evB; rw [if_neg (by omega), if_neg (by omega), if_pos d, decide_eq_false (Int32.not_lt.mpr w)])
            · exact last true (fun _ _ => by unfold evB; rw [if_neg (by omega), if_neg (by omega), if_pos d, decide_eq_true (Int32.not_le.mp w)])
          refine br_Eq (b := 14) (by omega) (by decide) (fun d2 => ?_) (fun d2 => ?_)
          · refine br_if (fun w => ?_) (fun w => ?_)
            · exact last false (fun _ _ => by unfold evB; rw [if_neg (by omega), if_neg (by omega), if_neg d, if_pos d2, decide_eq_false (Int32.not_lt.mpr w)])
            · exact last true (fun _ _ => by unfold evB; rw [if_neg (by omega), if_neg (by omega), if_neg d, if_pos d2, decide_eq_true (Int32.not_le.mp w)])
          refine br_Eq (b := 16) (by omega) (by decide) (fun d3 => ?_) (fun d3 => ?_)
          · refine br_if (fun w => ?_) (fun w => ?_)
            · exact last true (fun _ _ => by unfold evB; rw [if_neg (by omega), if_neg (by omega), if_neg d, if_neg d2, if_pos d3, decide_eq_true w])
            · exact last false (fun _ _ => by unfold evB; rw [if_neg (by omega), if_neg (by omega), if_neg d, if_neg d2, if_pos d3, decide_eq_false w])
          refine br_if (fun w => ?_) (fun w => ?_)
          · exact last false (fun y1 y2 => by unfold evB; rw [if_neg y1, if_neg y2, if_neg d, if_neg d2, if_neg d3, decide_eq_false (Int32.not_lt.mpr w)])
          · exact last true (fun y1 y2 => by unfold evB; rw [if_neg y1, if_neg y2, if_neg d, if_neg d2, if_neg d3, decide_eq_true (Int32.not_le.mp w)])
  · -- what is put
    have hs9 : e.1 = 9 → st = true := by
      unfold ckS at c
      rw [if_pos c10] at c
      split at c
      · rename_i z
        exact z.2.2.1
      · cases c
    have hst : e.1 = 7 ∨ e.1 = 8 → st = false := by
      unfold ckS at c
      rw [if_pos c10] at c
      split at c
      · rename_i z
        exact z.2.2.2
      · cases c
    have hl31 : P.length ≤ 30 := by
      unfold ckS at c
      rw [if_pos c10] at c
      split at c
      · rename_i z
        omega
      · cases c
    have put : ∀ v, evS F ar al mh e P = v :: P → tI h (A 1318) (nI P.length) v fun h => k (nI P.length + 1) (nI (f0 + m) + 1) h := by
      intro v ee
      rw [ee] at nx
      refine tG (id := 1318) H H.b rfl (by decide) rfl (by omega) (fun h3_ H3 => ?_)
      have := nx _ h3_ (by simp only [List.length_cons]; omega) ⟨up_same _ _ _ _, RV.put (Nat.le_refl _)⟩ H3 ((Off.rf _ _).up (by decide) _ _)
      rw [List.length_cons, nI_succ] at this
      exact this
    have body : ∀ v : Int32, (v = 0 ∨ v = 1) → (7 ≤ e.1 → e.1 ≤ 9 → evS F ar al mh e P = v :: P) → fN h (A 12) 12 18 fun a1 => br (nI e.1 = 10) (tI h a1 (nI P.length) (nI e.2) fun h => k (nI P.length + 1) (nI (f0 + m) + 1) h) (br (7 ≤ nI e.1) (br (v = 0) (tI h a1 (nI P.length) 0 fun h => k (nI P.length + 1) (nI (f0 + m) + 1) h) (tI h a1 (nI P.length) 1 fun h => k (nI P.length + 1) (nI (f0 + m) + 1) h)) (fN h (A 12) 12 14 fun a2 => aI h a2 (nI e.1) fun x3 => tI h a1 (nI P.length) x3 fun h => k (nI P.length + 1) (nI (f0 + m) + 1) h)) := by
      intro v hv hv2
      refine fP (o := 12) H H.b rfl rfl ?_
      refine br_Eq (b := 10) (by omega) (by decide) (fun d => put _ ?_) (fun d => ?_)
      · unfold evS
        rw [if_neg (by omega), if_neg (by omega), if_neg (by omega), if_neg (by omega), if_pos d]
      refine br_Le (a := 7) (by decide) (by omega) (fun d2 => ?_) (fun d2 => ?_)
      · have ee := hv2 d2 (by omega)
        refine br_if (fun w => ?_) (fun w => ?_)
        · rw [w] at ee
          exact put _ ee
        · rw [hv.resolve_left w] at ee
          exact put _ ee
      · refine fP (o := 12) H H.b rfl rfl ?_
        refine aG (id := 1314) H H.b rfl (by decide) rfl (by omega) ?_
        rw [iF _ d2]
        refine put _ ?_
        unfold evS
        rw [if_pos (by omega)]
    refine br_Eq (b := 7) (by omega) (by decide) (fun d => ?_) (fun d => ?_)
    · refine fG (o := 12) H H.b rfl ?_
      rw [i15 (hst (Or.inl d))]
      refine body ar har (fun _ _ => ?_)
      unfold evS
      rw [if_neg (by omega), if_pos d]
    refine br_Eq (b := 8) (by omega) (by decide) (fun d2 => ?_) (fun d2 => ?_)
    · refine fG (o := 12) H H.b rfl ?_
      rw [i16 (hst (Or.inr d2))]
      refine body al hal (fun _ _ => ?_)
      unfold evS
      rw [if_neg (by omega), if_neg d, if_pos d2]
    refine fG (o := 12) H H.b rfl ?_
    refine br_if (fun w => ?_) (fun w => ?_)
    · refine body 0 (Or.inl rfl) (fun _ _ => ?_)
      rw [i17 (hs9 (by omega))] at w
      unfold evS
      rw [if_neg (by omega), if_neg d, if_neg d2, if_pos (by omega), decide_eq_false (fun z => Int32.not_lt.mpr z w)]
      rfl
    · refine body 1 (Or.inr rfl) (fun _ _ => ?_)
      rw [i17 (hs9 (by omega))] at w
      unfold evS
      rw [if_neg (by omega), if_neg d, if_neg d2, if_pos (by omega), decide_eq_true (Int32.not_lt.mp w)]
      rfl
theorem m_holdsLine (H : G A S h0 X h) (M : MR X wd) {t ln f0 : Nat} {s : Seg} {st : Bool} {F : Nat → Int32} {ar al mh : Int32} (ht : t ≤ 8) (hln : ln ≤ 9) (h1 : wd (1166 + 831 * t + 2 + 3 * ln) = nI f0) (h2 : wd (1166 + 831 * t + 3 + 3 * ln) = nI (f0 + s.length)) (h3 : f0 + s.length ≤ 400) (h4 : ∀ m, m < s.length → wd (1166 + 831 * t + 31 + 2 * (f0 + m)) = nI (s.getD m (0, 0)).1 ∧ wd (1166 + 831 * t + 32 + 2 * (f0 + m)) = nI (s.getD m (0, 0)).2) (hF : ∀ f, f < 7 → X 1314 f = F f) (har : ar = 0 ∨ ar = 1) (hal : al = 0 ∨ al = 1) (h15 : st = false → X 12 15 = ar) (h16 : st = false → X 12 16 = al) (h17 : st = true → X 12 17 = mh) (hty : s = [] ∨ TY st 19 true s) (k : ∀ X' h', G A S h0 X' h' → Off [1318] X X' → Q (bI (hdS F ar al mh s)) h') : w_X12_holdsLine (A 12) (nI t) (nI ln) h Q := by
  have et : (1166 : Int32) + (831 : Int32) * nI t = nI (1166 + 831 * t) := ix2 1166 831 t
  dsimp only [w_X12_holdsLine, w_X12_lineAt, w_X12_textAt]
  have e1 : nI (1166 + 831 * t) + 1 + 3 * nI ln = nI (1166 + 831 * t + 1 + 3 * ln) := by
    rw [show (1 : Int32) = nI 1 from rfl, show (3 : Int32) = nI 3 from rfl, nI_add, pk_mul, nI_add]
  rw [et, e1]
  generalize hb : 1166 + 831 * t = b at *
  have hb2 : b + 831 ≤ 8645 := by omega
  refine fP (o := 12) H H.b rfl rfl ?_
  refine aM H M (n := b + 2 + 3 * ln) (by rw [show (1 : Int32) = nI 1 from rfl, nI_add]; congr 1; omega) (by omega) ?_
  rw [h1]
  have hck : ∃ T', ck st s [] = some T' := by
    rcases hty with rfl | z
    · exact ⟨[], rfl⟩
    · exact ⟨_, z [] (by decide)⟩
  obtain ⟨T', hck⟩ := hck
  refine ⟨s.length + 1, ?_⟩
  have key : ∀ (suf : Seg) (m : Nat) (P : List Int32) (T : List Bool) (X2 : Nat → Nat → Int32) (h2_ : AH), m + suf.length = s.length → (∀ j, j < suf.length → s.getD (m + j) (0, 0) = suf.getD j (0, 0)) → ck st suf T = some T' → TP T P → P.length ≤ 32 → ev F ar al mh suf P = ev F ar al mh s [] → RVr X2 P → G A S h0 X2 h2_ → Off [1318] X X2 → it (fun (k2 : Int32 × Int32 × AH → Prop) (s2 : Int32 × Int32 × AH) => w_X12_holdsLine_20 (fun (y3 : Int32) h => w_X12_holdsLine_362 (A 12) y3 h Q) (fun (y3 : Int32) (y5 : Int32) h => k2 (y3, y5, h)) (A 12) (nI t) (nI (b + 1 + 3 * ln)) s2.1 s2.2.1 s2.2.2 Q) (suf.length + 1) (nI P.length, nI (f0 + m), h2_) := by
    intro suf
    induction suf with
    | nil =>
      intro m P T X2 h2_ hm _ hc hP hl he RV H2 o2
      have M2 := M.offL o2 (by decide)
      simp only [List.length_nil, Nat.add_zero] at hm
      dsimp only [it, w_X12_holdsLine_20, w_X12_holdsLine_362, w_X12_holdsLine_376, w_X12_holdsLine_381]
      refine fP (o := 12) H2 H2.b rfl rfl ?_
      refine aM H2 M2 (n := b + 3 + 3 * ln) (by rw [show (2 : Int32) = nI 2 from rfl, nI_add]; congr 1; omega) (by omega) ?_
      rw [h2, hm]
      refine br_end ?_
      have he2 : P = ev F ar al mh s [] := he
      have y := k X2 h2_ H2 o2
      rcases hty with z | z
      · have hP0 : P = [] := by rw [he2, z]; rfl
        have hd : hdS F ar al mh s = true := by
          unfold hdS
          rw [decide_eq_true z]
          rfl
        rw [hd] at y
        rw [hP0]
        exact br_T rfl ⟨Or.inr rfl, y⟩
      · obtain ⟨v, v1, v2⟩ := ev_one (F := F) (mh := mh) har hal z
        have hs : s ≠ [] := by
          intro w
          have := z [] (by decide)
          rw [w] at this
          cases this
        rw [v1] at he2
        subst he2
        refine br_F (show ¬(nI 1 = 0) by decide) ?_
        refine fP (o := 12) H2 H2.b rfl rfl ?_
        refine aG (id := 1318) (n := 0) H2 H2.b rfl (by decide) rfl (by decide) ?_
        have r0 : X2 1318 0 = v := RV.1
        rw [r0]
        unfold hdS at y
        rw [decide_eq_false hs, Bool.false_or, v1] at y
        refine br_if (fun w => ?_) (fun w => ?_)
        · rw [w, decide_eq_true rfl] at y
          exact ⟨Or.inr rfl, y⟩
        · rw [decide_eq_false (fun w2 => w (by injection w2))] at y
          exact ⟨Or.inl rfl, y⟩
    | cons e suf ih =>
      intro m P T X2 h2_ hm hg hc hP hl he RV H2 o2
      simp only [List.length_cons] at hm
      have hge := hg 0 (by simp)
      simp only [Nat.add_zero, List.getD_cons_zero] at hge
      have hnx : ∀ j, j < suf.length → s.getD (m + 1 + j) (0, 0) = suf.getD j (0, 0) := fun j hj => by
        have := hg (j + 1) (by simpa using hj)
        rw [show m + 1 + j = m + (j + 1) by omega]
        simpa using this
      obtain ⟨x5, x8⟩ := h4 m (by omega)
      rw [hge] at x5 x8
      simp only [ck] at hc
      cases c : ckS st e T with
      | none => rw [c] at hc; cases hc
      | some T2 =>
      rw [c] at hc
      have hP2 := evS_ty (F := F) (mh := mh) har hal c hP
      have he2 : ev F ar al mh suf (evS F ar al mh e P) = ev F ar al mh s [] := he
      rw [List.length_cons, it]
      refine m_hStep (F := F) (mh := mh) H2 (M.offL o2 (by decide)) (by omega) hb hb2 h2 (by omega) h3 x5 x8 (fun f hf => by rw [o2 1314 (by decide)]; exact hF f hf) har hal (fun w => by rw [o2 12 (by decide)]; exact h15 w) (fun w => by rw [o2 12 (by decide)]; exact h16 w) (fun w => by rw [o2 12 (by decide)]; exact h17 w) c hP hl RV ?_
      intro X3 h3_ w1 w2 w3 w4
      rw [← nI_succ]
      exact ih (m + 1) _ T2 X3 h3_ (by omega) hnx hc hP2 w1 he2 w2 w3 (o2.tr w4)
  exact key s 0 [] [] X h (by omega) (fun j hj => by rw [Nat.zero_add]) hck rfl (by decide) rfl trivial H (Off.rf _ _)
end MRUN
