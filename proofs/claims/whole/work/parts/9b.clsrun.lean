/-! the class runs a program -/
def PXf (h h' : AH) (p q : Nat) : Prop := gK h' = gK h ∧ gL h' = gL h ∧ gP h' = gP h ∧ h'.2.2.2.2 = h.2.2.2.2 ∧ ∀ b, b ≠ p → b ≠ q → gI h' b = gI h b
theorem PXf.rf (h : AH) (p q : Nat) : PXf h h p q := ⟨rfl, rfl, rfl, rfl, fun _ _ _ => rfl⟩
theorem PXf.tr {h h' h'' : AH} {p q : Nat} (a : PXf h h' p q) (b : PXf h' h'' p q) : PXf h h'' p q := ⟨b.1.trans a.1, b.2.1.trans a.2.1, b.2.2.1.trans a.2.2.1, b.2.2.2.1.trans a.2.2.2.1, fun c h1 h2 => (b.2.2.2.2 c h1 h2).trans (a.2.2.2.2 c h1 h2)⟩
theorem PXf.put {h : AH} {p q c : Nat} (hc : c = p ∨ c = q) (k : Nat) (v : Int32) : PXf h (sI h c k v) p q := by
  refine ⟨rfl, rfl, rfl, rfl, fun b h1 h2 => ?_⟩
  have : b ≠ c := fun e => hc.elim (fun z => h1 (e.trans z)) (fun z => h2 (e.trans z))
  funext j
  exact gI_sI_ne h v (Or.inl this)
def PIr (h : AH) (q : Nat) : List Int32 → Prop
  | [] => True
  | a :: R => gI h q R.length = a ∧ PIr h q R
theorem PIr.put {h : AH} {q m : Nat} {v : Int32} : ∀ {P : List Int32}, PIr h q P → P.length ≤ m → PIr (sI h q m v) q P := by
  intro P
  induction P with
  | nil => exact fun _ _ => trivial
  | cons a R ih =>
    rintro ⟨h1, h2⟩ hm
    simp only [List.length_cons] at hm
    refine ⟨?_, ih h2 (by omega)⟩
    rw [gI_sI_ne h v (Or.inr (by omega))]
    exact h1
theorem PIr.ne {h : AH} {q c m : Nat} {v : Int32} (hc : q ≠ c) : ∀ {P : List Int32}, PIr h q P → PIr (sI h c m v) q P := by
  intro P
  induction P with
  | nil => exact fun _ => trivial
  | cons a R ih =>
    rintro ⟨h1, h2⟩
    refine ⟨?_, ih h2⟩
    rw [gI_sI_ne h v (Or.inl hc)]
    exact h1
/-- the pile of the program p -/
def PI (h : AH) (p q : Nat) (P : List Int32) : Prop := gI h p 2 = nI P.length ∧ PIr h q P
def PK (h : AH) (p q : Nat) : Prop := gK h p = 6 ∧ gP h p 1 = some q ∧ gK h q = 20 ∧ gL h q = 32
theorem PK.ne {h : AH} {p q : Nat} (K : PK h p q) : p ≠ q := fun e => by
  have h1 := K.1
  rw [e, K.2.2.1] at h1
  cases h1
theorem PK.x {h h' : AH} {p q : Nat} (K : PK h p q) (x : PXf h h' p q) : PK h' p q := by
  obtain ⟨x1, x2, x3, x4, x5⟩ := x
  unfold PK
  rw [x1, x2, x3]
  exact K
section CRUN
variable {h : AH} {Q : Int32 → AH → Prop} {Qv : AH → Prop} {p q : Nat} {P : List Int32}
theorem c_put (K : PK h p q) (I : PI h p q P) (hP : P.length ≤ 31) {v : Int32} (k : ∀ h', PXf h h' p q → PI h' p q (v :: P) → Qv h') : w_X5_put p v h Qv := by
  obtain ⟨k1, k2, k3, k4⟩ := K
  have hpq : p ≠ q := PK.ne ⟨k1, k2, k3, k4⟩
  dsimp only [w_X5_put, w_X5_put_29]
  refine ⟨k1, ?_⟩
  rw [I.1]
  refine br_go (a := 32) (by omega) (by decide) ⟨k1, q, k2, k1, ?_⟩
  rw [I.1]
  refine ⟨k3, ?_, ?_⟩
  · rw [k4]
    exact vp_in_nI (by omega) (by decide)
  · rw [nI_clamp (by omega)]
    refine ⟨k1, ?_⟩
    rw [gI_sI_ne h v (Or.inl hpq), I.1]
    dsimp only
    rw [← nI_succ]
    refine ⟨k1, k _ ((PXf.put (Or.inr rfl) _ _).tr (PXf.put (Or.inl rfl) _ _)) ⟨gI_sI_same _ _ _ _, ?_, ?_⟩⟩
    · rw [gI_sI_ne _ _ (Or.inl (fun e => hpq e.symm)), gI_sI_same]
    · exact (I.2.put (Nat.le_refl _)).ne (fun e => hpq e.symm)
theorem c_take (K : PK h p q) {a : Int32} {R : List Int32} (I : PI h p q (a :: R)) (hP : R.length ≤ 31) (k : ∀ h', PXf h h' p q → PI h' p q R → Q a h') : w_X5_take p h Q := by
  obtain ⟨k1, k2, k3, k4⟩ := K
  have hpq : p ≠ q := PK.ne ⟨k1, k2, k3, k4⟩
  have i1 : gI h p 2 = nI (R.length + 1) := I.1
  dsimp only [w_X5_take]
  refine ⟨k1, ?_⟩
  rw [i1]
  refine br_Eq (b := 0) (by omega) (by decide) (fun z => by omega) (fun _ => ⟨k1, ?_⟩)
  rw [i1]
  dsimp only
  rw [nI_pred]
  refine ⟨k1, k1, q, k2, k1, ?_⟩
  rw [gI_sI_same]
  refine ⟨k3, ?_, ?_⟩
  · show vp_in (nI R.length) (gL h q)
    rw [k4]
    exact vp_in_nI (by omega) (by decide)
  · rw [nI_clamp (by omega), gI_sI_ne _ _ (Or.inl (fun e => hpq e.symm)), I.2.1]
    exact k _ (PXf.put (Or.inl rfl) _ _) ⟨gI_sI_same _ _ _ _, I.2.2.ne (fun e => hpq e.symm)⟩
def jT (kd : Nat) (a b : Int32) : Int32 := if kd = 2 then a * b else if kd = 3 then a + b else if kd = 4 then bI (decide (a < b)) else if kd = 5 then bI (decide (b < a)) else if kd = 6 then 0 else if kd = 7 then a &&& b else if kd = 8 then a ||| b else if kd = 9 then bI (decide (b ≤ a)) else 0
theorem c_joinTwo {kd : Nat} (hk : kd < 11) {a b : Int32} (k : Q (jT kd a b) h) : w_X5_joinTwo (nI kd) a b h Q := by
  dsimp only [w_X5_joinTwo, w_X5_joinTwo_66, w_X5_joinTwo_77, w_X5_joinTwo_96]
  unfold jT at k
  refine br_Eq (b := 2) (by omega) (by decide) (fun z => ?_) (fun z => ?_)
  · rw [if_pos z] at k; exact k
  rw [if_neg z] at k
  refine br_Eq (b := 3) (by omega) (by decide) (fun z => ?_) (fun z => ?_)
  · rw [if_pos z] at k; exact k
  rw [if_neg z] at k
  refine br_Eq (b := 4) (by omega) (by decide) (fun z => ?_) (fun z => ?_)
  · rw [if_pos z] at k
    exact br_if (fun c => qf k (decide_eq_false (Int32.not_lt.mpr c))) (fun c => qt k (decide_eq_true (Int32.not_le.mp c)))
  rw [if_neg z] at k
  refine br_Eq (b := 5) (by omega) (by decide) (fun z => ?_) (fun z => ?_)
  · rw [if_pos z] at k
    exact br_if (fun c => qf k (decide_eq_false (Int32.not_lt.mpr c))) (fun c => qt k (decide_eq_true (Int32.not_le.mp c)))
  rw [if_neg z] at k
  refine br_Eq (b := 6) (by omega) (by decide) (fun z => ?_) (fun z => ?_)
  · rw [if_pos z] at k; exact k
  rw [if_neg z] at k
  refine br_Eq (b := 7) (by omega) (by decide) (fun z => ?_) (fun z => ?_)
  · rw [if_pos z] at k; exact k
  rw [if_neg z] at k
  refine br_Eq (b := 8) (by omega) (by decide) (fun z => ?_) (fun z => ?_)
  · rw [if_pos z] at k; exact k
  rw [if_neg z] at k
  refine br_Eq (b := 9) (by omega) (by decide) (fun z => ?_) (fun z => ?_)
  · rw [if_pos z] at k
    exact br_if (fun c => qf k (decide_eq_false (Int32.not_le.mpr c))) (fun c => qt k (decide_eq_true (Int32.not_lt.mp c)))
  rw [if_neg z] at k
  exact k
/-- what a step of the class does; what it wants -/
def good (fr : Nat → Int32) (nf : Nat) : List Nat → List Int32 → Int32 → Prop
  | [], _, r => r = 0
  | c :: cs, P, r => c < 11000 ∧ P.length ≤ 32 ∧ (if c / 1000 = 10 then ∃ a R, P = a :: R ∧ (if a = 0 then good fr nf cs R r else r = nI (c % 1000))
    else if c / 1000 = 0 then P.length ≤ 31 ∧ good fr nf cs (nI (c % 1000) :: P) r
    else if c / 1000 = 1 then P.length ≤ 31 ∧ c % 1000 < nf ∧ good fr nf cs (fr (c % 1000) :: P) r
    else if c / 1000 = 6 then ∃ a R, P = a :: R ∧ good fr nf cs ((if a = 0 then 1 else 0) :: R) r
    else ∃ b a R, P = b :: a :: R ∧ good fr nf cs (jT (c / 1000) a b :: R) r)
theorem c_answer {fr : Nat → Int32} {nf s fa : Nat} {l : List Nat} {r : Int32} (O : PO1 h p s q l) (hsq : s ≠ q) (hf : gK h fa = 20 ∧ gL h fa = nf ∧ ∀ k, k < nf → gI h fa k = fr k) (hnf : nf ≤ 20) (hfa : fa ≠ q) (hl : l.length ≤ 401) (g : good fr nf l [] r) (k : ∀ h', PXf h h' p q → Q r h') : w_X5_answer p fa h Q := by
  obtain ⟨o1, o2, o3, o4, o5, o6, o7, o8⟩ := O
  have hpq : p ≠ q := fun e => by rw [e, o7] at o1; cases o1
  have hsp : s ≠ p := fun e => by rw [e, o1] at o4; cases o4
  have hfp : fa ≠ p := fun e => by have := hf.1; rw [e, o1] at this; cases this
  dsimp only [w_X5_answer]
  refine ⟨o1, l.length + 1, ?_⟩
  have key : ∀ (cs : List Nat) (i : Nat) (P : List Int32) (h2 : AH), i + cs.length = l.length → (∀ j, j < cs.length → l.getD (i + j) 0 = cs.getD j 0) → PXf h h2 p q → PI h2 p q P → good fr nf cs P r → it (fun (k2 : Int32 × AH → Prop) (s2 : Int32 × AH) => w_X5_answer_7 (fun (y4 : Int32) h => w_X5_answer_52 y4 h Q) (fun h => w_X5_answer_146 h Q) (fun (y2 : Int32) h => k2 (y2, h)) p fa s2.1 s2.2 Q) (cs.length + 1) (nI i, h2) := by
    intro cs
    induction cs with
    | nil =>
      intro i P h2 hi _ x I g
      obtain ⟨x1, x2, x3, x4, x5⟩ := id x
      have g0 : r = 0 := g
      simp only [List.length_nil, Nat.add_zero] at hi
      dsimp only [it]
      dsimp only [w_X5_answer_7, w_X5_answer_146]
      refine ⟨by rw [x1]; exact o1, s, by rw [x3]; exact o2, by rw [x1]; exact o4, ?_⟩
      rw [x2, o5, hi]
      refine br_end ?_
      rw [← g0]
      exact k h2 x
    | cons c cs ih =>
      intro i P h2 hi hc x I g
      obtain ⟨x1, x2, x3, x4, x5⟩ := id x
      simp only [List.length_cons] at hi
      have hck := hc 0 (by simp)
      simp only [Nat.add_zero, List.getD_cons_zero] at hck
      have hnx : ∀ j, j < cs.length → l.getD (i + 1 + j) 0 = cs.getD j 0 := fun j hj => by
        have := hc (j + 1) (by simpa using hj)
        rw [show i + 1 + j = i + (j + 1) by omega]
        simpa using this
      obtain ⟨g1, g2, g3⟩ := g
      have K2 : PK h2 p q := PK.x ⟨o1, o3, o7, o8⟩ x
      have e6 : gI h2 s i = nI c := by
        rw [x5 s hsp hsq, o6 i (by omega), hck]
      have nx : ∀ P' h', PXf h2 h' p q → PI h' p q P' → good fr nf cs P' r → it (fun (k2 : Int32 × AH → Prop) (s2 : Int32 × AH) => w_X5_answer_7 (fun (y4 : Int32) h => w_X5_answer_52 y4 h Q) (fun h => w_X5_answer_146 h Q) (fun (y2 : Int32) h => k2 (y2, h)) p fa s2.1 s2.2 Q) (cs.length + 1) (nI i + 1, h') := by
        intro P' h' x' I' g'
        rw [← nI_succ]
        exact ih (i + 1) P' h' (by omega) hnx (x.tr x') I' g'
      show w_X5_answer_7 _ _ _ p fa (nI i) h2 Q
      dsimp only [w_X5_answer_7, w_X5_answer_52, w_X5_answer_89, w_X5_answer_114, w_X5_answer_140]
      refine ⟨K2.1, s, by rw [x3]; exact o2, by rw [x1]; exact o4, ?_⟩
      rw [x2, o5]
      refine br_go (by omega) (by omega) ⟨K2.1, s, by rw [x3]; exact o2, by rw [x1]; exact o4, ?_, ?_⟩
      · rw [x2, o5]
        exact vp_in_nI (by omega) (by omega)
      rw [nI_clamp (by omega), e6]
      refine ⟨K2.1, s, by rw [x3]; exact o2, by rw [x1]; exact o4, ?_, ?_⟩
      · rw [x2, o5]
        exact vp_in_nI (by omega) (by omega)
      rw [nI_clamp (by omega), e6]
      have ed : nI c / 1000 = nI (c / 1000) := pk_div (d := 1000) (by omega) (by decide) (by decide)
      have er : jrem (nI c) 1000 = nI (c % 1000) := pk_rem (d := 1000) (by omega) (by decide) (by decide)
      have hd : c / 1000 < 11 := by omega
      have hr : c % 1000 < 1000 := Nat.mod_lt _ (by decide)
      dsimp only
      rw [ed, er]
      generalize c / 1000 = kd at *
      generalize c % 1000 = vl at *
      refine bd_i ?_
      refine br_Eq (b := 10) (by omega) (by decide) (fun z => ?_) (fun z => ?_)
      · rw [if_pos z] at g3
        obtain ⟨a, R, rfl, g4⟩ := g3
        refine ⟨K2.1, c_take K2 I (by simp only [List.length_cons] at g2; omega) (fun h3 x3 I3 => ?_)⟩
        refine br_if (fun d => ?_) (fun d => ?_)
        · rw [if_pos d] at g4
          exact nx R h3 x3 I3 g4
        · rw [if_neg d] at g4
          rw [← g4]
          exact k h3 (x.tr x3)
      rw [if_neg z] at g3
      refine br_Eq (b := 0) (by omega) (by decide) (fun z => ?_) (fun z => ?_)
      · rw [if_pos z] at g3
        exact ⟨K2.1, c_put K2 I g3.1 (fun h3 x3 I3 => nx _ h3 x3 I3 g3.2)⟩
      rw [if_neg z] at g3
      refine br_Eq (b := 1) (by omega) (by decide) (fun z => ?_) (fun z => ?_)
      · rw [if_pos z] at g3
        obtain ⟨g6, g4, g5⟩ := g3
        refine ⟨by rw [x1]; exact hf.1, ?_⟩
        rw [x2, hf.2.1]
        refine br_go g4 (by omega) ⟨by rw [x1]; exact hf.1, ?_, ?_⟩
        · rw [x2, hf.2.1]
          exact vp_in_nI g4 (by omega)
        · rw [nI_clamp (by omega), x5 fa hfp hfa, hf.2.2 _ g4]
          exact ⟨K2.1, c_put K2 I g6 (fun h3 x3 I3 => nx _ h3 x3 I3 g5)⟩
      rw [if_neg z] at g3
      refine br_Eq (b := 6) (by omega) (by decide) (fun z => ?_) (fun z => ?_)
      · rw [if_pos z] at g3
        obtain ⟨a, R, rfl, g4⟩ := g3
        simp only [List.length_cons] at g2
        refine ⟨K2.1, c_take K2 I (by omega) (fun h3 x3 I3 => ?_)⟩
        have K3 := K2.x x3
        refine br_if (fun d => ?_) (fun d => ?_)
        · rw [if_pos d] at g4
          exact ⟨K3.1, c_put K3 I3 (by omega) (fun h4 x4 I4 => nx _ h4 (x3.tr x4) I4 g4)⟩
        · rw [if_neg d] at g4
          exact ⟨K3.1, c_put K3 I3 (by omega) (fun h4 x4 I4 => nx _ h4 (x3.tr x4) I4 g4)⟩
      rw [if_neg z] at g3
      obtain ⟨b, a, R, rfl, g4⟩ := g3
      simp only [List.length_cons] at g2
      refine ⟨K2.1, c_take K2 I (by simp only [List.length_cons]; omega) (fun h3 x3 I3 => ?_)⟩
      have K3 := K2.x x3
      refine ⟨K3.1, c_take K3 I3 (by omega) (fun h4 x4 I4 => ?_)⟩
      have K4 := K3.x x4
      refine c_joinTwo hd ?_
      exact ⟨K4.1, c_put K4 I4 (by omega) (fun h5 x5 I5 => nx _ h5 ((x3.tr x4).tr x5) I5 g4)⟩
  refine key l 0 [] _ (by omega) (fun j hj => by rw [Nat.zero_add]) (PXf.put (Or.inl rfl) _ _) ⟨gI_sI_same _ _ _ _, trivial⟩ g
end CRUN
/-! what is read runs as told -/
theorem and01 {a b : Int32} (ha : a = 0 ∨ a = 1) (hb : b = 0 ∨ b = 1) : a &&& b = bI (decide (a + b = 2)) ∧ a ||| b = bI (decide (0 < a + b)) := by
  rcases ha with rfl | rfl <;> rcases hb with rfl | rfl <;> decide
def FRl (st : Bool) (F : Nat → Int32) (ar al mh : Int32) (fr : Nat → Int32) (nf : Nat) : Prop := (∀ f, f < 7 → fr f = F f) ∧ 7 ≤ nf ∧ (st = false → fr 7 = ar ∧ fr 8 = al ∧ nf = 9) ∧ (st = true → fr 7 = mh ∧ nf = 8)
theorem good_seg {st : Bool} {F fr : Nat → Int32} {ar al mh r : Int32} {nf : Nat} (har : ar = 0 ∨ ar = 1) (hal : al = 0 ∨ al = 1) (hF : FRl st F ar al mh fr nf) {rest : List Nat} : ∀ {s : Seg} {T T' : List Bool} {P : List Int32}, ck st s T = some T' → TP T P → P.length ≤ 31 → (∀ P', P' = ev F ar al mh s P → good fr nf rest P' r) → good fr nf (enc s ++ rest) P r := by
  intro s
  induction s with
  | nil => intro T T' P _ _ _ k; exact k P rfl
  | cons e s ih =>
    intro T T' P h hP h31 k
    simp only [ck] at h
    cases c : ckS st e T with
    | none => rw [c] at h; cases h
    | some T2 =>
      rw [c] at h
      have hP2 := evS_ty (F := F) (mh := mh) har hal c hP
      have hl := hP.len
      have hl2 := hP2.len
      have e2 : enc (e :: s) ++ rest = trS e ++ (enc s ++ rest) := by
        show trS e ++ enc s ++ rest = _
        rw [List.append_assoc]
      rw [e2]
      have h31' : (evS F ar al mh e P).length ≤ 31 := by
        rw [hl2]
        unfold ckS at c
        split at c
        · split at c
          · rename_i z
            cases c
            simp only [List.length_cons]
            omega
          · cases c
        · split at c
          · cases T with
            | nil => cases c
            | cons x T =>
              cases x with
              | false => cases c
              | true => cases c; simp only [List.length_cons] at *; omega
          · cases T with
            | nil => cases c
            | cons x T =>
              cases T with
              | nil => cases c
              | cons y T =>
                dsimp only at c
                simp only [List.length_cons] at hl
                split at c
                · split at c
                  · cases c; simp only [List.length_cons]; omega
                  · cases c
                · split at c
                  · split at c
                    · cases c; simp only [List.length_cons]; omega
                    · cases c
                  · split at c
                    · split at c
                      · cases c; simp only [List.length_cons]; omega
                      · cases c
                    · cases c
      have ih2 := ih h hP2 h31' k
      obtain ⟨f1, f2, f3, f4⟩ := hF
      clear ih hl2 hP2
      unfold ckS at c
      unfold evS at ih2
      unfold trS
      split at c
      · rename_i c10
        split at c
        · rename_i z
          obtain ⟨z1, z2, z3, z4⟩ := z
          by_cases d8 : e.1 ≤ 8
          · rw [if_pos d8]
            refine ⟨by omega, by omega, ?_⟩
            rw [if_neg (by omega), if_neg (by omega), if_pos (by omega), show (1000 + e.1) % 1000 = e.1 by omega]
            refine ⟨h31, ?_⟩
            by_cases d6 : e.1 ≤ 6
            · rw [if_pos d6] at ih2
              refine ⟨by omega, ?_⟩
              rw [f1 _ (by omega)]
              exact ih2
            · rw [if_neg d6] at ih2
              obtain ⟨g1, g2, g3⟩ := f3 (z4 (by omega))
              by_cases d7 : e.1 = 7
              · rw [if_pos d7] at ih2
                refine ⟨by omega, ?_⟩
                rw [d7, g1]
                exact ih2
              · rw [if_neg d7, if_pos (by omega)] at ih2
                refine ⟨by omega, ?_⟩
                rw [show e.1 = 8 by omega, g2]
                exact ih2
          · rw [if_neg d8]
            rw [if_neg (by omega), if_neg (by omega), if_neg (by omega)] at ih2
            by_cases d9 : e.1 = 9
            · rw [if_pos d9] at ih2 ⊢
              obtain ⟨g1, g2⟩ := f4 (z3 d9)
              refine ⟨by decide, by omega, ?_⟩
              rw [if_neg (by decide), if_neg (by decide), if_pos (by decide)]
              refine ⟨h31, by omega, ?_⟩
              refine ⟨by omega, by simp only [List.length_cons]; omega, ?_⟩
              rw [if_neg (by omega), if_pos (by omega)]
              refine ⟨by simp only [List.length_cons]; omega, ?_⟩
              refine ⟨by decide, by simp only [List.length_cons]; omega, ?_⟩
              rw [if_neg (by decide), if_neg (by decide), if_neg (by decide), if_neg (by decide)]
              refine ⟨_, _, P, rfl, ?_⟩
              have e9 : jT (9000 / 1000) (fr (1007 % 1000)) (nI (e.2 % 1000)) = bI (decide (nI e.2 ≤ mh)) := by
                show bI (decide (nI (e.2 % 1000) ≤ fr 7)) = _
                rw [g1, Nat.mod_eq_of_lt z2]
              rw [e9]
              exact ih2
            · rw [if_neg d9] at ih2 ⊢
              rw [if_pos (by omega)] at ih2 ⊢
              refine ⟨by omega, by omega, ?_⟩
              rw [if_neg (by omega), if_pos (by omega), Nat.mod_eq_of_lt z2]
              exact ⟨h31, ih2⟩
        · cases c
      · rename_i c10
        rw [if_neg (by omega), if_neg (by omega), if_neg (by omega)]
        rw [if_neg (by omega), if_neg (by omega), if_neg (by omega), if_neg (by omega), if_neg (by omega)] at ih2
        have eq : ∀ m, e.1 = 9 + m → m < 10 → (e.1 - 9) * 1000 / 1000 = m ∧ (e.1 - 9) * 1000 < 11000 := fun m hm h10 => ⟨by rw [Nat.mul_div_cancel _ (by decide)]; omega, by omega⟩
        split at c
        · rename_i c15
          rw [if_pos c15] at ih2
          cases T with
          | nil => cases c
          | cons x T =>
            cases x with
            | false => cases c
            | true =>
              obtain ⟨a, R, rfl, q1, q2⟩ := hP
              obtain ⟨w1, w2⟩ := eq 6 (by omega) (by decide)
              refine ⟨w2, by omega, ?_⟩
              rw [w1, if_neg (by decide), if_neg (by decide), if_neg (by decide), if_pos rfl]
              refine ⟨a, R, rfl, ?_⟩
              have ea : (if a = 0 then 1 else 0 : Int32) = 1 - a := by
                rcases q1 rfl with rfl | rfl <;> decide
              rw [ea]
              exact ih2
        · rename_i c15
          rw [if_neg c15] at ih2
          cases T with
          | nil => cases c
          | cons x T =>
            cases T with
            | nil => cases c
            | cons y T =>
              obtain ⟨b, R0, rfl, q1, a, R, rfl, q2, q3⟩ := hP
              dsimp only at c ih2
              have fin : ∀ m, e.1 = 9 + m → m < 9 → 2 ≤ m → m ≠ 6 → jT m a b = (if e.1 = 11 then a * b else if e.1 = 12 then a + b else if e.1 = 13 then bI (decide (a < b)) else if e.1 = 14 then bI (decide (b < a)) else if e.1 = 16 then bI (decide (a + b = 2)) else bI (decide (0 < a + b))) → good fr nf ([(e.1 - 9) * 1000] ++ (enc s ++ rest)) (b :: a :: R) r := by
                intro m hm h9 h2 h6 hj
                obtain ⟨w1, w2⟩ := eq m hm (by omega)
                refine ⟨w2, by omega, ?_⟩
                rw [w1, if_neg (by omega), if_neg (by omega), if_neg (by omega), if_neg h6]
                refine ⟨b, a, R, rfl, ?_⟩
                rw [hj]
                exact ih2
              split at c
              · by_cases d : e.1 = 11
                · exact fin 2 (by omega) (by decide) (by decide) (by decide) (by rw [if_pos d]; rfl)
                · exact fin 3 (by omega) (by decide) (by decide) (by decide) (by rw [if_neg d, if_pos (by omega)]; rfl)
              · split at c
                · by_cases d : e.1 = 13
                  · exact fin 4 (by omega) (by decide) (by decide) (by decide) (by rw [if_neg (by omega), if_neg (by omega), if_pos d]; rfl)
                  · exact fin 5 (by omega) (by decide) (by decide) (by decide) (by rw [if_neg (by omega), if_neg (by omega), if_neg d, if_pos (by omega)]; rfl)
                · split at c
                  · split at c
                    · rename_i z
                      obtain ⟨rfl, rfl⟩ := z
                      have a01 := and01 (q2 rfl) (q1 rfl)
                      by_cases d : e.1 = 16
                      · exact fin 7 (by omega) (by decide) (by decide) (by decide) (by rw [if_neg (by omega), if_neg (by omega), if_neg (by omega), if_neg (by omega), if_pos d]; exact a01.1)
                      · exact fin 8 (by omega) (by decide) (by decide) (by decide) (by rw [if_neg (by omega), if_neg (by omega), if_neg (by omega), if_neg (by omega), if_neg d]; exact a01.2)
                    · cases c
                  · cases c
/-- whether a condition holds; what a law says -/
def hdS (F : Nat → Int32) (ar al mh : Int32) (s : Seg) : Bool := decide (s = []) || decide (ev F ar al mh s [] = [1])
def lawR (F : Nat → Int32) (ar al mh : Int32) : List (Nat × Seg) → Int32
  | [] => 0
  | q :: L => if hdS F ar al mh q.2 = true then nI (q.1 + 1) else lawR F ar al mh L
theorem ev_one {st : Bool} {F : Nat → Int32} {ar al mh : Int32} (har : ar = 0 ∨ ar = 1) (hal : al = 0 ∨ al = 1) {s : Seg} (h : TY st 19 true s) : ∃ v, ev F ar al mh s [] = [v] ∧ (v = 0 ∨ v = 1) := by
  have h2 := h [] (by decide)
  obtain ⟨a, R, e, q1, q2⟩ := ev_ty (F := F) (mh := mh) har hal h2 (rfl : TP [] [])
  have q3 : R = [] := q2
  subst q3
  exact ⟨a, e, q1 rfl⟩
/-- a well made law -/
def LOk (st : Bool) (L : List (Nat × Seg)) : Prop := ∀ q, q ∈ L → q.1 ≤ 4 ∧ (q.2 = [] ∨ TY st 19 true q.2)
theorem good_cond {st : Bool} {F fr : Nat → Int32} {ar al mh r : Int32} {nf a : Nat} (har : ar = 0 ∨ ar = 1) (hal : al = 0 ∨ al = 1) (hF : FRl st F ar al mh fr nf) {rest : List Nat} {s : Seg} (hs : TY st 19 true s) (ha : a ≤ 4) (k1 : ev F ar al mh s [] = [1] → r = nI (a + 1)) (k2 : ev F ar al mh s [] ≠ [1] → good fr nf rest [] r) : good fr nf (enc s ++ ([10001 + a] ++ rest)) [] r := by
  obtain ⟨v, v1, v2⟩ := ev_one (F := F) (mh := mh) har hal hs
  refine good_seg har hal hF (hs [] (by decide)) (rfl : TP [] []) (by decide) (fun P' e => ?_)
  rw [e, v1]
  refine ⟨by omega, show (1 : Nat) ≤ 32 by decide, ?_⟩
  rw [if_pos (by omega)]
  refine ⟨v, [], rfl, ?_⟩
  rcases v2 with rfl | rfl
  · rw [if_pos rfl]
    exact k2 (by rw [v1]; intro z; exact absurd (List.head_eq_of_cons_eq z) (by decide))
  · rw [if_neg (by decide), k1 v1]
    congr 1
    omega
theorem good_law {st : Bool} {F fr : Nat → Int32} {ar al mh : Int32} {nf : Nat} (har : ar = 0 ∨ ar = 1) (hal : al = 0 ∨ al = 1) (hF : FRl st F ar al mh fr nf) : ∀ {L : List (Nat × Seg)}, LOk st L → good fr nf (lwE L) [] (lawR F ar al mh L) := by
  intro L
  induction L with
  | nil => intro _; exact rfl
  | cons q L ih =>
    intro h
    obtain ⟨h1, h2⟩ := h q List.mem_cons_self
    have h3 := ih (fun z hz => h z (List.mem_cons_of_mem _ hz))
    have e1 : lwE (q :: L) = lnE q.2 ++ ([10001 + q.1] ++ lwE L) := by
      show lnE q.2 ++ [10001 + q.1] ++ lwE L = _
      rw [List.append_assoc]
    rw [e1]
    simp only [lawR]
    by_cases c : q.2 = []
    · have hd : hdS F ar al mh q.2 = true := by
        unfold hdS
        rw [decide_eq_true c]
        rfl
      rw [if_pos hd]
      unfold lnE
      rw [if_pos c]
      refine ⟨by decide, by decide, ?_⟩
      rw [if_neg (by decide), if_pos (by decide)]
      refine ⟨by decide, by omega, by decide, ?_⟩
      rw [if_pos (by omega)]
      refine ⟨_, [], rfl, ?_⟩
      rw [if_neg (by decide)]
      congr 1
      omega
    · have hs := h2.resolve_left c
      unfold lnE
      rw [if_neg c]
      refine good_cond har hal hF hs h1 (fun z => ?_) (fun z => ?_)
      · have hd : hdS F ar al mh q.2 = true := by
          unfold hdS
          rw [decide_eq_true z, Bool.or_true]
        rw [if_pos hd]
      · have hd : ¬ hdS F ar al mh q.2 = true := by
          unfold hdS
          rw [decide_eq_false c, decide_eq_false z]
          decide
        rw [if_neg hd]
        exact h3
theorem good_story {F fr : Nat → Int32} {ar al mh : Int32} {nf : Nat} (har : ar = 0 ∨ ar = 1) (hal : al = 0 ∨ al = 1) (hF : FRl true F ar al mh fr nf) {s : Seg} (hs : TY true 19 true s) (hne : s ≠ []) : good fr nf (enc s ++ [10001]) [] (bI (hdS F ar al mh s)) := by
  have := good_cond (r := bI (hdS F ar al mh s)) (rest := []) har hal hF hs (a := 0) (by decide) (fun z => by
    unfold hdS
    rw [decide_eq_true z, Bool.or_true]
    rfl) (fun z => by
    unfold hdS
    rw [decide_eq_false hne, decide_eq_false z]
    exact rfl)
  exact this
