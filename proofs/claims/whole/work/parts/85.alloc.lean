/-! new objects and rows -/
theorem va_ne {α : Type} {f : Nat → α} {k x : Nat} {v : α} (h : x ≠ k) : va_up f k v x = f x := va_up_ne _ _ h
/-- h' has all that h has, but for the pointers of one object -/
def FR (e : Nat) (h h' : AH) : Prop := (∀ b, gK h b ≠ 0 → gK h' b = gK h b ∧ gL h' b = gL h b ∧ gI h' b = gI h b ∧ (b ≠ e → gP h' b = gP h b)) ∧ gS h' = gS h ∧ gV h' = gV h
theorem FR.rf (e : Nat) (h : AH) : FR e h h := ⟨fun _ _ => ⟨rfl, rfl, rfl, fun _ => rfl⟩, rfl, rfl⟩
def rd : List (Nat × Nat × Int32) → Nat → Nat → Int32
  | [], _, _ => 0
  | e :: W, id, n => if id = e.1 ∧ n = e.2.1 then e.2.2 else rd W id n
theorem rd_0 {id : Nat} : ∀ {W : List (Nat × Nat × Int32)}, (∀ e, e ∈ W → e.1 ≠ id) → rd W id = fun _ => 0 := by
  intro W
  induction W with
  | nil => intro _; rfl
  | cons e W ih =>
    intro h
    funext n
    unfold rd
    rw [if_neg (fun z => h e List.mem_cons_self z.1.symm), ih (fun e' he => h e' (List.mem_cons_of_mem _ he))]
def AL (hB : AH) (D0 : Nat → Prop) (A0 : Nat → Nat) (L : List Nat) (P : List (Nat × Nat)) (W : List (Nat × Nat × Int32)) (A : Nat → Nat) (h : AH) : Prop :=
  ((∀ b, gK hB b ≠ 0 → gK h b = gK hB b ∧ gL h b = gL hB b ∧ gI h b = gI hB b ∧ gP h b = gP hB b) ∧ gS h = gS hB ∧ gV h = gV hB) ∧ (∀ id, D0 id → A id = A0 id ∧ gK hB (A0 id) ≠ 0) ∧
  (∀ id, id ∈ L → ¬ D0 id ∧ gK hB (A id) = 0 ∧ (tk id).1 ≠ 0 ∧ gK h (A id) = (tk id).1 ∧ (20 ≤ (tk id).1 → gL h (A id) = (tk id).2) ∧ gI h (A id) = rd W id ∧ ∀ k, pt id k = none → gP h (A id) k = none) ∧
  (∀ e, e ∈ P → e.1 ∈ L ∧ ∃ t, pt e.1 e.2 = some t ∧ (t ∈ L ∨ D0 t) ∧ gP h (A e.1) e.2 = some (A t)) ∧ (∀ i, i ∈ L → ∀ j, j ∈ L → A i = A j → i = j) ∧ ∀ e, e ∈ W → e.1 ∈ L
section ALLOC
variable {hB h : AH} {D0 : Nat → Prop} {A0 A : Nat → Nat} {L : List Nat} {P : List (Nat × Nat)} {W : List (Nat × Nat × Int32)}
theorem AL.rf (hD : ∀ id, D0 id → gK hB (A0 id) ≠ 0) : AL hB D0 A0 [] [] [] A0 hB :=
  ⟨⟨fun _ _ => ⟨rfl, rfl, rfl, rfl⟩, rfl, rfl⟩, fun id hd => ⟨rfl, hD id hd⟩, fun id h => (by cases h), fun e h => (by cases h), fun i h => (by cases h), fun e h => (by cases h)⟩
theorem AL.fresh (HA : AL hB D0 A0 L P W A h) {a : Nat} (ha : gK h a = 0) : gK hB a = 0 ∧ (∀ id, id ∈ L → A id ≠ a) ∧ ∀ id, D0 id → A id ≠ a := by
  obtain ⟨⟨f1, f2⟩, f3, f4, f5, f6, f7⟩ := HA
  have z : gK hB a = 0 := Decidable.byContradiction fun y => by
    have := (f1 a y).1
    rw [ha] at this
    exact y this.symm
  refine ⟨z, fun id hi e => ?_, fun id hd e => ?_⟩
  · obtain ⟨-, -, g1, g2, -⟩ := f4 id hi
    rw [e, ha] at g2
    exact g1 g2.symm
  · obtain ⟨g1, g2⟩ := f3 id hd
    rw [← g1, e] at g2
    exact g2 z
/-- what an allocation of a row id at a does -/
theorem AL.new (HA : AL hB D0 A0 L P W A h) {a id : Nat} (ha : gK h a = 0) (hD : ¬ D0 id) (hL : id ∉ L) (ht : (tk id).1 ≠ 0) {h' : AH} (hk : gK h' = va_up (gK h) a (tk id).1) (hl1 : ∀ b, b ≠ a → gL h' b = gL h b) (hl2 : 20 ≤ (tk id).1 → gL h' a = (tk id).2) (hi : gI h' = va_up (gI h) a (fun _ => 0)) (hp : ∀ b, b ≠ a → gP h' b = gP h b) (hpn : ∀ k, gP h' a k = none) (hs : gS h' = gS h) (hv : gV h' = gV h) : AL hB D0 A0 (id :: L) P W (va_up A id a) h' := by
  obtain ⟨z, q1, q2⟩ := HA.fresh ha
  obtain ⟨⟨f1, f2⟩, f3, f4, f5, f6, f7⟩ := HA
  have keep : ∀ b, b ≠ a → gK h' b = gK h b ∧ gL h' b = gL h b ∧ gI h' b = gI h b ∧ gP h' b = gP h b := fun b hb => ⟨by rw [hk, va_ne hb], hl1 b hb, by rw [hi, va_ne hb], hp b hb⟩
  have nL : ∀ j, j ∈ L → j ≠ id := fun j hj e => hL (e ▸ hj)
  have nD : ∀ j, D0 j → j ≠ id := fun j hj e => hD (e ▸ hj)
  refine ⟨⟨fun b hb => ?_, hs.trans f2.1, hv.trans f2.2⟩, fun j hd => ?_, fun j hj => ?_, fun e he => ?_, fun i hi j hj e => ?_, fun e he => List.mem_cons_of_mem _ (f7 e he)⟩
  · have hba : b ≠ a := fun e => hb (e ▸ z)
    obtain ⟨k1, k2, k3, k4⟩ := keep b hba
    obtain ⟨g1, g2, g3, g4⟩ := f1 b hb
    exact ⟨k1.trans g1, k2.trans g2, k3.trans g3, k4.trans g4⟩
  · rw [va_ne (nD j hd)]
    exact f3 j hd
  · rcases List.mem_cons.mp hj with rfl | hj
    · rw [va_up_self]
      exact ⟨hD, z, ht, by rw [hk, va_up_self], hl2, by rw [hi, va_up_self, rd_0 (fun e he (y : e.1 = _) => hL (by rw [← y]; exact f7 e he))], fun k _ => hpn k⟩
    · have e1 := nL j hj
      rw [va_ne e1]
      obtain ⟨k1, k2, k3, k4⟩ := keep _ (q1 j hj)
      rw [k1, k2, k3, k4]
      exact f4 j hj
  · obtain ⟨g1, t, g2, g3, g4⟩ := f5 e he
    refine ⟨List.mem_cons_of_mem _ g1, t, g2, g3.elim (fun y => Or.inl (List.mem_cons_of_mem _ y)) Or.inr, ?_⟩
    rw [va_ne (nL _ g1), (keep _ (q1 _ g1)).2.2.2, g4, va_ne (g3.elim (nL t) (nD t))]
  · rcases List.mem_cons.mp hi with e1 | hi2 <;> rcases List.mem_cons.mp hj with e2 | hj2
    · rw [e1, e2]
    · rw [e1, va_up_self, va_ne (nL j hj2)] at e
      exact absurd e.symm (q1 j hj2)
    · rw [e2, va_up_self, va_ne (nL i hi2)] at e
      exact absurd e (q1 i hi2)
    · rw [va_ne (nL i hi2), va_ne (nL j hj2)] at e
      exact f6 i hi2 j hj2 e
theorem al_O (HA : AL hB D0 A0 L P W A h) {id ci : Nat} (ht : tk id = (ci + 1, 0)) (h20 : ci + 1 < 20) (hD : ¬ D0 id) (hL : id ∉ L) {K : Nat → AH → Prop} (kk : ∀ a h', AL hB D0 A0 (id :: L) P W (va_up A id a) h' → K a h') : wO h ci K := by
  intro a ha
  refine kk a _ (HA.new ha hD hL (by rw [ht]; exact Nat.succ_ne_zero ci) (h' := nO h a ci) (by rw [ht]; rfl) (fun b hb => rfl) (fun z => by rw [ht] at z; exact absurd z (by omega)) rfl (fun b hb => ?_) (fun k => ?_) rfl rfl)
  · show va_up h.2.2.2.1 a (fun _ => none) b = h.2.2.2.1 b
    rw [va_ne hb]
  · show va_up h.2.2.2.1 a (fun _ => none) a k = none
    rw [va_up_self]
theorem al_A (HA : AL hB D0 A0 L P W A h) {id j n : Nat} (ht : tk id = (20 + j, n)) (hD : ¬ D0 id) (hL : id ∉ L) {K : Nat → AH → Prop} (kk : ∀ a h', AL hB D0 A0 (id :: L) P W (va_up A id a) h' → K a h') : wA h j n K := by
  intro a ha
  refine kk a _ (HA.new ha hD hL (by rw [ht]; show 20 + j ≠ 0; omega) (h' := nA h a j n) (by rw [ht]; rfl) (fun b hb => ?_) (fun _ => ?_) rfl (fun b hb => ?_) (fun k => ?_) rfl rfl)
  · show va_up h.2.1 a n b = h.2.1 b
    rw [va_ne hb]
  · show va_up h.2.1 a n a = _
    rw [va_up_self, ht]
  · show va_up h.2.2.2.1 a (fun _ => none) b = h.2.2.2.1 b
    rw [va_ne hb]
  · show va_up h.2.2.2.1 a (fun _ => none) a k = none
    rw [va_up_self]
theorem al_P (HA : AL hB D0 A0 L P W A h) {o k t v0 a1 ci : Nat} (hv : v0 = A o) (ha : a1 = A t) (ho : o ∈ L) (ht : t ∈ L ∨ D0 t) (hp : pt o k = some t) (hci : tk o = (ci + 1, 0)) {K : AH → Prop} (kk : ∀ h', AL hB D0 A0 L ((o, k) :: P) W A h' → K h') : uO h v0 ci k (some a1) K := by
  subst hv ha
  obtain ⟨⟨f1, f2⟩, f3, f4, f5, f6, f7⟩ := HA
  obtain ⟨g1, g2, g3, g4, g5, g6, g7⟩ := f4 o ho
  refine ⟨by rw [g4, hci], kk _ ⟨⟨fun b hb => ?_, f2⟩, f3, fun id hi => ?_, fun e he => ?_, f6, f7⟩⟩
  · have hbo : b ≠ A o := fun e => hb (e ▸ g2)
    obtain ⟨k1, k2, k3, k4⟩ := f1 b hb
    refine ⟨k1, k2, k3, ?_⟩
    show va_up h.2.2.2.1 (A o) _ b = _
    rw [va_ne hbo]
    exact k4
  · obtain ⟨q1, q2, q3, q4, q5, q6, q7⟩ := f4 id hi
    refine ⟨q1, q2, q3, q4, q5, q6, fun m hm => ?_⟩
    show va_up h.2.2.2.1 (A o) (va_up (h.2.2.2.1 (A o)) k (some (A t))) (A id) m = none
    by_cases c : id = o
    · subst c
      rw [va_up_self, va_ne (fun z => by rw [z, hp] at hm; cases hm)]
      exact q7 m hm
    · rw [va_ne (fun z => c (f6 _ hi _ ho z))]
      exact q7 m hm
  · show _ ∧ ∃ t_1, _ ∧ _ ∧ va_up h.2.2.2.1 (A o) (va_up (h.2.2.2.1 (A o)) k (some (A t))) (A e.1) e.2 = some (A t_1)
    rcases List.mem_cons.mp he with rfl | he
    · exact ⟨ho, t, hp, ht, by rw [va_up_self, va_up_self]⟩
    · obtain ⟨q1, t', q2, q3, q4⟩ := f5 e he
      refine ⟨q1, t', q2, q3, ?_⟩
      by_cases c : e.1 = o
      · by_cases c2 : e.2 = k
        · rw [c, c2, hp] at q2
          rw [c, c2, va_up_self, va_up_self, Option.some.inj q2]
        · rw [c, va_up_self, va_ne c2]
          rw [c] at q4
          exact q4
      · rw [va_ne (fun z => c (f6 _ q1 _ ho z))]
        exact q4
theorem AL.put (HA : AL hB D0 A0 L P W A h) {o k : Nat} {v : Int32} (ho : o ∈ L) : AL hB D0 A0 L P ((o, k, v) :: W) A (sI h (A o) k v) := by
  obtain ⟨⟨f1, f2⟩, f3, f4, f5, f6, f7⟩ := HA
  obtain ⟨g1, g2, g3, g4, g5, g6, g7⟩ := f4 o ho
  refine ⟨⟨fun b hb => ?_, f2⟩, fun id hd => f3 id hd, fun id hi => ?_, f5, f6, fun e he => (List.mem_cons.mp he).elim (fun z => z ▸ ho) (f7 e)⟩
  · have hbo : b ≠ A o := fun e => hb (e ▸ g2)
    obtain ⟨k1, k2, k3, k4⟩ := f1 b hb
    refine ⟨k1, k2, ?_, k4⟩
    rw [← k3]
    funext m
    exact gI_sI_ne h v (Or.inl hbo)
  · obtain ⟨q1, q2, q3, q4, q5, q6, q7⟩ := f4 id hi
    refine ⟨q1, q2, q3, q4, q5, ?_, q7⟩
    funext m
    unfold rd
    by_cases c : id = o
    · subst c
      by_cases c2 : m = k
      · subst c2
        rw [gI_sI_same, if_pos ⟨rfl, rfl⟩]
      · rw [gI_sI_ne h v (Or.inr c2), if_neg (fun z => c2 z.2), q6]
    · rw [gI_sI_ne h v (Or.inl (fun z => c (f6 _ hi _ ho z))), if_neg (fun z => c z.1), q6]
theorem al_I (HA : AL hB D0 A0 L P W A h) {o k v0 ci : Nat} {v : Int32} (hv : v0 = A o) (ho : o ∈ L) (hci : tk o = (ci + 1, 0)) {K : AH → Prop} (kk : ∀ h', AL hB D0 A0 L P ((o, k, v) :: W) A h' → K h') : uI h v0 ci k v K := by
  subst hv
  exact ⟨by rw [(HA.2.2.1 o ho).2.2.2.1, hci], kk _ (HA.put ho)⟩
theorem al_T (HA : AL hB D0 A0 L P W A h) {o k v0 len : Nat} {i v : Int32} (hv : v0 = A o) (ho : o ∈ L) (hci : tk o = (20, len)) (hl : len < 2 ^ 31) (hi : i = nI k) (hk : k < len) {K : AH → Prop} (kk : ∀ h', AL hB D0 A0 L P ((o, k, v) :: W) A h' → K h') : tI h v0 i v K := by
  subst hv hi
  obtain ⟨g1, g2, g3, g4, g5, g6, g7⟩ := HA.2.2.1 o ho
  refine ⟨by rw [g4, hci], ?_, ?_⟩
  · rw [g5 (by rw [hci]; exact Nat.le_refl _), hci]
    exact vp_in_nI hk hl
  · rw [nI_clamp (by omega)]
    exact kk _ (HA.put ho)
theorem al_F (HA : AL hB D0 A0 L P W A h) {o k t v0 ci : Nat} (hv : v0 = A o) (hP : (o, k) ∈ P) (hp : pt o k = some t) (hci : tk o = (ci + 1, 0)) {K : Nat → Prop} (kk : K (A t)) : fN h v0 ci k K := by
  subst hv
  obtain ⟨⟨f1, f2⟩, f3, f4, f5, f6, f7⟩ := HA
  obtain ⟨q1, t', q2, q3, q4⟩ := f5 _ hP
  obtain ⟨g1, g2, g3, g4, g5, g6, g7⟩ := f4 o q1
  rw [hp] at q2
  refine ⟨by rw [g4, hci], A t, ?_, kk⟩
  rw [q4, Option.some.inj q2]
theorem nm {id a : Nat} {L : List Nat} (h : id ∉ L) (hn : id ≠ a) : id ∉ a :: L := fun z => (List.mem_cons.mp z).elim hn h
end ALLOC
theorem pt_ck : ∀ o, o < 13 → ∀ k, k < 40 → ∀ t, pt o k = some t → (tk t).1 ≠ 0 ∧ sg t = sg o ∧ t < 5000 := by
  have key : ((List.range 13).all fun o => (List.range 40).all fun k => match pt o k with
    | none => true
    | some t => decide ((tk t).1 ≠ 0 ∧ sg t = sg o ∧ t < 5000)) = true := by decide +kernel
  intro o ho k hk t ht
  have h1 := List.all_eq_true.mp key o (List.mem_range.mpr ho)
  have h2 := List.all_eq_true.mp h1 k (List.mem_range.mpr hk)
  rw [ht] at h2
  exact of_decide_eq_true h2
theorem ptT_len : ∀ l, l ∈ ptT → l.length ≤ 40 := by decide +kernel
theorem ptT_b {o k t : Nat} (h : (ptT.getD o []).getD k none = some t) : o < 13 ∧ k < 40 := by
  rcases Nat.lt_or_ge o 13 with c | c
  · refine ⟨c, ?_⟩
    rcases Nat.lt_or_ge k 40 with d | d
    · exact d
    · have e : (ptT.getD o []).length ≤ 40 := by
        have hm : ptT.getD o [] ∈ ptT := by
          rw [List.getD_eq_getElem?_getD, List.getElem?_eq_getElem (show o < ptT.length from c)]
          exact List.getElem_mem _
        exact ptT_len _ hm
      rw [List.getD_eq_getElem?_getD, List.getElem?_eq_none (by omega)] at h
      cases h
  · have e : ptT.getD o [] = [] := by
      rw [List.getD_eq_getElem?_getD, List.getElem?_eq_none (show ptT.length ≤ o from c)]
      rfl
    rw [e] at h
    simp at h
theorem tk_5000 : ∀ t, t < 5000 → (tk t).1 ≠ 0 → inSt (clO t) = true → (tk (t + 5000)).1 ≠ 0 := by
  intro t ht h1 h2
  unfold tk
  rw [if_neg (by omega), if_pos ⟨by omega, by rw [Nat.add_sub_cancel]; exact h2⟩, Nat.add_sub_cancel]
  unfold tk at h1
  rw [if_pos ht] at h1
  exact h1
theorem pt_ck2 : ∀ o, o < 13 → inSt o = true → ∀ k, k < 40 → ∀ t, pt o k = some t → inSt (clO t) = true := by
  have key : ((List.range 13).all fun o => !inSt o || (List.range 40).all fun k => match pt o k with
    | none => true
    | some t => inSt (clO t)) = true := by decide +kernel
  intro o ho h5 k hk t ht
  have h1 := List.all_eq_true.mp key o (List.mem_range.mpr ho)
  rw [h5, Bool.not_true, Bool.false_or] at h1
  have h2 := List.all_eq_true.mp h1 k (List.mem_range.mpr hk)
  rw [ht] at h2
  exact h2
theorem pt_lvS {o k t : Nat} (ho : (tk o).1 ≠ 0) (h : pt o k = some t) : (tk t).1 ≠ 0 ∧ sg t = sg o := by
  by_cases c : o < 5000
  · have h2 := h
    unfold pt at h
    rw [if_pos c] at h
    obtain ⟨b1, b2⟩ := ptT_b h
    obtain ⟨q1, q2, q3⟩ := pt_ck o b1 k b2 t h2
    exact ⟨q1, q2⟩
  · unfold pt at h
    rw [if_neg c] at h
    obtain ⟨t', h1, h2⟩ := Option.map_eq_some_iff.mp h
    obtain ⟨b1, b2⟩ := ptT_b h1
    have h3 : pt (o - 5000) k = some t' := by
      unfold pt
      rw [if_pos (by omega)]
      exact h1
    obtain ⟨q1, q2, q3⟩ := pt_ck _ b1 k b2 t' h3
    have h5 : inSt (o - 5000) = true := by
      unfold tk at ho
      rw [if_neg c] at ho
      by_cases d : o < 10000 ∧ inSt (clO (o - 5000)) = true
      · have := d.2
        unfold clO at this
        rw [if_pos (by omega)] at this
        exact this
      · rw [if_neg d] at ho
        exact absurd rfl ho
    subst h2
    refine ⟨tk_5000 t' q3 q1 (pt_ck2 _ b1 h5 k b2 t' h3), ?_⟩
    unfold sg
    rw [if_neg (by omega), if_neg c]
/-- a heap as its own base -/
theorem G.self {A : Nat → Nat} {S : Nat → Prop} {h : AH} {X : Nat → Nat → Int32} (H : Sh A S h) (hX : ∀ id, lv S id → gI h (A id) = X id) : G A S h X h := ⟨H, rfl, rfl, rfl, rfl, hX, fun _ _ => rfl⟩
theorem G.base {A : Nat → Nat} {S : Nat → Prop} {h0 h : AH} {X : Nat → Nat → Int32} (H : G A S h0 X h) : G A S h X h := by
  obtain ⟨⟨h1, h2, h3, h4⟩, g1, g2, g3, g4, g5, g6⟩ := H
  exact G.self ⟨h1, by rw [g1, g2]; exact h2, by rw [g3]; exact h3, h4⟩ g5
/-- old rows as they were, new ones as written -/
def gX (L : List Nat) (X0 : Nat → Nat → Int32) (W : List (Nat × Nat × Int32)) : Nat → Nat → Int32 := fun id => if id ∈ L then rd W id else X0 id
theorem gX_off {L : List Nat} {X0 : Nat → Nat → Int32} {W : List (Nat × Nat × Int32)} : Off L X0 (gX L X0 W) := fun id h => if_neg h
theorem gX_new {L : List Nat} {X0 : Nat → Nat → Int32} {W : List (Nat × Nat × Int32)} {id : Nat} (h : id ∈ L) : gX L X0 W id = rd W id := if_pos h
theorem G.grow {A0 A : Nat → Nat} {S S' : Nat → Prop} {h0 hB h : AH} {X0 : Nat → Nat → Int32} {L : List Nat} {P : List (Nat × Nat)} {W : List (Nat × Nat × Int32)} (H : G A0 S h0 X0 hB) (HA : AL hB (lv S) A0 L P W A h) (hS : S' 0) (hl : ∀ id, lv S' id ↔ lv S id ∨ id ∈ L) (hP : ∀ o, o ∈ L → ∀ k t, pt o k = some t → (o, k) ∈ P) : G A S' h (gX L X0 W) h := by
  obtain ⟨⟨f1, f2⟩, f3, f4, f5, f6, f7⟩ := HA
  obtain ⟨⟨s1, s2, s3, s4⟩, g1, g2, g3, g4, g5, g6⟩ := H
  have old : ∀ id, lv S id → gK h (A id) = gK hB (A0 id) ∧ gL h (A id) = gL hB (A0 id) ∧ gI h (A id) = gI hB (A0 id) ∧ gP h (A id) = gP hB (A0 id) := fun id hd => by
    obtain ⟨q1, q3⟩ := f3 id hd
    rw [q1]
    exact f1 _ q3
  refine G.self ⟨hS, fun id hi => ?_, fun o k t ho hp => ?_, fun i j hi hj e => ?_⟩ (fun id hi => ?_)
  · rcases (hl id).mp hi with hd | hd
    · obtain ⟨q1, q2, q3, q4⟩ := old id hd
      rw [q1, q2, g1, g2]
      exact s2 id hd
    · obtain ⟨q1, q2, q3, q4, q5, q6, q7⟩ := f4 id hd
      exact ⟨q4, q5⟩
  · rcases (hl o).mp ho with hd | hd
    · have q := s3 o k t hd hp
      obtain ⟨q1, q2, q3, q4⟩ := old o hd
      have ht : lv S t := by
        obtain ⟨w1, w2⟩ := pt_lvS hd.1 hp
        exact ⟨w1, by rw [w2]; exact hd.2⟩
      rw [q4, g3, q, (f3 t ht).1]
    · obtain ⟨q1, t', q2, q3, q4⟩ := f5 _ (hP o hd k t hp)
      rw [hp] at q2
      rw [q4, Option.some.inj q2]
  · rcases (hl i).mp hi with hd | hd <;> rcases (hl j).mp hj with hd' | hd'
    · rw [(f3 i hd).1, (f3 j hd').1] at e
      exact s4 i j hd hd' e
    · obtain ⟨q1, q3⟩ := f3 i hd
      rw [← q1, e] at q3
      exact absurd (f4 j hd').2.1 q3
    · obtain ⟨q1, q3⟩ := f3 j hd'
      rw [← q1, ← e] at q3
      exact absurd (f4 i hd).2.1 q3
    · exact f6 i hd j hd' e
  · rcases (hl id).mp hi with hd | hd
    · obtain ⟨q1, q2, q3, q4⟩ := old id hd
      rw [q3, g5 id hd, gX_off id (fun z => (f4 id z).1 hd)]
    · rw [gX_new hd]
      exact (f4 id hd).2.2.2.2.2.1
/-- a larger base: rows keep their places, all else that was there stays as it was, but for the pointers of the field -/
def BE (A : Nat → Nat) (S : Nat → Prop) (h0 : AH) (A' : Nat → Nat) (S' : Nat → Prop) (h1 : AH) : Prop :=
  (∀ id, lv S id → A' id = A id) ∧ (∀ i, S i → S' i) ∧ (∀ b, gK h0 b ≠ 0 → gK h1 b = gK h0 b ∧ gL h1 b = gL h0 b ∧ (b ≠ A 11 → gP h1 b = gP h0 b) ∧ ((∀ id, lv S id → b ≠ A id) → gI h1 b = gI h0 b)) ∧ (∀ id, lv S' id → lv S id ∨ gK h0 (A' id) = 0) ∧ gS h1 = gS h0 ∧ gV h1 = gV h0
theorem BE.ofJ {A : Nat → Nat} {S : Nat → Prop} {h0 h1 : AH} (j : hJ h0 h1) : BE A S h0 A S h1 := by
  obtain ⟨j1, j2, j3, j4, j5⟩ := j
  have e : gS h1 = gS h0 ∧ gV h1 = gV h0 := ⟨congrArg Prod.fst j5, congrArg Prod.snd j5⟩
  exact ⟨fun _ _ => rfl, fun _ h => h, fun b _ => ⟨congrFun j1 b, congrFun j2 b, fun _ => congrFun j4 b, fun _ => congrFun j3 b⟩, fun id h => Or.inl h, e⟩
theorem lv_mono {S S' : Nat → Prop} (h : ∀ i, S i → S' i) {id : Nat} (hl : lv S id) : lv S' id := ⟨hl.1, h _ hl.2⟩
theorem BE.tr {A A' A'' : Nat → Nat} {S S' S'' : Nat → Prop} {h0 h1 h2 : AH} (a : BE A S h0 A' S' h1) (b : BE A' S' h1 A'' S'' h2) (h11 : lv S 11) : BE A S h0 A'' S'' h2 := by
  obtain ⟨a1, a2, a3, a4, a5⟩ := a
  obtain ⟨b1, b2, b3, b4, b5⟩ := b
  refine ⟨fun id hd => (b1 id (lv_mono a2 hd)).trans (a1 id hd), fun i h => b2 i (a2 i h), fun b hb => ?_, fun id hd => ?_, b5.1.trans a5.1, b5.2.trans a5.2⟩
  · obtain ⟨q1, q2, q3, q4⟩ := a3 b hb
    obtain ⟨r1, r2, r3, r4⟩ := b3 b (by rw [q1]; exact hb)
    refine ⟨r1.trans q1, r2.trans q2, fun z => (r3 (by rw [a1 11 h11]; exact z)).trans (q3 z), fun z => (r4 (fun id hd => ?_)).trans (q4 z)⟩
    rcases a4 id hd with y | y
    · rw [a1 id y]
      exact z id y
    · exact fun e => hb (e ▸ y)
  · rcases b4 id hd with y | y
    · rcases a4 id y with w | w
      · exact Or.inl w
      · rw [b1 id y]
        exact Or.inr w
    · refine Or.inr (Decidable.byContradiction fun z => z ?_)
      exact Decidable.byContradiction fun w => by rw [(a3 _ w).1] at y; exact w y
theorem BE.al {A0 A : Nat → Nat} {S S' : Nat → Prop} {h0 hB h : AH} {X0 : Nat → Nat → Int32} {L : List Nat} {P : List (Nat × Nat)} {W : List (Nat × Nat × Int32)} (H : G A0 S h0 X0 hB) (HA : AL hB (lv S) A0 L P W A h) (hS : ∀ i, S i → S' i) (hl : ∀ id, lv S' id ↔ lv S id ∨ id ∈ L) : BE A0 S h0 A S' h := by
  obtain ⟨⟨f1, f2⟩, f3, f4, f5, f6, f7⟩ := HA
  obtain ⟨-, g1, g2, g3, g4, g5, g6⟩ := H
  have g8 : gS hB = gS h0 ∧ gV hB = gV h0 := ⟨congrArg (fun x => x.2.1) g4, congrArg (fun x => x.2.2) g4⟩
  refine ⟨fun id hd => (f3 id hd).1, hS, fun b hb => ?_, fun id hd => ?_, f2.1.trans g8.1, f2.2.trans g8.2⟩
  · rw [← g1] at hb
    obtain ⟨q1, q2, q3, q4⟩ := f1 b hb
    rw [q1, q2, q3, q4, g1, g2, g3]
    exact ⟨rfl, rfl, fun _ => rfl, fun z => g6 b z⟩
  · rcases (hl id).mp hd with y | y
    · exact Or.inl y
    · rw [← g1]
      exact Or.inr (f4 id y).2.1
