/-! the mathematics: leaves -/
def b2 (c : Prop) [Decidable c] : Int32 := if c then 1 else 0
theorem b2_t {c : Prop} [Decidable c] (h : c) : b2 c = 1 := if_pos h
theorem b2_f {c : Prop} [Decidable c] (h : ¬ c) : b2 c = 0 := if_neg h
theorem b2_0 {c : Prop} [Decidable c] : b2 c = 0 ↔ ¬ c := by
  unfold b2
  split <;> simp_all
theorem b2_or {c : Prop} [Decidable c] : b2 c = 0 ∨ b2 c = 1 := by
  unfold b2
  split <;> simp
theorem br_if {c A B : Prop} (h1 : c → A) (h2 : ¬ c → B) : br c A B := ⟨h1, h2⟩
theorem i_le {a b : Int32} (h : ¬ a < b) : b ≤ a := Int32.not_lt.mp h
abbrev inR (v lo hi : Int32) : Prop := lo ≤ v ∧ v ≤ hi
theorem m_in {v lo hi : Int32} {h : AH} {Q : Int32 → AH → Prop} (k : Q (b2 (inR v lo hi)) h) : w_X12_in v lo hi h Q := by
  refine br_if (fun c => ?_) (fun c => br_if (fun c2 => ?_) (fun c2 => ?_))
  · rw [b2_f (fun z => Int32.not_lt.mpr z.1 c)] at k
    exact ⟨Or.inl rfl, k⟩
  · rw [b2_f (fun z => Int32.not_lt.mpr z.2 c2)] at k
    exact ⟨Or.inl rfl, k⟩
  · rw [b2_t ⟨i_le c, i_le c2⟩] at k
    exact ⟨Or.inr rfl, k⟩
theorem m_noCell {v : Int32} {h : AH} {Q : Int32 → AH → Prop} (k : Q (b2 (¬ inR v 0 255)) h) : w_X12_noCell v h Q := by
  refine m_in (br_if (fun c => ?_) (fun c => ?_))
  · rw [b2_t (b2_0.mp c)] at k
    exact ⟨Or.inr rfl, k⟩
  · rw [b2_f (fun z => c (b2_0.mpr z))] at k
    exact ⟨Or.inl rfl, k⟩
/-- what is written elsewhere leaves a place as it was -/
theorem gI_sI_same (h : AH) (a k : Nat) (v : Int32) : gI (sI h a k v) a k = v := by simp [gI, sI, va_up]
theorem gI_sI_ne (h : AH) {a k b j : Nat} (v : Int32) (hn : b ≠ a ∨ j ≠ k) : gI (sI h a k v) b j = gI h b j := by
  unfold gI sI
  by_cases e : b = a
  · subst e
    have e2 : j ≠ k := hn.resolve_left (fun z => z rfl)
    simp [va_up, e2]
  · simp [va_up, e]
theorem m_throwsIf {a : Nat} {c : Prop} [Decidable c] {code : Int32} {h : AH} {Q : Int32 → AH → Prop} (hK : gK h a = 13) (k : Q (b2 c) (if c then sI h a 0 code else h)) : w_X12_throwsIf a (b2 c) code h Q := by
  by_cases e : c
  · rw [b2_t e, if_pos e] at k
    rw [b2_t e]
    exact ⟨fun z => absurd z (by decide), fun _ => ⟨hK, Or.inr rfl, k⟩⟩
  · rw [b2_f e, if_neg e] at k
    rw [b2_f e]
    exact ⟨fun _ => ⟨Or.inl rfl, k⟩, fun z => absurd rfl z⟩
/-- the rows of the reference's object: field, sort, length -/
def rowsM : List (Nat × Nat × Nat) := [(1, 0, 9476), (2, 0, 8645), (4, 1, 400), (11, 0, 5), (14, 0, 7), (18, 0, 400), (19, 0, 8), (21, 0, 2048), (22, 0, 256), (23, 0, 16), (25, 0, 8), (27, 2, 256)]
/-- the shape of the reference's object at a, its rows at r -/
def ShM (a : Nat) (r : Nat → Nat) (h : AH) : Prop := gK h a = 13 ∧ (∀ q ∈ rowsM, gP h a q.1 = some (r q.1) ∧ gK h (r q.1) = 20 + q.2.1 ∧ gL h (r q.1) = q.2.2) ∧ ∀ q ∈ rowsM, ∀ q' ∈ rowsM, r q.1 = r q'.1 → q.1 = q'.1
theorem ShM.sI {a : Nat} {r : Nat → Nat} {h : AH} (H : ShM a r h) (b k : Nat) (v : Int32) : ShM a r (sI h b k v) := H
theorem ShM.row {a : Nat} {r : Nat → Nat} {h : AH} (H : ShM a r h) {k j n : Nat} (hm : (k, j, n) ∈ rowsM) : gP h a k = some (r k) ∧ gK h (r k) = 20 + j ∧ gL h (r k) = n := H.2.1 _ hm
theorem ShM.ne {a : Nat} {r : Nat → Nat} {h : AH} (H : ShM a r h) {k j n : Nat} (hm : (k, j, n) ∈ rowsM) (hj : j < 3) : r k ≠ a := by
  intro e
  have h1 := (H.row hm).2.1
  rw [e, H.1] at h1
  omega
/-- the world's row holds wd -/
def RpM (a : Nat) (r : Nat → Nat) (wd : Nat → Int32) (h : AH) : Prop := ShM a r h ∧ ∀ k : Nat, k < 9476 → gI h (r 1) k = wd k
theorem m_ld {a : Nat} {r : Nat → Nat} {wd : Nat → Int32} {h : AH} (H : RpM a r wd h) {i : Int32} {n : Nat} (hi : i = nI n) (hn : n < 9476) {K : Int32 → Prop} (k : K (wd n)) : fN h a 12 1 fun b => aI h b i K := by
  obtain ⟨h1, h2, h3⟩ := H.1.row (k := 1) (j := 0) (n := 9476) (by decide)
  refine ⟨H.1.1, r 1, h1, h2, ?_, ?_⟩
  · rw [hi, h3]
    exact vp_in_nI hn (by omega)
  · rw [hi, nI_clamp (by omega), H.2 n hn]
    exact k
/-- nothing has changed but ints in D -/
def Fr (D : Nat → Prop) (h h' : AH) : Prop := gK h' = gK h ∧ gL h' = gL h ∧ gP h' = gP h ∧ gJ h' = gJ h ∧ gS h' = gS h ∧ gV h' = gV h ∧ ∀ b : Nat, ¬ D b → gI h' b = gI h b
theorem Fr.rf (D : Nat → Prop) (h : AH) : Fr D h h := ⟨rfl, rfl, rfl, rfl, rfl, rfl, fun _ _ => rfl⟩
theorem Fr.trans {D : Nat → Prop} {h h' h'' : AH} (a : Fr D h h') (b : Fr D h' h'') : Fr D h h'' :=
  ⟨b.1.trans a.1, b.2.1.trans a.2.1, b.2.2.1.trans a.2.2.1, b.2.2.2.1.trans a.2.2.2.1, b.2.2.2.2.1.trans a.2.2.2.2.1, b.2.2.2.2.2.1.trans a.2.2.2.2.2.1, fun q hq => (b.2.2.2.2.2.2 q hq).trans (a.2.2.2.2.2.2 q hq)⟩
theorem Fr.put {D : Nat → Prop} {h : AH} {a : Nat} (hD : D a) (k : Nat) (v : Int32) : Fr D h (sI h a k v) := by
  refine ⟨rfl, rfl, rfl, rfl, rfl, rfl, fun b hb => ?_⟩
  have : b ≠ a := fun e => hb (e ▸ hD)
  funext j
  exact gI_sI_ne h v (Or.inl this)
/-- the reference's own addresses -/
def DM (a : Nat) (r : Nat → Nat) (b : Nat) : Prop := b = a ∨ ∃ q ∈ rowsM, b = r q.1
theorem RpM.own {a : Nat} {r : Nat → Nat} {wd : Nat → Int32} {h : AH} (H : RpM a r wd h) (k : Nat) (v : Int32) : RpM a r wd (sI h a k v) := by
  refine ⟨H.1, fun j hj => ?_⟩
  rw [gI_sI_ne h v (Or.inl (H.1.ne (k := 1) (j := 0) (n := 9476) (by decide) (by decide)))]
  exact H.2 j hj
theorem inR_nat {c : Int32} {n : Nat} (h : inR c 0 (nI n)) (hn : n < 2 ^ 31) : ∃ m : Nat, c = nI m ∧ m ≤ n := by
  obtain ⟨j, h1, h2⟩ := nI_of (Int32.not_lt.mpr h.1)
  refine ⟨j, h2, ?_⟩
  have h3 := h.2
  rw [h2] at h3
  exact (nI_leI h1 hn).mp h3
theorem m_height {a : Nat} {r : Nat → Nat} {wd : Nat → Int32} {h : AH} (H : RpM a r wd h) {c : Int32} {Q : Int32 → AH → Prop} (k1 : ∀ (n : Nat) (h' : AH), c = nI n → n < 256 → RpM a r wd h' → gI h' a 0 = 0 → Fr (DM a r) h h' → Q (wd (13 + n)) h') (k2 : ∀ h' : AH, ¬ inR c 0 255 → RpM a r wd h' → gI h' a 0 = 1 → Fr (DM a r) h h' → Q 0 h') : w_X12_height a c h Q := by
  refine ⟨H.1.1, m_noCell ⟨H.1.1, m_throwsIf H.1.1 ?_⟩⟩
  by_cases e : inR c 0 255
  · obtain ⟨n, rfl, hn⟩ := inR_nat (n := 255) e (by decide)
    rw [if_neg (fun z => z e), b2_f (fun z => z e)]
    refine ⟨fun _ => ?_, fun z => absurd rfl z⟩
    exact m_ld (H.own 0 0) (n := 13 + n) (nI_add 13 n) (by omega) (k1 n _ rfl (by omega) (H.own 0 0) (gI_sI_same _ _ _ _) (Fr.put (Or.inl rfl) _ _))
  · rw [if_pos e, b2_t e]
    refine ⟨fun z => absurd z (by decide), fun _ => ?_⟩
    exact k2 _ e ((H.own 0 0).own 0 1) (gI_sI_same _ _ _ _) ((Fr.put (Or.inl rfl) _ _).trans (Fr.put (Or.inl rfl) _ _))
theorem c_needNumber {v n : Int32} {h : AH} {Q : AH → Prop} {X : String → AH → Prop} (k1 : 0 ≤ v → v < n → Q h) (k2 : ¬ (0 ≤ v ∧ v < n) → X "java/lang/IndexOutOfBoundsException" h) : w_X11_needNumber v n h Q X := by
  refine br_if (fun c => k2 (fun z => Int32.not_lt.mpr z.1 c)) (fun c => br_if (fun c2 => k1 (i_le c) c2) (fun c2 => k2 (fun z => c2 z.2)))
theorem c_needCell {v : Int32} {h : AH} {Q : AH → Prop} {X : String → AH → Prop} (k1 : ∀ n : Nat, v = nI n → n < 256 → Q h) (k2 : ¬ inR v 0 255 → X "java/lang/IndexOutOfBoundsException" h) : w_X11_needCell v h Q X := by
  refine c_needNumber (fun a b => ?_) (fun a => k2 (fun z => a ⟨z.1, ?_⟩))
  · obtain ⟨j, j1, j2⟩ := nI_of (Int32.not_lt.mpr a)
    refine k1 j j2 ?_
    rw [j2] at b
    exact (nI_ltI (b := 256) j1 (by decide)).mp b
  · obtain ⟨j, j1, j2⟩ := inR_nat (n := 255) z (by decide)
    rw [j1]
    exact nI_lt (b := 256) (by omega) (by decide)
theorem c_isWithin {v lo hi : Int32} {h : AH} {Q : Int32 → AH → Prop} (k : Q (b2 (inR v lo hi)) h) : w_X11_isWithin v lo hi h Q := by
  refine br_if (fun c => ?_) (fun c => br_if (fun c2 => ?_) (fun c2 => ?_))
  · rw [b2_f (fun z => Int32.not_lt.mpr z.1 c)] at k
    exact ⟨Or.inl rfl, k⟩
  · rw [b2_f (fun z => Int32.not_lt.mpr z.2 c2)] at k
    exact ⟨Or.inl rfl, k⟩
  · rw [b2_t ⟨i_le c, i_le c2⟩] at k
    exact ⟨Or.inr rfl, k⟩
theorem c_isYear {v : Int32} {h : AH} {Q : Int32 → AH → Prop} (k : Q (b2 (inR v 1800 1999)) h) : w_X11_isYear v h Q := c_isWithin ⟨b2_or, k⟩
theorem c_need {c : Prop} [Decidable c] {h : AH} {Q : AH → Prop} {X : String → AH → Prop} (k1 : c → Q h) (k2 : ¬ c → X "java/lang/IllegalArgumentException" h) : w_X11_need (b2 c) h Q X :=
  br_if (fun z => k2 (b2_0.mp z)) (fun z => k1 (Decidable.byContradiction fun y => z (b2_0.mpr y)))
theorem c_needRoom {v n : Int32} {h : AH} {Q : AH → Prop} {X : String → AH → Prop} (k1 : v < n → Q h) (k2 : ¬ v < n → X "java/lang/UnsupportedOperationException" h) : w_X11_needRoom v n h Q X := br_if k1 k2
theorem c_needQuestion {v n : Int32} {h : AH} {Q : AH → Prop} {X : String → AH → Prop} (k1 : inR v 0 n → Q h) (k2 : ¬ inR v 0 n → X "java/util/NoSuchElementException" h) : w_X11_needQuestion v n h Q X :=
  br_if (fun c => k2 (fun z => Int32.not_lt.mpr z.1 c)) (fun c => br_if (fun c2 => k1 ⟨i_le c, c2⟩) (fun c2 => k2 (fun z => c2 z.2)))
theorem RpM.put {a : Nat} {r : Nat → Nat} {wd : Nat → Int32} {h : AH} (H : RpM a r wd h) (n : Nat) (v : Int32) : RpM a r (va_up wd n v) (sI h (r 1) n v) := by
  refine ⟨H.1, fun k hk => ?_⟩
  by_cases e : k = n
  · subst e
    rw [gI_sI_same]
    simp [va_up]
  · rw [gI_sI_ne h v (Or.inr e), H.2 k hk]
    simp [va_up, e]
theorem m_st {a : Nat} {r : Nat → Nat} {wd : Nat → Int32} {h : AH} (H : RpM a r wd h) {i : Int32} {n : Nat} (hi : i = nI n) (hn : n < 9476) {v : Int32} {K : AH → Prop} (k : K (sI h (r 1) n v)) : tI h (r 1) i v K := by
  obtain ⟨h1, h2, h3⟩ := H.1.row (k := 1) (j := 0) (n := 9476) (by decide)
  refine ⟨h2, ?_, ?_⟩
  · rw [hi, h3]
    exact vp_in_nI hn (by omega)
  · rw [hi, nI_clamp (by omega)]
    exact k
