/-! the table of rows: objects by the number of their class, rows of class c and field k at 100 * (c + 1) + k; the kept state 5000 on -/
def arT : List (List (Nat × Nat)) := [[(0, 0), (20, 9)], [(0, 0), (20, 120), (20, 120), (20, 120), (20, 120), (20, 120), (20, 120)], [(0, 0), (20, 8), (20, 8), (20, 8), (20, 8)], [(20, 256)], [(0, 0), (20, 8), (20, 8), (20, 8), (20, 8), (20, 8), (20, 8)], [], [(20, 400), (0, 0), (0, 0), (20, 401), (20, 401), (0, 0), (0, 0), (0, 0), (20, 401)], [(0, 0), (0, 0), (0, 0), (0, 0), (0, 0), (24, 4), (0, 0), (24, 5), (20, 5)], [(0, 0), (20, 120), (20, 120), (20, 16), (20, 256), (20, 8), (0, 0), (20, 256), (20, 8)], [(0, 0), (20, 8), (20, 8), (20, 8), (20, 8), (0, 0), (20, 20), (20, 20), (20, 20)], [(0, 0), (20, 8), (20, 8), (20, 8), (20, 64), (20, 2048), (20, 256), (20, 256)], [], [(0, 0), (20, 9476), (20, 8645), (0, 0), (21, 400), (0, 0), (0, 0), (0, 0), (0, 0), (0, 0), (0, 0), (20, 5), (0, 0), (0, 0), (20, 7), (0, 0), (0, 0), (0, 0), (20, 400), (20, 8), (0, 0), (20, 2048), (20, 256), (20, 16), (0, 0), (20, 8), (0, 0), (22, 256)]]
def ptT : List (List (Option Nat)) := [[some 7, some 101], [none, some 201, some 202, some 203, some 204, some 205, some 206], [none, some 301, some 302, some 303, some 304], [some 400], [none, some 501, some 502, some 503, some 504, some 505, some 506], [], [some 700, none, none, some 703, some 704, none, none, none, some 708], [some 3, some 2, some 4, some 1, some 9, some 805, none, some 807, some 808], [some 7, some 901, some 902, some 903, some 904, some 905, none, some 907, some 908], [none, some 1001, some 1002, some 1003, some 1004, none, some 1006, some 1007, some 1008], [none, some 1101, some 1102, some 1103, some 1104, some 1105, some 1106, some 1107], [some 6, some 7, some 0, some 8], [none, some 1301, some 1302, none, some 1304, none, none, none, none, none, none, some 1311, none, none, some 1314, none, none, none, some 1318, some 1319, none, some 1321, some 1322, some 1323, none, some 1325, none, some 1327]]
def obT : List Nat := [1, 2, 3, 4, 5, 0, 7, 8, 9, 10, 11, 12, 13]
def tk0 (id : Nat) : Nat × Nat := if id < 100 then (obT.getD id 0, 0) else (arT.getD (id / 100 - 1) []).getD (id % 100) (0, 0)
def clO (id : Nat) : Nat := if id < 100 then id else id / 100 - 1
def inSt (c : Nat) : Bool := [1, 2, 3, 4, 7, 9].contains c
/-- kind and length of a row -/
def tk (id : Nat) : Nat × Nat := if id < 5000 then tk0 id else if id < 10000 ∧ inSt (clO (id - 5000)) = true then tk0 (id - 5000) else (0, 0)
/-- 0: always there; 1: the ways; 2: the kept state -/
def sg (id : Nat) : Nat := if id < 5000 then (if clO id = 10 then 1 else 0) else 2
def pt (o k : Nat) : Option Nat := if o < 5000 then (ptT.getD o []).getD k none else ((ptT.getD (o - 5000) []).getD k none).map (fun t => t + 5000)
def lv (S : Nat → Prop) (id : Nat) : Prop := (tk id).1 ≠ 0 ∧ S (sg id)
/-- the shape: A says where each row lies -/
def Sh (A : Nat → Nat) (S : Nat → Prop) (h0 : AH) : Prop := S 0 ∧ (∀ id, lv S id → gK h0 (A id) = (tk id).1 ∧ (20 ≤ (tk id).1 → gL h0 (A id) = (tk id).2)) ∧ (∀ o k t, lv S o → pt o k = some t → gP h0 (A o) k = some (A t)) ∧ ∀ i j, lv S i → lv S j → A i = A j → i = j
/-- h is h0 with the rows' ints as X has them -/
def G (A : Nat → Nat) (S : Nat → Prop) (h0 : AH) (X : Nat → Nat → Int32) (h : AH) : Prop := Sh A S h0 ∧ gK h = gK h0 ∧ gL h = gL h0 ∧ gP h = gP h0 ∧ h.2.2.2.2 = h0.2.2.2.2 ∧ (∀ id, lv S id → gI h (A id) = X id) ∧ ∀ b, (∀ id, lv S id → b ≠ A id) → gI h b = gI h0 b
def up (X : Nat → Nat → Int32) (id n : Nat) (v : Int32) : Nat → Nat → Int32 := va_up X id (va_up (X id) n v)
theorem up_same (X : Nat → Nat → Int32) (id n : Nat) (v : Int32) : up X id n v id n = v := by simp [up, va_up]
theorem up_row (X : Nat → Nat → Int32) {id j : Nat} (n : Nat) (v : Int32) (hn : j ≠ id) : up X id n v j = X j := by simp [up, va_up, hn]
theorem up_n (X : Nat → Nat → Int32) (id : Nat) {n m : Nat} (v : Int32) (hn : m ≠ n) : up X id n v id m = X id m := by simp [up, va_up, hn]
section GROWS
variable {A : Nat → Nat} {S : Nat → Prop} {h0 h : AH} {X : Nat → Nat → Int32}
theorem G.b (H : G A S h0 X h) : S 0 := H.1.1
theorem G.put (H : G A S h0 X h) {id : Nat} (hl : lv S id) (n : Nat) (v : Int32) : G A S h0 (up X id n v) (sI h (A id) n v) := by
  obtain ⟨h1, h2, h3, h4, h5, h6, h7⟩ := H
  refine ⟨h1, h2, h3, h4, h5, fun j hj => ?_, fun b hb => ?_⟩
  · funext m
    by_cases e : j = id
    · subst e
      by_cases e2 : m = n
      · subst e2
        rw [gI_sI_same, up_same]
      · rw [gI_sI_ne h v (Or.inr e2), up_n X j v e2, h6 j hj]
    · have e3 : A j ≠ A id := fun z => e (h1.2.2.2 j id hj hl z)
      rw [gI_sI_ne h v (Or.inl e3), up_row X n v e, h6 j hj]
  · rw [← h7 b hb]
    funext m
    exact gI_sI_ne h v (Or.inl (hb id hl))
theorem tk_lv {o a b : Nat} (hs : S (sg o)) (ht : tk o = (a + 1, b)) : lv S o := ⟨by rw [ht]; exact Nat.succ_ne_zero a, hs⟩
theorem G.kd (H : G A S h0 X h) {o a b : Nat} (hs : S (sg o)) (ht : tk o = (a + 1, b)) : gK h (A o) = a + 1 := by
  rw [H.2.1, (H.1.2.1 o (tk_lv hs ht)).1, ht]
theorem G.ln (H : G A S h0 X h) {o a b : Nat} (hs : S (sg o)) (ht : tk o = (a + 20, b)) : gL h (A o) = b := by
  rw [H.2.2.1, (H.1.2.1 o (tk_lv (a := a + 19) hs ht)).2 (by rw [ht]; exact Nat.le_add_left 20 a), ht]
/-- a pointer of the table -/
theorem fP (H : G A S h0 X h) {o ci k t : Nat} (hs : S (sg o)) (ht : tk o = (ci + 1, 0)) (hp : pt o k = some t) {K : Nat → Prop} (kk : K (A t)) : fN h (A o) ci k K :=
  ⟨H.kd hs ht, A t, by rw [H.2.2.2.1]; exact H.1.2.2.1 o k t (tk_lv hs ht) hp, kk⟩
theorem vG (H : G A S h0 X h) {o ci : Nat} (hs : S (sg o)) (ht : tk o = (ci + 1, 0)) {K : Prop} (kk : K) : vr h (A o) ci K := ⟨H.kd hs ht, kk⟩
theorem fG (H : G A S h0 X h) {o ci k : Nat} (hs : S (sg o)) (ht : tk o = (ci + 1, 0)) {K : Int32 → Prop} (kk : K (X o k)) : fI h (A o) ci k K :=
  ⟨H.kd hs ht, by rw [H.2.2.2.2.2.1 o (tk_lv hs ht)]; exact kk⟩
theorem uG (H : G A S h0 X h) {o ci k : Nat} {v : Int32} (hs : S (sg o)) (ht : tk o = (ci + 1, 0)) {K : AH → Prop} (kk : ∀ h', G A S h0 (up X o k v) h' → K h') : uI h (A o) ci k v K :=
  ⟨H.kd hs ht, kk _ (H.put (tk_lv hs ht) k v)⟩
theorem uZG (H : G A S h0 X h) {o ci k : Nat} {v : Int32} (hs : S (sg o)) (ht : tk o = (ci + 1, 0)) (hv : v = 0 ∨ v = 1) {K : AH → Prop} (kk : ∀ h', G A S h0 (up X o k v) h' → K h') : uZ h (A o) ci k v K :=
  ⟨H.kd hs ht, hv, kk _ (H.put (tk_lv hs ht) k v)⟩
theorem G.at (H : G A S h0 X h) {id a b : Nat} (hs : S (sg id)) (ht : tk id = (a + 1, b)) (n : Nat) : gI h (A id) n = X id n := by rw [H.2.2.2.2.2.1 id (tk_lv hs ht)]
theorem aG (H : G A S h0 X h) {id len n : Nat} {i : Int32} (hs : S (sg id)) (ht : tk id = (20, len)) (hl : len < 2 ^ 31) (hi : i = nI n) (hn : n < len) {K : Int32 → Prop} (kk : K (X id n)) : aI h (A id) i K := by
  subst hi
  refine ⟨H.kd (a := 19) hs ht, ?_, ?_⟩
  · rw [H.ln (a := 0) hs ht]
    exact vp_in_nI hn hl
  · rw [nI_clamp (by omega), H.at (a := 19) hs ht]
    exact kk
theorem tG (H : G A S h0 X h) {id len n : Nat} {i v : Int32} (hs : S (sg id)) (ht : tk id = (20, len)) (hl : len < 2 ^ 31) (hi : i = nI n) (hn : n < len) {K : AH → Prop} (kk : ∀ h', G A S h0 (up X id n (v)) h' → K h') : tI h (A id) i v K := by
  subst hi
  refine ⟨H.kd (a := 19) hs ht, ?_, ?_⟩
  · rw [H.ln (a := 0) hs ht]
    exact vp_in_nI hn hl
  · rw [nI_clamp (by omega)]
    exact kk _ (H.put (tk_lv (a := 19) hs ht) n _)
theorem aBG (H : G A S h0 X h) {id len n : Nat} {i : Int32} (hs : S (sg id)) (ht : tk id = (21, len)) (hl : len < 2 ^ 31) (hi : i = nI n) (hn : n < len) {K : Int32 → Prop} (kk : K (X id n)) : aB h (A id) i K := by
  subst hi
  refine ⟨H.kd (a := 20) hs ht, ?_, ?_⟩
  · rw [H.ln (a := 1) hs ht]
    exact vp_in_nI hn hl
  · rw [nI_clamp (by omega), H.at (a := 20) hs ht]
    exact kk
theorem tBG (H : G A S h0 X h) {id len n : Nat} {i v : Int32} (hs : S (sg id)) (ht : tk id = (21, len)) (hl : len < 2 ^ 31) (hi : i = nI n) (hn : n < len) {K : AH → Prop} (kk : ∀ h', G A S h0 (up X id n (v.toInt8.toInt32)) h' → K h') : tB h (A id) i v K := by
  subst hi
  refine ⟨H.kd (a := 20) hs ht, ?_, ?_⟩
  · rw [H.ln (a := 1) hs ht]
    exact vp_in_nI hn hl
  · rw [nI_clamp (by omega)]
    exact kk _ (H.put (tk_lv (a := 20) hs ht) n _)
theorem aZG (H : G A S h0 X h) {id len n : Nat} {i : Int32} (hs : S (sg id)) (ht : tk id = (22, len)) (hl : len < 2 ^ 31) (hi : i = nI n) (hn : n < len) {K : Int32 → Prop} (kk : K (X id n)) : aZ h (A id) i K := by
  subst hi
  refine ⟨H.kd (a := 21) hs ht, ?_, ?_⟩
  · rw [H.ln (a := 2) hs ht]
    exact vp_in_nI hn hl
  · rw [nI_clamp (by omega), H.at (a := 21) hs ht]
    exact kk
theorem tZG (H : G A S h0 X h) {id len n : Nat} {i v : Int32} (hs : S (sg id)) (ht : tk id = (22, len)) (hl : len < 2 ^ 31) (hi : i = nI n) (hn : n < len) (hv : v = 0 ∨ v = 1) {K : AH → Prop} (kk : ∀ h', G A S h0 (up X id n (v)) h' → K h') : tZ h (A id) i v K := by
  subst hi
  refine ⟨H.kd (a := 21) hs ht, ?_, hv, ?_⟩
  · rw [H.ln (a := 2) hs ht]
    exact vp_in_nI hn hl
  · rw [nI_clamp (by omega)]
    exact kk _ (H.put (tk_lv (a := 21) hs ht) n _)
end GROWS
/-- the rows of the class's state in the world: row, length, first place, step; its own ints: object, field, place -/
def cbL : List (Nat × Nat × Nat × Nat) := [(400, 256, 13, 1), (301, 8, 269, 4), (302, 8, 270, 4), (303, 8, 271, 4), (304, 8, 272, 4), (501, 8, 301, 6), (503, 8, 302, 6), (504, 8, 303, 6), (506, 8, 304, 6), (502, 8, 305, 6), (505, 8, 306, 6), (201, 120, 349, 6), (202, 120, 350, 6), (203, 120, 351, 6), (204, 120, 352, 6), (205, 120, 353, 6), (206, 120, 354, 6), (1001, 8, 1069, 4), (1002, 8, 1070, 4), (1003, 8, 1071, 4), (1004, 8, 1072, 4), (1006, 20, 1101, 3), (1007, 20, 1102, 3), (1008, 20, 1103, 3), (808, 5, 1161, 1)]
def csL : List (Nat × Nat × Nat) := [(2, 0, 0), (4, 0, 1), (7, 6, 2), (1, 0, 3), (9, 0, 4), (9, 5, 5), (7, 9, 6), (7, 12, 7), (7, 10, 8), (7, 11, 9), (1, 7, 10), (1, 8, 11), (1, 9, 12)]
def cb (id : Nat) : Option (Nat × Nat × Nat) := (cbL.find? (fun e => e.1 == id)).map (fun e => e.2)
def cs (c k : Nat) : Option Nat := (csL.find? (fun e => e.1 == c && e.2.1 == k)).map (fun e => e.2.2)
theorem cb_mem {id : Nat} {e : Nat × Nat × Nat} (h : cb id = some e) : (id, e) ∈ cbL := by
  unfold cb at h
  obtain ⟨q, h1, h2⟩ := Option.map_eq_some_iff.mp h
  have h3 := List.mem_of_find?_eq_some h1
  have h4 := List.find?_some h1
  have h5 : q.1 = id := by simpa using h4
  subst h5
  subst h2
  exact h3
theorem cs_mem {c k w : Nat} (h : cs c k = some w) : (c, k, w) ∈ csL := by
  unfold cs at h
  obtain ⟨q, h1, h2⟩ := Option.map_eq_some_iff.mp h
  have h3 := List.mem_of_find?_eq_some h1
  have h4 := List.find?_some h1
  have h5 : q.1 = c ∧ q.2.1 = k := by simpa using h4
  obtain ⟨rfl, rfl⟩ := h5
  subst h2
  exact h3
/-- whose place in the world -/
def inv (w : Nat) : Nat × Nat :=
  if w < 13 then (csL.find? (fun e => e.2.2 == w)).elim (0, 0) (fun e => (e.1, e.2.1))
  else if w < 269 then (400, w - 13)
  else if w < 301 then (301 + (w - 269) % 4, (w - 269) / 4)
  else if w < 349 then ([501, 503, 504, 506, 502, 505].getD ((w - 301) % 6) 0, (w - 301) / 6)
  else if w < 1069 then (201 + (w - 349) % 6, (w - 349) / 6)
  else if w < 1101 then (1001 + (w - 1069) % 4, (w - 1069) / 4)
  else if w < 1161 then (1006 + (w - 1101) % 3, (w - 1101) / 3)
  else (808, w - 1161)
theorem inv_b : ∀ e ∈ cbL, ∀ n, n < e.2.1 → inv (e.2.2.1 + e.2.2.2 * n) = (e.1, n) := by decide +kernel
theorem inv_s : ∀ e ∈ csL, inv e.2.2 = (e.1, e.2.1) := by decide +kernel
theorem cb_lt : ∀ e ∈ cbL, ∀ n, n < e.2.1 → e.2.2.1 + e.2.2.2 * n < 1166 := by decide +kernel
/-- the class's rows in X are those of the world wd -/
def CR (X : Nat → Nat → Int32) (wd : Nat → Int32) : Prop := (∀ e ∈ cbL, ∀ n, n < e.2.1 → X e.1 n = wd (e.2.2.1 + e.2.2.2 * n)) ∧ ∀ e ∈ csL, X e.1 e.2.1 = wd e.2.2
theorem CR.put {X : Nat → Nat → Int32} {wd : Nat → Int32} (R : CR X wd) {id n w : Nat} (v : Int32) (hi : inv w = (id, n)) (hw : (∃ e ∈ cbL, e.1 = id ∧ n < e.2.1 ∧ w = e.2.2.1 + e.2.2.2 * n) ∨ (id, n, w) ∈ csL) (h1 : ∀ e ∈ cbL, n < e.2.1 → e.1 = id → w = e.2.2.1 + e.2.2.2 * n) (h2 : ∀ e ∈ csL, e.1 = id → e.2.1 = n → e.2.2 = w) : CR (up X id n v) (va_up wd w v) := by
  refine ⟨fun e he m hm => ?_, fun e he => ?_⟩
  · have h3 := inv_b e he m hm
    by_cases c : e.2.2.1 + e.2.2.2 * m = w
    · rw [c, hi] at h3
      have h4 : id = e.1 := congrArg Prod.fst h3
      have h5 : n = m := congrArg Prod.snd h3
      rw [c, va_up_self, ← h4, ← h5, up_same]
    · rw [va_up_ne _ _ c]
      rw [← R.1 e he m hm]
      by_cases d : e.1 = id
      · have d2 : m ≠ n := by
          intro z
          subst z
          exact c (h1 e he hm d).symm
        rw [d, up_n _ _ _ d2]
      · rw [up_row _ _ _ d]
  · have h3 := inv_s e he
    by_cases c : e.2.2 = w
    · rw [c, hi] at h3
      have h4 : id = e.1 := congrArg Prod.fst h3
      have h5 : n = e.2.1 := congrArg Prod.snd h3
      rw [c, va_up_self, ← h4, ← h5, up_same]
    · rw [va_up_ne _ _ c]
      rw [← R.2 e he]
      by_cases d : e.1 = id
      · have d2 : e.2.1 ≠ n := fun z => c (h2 e he d z)
        rw [d, up_n _ _ _ d2]
      · rw [up_row _ _ _ d]
theorem cb_one : ∀ e ∈ cbL, ∀ e' ∈ cbL, e.1 = e'.1 → e = e' := by decide +kernel
theorem cs_one : ∀ e ∈ csL, ∀ e' ∈ csL, e.1 = e'.1 → e.2.1 = e'.2.1 → e = e' := by decide +kernel
theorem cb_cs : ∀ e ∈ cbL, ∀ e' ∈ csL, e.1 ≠ e'.1 := by decide +kernel
theorem CR.putA {X : Nat → Nat → Int32} {wd : Nat → Int32} (R : CR X wd) {id len b s n : Nat} (hc : cb id = some (len, b, s)) (hn : n < len) (v : Int32) : CR (up X id n v) (va_up wd (b + s * n) v) := by
  have hm := cb_mem hc
  refine R.put v (inv_b _ hm n hn) (Or.inl ⟨_, hm, rfl, hn, rfl⟩) (fun e he h1 h2 => ?_) (fun e he h1 h2 => ?_)
  · have := cb_one _ he _ hm h2
    rw [this]
  · exact absurd h1.symm (cb_cs _ hm _ he)
theorem CR.putS {X : Nat → Nat → Int32} {wd : Nat → Int32} (R : CR X wd) {c k w : Nat} (hc : cs c k = some w) (v : Int32) : CR (up X c k v) (va_up wd w v) := by
  have hm := cs_mem hc
  refine R.put v (inv_s _ hm) (Or.inr hm) (fun e he h1 h2 => ?_) (fun e he h1 h2 => ?_)
  · exact absurd h2 (cb_cs _ he _ hm)
  · have := cs_one _ he _ hm h1 h2
    rw [this]
theorem CR.row {X : Nat → Nat → Int32} {wd : Nat → Int32} (R : CR X wd) {id len b s n : Nat} (hc : cb id = some (len, b, s)) (hn : n < len) : X id n = wd (b + s * n) := R.1 _ (cb_mem hc) n hn
theorem CR.own {X : Nat → Nat → Int32} {wd : Nat → Int32} (R : CR X wd) {c k w : Nat} (hc : cs c k = some w) : X c k = wd w := R.2 _ (cs_mem hc)
/-- the rows of the state -/
def stR (id : Nat) : Bool := (cbL.any fun e => e.1 == id) || (csL.any fun e => e.1 == id)
theorem CR.off {X X' : Nat → Nat → Int32} {wd : Nat → Int32} (R : CR X wd) (hX : ∀ id n, stR id = true → X' id n = X id n) : CR X' wd := by
  refine ⟨fun e he n hn => ?_, fun e he => ?_⟩
  · rw [hX e.1 n (by unfold stR; rw [Bool.or_eq_true]; exact Or.inl (List.any_eq_true.mpr ⟨e, he, by simp⟩))]
    exact R.1 e he n hn
  · rw [hX e.1 e.2.1 (by unfold stR; rw [Bool.or_eq_true]; exact Or.inr (List.any_eq_true.mpr ⟨e, he, by simp⟩))]
    exact R.2 e he
section CROWS
variable {A : Nat → Nat} {S : Nat → Prop} {h0 h : AH} {X : Nat → Nat → Int32} {wd : Nat → Int32}
theorem aC (H : G A S h0 X h) (R : CR X wd) {id len n b s : Nat} {i : Int32} (hs : S (sg id)) (ht : tk id = (20, len)) (hl : len < 2 ^ 31) (hc : cb id = some (len, b, s)) (hi : i = nI n) (hn : n < len) {K : Int32 → Prop} (kk : K (wd (b + s * n))) : aI h (A id) i K :=
  aG H hs ht hl hi hn (by rw [R.row hc hn]; exact kk)
theorem fC_ (H : G A S h0 X h) (R : CR X wd) {o ci k w : Nat} (hs : S (sg o)) (ht : tk o = (ci + 1, 0)) (hc : cs o k = some w) {K : Int32 → Prop} (kk : K (wd w)) : fI h (A o) ci k K :=
  fG H hs ht (by rw [R.own hc]; exact kk)
theorem tC (H : G A S h0 X h) (R : CR X wd) {id len n b s : Nat} {i v : Int32} (hs : S (sg id)) (ht : tk id = (20, len)) (hl : len < 2 ^ 31) (hc : cb id = some (len, b, s)) (hi : i = nI n) (hn : n < len) {K : AH → Prop} (kk : ∀ h', G A S h0 (up X id n v) h' → CR (up X id n v) (va_up wd (b + s * n) v) → K h') : tI h (A id) i v K :=
  tG H hs ht hl hi hn (fun h' H' => kk h' H' (R.putA hc hn v))
theorem uC (H : G A S h0 X h) (R : CR X wd) {o ci k w : Nat} {v : Int32} (hs : S (sg o)) (ht : tk o = (ci + 1, 0)) (hc : cs o k = some w) {K : AH → Prop} (kk : ∀ h', G A S h0 (up X o k v) h' → CR (up X o k v) (va_up wd w v) → K h') : uI h (A o) ci k v K :=
  uG H hs ht (fun h' H' => kk h' H' (R.putS hc v))
end CROWS
