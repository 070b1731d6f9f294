/-! State.become: rows from one place of the table to another -/
def BG (h h' : AH) : Prop := (∀ b, gK h b ≠ 0 → gK h' b = gK h b ∧ gL h' b = gL h b ∧ (gK h b ≠ 24 → gP h' b = gP h b)) ∧ gS h' = gS h ∧ gV h' = gV h
theorem BG.rf (h : AH) : BG h h := ⟨fun _ _ => ⟨rfl, rfl, fun _ => rfl⟩, rfl, rfl⟩
theorem BG.tr {h h' h'' : AH} (a : BG h h') (b : BG h' h'') : BG h h'' := by
  refine ⟨fun x hx => ?_, b.2.1.trans a.2.1, b.2.2.trans a.2.2⟩
  obtain ⟨q1, q2, q3⟩ := a.1 x hx
  obtain ⟨r1, r2, r3⟩ := b.1 x (by rw [q1]; exact hx)
  exact ⟨r1.trans q1, r2.trans q2, fun z => (r3 (by rw [q1]; exact z)).trans (q3 z)⟩
theorem BG.j3 {h h' : AH} {a3 : Nat} (b : BG h h') (J : J3 h a3) : J3 h' a3 := by
  obtain ⟨q1, q2, -⟩ := b.1 a3 (by rw [J.1]; decide)
  exact ⟨q1.trans J.1, q2.trans J.2⟩
theorem BG.hj {h h' : AH} (j : hJ h h') : BG h h' := ⟨fun b _ => ⟨congrFun j.1 b, congrFun j.2.1 b, fun _ => congrFun j.2.2.2.1 b⟩, congrArg Prod.fst j.2.2.2.2, congrArg Prod.snd j.2.2.2.2⟩
theorem BG.bz {h h' : AH} (j : BZ h h') : BG h h' := ⟨fun b _ => ⟨congrFun j.1 b, congrFun j.2.1 b, fun _ => congrFun j.2.2.1 b⟩, congrArg Prod.fst j.2.2.2, congrArg Prod.snd j.2.2.2⟩
theorem BG.bf {h h' : AH} {r : Nat} (b : BF r h h') (hr : gK h r = 24) : BG h h' := ⟨fun x hx => ⟨(b.1 x hx).1, (b.1 x hx).2.1, fun z => (b.1 x hx).2.2 (fun y => z (by rw [y]; exact hr))⟩, b.2⟩
def cpF {α : Type} (d s : Nat) (f : Nat → α) (j : Nat) : Nat → α := fun i => if d ≤ i ∧ i < d + j then f (i - d + s) else f i
theorem cpF_0 {α : Type} {d s : Nat} {f : Nat → α} : cpF d s f 0 = f := by
  funext i
  unfold cpF
  rw [if_neg (by omega)]
theorem cpF_S {α : Type} {d s : Nat} {f : Nat → α} {j : Nat} (h : s + j < d ∨ d + j ≤ s + j) : va_up (cpF d s f j) (d + j) (cpF d s f j (s + j)) = cpF d s f (j + 1) := by
  funext i
  by_cases c : i = d + j
  · rw [c, va_up_self]
    unfold cpF
    rw [if_neg (by omega), if_pos (by omega), Nat.add_sub_cancel_left, Nat.add_comm j s]
  · rw [va_ne c]
    unfold cpF
    by_cases e : d ≤ i ∧ i < d + j
    · rw [if_pos e, if_pos (by omega)]
    · rw [if_neg e, if_neg (by omega)]
def BC (d s : Nat) (D : Nat → Bool) (X0 X : Nat → Nat → Int32) (L : List (Nat × Nat × Nat)) : Prop := (∀ e ∈ L, ∀ n, e.2.1 ≤ n → n < e.2.2 → X (e.1 + d) n = X0 (e.1 + s) n) ∧ ∀ id, D id = false → X id = X0 id
section BECOME
variable {A : Nat → Nat} {S : Nat → Prop} {h0 h : AH} {X X0 : Nat → Nat → Int32} {nr d s : Nat} {D : Nat → Bool} {L : List (Nat × Nat × Nat)} {V : Nat → Prop} {E : Nat → List Nat} {ps ss qs : Nat → Nat}
theorem G.row (H : G A S h0 X h) {id : Nat} (hl : lv S id) (f : Nat → Int32) : G A S h0 (va_up X id f) (sR h (A id) f) := by
  obtain ⟨h1, h2, h3, h4, h5, h6, h7⟩ := H
  refine ⟨h1, h2, h3, h4, h5, fun j hj => ?_, fun b hb => ?_⟩
  · show va_up h.2.2.1 (A id) f (A j) = va_up X id f j
    by_cases e : j = id
    · subst e
      rw [va_up_self, va_up_self]
    · rw [va_ne (fun z => e (h1.2.2.2 j id hj hl z)), va_ne e]
      exact h6 j hj
  · rw [← h7 b hb]
    exact va_ne (hb id hl)
theorem BC.put (B : BC d s D X0 X L) {r n : Nat} (hd : D (r + d) = true) (hs : D (r + s) = false) : BC d s D X0 (up X (r + d) n (X (r + s) n)) ((r, n, n + 1) :: L) := by
  refine ⟨fun e he m h1 h2 => ?_, fun id hi => ?_⟩
  · by_cases c : e.1 = r
    · rw [c]
      by_cases c2 : m = n
      · rw [c2, up_same, B.2 _ hs]
      · rw [up_n _ _ _ c2]
        rcases List.mem_cons.mp he with rfl | he
        · exact absurd (Nat.le_antisymm (Nat.le_of_lt_succ h2) h1) c2
        · have := B.1 e he m h1 h2
          rw [c] at this
          exact this
    · rw [up_row _ _ _ (by omega)]
      rcases List.mem_cons.mp he with rfl | he
      · exact absurd rfl c
      · exact B.1 e he m h1 h2
  · rw [up_row _ _ _ (fun z => by rw [z, hd] at hi; cases hi)]
    exact B.2 id hi
theorem BC.row (B : BC d s D X0 X L) {r len : Nat} (hd : D (r + d) = true) (hs : D (r + s) = false) : BC d s D X0 (va_up X (r + d) (va_cpy (X (r + s)) (X (r + d)) 0 0 len)) ((r, 0, len) :: L) := by
  refine ⟨fun e he m h1 h2 => ?_, fun id hi => ?_⟩
  · by_cases c : e.1 = r
    · rw [c, va_up_self]
      by_cases c2 : m < len
      · rw [sb_cpy0 c2, B.2 _ hs]
      · rw [pk_cpy_out (Or.inr (by omega))]
        rcases List.mem_cons.mp he with rfl | he
        · exact absurd h2 c2
        · have := B.1 e he m h1 h2
          rw [c] at this
          exact this
    · rw [va_ne (by omega)]
      rcases List.mem_cons.mp he with rfl | he
      · exact absurd rfl c
      · exact B.1 e he m h1 h2
  · rw [va_ne (fun z => by rw [z, hd] at hi; cases hi)]
    exact B.2 id hi
theorem BC.join {r j : Nat} (B : BC d s D X0 X ((r, j, j + 1) :: (r, 0, j) :: L)) : BC d s D X0 X ((r, 0, j + 1) :: L) := by
  refine ⟨fun e he m h1 h2 => ?_, B.2⟩
  rcases List.mem_cons.mp he with rfl | he
  · dsimp only at h1 h2 ⊢
    by_cases c : m = j
    · exact B.1 (r, j, j + 1) List.mem_cons_self m (Nat.le_of_eq c.symm) (Nat.lt_succ_of_le (Nat.le_of_eq c))
    · exact B.1 (r, 0, j) (List.mem_cons_of_mem _ List.mem_cons_self) m h1 (Nat.lt_of_le_of_ne (Nat.le_of_lt_succ h2) c)
  · exact B.1 e (List.mem_cons_of_mem _ (List.mem_cons_of_mem _ he)) m h1 h2
theorem BC.nil : BC d s D X X [] := ⟨fun e he => (by cases he), fun _ _ => rfl⟩
theorem BC.none (B : BC d s D X0 X L) (r : Nat) : BC d s D X0 X ((r, 0, 0) :: L) := ⟨fun e he m h1 h2 => by
  rcases List.mem_cons.mp he with rfl | he
  · exact absurd h2 (Nat.not_lt_zero _)
  · exact B.1 e he m h1 h2, B.2⟩
theorem bc_f (H : G A S h0 X h) (B : BC d s D X0 X L) {i j r ci k : Nat} (ei : i = r + s) (ej : j = r + d) (hi : S (sg i)) (hj : S (sg j)) (ti : tk i = (ci + 1, 0)) (tj : tk j = (ci + 1, 0)) (dD : D (r + d) = true) (dS : D (r + s) = false) {K : AH → Prop} (kk : ∀ X' h', G A S h0 X' h' → BC d s D X0 X' ((r, k, k + 1) :: L) → K h') : fI h (A i) ci k fun x => uI h (A j) ci k x K := by
  refine fG H hi ti (uG H hj tj (fun h' H' => kk _ h' H' ?_))
  rw [ei, ej]
  exact B.put dD dS
theorem bc_a (H : G A S h0 X h) (B : BC d s D X0 X L) {i j r k len : Nat} {x : Int32} (hx : x = nI k) (hk : k < len) (hl : len < 2 ^ 31) (ei : i = r + s) (ej : j = r + d) (hi : S (sg i)) (hj : S (sg j)) (ti : tk i = (20, len)) (tj : tk j = (20, len)) (dD : D (r + d) = true) (dS : D (r + s) = false) {K : AH → Prop} (kk : ∀ X' h', G A S h0 X' h' → BC d s D X0 X' ((r, k, k + 1) :: L) → K h') : aI h (A i) x fun y => tI h (A j) x y K := by
  refine aG H hi ti hl hx hk (tG H hj tj hl hx hk (fun h' H' => kk _ h' H' ?_))
  rw [ei, ej]
  exact B.put dD dS
theorem bc_cp (H : G A S h0 X h) (B : BC d s D X0 X L) {i j r len : Nat} (ei : i = r + s) (ej : j = r + d) (hi : S (sg i)) (hj : S (sg j)) (ti : tk i = (20, len)) (tj : tk j = (20, len)) (dD : D (r + d) = true) (dS : D (r + s) = false) {x : Int32} (hl : len < 2 ^ 31) (hx : x = nI len) {K : AH → Prop} (kk : ∀ X' h', G A S h0 X' h' → BC d s D X0 X' ((r, 0, len) :: L) → K h') : cp h (A i) 0 (A j) 0 x K := by
  subst hx
  have z : (0 : Int32).toNatClampNeg = 0 := by decide
  refine ⟨H.kd (a := 19) hi ti, H.kd (a := 19) hj tj, by decide, by decide, nI_nlt (a := len) (b := 0) (Nat.zero_le _) hl, ?_, ?_, ?_⟩
  · rw [z, nI_clamp hl, H.ln (a := 0) hi ti]
    omega
  · rw [z, nI_clamp hl, H.ln (a := 0) hj tj]
    omega
  · rw [z, nI_clamp hl, H.2.2.2.2.2.1 i (tk_lv (a := 19) hi ti), H.2.2.2.2.2.1 j (tk_lv (a := 19) hj tj)]
    refine kk _ _ (H.row (tk_lv (a := 19) hj tj) _) ?_
    rw [ei, ej]
    exact B.row dD dS
theorem PGx.cp1 (P : PGx A S h nr V E ps ss qs) (hnr : nr ≤ 18) (in1 : ∀ i j, lv S i → lv S j → A i = A j → i = j) (hk : ∀ id, lv S id → gK h (A id) = (tk id).1) {u v : Nat} (hu : u < nr) (hv : v < nr) : PGx A S (sP h (A (slO v).1) (slO v).2 (gP h (A (slO u).1) (slO u).2)) nr (va_up V v (V u)) (va_up E v (E u)) (va_up ps v (ps u)) (va_up ss v (ss u)) (va_up qs v (qs u)) := by
  obtain ⟨p1, p2, p3, p4⟩ := P
  have pl : ∀ w, w < nr → ∀ r, gP (sP h (A (slO v).1) (slO v).2 r) (A (slO w).1) (slO w).2 = if w = v then r else gP h (A (slO w).1) (slO w).2 := fun w hw r => by
    by_cases c : w = v
    · rw [if_pos c, c, sP_eq, va_up_self]
    · rw [if_neg c]
      by_cases c2 : (slO w).1 = (slO v).1
      · rw [c2, sP_eq, va_ne (fun z => c (slO_inj (Prod.ext c2 z) (by omega) (by omega)))]
      · rw [sP_ne (fun z => c2 (in1 _ _ (p2 w hw).1 (p2 v hv).1 z))]
  have po : ∀ {b k : Nat} {r : Option Nat}, gK h b = 6 → gP (sP h (A (slO v).1) (slO v).2 r) b k = gP h b k := fun {b k r} hb => by
    rw [sP_ne]
    intro z
    obtain ⟨n, hn, -⟩ := (slO_row v (by omega)).2.1
    have := hk (slO v).1 (p2 v hv).1
    rw [← z, hb, hn] at this
    cases this
  refine ⟨fun w hw => ?_, fun w hw => ⟨(p2 w hw).1, fun b hb => ?_⟩, fun w hw => ?_, fun w x hw hx => ?_⟩
  · by_cases c : w = v
    · rw [c]; exact hv
    · rw [va_ne c] at hw
      exact p1 w hw
  · rw [pl w hw] at hb
    by_cases c : w = v
    · rw [if_pos c] at hb
      exact (p2 u hu).2 b hb
    · rw [if_neg c] at hb
      exact (p2 w hw).2 b hb
  · by_cases c : w = v
    · subst c
      rw [va_up_self] at hw
      rw [va_up_self, va_up_self, va_up_self, va_up_self, pl w hv, if_pos rfl]
      obtain ⟨r1, ⟨o1, o2, o3, o4⟩, r3⟩ := p3 u hw
      exact ⟨r1, ⟨o1, by rw [po o1]; exact o2, by rw [po o1]; exact o3, o4⟩, r3⟩
    · rw [va_ne c] at hw
      rw [va_ne c, va_ne c, va_ne c, va_ne c, pl w (p1 w hw), if_neg c]
      obtain ⟨r1, ⟨o1, o2, o3, o4⟩, r3⟩ := p3 w hw
      exact ⟨r1, ⟨o1, by rw [po o1]; exact o2, by rw [po o1]; exact o3, o4⟩, r3⟩
  · have q : ∀ y, va_up V v (V u) y → ∃ t, V t ∧ va_up ss v (ss u) y = ss t ∧ va_up qs v (qs u) y = qs t := fun y hy => by
      by_cases c : y = v
      · rw [c, va_up_self] at hy
        exact ⟨u, hy, by rw [c, va_up_self], by rw [c, va_up_self]⟩
      · rw [va_ne c] at hy
        exact ⟨y, hy, va_ne c, va_ne c⟩
    obtain ⟨t, t1, t2, -⟩ := q w hw
    obtain ⟨t', t3, -, t4⟩ := q x hx
    rw [t2, t4]
    exact p4 t t' t1 t3
theorem bc_p (H : G A S h0 X h) (P : PGx A S h0 nr V E ps ss qs) (hr : nr ≤ 18) {u v i j m len : Nat} {x : Int32} (hx : x = nI m) (hu : u < nr) (hv : v < nr) (eu : slO u = (i, m)) (ev : slO v = (j, m)) (ti : tk i = (24, len)) (tj : tk j = (24, len)) (hm : m < len) (hl : len < 2 ^ 31) {K : AH → Prop} (kk : ∀ hb h', G A S hb X h' → PGx A S hb nr (va_up V v (V u)) (va_up E v (E u)) (va_up ps v (ps u)) (va_up ss v (ss u)) (va_up qs v (qs u)) → BG h0 hb → K h') : aO h (A i) x fun r => tO h (A j) x r K := by
  subst hx
  have li : lv S i := by have := (P.2.1 u hu).1; rw [eu] at this; exact this
  have lj : lv S j := by have := (P.2.1 v hv).1; rw [ev] at this; exact this
  have ki : gK h (A i) = 24 := H.kd (a := 23) li.2 ti
  have kj : gK h (A j) = 24 := H.kd (a := 23) lj.2 tj
  have ni : gL h (A i) = len := H.ln (a := 4) li.2 ti
  have nj : gL h (A j) = len := H.ln (a := 4) lj.2 tj
  have hp := (slO_row v (by omega)).2.2
  rw [ev] at hp
  have Q := P.cp1 hr H.1.2.2.2 (fun id hd => (H.1.2.1 id hd).1) hu hv
  rw [eu, ev] at Q
  dsimp only at Q
  refine ⟨ki, by rw [ni]; exact vp_in_nI hm hl, kj, by rw [nj]; exact vp_in_nI hm hl, fun b hb => ?_, ?_⟩
  · have z := ((P.g hr H).2.1 u hu).2 b
    rw [eu] at z
    rw [nI_clamp (by omega)] at hb
    exact z hb
  · rw [nI_clamp (by omega)]
    have e : gP h (A i) m = gP h0 (A i) m := by rw [H.2.2.2.1]
    rw [e]
    refine kk _ _ (H.sP lj hp _) Q ⟨fun b hb => ⟨rfl, rfl, fun z => sP_ne (fun y => z ?_)⟩, rfl, rfl⟩
    rw [y, ← H.2.1]
    exact kj
theorem sl_l {j : Nat} (h : j < 4) : slO (0 + j) = (805, j) := by
  rw [Nat.zero_add]
  exact if_pos h
theorem sl_s {j : Nat} (h : j < 5) : slO (0 + (4 + j)) = (807, j) := by
  unfold slO
  rw [if_neg (by omega), if_pos (by omega), show 0 + (4 + j) - 4 = j by omega]
theorem sl_lk {j : Nat} (h : j < 4) : slO (9 + j) = (5805, j) := by
  unfold slO
  rw [if_neg (by omega), if_neg (by omega), if_pos (by omega), show 9 + j - 9 = j by omega]
theorem sl_sk {j : Nat} (h : j < 5) : slO (9 + (4 + j)) = (5807, j) := by
  unfold slO
  rw [if_neg (by omega), if_neg (by omega), if_neg (by omega), show 9 + (4 + j) - 13 = j by omega]
def bcL : List (Nat × Nat × Nat) := [(7, 12, 13), (7, 11, 12), (7, 10, 11), (7, 9, 10), (808, 0, 5), (7, 6, 7), (1008, 0, 20), (1007, 0, 20), (1006, 0, 20), (9, 5, 6), (1004, 0, 8), (1003, 0, 8), (1002, 0, 8), (1001, 0, 8), (9, 0, 1), (1, 9, 10), (1, 8, 9), (1, 7, 8), (206, 0, 120), (205, 0, 120), (204, 0, 120), (203, 0, 120), (202, 0, 120), (201, 0, 120), (1, 0, 1), (506, 0, 8), (505, 0, 8), (504, 0, 8), (503, 0, 8), (502, 0, 8), (501, 0, 8), (4, 0, 1), (304, 0, 8), (303, 0, 8), (302, 0, 8), (301, 0, 8), (2, 0, 1), (400, 0, 256)]
def D5 (id : Nat) : Bool := decide (5000 ≤ id)
theorem c_becK_s {hz : AH} (H : G A S h0 X h) (hS : S 2) (P : PGx A S h0 18 (cpF 9 0 V 4) (cpF 9 0 E 4) (cpF 9 0 ps 4) (cpF 9 0 ss 4) (cpF 9 0 qs 4)) (G0 : BG hz h0) {X0 : Nat → Nat → Int32} (B : BC 5000 0 D5 X0 X ((808, 0, 0) :: L)) {Q : AH → Prop} (kk : ∀ hb X' h', G A S hb X' h' → PGx A S hb 18 (cpF 9 0 V 9) (cpF 9 0 E 9) (cpF 9 0 ps 9) (cpF 9 0 ss 9) (cpF 9 0 qs 9) → BG hz hb → BC 5000 0 D5 X0 X' ((7, 12, 13) :: (7, 11, 12) :: (7, 10, 11) :: (7, 9, 10) :: (808, 0, 5) :: L) → Q h') : lp (fun (k2 : Int32 × AH → Prop) (s2 : Int32 × AH) => w_X7_become_90 (fun h => w_X7_become_125 (A 5007) (A 7) h Q) (fun (y2 : Int32) h => k2 (y2, h)) (A 5007) (A 7) s2.1 s2.2 Q) ((0 : Int32), h) := by
  refine lp_inv 5 (fun j (s : Int32 × AH) => s.1 = nI j ∧ ∃ hb X', G A S hb X' s.2 ∧ PGx A S hb 18 (cpF 9 0 V (4 + j)) (cpF 9 0 E (4 + j)) (cpF 9 0 ps (4 + j)) (cpF 9 0 ss (4 + j)) (cpF 9 0 qs (4 + j)) ∧ BG hz hb ∧ BC 5000 0 D5 X0 X' ((808, 0, j) :: L)) (fun j s kk1 hj hI kk2 => ?_) (fun s kk1 hI => ?_) (Nat.zero_le _) ⟨rfl, h0, X, H, P, G0, B⟩
  · obtain ⟨v, h1⟩ := s
    obtain ⟨e1, hb, X1, HH, PP, G1, B1⟩ := hI
    dsimp only at e1 HH ⊢
    subst e1
    dsimp only [w_X7_become_90]
    refine br_go (a := 5) hj (by decide) ?_
    refine fP (o := 5007) HH hS rfl rfl ?_
    refine fP (o := 7) HH HH.b rfl rfl ?_
    refine bc_p (u := 0 + (4 + j)) (v := 9 + (4 + j)) (m := j) HH PP (by decide) rfl (by omega) (by omega) (sl_s hj) (sl_sk hj) rfl rfl hj (by decide) (fun hc h2 H2 P2 G2 => ?_)
    rw [cpF_S (by omega), cpF_S (by omega), cpF_S (by omega), cpF_S (by omega), cpF_S (by omega)] at P2
    refine fP (o := 5007) H2 hS rfl rfl ?_
    refine fP (o := 7) H2 H2.b rfl rfl ?_
    refine bc_a (i := 808) (j := 5808) (r := 808) (len := 5) (k := j) H2 B1 rfl hj (by decide) rfl rfl H2.b hS rfl rfl rfl rfl (fun X3 h3 H3 B3 => ?_)
    exact kk2 _ ⟨(nI_succ j).symm, hc, X3, H3, P2, G1.tr G2, B3.join⟩
  · obtain ⟨v, h1⟩ := s
    obtain ⟨e1, hb, X1, HH, PP, G1, B1⟩ := hI
    dsimp only at e1 HH ⊢
    subst e1
    dsimp only [w_X7_become_90, w_X7_become_125]
    refine br_end (a := 5) ?_
    refine bc_f (i := 7) (j := 5007) (r := 7) HH B1 rfl rfl HH.b hS rfl rfl rfl rfl (fun Y0 g0 K0 C0 => ?_)
    refine bc_f (i := 7) (j := 5007) (r := 7) K0 C0 rfl rfl K0.b hS rfl rfl rfl rfl (fun Y1 g1 K1 C1 => ?_)
    refine bc_f (i := 7) (j := 5007) (r := 7) K1 C1 rfl rfl K1.b hS rfl rfl rfl rfl (fun Y2 g2 K2 C2 => ?_)
    refine bc_f (i := 7) (j := 5007) (r := 7) K2 C2 rfl rfl K2.b hS rfl rfl rfl rfl (fun Y3 g3 K3 C3 => ?_)
    exact kk hb Y3 g3 K3 PP G1 C3
theorem c_becK (H : G A S h0 X h) (hS : S 2) (P : PGx A S h0 18 V E ps ss qs) {Q : AH → Prop} (kk : ∀ hb X' h', G A S hb X' h' → PGx A S hb 18 (cpF 9 0 V 9) (cpF 9 0 E 9) (cpF 9 0 ps 9) (cpF 9 0 ss 9) (cpF 9 0 qs 9) → BG h0 hb → BC 5000 0 D5 X X' bcL → Q h') : w_X7_become (A 5007) (A 7) h Q := by
  dsimp only [w_X7_become, w_X3_become, w_X2_become, w_X4_become, w_X1_become, w_X9_become]
  have B : BC 5000 0 D5 X X [] := BC.nil
  refine fP (o := 5007) H hS rfl rfl ?_
  refine fP (o := 7) H H.b rfl rfl ?_
  refine vG (o := 5003) H hS rfl ?_
  refine fP (o := 3) H H.b rfl rfl ?_
  refine fP (o := 5003) H hS rfl rfl ?_
  refine bc_cp (i := 400) (j := 5400) (r := 400) (len := 256) H B rfl rfl H.b hS rfl rfl rfl rfl (by decide) rfl (fun X1 h1 H1 B1 => ?_)
  refine fP (o := 5007) H1 hS rfl rfl ?_
  refine fP (o := 7) H1 H1.b rfl rfl ?_
  refine vG (o := 5002) H1 hS rfl ?_
  refine bc_f (i := 2) (j := 5002) (r := 2) H1 B1 rfl rfl H1.b hS rfl rfl rfl rfl (fun X2 h2 H2 B2 => ?_)
  refine fP (o := 2) H2 H2.b rfl rfl ?_
  refine fP (o := 5002) H2 hS rfl rfl ?_
  refine bc_cp (i := 301) (j := 5301) (r := 301) (len := 8) H2 B2 rfl rfl H2.b hS rfl rfl rfl rfl (by decide) rfl (fun X3 h3 H3 B3 => ?_)
  refine fP (o := 2) H3 H3.b rfl rfl ?_
  refine fP (o := 5002) H3 hS rfl rfl ?_
  refine bc_cp (i := 302) (j := 5302) (r := 302) (len := 8) H3 B3 rfl rfl H3.b hS rfl rfl rfl rfl (by decide) rfl (fun X4 h4 H4 B4 => ?_)
  refine fP (o := 2) H4 H4.b rfl rfl ?_
  refine fP (o := 5002) H4 hS rfl rfl ?_
  refine bc_cp (i := 303) (j := 5303) (r := 303) (len := 8) H4 B4 rfl rfl H4.b hS rfl rfl rfl rfl (by decide) rfl (fun X5 h5 H5 B5 => ?_)
  refine fP (o := 2) H5 H5.b rfl rfl ?_
  refine fP (o := 5002) H5 hS rfl rfl ?_
  refine bc_cp (i := 304) (j := 5304) (r := 304) (len := 8) H5 B5 rfl rfl H5.b hS rfl rfl rfl rfl (by decide) rfl (fun X6 h6 H6 B6 => ?_)
  refine fP (o := 5007) H6 hS rfl rfl ?_
  refine fP (o := 7) H6 H6.b rfl rfl ?_
  refine vG (o := 5004) H6 hS rfl ?_
  refine bc_f (i := 4) (j := 5004) (r := 4) H6 B6 rfl rfl H6.b hS rfl rfl rfl rfl (fun X7 h7 H7 B7 => ?_)
  refine fP (o := 4) H7 H7.b rfl rfl ?_
  refine fP (o := 5004) H7 hS rfl rfl ?_
  refine bc_cp (i := 501) (j := 5501) (r := 501) (len := 8) H7 B7 rfl rfl H7.b hS rfl rfl rfl rfl (by decide) rfl (fun X8 h8 H8 B8 => ?_)
  refine fP (o := 4) H8 H8.b rfl rfl ?_
  refine fP (o := 5004) H8 hS rfl rfl ?_
  refine bc_cp (i := 502) (j := 5502) (r := 502) (len := 8) H8 B8 rfl rfl H8.b hS rfl rfl rfl rfl (by decide) rfl (fun X9 h9 H9 B9 => ?_)
  refine fP (o := 4) H9 H9.b rfl rfl ?_
  refine fP (o := 5004) H9 hS rfl rfl ?_
  refine bc_cp (i := 503) (j := 5503) (r := 503) (len := 8) H9 B9 rfl rfl H9.b hS rfl rfl rfl rfl (by decide) rfl (fun X10 h10 H10 B10 => ?_)
  refine fP (o := 4) H10 H10.b rfl rfl ?_
  refine fP (o := 5004) H10 hS rfl rfl ?_
  refine bc_cp (i := 504) (j := 5504) (r := 504) (len := 8) H10 B10 rfl rfl H10.b hS rfl rfl rfl rfl (by decide) rfl (fun X11 h11 H11 B11 => ?_)
  refine fP (o := 4) H11 H11.b rfl rfl ?_
  refine fP (o := 5004) H11 hS rfl rfl ?_
  refine bc_cp (i := 505) (j := 5505) (r := 505) (len := 8) H11 B11 rfl rfl H11.b hS rfl rfl rfl rfl (by decide) rfl (fun X12 h12 H12 B12 => ?_)
  refine fP (o := 4) H12 H12.b rfl rfl ?_
  refine fP (o := 5004) H12 hS rfl rfl ?_
  refine bc_cp (i := 506) (j := 5506) (r := 506) (len := 8) H12 B12 rfl rfl H12.b hS rfl rfl rfl rfl (by decide) rfl (fun X13 h13 H13 B13 => ?_)
  refine fP (o := 5007) H13 hS rfl rfl ?_
  refine fP (o := 7) H13 H13.b rfl rfl ?_
  refine vG (o := 5001) H13 hS rfl ?_
  refine bc_f (i := 1) (j := 5001) (r := 1) H13 B13 rfl rfl H13.b hS rfl rfl rfl rfl (fun X14 h14 H14 B14 => ?_)
  refine fP (o := 1) H14 H14.b rfl rfl ?_
  refine fP (o := 5001) H14 hS rfl rfl ?_
  refine bc_cp (i := 201) (j := 5201) (r := 201) (len := 120) H14 B14 rfl rfl H14.b hS rfl rfl rfl rfl (by decide) rfl (fun X15 h15 H15 B15 => ?_)
  refine fP (o := 1) H15 H15.b rfl rfl ?_
  refine fP (o := 5001) H15 hS rfl rfl ?_
  refine bc_cp (i := 202) (j := 5202) (r := 202) (len := 120) H15 B15 rfl rfl H15.b hS rfl rfl rfl rfl (by decide) rfl (fun X16 h16 H16 B16 => ?_)
  refine fP (o := 1) H16 H16.b rfl rfl ?_
  refine fP (o := 5001) H16 hS rfl rfl ?_
  refine bc_cp (i := 203) (j := 5203) (r := 203) (len := 120) H16 B16 rfl rfl H16.b hS rfl rfl rfl rfl (by decide) rfl (fun X17 h17 H17 B17 => ?_)
  refine fP (o := 1) H17 H17.b rfl rfl ?_
  refine fP (o := 5001) H17 hS rfl rfl ?_
  refine bc_cp (i := 204) (j := 5204) (r := 204) (len := 120) H17 B17 rfl rfl H17.b hS rfl rfl rfl rfl (by decide) rfl (fun X18 h18 H18 B18 => ?_)
  refine fP (o := 1) H18 H18.b rfl rfl ?_
  refine fP (o := 5001) H18 hS rfl rfl ?_
  refine bc_cp (i := 205) (j := 5205) (r := 205) (len := 120) H18 B18 rfl rfl H18.b hS rfl rfl rfl rfl (by decide) rfl (fun X19 h19 H19 B19 => ?_)
  refine fP (o := 1) H19 H19.b rfl rfl ?_
  refine fP (o := 5001) H19 hS rfl rfl ?_
  refine bc_cp (i := 206) (j := 5206) (r := 206) (len := 120) H19 B19 rfl rfl H19.b hS rfl rfl rfl rfl (by decide) rfl (fun X20 h20 H20 B20 => ?_)
  refine bc_f (i := 1) (j := 5001) (r := 1) H20 B20 rfl rfl H20.b hS rfl rfl rfl rfl (fun X21 h21 H21 B21 => ?_)
  refine bc_f (i := 1) (j := 5001) (r := 1) H21 B21 rfl rfl H21.b hS rfl rfl rfl rfl (fun X22 h22 H22 B22 => ?_)
  refine bc_f (i := 1) (j := 5001) (r := 1) H22 B22 rfl rfl H22.b hS rfl rfl rfl rfl (fun X23 h23 H23 B23 => ?_)
  refine fP (o := 5007) H23 hS rfl rfl ?_
  refine fP (o := 7) H23 H23.b rfl rfl ?_
  refine vG (o := 5009) H23 hS rfl ?_
  refine bc_f (i := 9) (j := 5009) (r := 9) H23 B23 rfl rfl H23.b hS rfl rfl rfl rfl (fun X24 h24 H24 B24 => ?_)
  refine fP (o := 9) H24 H24.b rfl rfl ?_
  refine fP (o := 5009) H24 hS rfl rfl ?_
  refine bc_cp (i := 1001) (j := 6001) (r := 1001) (len := 8) H24 B24 rfl rfl H24.b hS rfl rfl rfl rfl (by decide) rfl (fun X25 h25 H25 B25 => ?_)
  refine fP (o := 9) H25 H25.b rfl rfl ?_
  refine fP (o := 5009) H25 hS rfl rfl ?_
  refine bc_cp (i := 1002) (j := 6002) (r := 1002) (len := 8) H25 B25 rfl rfl H25.b hS rfl rfl rfl rfl (by decide) rfl (fun X26 h26 H26 B26 => ?_)
  refine fP (o := 9) H26 H26.b rfl rfl ?_
  refine fP (o := 5009) H26 hS rfl rfl ?_
  refine bc_cp (i := 1003) (j := 6003) (r := 1003) (len := 8) H26 B26 rfl rfl H26.b hS rfl rfl rfl rfl (by decide) rfl (fun X27 h27 H27 B27 => ?_)
  refine fP (o := 9) H27 H27.b rfl rfl ?_
  refine fP (o := 5009) H27 hS rfl rfl ?_
  refine bc_cp (i := 1004) (j := 6004) (r := 1004) (len := 8) H27 B27 rfl rfl H27.b hS rfl rfl rfl rfl (by decide) rfl (fun X28 h28 H28 B28 => ?_)
  refine bc_f (i := 9) (j := 5009) (r := 9) H28 B28 rfl rfl H28.b hS rfl rfl rfl rfl (fun X29 h29 H29 B29 => ?_)
  refine fP (o := 9) H29 H29.b rfl rfl ?_
  refine fP (o := 5009) H29 hS rfl rfl ?_
  refine bc_cp (i := 1006) (j := 6006) (r := 1006) (len := 20) H29 B29 rfl rfl H29.b hS rfl rfl rfl rfl (by decide) rfl (fun X30 h30 H30 B30 => ?_)
  refine fP (o := 9) H30 H30.b rfl rfl ?_
  refine fP (o := 5009) H30 hS rfl rfl ?_
  refine bc_cp (i := 1007) (j := 6007) (r := 1007) (len := 20) H30 B30 rfl rfl H30.b hS rfl rfl rfl rfl (by decide) rfl (fun X31 h31 H31 B31 => ?_)
  refine fP (o := 9) H31 H31.b rfl rfl ?_
  refine fP (o := 5009) H31 hS rfl rfl ?_
  refine bc_cp (i := 1008) (j := 6008) (r := 1008) (len := 20) H31 B31 rfl rfl H31.b hS rfl rfl rfl rfl (by decide) rfl (fun X32 h32 H32 B32 => ?_)
  have P0 : PGx A S h0 18 (cpF 9 0 V 0) (cpF 9 0 E 0) (cpF 9 0 ps 0) (cpF 9 0 ss 0) (cpF 9 0 qs 0) := by rw [cpF_0, cpF_0, cpF_0, cpF_0, cpF_0]; exact P
  refine lp_inv 4 (fun j (s : Int32 × AH) => s.1 = nI j ∧ ∃ hb, G A S hb X32 s.2 ∧ PGx A S hb 18 (cpF 9 0 V j) (cpF 9 0 E j) (cpF 9 0 ps j) (cpF 9 0 ss j) (cpF 9 0 qs j) ∧ BG h0 hb) (fun j s kk1 hj hI kk2 => ?_) (fun s kk1 hI => ?_) (Nat.zero_le _) ⟨rfl, h0, H32, P0, BG.rf _⟩
  · obtain ⟨v, h1⟩ := s
    obtain ⟨e1, hb, HH, PP, G1⟩ := hI
    dsimp only at e1 HH ⊢
    subst e1
    dsimp only [w_X7_become_57]
    refine br_go (a := 4) hj (by decide) ?_
    refine fP (o := 5007) HH hS rfl rfl ?_
    refine fP (o := 7) HH HH.b rfl rfl ?_
    refine bc_p (u := 0 + j) (v := 9 + j) (m := j) HH PP (by decide) rfl (by omega) (by omega) (sl_l hj) (sl_lk hj) rfl rfl hj (by decide) (fun hc h2 H2 P2 G2 => ?_)
    rw [cpF_S (by omega), cpF_S (by omega), cpF_S (by omega), cpF_S (by omega), cpF_S (by omega)] at P2
    exact kk2 _ ⟨(nI_succ j).symm, hc, H2, P2, G1.tr G2⟩
  · obtain ⟨v, h1⟩ := s
    obtain ⟨e1, hb, HH, PP, G1⟩ := hI
    dsimp only at e1 HH ⊢
    subst e1
    dsimp only [w_X7_become_57, w_X7_become_80]
    refine br_end (a := 4) ?_
    clear kk1
    refine bc_f (i := 7) (j := 5007) (r := 7) HH B32 rfl rfl HH.b hS rfl rfl rfl rfl (fun Xa ha Ha Ba => ?_)
    replace Ba := Ba.none 808
    refine c_becK_s Ha hS PP G1 Ba (fun hb2 X2 h2 H2 P2 G2 B2 => ?_)
    exact kk hb2 X2 h2 H2 P2 G2 B2
theorem c_becB_s {hz : AH} (H : G A S h0 X h) (hS : S 2) (P : PGx A S h0 18 (cpF 0 9 V 4) (cpF 0 9 E 4) (cpF 0 9 ps 4) (cpF 0 9 ss 4) (cpF 0 9 qs 4)) (G0 : BG hz h0) {X0 : Nat → Nat → Int32} (B : BC 0 5000 stR X0 X ((808, 0, 0) :: L)) {Q : AH → Prop} (kk : ∀ hb X' h', G A S hb X' h' → PGx A S hb 18 (cpF 0 9 V 9) (cpF 0 9 E 9) (cpF 0 9 ps 9) (cpF 0 9 ss 9) (cpF 0 9 qs 9) → BG hz hb → BC 0 5000 stR X0 X' ((7, 12, 13) :: (7, 11, 12) :: (7, 10, 11) :: (7, 9, 10) :: (808, 0, 5) :: L) → Q h') : lp (fun (k2 : Int32 × AH → Prop) (s2 : Int32 × AH) => w_X7_become_90 (fun h => w_X7_become_125 (A 7) (A 5007) h Q) (fun (y2 : Int32) h => k2 (y2, h)) (A 7) (A 5007) s2.1 s2.2 Q) ((0 : Int32), h) := by
  refine lp_inv 5 (fun j (s : Int32 × AH) => s.1 = nI j ∧ ∃ hb X', G A S hb X' s.2 ∧ PGx A S hb 18 (cpF 0 9 V (4 + j)) (cpF 0 9 E (4 + j)) (cpF 0 9 ps (4 + j)) (cpF 0 9 ss (4 + j)) (cpF 0 9 qs (4 + j)) ∧ BG hz hb ∧ BC 0 5000 stR X0 X' ((808, 0, j) :: L)) (fun j s kk1 hj hI kk2 => ?_) (fun s kk1 hI => ?_) (Nat.zero_le _) ⟨rfl, h0, X, H, P, G0, B⟩
  · obtain ⟨v, h1⟩ := s
    obtain ⟨e1, hb, X1, HH, PP, G1, B1⟩ := hI
    dsimp only at e1 HH ⊢
    subst e1
    dsimp only [w_X7_become_90]
    refine br_go (a := 5) hj (by decide) ?_
    refine fP (o := 7) HH HH.b rfl rfl ?_
    refine fP (o := 5007) HH hS rfl rfl ?_
    refine bc_p (u := 9 + (4 + j)) (v := 0 + (4 + j)) (m := j) HH PP (by decide) rfl (by omega) (by omega) (sl_sk hj) (sl_s hj) rfl rfl hj (by decide) (fun hc h2 H2 P2 G2 => ?_)
    rw [cpF_S (by omega), cpF_S (by omega), cpF_S (by omega), cpF_S (by omega), cpF_S (by omega)] at P2
    refine fP (o := 7) H2 H2.b rfl rfl ?_
    refine fP (o := 5007) H2 hS rfl rfl ?_
    refine bc_a (i := 5808) (j := 808) (r := 808) (len := 5) (k := j) H2 B1 rfl hj (by decide) rfl rfl hS H2.b rfl rfl rfl rfl (fun X3 h3 H3 B3 => ?_)
    exact kk2 _ ⟨(nI_succ j).symm, hc, X3, H3, P2, G1.tr G2, B3.join⟩
  · obtain ⟨v, h1⟩ := s
    obtain ⟨e1, hb, X1, HH, PP, G1, B1⟩ := hI
    dsimp only at e1 HH ⊢
    subst e1
    dsimp only [w_X7_become_90, w_X7_become_125]
    refine br_end (a := 5) ?_
    refine bc_f (i := 5007) (j := 7) (r := 7) HH B1 rfl rfl hS HH.b rfl rfl rfl rfl (fun Y0 g0 K0 C0 => ?_)
    refine bc_f (i := 5007) (j := 7) (r := 7) K0 C0 rfl rfl hS K0.b rfl rfl rfl rfl (fun Y1 g1 K1 C1 => ?_)
    refine bc_f (i := 5007) (j := 7) (r := 7) K1 C1 rfl rfl hS K1.b rfl rfl rfl rfl (fun Y2 g2 K2 C2 => ?_)
    refine bc_f (i := 5007) (j := 7) (r := 7) K2 C2 rfl rfl hS K2.b rfl rfl rfl rfl (fun Y3 g3 K3 C3 => ?_)
    exact kk hb Y3 g3 K3 PP G1 C3
theorem c_becB (H : G A S h0 X h) (hS : S 2) (P : PGx A S h0 18 V E ps ss qs) {Q : AH → Prop} (kk : ∀ hb X' h', G A S hb X' h' → PGx A S hb 18 (cpF 0 9 V 9) (cpF 0 9 E 9) (cpF 0 9 ps 9) (cpF 0 9 ss 9) (cpF 0 9 qs 9) → BG h0 hb → BC 0 5000 stR X X' bcL → Q h') : w_X7_become (A 7) (A 5007) h Q := by
  dsimp only [w_X7_become, w_X3_become, w_X2_become, w_X4_become, w_X1_become, w_X9_become]
  have B : BC 0 5000 stR X X [] := BC.nil
  refine fP (o := 7) H H.b rfl rfl ?_
  refine fP (o := 5007) H hS rfl rfl ?_
  refine vG (o := 3) H H.b rfl ?_
  refine fP (o := 5003) H hS rfl rfl ?_
  refine fP (o := 3) H H.b rfl rfl ?_
  refine bc_cp (i := 5400) (j := 400) (r := 400) (len := 256) H B rfl rfl hS H.b rfl rfl rfl rfl (by decide) rfl (fun X1 h1 H1 B1 => ?_)
  refine fP (o := 7) H1 H1.b rfl rfl ?_
  refine fP (o := 5007) H1 hS rfl rfl ?_
  refine vG (o := 2) H1 H1.b rfl ?_
  refine bc_f (i := 5002) (j := 2) (r := 2) H1 B1 rfl rfl hS H1.b rfl rfl rfl rfl (fun X2 h2 H2 B2 => ?_)
  refine fP (o := 5002) H2 hS rfl rfl ?_
  refine fP (o := 2) H2 H2.b rfl rfl ?_
  refine bc_cp (i := 5301) (j := 301) (r := 301) (len := 8) H2 B2 rfl rfl hS H2.b rfl rfl rfl rfl (by decide) rfl (fun X3 h3 H3 B3 => ?_)
  refine fP (o := 5002) H3 hS rfl rfl ?_
  refine fP (o := 2) H3 H3.b rfl rfl ?_
  refine bc_cp (i := 5302) (j := 302) (r := 302) (len := 8) H3 B3 rfl rfl hS H3.b rfl rfl rfl rfl (by decide) rfl (fun X4 h4 H4 B4 => ?_)
  refine fP (o := 5002) H4 hS rfl rfl ?_
  refine fP (o := 2) H4 H4.b rfl rfl ?_
  refine bc_cp (i := 5303) (j := 303) (r := 303) (len := 8) H4 B4 rfl rfl hS H4.b rfl rfl rfl rfl (by decide) rfl (fun X5 h5 H5 B5 => ?_)
  refine fP (o := 5002) H5 hS rfl rfl ?_
  refine fP (o := 2) H5 H5.b rfl rfl ?_
  refine bc_cp (i := 5304) (j := 304) (r := 304) (len := 8) H5 B5 rfl rfl hS H5.b rfl rfl rfl rfl (by decide) rfl (fun X6 h6 H6 B6 => ?_)
  refine fP (o := 7) H6 H6.b rfl rfl ?_
  refine fP (o := 5007) H6 hS rfl rfl ?_
  refine vG (o := 4) H6 H6.b rfl ?_
  refine bc_f (i := 5004) (j := 4) (r := 4) H6 B6 rfl rfl hS H6.b rfl rfl rfl rfl (fun X7 h7 H7 B7 => ?_)
  refine fP (o := 5004) H7 hS rfl rfl ?_
  refine fP (o := 4) H7 H7.b rfl rfl ?_
  refine bc_cp (i := 5501) (j := 501) (r := 501) (len := 8) H7 B7 rfl rfl hS H7.b rfl rfl rfl rfl (by decide) rfl (fun X8 h8 H8 B8 => ?_)
  refine fP (o := 5004) H8 hS rfl rfl ?_
  refine fP (o := 4) H8 H8.b rfl rfl ?_
  refine bc_cp (i := 5502) (j := 502) (r := 502) (len := 8) H8 B8 rfl rfl hS H8.b rfl rfl rfl rfl (by decide) rfl (fun X9 h9 H9 B9 => ?_)
  refine fP (o := 5004) H9 hS rfl rfl ?_
  refine fP (o := 4) H9 H9.b rfl rfl ?_
  refine bc_cp (i := 5503) (j := 503) (r := 503) (len := 8) H9 B9 rfl rfl hS H9.b rfl rfl rfl rfl (by decide) rfl (fun X10 h10 H10 B10 => ?_)
  refine fP (o := 5004) H10 hS rfl rfl ?_
  refine fP (o := 4) H10 H10.b rfl rfl ?_
  refine bc_cp (i := 5504) (j := 504) (r := 504) (len := 8) H10 B10 rfl rfl hS H10.b rfl rfl rfl rfl (by decide) rfl (fun X11 h11 H11 B11 => ?_)
  refine fP (o := 5004) H11 hS rfl rfl ?_
  refine fP (o := 4) H11 H11.b rfl rfl ?_
  refine bc_cp (i := 5505) (j := 505) (r := 505) (len := 8) H11 B11 rfl rfl hS H11.b rfl rfl rfl rfl (by decide) rfl (fun X12 h12 H12 B12 => ?_)
  refine fP (o := 5004) H12 hS rfl rfl ?_
  refine fP (o := 4) H12 H12.b rfl rfl ?_
  refine bc_cp (i := 5506) (j := 506) (r := 506) (len := 8) H12 B12 rfl rfl hS H12.b rfl rfl rfl rfl (by decide) rfl (fun X13 h13 H13 B13 => ?_)
  refine fP (o := 7) H13 H13.b rfl rfl ?_
  refine fP (o := 5007) H13 hS rfl rfl ?_
  refine vG (o := 1) H13 H13.b rfl ?_
  refine bc_f (i := 5001) (j := 1) (r := 1) H13 B13 rfl rfl hS H13.b rfl rfl rfl rfl (fun X14 h14 H14 B14 => ?_)
  refine fP (o := 5001) H14 hS rfl rfl ?_
  refine fP (o := 1) H14 H14.b rfl rfl ?_
  refine bc_cp (i := 5201) (j := 201) (r := 201) (len := 120) H14 B14 rfl rfl hS H14.b rfl rfl rfl rfl (by decide) rfl (fun X15 h15 H15 B15 => ?_)
  refine fP (o := 5001) H15 hS rfl rfl ?_
  refine fP (o := 1) H15 H15.b rfl rfl ?_
  refine bc_cp (i := 5202) (j := 202) (r := 202) (len := 120) H15 B15 rfl rfl hS H15.b rfl rfl rfl rfl (by decide) rfl (fun X16 h16 H16 B16 => ?_)
  refine fP (o := 5001) H16 hS rfl rfl ?_
  refine fP (o := 1) H16 H16.b rfl rfl ?_
  refine bc_cp (i := 5203) (j := 203) (r := 203) (len := 120) H16 B16 rfl rfl hS H16.b rfl rfl rfl rfl (by decide) rfl (fun X17 h17 H17 B17 => ?_)
  refine fP (o := 5001) H17 hS rfl rfl ?_
  refine fP (o := 1) H17 H17.b rfl rfl ?_
  refine bc_cp (i := 5204) (j := 204) (r := 204) (len := 120) H17 B17 rfl rfl hS H17.b rfl rfl rfl rfl (by decide) rfl (fun X18 h18 H18 B18 => ?_)
  refine fP (o := 5001) H18 hS rfl rfl ?_
  refine fP (o := 1) H18 H18.b rfl rfl ?_
  refine bc_cp (i := 5205) (j := 205) (r := 205) (len := 120) H18 B18 rfl rfl hS H18.b rfl rfl rfl rfl (by decide) rfl (fun X19 h19 H19 B19 => ?_)
  refine fP (o := 5001) H19 hS rfl rfl ?_
  refine fP (o := 1) H19 H19.b rfl rfl ?_
  refine bc_cp (i := 5206) (j := 206) (r := 206) (len := 120) H19 B19 rfl rfl hS H19.b rfl rfl rfl rfl (by decide) rfl (fun X20 h20 H20 B20 => ?_)
  refine bc_f (i := 5001) (j := 1) (r := 1) H20 B20 rfl rfl hS H20.b rfl rfl rfl rfl (fun X21 h21 H21 B21 => ?_)
  refine bc_f (i := 5001) (j := 1) (r := 1) H21 B21 rfl rfl hS H21.b rfl rfl rfl rfl (fun X22 h22 H22 B22 => ?_)
  refine bc_f (i := 5001) (j := 1) (r := 1) H22 B22 rfl rfl hS H22.b rfl rfl rfl rfl (fun X23 h23 H23 B23 => ?_)
  refine fP (o := 7) H23 H23.b rfl rfl ?_
  refine fP (o := 5007) H23 hS rfl rfl ?_
  refine vG (o := 9) H23 H23.b rfl ?_
  refine bc_f (i := 5009) (j := 9) (r := 9) H23 B23 rfl rfl hS H23.b rfl rfl rfl rfl (fun X24 h24 H24 B24 => ?_)
  refine fP (o := 5009) H24 hS rfl rfl ?_
  refine fP (o := 9) H24 H24.b rfl rfl ?_
  refine bc_cp (i := 6001) (j := 1001) (r := 1001) (len := 8) H24 B24 rfl rfl hS H24.b rfl rfl rfl rfl (by decide) rfl (fun X25 h25 H25 B25 => ?_)
  refine fP (o := 5009) H25 hS rfl rfl ?_
  refine fP (o := 9) H25 H25.b rfl rfl ?_
  refine bc_cp (i := 6002) (j := 1002) (r := 1002) (len := 8) H25 B25 rfl rfl hS H25.b rfl rfl rfl rfl (by decide) rfl (fun X26 h26 H26 B26 => ?_)
  refine fP (o := 5009) H26 hS rfl rfl ?_
  refine fP (o := 9) H26 H26.b rfl rfl ?_
  refine bc_cp (i := 6003) (j := 1003) (r := 1003) (len := 8) H26 B26 rfl rfl hS H26.b rfl rfl rfl rfl (by decide) rfl (fun X27 h27 H27 B27 => ?_)
  refine fP (o := 5009) H27 hS rfl rfl ?_
  refine fP (o := 9) H27 H27.b rfl rfl ?_
  refine bc_cp (i := 6004) (j := 1004) (r := 1004) (len := 8) H27 B27 rfl rfl hS H27.b rfl rfl rfl rfl (by decide) rfl (fun X28 h28 H28 B28 => ?_)
  refine bc_f (i := 5009) (j := 9) (r := 9) H28 B28 rfl rfl hS H28.b rfl rfl rfl rfl (fun X29 h29 H29 B29 => ?_)
  refine fP (o := 5009) H29 hS rfl rfl ?_
  refine fP (o := 9) H29 H29.b rfl rfl ?_
  refine bc_cp (i := 6006) (j := 1006) (r := 1006) (len := 20) H29 B29 rfl rfl hS H29.b rfl rfl rfl rfl (by decide) rfl (fun X30 h30 H30 B30 => ?_)
  refine fP (o := 5009) H30 hS rfl rfl ?_
  refine fP (o := 9) H30 H30.b rfl rfl ?_
  refine bc_cp (i := 6007) (j := 1007) (r := 1007) (len := 20) H30 B30 rfl rfl hS H30.b rfl rfl rfl rfl (by decide) rfl (fun X31 h31 H31 B31 => ?_)
  refine fP (o := 5009) H31 hS rfl rfl ?_
  refine fP (o := 9) H31 H31.b rfl rfl ?_
  refine bc_cp (i := 6008) (j := 1008) (r := 1008) (len := 20) H31 B31 rfl rfl hS H31.b rfl rfl rfl rfl (by decide) rfl (fun X32 h32 H32 B32 => ?_)
  have P0 : PGx A S h0 18 (cpF 0 9 V 0) (cpF 0 9 E 0) (cpF 0 9 ps 0) (cpF 0 9 ss 0) (cpF 0 9 qs 0) := by rw [cpF_0, cpF_0, cpF_0, cpF_0, cpF_0]; exact P
  refine lp_inv 4 (fun j (s : Int32 × AH) => s.1 = nI j ∧ ∃ hb, G A S hb X32 s.2 ∧ PGx A S hb 18 (cpF 0 9 V j) (cpF 0 9 E j) (cpF 0 9 ps j) (cpF 0 9 ss j) (cpF 0 9 qs j) ∧ BG h0 hb) (fun j s kk1 hj hI kk2 => ?_) (fun s kk1 hI => ?_) (Nat.zero_le _) ⟨rfl, h0, H32, P0, BG.rf _⟩
  · obtain ⟨v, h1⟩ := s
    obtain ⟨e1, hb, HH, PP, G1⟩ := hI
    dsimp only at e1 HH ⊢
    subst e1
    dsimp only [w_X7_become_57]
    refine br_go (a := 4) hj (by decide) ?_
    refine fP (o := 7) HH HH.b rfl rfl ?_
    refine fP (o := 5007) HH hS rfl rfl ?_
    refine bc_p (u := 9 + j) (v := 0 + j) (m := j) HH PP (by decide) rfl (by omega) (by omega) (sl_lk hj) (sl_l hj) rfl rfl hj (by decide) (fun hc h2 H2 P2 G2 => ?_)
    rw [cpF_S (by omega), cpF_S (by omega), cpF_S (by omega), cpF_S (by omega), cpF_S (by omega)] at P2
    exact kk2 _ ⟨(nI_succ j).symm, hc, H2, P2, G1.tr G2⟩
  · obtain ⟨v, h1⟩ := s
    obtain ⟨e1, hb, HH, PP, G1⟩ := hI
    dsimp only at e1 HH ⊢
    subst e1
    dsimp only [w_X7_become_57, w_X7_become_80]
    refine br_end (a := 4) ?_
    clear kk1
    refine bc_f (i := 5007) (j := 7) (r := 7) HH B32 rfl rfl hS HH.b rfl rfl rfl rfl (fun Xa ha Ha Ba => ?_)
    replace Ba := Ba.none 808
    refine c_becB_s Ha hS PP G1 Ba (fun hb2 X2 h2 H2 P2 G2 B2 => ?_)
    exact kk hb2 X2 h2 H2 P2 G2 B2
end BECOME
theorem BC.cr {d s : Nat} {D : Nat → Bool} {X0 X : Nat → Nat → Int32} {wd : Nat → Int32} (B : BC d s D X0 X bcL) (R : CR (fun id => X0 (id + s)) wd) : CR (fun id => X (id + d)) wd := by
  have b1 : ∀ e ∈ cbL, (e.1, 0, e.2.1) ∈ bcL := by decide +kernel
  have b2 : ∀ e ∈ csL, (e.1, e.2.1, e.2.1 + 1) ∈ bcL := by decide +kernel
  refine ⟨fun e he n hn => ?_, fun e he => ?_⟩
  · exact (B.1 _ (b1 e he) n (Nat.zero_le _) hn).trans (R.1 e he n hn)
  · exact (B.1 _ (b2 e he) e.2.1 (Nat.le_refl _) (Nat.lt_succ_self _)).trans (R.2 e he)
