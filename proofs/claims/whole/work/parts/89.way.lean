/-! way, the class: the ways are made at the first call -/
theorem mem_lt {L : List Nat} (h : (L.all fun i => decide (i < 10000)) = true) {id : Nat} (hi : id ∈ L) : id < 10000 := of_decide_eq_true (List.all_eq_true.mp h id hi)
theorem lv_add {S : Nat → Prop} {i : Nat} {L : List Nat} (hL : (L.all fun i => decide (i < 10000)) = true) (hi : ∀ id, id < 10000 → ((tk id).1 ≠ 0 ∧ sg id = i ↔ id ∈ L)) (id : Nat) : lv (fun j => S j ∨ j = i) id ↔ lv S id ∨ id ∈ L := by
  constructor
  · rintro ⟨h1, h2 | h2⟩
    · exact Or.inl ⟨h1, h2⟩
    · refine Or.inr ((hi id ?_).mp ⟨h1, h2⟩)
      exact Nat.lt_of_not_le fun z => h1 (ht5 id z)
  · rintro (h | h)
    · exact ⟨h.1, Or.inl h.2⟩
    · obtain ⟨h1, h2⟩ := (hi id (mem_lt hL h)).mpr h
      exact ⟨h1, Or.inr h2⟩
theorem new_lv {S : Nat → Prop} {i : Nat} {L : List Nat} (hL : (L.all fun i => decide (i < 10000)) = true) (hi : ∀ id, id < 10000 → ((tk id).1 ≠ 0 ∧ sg id = i ↔ id ∈ L)) (hS : ¬ S i) {id : Nat} (h : id ∈ L) : ¬ lv S id := fun z => hS (((hi id (mem_lt hL h)).mpr h).2 ▸ z.2)
theorem pt_mem {L : List Nat} {P : List (Nat × Nat)} (h : (L.all fun o => (List.range 40).all fun k => match pt o k with
    | none => true
    | some _ => P.contains (o, k)) = true) {o : Nat} (ho : o ∈ L) {k t : Nat} (hp : pt o k = some t) : (o, k) ∈ P := by
  have h1 := List.all_eq_true.mp h o ho
  have hk : k < 40 := by
    by_cases c : o < 5000
    · unfold pt at hp
      rw [if_pos c] at hp
      exact (ptT_b hp).2
    · unfold pt at hp
      rw [if_neg c] at hp
      obtain ⟨t', q1, q2⟩ := Option.map_eq_some_iff.mp hp
      exact (ptT_b q1).2
  have h2 := List.all_eq_true.mp h1 k (List.mem_range.mpr hk)
  rw [hp] at h2
  exact List.contains_iff_mem.mp h2
section WAYL
variable {A : Nat → Nat} {S : Nat → Prop} {h0 h : AH} {X : Nat → Nat → Int32} {wd : Nat → Int32} {N : Nat → Nat} {Q : Int32 → AH → Prop} {Qv : AH → Prop} {a3 : Nat}
/-- another pointer at a place that the table leaves free -/
theorem G.sP (H : G A S h0 X h) {o k : Nat} (ho : lv S o) (hp : pt o k = none) (r : Option Nat) : G A S (sP h0 (A o) k r) X (sP h (A o) k r) := by
  obtain ⟨⟨h1, h2, h3, h4⟩, g1, g2, g3, g4, g5, g6⟩ := H
  refine ⟨⟨h1, h2, fun o' k' t ho' hp' => ?_, h4⟩, g1, g2, ?_, g4, g5, g6⟩
  · have q := h3 o' k' t ho' hp'
    show va_up h0.2.2.2.1 (A o) (va_up (h0.2.2.2.1 (A o)) k r) (A o') k' = some (A t)
    by_cases c : o' = o
    · subst c
      rw [va_up_self, va_ne (fun z => by rw [z, hp] at hp'; cases hp')]
      exact q
    · rw [va_ne (fun z => c (h4 _ _ ho' ho z))]
      exact q
  · show va_up h.2.2.2.1 (A o) (va_up (h.2.2.2.1 (A o)) k r) = va_up h0.2.2.2.1 (A o) (va_up (h0.2.2.2.1 (A o)) k r)
    rw [show h.2.2.2.1 = h0.2.2.2.1 from g3]
theorem sP_ne {h : AH} {a k : Nat} {r : Option Nat} {b : Nat} (hb : b ≠ a) : gP (sP h a k r) b = gP h b := va_ne hb
theorem sP_eq {h : AH} {a k : Nat} {r : Option Nat} : gP (sP h a k r) a = va_up (gP h a) k r := va_up_self _ _ _
theorem BE.sP11 {A' : Nat → Nat} {S' : Nat → Prop} {h1 : AH} (b : BE A S h0 A' S' h1) {k : Nat} {r : Option Nat} : BE A S h0 A' S' (sP h1 (A 11) k r) := by
  obtain ⟨b1, b2, b3, b4, b5⟩ := b
  refine ⟨b1, b2, fun b hb => ?_, b4, b5⟩
  obtain ⟨q1, q2, q3, q4⟩ := b3 b hb
  exact ⟨q1, q2, fun z => (sP_ne z).trans (q3 z), q4⟩
theorem lv11 (h : S 0) : lv S 11 := ⟨by decide, h⟩
theorem BE.J {A' : Nat → Nat} {S' : Nat → Prop} {h1 : AH} (b : BE A S h0 A' S' h1) (J : J3 h0 a3) : J3 h1 a3 := by
  obtain ⟨q1, q2, q3⟩ := b.2.2.1 a3 (by rw [J.1]; decide)
  exact ⟨q1.trans J.1, q2.trans J.2⟩
theorem L_way (H : G A S h0 X h) (R : CR X wd) (O : Ok wd N) (J : J3 h0 a3) (wp : WP A S h0) {p w : Int32} (k : ∀ A' S' h1 X' h', G A' S' h1 X' h' → BE A S h0 A' S' h1 → WP A' S' h1 → gP h1 (A 11) 5 = gP h0 (A 11) 5 → (∀ i, i ≠ 1 → (S' i ↔ S i)) → Off wSL X X' → ((wayS wd N p w).1 = 0 → gJ h' a3 0 = (wayS wd N p w).2.toInt64) → Q (wayS wd N p w).1 h') : w_L_way (A 11) p w a3 h Q := by
  obtain ⟨e1, h8⟩ := O.g
  have bad : ∀ {E : String} {code : Int32}, (wayS wd N p w).1 = code → ¬ code = 0 → Q code h := by
    intro E code e n
    have z := k A S h0 X h H (BE.ofJ (hJ.rf h0)) wp rfl (fun _ _ => Iff.rfl) (Off.rf _ _) (fun z => absurd (e.symm.trans z) n)
    rw [e] at z
    exact z
  dsimp only [w_L_way, w_L_way_13, w_L_way_17, w_X11_way]
  refine vG (o := 11) H H.b rfl ?_
  refine fP (o := 11) H H.b rfl rfl ?_
  refine fP (o := 7) H H.b rfl rfl ?_
  refine fC_ H R (o := 2) H.b rfl rfl ?_
  rw [e1]
  refine c_num (by omega) (fun c1 => ?_) (fun c1 => ?_)
  · refine c_ques (fun c2 => ?_) (fun c2 => ?_)
    · have c3 := (isN_le (m := 3) (by decide)).mp c2
      have ev : wayS wd N p w = (0, wayV wd N (nt p) (nt w)) := by rw [wayS, cIf_t c1, cIf_t c3]
      rw [ev] at k
      obtain ⟨g, hg, rfl⟩ := c1
      obtain ⟨j, hj, rfl⟩ := c3
      rw [nt_nI (by omega), nt_nI (by omega)] at k
      rcases wp with ⟨n1, w1⟩ | ⟨n1, w1⟩
      · refine fO11 H w1 (br_T rfl ?_)
        have hD : ∀ id, lv S id → gK h (A id) ≠ 0 := fun id hd => by
          rw [H.2.1, (H.1.2.1 id hd).1]
          exact hd.1
        have nl : ∀ id, id ∈ nwWaysL → ¬ lv S id := fun id hi => new_lv (by decide +kernel) ways_ids n1 hi
        refine al_O (AL.rf hD) (id := 10) rfl (by decide) (nl 10 (by decide)) (by decide) (fun a1 h1 A1 => ?_)
        refine al_c10 A1 (va_up_self _ _ _).symm (by decide) (fun j hj => ⟨nl j (mem_sub (by decide) hj), fun z => absurd hj (by rw [List.mem_singleton.mp z]; decide)⟩) (fun A2 h2 H2 e2 => ?_)
        have a10 : a1 = A2 10 := by rw [e2 10 (by decide), va_up_self]
        have a11 : A2 11 = A 11 := by rw [e2 11 (by decide), va_ne (by decide)]
        have hl := lv_add (S := S) (L := nwWaysL) (by decide +kernel) ways_ids
        have G2 := G.grow (S' := fun j => S j ∨ j = 1) H H2 (Or.inl H.b) hl (fun o ho k t hp => pt_mem (by decide +kernel) ho hp)
        have B2 := BE.al (S' := fun j => S j ∨ j = 1) H H2 (fun i hi => Or.inl hi) hl
        have k11 : gK h2 (A 11) = 12 := by rw [← a11]; exact G2.kd (o := 11) (a := 11) (Or.inl H.b) rfl
        refine ⟨k11, ?_⟩
        have l11 : lv (fun j => S j ∨ j = 1) 11 := ⟨by decide, Or.inl H.b⟩
        have G3 := G2.sP (o := 11) (k := 4) l11 rfl (some a1)
        rw [a11] at G3
        have B3 := B2.sP11 (k := 4) (r := some a1)
        have R2 : CR (gX nwWaysL X []) wd := R.offL gX_off (by decide)
        have p4 : gP (sP h2 (A 11) 4 (some a1)) (A2 11) 4 = some (A2 10) := by rw [a11, sP_eq, va_up_self, a10]
        have p5 : gP (sP h2 (A 11) 4 (some a1)) (A 11) 5 = gP h0 (A 11) 5 := by
          rw [sP_eq, va_ne (by decide), ← H.2.2.2.1]
          exact congrFun (H2.1.1 (A 11) (by rw [H.2.1, (H.1.2.1 11 (lv11 H.b)).1]; decide)).2.2.2 5
        generalize sP h2 (A 11) 4 (some a1) = hb at G3 B3 p4 p5 ⊢
        rw [← a11]
        refine c_way37 G3 R2 O (Or.inr rfl) p4 hg hj (fun X' h' H' o' => ?_)
        refine tJG H' (B3.J J) (fun h1 h'' H'' j1 j2 => ?_)
        have ep : gP h1 = gP hb := j1.2.2.2.1
        refine k A2 _ h1 X' h'' H'' (B3.tr (BE.ofJ j1) (lv11 H.b)) (Or.inr ⟨Or.inr rfl, by rw [ep]; exact p4⟩) (by rw [ep]; exact p5) (fun i hi => ⟨fun z => z.resolve_right hi, Or.inl⟩) ((gX_off.mono (by decide)).tr o') (fun _ => j2)
      · refine fO11 H w1 (br_F (fun z => by cases z) ?_)
        refine c_way37 H R O n1 w1 hg hj (fun X' h' H' o' => ?_)
        refine tJG H' J (fun h1 h'' H'' j1 j2 => ?_)
        refine k A S h1 X' h'' H'' (BE.ofJ j1) (Or.inr ⟨n1, ?_⟩) ?_ (fun _ _ => Iff.rfl) o' (fun _ => j2)
        · rw [show gP h1 = gP h0 from j1.2.2.2.1]
          exact w1
        · rw [show gP h1 = gP h0 from j1.2.2.2.1]
    · have ev : (wayS wd N p w).1 = 2 := by rw [wayS, cIf_t c1, cIf_f (fun z => c2 ((isN_le (m := 3) (by decide)).mpr z))]
      refine br_F (by decide) (br_T rfl (fun _ => bad (E := "") ev (by decide)))
  · have ev : (wayS wd N p w).1 = 1 := by rw [wayS, cIf_f c1]
    exact br_T rfl (fun _ => bad (E := "") ev (by decide))
end WAYL
