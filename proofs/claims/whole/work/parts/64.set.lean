/-! day, seed, machine, when, ground, walk -/
section SETP
variable {A : Nat → Nat} {S : Nat → Prop} {h0 h : AH} {X : Nat → Nat → Int32} {wd : Nat → Int32} {N : Nat → Nat} {Q : Int32 → AH → Prop} {Qv : AH → Prop} {a3 : Nat}
theorem Ok.setF (O : Ok wd N) {wd' : Nat → Int32} {p : Nat} (hp : p < N 3) (e : ∀ i, i < 349 + 6 * p ∨ 355 + 6 * p ≤ i → wd' i = wd i) (h : OkF wd' p) : Ok wd' N := by
  have hg := O.g.2; have hpp := O.p.2; have hf := O.f.2; have ht := O.t.2; have ho := O.o.2; have hs := O.s.2
  have q : ∀ i M, i < 13 → bN wd N i M → bN wd' N i M := fun i M hi h => ⟨by rw [e i (by omega)]; exact h.1, h.2⟩
  obtain ⟨⟨n0, n1, n2, n3, n4, n5, n6, n7, n10, n11, n12⟩, o1, o2, o3, o4, o5, o6, o7⟩ := O
  refine ⟨⟨q _ _ (by omega) n0, q _ _ (by omega) n1, q _ _ (by omega) n2, q _ _ (by omega) n3, q _ _ (by omega) n4, q _ _ (by omega) n5, q _ _ (by omega) n6, q _ _ (by omega) n7, q _ _ (by omega) n10, q _ _ (by omega) n11, q _ _ (by omega) n12⟩, ?_, ?_, ?_, ?_, ?_, ?_, ?_⟩
  · intro c hc
    rw [e (13 + c) (by omega)]
    exact o1 c hc
  · exact fun g h => OkG_c (o2 g h) (fun i h1 h2 => e i (by omega))
  · exact fun g h => OkP_c (o3 g h) (fun i h1 h2 => e i (by omega))
  · intro g hg2
    by_cases c : g = p
    · subst c
      exact h
    · exact OkF_c (o4 g hg2) (fun i h1 h2 => e i (by omega))
  · exact fun g h => OkT_c (o5 g h) (fun i h1 h2 => e i (by omega))
  · exact fun g h => OkL_c (o6 g h) (fun i h1 h2 => e i (by omega))
  · exact fun g h => OkS_c (o7 g h) (fun i h1 h2 => e i (by omega))
noncomputable def dayS (y : Int32) : Int32 × Int32 := cIf (inR y 1800 1999) (0, 0) (1, 0)
noncomputable def dayW (wd : Nat → Int32) (y : Int32) : Nat → Int32 := cIf (inR y 1800 1999) (va_up wd 8 y) wd
theorem day_ok (O : Ok wd N) {y : Int32} : Ok (dayW wd y) N := by
  have hg := O.g.2; have hpp := O.p.2; have hf := O.f.2; have ht := O.t.2; have ho := O.o.2; have hs := O.s.2
  unfold dayW
  by_cases e : inR y 1800 1999
  · rw [cIf_t e]
    exact O.irr (by unfold us; omega) y
  · rw [cIf_f e]
    exact O
theorem L_day (H : G A S h0 X h) (R : CR X wd) {y : Int32} (k : ∀ X' h', G A S h0 X' h' → SC X X' → CR X' (dayW wd y) → Q (dayS y).1 h') : w_L_day (A 11) y h Q := by
  dsimp only [w_L_day_8, w_L_day, w_X11_day]
  (repeat (first | with_reducible refine bd_i ?_ | with_reducible refine fP H (by with_unfolding_all first | exact H.b | exact hS) (by with_unfolding_all rfl) (by with_unfolding_all rfl) ?_ | with_reducible refine vG H (by with_unfolding_all first | exact H.b | exact hS) (by with_unfolding_all rfl) ?_ | with_reducible refine fC_ H R (by with_unfolding_all exact H.b) (by with_unfolding_all rfl) (by with_unfolding_all rfl) ?_ | with_reducible refine aC H R (by with_unfolding_all exact H.b) (by with_unfolding_all rfl) (by decide) (by with_unfolding_all rfl) rfl (by omega) ?_ | with_reducible refine fG H (by with_unfolding_all first | exact H.b | exact hS) (by with_unfolding_all rfl) ?_ | with_reducible refine aG H (by with_unfolding_all first | exact H.b | exact hS) (by with_unfolding_all rfl) (by decide) rfl (by omega) ?_))
  refine c_yr (fun c => c_ne1 ?_) (fun c => c_ne0 ?_)
  · rw [dayS, dayW, cIf_t c, cIf_t c] at k
    (repeat (first | with_reducible refine bd_i ?_ | with_reducible refine fP H (by with_unfolding_all first | exact H.b | exact hS) (by with_unfolding_all rfl) (by with_unfolding_all rfl) ?_ | with_reducible refine vG H (by with_unfolding_all first | exact H.b | exact hS) (by with_unfolding_all rfl) ?_ | with_reducible refine fC_ H R (by with_unfolding_all exact H.b) (by with_unfolding_all rfl) (by with_unfolding_all rfl) ?_ | with_reducible refine aC H R (by with_unfolding_all exact H.b) (by with_unfolding_all rfl) (by decide) (by with_unfolding_all rfl) rfl (by omega) ?_ | with_reducible refine fG H (by with_unfolding_all first | exact H.b | exact hS) (by with_unfolding_all rfl) ?_ | with_reducible refine aG H (by with_unfolding_all first | exact H.b | exact hS) (by with_unfolding_all rfl) (by decide) rfl (by omega) ?_))
    exact uC (o := 7) H R H.b rfl rfl (fun h1 H1 R1 => k _ h1 H1 (SC.of ((ST.rf X).up rfl _ _)) R1)
  · rw [dayS, dayW, cIf_f c, cIf_f c] at k
    exact br_T rfl (fun q => k _ _ H (SC.of (ST.rf _)) R)
theorem m_day_ (H : G A S h0 X h) (M : MR X wd) {y : Int32} (k : ∀ X' h', G A S h0 X' h' → OW X X' → MR X' (dayW wd y) → X' 12 0 = (dayS y).1 → Qv h') : w_X12_day (A 12) y h Qv := by
  dsimp only [w_X12_day]
  refine m_ent H M (fun X1 h1 H1 M1 o1 t1 => ?_)
  clear H M
  have H := H1
  have M := M1
  refine m_year (fun c => ?_) (fun c => ?_)
  · rw [dayS, dayW, cIf_t c, cIf_t c] at k
    (repeat (first | with_reducible refine thr0 ?_ | with_reducible refine br_T rfl ?_ | with_reducible refine bd_i ?_ | with_reducible refine fP H (by with_unfolding_all exact H.b) (by with_unfolding_all rfl) (by with_unfolding_all rfl) ?_ | with_reducible refine vG H (by with_unfolding_all exact H.b) (by with_unfolding_all rfl) ?_ | with_reducible refine aM H M rfl (by omega) ?_ | with_reducible refine aM H M (ix0 0) (by omega) ?_ | with_reducible refine aM H M (ix0 1) (by omega) ?_ | with_reducible refine aM H M (ix0 2) (by omega) ?_ | with_reducible refine aM H M (ix0 3) (by omega) ?_ | with_reducible refine aM H M (ix0 4) (by omega) ?_ | with_reducible refine aM H M (ix0 5) (by omega) ?_ | with_reducible refine aM H M (ix0 6) (by omega) ?_ | with_reducible refine aM H M (ix0 7) (by omega) ?_ | with_reducible refine aM H M (ix0 8) (by omega) ?_ | with_reducible refine aM H M (ix0 9) (by omega) ?_ | with_reducible refine aM H M (ix0 10) (by omega) ?_ | with_reducible refine aM H M (ix0 11) (by omega) ?_ | with_reducible refine aM H M (ix0 12) (by omega) ?_ | with_reducible refine aM H M (ix1 13 _) (by omega) ?_ | with_reducible refine aM H M (ix1 1161 _) (by omega) ?_ | with_reducible refine aM H M (ix2 269 4 _) (by omega) ?_ | with_reducible refine aM H M (ix4 269 4 _ 1) (by omega) ?_ | with_reducible refine aM H M (ix4 269 4 _ 2) (by omega) ?_ | with_reducible refine aM H M (ix4 269 4 _ 3) (by omega) ?_ | with_reducible refine fG H (by with_unfolding_all exact H.b) (by with_unfolding_all rfl) ?_ | with_reducible refine aG H (by with_unfolding_all exact H.b) (by with_unfolding_all rfl) (by decide) rfl (by omega) ?_))
    refine tM H M (ix0 8) (by decide) (fun h2 H2 M2 => ?_)
    exact k _ h2 H2 ((OW.of o1).wr _ _) M2 (by rw [up_row _ _ _ (by decide)]; exact t1)
  · rw [dayS, dayW, cIf_f c, cIf_f c] at k
    (repeat (first | with_reducible refine bd_i ?_ | with_reducible refine fP H (by with_unfolding_all exact H.b) (by with_unfolding_all rfl) (by with_unfolding_all rfl) ?_ | with_reducible refine vG H (by with_unfolding_all exact H.b) (by with_unfolding_all rfl) ?_ | with_reducible refine aM H M rfl (by omega) ?_ | with_reducible refine aM H M (ix0 0) (by omega) ?_ | with_reducible refine aM H M (ix0 1) (by omega) ?_ | with_reducible refine aM H M (ix0 2) (by omega) ?_ | with_reducible refine aM H M (ix0 3) (by omega) ?_ | with_reducible refine aM H M (ix0 4) (by omega) ?_ | with_reducible refine aM H M (ix0 5) (by omega) ?_ | with_reducible refine aM H M (ix0 6) (by omega) ?_ | with_reducible refine aM H M (ix0 7) (by omega) ?_ | with_reducible refine aM H M (ix0 8) (by omega) ?_ | with_reducible refine aM H M (ix0 9) (by omega) ?_ | with_reducible refine aM H M (ix0 10) (by omega) ?_ | with_reducible refine aM H M (ix0 11) (by omega) ?_ | with_reducible refine aM H M (ix0 12) (by omega) ?_ | with_reducible refine aM H M (ix1 13 _) (by omega) ?_ | with_reducible refine aM H M (ix1 1161 _) (by omega) ?_ | with_reducible refine aM H M (ix2 269 4 _) (by omega) ?_ | with_reducible refine aM H M (ix4 269 4 _ 1) (by omega) ?_ | with_reducible refine aM H M (ix4 269 4 _ 2) (by omega) ?_ | with_reducible refine aM H M (ix4 269 4 _ 3) (by omega) ?_ | with_reducible refine fG H (by with_unfolding_all exact H.b) (by with_unfolding_all rfl) ?_ | with_reducible refine aG H (by with_unfolding_all exact H.b) (by with_unfolding_all rfl) (by decide) rfl (by omega) ?_))
    exact thr1 H (fun h2 H2 => br_F (by decide) (k _ _ H2 ((OW.of o1).th 1) (M.off (id := 12) (by decide) 0 1) (up_same _ _ _ _)))
theorem seed_ok (O : Ok wd N) {y : Int32} : Ok (va_up wd 9 y) N := by
  have hg := O.g.2; have hpp := O.p.2; have hf := O.f.2; have ht := O.t.2; have ho := O.o.2; have hs := O.s.2
  exact O.irr (by unfold us; omega) y
theorem c_seed (H : G A S h0 X h) (R : CR X wd) {y : Int32} (k : ∀ X' h', G A S h0 X' h' → SC X X' → CR X' (va_up wd 9 y) → Qv h') : w_X11_seed (A 11) y h Qv := by
  dsimp only [w_X11_seed]
  (repeat (first | with_reducible refine bd_i ?_ | with_reducible refine fP H (by with_unfolding_all first | exact H.b | exact hS) (by with_unfolding_all rfl) (by with_unfolding_all rfl) ?_ | with_reducible refine vG H (by with_unfolding_all first | exact H.b | exact hS) (by with_unfolding_all rfl) ?_ | with_reducible refine fC_ H R (by with_unfolding_all exact H.b) (by with_unfolding_all rfl) (by with_unfolding_all rfl) ?_ | with_reducible refine aC H R (by with_unfolding_all exact H.b) (by with_unfolding_all rfl) (by decide) (by with_unfolding_all rfl) rfl (by omega) ?_ | with_reducible refine fG H (by with_unfolding_all first | exact H.b | exact hS) (by with_unfolding_all rfl) ?_ | with_reducible refine aG H (by with_unfolding_all first | exact H.b | exact hS) (by with_unfolding_all rfl) (by decide) rfl (by omega) ?_))
  exact uC (o := 7) H R H.b rfl rfl (fun h1 H1 R1 => k _ h1 H1 (SC.of ((ST.rf X).up rfl _ _)) R1)
theorem m_seed_ (H : G A S h0 X h) (M : MR X wd) {y : Int32} (k : ∀ X' h', G A S h0 X' h' → OW X X' → MR X' (va_up wd 9 y) → Qv h') : w_X12_seed (A 12) y h Qv := by
  dsimp only [w_X12_seed]
  refine m_ent H M (fun X1 h1 H1 M1 o1 t1 => ?_)
  clear H M
  have H := H1
  have M := M1
  (repeat (first | with_reducible refine bd_i ?_ | with_reducible refine fP H (by with_unfolding_all exact H.b) (by with_unfolding_all rfl) (by with_unfolding_all rfl) ?_ | with_reducible refine vG H (by with_unfolding_all exact H.b) (by with_unfolding_all rfl) ?_ | with_reducible refine aM H M rfl (by omega) ?_ | with_reducible refine aM H M (ix0 0) (by omega) ?_ | with_reducible refine aM H M (ix0 1) (by omega) ?_ | with_reducible refine aM H M (ix0 2) (by omega) ?_ | with_reducible refine aM H M (ix0 3) (by omega) ?_ | with_reducible refine aM H M (ix0 4) (by omega) ?_ | with_reducible refine aM H M (ix0 5) (by omega) ?_ | with_reducible refine aM H M (ix0 6) (by omega) ?_ | with_reducible refine aM H M (ix0 7) (by omega) ?_ | with_reducible refine aM H M (ix0 8) (by omega) ?_ | with_reducible refine aM H M (ix0 9) (by omega) ?_ | with_reducible refine aM H M (ix0 10) (by omega) ?_ | with_reducible refine aM H M (ix0 11) (by omega) ?_ | with_reducible refine aM H M (ix0 12) (by omega) ?_ | with_reducible refine aM H M (ix1 13 _) (by omega) ?_ | with_reducible refine aM H M (ix1 1161 _) (by omega) ?_ | with_reducible refine aM H M (ix2 269 4 _) (by omega) ?_ | with_reducible refine aM H M (ix4 269 4 _ 1) (by omega) ?_ | with_reducible refine aM H M (ix4 269 4 _ 2) (by omega) ?_ | with_reducible refine aM H M (ix4 269 4 _ 3) (by omega) ?_ | with_reducible refine fG H (by with_unfolding_all exact H.b) (by with_unfolding_all rfl) ?_ | with_reducible refine aG H (by with_unfolding_all exact H.b) (by with_unfolding_all rfl) (by decide) rfl (by omega) ?_))
  refine tM H M (ix0 9) (by decide) (fun h2 H2 M2 => ?_)
  exact k _ h2 H2 ((OW.of o1).wr _ _) M2
def maC (a b : Int32) : Prop := inR a 0 9 ∧ inR b 0 3
noncomputable def machineS (a b : Int32) : Int32 × Int32 := cIf (maC a b) (0, 0) (1, 0)
noncomputable def machineW (wd : Nat → Int32) (a b : Int32) : Nat → Int32 := cIf (maC a b) (va_up (va_up wd 10 a) 11 b) wd
noncomputable def machineN (N : Nat → Nat) (a b : Int32) : Nat → Nat := cIf (maC a b) (va_up (va_up N 10 (nt a)) 11 (nt b)) N
theorem machine_ok (O : Ok wd N) {a b : Int32} : Ok (machineW wd a b) (machineN N a b) := by
  unfold machineW machineN
  by_cases e : maC a b
  · rw [cIf_t e, cIf_t e]
    obtain ⟨ha, ha2⟩ := inR_bn (M := 9) (by decide) e.1
    obtain ⟨hb, hb2⟩ := inR_bn (M := 3) (by decide) e.2
    rw [ha, hb, nt_nI (by omega), nt_nI (by omega)]
    exact (O.sc (w := 10) (M := 9) (by omega) ha2).sc (w := 11) (M := 3) (by omega) hb2
  · rw [cIf_f e, cIf_f e]
    exact O
theorem L_machine (H : G A S h0 X h) (R : CR X wd) {a b : Int32} (k : ∀ X' h', G A S h0 X' h' → SC X X' → CR X' (machineW wd a b) → Q (machineS a b).1 h') : w_L_machine (A 11) a b h Q := by
  have kf : ¬ maC a b → Q 1 h := by
    intro c
    rw [machineS, machineW, cIf_f c, cIf_f c] at k
    exact k _ _ H (SC.of (ST.rf _)) R
  dsimp only [w_L_machine_9, w_L_machine, w_X11_machine_24, w_X11_machine_23, w_X11_machine]
  (repeat (first | with_reducible refine bd_i ?_ | with_reducible refine fP H (by with_unfolding_all first | exact H.b | exact hS) (by with_unfolding_all rfl) (by with_unfolding_all rfl) ?_ | with_reducible refine vG H (by with_unfolding_all first | exact H.b | exact hS) (by with_unfolding_all rfl) ?_ | with_reducible refine fC_ H R (by with_unfolding_all exact H.b) (by with_unfolding_all rfl) (by with_unfolding_all rfl) ?_ | with_reducible refine aC H R (by with_unfolding_all exact H.b) (by with_unfolding_all rfl) (by decide) (by with_unfolding_all rfl) rfl (by omega) ?_ | with_reducible refine fG H (by with_unfolding_all first | exact H.b | exact hS) (by with_unfolding_all rfl) ?_ | with_reducible refine aG H (by with_unfolding_all first | exact H.b | exact hS) (by with_unfolding_all rfl) (by decide) rfl (by omega) ?_))
  refine c_wi (fun c1 => br_F (by decide) ?_) (fun c1 => br_T rfl (c_ne0 (br_T rfl (fun q => kf (fun z => c1 z.1)))))
  refine c_wi (fun c2 => br_F (by decide) ?_) (fun c2 => br_T rfl (c_ne0 (br_T rfl (fun q => kf (fun z => c2 z.2)))))
  have c : maC a b := ⟨c1, c2⟩
  rw [machineS, machineW, cIf_t c, cIf_t c] at k
  refine c_ne1 ?_
  (repeat (first | with_reducible refine bd_i ?_ | with_reducible refine fP H (by with_unfolding_all first | exact H.b | exact hS) (by with_unfolding_all rfl) (by with_unfolding_all rfl) ?_ | with_reducible refine vG H (by with_unfolding_all first | exact H.b | exact hS) (by with_unfolding_all rfl) ?_ | with_reducible refine fC_ H R (by with_unfolding_all exact H.b) (by with_unfolding_all rfl) (by with_unfolding_all rfl) ?_ | with_reducible refine aC H R (by with_unfolding_all exact H.b) (by with_unfolding_all rfl) (by decide) (by with_unfolding_all rfl) rfl (by omega) ?_ | with_reducible refine fG H (by with_unfolding_all first | exact H.b | exact hS) (by with_unfolding_all rfl) ?_ | with_reducible refine aG H (by with_unfolding_all first | exact H.b | exact hS) (by with_unfolding_all rfl) (by decide) rfl (by omega) ?_))
  refine uC (o := 1) H R H.b rfl rfl (fun h1 H1 R1 => ?_)
  refine fP (o := 11) H1 H1.b rfl rfl ?_
  refine fP (o := 7) H1 H1.b rfl rfl ?_
  refine uC (o := 1) H1 R1 H1.b rfl rfl (fun h2 H2 R2 => ?_)
  exact k _ h2 H2 (SC.of (((ST.rf X).up rfl _ _).up rfl _ _)) R2
theorem m_machine_ (H : G A S h0 X h) (M : MR X wd) {a b : Int32} (k : ∀ X' h', G A S h0 X' h' → OW X X' → MR X' (machineW wd a b) → X' 12 0 = (machineS a b).1 → Qv h') : w_X12_machine (A 12) a b h Qv := by
  dsimp only [w_X12_machine_30, w_X12_machine_25, w_X12_machine]
  refine m_ent H M (fun X1 h1 H1 M1 o1 t1 => ?_)
  clear H M
  have H := H1
  have M := M1
  have kf : ¬ maC a b → ∀ K : Int32 → AH → Prop, (∀ h2, K 1 h2 = Qv h2) → vr h1 (A 12) 12 (w_X12_throwsIf (A 12) 1 1 h1 K) := by
    intro c K hK
    rw [machineS, machineW, cIf_f c, cIf_f c] at k
    refine vG (o := 12) H H.b rfl ?_
    refine thr1 H (fun h2 H2 => ?_)
    rw [hK]
    exact k _ _ H2 ((OW.of o1).th 1) (M.off (id := 12) (by decide) 0 1) (up_same _ _ _ _)
  refine m_rng (fun c1 => br_F (by decide) ?_) (fun c1 => br_T rfl (kf (fun z => c1 z.1) _ (fun h2 => br10 _ _)))
  refine m_rng (fun c2 => br_F (by decide) ?_) (fun c2 => br_T rfl (kf (fun z => c2 z.2) _ (fun h2 => br10 _ _)))
  have c : maC a b := ⟨c1, c2⟩
  rw [machineS, machineW, cIf_t c, cIf_t c] at k
  (repeat (first | with_reducible refine thr0 ?_ | with_reducible refine bd_i ?_ | with_reducible refine fP H (by with_unfolding_all exact H.b) (by with_unfolding_all rfl) (by with_unfolding_all rfl) ?_ | with_reducible refine vG H (by with_unfolding_all exact H.b) (by with_unfolding_all rfl) ?_ | with_reducible refine aM H M rfl (by omega) ?_ | with_reducible refine aM H M (ix0 0) (by omega) ?_ | with_reducible refine aM H M (ix0 1) (by omega) ?_ | with_reducible refine aM H M (ix0 2) (by omega) ?_ | with_reducible refine aM H M (ix0 3) (by omega) ?_ | with_reducible refine aM H M (ix0 4) (by omega) ?_ | with_reducible refine aM H M (ix0 5) (by omega) ?_ | with_reducible refine aM H M (ix0 6) (by omega) ?_ | with_reducible refine aM H M (ix0 7) (by omega) ?_ | with_reducible refine aM H M (ix0 8) (by omega) ?_ | with_reducible refine aM H M (ix0 9) (by omega) ?_ | with_reducible refine aM H M (ix0 10) (by omega) ?_ | with_reducible refine aM H M (ix0 11) (by omega) ?_ | with_reducible refine aM H M (ix0 12) (by omega) ?_ | with_reducible refine aM H M (ix1 13 _) (by omega) ?_ | with_reducible refine aM H M (ix1 1161 _) (by omega) ?_ | with_reducible refine aM H M (ix2 269 4 _) (by omega) ?_ | with_reducible refine aM H M (ix4 269 4 _ 1) (by omega) ?_ | with_reducible refine aM H M (ix4 269 4 _ 2) (by omega) ?_ | with_reducible refine aM H M (ix4 269 4 _ 3) (by omega) ?_ | with_reducible refine fG H (by with_unfolding_all exact H.b) (by with_unfolding_all rfl) ?_ | with_reducible refine aG H (by with_unfolding_all exact H.b) (by with_unfolding_all rfl) (by decide) rfl (by omega) ?_))
  refine br_T rfl ?_
  refine adM H M 10 (ix0 10) (by decide) (fun h2 H2 M2 => ?_)
  refine adM H2 M2 11 (ix0 11) (by decide) (fun h3 H3 M3 => ?_)
  refine k _ h3 H3 (((OW.of o1).wr _ _).wr _ _) M3 ?_
  rw [up_row _ _ _ (by decide), up_row _ _ _ (by decide)]
  exact t1
def whC (wd : Nat → Int32) (N : Nat → Nat) (f a b : Int32) : Prop := isN f (N 3) ∧ wd (349 + 6 * nt f) = 0 ∧ inR a 0 b ∧ ¬ 239 < b
noncomputable def whenS (wd : Nat → Int32) (N : Nat → Nat) (f a b : Int32) : Int32 × Int32 := cIf (isN f (N 3)) (cIf (wd (349 + 6 * nt f) = 0 ∧ inR a 0 b ∧ ¬ 239 < b) (0, 0) (2, 0)) (1, 0)
noncomputable def whenW (wd : Nat → Int32) (N : Nat → Nat) (f a b : Int32) : Nat → Int32 := cIf (whC wd N f a b) (va_up (va_up wd (353 + 6 * nt f) a) (354 + 6 * nt f) b) wd
theorem when_ok (O : Ok wd N) {f a b : Int32} : Ok (whenW wd N f a b) N := by
  unfold whenW
  by_cases e : whC wd N f a b
  · rw [cIf_t e]
    obtain ⟨h1, h2, h3⟩ := e
    obtain ⟨n, hn, rfl⟩ := h1
    have h3_ := O.f.2
    rw [nt_nI (by omega)] at *
    obtain ⟨b1, b2, b3⟩ := min_bn h3
    refine O.setF hn (fun i hi => ?_) ?_
    · rw [va_up_ne _ _ (by omega), va_up_ne _ _ (by omega)]
    · obtain ⟨q1, q2, q3, q4, q5, q6, q7, q8⟩ := O.F hn
      unfold OkF
      rw [va_up_self, va_up_ne _ _ (show 353 + 6 * n ≠ 354 + 6 * n by omega), va_up_self]
      rw [va_up_ne _ _ (show 349 + 6 * n ≠ 354 + 6 * n by omega), va_up_ne _ _ (show 349 + 6 * n ≠ 353 + 6 * n by omega), va_up_ne _ _ (show 350 + 6 * n ≠ 354 + 6 * n by omega), va_up_ne _ _ (show 350 + 6 * n ≠ 353 + 6 * n by omega), va_up_ne _ _ (show 351 + 6 * n ≠ 354 + 6 * n by omega), va_up_ne _ _ (show 351 + 6 * n ≠ 353 + 6 * n by omega), va_up_ne _ _ (show 352 + 6 * n ≠ 354 + 6 * n by omega), va_up_ne _ _ (show 352 + 6 * n ≠ 353 + 6 * n by omega)]
      exact ⟨q1, q2, q3, q4, b1, b2, b3, q8⟩
  · rw [cIf_f e]
    exact O
theorem L_when (H : G A S h0 X h) (R : CR X wd) (O : Ok wd N) {f a b : Int32} (k : ∀ X' h', G A S h0 X' h' → SC X X' → CR X' (whenW wd N f a b) → Q (whenS wd N f a b).1 h') : w_L_when (A 11) f a b h Q := by
  obtain ⟨e3, h3⟩ := O.f
  dsimp only [w_L_when_14, w_L_when_10, w_L_when, w_X11_when_42, w_X11_when_41, w_X11_when]
  (repeat (first | with_reducible refine bd_i ?_ | with_reducible refine fP H (by with_unfolding_all first | exact H.b | exact hS) (by with_unfolding_all rfl) (by with_unfolding_all rfl) ?_ | with_reducible refine vG H (by with_unfolding_all first | exact H.b | exact hS) (by with_unfolding_all rfl) ?_ | with_reducible refine fC_ H R (by with_unfolding_all exact H.b) (by with_unfolding_all rfl) (by with_unfolding_all rfl) ?_ | with_reducible refine aC H R (by with_unfolding_all exact H.b) (by with_unfolding_all rfl) (by decide) (by with_unfolding_all rfl) rfl (by omega) ?_ | with_reducible refine fG H (by with_unfolding_all first | exact H.b | exact hS) (by with_unfolding_all rfl) ?_ | with_reducible refine aG H (by with_unfolding_all first | exact H.b | exact hS) (by with_unfolding_all rfl) (by decide) rfl (by omega) ?_))
  rw [e3]
  refine c_num (by omega) (fun c1 => ?_) (fun c1 => ?_)
  · have kf : ¬ (wd (349 + 6 * nt f) = 0 ∧ inR a 0 b ∧ ¬ 239 < b) → Q 2 h := by
      intro z
      rw [whenS, whenW, cIf_t c1, cIf_f z, cIf_f (show ¬ whC wd N f a b from fun y => z y.2)] at k
      exact k _ _ H (SC.of (ST.rf _)) R
    have c1_ := c1
    obtain ⟨n, hn, rfl⟩ := c1
    have en : nt (nI n) = n := nt_nI (by omega)
    (repeat (first | with_reducible refine bd_i ?_ | with_reducible refine fP H (by with_unfolding_all first | exact H.b | exact hS) (by with_unfolding_all rfl) (by with_unfolding_all rfl) ?_ | with_reducible refine vG H (by with_unfolding_all first | exact H.b | exact hS) (by with_unfolding_all rfl) ?_ | with_reducible refine fC_ H R (by with_unfolding_all exact H.b) (by with_unfolding_all rfl) (by with_unfolding_all rfl) ?_ | with_reducible refine aC H R (by with_unfolding_all exact H.b) (by with_unfolding_all rfl) (by decide) (by with_unfolding_all rfl) rfl (by omega) ?_ | with_reducible refine fG H (by with_unfolding_all first | exact H.b | exact hS) (by with_unfolding_all rfl) ?_ | with_reducible refine aG H (by with_unfolding_all first | exact H.b | exact hS) (by with_unfolding_all rfl) (by decide) rfl (by omega) ?_))
    refine br_if (fun c2 => ?_) (fun c2 => c_ne0 (br_F (by decide) (br_T rfl (fun q => kf (fun z => c2 (by rw [en] at z; exact z.1))))))
    refine c_min (fun c3 => br_F (by decide) ?_) (fun c3 => br_T rfl (c_ne0 (br_F (by decide) (br_T rfl (fun q => kf (fun z => c3 z.2))))))
    have hw : wd (349 + 6 * nt (nI n)) = 0 ∧ inR a 0 b ∧ ¬ 239 < b := ⟨by rw [en]; exact c2, c3⟩
    rw [whenS, whenW, cIf_t c1_, cIf_t hw, cIf_t (show whC wd N (nI n) a b from ⟨c1_, hw⟩), en] at k
    refine c_ne1 ?_
    (repeat (first | with_reducible refine bd_i ?_ | with_reducible refine fP H (by with_unfolding_all first | exact H.b | exact hS) (by with_unfolding_all rfl) (by with_unfolding_all rfl) ?_ | with_reducible refine vG H (by with_unfolding_all first | exact H.b | exact hS) (by with_unfolding_all rfl) ?_ | with_reducible refine fC_ H R (by with_unfolding_all exact H.b) (by with_unfolding_all rfl) (by with_unfolding_all rfl) ?_ | with_reducible refine aC H R (by with_unfolding_all exact H.b) (by with_unfolding_all rfl) (by decide) (by with_unfolding_all rfl) rfl (by omega) ?_ | with_reducible refine fG H (by with_unfolding_all first | exact H.b | exact hS) (by with_unfolding_all rfl) ?_ | with_reducible refine aG H (by with_unfolding_all first | exact H.b | exact hS) (by with_unfolding_all rfl) (by decide) rfl (by omega) ?_))
    refine tC (id := 205) H R H.b rfl (by decide) rfl rfl (by omega) (fun h1 H1 R1 => ?_)
    refine fP (o := 11) H1 H1.b rfl rfl ?_
    refine fP (o := 7) H1 H1.b rfl rfl ?_
    refine fP (o := 1) H1 H1.b rfl rfl ?_
    refine tC (id := 206) H1 R1 H1.b rfl (by decide) rfl rfl (by omega) (fun h2 H2 R2 => ?_)
    exact k _ h2 H2 (SC.of (((ST.rf X).up rfl _ _).up rfl _ _)) R2
  · rw [whenS, whenW, cIf_f c1, cIf_f (show ¬ whC wd N f a b from fun y => c1 y.1)] at k
    exact br_T rfl (fun q => k _ _ H (SC.of (ST.rf _)) R)
theorem m_when_ (H : G A S h0 X h) (M : MR X wd) (O : Ok wd N) {f a b : Int32} (k : ∀ X' h', G A S h0 X' h' → OW X X' → MR X' (whenW wd N f a b) → X' 12 0 = (whenS wd N f a b).1 → Qv h') : w_X12_when (A 12) f a b h Qv := by
  obtain ⟨e3, h3⟩ := O.f
  dsimp only [w_X12_when_57, w_X12_when_50, w_X12_when_45, w_X12_when]
  refine m_ent H M (fun X1 h1 H1 M1 o1 t1 => ?_)
  clear H M
  have H := H1
  have M := M1
  (repeat (first | with_reducible refine bd_i ?_ | with_reducible refine fP H (by with_unfolding_all exact H.b) (by with_unfolding_all rfl) (by with_unfolding_all rfl) ?_ | with_reducible refine vG H (by with_unfolding_all exact H.b) (by with_unfolding_all rfl) ?_ | with_reducible refine aM H M rfl (by omega) ?_ | with_reducible refine aM H M (ix0 0) (by omega) ?_ | with_reducible refine aM H M (ix0 1) (by omega) ?_ | with_reducible refine aM H M (ix0 2) (by omega) ?_ | with_reducible refine aM H M (ix0 3) (by omega) ?_ | with_reducible refine aM H M (ix0 4) (by omega) ?_ | with_reducible refine aM H M (ix0 5) (by omega) ?_ | with_reducible refine aM H M (ix0 6) (by omega) ?_ | with_reducible refine aM H M (ix0 7) (by omega) ?_ | with_reducible refine aM H M (ix0 8) (by omega) ?_ | with_reducible refine aM H M (ix0 9) (by omega) ?_ | with_reducible refine aM H M (ix0 10) (by omega) ?_ | with_reducible refine aM H M (ix0 11) (by omega) ?_ | with_reducible refine aM H M (ix0 12) (by omega) ?_ | with_reducible refine aM H M (ix1 13 _) (by omega) ?_ | with_reducible refine aM H M (ix1 1161 _) (by omega) ?_ | with_reducible refine aM H M (ix2 269 4 _) (by omega) ?_ | with_reducible refine aM H M (ix4 269 4 _ 1) (by omega) ?_ | with_reducible refine aM H M (ix4 269 4 _ 2) (by omega) ?_ | with_reducible refine aM H M (ix4 269 4 _ 3) (by omega) ?_ | with_reducible refine fG H (by with_unfolding_all exact H.b) (by with_unfolding_all rfl) ?_ | with_reducible refine aG H (by with_unfolding_all exact H.b) (by with_unfolding_all rfl) (by decide) rfl (by omega) ?_))
  refine m_num H M (ix0 3) (by decide) (by omega) e3 (fun c1 => ?_) (fun c1 => ?_)
  · have kf : ¬ (wd (349 + 6 * nt f) = 0 ∧ inR a 0 b ∧ ¬ 239 < b) → ∀ K : Int32 → AH → Prop, (∀ h2, K 1 h2 = Qv h2) → vr h1 (A 12) 12 (w_X12_throwsIf (A 12) 1 2 h1 K) := by
      intro z K hK
      rw [whenS, whenW, cIf_t c1, cIf_f z, cIf_f (show ¬ whC wd N f a b from fun y => z y.2)] at k
      refine vG (o := 12) H H.b rfl ?_
      refine thr1 H (fun h2 H2 => ?_)
      rw [hK]
      exact k _ _ H2 ((OW.of o1).th 2) (M.off (id := 12) (by decide) 0 2) (up_same _ _ _ _)
    have c1_ := c1
    obtain ⟨n, hn, rfl⟩ := c1
    have en : nt (nI n) = n := nt_nI (by omega)
    (repeat (first | with_reducible refine thr0 ?_ | with_reducible refine br_T rfl ?_ | with_reducible refine m_isKind H M (by omega) ?_ | with_reducible refine bd_i ?_ | with_reducible refine fP H (by with_unfolding_all exact H.b) (by with_unfolding_all rfl) (by with_unfolding_all rfl) ?_ | with_reducible refine vG H (by with_unfolding_all exact H.b) (by with_unfolding_all rfl) ?_ | with_reducible refine aM H M rfl (by omega) ?_ | with_reducible refine aM H M (ix0 0) (by omega) ?_ | with_reducible refine aM H M (ix0 1) (by omega) ?_ | with_reducible refine aM H M (ix0 2) (by omega) ?_ | with_reducible refine aM H M (ix0 3) (by omega) ?_ | with_reducible refine aM H M (ix0 4) (by omega) ?_ | with_reducible refine aM H M (ix0 5) (by omega) ?_ | with_reducible refine aM H M (ix0 6) (by omega) ?_ | with_reducible refine aM H M (ix0 7) (by omega) ?_ | with_reducible refine aM H M (ix0 8) (by omega) ?_ | with_reducible refine aM H M (ix0 9) (by omega) ?_ | with_reducible refine aM H M (ix0 10) (by omega) ?_ | with_reducible refine aM H M (ix0 11) (by omega) ?_ | with_reducible refine aM H M (ix0 12) (by omega) ?_ | with_reducible refine aM H M (ix1 13 _) (by omega) ?_ | with_reducible refine aM H M (ix1 1161 _) (by omega) ?_ | with_reducible refine aM H M (ix2 269 4 _) (by omega) ?_ | with_reducible refine aM H M (ix4 269 4 _ 1) (by omega) ?_ | with_reducible refine aM H M (ix4 269 4 _ 2) (by omega) ?_ | with_reducible refine aM H M (ix4 269 4 _ 3) (by omega) ?_ | with_reducible refine fG H (by with_unfolding_all exact H.b) (by with_unfolding_all rfl) ?_ | with_reducible refine aG H (by with_unfolding_all exact H.b) (by with_unfolding_all rfl) (by decide) rfl (by omega) ?_))
    refine br_bI (fun c2 => ?_) (fun c2 => ?_)
    · have c2 := of_decide_eq_true c2
      refine m_rng (fun c3 => br_F (by decide) ?_) (fun c3 => br_T rfl (kf (fun z => c3 z.2.1) _ (fun h2 => br10 _ _)))
      refine br_if (fun c4 => ?_) (fun c4 => kf (fun z => z.2.2 (Int32.not_le.mp c4)) _ (fun h2 => br10 _ _))
      have hw : wd (349 + 6 * nt (nI n)) = 0 ∧ inR a 0 b ∧ ¬ 239 < b := ⟨by rw [en]; exact c2, c3, Int32.not_lt.mpr c4⟩
      rw [whenS, whenW, cIf_t c1_, cIf_t hw, cIf_t (show whC wd N (nI n) a b from ⟨c1_, hw⟩), en] at k
      (repeat (first | with_reducible refine thr0 ?_ | with_reducible refine bd_i ?_ | with_reducible refine fP H (by with_unfolding_all exact H.b) (by with_unfolding_all rfl) (by with_unfolding_all rfl) ?_ | with_reducible refine vG H (by with_unfolding_all exact H.b) (by with_unfolding_all rfl) ?_ | with_reducible refine aM H M rfl (by omega) ?_ | with_reducible refine aM H M (ix0 0) (by omega) ?_ | with_reducible refine aM H M (ix0 1) (by omega) ?_ | with_reducible refine aM H M (ix0 2) (by omega) ?_ | with_reducible refine aM H M (ix0 3) (by omega) ?_ | with_reducible refine aM H M (ix0 4) (by omega) ?_ | with_reducible refine aM H M (ix0 5) (by omega) ?_ | with_reducible refine aM H M (ix0 6) (by omega) ?_ | with_reducible refine aM H M (ix0 7) (by omega) ?_ | with_reducible refine aM H M (ix0 8) (by omega) ?_ | with_reducible refine aM H M (ix0 9) (by omega) ?_ | with_reducible refine aM H M (ix0 10) (by omega) ?_ | with_reducible refine aM H M (ix0 11) (by omega) ?_ | with_reducible refine aM H M (ix0 12) (by omega) ?_ | with_reducible refine aM H M (ix1 13 _) (by omega) ?_ | with_reducible refine aM H M (ix1 1161 _) (by omega) ?_ | with_reducible refine aM H M (ix2 269 4 _) (by omega) ?_ | with_reducible refine aM H M (ix4 269 4 _ 1) (by omega) ?_ | with_reducible refine aM H M (ix4 269 4 _ 2) (by omega) ?_ | with_reducible refine aM H M (ix4 269 4 _ 3) (by omega) ?_ | with_reducible refine fG H (by with_unfolding_all exact H.b) (by with_unfolding_all rfl) ?_ | with_reducible refine aG H (by with_unfolding_all exact H.b) (by with_unfolding_all rfl) (by decide) rfl (by omega) ?_))
      refine br_T rfl ?_
      refine adM H M (353 + 6 * n) (by rw [ix4 349 6 n 4]; congr 1; omega) (by omega) (fun h2 H2 M2 => ?_)
      refine adM H2 M2 (354 + 6 * n) (by rw [ix4 349 6 n 5]; congr 1; omega) (by omega) (fun h3 H3 M3 => ?_)
      refine k _ h3 H3 (((OW.of o1).wr _ _).wr _ _) M3 ?_
      rw [up_row _ _ _ (by decide), up_row _ _ _ (by decide)]
      exact t1
    · exact kf (fun z => c2 (decide_eq_true (by rw [en] at z; exact z.1))) _ (fun h2 => br10 _ _)
  · rw [whenS, whenW, cIf_f c1, cIf_f (show ¬ whC wd N f a b from fun y => c1 y.1)] at k
    (repeat (first | with_reducible refine bd_i ?_ | with_reducible refine fP H (by with_unfolding_all exact H.b) (by with_unfolding_all rfl) (by with_unfolding_all rfl) ?_ | with_reducible refine vG H (by with_unfolding_all exact H.b) (by with_unfolding_all rfl) ?_ | with_reducible refine aM H M rfl (by omega) ?_ | with_reducible refine aM H M (ix0 0) (by omega) ?_ | with_reducible refine aM H M (ix0 1) (by omega) ?_ | with_reducible refine aM H M (ix0 2) (by omega) ?_ | with_reducible refine aM H M (ix0 3) (by omega) ?_ | with_reducible refine aM H M (ix0 4) (by omega) ?_ | with_reducible refine aM H M (ix0 5) (by omega) ?_ | with_reducible refine aM H M (ix0 6) (by omega) ?_ | with_reducible refine aM H M (ix0 7) (by omega) ?_ | with_reducible refine aM H M (ix0 8) (by omega) ?_ | with_reducible refine aM H M (ix0 9) (by omega) ?_ | with_reducible refine aM H M (ix0 10) (by omega) ?_ | with_reducible refine aM H M (ix0 11) (by omega) ?_ | with_reducible refine aM H M (ix0 12) (by omega) ?_ | with_reducible refine aM H M (ix1 13 _) (by omega) ?_ | with_reducible refine aM H M (ix1 1161 _) (by omega) ?_ | with_reducible refine aM H M (ix2 269 4 _) (by omega) ?_ | with_reducible refine aM H M (ix4 269 4 _ 1) (by omega) ?_ | with_reducible refine aM H M (ix4 269 4 _ 2) (by omega) ?_ | with_reducible refine aM H M (ix4 269 4 _ 3) (by omega) ?_ | with_reducible refine fG H (by with_unfolding_all exact H.b) (by with_unfolding_all rfl) ?_ | with_reducible refine aG H (by with_unfolding_all exact H.b) (by with_unfolding_all rfl) (by decide) rfl (by omega) ?_))
    exact thr1 H (fun h2 H2 => br_F (by decide) (k _ _ H2 ((OW.of o1).th 1) (M.off (id := 12) (by decide) 0 1) (up_same _ _ _ _)))
end SETP
