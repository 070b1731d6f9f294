/-! who: the reference -/
theorem cl_nI {q p : Nat} (hp : p < 32) : nI q &&& (((1 : Int32) <<< (nI p &&& 31)) ^^^ (-1 : Int32)) = nI (cl q p) := by
  apply b_ext
  intro i hi
  rw [b_and, b_xor, b_m1 i hi, b_nI hi, b_nI hi, b_sh1 hp hi, cl_bit, Bool.xor_true]
  simp
theorem cl_le : ∀ s, s < 256 → ∀ p, p < 8 → cl s p ≤ s := by decide +kernel
theorem fsO_congr {p q : Nat → Bool} : ∀ {n : Nat}, (∀ i, i < n → p i = q i) → fsO p n = fsO q n := by
  intro n
  induction n with
  | zero => intro _; rfl
  | succ n ih =>
    intro h
    simp only [fsO]
    rw [ih (fun i hi => h i (by omega)), h n (by omega)]
theorem plO_add {l : List Nat} {j f : Nat} : plO (l ++ [j]) f (l.length + 1) = match plO l f l.length with
    | some x => some x
    | none => if j = f then some l.length else none := by
  unfold plO
  simp only [fsO]
  rw [fsO_congr (q := fun i => decide (l.getD i 0 = f)) (fun i hi => by
    simp [List.getD_eq_getElem?_getD, List.getElem?_append_left hi])]
  simp
  cases fsO (fun i => decide (l[i]?.getD 0 = f)) l.length <;> rfl
theorem plO_new {wd : Nat → Int32} {j : Nat} : plO (boL wd j) j (boL wd j).length = none := by
  unfold plO
  rw [fsO_none]
  intro i hi
  have hm : (boL wd j).getD i 0 ∈ boL wd j := by
    rw [List.getD_eq_getElem?_getD, List.getElem?_eq_getElem hi]
    exact List.getElem_mem hi
  have := (boL_mem hm).1
  exact decide_eq_false (by omega)
section WHOR
variable {A : Nat → Nat} {S : Nat → Prop} {h0 h : AH} {X : Nat → Nat → Int32} {wd : Nat → Int32} {N : Nat → Nat} {Q : Int32 → AH → Prop} {Qv : AH → Prop} {a3 : Nat}
theorem pI_or {c : Prop} : pI c = 0 ∨ pI c = 1 := by
  by_cases h : c
  · exact Or.inr (pI_t h)
  · exact Or.inl (pI_f h)
theorem O27 {X X' : Nat → Nat → Int32} (o : OM X X') (n : Nat) (v : Int32) : OM X (up X' 1327 n v) := o.up (mS_row rfl) v
/-- one bone: the table of sets -/
theorem m_bone {L : AH → Prop} (H : G A S h0 X h) {l : List Nat} {m b : Nat} {v1 v2 : Int32} (hb : l.length = b) (hb8 : b < 8) (hm : m < 256) (I : ∀ s, s < 256 → X 1327 s = pI (Ac l s)) {k0 : Int32 → AH → Prop} (k : ∀ X' h', G A S h0 X' h' → OM X X' → (∀ id, id ≠ 1327 → X' id = X id) → (∀ s, s < 256 → X' 1327 s = pI (Ac (m :: l) s)) → k0 (nI b + 1) h') : w_X12_canAll_74 L k0 (A 12) v1 v2 (nI b) (nI m) h Q := by
  unfold w_X12_canAll_74
  refine lp_inv 256 (fun j (s : Int32 × AH) => s.1 = nI (256 - j) + (-1) ∧ ∃ X', G A S h0 X' s.2 ∧ OM X X' ∧ (∀ id, id ≠ 1327 → X' id = X id) ∧ ∀ s, s < 256 → X' 1327 s = pI (if 256 - j ≤ s then Ac (m :: l) s else Ac l s)) (fun j s kk1 hj hI kk => ?_) (fun s kk1 hI => ?_) (Nat.zero_le _) ⟨show (255 : Int32) = nI 256 + (-1) by decide, X, H, OM.rf _, fun _ _ => rfl, fun s hs => by rw [if_neg (by omega)]; exact I s hs⟩
  · obtain ⟨v, h1⟩ := s
    obtain ⟨e1, X1, H1, o1, r1, I1⟩ := hI
    dsimp only at e1 H1 ⊢
    have e2 : nI (256 - j) + (-1) = nI (255 - j) := by
      rw [show 256 - j = (255 - j) + 1 by omega]
      exact pk_m1 _
    rw [e2] at e1
    subst e1
    have hq : 255 - j < 256 := by omega
    have hp8 := pc_lt (255 - j) hq
    generalize hqe : 255 - j = q at *
    have fin : ∀ c : Prop, (c ↔ Ac (m :: l) q) → ∀ h2, G A S h0 (up X1 1327 q (pI c)) h2 → kk1 (nI q + (-1), h2) := by
      intro c hc h2 H2
      refine kk _ ⟨by rw [show 256 - (j + 1) = q by omega], _, H2, O27 o1 _ _, fun id hid => by rw [up_row _ _ _ hid]; exact r1 id hid, fun s hs => ?_⟩
      by_cases e : s = q
      · subst e
        rw [up_same, if_pos (by omega)]
        congr 1
        exact propext hc
      · rw [up_n _ _ _ e, I1 s hs]
        by_cases d : 256 - j ≤ s
        · rw [if_pos d, if_pos (by omega)]
        · rw [if_neg d, if_neg (by omega)]
    unfold w_X12_canAll_81
    refine br_F (nI_pos (by omega)) ?_
    by_cases hpq : popN 8 q = b + 1
    · have key : w_X12_canAll_162 (fun h => w_X12_canAll_198 L k0 (A 12) v1 v2 (nI b) h Q) (fun y5 h => kk1 (y5, h)) (A 12) v1 v2 (nI b) (nI m) (nI q) (bI (anyB (fun p => pB (q.testBit p = true ∧ m.testBit p = true ∧ Rr l (cl q p))) 8)) h1 Q := by
        dsimp only [w_X12_canAll_162, w_X12_canAll_191]
        refine fP (o := 12) H1 H1.b rfl rfl ?_
        refine bitCount ?_
        rw [pc_N q hq, hpq]
        refine br_T (nI_succ b) ?_
        have hv : bI (anyB (fun p => pB (q.testBit p = true ∧ m.testBit p = true ∧ Rr l (cl q p))) 8) = pI (Rr (m :: l) q) := by
          rw [pI_B]
          congr 1
          rw [Bool.eq_iff_iff, anyB_iff, pB_iff]
          constructor
          · rintro ⟨p, y1, y2⟩
            obtain ⟨y3, y4, y5⟩ := pB_iff.mp y2
            exact ⟨p, y1, y3, y4, y5⟩
          · rintro ⟨p, y1, y3, y4, y5⟩
            exact ⟨p, y1, pB_iff.mpr ⟨y3, y4, y5⟩⟩
        rw [hv]
        refine tZG (id := 1327) H1 H1.b rfl (by decide) rfl hq pI_or (fun h2 H2 => fin _ ⟨Or.inl, ?_⟩ h2 H2)
        rintro (z | z)
        · exact z
        · have := Ac_pop z
          omega
      refine lp_up 8 (fun i => (bI (anyB (fun p => pB (q.testBit p = true ∧ m.testBit p = true ∧ Rr l (cl q p))) i), nI i, h1)) (fun i kk2 hi kk3 => ?_) (fun kk2 => ?_) (Nat.zero_le _)
      · rw [nI_succ] at kk3
        simp only [anyB] at kk3
        dsimp only [w_X12_canAll_92, w_X12_canAll_149, w_X12_canAll_153, w_X12_canAll_154]
        refine br_go (a := 8) hi (by decide) ?_
        refine bitCount ?_
        rw [pc_N q hq, hpq]
        refine br_T (nI_succ b) ?_
        refine br_bI (fun c1 => ?_) (fun c1 => ?_)
        · rw [c1, Bool.true_or] at kk3
          exact kk3
        · rw [Bool.eq_false_iff.mpr c1, Bool.false_or] at kk3
          refine br_if (fun c => ?_) (fun c => ?_)
          · have c : q.testBit i = true ∧ m.testBit i = true := by
              have hb2 : bt (((nI q >>> (nI i &&& 31)) &&& (nI m >>> (nI i &&& 31))) &&& 1) 0 = (bt (nI q) i && bt (nI m) i) := by
                rw [b_and, b_and, b_sshr i (by omega) _ (by omega), b_sshr i (by omega) _ (by omega), b_1]
                simp [show i < 32 by omega]
              rw [c, b_nI (by omega), b_nI (by omega)] at hb2
              have := hb2.symm.trans (show bt 1 0 = true by decide)
              rw [Bool.and_eq_true] at this
              exact this
            rw [cl_nI (by omega)]
            have hc1 := cl_le q hq i hi
            have hc2 := pop_cl q hq i hi c.1
            refine fP (o := 12) H1 H1.b rfl rfl ?_
            refine aZG (id := 1327) H1 H1.b rfl (by decide) rfl (cl_lt q hq i hi) ?_
            rw [I1 _ (cl_lt q hq i hi), if_neg (by omega)]
            have hAR : Ac l (cl q i) ↔ Rr l (cl q i) := by
              rw [← Ac_Rr]
              exact ⟨fun z => ⟨z, by omega⟩, fun z => z.1⟩
            by_cases hR : Rr l (cl q i)
            · rw [pI_t (hAR.mpr hR)]
              rw [bI_t (pB_iff.mpr ⟨c.1, c.2, hR⟩)] at kk3
              exact br_F (by decide) kk3
            · rw [pI_f (fun z => hR (hAR.mp z))]
              rw [bI_f (Bool.eq_false_iff.mpr (fun z => hR (pB_iff.mp z).2.2))] at kk3
              exact br_T rfl kk3
          · rw [bI_f (Bool.eq_false_iff.mpr (fun z => ?_))] at kk3
            · exact kk3
            · obtain ⟨y1, y2, y3⟩ := pB_iff.mp z
              apply c
              rcases and1 ((nI q >>> (nI i &&& 31)) &&& (nI m >>> (nI i &&& 31))) with w | w
              · exfalso
                have hb2 : bt (((nI q >>> (nI i &&& 31)) &&& (nI m >>> (nI i &&& 31))) &&& 1) 0 = (bt (nI q) i && bt (nI m) i) := by
                  rw [b_and, b_and, b_sshr i (by omega) _ (by omega), b_sshr i (by omega) _ (by omega), b_1]
                  simp [show i < 32 by omega]
                rw [w, b_0, b_nI (by omega), b_nI (by omega), y1, y2] at hb2
                exact Bool.noConfusion hb2
              · exact w
      · dsimp only [w_X12_canAll_92]
        exact br_end (a := 8) key
    · refine lp_up 0 (fun i => (0, nI i, h1)) (fun i kk2 hi kk3 => absurd hi (Nat.not_lt_zero _)) (fun kk2 => ?_) (Nat.zero_le _)
      dsimp only [w_X12_canAll_92, w_X12_canAll_162, w_X12_canAll_191]
      refine br_F (by decide) ?_
      refine bitCount ?_
      rw [pc_N q hq, nI_1]
      refine br_Eq (by omega) (by omega) (fun d => absurd d hpq) (fun d => ?_)
      refine fP (o := 12) H1 H1.b rfl rfl ?_
      refine bitCount ?_
      rw [pc_N q hq]
      refine br_Eq (by omega) (by omega) (fun d => absurd d hpq) (fun d => ?_)
      refine fP (o := 12) H1 H1.b rfl rfl ?_
      refine aZG (id := 1327) H1 H1.b rfl (by decide) rfl hq ?_
      rw [I1 q hq, if_neg (by omega)]
      refine tZG (id := 1327) H1 H1.b rfl (by decide) rfl hq pI_or (fun h2 H2 => fin _ ⟨Or.inr, ?_⟩ h2 H2)
      rintro (z | z)
      · have := Rr_pop z
        simp only [List.length_cons] at this
        omega
      · exact z
  · obtain ⟨v, h1⟩ := s
    obtain ⟨e1, X1, H1, o1, r1, I1⟩ := hI
    dsimp only at e1 H1 ⊢
    subst e1
    unfold w_X12_canAll_81
    refine br_T (by decide) ?_
    dsimp only [w_X12_canAll_198]
    refine k X1 h1 H1 o1 r1 (fun s hs => ?_)
    rw [I1 s hs, if_pos (by omega)]
end WHOR
