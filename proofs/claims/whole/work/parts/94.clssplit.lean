/-! the class's reader: all things of a text; one thing on, a step, a refusal -/
theorem tkH_at {B : Nat → Nat} {n i : Nat} (h : tkB B n i < n) : tkH B n i = tkV B n (tkB B n i) := by
  unfold tkH
  rw [if_pos h]
theorem tcF_stop {B : Nat → Nat} {n : Nat} : ∀ {f i : Nat}, ¬ tkB B n i < n → tcF B n f i = i := by
  intro f i h
  cases f with
  | zero => rfl
  | succ f =>
    simp only [tcF]
    rw [if_neg h]
/-- the things and where they begin -/
def RD (X : Nat → Nat → Int32) (th tb : Nat → Nat) (c : Nat) : Prop := (∀ i, i ≤ c → X 703 i = nI (th i)) ∧ ∀ i, i ≤ c → X 704 i = nI (tb i)
section CSPL
variable {A : Nat → Nat} {S : Nat → Prop} {h0 h : AH} {X : Nat → Nat → Int32} {Q : Int32 → AH → Prop} {Qv : AH → Prop} {B : Nat → Nat} {n : Nat}
theorem TC.off {X' : Nat → Nat → Int32} {L : List Nat} (C : TC X B n) (o : Off L X X') (h6 : 6 ∉ L) (h7 : 700 ∉ L) : TC X' B n := ⟨by rw [o 6 h6]; exact C.1, fun i hi => by rw [o 700 h7]; exact C.2 i hi⟩
theorem c_splitText (H : G A S h0 X h) (C : TC X B n) (hn : n ≤ 400) (hB : ∀ i, i < n → B i < 256) (k : ∀ X' h', G A S h0 X' h' → Off [703, 704] X X' → RD X' (tkH B n) (tkB B n) (tkC B n) → Qv h') : w_X6_splitText (A 6) h Qv := by
  obtain ⟨t1, t2, t3⟩ := tkC_spec (B := B) hn
  dsimp only [w_X6_splitText]
  refine vG (o := 6) H H.b rfl ?_
  refine c_behind (p := 0) (lo := 32) (hi := 32) H C hn hB (by omega) (by decide) (by decide) ?_
  have fin : ∀ j X2 h2, G A S h0 X2 h2 → Off [703, 704] X X2 → (∀ i, i < j → X2 703 i = nI (tkH B n i) ∧ X2 704 i = nI (tkB B n i)) → j = tkC B n → w_X6_splitText_170 (A 6) (nI j) h2 Qv := by
    intro j X2 h2 H2 o2 r2 e
    subst e
    dsimp only [w_X6_splitText_170]
    refine fP (o := 6) H2 H2.b rfl rfl ?_
    refine fG (o := 6) H2 H2.b rfl ?_
    rw [o2 6 (by decide), C.1]
    refine tG (id := 704) H2 H2.b rfl (by decide) rfl (by omega) (fun h3 H3 => ?_)
    refine fP (o := 6) H3 H3.b rfl rfl ?_
    refine tG (id := 703) H3 H3.b rfl (by decide) rfl (by omega) (fun h4 H4 => ?_)
    refine k _ h4 H4 ((o2.up (by decide) _ _).up (by decide) _ _) ⟨fun i hi => ?_, fun i hi => ?_⟩
    · by_cases e : i = tkC B n
      · rw [e, up_same]
        unfold tkH
        rw [t1, if_neg (Nat.lt_irrefl _)]
        rfl
      · rw [up_n _ _ _ e, up_row _ _ _ (by decide)]
        exact (r2 i (by omega)).1
    · rw [up_row _ _ _ (by decide)]
      by_cases e : i = tkC B n
      · rw [e, up_same, t1]
      · rw [up_n _ _ _ e]
        exact (r2 i (by omega)).2
  refine lp_inv 400 (fun j (s : Int32 × Int32 × Int32 × AH) => ∃ f X2 h2, s = (nI j, nI (tkB B n j), nI j, h2) ∧ f + j = 400 ∧ tcF B n f j = tkC B n ∧ G A S h0 X2 h2 ∧ Off [703, 704] X X2 ∧ ∀ i, i < j → X2 703 i = nI (tkH B n i) ∧ X2 704 i = nI (tkB B n i)) (fun j s kk hj hI kn => ?_) (fun s kk hI => ?_) (Nat.zero_le _) ⟨k400, X, h, rfl, by rw [k400_eq], rfl, H, Off.rf _ _, fun i hi => absurd hi (Nat.not_lt_zero _)⟩
  · obtain ⟨f, X2, h2, rfl, f1, f2, H2, o2, r2⟩ := hI
    have hle := tkB_le (B := B) hn j
    have C2 := C.off o2 (by decide) (by decide)
    dsimp only [w_X6_splitText_14]
    refine br_go (a := 400) hj (by decide) ?_
    refine fG (o := 6) H2 H2.b rfl ?_
    rw [C2.1]
    refine br_Le (by omega) (by omega) (fun c => ?_) (fun c => ?_)
    · refine fin j X2 h2 H2 o2 r2 ?_
      rw [tcF_stop (by omega)] at f2
      exact f2
    · obtain ⟨f, rfl⟩ : ∃ g, f = g + 1 := ⟨f - 1, by omega⟩
      simp only [tcF] at f2
      rw [if_pos c] at f2
      obtain ⟨g1, g2⟩ := tkE_gt (B := B) hn c
      have hnx : tkB B n (j + 1) = be B n 32 32 (tkE B n (tkB B n j)) := by
        simp only [tkB]
        rw [if_pos c]
      have htv := tkH_at c
      have hbp := hB _ c
      refine fP (o := 6) H2 H2.b rfl rfl ?_
      refine tG (id := 704) H2 H2.b rfl (by decide) rfl (by omega) (fun h3 H3 => ?_)
      have o3 := o2.up (id := 704) (by decide) j (nI (tkB B n j))
      have C3 := C.off o3 (by decide) (by decide)
      have p3 : up X2 704 j (nI (tkB B n j)) 704 j = nI (tkB B n j) := up_same _ _ _ _
      have r3 : ∀ i, i < j → up X2 704 j (nI (tkB B n j)) 703 i = nI (tkH B n i) ∧ up X2 704 j (nI (tkB B n j)) 704 i = nI (tkB B n i) := fun i hi => by
        rw [up_row _ _ _ (by decide), up_n _ _ _ (by omega)]
        exact r2 i hi
      generalize up X2 704 j (nI (tkB B n j)) = X3 at *
      -- what follows the thing
      have nxt : ∀ h4, G A S h0 (up X3 703 j (nI (tkV B n (tkB B n j)))) h4 → w_X6_splitText_150 (fun y1 h => w_X6_splitText_170 (A 6) y1 h Qv) (fun y1 y2 y3 h => kk (y1, y2, y3, h)) (A 6) (nI j) (nI j) (nI (tkE B n (tkB B n j))) h4 Qv := by
        intro h4 H4
        have o4 := o3.up (id := 703) (by decide) j (nI (tkV B n (tkB B n j)))
        dsimp only [w_X6_splitText_150]
        refine vG (o := 6) H4 H4.b rfl ?_
        refine c_behind (lo := 32) (hi := 32) H4 (C.off o4 (by decide) (by decide)) hn hB (by omega) (by decide) (by decide) ?_
        rw [← hnx, ← nI_succ]
        refine kn _ ⟨f, _, h4, rfl, by omega, f2, H4, o4, fun i hi => ?_⟩
        by_cases e : i = j
        · rw [e, up_same, up_row _ _ _ (by decide), p3, htv]
          exact ⟨rfl, rfl⟩
        · rw [up_n _ _ _ e, up_row _ _ _ (by decide)]
          exact r3 i (by omega)
      generalize hp : tkB B n j = p at *
      refine bd_i ?_
      refine vG (o := 6) H3 H3.b rfl ?_
      refine c_isByteIn (lo := 97) (hi := 122) H3 C3 hn hB (by omega) (by decide) (by decide) ?_
      refine br_bI (fun d => ?_) (fun d => ?_)
      · obtain ⟨b1, b2, b3, b4⟩ := be_spec (B := B) (lo := 97) (hi := 122) hn p
        have bs := be_step hn d
        have b5 := (be_spec (B := B) (lo := 97) (hi := 122) hn (p + 1)).1
        refine vG (o := 6) H3 H3.b rfl ?_
        refine c_behind (lo := 97) (hi := 122) H3 C3 hn hB (by omega) (by decide) (by decide) ?_
        refine fP (o := 6) H3 H3.b rfl rfl ?_
        refine vG (o := 6) H3 H3.b rfl ?_
        refine c_wordIn H3 C3 hn hB (by omega) (b4 (by omega)) ?_
        have e1 : tkV B n p = wdV (wI B p (be B n 97 122 p - p) wds 0) := by
          unfold tkV
          rw [if_pos d]
          cases wI B p (be B n 97 122 p - p) wds 0 <;> rfl
        have e2 : tkE B n p = be B n 97 122 p := by
          unfold tkE
          rw [if_pos d]
        rw [← e1]
        refine tG (id := 703) H3 H3.b rfl (by decide) rfl (by omega) (fun h4 H4 => ?_)
        rw [← e2]
        exact nxt h4 H4
      · refine vG (o := 6) H3 H3.b rfl ?_
        refine c_isByteIn (lo := 48) (hi := 57) H3 C3 hn hB (by omega) (by decide) (by decide) ?_
        refine br_bI (fun d2 => ?_) (fun d2 => ?_)
        · obtain ⟨b1, b2, b3, b4⟩ := be_spec (B := B) (lo := 48) (hi := 57) hn p
          refine vG (o := 6) H3 H3.b rfl ?_
          refine c_behind (lo := 48) (hi := 57) H3 C3 hn hB (by omega) (by decide) (by decide) ?_
          refine fP (o := 6) H3 H3.b rfl rfl ?_
          refine vG (o := 6) H3 H3.b rfl ?_
          refine c_numberIn H3 C3 hn c b2 ⟨b1, b4 (by omega)⟩ ?_
          have e1 : tkV B n p = if be B n 48 57 p - p ≤ 3 then 2000 + nVal B p (be B n 48 57 p - p) else 1 := by
            unfold tkV
            rw [if_neg d, if_pos d2]
          have e2 : tkE B n p = be B n 48 57 p := by
            unfold tkE
            rw [if_neg d, if_pos d2]
          rw [← e1]
          refine tG (id := 703) H3 H3.b rfl (by decide) rfl (by omega) (fun h4 H4 => ?_)
          rw [← e2]
          exact nxt h4 H4
        · have e1 : tkV B n p = if sgn (B p) = true then B p else 1 := by
            unfold tkV
            rw [if_neg d, if_neg d2]
          have e2 : tkE B n p = p + 1 := by
            unfold tkE
            rw [if_neg d, if_neg d2]
          refine fP (o := 6) H3 H3.b rfl rfl ?_
          intro a7 ha7
          refine fP (o := 6) H3 H3.b rfl rfl ?_
          refine aG (id := 700) H3 H3.b rfl (by decide) rfl (by omega) ?_
          rw [C3.2 p c]
          rw [e2, nI_succ] at nxt
          refine ⟨⟨4, ha7⟩, J_idx ha7 hbp (fun z i hi => ?_) (fun z => ?_)⟩
          · refine br_T (nI_pos' (by omega)) ?_
            refine fP (o := 6) H3 H3.b rfl rfl ?_
            refine aG (id := 700) H3 H3.b rfl (by decide) rfl (by omega) ?_
            rw [C3.2 p c]
            dsimp only [w_X6_splitText_149]
            rw [if_pos z] at e1
            rw [e1] at nxt
            exact tG (id := 703) H3 H3.b rfl (by decide) rfl (by omega) (fun h4 H4 => nxt h4 H4)
          · refine br_F (by decide) ?_
            dsimp only [w_X6_splitText_149]
            rw [if_neg z] at e1
            rw [e1] at nxt
            exact tG (id := 703) H3 H3.b rfl (by decide) rfl (by omega) (fun h4 H4 => nxt h4 H4)
  · obtain ⟨f, X2, h2, rfl, f1, f2, H2, o2, r2⟩ := hI
    obtain rfl : f = 0 := by omega
    simp only [tcF] at f2
    dsimp only [w_X6_splitText_14]
    exact br_T (Int32.le_refl _) (fin 400 X2 h2 H2 o2 r2 f2)
end CSPL
/-- the reader in a text: at thing i, its steps l -/
def CRd (X : Nat → Nat → Int32) (th tb : Nat → Nat) (c : Nat) (st : Bool) (i : Nat) (l : List Nat) : Prop := RD X th tb c ∧ X 6 5 = nI i ∧ X 6 6 = nI (th i) ∧ X 6 7 = nI (ff st) ∧ X 6 1 = 0 ∧ X 6 2 = -1 ∧ X 6 9 = nI l.length ∧ ∀ j, j < l.length → X 708 j = nI (l.getD j 0)
/-- refused at a byte -/
def CF (X : Nat → Nat → Int32) (b : Nat) : Prop := X 6 1 = 0 ∧ X 6 2 = nI b
def rSL : List Nat := [6, 703, 704, 708]
section CSTEP
variable {A : Nat → Nat} {S : Nat → Prop} {h0 h : AH} {X : Nat → Nat → Int32} {Q : Int32 → AH → Prop} {Qv : AH → Prop} {th tb te : Nat → Nat} {c : Nat} {st : Bool} {i : Nat} {l : List Nat}
theorem c_open (H : G A S h0 X h) {B : Nat → Nat} {n : Nat} (C : TC X B n) (hn : n ≤ 400) (hB : ∀ i, i < n → B i < 256) {v : Int32} (hv : v = nI (ff st)) (k : ∀ X' h', G A S h0 X' h' → Off rSL X X' → CRd X' (tkH B n) (tkB B n) (tkC B n) st 0 [] → Qv h') : w_X6_open (A 6) v h Qv := by
  subst hv
  dsimp only [w_X6_open]
  refine vG (o := 6) H H.b rfl ?_
  refine c_splitText H C hn hB (fun X1 h1 H1 o1 R1 => ?_)
  refine uG (o := 6) H1 H1.b rfl (fun h2 H2 => ?_)
  refine uG (o := 6) H2 H2.b rfl (fun h3 H3 => ?_)
  refine uG (o := 6) H3 H3.b rfl (fun h4 H4 => ?_)
  refine uG (o := 6) H4 H4.b rfl (fun h5 H5 => ?_)
  refine uG (o := 6) H5 H5.b rfl (fun h6 H6 => ?_)
  refine fP (o := 6) H6 H6.b rfl rfl ?_
  refine aG (id := 703) (n := 0) H6 H6.b rfl (by decide) rfl (by decide) ?_
  refine uG (o := 6) H6 H6.b rfl (fun h7 H7 => ?_)
  refine k _ h7 H7 (((((((o1.mono (by decide)).up (by decide) _ _).up (by decide) _ _).up (by decide) _ _).up (by decide) _ _).up (by decide) _ _).up (by decide) _ _) ⟨⟨fun i hi => ?_, fun i hi => ?_⟩, ?_, ?_, ?_, ?_, ?_, ?_, fun j hj => absurd hj (Nat.not_lt_zero _)⟩
  · rw [up_row _ _ _ (by decide), up_row _ _ _ (by decide), up_row _ _ _ (by decide), up_row _ _ _ (by decide), up_row _ _ _ (by decide), up_row _ _ _ (by decide)]
    exact R1.1 i hi
  · rw [up_row _ _ _ (by decide), up_row _ _ _ (by decide), up_row _ _ _ (by decide), up_row _ _ _ (by decide), up_row _ _ _ (by decide), up_row _ _ _ (by decide)]
    exact R1.2 i hi
  · rw [up_n _ _ _ (by decide), up_same]
    rfl
  · rw [up_same, up_row _ _ _ (by decide), up_row _ _ _ (by decide), up_row _ _ _ (by decide), up_row _ _ _ (by decide), up_row _ _ _ (by decide)]
    exact R1.1 0 (Nat.zero_le _)
  · rw [up_n _ _ _ (by decide), up_n _ _ _ (by decide), up_n _ _ _ (by decide), up_same]
  · rw [up_n _ _ _ (by decide), up_n _ _ _ (by decide), up_n _ _ _ (by decide), up_n _ _ _ (by decide), up_n _ _ _ (by decide), up_same]
  · rw [up_n _ _ _ (by decide), up_n _ _ _ (by decide), up_n _ _ _ (by decide), up_n _ _ _ (by decide), up_same]
  · rw [up_n _ _ _ (by decide), up_n _ _ _ (by decide), up_same]
    rfl
theorem c_goOn (H : G A S h0 X h) (T : TS th te c) (C : CRd X th tb c st i l) (hi : th i ≠ 0) (k : ∀ X' h', G A S h0 X' h' → Off rSL X X' → CRd X' th tb c st (i + 1) l → Qv h') : w_X6_goOn (A 6) h Qv := by
  obtain ⟨c1, c2, c3, c4, c5, c6, c7, c8⟩ := C
  have hc := T.1
  have hl := T.lt hi
  have h3 := T.2.2.2.2.2.2.1 i
  dsimp only [w_X6_goOn, w_X6_goOn_40]
  refine fG (o := 6) H H.b rfl ?_
  rw [c3]
  refine br_Eq (b := 0) (by omega) (by decide) (fun z => absurd z hi) (fun _ => ?_)
  refine fG (o := 6) H H.b rfl ?_
  rw [c2]
  refine br_go (a := 400) (by omega) (by decide) ?_
  refine fG (o := 6) H H.b rfl ?_
  rw [c2, ← nI_succ]
  refine uG (o := 6) H H.b rfl (fun h1 H1 => ?_)
  refine fP (o := 6) H1 H1.b rfl rfl ?_
  refine fG (o := 6) H1 H1.b rfl ?_
  rw [up_same]
  refine aG (id := 703) H1 H1.b rfl (by decide) rfl (by omega) ?_
  refine uG (o := 6) H1 H1.b rfl (fun h2 H2 => ?_)
  refine k _ h2 H2 (((Off.rf _ _).up (by decide) _ _).up (by decide) _ _) ⟨⟨fun j hj => ?_, fun j hj => ?_⟩, ?_, ?_, ?_, ?_, ?_, ?_, fun j hj => ?_⟩
  · rw [up_row _ _ _ (by decide), up_row _ _ _ (by decide)]
    exact c1.1 j hj
  · rw [up_row _ _ _ (by decide), up_row _ _ _ (by decide)]
    exact c1.2 j hj
  · rw [up_n _ _ _ (by decide), up_same]
  · rw [up_same, up_row _ _ _ (by decide)]
    exact c1.1 (i + 1) (by omega)
  · rw [up_n _ _ _ (by decide), up_n _ _ _ (by decide)]
    exact c4
  · rw [up_n _ _ _ (by decide), up_n _ _ _ (by decide)]
    exact c5
  · rw [up_n _ _ _ (by decide), up_n _ _ _ (by decide)]
    exact c6
  · rw [up_n _ _ _ (by decide), up_n _ _ _ (by decide)]
    exact c7
  · rw [up_row _ _ _ (by decide), up_row _ _ _ (by decide)]
    exact c8 j hj
theorem c_refuse (H : G A S h0 X h) (T : TS th te c) (C : CRd X th tb c st i l) (hi : i ≤ c) (k : ∀ X' h', G A S h0 X' h' → Off rSL X X' → CF X' (tb i) → Q 0 h') : w_X6_refuse (A 6) h Q := by
  obtain ⟨c1, c2, c3, c4, c5, c6, c7, c8⟩ := C
  have hc := T.1
  dsimp only [w_X6_refuse]
  refine fP (o := 6) H H.b rfl rfl ?_
  refine fG (o := 6) H H.b rfl ?_
  rw [c2]
  refine aG (id := 704) H H.b rfl (by decide) rfl (by omega) ?_
  rw [c1.2 i hi]
  refine uG (o := 6) H H.b rfl (fun h1 H1 => ?_)
  exact k _ h1 H1 ((Off.rf _ _).up (by decide) _ _) ⟨by rw [up_n _ _ _ (by decide)]; exact c5, up_same _ _ _ _⟩
theorem getD_app1 {l : List Nat} {m j : Nat} (h : j < l.length) : (l ++ [m]).getD j 0 = l.getD j 0 := by
  rw [List.getD_eq_getElem?_getD, List.getD_eq_getElem?_getD, List.getElem?_append_left h]
theorem getD_app2 {l : List Nat} {m : Nat} : (l ++ [m]).getD l.length 0 = m := by
  rw [List.getD_eq_getElem?_getD, List.getElem?_append_right (Nat.le_refl _), Nat.sub_self]
  rfl
theorem c_addStep (H : G A S h0 X h) (C : CRd X th tb c st i l) (hl : l.length ≤ 400) {a b : Nat} {va vb : Int32} (ha : va = nI a) (hb : vb = nI b) (k : ∀ X' h', G A S h0 X' h' → Off rSL X X' → CRd X' th tb c st i (l ++ [1000 * a + b]) → Qv h') : w_X6_addStep (A 6) va vb h Qv := by
  subst ha hb
  obtain ⟨c1, c2, c3, c4, c5, c6, c7, c8⟩ := C
  dsimp only [w_X6_addStep, w_X6_addStep_36]
  refine fG (o := 6) H H.b rfl ?_
  rw [c7]
  refine br_go (a := 401) (by omega) (by decide) ?_
  refine fP (o := 6) H H.b rfl rfl ?_
  refine fG (o := 6) H H.b rfl ?_
  rw [c7, show (1000 : Int32) = nI 1000 from rfl, pk_mul, nI_add, Nat.mul_comm a 1000]
  refine tG (id := 708) H H.b rfl (by decide) rfl (by omega) (fun h1 H1 => ?_)
  refine fG (o := 6) H1 H1.b rfl ?_
  rw [up_row _ _ _ (by decide), c7, ← nI_succ]
  refine uG (o := 6) H1 H1.b rfl (fun h2 H2 => ?_)
  refine k _ h2 H2 (((Off.rf _ _).up (by decide) _ _).up (by decide) _ _) ⟨⟨fun j hj => ?_, fun j hj => ?_⟩, ?_, ?_, ?_, ?_, ?_, ?_, fun j hj => ?_⟩
  · rw [up_row _ _ _ (by decide), up_row _ _ _ (by decide)]
    exact c1.1 j hj
  · rw [up_row _ _ _ (by decide), up_row _ _ _ (by decide)]
    exact c1.2 j hj
  · rw [up_n _ _ _ (by decide), up_row _ _ _ (by decide)]
    exact c2
  · rw [up_n _ _ _ (by decide), up_row _ _ _ (by decide)]
    exact c3
  · rw [up_n _ _ _ (by decide), up_row _ _ _ (by decide)]
    exact c4
  · rw [up_n _ _ _ (by decide), up_row _ _ _ (by decide)]
    exact c5
  · rw [up_n _ _ _ (by decide), up_row _ _ _ (by decide)]
    exact c6
  · rw [up_same, List.length_append, List.length_singleton]
  · rw [List.length_append, List.length_singleton] at hj
    rw [up_row _ _ _ (by decide)]
    by_cases e : j = l.length
    · rw [e, up_same, getD_app2]
    · rw [up_n _ _ _ e, getD_app1 (by omega)]
      exact c8 j (by omega)
end CSTEP
