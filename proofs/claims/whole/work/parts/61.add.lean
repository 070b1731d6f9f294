/-! what is added: guns, tellers, tellings, finds -/
def ST (X X' : Nat → Nat → Int32) : Prop := ∀ id, stR id = false → X' id = X id
theorem ST.rf (X : Nat → Nat → Int32) : ST X X := fun _ _ => rfl
theorem ST.up {X X' : Nat → Nat → Int32} (a : ST X X') {id : Nat} (hi : stR id = true) (n : Nat) (v : Int32) : ST X (up X' id n v) := fun j hj => by
  rw [up_row _ _ _ (fun z => by rw [z, hi] at hj; exact Bool.noConfusion hj)]
  exact a j hj
theorem ST.tr {X X' X'' : Nat → Nat → Int32} (a : ST X X') (b : ST X' X'') : ST X X'' := fun id h => (b id h).trans (a id h)
/-- the class changed its state and what it writes anew -/
def SC (X X' : Nat → Nat → Int32) : Prop := ∀ id, stR id = false → id ∉ cSL → X' id = X id
theorem SC.of {X X' : Nat → Nat → Int32} (a : ST X X') : SC X X' := fun id h _ => a id h
theorem SC.oc {X X' : Nat → Nat → Int32} (a : OC X X') : SC X X' := fun id _ h => a id h
/-- the reference changed its world -/
def OW (X X' : Nat → Nat → Int32) : Prop := ∀ id n, mS id n = false → ¬ (id = 12 ∧ n = 0) → id ≠ 1301 → X' id n = X id n
theorem OW.of {X X' : Nat → Nat → Int32} (a : OT X X') : OW X X' := fun id n h g _ => a id n h g
theorem OW.wr {X X' : Nat → Nat → Int32} (a : OW X X') (n : Nat) (v : Int32) : OW X (up X' 1301 n v) := fun id m h g z => by
  rw [up_row _ _ _ z]
  exact a id m h g z
theorem OW.th {X X' : Nat → Nat → Int32} (a : OW X X') (v : Int32) : OW X (up X' 12 0 v) := fun id n h g z => by
  by_cases e : id = 12
  · subst e
    rw [up_n _ _ _ (fun z => g ⟨rfl, z⟩)]
    exact a 12 n h g z
  · rw [up_row _ _ _ e]
    exact a id n h g z
section ADD
variable {A : Nat → Nat} {S : Nat → Prop} {h0 h : AH} {X : Nat → Nat → Int32} {wd : Nat → Int32} {N : Nat → Nat} {Q : Int32 → AH → Prop} {Qv : AH → Prop} {a3 : Nat}
/-- a place behind the last of a row of the class's state is written -/
theorem adC (H : G A S h0 X h) (R : CR X wd) (c k id k0 w0 len b s : Nat) {n : Nat} {v : Int32} (hs : S (sg c)) (ht : tk c = (c + 1, 0)) (hp : pt c k = some id) (hs2 : S (sg id)) (hta : tk id = (20, len)) (hl : len < 2 ^ 31) (hcb : cb id = some (len, b, s)) (hc0 : cs c k0 = some w0) (e : wd w0 = nI n) (hn : n < len) {K : AH → Prop} (kk : ∀ h', G A S h0 (up X id n v) h' → CR (up X id n v) (va_up wd (b + s * n) v) → K h') : fN h (A c) c k fun a => fI h (A c) c k0 fun x => tI h a x v K := by
  refine fP H hs ht hp ?_
  refine fC_ H R hs ht hc0 ?_
  rw [e]
  exact tC H R hs2 hta hl hcb rfl hn kk
theorem adM (H : G A S h0 X h) (M : MR X wd) {i v : Int32} (w : Nat) (hi : i = nI w) (hw : w < 8645) {K : AH → Prop} (kk : ∀ h', G A S h0 (up X 1301 w v) h' → MR (up X 1301 w v) (va_up wd w v) → K h') : fN h (A 12) 12 1 fun a => tI h a i v K := by
  refine fP (o := 12) (t := 1301) H H.b rfl rfl ?_
  exact tM H M hi hw kk
/-- a count of the reference goes up by one -/
theorem icM (H : G A S h0 X h) (M : MR X wd) {i : Int32} (w : Nat) {n : Nat} (hi : i = nI w) (hw : w < 8645) (e : wd w = nI n) {K : AH → Prop} (kk : ∀ h', G A S h0 (up X 1301 w (nI (n + 1))) h' → MR (up X 1301 w (nI (n + 1))) (va_up wd w (nI (n + 1))) → K h') : fN h (A 12) 12 1 fun a => aI h a i fun x => tI h a i (x + 1) K := by
  refine fP (o := 12) (t := 1301) H H.b rfl rfl ?_
  refine aM H M hi hw ?_
  rw [e, nI_1]
  exact tM H M hi hw kk
theorem ldM (H : G A S h0 X h) (M : MR X wd) {i : Int32} (w : Nat) {v : Int32} (hi : i = nI w) (hw : w < 8645) (e : wd w = v) {K : Int32 → Prop} (kk : K v) : fN h (A 12) 12 1 fun a => aI h a i K := by
  refine fP (o := 12) (t := 1301) H H.b rfl rfl ?_
  refine aM H M hi hw ?_
  rw [e]
  exact kk
theorem icC (H : G A S h0 X h) (R : CR X wd) (c k0 w0 : Nat) {n : Nat} (hs : S (sg c)) (ht : tk c = (c + 1, 0)) (hc0 : cs c k0 = some w0) (e : wd w0 = nI n) {K : Int32 → AH → Prop} (kk : ∀ h', G A S h0 (up X c k0 (nI (n + 1))) h' → CR (up X c k0 (nI (n + 1))) (va_up wd w0 (nI (n + 1))) → K (nI n) h') : fI h (A c) c k0 fun x => uI h (A c) c k0 (x + 1) fun h => fI h (A c) c k0 fun y => K (y - 1) h := by
  refine fC_ H R hs ht hc0 ?_
  rw [e, nI_1]
  refine uC H R hs ht hc0 (fun h' H' R' => ?_)
  refine fC_ H' R' hs ht hc0 ?_
  rw [va_up_self, nI_pred]
  exact kk h' H' R'
def addG (wd : Nat → Int32) (n : Nat) (a b c d : Int32) : Nat → Int32 := va_up (va_up (va_up (va_up (va_up wd (269 + 4 * n) a) (270 + 4 * n) b) (271 + 4 * n) c) (272 + 4 * n) d) 0 (nI (n + 1))
def addT (wd : Nat → Int32) (n : Nat) (a b c d : Int32) : Nat → Int32 := va_up (va_up (va_up (va_up (va_up wd (1069 + 4 * n) a) (1070 + 4 * n) b) (1071 + 4 * n) c) (1072 + 4 * n) d) 4 (nI (n + 1))
def addL (wd : Nat → Int32) (n : Nat) (a b c : Int32) : Nat → Int32 := va_up (va_up (va_up (va_up wd (1101 + 3 * n) a) (1102 + 3 * n) b) (1103 + 3 * n) c) 5 (nI (n + 1))
def addF (wd : Nat → Int32) (n : Nat) (a b c d : Int32) : Nat → Int32 := va_up (va_up (va_up (va_up (va_up (va_up (va_up wd (349 + 6 * n) a) (350 + 6 * n) b) (351 + 6 * n) c) (352 + 6 * n) d) (353 + 6 * n) 0) (354 + 6 * n) 239) 3 (nI (n + 1))
theorem c_addGun (H : G A S h0 X h) (R : CR X wd) {n : Nat} (e : wd 0 = nI n) (hn : n < 8) {a b c d : Int32} (k : ∀ X' h', G A S h0 X' h' → CR X' (addG wd n a b c d) → ST X X' → Q (nI n) h') : w_X2_add (A 2) a b c d h Q := by
  unfold w_X2_add
  refine adC H R 2 1 301 0 0 8 269 4 H.b rfl rfl H.b rfl (by decide) rfl rfl e hn (fun h1 H1 R1 => ?_)
  have e1 : va_up wd (269 + 4 * n) a 0 = nI n := by rw [va_up_ne _ _ (by omega)]; exact e
  refine adC H1 R1 2 2 302 0 0 8 270 4 H.b rfl rfl H.b rfl (by decide) rfl rfl e1 hn (fun h2 H2 R2 => ?_)
  have e2 : va_up (va_up wd (269 + 4 * n) a) (270 + 4 * n) b 0 = nI n := by rw [va_up_ne _ _ (by omega)]; exact e1
  refine adC H2 R2 2 3 303 0 0 8 271 4 H.b rfl rfl H.b rfl (by decide) rfl rfl e2 hn (fun h3 H3 R3 => ?_)
  have e3 : va_up (va_up (va_up wd (269 + 4 * n) a) (270 + 4 * n) b) (271 + 4 * n) c 0 = nI n := by rw [va_up_ne _ _ (by omega)]; exact e2
  refine adC H3 R3 2 4 304 0 0 8 272 4 H.b rfl rfl H.b rfl (by decide) rfl rfl e3 hn (fun h4 H4 R4 => ?_)
  have e4 : va_up (va_up (va_up (va_up wd (269 + 4 * n) a) (270 + 4 * n) b) (271 + 4 * n) c) (272 + 4 * n) d 0 = nI n := by rw [va_up_ne _ _ (by omega)]; exact e3
  refine icC H4 R4 2 0 0 H.b rfl rfl e4 (K := Q) (fun h5 H5 R5 => ?_)
  exact k _ h5 H5 R5 (((((ST.rf X).up rfl _ _).up rfl _ _).up rfl _ _).up rfl _ _ |>.up rfl _ _)
theorem c_addTeller (H : G A S h0 X h) (R : CR X wd) {n : Nat} (e : wd 4 = nI n) (hn : n < 8) {a b c d : Int32} (k : ∀ X' h', G A S h0 X' h' → CR X' (addT wd n a b c d) → ST X X' → Q (nI n) h') : w_X9_add (A 9) a b c d h Q := by
  unfold w_X9_add
  refine adC H R 9 1 1001 0 4 8 1069 4 H.b rfl rfl H.b rfl (by decide) rfl rfl e hn (fun h1 H1 R1 => ?_)
  have e1 : va_up wd (1069 + 4 * n) a 4 = nI n := by rw [va_up_ne _ _ (by omega)]; exact e
  refine adC H1 R1 9 2 1002 0 4 8 1070 4 H.b rfl rfl H.b rfl (by decide) rfl rfl e1 hn (fun h2 H2 R2 => ?_)
  have e2 : va_up (va_up wd (1069 + 4 * n) a) (1070 + 4 * n) b 4 = nI n := by rw [va_up_ne _ _ (by omega)]; exact e1
  refine adC H2 R2 9 3 1003 0 4 8 1071 4 H.b rfl rfl H.b rfl (by decide) rfl rfl e2 hn (fun h3 H3 R3 => ?_)
  have e3 : va_up (va_up (va_up wd (1069 + 4 * n) a) (1070 + 4 * n) b) (1071 + 4 * n) c 4 = nI n := by rw [va_up_ne _ _ (by omega)]; exact e2
  refine adC H3 R3 9 4 1004 0 4 8 1072 4 H.b rfl rfl H.b rfl (by decide) rfl rfl e3 hn (fun h4 H4 R4 => ?_)
  have e4 : va_up (va_up (va_up (va_up wd (1069 + 4 * n) a) (1070 + 4 * n) b) (1071 + 4 * n) c) (1072 + 4 * n) d 4 = nI n := by rw [va_up_ne _ _ (by omega)]; exact e3
  refine icC H4 R4 9 0 4 H.b rfl rfl e4 (K := Q) (fun h5 H5 R5 => ?_)
  exact k _ h5 H5 R5 (((((ST.rf X).up rfl _ _).up rfl _ _).up rfl _ _).up rfl _ _ |>.up rfl _ _)
theorem c_addTelling (H : G A S h0 X h) (R : CR X wd) {n : Nat} (e : wd 5 = nI n) (hn : n < 20) {a b c : Int32} (k : ∀ X' h', G A S h0 X' h' → CR X' (addL wd n a b c) → ST X X' → Q (nI n) h') : w_X9_addTelling (A 9) a b c h Q := by
  unfold w_X9_addTelling
  refine adC H R 9 6 1006 5 5 20 1101 3 H.b rfl rfl H.b rfl (by decide) rfl rfl e hn (fun h1 H1 R1 => ?_)
  have e1 : va_up wd (1101 + 3 * n) a 5 = nI n := by rw [va_up_ne _ _ (by omega)]; exact e
  refine adC H1 R1 9 7 1007 5 5 20 1102 3 H.b rfl rfl H.b rfl (by decide) rfl rfl e1 hn (fun h2 H2 R2 => ?_)
  have e2 : va_up (va_up wd (1101 + 3 * n) a) (1102 + 3 * n) b 5 = nI n := by rw [va_up_ne _ _ (by omega)]; exact e1
  refine adC H2 R2 9 8 1008 5 5 20 1103 3 H.b rfl rfl H.b rfl (by decide) rfl rfl e2 hn (fun h3 H3 R3 => ?_)
  have e3 : va_up (va_up (va_up wd (1101 + 3 * n) a) (1102 + 3 * n) b) (1103 + 3 * n) c 5 = nI n := by rw [va_up_ne _ _ (by omega)]; exact e2
  refine icC H3 R3 9 5 5 H.b rfl rfl e3 (K := Q) (fun h5 H5 R5 => ?_)
  exact k _ h5 H5 R5 (((((ST.rf X).up rfl _ _).up rfl _ _).up rfl _ _).up rfl _ _)
theorem c_addFind (H : G A S h0 X h) (R : CR X wd) {n : Nat} (e : wd 3 = nI n) (hn : n < 120) {a b c d : Int32} (k : ∀ X' h', G A S h0 X' h' → CR X' (addF wd n a b c d) → ST X X' → Q (nI n) h') : w_X1_add (A 1) a b c d h Q := by
  unfold w_X1_add
  refine fC_ (o := 1) H R H.b rfl rfl ?_
  rw [e]
  refine br_T (nI_lt (b := 120) hn (by decide)) ?_
  refine adC H R 1 1 201 0 3 120 349 6 H.b rfl rfl H.b rfl (by decide) rfl rfl e hn (fun h1 H1 R1 => ?_)
  have e1 : va_up wd (349 + 6 * n) a 3 = nI n := by rw [va_up_ne _ _ (by omega)]; exact e
  refine adC H1 R1 1 2 202 0 3 120 350 6 H.b rfl rfl H.b rfl (by decide) rfl rfl e1 hn (fun h2 H2 R2 => ?_)
  have e2 : va_up (va_up wd (349 + 6 * n) a) (350 + 6 * n) b 3 = nI n := by rw [va_up_ne _ _ (by omega)]; exact e1
  refine adC H2 R2 1 3 203 0 3 120 351 6 H.b rfl rfl H.b rfl (by decide) rfl rfl e2 hn (fun h3 H3 R3 => ?_)
  have e3 : va_up (va_up (va_up wd (349 + 6 * n) a) (350 + 6 * n) b) (351 + 6 * n) c 3 = nI n := by rw [va_up_ne _ _ (by omega)]; exact e2
  refine adC H3 R3 1 4 204 0 3 120 352 6 H.b rfl rfl H.b rfl (by decide) rfl rfl e3 hn (fun h4 H4 R4 => ?_)
  have e4 : va_up (va_up (va_up (va_up wd (349 + 6 * n) a) (350 + 6 * n) b) (351 + 6 * n) c) (352 + 6 * n) d 3 = nI n := by rw [va_up_ne _ _ (by omega)]; exact e3
  refine adC H4 R4 1 5 205 0 3 120 353 6 H.b rfl rfl H.b rfl (by decide) rfl rfl e4 hn (fun h5 H5 R5 => ?_)
  have e5 : va_up (va_up (va_up (va_up (va_up wd (349 + 6 * n) a) (350 + 6 * n) b) (351 + 6 * n) c) (352 + 6 * n) d) (353 + 6 * n) 0 3 = nI n := by rw [va_up_ne _ _ (by omega)]; exact e4
  refine adC H5 R5 1 6 206 0 3 120 354 6 H.b rfl rfl H.b rfl (by decide) rfl rfl e5 hn (fun h6 H6 R6 => ?_)
  have e6 : va_up (va_up (va_up (va_up (va_up (va_up wd (349 + 6 * n) a) (350 + 6 * n) b) (351 + 6 * n) c) (352 + 6 * n) d) (353 + 6 * n) 0) (354 + 6 * n) 239 3 = nI n := by rw [va_up_ne _ _ (by omega)]; exact e5
  refine icC H6 R6 1 0 3 H.b rfl rfl e6 (K := Q) (fun h7 H7 R7 => ?_)
  exact k _ h7 H7 R7 ((((((((ST.rf X).up rfl _ _).up rfl _ _).up rfl _ _).up rfl _ _).up rfl _ _).up rfl _ _).up rfl _ _)
theorem c_addFull (H : G A S h0 X h) (R : CR X wd) (e : wd 3 = nI 120) {a b c d : Int32} (k : Q (-1) h) : w_X1_add (A 1) a b c d h Q := by
  unfold w_X1_add
  refine fC_ (o := 1) H R H.b rfl rfl ?_
  rw [e]
  exact br_F (by decide) k
theorem m_leaves (H : G A S h0 X h) (M : MR X wd) {n : Nat} (e : wd 3 = nI n) (hn : n < 120) {a b c d : Int32} (k : ∀ X' h', G A S h0 X' h' → MR X' (addF wd n a b c d) → (∀ id, id ≠ 1301 → X' id = X id) → Qv h') : w_X12_leaves (A 12) a b c d h Qv := by
  unfold w_X12_leaves
  refine ldM H M 3 (ix0 3) (by decide) e ?_
  refine br_F (fun z => by rw [ix0 120, nI_eq (by omega) (by decide)] at z; omega) ?_
  refine ldM H M 3 (ix0 3) (by decide) e ?_
  refine bd_i ?_
  rw [ix2 349 6]
  refine adM H M (349 + 6 * n) rfl (by omega) (fun h1 H1 M1 => ?_)
  refine adM H1 M1 (350 + 6 * n) (by rw [nI_1]; congr 1; omega) (by omega) (fun h2 H2 M2 => ?_)
  refine adM H2 M2 (351 + 6 * n) (by rw [ix0 2, nI_add]; congr 1; omega) (by omega) (fun h3 H3 M3 => ?_)
  refine adM H3 M3 (352 + 6 * n) (by rw [ix0 3, nI_add]; congr 1; omega) (by omega) (fun h4 H4 M4 => ?_)
  refine adM H4 M4 (353 + 6 * n) (by rw [ix0 4, nI_add]; congr 1; omega) (by omega) (fun h5 H5 M5 => ?_)
  refine adM H5 M5 (354 + 6 * n) (by rw [ix0 5, nI_add]; congr 1; omega) (by omega) (fun h6 H6 M6 => ?_)
  refine icM H6 M6 3 (n := n) (ix0 3) (by decide) ?_ (fun h7 H7 M7 => ?_)
  · rw [va_up_ne _ _ (by omega), va_up_ne _ _ (by omega), va_up_ne _ _ (by omega), va_up_ne _ _ (by omega), va_up_ne _ _ (by omega), va_up_ne _ _ (by omega)]
    exact e
  · refine k _ h7 H7 M7 (fun id hid => ?_)
    rw [up_row _ _ _ hid, up_row _ _ _ hid, up_row _ _ _ hid, up_row _ _ _ hid, up_row _ _ _ hid, up_row _ _ _ hid, up_row _ _ _ hid]
theorem m_leavesFull (H : G A S h0 X h) (M : MR X wd) (e : wd 3 = nI 120) {a b c d : Int32} (k : Qv h) : w_X12_leaves (A 12) a b c d h Qv := by
  unfold w_X12_leaves
  refine ldM H M 3 (ix0 3) (by decide) e ?_
  exact br_T rfl k
/-! the bounds of what is added -/
theorem Ok.addG (O : Ok wd N) (hn : N 0 < 8) {a b c d : Int32} (ha : bn a 1) (hb : bn b 15) (hd : bn d 40) : Ok (addG wd (N 0) a b c d) (va_up N 0 (N 0 + 1)) := by
  have h8 := hn
  have b0 := O.g.2; have b1 := O.p.2; have b3 := O.f.2; have b4 := O.t.2; have b5 := O.o.2; have b6 := O.s.2
  have O1 := (((O.irr (w := 269 + 4 * N 0) (by unfold us; omega) a).irr (w := 270 + 4 * N 0) (by unfold us; omega) b).irr (w := 271 + 4 * N 0) (by unfold us; omega) c).irr (w := 272 + 4 * N 0) (by unfold us; omega) d
  refine O1.inc (M := 8) (Or.inl ⟨rfl, rfl, ?_⟩) hn
  unfold OkG
  refine ⟨?_, ?_, ?_⟩
  · rw [va_up_ne _ _ (by omega), va_up_ne _ _ (by omega), va_up_ne _ _ (by omega), va_up_self]; exact ha
  · rw [va_up_ne _ _ (by omega), va_up_ne _ _ (by omega), va_up_self]; exact hb
  · rw [va_up_self]; exact hd
theorem Ok.addT (O : Ok wd N) (hn : N 4 < 8) {a b c d : Int32} (ha : bn a 255) (hb : bn b 239) (hc : bn c 239) (hd : bn d 9) : Ok (addT wd (N 4) a b c d) (va_up N 4 (N 4 + 1)) := by
  have h5 := O.o.2
  have b0 := O.g.2; have b1 := O.p.2; have b3 := O.f.2; have b4 := O.t.2; have b5 := O.o.2; have b6 := O.s.2
  have O1 := (((O.irr (w := 1069 + 4 * N 4) (by unfold us; omega) a).irr (w := 1070 + 4 * N 4) (by unfold us; omega) b).irr (w := 1071 + 4 * N 4) (by unfold us; omega) c).irr (w := 1072 + 4 * N 4) (by unfold us; omega) d
  refine O1.inc (M := 8) (Or.inr (Or.inr (Or.inr (Or.inr (Or.inl ⟨rfl, rfl, ?_⟩))))) hn
  unfold OkT
  refine ⟨?_, ?_, ?_, ?_⟩
  · rw [va_up_ne _ _ (by omega), va_up_ne _ _ (by omega), va_up_ne _ _ (by omega), va_up_self]; exact ha
  · rw [va_up_ne _ _ (by omega), va_up_ne _ _ (by omega), va_up_self]; exact hb
  · rw [va_up_ne _ _ (by omega), va_up_self]; exact hc
  · rw [va_up_self]; exact hd
theorem Ok.addL (O : Ok wd N) (hn : N 5 < 20) {a b c : Int32} (ha : ∃ w, w < N 4 ∧ a = nI w) (hb : bn b 255) (hc : bn c 239) : Ok (addL wd (N 5) a b c) (va_up N 5 (N 5 + 1)) := by
  have b0 := O.g.2; have b1 := O.p.2; have b3 := O.f.2; have b4 := O.t.2; have b5 := O.o.2; have b6 := O.s.2
  have O1 := ((O.irr (w := 1101 + 3 * N 5) (by unfold us; omega) a).irr (w := 1102 + 3 * N 5) (by unfold us; omega) b).irr (w := 1103 + 3 * N 5) (by unfold us; omega) c
  refine O1.inc (M := 20) (Or.inr (Or.inr (Or.inr (Or.inr (Or.inr (Or.inl ⟨rfl, rfl, ?_⟩)))))) hn
  unfold OkL
  refine ⟨?_, ?_, ?_⟩
  · rw [va_up_ne _ _ (by omega), va_up_ne _ _ (by omega), va_up_self]; exact ha
  · rw [va_up_ne _ _ (by omega), va_up_self]; exact hb
  · rw [va_up_self]; exact hc
theorem Ok.addF (O : Ok wd N) (hn : N 3 < 120) {a b c d : Int32} (ha : bn a 3) (hb : bn b 255) (hc : bn c 9) (hd : bn d 65535) (h2 : a = 2 → 1 ≤ nt d ∧ nt d ≤ 255) : Ok (addF wd (N 3) a b c d) (va_up N 3 (N 3 + 1)) := by
  have b0 := O.g.2; have b1 := O.p.2; have b3 := O.f.2; have b4 := O.t.2; have b5 := O.o.2; have b6 := O.s.2
  have O1 := (((((O.irr (w := 349 + 6 * N 3) (by unfold us; omega) a).irr (w := 350 + 6 * N 3) (by unfold us; omega) b).irr (w := 351 + 6 * N 3) (by unfold us; omega) c).irr (w := 352 + 6 * N 3) (by unfold us; omega) d).irr (w := 353 + 6 * N 3) (by unfold us; omega) 0).irr (w := 354 + 6 * N 3) (by unfold us; omega) 239
  refine O1.inc (M := 120) (Or.inr (Or.inr (Or.inr (Or.inl ⟨rfl, rfl, ?_⟩)))) hn
  unfold OkF
  have q : ∀ i, i = 353 + 6 * N 3 → va_up (va_up (va_up (va_up (va_up (va_up wd (349 + 6 * N 3) a) (350 + 6 * N 3) b) (351 + 6 * N 3) c) (352 + 6 * N 3) d) (353 + 6 * N 3) 0) (354 + 6 * N 3) 239 i = 0 := by
    intro i hi
    rw [hi, va_up_ne _ _ (by omega), va_up_self]
  rw [q _ rfl, va_up_self]
  rw [va_up_ne _ _ (show 349 + 6 * N 3 ≠ 354 + 6 * N 3 by omega), va_up_ne _ _ (show 349 + 6 * N 3 ≠ 353 + 6 * N 3 by omega), va_up_ne _ _ (show 349 + 6 * N 3 ≠ 352 + 6 * N 3 by omega), va_up_ne _ _ (show 349 + 6 * N 3 ≠ 351 + 6 * N 3 by omega), va_up_ne _ _ (show 349 + 6 * N 3 ≠ 350 + 6 * N 3 by omega), va_up_self]
  rw [va_up_ne _ _ (show 350 + 6 * N 3 ≠ 354 + 6 * N 3 by omega), va_up_ne _ _ (show 350 + 6 * N 3 ≠ 353 + 6 * N 3 by omega), va_up_ne _ _ (show 350 + 6 * N 3 ≠ 352 + 6 * N 3 by omega), va_up_ne _ _ (show 350 + 6 * N 3 ≠ 351 + 6 * N 3 by omega), va_up_self]
  rw [va_up_ne _ _ (show 351 + 6 * N 3 ≠ 354 + 6 * N 3 by omega), va_up_ne _ _ (show 351 + 6 * N 3 ≠ 353 + 6 * N 3 by omega), va_up_ne _ _ (show 351 + 6 * N 3 ≠ 352 + 6 * N 3 by omega), va_up_self]
  rw [va_up_ne _ _ (show 352 + 6 * N 3 ≠ 354 + 6 * N 3 by omega), va_up_ne _ _ (show 352 + 6 * N 3 ≠ 353 + 6 * N 3 by omega), va_up_self]
  exact ⟨ha, hb, hc, hd, bn.of (n := 0) (by decide) (by decide), bn.of (n := 239) (by decide) (by decide), by decide, h2⟩
end ADD
