/-! loops, branches, numbers -/
def bI (b : Bool) : Int32 := if b = true then 1 else 0
theorem bI_t {b : Bool} (e : b = true) : bI b = 1 := if_pos e
theorem bI_f {b : Bool} (e : b = false) : bI b = 0 := by rw [e]; rfl
theorem bI_0 {b : Bool} : bI b = 0 ↔ ¬ b = true := by
  cases b
  · simp [bI]
  · simp [bI]
theorem bI_or {b : Bool} : bI b = 0 ∨ bI b = 1 := by
  cases b
  · exact Or.inl rfl
  · exact Or.inr rfl
theorem b2_bI {c : Prop} [Decidable c] : b2 c = bI (decide c) := by
  by_cases e : c
  · rw [b2_t e, bI_t (decide_eq_true e)]
  · rw [b2_f e, bI_f (decide_eq_false e)]
theorem lp_inv {σ : Type} {F : (σ → Prop) → σ → Prop} (N : Nat) (I : Nat → σ → Prop) (hs : ∀ (j : Nat) (s : σ) (k : σ → Prop), j < N → I j s → (∀ s', I (j + 1) s' → k s') → F k s) (he : ∀ (s : σ) (k : σ → Prop), I N s → F k s) {i : Nat} {s : σ} (hi : i ≤ N) (h : I i s) : lp F s := by
  refine lp_ind (fun m s => ∃ j, j + m = N ∧ I j s) (fun m s k hI hk => ?_) (N - i) s ⟨i, by omega, h⟩
  obtain ⟨j, h1, h2⟩ := hI
  by_cases e : m = 0
  · subst e
    have : j = N := h1
    subst this
    exact he s k h2
  · refine hs j s k (by omega) h2 (fun s' h3 => hk (m - 1) s' (by omega) ⟨j + 1, by omega, h3⟩)
/-- a loop whose states are known -/
theorem lp_up {σ : Type} {F : (σ → Prop) → σ → Prop} (N : Nat) (f : Nat → σ) (hs : ∀ (j : Nat) (k : σ → Prop), j < N → k (f (j + 1)) → F k (f j)) (he : ∀ k : σ → Prop, F k (f N)) {i : Nat} (hi : i ≤ N) : lp F (f i) :=
  lp_inv N (fun j s => s = f j) (fun j s k hj e kk => by rw [e]; exact hs j k hj (kk _ rfl)) (fun s k e => by rw [e]; exact he k) hi rfl
/-- a loop whose states are known, with ways out: P j says that none was taken before j -/
theorem lp_ex {σ : Type} {F : (σ → Prop) → σ → Prop} (N : Nat) (f : Nat → σ) (P : Nat → Prop) (hs : ∀ (j : Nat) (k : σ → Prop), j < N → P j → (P (j + 1) → k (f (j + 1))) → F k (f j)) (he : P N → ∀ k : σ → Prop, F k (f N)) {i : Nat} (hi : i ≤ N) (h0 : P i) : lp F (f i) :=
  lp_inv N (fun j s => s = f j ∧ P j) (fun j s k hj e kk => by rw [e.1]; exact hs j k hj e.2 (fun p => kk _ ⟨rfl, p⟩)) (fun s k e => by rw [e.1]; exact he e.2 k) hi ⟨rfl, h0⟩
theorem bd_i {α : Type} {v : α} {K : α → Prop} (k : K v) : bd v K := k
theorem br_T {c A B : Prop} (h : c) (k : A) : br c A B := ⟨fun _ => k, fun n => absurd h n⟩
theorem br_F {c A B : Prop} (h : ¬ c) (k : B) : br c A B := ⟨fun n => absurd n h, fun _ => k⟩
theorem br_bI {b : Bool} {A B : Prop} (h1 : b = true → B) (h2 : ¬ b = true → A) : br (bI b = 0) A B := ⟨fun n => h2 (bI_0.mp n), fun n => h1 (Decidable.byContradiction fun y => n (bI_0.mpr y))⟩
theorem br_Le {a b : Nat} {A B : Prop} (ha : a < 2 ^ 31) (hb : b < 2 ^ 31) (h1 : a ≤ b → A) (h2 : b < a → B) : br (nI a ≤ nI b) A B :=
  ⟨fun c => h1 ((nI_leI ha hb).mp c), fun c => h2 (Nat.lt_of_not_le fun z => c ((nI_leI ha hb).mpr z))⟩
theorem br_Lt {a b : Nat} {A B : Prop} (ha : a < 2 ^ 31) (hb : b < 2 ^ 31) (h1 : a < b → A) (h2 : b ≤ a → B) : br (nI a < nI b) A B :=
  ⟨fun c => h1 ((nI_ltI ha hb).mp c), fun c => h2 (Nat.le_of_not_lt fun z => c ((nI_ltI ha hb).mpr z))⟩
theorem br_Eq {a b : Nat} {A B : Prop} (ha : a < 2 ^ 31) (hb : b < 2 ^ 31) (h1 : a = b → A) (h2 : ¬ a = b → B) : br (nI a = nI b) A B :=
  ⟨fun c => h1 ((nI_eq ha hb).mp c), fun c => h2 (fun z => c ((nI_eq ha hb).mpr z))⟩
/-- the loop's test: goes on, or ends -/
theorem br_go {a b : Nat} {A B : Prop} (h : b < a) (ha : a < 2 ^ 31) (k : B) : br (nI a ≤ nI b) A B := br_F (nI_ge h ha) k
theorem br_end {a : Nat} {A B : Prop} (k : A) : br (nI a ≤ nI a) A B := br_T (Int32.le_refl _) k
theorem zt {b : Bool} {Q : Int32 → AH → Prop} {h : AH} (k : Q (bI b) h) (e : b = true) : z1 1 (Q 1 h) := ⟨Or.inr rfl, by rw [bI_t e] at k; exact k⟩
theorem zf {b : Bool} {Q : Int32 → AH → Prop} {h : AH} (k : Q (bI b) h) (e : b = false) : z1 0 (Q 0 h) := ⟨Or.inl rfl, by rw [bI_f e] at k; exact k⟩
theorem qt {b : Bool} {Q : Int32 → AH → Prop} {h : AH} (k : Q (bI b) h) (e : b = true) : Q 1 h := by rw [bI_t e] at k; exact k
theorem qf {b : Bool} {Q : Int32 → AH → Prop} {h : AH} (k : Q (bI b) h) (e : b = false) : Q 0 h := by rw [bI_f e] at k; exact k
theorem zb {b : Bool} {P : Prop} (k : P) : z1 (bI b) P := ⟨bI_or, k⟩
theorem ix0 (n : Nat) : (OfNat.ofNat n : Int32) = nI n := rfl
theorem ix1 (b n : Nat) : (OfNat.ofNat b : Int32) + nI n = nI (b + n) := nI_add b n
theorem ix2 (b s n : Nat) : (OfNat.ofNat b : Int32) + OfNat.ofNat s * nI n = nI (b + s * n) := by rw [ix0, ix0, pk_mul, nI_add]
theorem ix3 (b s n c : Nat) : (OfNat.ofNat b : Int32) + OfNat.ofNat s * nI n + nI c = nI (b + s * n + c) := by rw [ix0, ix0, pk_mul, nI_add, nI_add]
theorem ix4 (b s n c : Nat) : (OfNat.ofNat b : Int32) + OfNat.ofNat s * nI n + OfNat.ofNat c = nI (b + s * n + c) := by rw [ix0, ix0, ix0, pk_mul, nI_add, nI_add]
/-- the reference's world -/
def MR (X : Nat → Nat → Int32) (wd : Nat → Int32) : Prop := ∀ w, w < 8645 → X 1301 w = wd w
theorem aM {A : Nat → Nat} {S : Nat → Prop} {h0 h : AH} {X : Nat → Nat → Int32} {wd : Nat → Int32} (H : G A S h0 X h) (M : MR X wd) {i : Int32} {n : Nat} (hi : i = nI n) (hn : n < 8645) {K : Int32 → Prop} (kk : K (wd n)) : aI h (A 1301) i K :=
  aG (id := 1301) H H.b rfl (by decide) hi (show n < 9476 by omega) (by rw [M n hn]; exact kk)
theorem MR.put {X : Nat → Nat → Int32} {wd : Nat → Int32} (M : MR X wd) (n : Nat) (v : Int32) : MR (up X 1301 n v) (va_up wd n v) := by
  intro w hw
  by_cases e : w = n
  · subst e
    rw [up_same, va_up_self]
  · rw [up_n _ _ _ e, va_up_ne _ _ e]
    exact M w hw
theorem MR.off {X : Nat → Nat → Int32} {wd : Nat → Int32} (M : MR X wd) {id : Nat} (hd : id ≠ 1301) (n : Nat) (v : Int32) : MR (up X id n v) wd := by
  intro w hw
  rw [up_row _ _ _ (fun z => hd z.symm)]
  exact M w hw
theorem CR.offR {X : Nat → Nat → Int32} {wd : Nat → Int32} (R : CR X wd) {id : Nat} (hd : stR id = false) (n : Nat) (v : Int32) : CR (up X id n v) wd :=
  R.off (fun j m hj => by
    have : j ≠ id := fun z => by rw [z, hd] at hj; exact Bool.noConfusion hj
    rw [up_row _ _ _ this])
theorem tM {A : Nat → Nat} {S : Nat → Prop} {h0 h : AH} {X : Nat → Nat → Int32} {wd : Nat → Int32} (H : G A S h0 X h) (M : MR X wd) {i v : Int32} {n : Nat} (hi : i = nI n) (hn : n < 8645) {K : AH → Prop} (kk : ∀ h', G A S h0 (up X 1301 n v) h' → MR (up X 1301 n v) (va_up wd n v) → K h') : tI h (A 1301) i v K :=
  tG (id := 1301) H H.b rfl (by decide) hi (show n < 9476 by omega) (fun h' H' => kk h' H' (M.put n v))
/-- what bounds the world's numbers -/
def nt (x : Int32) : Nat := x.toNatClampNeg
def bn (x : Int32) (N : Nat) : Prop := x = nI (nt x) ∧ nt x ≤ N
theorem bn.of {n N : Nat} (h : n ≤ N) (hN : N < 2 ^ 31) : bn (nI n) N := by
  unfold bn nt
  rw [nI_clamp (by omega)]
  exact ⟨rfl, h⟩
theorem bn.ex {x : Int32} {N : Nat} (h : bn x N) : ∃ n, x = nI n ∧ n ≤ N := ⟨nt x, h.1, h.2⟩
theorem nt_nI {n : Nat} (h : n < 2 ^ 31) : nt (nI n) = n := nI_clamp h
def OkG (wd : Nat → Int32) (g : Nat) : Prop := bn (wd (269 + 4 * g)) 1 ∧ bn (wd (270 + 4 * g)) 15 ∧ bn (wd (272 + 4 * g)) 40
def OkP (wd : Nat → Int32) (N : Nat → Nat) (p : Nat) : Prop := (wd (301 + 6 * p) = -1 ∨ ∃ g, g < N 0 ∧ wd (301 + 6 * p) = nI g) ∧ bn (wd (302 + 6 * p)) 255 ∧ bn (wd (303 + 6 * p)) 9 ∧ bn (wd (304 + 6 * p)) 1 ∧ bn (wd (305 + 6 * p)) 1 ∧ (wd (306 + 6 * p) = -1 ∨ ∃ l, l < N 2 ∧ wd (306 + 6 * p) = nI l)
def OkF (wd : Nat → Int32) (f : Nat) : Prop := bn (wd (349 + 6 * f)) 3 ∧ bn (wd (350 + 6 * f)) 255 ∧ bn (wd (351 + 6 * f)) 9 ∧ bn (wd (352 + 6 * f)) 65535 ∧ bn (wd (353 + 6 * f)) 239 ∧ bn (wd (354 + 6 * f)) 239 ∧ nt (wd (353 + 6 * f)) ≤ nt (wd (354 + 6 * f)) ∧ (wd (349 + 6 * f) = 2 → 1 ≤ nt (wd (352 + 6 * f)) ∧ nt (wd (352 + 6 * f)) ≤ 255)
def OkT (wd : Nat → Int32) (t : Nat) : Prop := bn (wd (1069 + 4 * t)) 255 ∧ bn (wd (1070 + 4 * t)) 239 ∧ bn (wd (1071 + 4 * t)) 239 ∧ bn (wd (1072 + 4 * t)) 9
def OkL (wd : Nat → Int32) (N : Nat → Nat) (t : Nat) : Prop := (∃ w, w < N 4 ∧ wd (1101 + 3 * t) = nI w) ∧ bn (wd (1102 + 3 * t)) 255 ∧ bn (wd (1103 + 3 * t)) 239
def OkS (wd : Nat → Int32) (s : Nat) : Prop := bn (wd (1161 + s)) 99 ∧ 1 ≤ nt (wd (1161 + s))
def bN (wd : Nat → Int32) (N : Nat → Nat) (i M : Nat) : Prop := wd i = nI (N i) ∧ N i ≤ M
def OkN (wd : Nat → Int32) (N : Nat → Nat) : Prop := bN wd N 0 8 ∧ bN wd N 1 8 ∧ bN wd N 2 4 ∧ bN wd N 3 120 ∧ bN wd N 4 8 ∧ bN wd N 5 20 ∧ bN wd N 6 5 ∧ bN wd N 7 239 ∧ bN wd N 10 9 ∧ bN wd N 11 3 ∧ bN wd N 12 65535
def Ok (wd : Nat → Int32) (N : Nat → Nat) : Prop := OkN wd N ∧ (∀ c, c < 256 → bn (wd (13 + c)) 9) ∧ (∀ g, g < N 0 → OkG wd g) ∧ (∀ p, p < N 1 → OkP wd N p) ∧ (∀ f, f < N 3 → OkF wd f) ∧ (∀ t, t < N 4 → OkT wd t) ∧ (∀ t, t < N 5 → OkL wd N t) ∧ ∀ s, s < N 6 → OkS wd s
section OKS
variable {wd : Nat → Int32} {N : Nat → Nat}
theorem Ok.g (O : Ok wd N) : wd 0 = nI (N 0) ∧ N 0 ≤ 8 := O.1.1
theorem Ok.p (O : Ok wd N) : wd 1 = nI (N 1) ∧ N 1 ≤ 8 := O.1.2.1
theorem Ok.l (O : Ok wd N) : wd 2 = nI (N 2) ∧ N 2 ≤ 4 := O.1.2.2.1
theorem Ok.f (O : Ok wd N) : wd 3 = nI (N 3) ∧ N 3 ≤ 120 := O.1.2.2.2.1
theorem Ok.t (O : Ok wd N) : wd 4 = nI (N 4) ∧ N 4 ≤ 8 := O.1.2.2.2.2.1
theorem Ok.o (O : Ok wd N) : wd 5 = nI (N 5) ∧ N 5 ≤ 20 := O.1.2.2.2.2.2.1
theorem Ok.s (O : Ok wd N) : wd 6 = nI (N 6) ∧ N 6 ≤ 5 := O.1.2.2.2.2.2.2.1
theorem Ok.mi (O : Ok wd N) : wd 7 = nI (N 7) ∧ N 7 ≤ 239 := O.1.2.2.2.2.2.2.2.1
theorem Ok.de (O : Ok wd N) : wd 10 = nI (N 10) ∧ N 10 ≤ 9 := O.1.2.2.2.2.2.2.2.2.1
theorem Ok.wi (O : Ok wd N) : wd 11 = nI (N 11) ∧ N 11 ≤ 3 := O.1.2.2.2.2.2.2.2.2.2.1
theorem Ok.wa (O : Ok wd N) : wd 12 = nI (N 12) ∧ N 12 ≤ 65535 := O.1.2.2.2.2.2.2.2.2.2.2
theorem Ok.ht (O : Ok wd N) {c : Nat} (h : c < 256) : bn (wd (13 + c)) 9 := O.2.1 c h
theorem Ok.G (O : Ok wd N) {g : Nat} (h : g < N 0) : OkG wd g := O.2.2.1 g h
theorem Ok.P (O : Ok wd N) {p : Nat} (h : p < N 1) : OkP wd N p := O.2.2.2.1 p h
theorem Ok.F (O : Ok wd N) {f : Nat} (h : f < N 3) : OkF wd f := O.2.2.2.2.1 f h
theorem Ok.T (O : Ok wd N) {t : Nat} (h : t < N 4) : OkT wd t := O.2.2.2.2.2.1 t h
theorem Ok.L (O : Ok wd N) {t : Nat} (h : t < N 5) : OkL wd N t := O.2.2.2.2.2.2.1 t h
theorem Ok.S (O : Ok wd N) {s : Nat} (h : s < N 6) : OkS wd s := O.2.2.2.2.2.2.2 s h
end OKS
/-! what loops gather -/
def cnt (p : Nat → Bool) : Nat → Int32
  | 0 => 0
  | n + 1 => if p n then cnt p n + 1 else cnt p n
def bts (p : Nat → Bool) : Nat → Int32
  | 0 => 0
  | n + 1 => if p n then bts p n ||| (1 <<< (nI n &&& 31)) else bts p n
def sm (f : Nat → Int32) : Nat → Int32
  | 0 => 0
  | n + 1 => sm f n + f n
def orS (f : Nat → Int32) : Nat → Int32
  | 0 => 0
  | n + 1 => orS f n ||| f n
def anyB (p : Nat → Bool) : Nat → Bool
  | 0 => false
  | n + 1 => anyB p n || p n
def allB (p : Nat → Bool) : Nat → Bool
  | 0 => true
  | n + 1 => allB p n && p n
theorem anyB_iff {p : Nat → Bool} : ∀ {n : Nat}, anyB p n = true ↔ ∃ i, i < n ∧ p i = true := by
  intro n
  induction n with
  | zero => simp [anyB]
  | succ n ih =>
    simp only [anyB, Bool.or_eq_true, ih]
    constructor
    · rintro (⟨i, h1, h2⟩ | h)
      · exact ⟨i, by omega, h2⟩
      · exact ⟨n, by omega, h⟩
    · rintro ⟨i, h1, h2⟩
      by_cases e : i = n
      · subst e
        exact Or.inr h2
      · exact Or.inl ⟨i, by omega, h2⟩
theorem allB_iff {p : Nat → Bool} : ∀ {n : Nat}, allB p n = true ↔ ∀ i, i < n → p i = true := by
  intro n
  induction n with
  | zero => simp [allB]
  | succ n ih =>
    simp only [allB, Bool.and_eq_true, ih]
    constructor
    · rintro ⟨h1, h2⟩ i hi
      by_cases e : i = n
      · subst e
        exact h2
      · exact h1 i (by omega)
    · exact fun h => ⟨fun i hi => h i (by omega), h n (by omega)⟩
theorem cnt_congr {p q : Nat → Bool} : ∀ {n : Nat}, (∀ i, i < n → p i = q i) → cnt p n = cnt q n := by
  intro n
  induction n with
  | zero => intro _; rfl
  | succ n ih =>
    intro h
    simp only [cnt]
    rw [ih (fun i hi => h i (by omega)), h n (by omega)]
theorem bts_congr {p q : Nat → Bool} : ∀ {n : Nat}, (∀ i, i < n → p i = q i) → bts p n = bts q n := by
  intro n
  induction n with
  | zero => intro _; rfl
  | succ n ih =>
    intro h
    simp only [bts]
    rw [ih (fun i hi => h i (by omega)), h n (by omega)]
theorem sm_congr {p q : Nat → Int32} : ∀ {n : Nat}, (∀ i, i < n → p i = q i) → sm p n = sm q n := by
  intro n
  induction n with
  | zero => intro _; rfl
  | succ n ih =>
    intro h
    simp only [sm]
    rw [ih (fun i hi => h i (by omega)), h n (by omega)]
theorem cnt_bI {p : Nat → Bool} {n : Nat} : cnt p (n + 1) = cnt p n + bI (p n) := by
  simp only [cnt]
  by_cases e : p n = true
  · rw [if_pos e, bI_t e]
  · rw [if_neg e, bI_f (by simpa using e), Int32.add_zero]
