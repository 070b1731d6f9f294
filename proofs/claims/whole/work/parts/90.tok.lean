/-! the things of a text -/
def inB (B : Nat → Nat) (n lo hi p : Nat) : Bool := decide (p < n) && (decide (lo ≤ B p) && decide (B p ≤ hi))
def beF (B : Nat → Nat) (n lo hi : Nat) : Nat → Nat → Nat
  | 0, p => p
  | f + 1, p => if inB B n lo hi p = true then beF B n lo hi f (p + 1) else p
/-- 400, kept from being counted down -/
noncomputable def k400 : Nat := cIf True 400 0
theorem k400_eq : k400 = 400 := cIf_t trivial
noncomputable def k10 : Nat := cIf True 10 0
theorem k10_eq : k10 = 10 := cIf_t trivial
noncomputable def k6 : Nat := cIf True 6 0
theorem k6_eq : k6 = 6 := cIf_t trivial
noncomputable def be (B : Nat → Nat) (n lo hi p : Nat) : Nat := beF B n lo hi k400 p
theorem inB_iff {B : Nat → Nat} {n lo hi p : Nat} : inB B n lo hi p = true ↔ p < n ∧ lo ≤ B p ∧ B p ≤ hi := by
  unfold inB
  rw [Bool.and_eq_true, Bool.and_eq_true, decide_eq_true_iff, decide_eq_true_iff, decide_eq_true_iff]
section BEH
variable {B : Nat → Nat} {n lo hi : Nat}
theorem beF_spec : ∀ {f p : Nat}, n ≤ p + f → p ≤ beF B n lo hi f p ∧ (∀ q, p ≤ q → q < beF B n lo hi f p → inB B n lo hi q = true) ∧ inB B n lo hi (beF B n lo hi f p) = false ∧ (p ≤ n → beF B n lo hi f p ≤ n) := by
  intro f
  induction f with
  | zero =>
    intro p h
    refine ⟨Nat.le_refl _, fun q h1 h2 => ?_, ?_, fun h => h⟩
    · simp only [beF] at h2
      omega
    · cases e : inB B n lo hi (beF B n lo hi 0 p) with
      | false => rfl
      | true =>
        have := inB_iff.mp e
        simp only [beF] at this
        omega
  | succ f ih =>
    intro p h
    by_cases c : inB B n lo hi p = true
    · have e : beF B n lo hi (f + 1) p = beF B n lo hi f (p + 1) := by simp only [beF]; rw [if_pos c]
      rw [e]
      obtain ⟨i1, i2, i3, i4⟩ := ih (p := p + 1) (by omega)
      refine ⟨by omega, fun q h1 h2 => ?_, i3, fun _ => i4 (by have := (inB_iff.mp c).1; omega)⟩
      by_cases z : q = p
      · rw [z]; exact c
      · exact i2 q (by omega) h2
    · have e : beF B n lo hi (f + 1) p = p := by simp only [beF]; rw [if_neg c]
      rw [e]
      exact ⟨Nat.le_refl _, fun q h1 h2 => by omega, by simpa using c, fun h => h⟩
theorem be_spec (hn : n ≤ 400) (p : Nat) : p ≤ be B n lo hi p ∧ (∀ q, p ≤ q → q < be B n lo hi p → inB B n lo hi q = true) ∧ inB B n lo hi (be B n lo hi p) = false ∧ (p ≤ n → be B n lo hi p ≤ n) := beF_spec (by rw [k400_eq]; omega)
theorem be_uniq (hn : n ≤ 400) {p e : Nat} (h1 : p ≤ e) (h2 : ∀ q, p ≤ q → q < e → inB B n lo hi q = true) (h3 : inB B n lo hi e = false) : be B n lo hi p = e := by
  obtain ⟨b1, b2, b3, b4⟩ := be_spec (B := B) (lo := lo) (hi := hi) hn p
  rcases Nat.lt_trichotomy (be B n lo hi p) e with c | c | c
  · rw [h2 _ b1 c] at b3
    cases b3
  · exact c
  · rw [b2 _ h1 c] at h3
    cases h3
theorem be_step (hn : n ≤ 400) {p : Nat} (h : inB B n lo hi p = true) : be B n lo hi (p + 1) = be B n lo hi p := by
  obtain ⟨b1, b2, b3, b4⟩ := be_spec (B := B) (lo := lo) (hi := hi) hn (p + 1)
  refine (be_uniq hn (by omega) (fun q h1 h2 => ?_) b3).symm
  by_cases z : q = p
  · rw [z]; exact h
  · exact b2 q (by omega) h2
theorem be_stop (hn : n ≤ 400) {p : Nat} (h : inB B n lo hi p = false) : be B n lo hi p = p := be_uniq hn (Nat.le_refl _) (fun q h1 h2 => by omega) h
theorem be_be (hn : n ≤ 400) (p : Nat) : be B n lo hi (be B n lo hi p) = be B n lo hi p := be_stop hn (be_spec hn p).2.2.1
end BEH
/-- the words, each with its bytes -/
def wds : List (List Nat) := [[115, 104, 111, 111, 116], [102, 108, 101, 101], [106, 111, 105, 110], [104, 111, 108, 100], [100, 114, 111, 112], [105, 102], [97, 110, 100], [111, 114], [110, 111, 116], [102, 111, 101, 115], [102, 114, 105, 101, 110, 100, 115], [102, 101, 97, 114], [109, 105, 110, 117, 116, 101], [104, 101, 105, 103, 104, 116], [114, 111, 117, 110, 100, 115], [102, 97, 114], [97, 114, 109, 101, 100], [97, 108, 111, 110, 101], [99, 97, 115, 101, 115], [98, 97, 108, 108, 115], [98, 111, 110, 101, 115], [108, 97, 116, 101, 114], [103, 117, 110, 115], [102, 105, 116, 115], [104, 101, 97, 112, 115], [104, 101, 108, 100]]
def mL (B : Nat → Nat) : Nat → List Nat → Bool
  | _, [] => true
  | p, c :: cs => decide (B p = c) && mL B (p + 1) cs
def mW (B : Nat → Nat) (p len : Nat) (w : List Nat) : Bool := decide (len = w.length) && mL B p w
def wI (B : Nat → Nat) (p len : Nat) : List (List Nat) → Nat → Option Nat
  | [], _ => none
  | w :: ws, k => if mW B p len w = true then some k else wI B p len ws (k + 1)
theorem mL_eq {B : Nat → Nat} : ∀ {w v : List Nat} {p : Nat}, w.length = v.length → mL B p w = true → mL B p v = true → w = v := by
  intro w
  induction w with
  | nil =>
    intro v p h _ _
    cases v with
    | nil => rfl
    | cons a b => simp at h
  | cons c cs ih =>
    intro v p h h1 h2
    cases v with
    | nil => simp at h
    | cons d ds =>
      simp only [mL, Bool.and_eq_true, decide_eq_true_eq] at h1 h2
      rw [ih (by simpa using h) h1.2 h2.2, ← h1.1, ← h2.1]
theorem mW_eq {B : Nat → Nat} {p len : Nat} {w v : List Nat} (h1 : mW B p len w = true) (h2 : mW B p len v = true) : w = v := by
  unfold mW at h1 h2
  rw [Bool.and_eq_true, decide_eq_true_iff] at h1 h2
  exact mL_eq (h1.1.symm.trans h2.1) h1.2 h2.2
theorem wI_some {B : Nat → Nat} {p len : Nat} : ∀ {ws : List (List Nat)} {k r : Nat}, wI B p len ws k = some r → ∃ i, r = k + i ∧ i < ws.length ∧ mW B p len (ws.getD i []) = true := by
  intro ws
  induction ws with
  | nil => intro k r h; cases h
  | cons w ws ih =>
    intro k r h
    simp only [wI] at h
    by_cases c : mW B p len w = true
    · rw [if_pos c] at h
      cases h
      exact ⟨0, rfl, by simp, by simpa using c⟩
    · rw [if_neg c] at h
      obtain ⟨i, h1, h2, h3⟩ := ih h
      exact ⟨i + 1, by omega, by simp; omega, by simpa using h3⟩
theorem wI_ex {B : Nat → Nat} {p len : Nat} : ∀ {ws : List (List Nat)} {k i : Nat}, i < ws.length → mW B p len (ws.getD i []) = true → ∃ r, wI B p len ws k = some r := by
  intro ws
  induction ws with
  | nil => intro k i h; simp at h
  | cons w ws ih =>
    intro k i h1 h2
    simp only [wI]
    by_cases c : mW B p len w = true
    · exact ⟨k, by rw [if_pos c]⟩
    · rw [if_neg c]
      cases i with
      | zero => exact absurd (by simpa using h2) c
      | succ i => exact ih (by simpa using h1) (by simpa using h2)
theorem wds_inj : ∀ i, i < 26 → ∀ j, j < 26 → wds.getD i [] = wds.getD j [] → i = j := by decide +kernel
theorem wI_iff {B : Nat → Nat} {p len k : Nat} (hk : k < 26) : wI B p len wds 0 = some k ↔ mW B p len (wds.getD k []) = true := by
  constructor
  · intro h
    obtain ⟨i, h1, h2, h3⟩ := wI_some h
    rw [show k = i by omega]
    exact h3
  · intro h
    obtain ⟨r, hr⟩ := wI_ex (ws := wds) (k := 0) (i := k) hk h
    obtain ⟨i, h1, h2, h3⟩ := wI_some hr
    have := wds_inj i h2 k hk (mW_eq h3 h)
    rw [hr]
    congr 1
    omega
theorem wI_lt {B : Nat → Nat} {p len k : Nat} (h : wI B p len wds 0 = some k) : k < 26 := by
  obtain ⟨i, h1, h2, h3⟩ := wI_some h
  have : wds.length = 26 := rfl
  omega
def alN (B : Nat → Nat) (p len c : Nat) (al : Option Nat) : Option Nat := match al with
  | none => none
  | some a => if a < len ∧ B (p + a) = c then some (a + 1) else none
/-- the class's look for a word: over all words, each with a blank behind it -/
def scanW (B : Nat → Nat) (p len : Nat) : List Nat → Nat → Option Nat → Option Nat
  | [], _, _ => none
  | c :: cs, num, al => if c = 32 then (if al = some len then some num else scanW B p len cs (num + 1) (some 0)) else scanW B p len cs num (alN B p len c al)
theorem scan_none {B : Nat → Nat} {p len num : Nat} {rest : List Nat} : ∀ {cs : List Nat}, (∀ c, c ∈ cs → c ≠ 32) → scanW B p len (cs ++ 32 :: rest) num none = scanW B p len rest (num + 1) (some 0) := by
  intro cs
  induction cs with
  | nil =>
    intro _
    simp only [List.nil_append, scanW]
    rw [if_pos trivial, if_neg (fun z => by cases z)]
  | cons c cs ih =>
    intro h
    simp only [List.cons_append, scanW]
    rw [if_neg (h c List.mem_cons_self)]
    exact ih (fun d hd => h d (List.mem_cons_of_mem _ hd))
theorem scan_word {B : Nat → Nat} {p len num : Nat} {rest : List Nat} : ∀ {cs : List Nat} {a : Nat}, (∀ c, c ∈ cs → c ≠ 32) → scanW B p len (cs ++ 32 :: rest) num (some a) = if len = a + cs.length ∧ mL B (p + a) cs = true then some num else scanW B p len rest (num + 1) (some 0) := by
  intro cs
  induction cs with
  | nil =>
    intro a _
    show (if (32 : Nat) = 32 then (if some a = some len then some num else scanW B p len rest (num + 1) (some 0)) else _) = _
    rw [if_pos rfl]
    by_cases c : len = a
    · rw [if_pos (by rw [c]), if_pos ⟨c, rfl⟩]
    · rw [if_neg (fun z => c (Option.some.inj z).symm), if_neg (fun z => c z.1)]
  | cons c cs ih =>
    intro a h
    have h2 : ∀ d, d ∈ cs → d ≠ 32 := fun d hd => h d (List.mem_cons_of_mem _ hd)
    have eL : scanW B p len ((c :: cs) ++ 32 :: rest) num (some a) = scanW B p len (cs ++ 32 :: rest) num (if a < len ∧ B (p + a) = c then some (a + 1) else none) := by
      show (if c = 32 then _ else _) = _
      rw [if_neg (h c List.mem_cons_self)]
      rfl
    have hiff : (len = a + (c :: cs).length ∧ mL B (p + a) (c :: cs) = true) ↔ (a < len ∧ B (p + a) = c) ∧ (len = a + 1 + cs.length ∧ mL B (p + (a + 1)) cs = true) := by
      have e1 : mL B (p + a) (c :: cs) = true ↔ B (p + a) = c ∧ mL B (p + (a + 1)) cs = true := by
        show (decide (B (p + a) = c) && mL B (p + a + 1) cs) = true ↔ _
        rw [Bool.and_eq_true, decide_eq_true_iff, Nat.add_assoc]
      rw [e1, List.length_cons]
      constructor
      · rintro ⟨g1, g2, g3⟩
        exact ⟨⟨by omega, g2⟩, by omega, g3⟩
      · rintro ⟨⟨g1, g2⟩, g3, g4⟩
        exact ⟨by omega, g2, g4⟩
    rw [eL]
    by_cases d : a < len ∧ B (p + a) = c
    · rw [if_pos d, ih h2]
      by_cases e : len = a + 1 + cs.length ∧ mL B (p + (a + 1)) cs = true
      · rw [if_pos e, if_pos (hiff.mpr ⟨d, e⟩)]
      · rw [if_neg e, if_neg (fun z => e (hiff.mp z).2)]
    · rw [if_neg d, scan_none h2, if_neg (fun z => d (hiff.mp z).1)]
theorem scan_all {B : Nat → Nat} {p len : Nat} : ∀ {ws : List (List Nat)} {num : Nat}, (∀ w, w ∈ ws → ∀ c, c ∈ w → c ≠ 32) → scanW B p len (ws.flatMap fun w => w ++ [32]) num (some 0) = wI B p len ws num := by
  intro ws
  induction ws with
  | nil => intro num _; rfl
  | cons w ws ih =>
    intro num h
    rw [List.flatMap_cons, List.append_assoc, List.cons_append, List.nil_append, scan_word (h w List.mem_cons_self), ih (fun v hv => h v (List.mem_cons_of_mem _ hv))]
    have hiff : (len = 0 + w.length ∧ mL B (p + 0) w = true) ↔ mW B p len w = true := by
      unfold mW
      rw [Bool.and_eq_true, decide_eq_true_iff, Nat.zero_add, Nat.add_zero]
    simp only [wI]
    by_cases e : mW B p len w = true
    · rw [if_pos (hiff.mpr e), if_pos e]
    · rw [if_neg (fun z => e (hiff.mp z)), if_neg e]
def Wl : List Nat := wds.flatMap fun w => w ++ [32]
theorem wds_32 : ∀ w, w ∈ wds → ∀ c, c ∈ w → c ≠ 32 := by decide +kernel
theorem scan_Wl {B : Nat → Nat} {p len : Nat} : scanW B p len Wl 0 (some 0) = wI B p len wds 0 := scan_all wds_32
def nVal (B : Nat → Nat) (p : Nat) : Nat → Nat
  | 0 => 0
  | k + 1 => 10 * nVal B p k + (B (p + k) - 48)
def sgn (b : Nat) : Bool := b = 40 || b = 41 || b = 42 || b = 43 || b = 59 || b = 60 || b = 62
section TOK
variable (B : Nat → Nat) (n : Nat)
noncomputable def tkE (p : Nat) : Nat := if inB B n 97 122 p = true then be B n 97 122 p else if inB B n 48 57 p = true then be B n 48 57 p else p + 1
noncomputable def tkB : Nat → Nat
  | 0 => be B n 32 32 0
  | i + 1 => if tkB i < n then be B n 32 32 (tkE B n (tkB i)) else tkB i
noncomputable def tkV (p : Nat) : Nat := if inB B n 97 122 p = true then (match wI B p (be B n 97 122 p - p) wds 0 with
    | some k => 1000 + k
    | none => 1) else if inB B n 48 57 p = true then (if be B n 48 57 p - p ≤ 3 then 2000 + nVal B p (be B n 48 57 p - p) else 1) else if sgn (B p) = true then B p else 1
noncomputable def tkH (i : Nat) : Nat := if tkB B n i < n then tkV B n (tkB B n i) else 0
noncomputable def tkN : Nat → Nat
  | 0 => 0
  | i + 1 => tkE B n (tkB B n i)
noncomputable def tcF : Nat → Nat → Nat
  | 0, i => i
  | f + 1, i => if tkB B n i < n then tcF f (i + 1) else i
noncomputable def tkC : Nat := tcF B n k400 0
end TOK
section TOKP
variable {B : Nat → Nat} {n : Nat}
theorem tkE_gt (hn : n ≤ 400) {p : Nat} (h : p < n) : p + 1 ≤ tkE B n p ∧ tkE B n p ≤ n := by
  unfold tkE
  have key : ∀ lo hi, inB B n lo hi p = true → p + 1 ≤ be B n lo hi p ∧ be B n lo hi p ≤ n := by
    intro lo hi c
    have h1 := be_step hn c
    have h2 := (be_spec (B := B) (lo := lo) (hi := hi) hn (p + 1)).1
    exact ⟨by omega, (be_spec hn p).2.2.2 (by omega)⟩
  by_cases c : inB B n 97 122 p = true
  · rw [if_pos c]; exact key _ _ c
  · rw [if_neg c]
    by_cases d : inB B n 48 57 p = true
    · rw [if_pos d]; exact key _ _ d
    · rw [if_neg d]; omega
theorem tkB_le (hn : n ≤ 400) : ∀ i, tkB B n i ≤ n := by
  intro i
  induction i with
  | zero => exact (be_spec hn 0).2.2.2 (Nat.zero_le _)
  | succ i ih =>
    simp only [tkB]
    split
    · rename_i c
      exact (be_spec hn _).2.2.2 (tkE_gt hn c).2
    · exact ih
theorem tkB_nb (hn : n ≤ 400) : ∀ i, inB B n 32 32 (tkB B n i) = false := by
  intro i
  induction i with
  | zero => exact (be_spec hn 0).2.2.1
  | succ i ih =>
    simp only [tkB]
    split
    · exact (be_spec hn _).2.2.1
    · exact ih
theorem tkB_up (hn : n ≤ 400) {i : Nat} (h : tkB B n i < n) : tkN B n (i + 1) ≤ tkB B n (i + 1) ∧ tkB B n i + 1 ≤ tkN B n (i + 1) ∧ tkN B n (i + 1) ≤ n := by
  obtain ⟨h1, h2⟩ := tkE_gt (B := B) hn h
  have h3 := (be_spec (B := B) (lo := 32) (hi := 32) hn (tkE B n (tkB B n i))).1
  simp only [tkN, tkB]
  rw [if_pos h]
  exact ⟨h3, h1, h2⟩
theorem tcF_spec (hn : n ≤ 400) : ∀ {f i : Nat}, f + i = 400 → i ≤ tkB B n i → (∀ j, j < i → tkB B n j < n) → n ≤ tkB B n (tcF B n f i) ∧ (∀ j, j < tcF B n f i → tkB B n j < n) ∧ tcF B n f i ≤ 400 := by
  intro f
  induction f with
  | zero =>
    intro i h1 h2 h3
    simp only [tcF]
    exact ⟨by omega, h3, by omega⟩
  | succ f ih =>
    intro i h1 h2 h3
    simp only [tcF]
    by_cases c : tkB B n i < n
    · rw [if_pos c]
      have := tkB_up (B := B) hn c
      refine ih (by omega) (by omega) (fun j hj => ?_)
      by_cases z : j = i
      · rw [z]; exact c
      · exact h3 j (by omega)
    · rw [if_neg c]
      exact ⟨by omega, h3, by omega⟩
theorem tkC_spec (hn : n ≤ 400) : tkB B n (tkC B n) = n ∧ (∀ j, j < tkC B n → tkB B n j < n) ∧ tkC B n ≤ 400 := by
  obtain ⟨h1, h2, h3⟩ := tcF_spec (B := B) hn (f := k400) (i := 0) k400_eq (Nat.zero_le _) (fun j hj => absurd hj (Nat.not_lt_zero _))
  have := tkB_le (B := B) hn (tkC B n)
  exact ⟨by unfold tkC at *; omega, h2, h3⟩
theorem tkB_end (hn : n ≤ 400) : ∀ {i : Nat}, tkC B n ≤ i → tkB B n i = n := by
  intro i
  induction i with
  | zero =>
    intro h
    have := (tkC_spec (B := B) hn).1
    rw [show tkC B n = 0 by omega] at this
    exact this
  | succ i ih =>
    intro h
    by_cases c : tkC B n = i + 1
    · rw [← c]; exact (tkC_spec hn).1
    · have := ih (by omega)
      simp only [tkB]
      rw [if_neg (by omega)]
      exact this
/-- what the readers need to know of the things -/
def TS (th te : Nat → Nat) (c : Nat) : Prop := c ≤ 400 ∧ (∀ i, i < c → th i ≠ 0) ∧ (∀ i, c ≤ i → th i = 0) ∧ (∀ i, i < c → te i + 1 ≤ te (i + 1)) ∧ (∀ i, i ≤ c → te i ≤ 400) ∧ (∀ i, i < c → (1000 ≤ th i ∧ th i ≤ 1004) ∨ th i = 1025 → te i + 4 ≤ te (i + 1)) ∧ (∀ i, th i < 3000) ∧ te 0 = 0
theorem nVal_lt : ∀ {k p : Nat}, (∀ j, j < k → B (p + j) ≤ 57) → nVal B p k < 10 ^ k := by
  intro k
  induction k with
  | zero => intro p _; simp [nVal]
  | succ k ih =>
    intro p h
    have h1 := ih (fun j hj => h j (by omega))
    have h2 := h k (by omega)
    simp only [nVal]
    rw [Nat.pow_succ]
    omega
theorem wds_len : ∀ k, k < 26 → (k ≤ 4 ∨ k = 25) → 4 ≤ (wds.getD k []).length := by decide +kernel
theorem tkV_lt (hn : n ≤ 400) (p : Nat) : tkV B n p < 3000 ∧ tkV B n p ≠ 0 := by
  unfold tkV
  by_cases c : inB B n 97 122 p = true
  · rw [if_pos c]
    cases e : wI B p (be B n 97 122 p - p) wds 0 with
    | none => exact ⟨by decide, by decide⟩
    | some k =>
      have := wI_lt e
      dsimp only
      omega
  · rw [if_neg c]
    by_cases d : inB B n 48 57 p = true
    · rw [if_pos d]
      split
      · rename_i e
        have h1 : nVal B p (be B n 48 57 p - p) < 10 ^ (be B n 48 57 p - p) := nVal_lt (fun j hj => (inB_iff.mp ((be_spec (B := B) (lo := 48) (hi := 57) hn p).2.1 (p + j) (by omega) (by omega))).2.2)
        have h2 : 10 ^ (be B n 48 57 p - p) ≤ 10 ^ 3 := Nat.pow_le_pow_right (by decide) e
        omega
      · omega
    · rw [if_neg d]
      split
      · rename_i e
        unfold sgn at e
        simp only [Bool.or_eq_true, decide_eq_true_eq] at e
        omega
      · omega
theorem tok_TS (hn : n ≤ 400) : TS (tkH B n) (tkN B n) (tkC B n) := by
  obtain ⟨h1, h2, h3⟩ := tkC_spec (B := B) hn
  have ht : ∀ i, tkH B n i < 3000 := by
    intro i
    unfold tkH
    split
    · exact (tkV_lt hn _).1
    · omega
  have hte : ∀ i, i ≤ tkC B n → tkN B n i ≤ tkB B n i := by
    intro i hi
    cases i with
    | zero => exact Nat.zero_le _
    | succ i => exact (tkB_up hn (h2 i (by omega))).1
  refine ⟨h3, fun i hi => ?_, fun i hi => ?_, fun i hi => ?_, fun i hi => ?_, fun i hi hw => ?_, ht, rfl⟩
  · unfold tkH
    rw [if_pos (h2 i hi)]
    exact (tkV_lt hn _).2
  · unfold tkH
    rw [tkB_end hn hi, if_neg (Nat.lt_irrefl _)]
  · have := hte i (by omega)
    have := tkB_up (B := B) hn (h2 i hi)
    omega
  · have := hte i hi
    have := tkB_le (B := B) hn i
    omega
  · have e1 := hte i (by omega)
    have e2 := h2 i hi
    unfold tkH at hw
    rw [if_pos e2] at hw
    show _ ≤ tkE B n (tkB B n i)
    generalize tkB B n i = p at *
    unfold tkV at hw
    unfold tkE
    by_cases c : inB B n 97 122 p = true
    · rw [if_pos c] at hw ⊢
      cases e : wI B p (be B n 97 122 p - p) wds 0 with
      | none =>
        rw [e] at hw
        dsimp only at hw
        omega
      | some k =>
        rw [e] at hw
        dsimp only at hw
        have k1 := wI_lt e
        have k2 := wds_len k k1 (by omega)
        have k3 := (wI_iff k1).mp e
        unfold mW at k3
        rw [Bool.and_eq_true, decide_eq_true_iff] at k3
        omega
    · rw [if_neg c] at hw
      by_cases d : inB B n 48 57 p = true
      · rw [if_pos d] at hw
        split at hw <;> omega
      · rw [if_neg d] at hw
        split at hw
        · rename_i e
          unfold sgn at e
          simp only [Bool.or_eq_true, decide_eq_true_eq] at e
          omega
        · omega
end TOKP
