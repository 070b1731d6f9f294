/-! the class's reader: bytes, texts, things -/
theorem sh0 (x : Int32) : x >>> ((0 : Int32) &&& 31) = x := by
  apply b_ext
  intro i hi
  have h := b_sshr 0 (by decide) x hi
  rw [if_pos (by omega), Nat.zero_add] at h
  exact h
theorem chr_1 : ∀ c, c < 128 → ((((nI c) &&& (255 : Int32)).toUInt32 % 65536).toInt32) = nI c := by decide +kernel
theorem chr_2 : ∀ c, c < 128 → (nI c).toUInt32.toUInt16.toUInt32.toInt32 = nI c := by decide +kernel
theorem chr_n {c : Nat} (h : c < 128) : narrow .char (.int (nI c)) = .int (nI c) := congrArg Value.int (chr_2 c h)
/-- what is in the texts -/
def txB (i j : Nat) : Nat := nt ((strB.getD i []).getD j 0)
theorem txB_all : ((List.range 34).all fun i => (List.range (strL.getD i 0)).all fun j => decide ((strB.getD i []).getD j 0 = nI (txB i j)) && decide (txB i j < 128)) = true := by decide +kernel
theorem txB_at {i j : Nat} (hi : i < 34) (hj : j < strL.getD i 0) : (strB.getD i []).getD j 0 = nI (txB i j) ∧ txB i j < 128 := by
  have h1 := List.all_eq_true.mp txB_all i (List.mem_range.mpr hi)
  have h2 := List.all_eq_true.mp h1 j (List.mem_range.mpr hj)
  rw [Bool.and_eq_true, decide_eq_true_iff, decide_eq_true_iff] at h2
  exact h2
theorem strL_lt : ∀ i, i < 34 → strL.getD i 0 ≤ 140 := by decide +kernel
section TXT
variable {h : AH} {Q : Int32 → AH → Prop}
theorem J_len {a i : Nat} (ha : gS h a = some i) (k : Q (nI (strL.getD i 0)) h) : w_J0_length_8abf5 a h Q := by
  dsimp only [w_J0_length_8abf5, w_J0_coder_7d493, w_J0_coder_7d493_14]
  refine ⟨i, ha, fun b hb => ⟨i, hb, ⟨i, ha⟩, br_F (by decide) ⟨⟨i, ha⟩, rfl, ?_⟩⟩⟩
  rw [sh0]
  exact k
theorem J_chr {a i j : Nat} (ha : gS h a = some i) (hi : i < 34) (hj : j < strL.getD i 0) (k : Q (nI (txB i j)) h) : w_J0_charAt_5068e a (nI j) h Q := by
  obtain ⟨e1, e2⟩ := txB_at hi hj
  have := strL_lt i hi
  dsimp only [w_J0_charAt_5068e, w_J0_isLatin1_aae02, w_J0_isLatin1_aae02_18, w_J0_isLatin1_aae02_17, w_J1_charAt_3b067, w_J0_checkIndex_df160]
  refine ⟨⟨i, ha⟩, br_F (by decide) ⟨⟨i, ha⟩, br_T rfl ⟨Or.inr rfl, br_F (by decide) ⟨i, ha, fun b hb => ⟨i, hb, ?_, nI_lt hj (by omega), i, hb, vp_in_nI hj (by omega), ?_⟩⟩⟩⟩⟩
  · exact nI_nlt (a := j) (b := 0) (by omega) (by omega)
  · rw [nI_clamp (by omega), e1]
    dsimp only
    rw [chr_1 _ e2]
    exact ⟨chr_n e2, chr_n e2, k⟩
theorem sg8 : ∀ c, c < 256 → ((nI c).toUInt32 % 65536).toInt32 = nI c := by decide +kernel
theorem sg_i8 : ∀ c, c < 256 → ∀ j, j < 7 → ((strB.getD 4 []).getD j 0 = (nI c).toInt8.toInt32 ↔ txB 4 j = c) := by decide +kernel
theorem sgn_iff : ∀ c, c < 256 → (sgn c = true ↔ ∃ j, j < 7 ∧ txB 4 j = c) := by decide +kernel
/-- whether a byte is a sign -/
theorem J_idx {a c : Nat} (ha : gS h a = some 4) (hc : c < 256) (k1 : sgn c = true → ∀ j, j < 7 → Q (nI j) h) (k2 : ¬ sgn c = true → Q (-1) h) : w_J0_indexOf_0f7a4 a (((nI c).toUInt32 % 65536).toInt32) h Q := by
  rw [sg8 c hc]
  dsimp only [w_J0_indexOf_0f7a4, w_J0_indexOf_7cf53, w_J0_isLatin1_aae02, w_J0_isLatin1_aae02_18, w_J0_isLatin1_aae02_17]
  refine ⟨⟨4, ha⟩, ⟨4, ha⟩, br_F (by decide) ⟨⟨4, ha⟩, br_T rfl ⟨Or.inr rfl, br_F (by decide) ⟨4, ha, fun b hb => ⟨⟨4, ha⟩, J_len ha ?_⟩⟩⟩⟩⟩
  dsimp only [w_J1_indexOf_4cfef, w_J1_canEncode_9a6ad, w_J1_canEncode_9a6ad_16, w_J1_canEncode_9a6ad_15]
  refine br_F (nI_nlt (a := c) (b := 0) (by omega) (by omega)) (br_F (nI_nlt (a := 255) (b := c) (by omega) (by omega)) ⟨Or.inr rfl, br_F (by decide) ⟨4, hb, br_T (by decide) ?_⟩⟩)
  dsimp only [w_J1_indexOfChar_4cfef]
  refine lp_ex 7 (fun j => (nI j, h)) (fun j => ∀ i, i < j → ¬ txB 4 i = c) (fun j kk hj hP kn => ?_) (fun hP kk => ?_) (Nat.zero_le _) (fun i hi => absurd hi (Nat.not_lt_zero _))
  · dsimp only [w_J1_indexOfChar_4cfef_7, w_J1_indexOfChar_4cfef_22]
    refine br_F (nI_ge (a := j) (b := 7) hj (by decide)) ⟨4, hb, vp_in_nI (N := 7) hj (by decide), ?_⟩
    rw [nI_clamp (by omega)]
    refine br_if (fun d => ?_) (fun d => ?_)
    · exact k1 ((sgn_iff c hc).mpr ⟨j, hj, (sg_i8 c hc j hj).mp d⟩) j hj
    · rw [← nI_succ]
      refine kn (fun i hi => ?_)
      by_cases e : i = j
      · rw [e]
        exact fun z => d ((sg_i8 c hc j hj).mpr z)
      · exact hP i (by omega)
  · dsimp only [w_J1_indexOfChar_4cfef_7, w_J1_indexOfChar_4cfef_31]
    refine br_T (Int32.le_refl _) (k2 (fun z => ?_))
    obtain ⟨j, h1, h2⟩ := (sgn_iff c hc).mp z
    exact hP j h1 h2
end TXT
theorem Wl_str : ∀ j, j < 140 → Wl.getD j 0 = txB 3 j := by decide +kernel
theorem Wl_len : Wl.length = 140 := by decide +kernel
def aE (o : Option Nat) : Int32 := match o with
  | none => -1
  | some a => nI a
def wdV (o : Option Nat) : Nat := match o with
  | none => 1
  | some k => 1000 + k
section CTOK
variable {A : Nat → Nat} {S : Nat → Prop} {h0 h : AH} {X : Nat → Nat → Int32} {Q : Int32 → AH → Prop} {Qv : AH → Prop} {B : Nat → Nat} {n : Nat}
theorem c_isByteIn (H : G A S h0 X h) (C : TC X B n) (hn : n ≤ 400) (hB : ∀ i, i < n → B i < 256) {lo hi p : Nat} (hp : p ≤ 1000) (hl : lo < 256) (hh : hi < 256) (k : Q (bI (inB B n lo hi p)) h) : w_X6_isByteIn (A 6) (nI p) (nI lo) (nI hi) h Q := by
  dsimp only [w_X6_isByteIn, w_X6_isByteIn_32, w_X6_isByteIn_33]
  refine fG (o := 6) H H.b rfl ?_
  rw [C.1]
  have no : ¬ inB B n lo hi p = true → z1 0 (Q 0 h) := fun z => zf k (by simpa using z)
  refine br_Le (by omega) (by omega) (fun c => no (fun z => ?_)) (fun c => ?_)
  · have := (inB_iff.mp z).1
    omega
  · refine fP (o := 6) H H.b rfl rfl ?_
    refine aG (id := 700) H H.b rfl (by decide) rfl (by omega) ?_
    have hb := hB p c
    rw [C.2 p c]
    refine br_Lt (by omega) (by omega) (fun d => no (fun z => ?_)) (fun d => ?_)
    · have := (inB_iff.mp z).2.1
      omega
    · refine fP (o := 6) H H.b rfl rfl ?_
      refine aG (id := 700) H H.b rfl (by decide) rfl (by omega) ?_
      rw [C.2 p c]
      refine br_Lt (by omega) (by omega) (fun d2 => no (fun z => ?_)) (fun d2 => ?_)
      · have := (inB_iff.mp z).2.2
        omega
      · exact zt k (inB_iff.mpr ⟨c, d, d2⟩)
theorem c_behind (H : G A S h0 X h) (C : TC X B n) (hn : n ≤ 400) (hB : ∀ i, i < n → B i < 256) {lo hi p : Nat} (hp : p ≤ 401) (hl : lo < 256) (hh : hi < 256) (k : Q (nI (be B n lo hi p)) h) : w_X6_behind (A 6) (nI p) (nI lo) (nI hi) h Q := by
  dsimp only [w_X6_behind]
  refine lp_inv 400 (fun j (s : Int32 × Int32 × AH) => ∃ q f, s = (nI q, nI j, h) ∧ f + j = 400 ∧ q ≤ 401 + j ∧ beF B n lo hi f q = be B n lo hi p) (fun j s kk hj hI kn => ?_) (fun s kk hI => ?_) (Nat.zero_le _) ⟨p, k400, rfl, by rw [k400_eq], by omega, rfl⟩
  · obtain ⟨q, f, rfl, h1, h2, h3⟩ := hI
    dsimp only [w_X6_behind_6, w_X6_behind_34]
    refine br_go (a := 400) hj (by decide) ?_
    refine vG (o := 6) H H.b rfl ?_
    refine c_isByteIn H C hn hB (by omega) hl hh ?_
    obtain ⟨f, rfl⟩ : ∃ g, f = g + 1 := ⟨f - 1, by omega⟩
    simp only [beF] at h3
    refine br_bI (fun d => ?_) (fun d => ?_)
    · rw [if_pos d] at h3
      rw [← nI_succ, ← nI_succ]
      exact kn _ ⟨q + 1, f, rfl, by omega, by omega, h3⟩
    · rw [if_neg d] at h3
      rw [h3]
      exact k
  · obtain ⟨q, f, rfl, h1, h2, h3⟩ := hI
    dsimp only [w_X6_behind_6, w_X6_behind_34]
    obtain rfl : f = 0 := by omega
    simp only [beF] at h3
    refine br_T (Int32.le_refl _) ?_
    rw [h3]
    exact k
theorem c_numberIn (H : G A S h0 X h) (C : TC X B n) (hn : n ≤ 400) {p : Nat} (hp : p < n) (hd : ∀ q, p ≤ q → q < be B n 48 57 p → inB B n 48 57 q = true) (hb : p ≤ be B n 48 57 p ∧ be B n 48 57 p ≤ n) (k : Q (nI (if be B n 48 57 p - p ≤ 3 then 2000 + nVal B p (be B n 48 57 p - p) else 1)) h) : w_X6_numberIn (A 6) (nI p) (nI (be B n 48 57 p)) h Q := by
  dsimp only [w_X6_numberIn]
  generalize be B n 48 57 p = e at *
  rw [pk_sub hb.1]
  refine br_Le (a := e - p) (b := 3) (by omega) (by decide) (fun c => ?_) (fun c => ?_)
  · rw [if_pos c] at k
    refine lp_upE (e - p) (fun j => (nI (nVal B p j), nI (p + j), h)) rfl (fun j kk hj kn => ?_) (fun kk => ?_)
    · have r := inB_iff.mp (hd (p + j) (by omega) (by omega))
      dsimp only [w_X6_numberIn_14]
      refine br_go (a := e) (b := p + j) (by omega) (by omega) ?_
      refine fP (o := 6) H H.b rfl rfl ?_
      refine aG (id := 700) H H.b rfl (by decide) rfl (by omega) ?_
      rw [C.2 _ r.1, show (10 : Int32) = nI 10 from rfl, pk_mul, nI_add, show (48 : Int32) = nI 48 from rfl, pk_sub (by omega), ← nI_succ]
      refine bd_i ?_
      have e2 : nVal B p j * 10 + B (p + j) - 48 = nVal B p (j + 1) := by
        simp only [nVal]
        omega
      rw [e2]
      exact kn
    · dsimp only [w_X6_numberIn_14, w_X6_numberIn_42]
      rw [show p + (e - p) = e by omega]
      refine br_end ?_
      rw [show (2000 : Int32) = nI 2000 from rfl, nI_add]
      exact k
  · rw [if_neg (by omega)] at k
    exact k
theorem Wl_32 : ∀ j, j < 140 → (txB 3 j = 32 ∨ 97 ≤ txB 3 j) := by decide +kernel
theorem c_wordIn (H : G A S h0 X h) (C : TC X B n) (hn : n ≤ 400) (hB : ∀ i, i < n → B i < 256) {p e : Nat} (hp : p < e) (he : e ≤ n) (k : Q (nI (wdV (wI B p (e - p) wds 0))) h) : w_X6_wordIn (A 6) (nI p) (nI e) h Q := by
  have hW : ∀ j, j < 140 → Wl.drop j = txB 3 j :: Wl.drop (j + 1) := by
    intro j hj
    rw [← Wl_str j hj, List.drop_eq_getElem_cons (by rw [Wl_len]; exact hj), List.getD_eq_getElem?_getD, List.getElem?_eq_getElem (by rw [Wl_len]; exact hj)]
    rfl
  dsimp only [w_X6_wordIn]
  refine lp_inv 140 (fun j (s : Int32 × Int32 × Int32 × AH) => ∃ num al, s = (nI num, aE al, nI j, h) ∧ num ≤ j ∧ (∀ a, al = some a → a ≤ e - p) ∧ scanW B p (e - p) (Wl.drop j) num al = wI B p (e - p) wds 0) (fun j s kk hj hI kn => ?_) (fun s kk hI => ?_) (Nat.zero_le _) ⟨0, some 0, rfl, Nat.le_refl _, fun a ha => by cases ha; omega, scan_Wl⟩
  · obtain ⟨num, al, rfl, h1, h2, h3⟩ := hI
    rw [hW j hj] at h3
    have e3 := txB_at (i := 3) (j := j) (by decide) hj
    simp only [scanW] at h3
    dsimp only [w_X6_wordIn_8, w_X6_wordIn_66, w_X6_wordIn_67, w_X6_wordIn_82, w_X6_wordIn_107, w_X6_wordIn_95]
    intro a1 ha1
    refine ⟨⟨3, ha1⟩, J_len ha1 (br_F (nI_ge (a := j) (b := 140) hj (by decide)) (fun a2 ha2 => ⟨⟨3, ha2⟩, J_chr ha2 (by decide) hj ?_⟩))⟩
    rw [pk_sub (by omega)]
    refine br_Eq (b := 32) (by omega) (by decide) (fun c => ?_) (fun c => ?_)
    · rw [if_pos c] at h3
      have key : aE al = nI (e - p) ↔ al = some (e - p) := by
        cases al with
        | none => exact ⟨fun z => absurd z.symm (neg1_nI (by omega)), fun z => by cases z⟩
        | some a =>
          have := h2 a rfl
          exact ⟨fun z => congrArg some ((nI_eq (by omega) (by omega)).mp z), fun z => by cases z; rfl⟩
      refine br_if (fun d => ?_) (fun d => ?_)
      · rw [if_pos (key.mp d)] at h3
        rw [← h3] at k
        rw [show (1000 : Int32) = nI 1000 from rfl, nI_add]
        exact k
      · rw [if_neg (fun z => d (key.mpr z))] at h3
        rw [← nI_succ, ← nI_succ]
        exact kn _ ⟨num + 1, some 0, rfl, by omega, fun a ha => by cases ha; omega, h3⟩
    · rw [if_neg c] at h3
      have off : alN B p (e - p) (txB 3 j) al = none → kk (nI num, -1, nI j + 1, h) := by
        intro z
        rw [z] at h3
        rw [← nI_succ]
        exact kn _ ⟨num, none, rfl, by omega, (fun a ha => by cases ha), h3⟩
      cases al with
      | none => exact br_T rfl (br_T rfl (off rfl))
      | some a =>
        have ha := h2 a rfl
        refine br_F (neg1_nI (by omega)) ?_
        dsimp only [aE]
        rw [nI_add]
        refine br_Le (a := e) (by omega) (by omega) (fun d => br_T rfl (off ?_)) (fun d => ?_)
        · exact if_neg (fun z => by omega)
        · refine fP (o := 6) H H.b rfl rfl ?_
          refine aG (id := 700) H H.b rfl (by decide) rfl (by omega) ?_
          rw [C.2 _ (by omega)]
          have := hB (p + a) (by omega)
          refine br_Eq (by omega) (by omega) (fun d2 => ?_) (fun d2 => br_T rfl (off ?_))
          · have e4 : alN B p (e - p) (txB 3 j) (some a) = some (a + 1) := if_pos ⟨by omega, d2⟩
            rw [e4] at h3
            refine br_F (by decide) ?_
            rw [← nI_succ, ← nI_succ]
            exact kn _ ⟨num, some (a + 1), rfl, by omega, fun b hb => by cases hb; omega, h3⟩
          · exact if_neg (fun z => d2 z.2)
  · obtain ⟨num, al, rfl, h1, h2, h3⟩ := hI
    rw [List.drop_eq_nil_of_le (by rw [Wl_len]; exact Nat.le_refl _)] at h3
    simp only [scanW] at h3
    rw [← h3] at k
    dsimp only [w_X6_wordIn_8, w_X6_wordIn_113]
    intro a1 ha1
    exact ⟨⟨3, ha1⟩, J_len ha1 (br_T (Int32.le_refl _) k)⟩
end CTOK
