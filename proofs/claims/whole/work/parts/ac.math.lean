/-! all turns, and the program told -/
theorem len_ge {L j : Nat} (hL : L ≤ 3072) (hj : j < 4000) (c : ¬ Int32.ofNat L - 6 < nI j) : j + 6 ≤ L := by
  by_cases h6 : 6 ≤ L
  · obtain ⟨m, rfl⟩ := Nat.exists_eq_add_of_le' h6
    have e : Int32.ofNat (m + 6) - 6 = nI m := by
      show nI (m + 6) - 6 = nI m
      rw [← nI_add]
      exact Int32.add_sub_cancel _ _
    rw [e, nI_ltI (by omega) (by omega)] at c
    omega
  · exfalso
    apply c
    rw [Int32.lt_iff_toInt_lt, nI_toInt (by omega)]
    have z : (Int32.ofNat L - 6).toInt < 0 := by
      have h : L = 0 ∨ L = 1 ∨ L = 2 ∨ L = 3 ∨ L = 4 ∨ L = 5 := by omega
      rcases h with rfl | rfl | rfl | rfl | rfl | rfl <;> decide
    omega
theorem t_all {xs : Nat → Int32} {L j v0 a11 a12 a3 : Nat} {h : AH} {K : Int32 → AH → Prop} (hI : LI a11 a12 a3 h) (hj : j < 4000) (hL : L ≤ 3072) (k : j + 6 ≤ L → ∀ h', LI a11 a12 a3 h' → K (nI j + 6) h') : w_L_law__23 xs L K v0 a11 a12 a3 (nI j) h (fun r _ => r = 1) := by
  unfold w_L_law__23
  refine br_if (fun _ => rfl) (fun c => ?_)
  have hj := len_ge hL hj c
  have k := k hj
  refine xl_ (c := 0) rfl (by decide) hj hL ?_
  refine br_if (fun _ => t_feed hI hj hL k) (fun _ => ?_)
  refine br_if (fun _ => t_end hI hj hL k) (fun _ => ?_)
  refine br_if (fun _ => t_ground hI hj hL k) (fun _ => ?_)
  refine br_if (fun _ => t_height hI hj hL k) (fun _ => ?_)
  refine br_if (fun _ => t_sees hI hj hL k) (fun _ => ?_)
  refine br_if (fun _ => t_gun hI hj hL k) (fun _ => ?_)
  refine br_if (fun _ => t_day hI hj hL k) (fun _ => ?_)
  refine br_if (fun _ => t_law hI hj hL k) (fun _ => ?_)
  refine br_if (fun _ => t_fault hI hj hL k) (fun _ => ?_)
  refine br_if (fun _ => t_person hI hj hL k) (fun _ => ?_)
  refine br_if (fun _ => t_look hI hj hL k) (fun _ => ?_)
  refine br_if (fun _ => t_seed hI hj hL k) (fun _ => ?_)
  refine br_if (fun _ => t_run hI hj hL k) (fun _ => ?_)
  refine br_if (fun _ => t_found hI hj hL k) (fun _ => ?_)
  refine br_if (fun _ => t_other hI hj hL k) (fun _ => ?_)
  refine br_if (fun _ => t_about hI hj hL k) (fun _ => ?_)
  refine br_if (fun _ => t_when hI hj hL k) (fun _ => ?_)
  refine br_if (fun _ => t_machine hI hj hL k) (fun _ => ?_)
  refine br_if (fun _ => t_walk hI hj hL k) (fun _ => ?_)
  refine br_if (fun _ => t_next hI hj hL k) (fun _ => ?_)
  refine br_if (fun _ => t_needed hI hj hL k) (fun _ => ?_)
  refine br_if (fun _ => t_same hI hj hL k) (fun _ => ?_)
  refine br_if (fun _ => t_later hI hj hL k) (fun _ => ?_)
  refine br_if (fun _ => t_way hI hj hL k) (fun _ => ?_)
  refine br_if (fun _ => t_held hI hj hL k) (fun _ => ?_)
  refine br_if (fun _ => t_heaps hI hj hL k) (fun _ => ?_)
  refine br_if (fun _ => t_length hI hj hL k) (fun _ => ?_)
  refine br_if (fun _ => t_still hI hj hL k) (fun _ => ?_)
  refine br_if (fun _ => t_teller hI hj hL k) (fun _ => ?_)
  refine br_if (fun _ => t_tells hI hj hL k) (fun _ => ?_)
  refine br_if (fun _ => t_could hI hj hL k) (fun _ => ?_)
  refine br_if (fun _ => t_talked hI hj hL k) (fun _ => ?_)
  refine br_if (fun _ => t_apart hI hj hL k) (fun _ => ?_)
  refine br_if (fun _ => t_who hI hj hL k) (fun _ => ?_)
  refine br_if (fun _ => t_joined hI hj hL k) (fun _ => ?_)
  refine br_if (fun _ => t_story hI hj hL k) (fun _ => ?_)
  refine br_if (fun _ => t_holds hI hj hL k) (fun _ => ?_)
  refine br_if (fun _ => t_odds hI hj hL k) (fun _ => ?_)
  refine br_if (fun _ => t_image hI hj hL k) (fun _ => ?_)
  refine br_if (fun _ => t_back hI hj hL k) (fun _ => ?_)
  refine br_if (fun _ => t_count hI hj hL k) (fun _ => ?_)
  exact k h hI
theorem t_loop {xs : Nat → Int32} {L v0 a11 a12 a3 : Nat} (hL : L ≤ 3072) : ∀ (m t : Nat) (h : AH), t + m = 513 → 6 * t ≤ L → LI a11 a12 a3 h → it (fun (k2 : Int32 × AH → Prop) (s2 : Int32 × AH) => w_L_law__23 xs L (fun (y4 : Int32) h => k2 (y4, h)) v0 a11 a12 a3 s2.1 s2.2 (fun r _ => r = 1)) m (nI (6 * t), h) := by
  intro m
  induction m with
  | zero =>
    intro t h e l _
    omega
  | succ m ih =>
    intro t h e l hI
    refine t_all (K := fun y4 h => it _ m (y4, h)) hI (by omega) hL (fun hj h' hI' => ?_)
    have z := ih (t + 1) h' (by omega) (by omega) hI'
    have y : nI (6 * t) + 6 = nI (6 * (t + 1)) := jx (6 * t) 6
    rw [y]
    exact z
theorem math : MATH := by
  intro xs L b adK adV hL hK hV
  dsimp only [w_L_law_]
  refine al_O (AL.rf (hB := hE adK adV) (D0 := fun _ => False) (A0 := fun _ => 0) (fun id hd => hd.elim)) (id := 11) rfl (by decide) (fun z => z) (by decide) (fun a1 h1 A1 => ?_)
  refine al_c11 A1 (va_up_self _ _ _).symm (by decide) (fun j hj => ⟨fun z => z, fun z => absurd hj (by rw [List.mem_singleton.mp z]; decide)⟩) (fun A2 h2 H2 e2 => ?_)
  refine al_O H2 (id := 12) rfl (by decide) (fun z => z) (by decide) (fun a2 h3 H3 => ?_)
  refine al_c12 H3 (va_up_self _ _ _).symm (by decide) (fun j hj => ⟨fun z => z, (show ∀ j, j ∈ [1327, 1325, 1323, 1322, 1321, 1319, 1318, 1314, 1311, 1304, 1302, 1301] → j ∉ [12, 908, 907, 905, 904, 903, 902, 901, 8, 101, 0, 808, 807, 805, 1008, 1007, 1006, 1004, 1003, 1002, 1001, 9, 206, 205, 204, 203, 202, 201, 1, 506, 505, 504, 503, 502, 501, 4, 304, 303, 302, 301, 2, 400, 3, 7, 708, 704, 703, 700, 6, 11] by decide +kernel) j hj⟩) (fun A3 h4 H4 e3 => ?_)
  intro a3 ha
  have e11 : A3 11 = a1 := by rw [e3 11 (by decide), va_ne (by decide), e2 11 (by decide), va_up_self]
  have e12 : A3 12 = a2 := by rw [e3 12 (by decide), va_up_self]
  have I := li_start H4 ha
  rw [e11, e12] at I
  exact t_loop hL 513 0 _ rfl (Nat.zero_le _) I
