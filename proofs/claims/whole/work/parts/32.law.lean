/-! the law's own body: its script, and a loop that makes things -/
section LAWROWS
variable {p : Program} {l : Launch} {e : Env} {s : State} {m : MethodId} {args : Array Value} {below : List Frame} {meth : Method} {c : Code} {g : GG} {dl mc ms nL kc ks : Nat} {Z : State → Prop} {own : String} {cc : ByteArray} {pc : Nat} {ls : List (Nat × Value)} {st stk : List Value} {h : AH}
def SX (g : GG) (b L : Nat) (xs : Nat → Int32) (s : State) : Prop := b < g.2.2.1.size ∧ va_X b L xs s s.heap
/-- an int of the script -/
def xL (xs : Nat → Int32) (L : Nat) (i : Int32) (k : Int32 → Prop) : Prop := vp_in i L ∧ k (xs i.toNatClampNeg)
theorem sx_at (C : CXT p l s m args meth c own cc nL g) {b L : Nat} {xs : Nat → Int32} (hS : SX g b L xs s) : va_X b L xs s g.2.2.1 := by
  obtain ⟨hb, scr, h1, h2⟩ := hS
  exact ⟨scr, (C.2.2.2.2.2.2.2.2 b hb).symm.trans h1, h2⟩
theorem w_sld (C : CXT p l s m args meth c own cc nL g) {b L : Nat} {xs : Nat → Int32} {i : Int32} {k : Int32 → Prop} (hS : SX g b L xs s) (d : decode cc pc = .ok (.iaload, 1)) (hw : xL xs L i k) (kk : ∀ x : Int32, k x → V p l e s m args below meth c g dl mc ms nL kc ks Z (pc + 1) ls (.int x :: st) h) : V p l e s m args below meth c g dl mc ms nL kc ks Z pc ls (.int i :: .ref b :: st) h := by
  intro H locs lsA hc hv hlc
  exact va_sld (A := gA g) (H0 := g.2.2.1) C.1 C.2.1 (sx_at C hS) hS.1 (Nat.not_le.mpr hS.1) ⟨hc.1, fun q hq _ => hc.2.1 q hq, hlc⟩ hw.1 d (kk _ hw.2 H locs lsA hc hv hlc)
theorem v_slen (C : CXT p l s m args meth c own cc nL g) {b L : Nat} {xs : Nat → Int32} (hS : SX g b L xs s) (d : decode cc pc = .ok (.arraylength, 1)) (kk : V p l e s m args below meth c g dl mc ms nL kc ks Z (pc + 1) ls (.int (Int32.ofNat L) :: st) h) : V p l e s m args below meth c g dl mc ms nL kc ks Z pc ls (.ref b :: st) h := by
  intro H locs lsA hc hv hlc
  exact va_slen (A := gA g) (H0 := g.2.2.1) C.1 C.2.1 (sx_at C hS) hS.1 (Nat.not_le.mpr hS.1) ⟨hc.1, fun q hq _ => hc.2.1 q hq, hlc⟩ d (kk H locs lsA hc hv hlc)
theorem it_walk {σ : Type} {F : (σ → Prop) → σ → Prop} {P : Nat → σ → Prop} (N : Nat) (hs : ∀ n, n < N → ∀ (k : σ → Prop), (∀ s, k s → P n s) → ∀ s, F k s → P (n + 1) s) : ∀ n, n ≤ N → ∀ s, it F n s → P n s := by
  intro n
  induction n with
  | zero => exact fun _ _ h => h.elim
  | succ n ih => exact fun hn s hw => hs n hn _ (ih (Nat.le_of_succ_le hn)) s hw
end LAWROWS
theorem cl_L_277 : CLk RL 277 yX11_count cX11_count 2 (some .int) 1 := ⟨Or.inl (tb3 (List.mem_of_getElem? (i := 69) rfl)), (tb3 (List.mem_of_getElem? (i := 72) rfl)), (tb1 (List.mem_of_getElem? (i := 1) rfl)), by decide +kernel, by decide +kernel, by decide +kernel⟩
theorem im_X11_count : Cond.instanceMethod yX11_count ∈ lw_tbl := (tb3 (List.mem_of_getElem? (i := 70) rfl))
theorem se_X11_count : Cond.selects RX11 yX11_count yX11_count ∈ lw_tbl := (tb3 (List.mem_of_getElem? (i := 71) rfl))
theorem cl_L_280 : CLk RL 280 yX12_count cX12_count 4 (some .int) 1 := ⟨Or.inl (tb9 (List.mem_of_getElem? (i := 206) rfl)), (tb9 (List.mem_of_getElem? (i := 209) rfl)), (tb1 (List.mem_of_getElem? (i := 11) rfl)), by decide +kernel, by decide +kernel, by decide +kernel⟩
theorem im_X12_count : Cond.instanceMethod yX12_count ∈ lw_tbl := (tb9 (List.mem_of_getElem? (i := 207) rfl))
theorem se_X12_count : Cond.selects RX12 yX12_count yX12_count ∈ lw_tbl := (tb9 (List.mem_of_getElem? (i := 208) rfl))
theorem cl_L_272 : CLk RL 272 yX11_back cX11_back 1 (some .boolean) 0 := ⟨Or.inl (tb3 (List.mem_of_getElem? (i := 65) rfl)), (tb3 (List.mem_of_getElem? (i := 68) rfl)), (tb1 (List.mem_of_getElem? (i := 1) rfl)), by decide +kernel, by decide +kernel, by decide +kernel⟩
theorem im_X11_back : Cond.instanceMethod yX11_back ∈ lw_tbl := (tb3 (List.mem_of_getElem? (i := 66) rfl))
theorem se_X11_back : Cond.selects RX11 yX11_back yX11_back ∈ lw_tbl := (tb3 (List.mem_of_getElem? (i := 67) rfl))
theorem cl_L_276 : CLk RL 276 yX12_back cX12_back 2 (some .boolean) 0 := ⟨Or.inl (tb7 (List.mem_of_getElem? (i := 186) rfl)), (tb7 (List.mem_of_getElem? (i := 189) rfl)), (tb1 (List.mem_of_getElem? (i := 11) rfl)), by decide +kernel, by decide +kernel, by decide +kernel⟩
theorem im_X12_back : Cond.instanceMethod yX12_back ∈ lw_tbl := (tb7 (List.mem_of_getElem? (i := 187) rfl))
theorem se_X12_back : Cond.selects RX12 yX12_back yX12_back ∈ lw_tbl := (tb7 (List.mem_of_getElem? (i := 188) rfl))
theorem cl_L_268 : CLk RL 268 yX11_image cX11_image 1 none 0 := ⟨Or.inl (tb3 (List.mem_of_getElem? (i := 30) rfl)), (tb3 (List.mem_of_getElem? (i := 33) rfl)), (tb1 (List.mem_of_getElem? (i := 1) rfl)), by decide +kernel, by decide +kernel, by decide +kernel⟩
theorem im_X11_image : Cond.instanceMethod yX11_image ∈ lw_tbl := (tb3 (List.mem_of_getElem? (i := 31) rfl))
theorem se_X11_image : Cond.selects RX11 yX11_image yX11_image ∈ lw_tbl := (tb3 (List.mem_of_getElem? (i := 32) rfl))
theorem cl_L_271 : CLk RL 271 yX12_image cX12_image 2 none 0 := ⟨Or.inl (tb7 (List.mem_of_getElem? (i := 182) rfl)), (tb7 (List.mem_of_getElem? (i := 185) rfl)), (tb1 (List.mem_of_getElem? (i := 11) rfl)), by decide +kernel, by decide +kernel, by decide +kernel⟩
theorem im_X12_image : Cond.instanceMethod yX12_image ∈ lw_tbl := (tb7 (List.mem_of_getElem? (i := 183) rfl))
theorem se_X12_image : Cond.selects RX12 yX12_image yX12_image ∈ lw_tbl := (tb7 (List.mem_of_getElem? (i := 184) rfl))
theorem cl_L_267 : CLk RL 267 yX12_odds cX12_odds 4 (some .int) 1 := ⟨Or.inl (tb9 (List.mem_of_getElem? (i := 202) rfl)), (tb9 (List.mem_of_getElem? (i := 205) rfl)), (tb1 (List.mem_of_getElem? (i := 11) rfl)), by decide +kernel, by decide +kernel, by decide +kernel⟩
theorem im_X12_odds : Cond.instanceMethod yX12_odds ∈ lw_tbl := (tb9 (List.mem_of_getElem? (i := 203) rfl))
theorem se_X12_odds : Cond.selects RX12 yX12_odds yX12_odds ∈ lw_tbl := (tb9 (List.mem_of_getElem? (i := 204) rfl))
theorem cl_L_146 : CLk RL 146 yX12_thrown cX12_thrown 1 (some .int) 0 := ⟨Or.inl (tb7 (List.mem_of_getElem? (i := 86) rfl)), (tb7 (List.mem_of_getElem? (i := 89) rfl)), (tb1 (List.mem_of_getElem? (i := 11) rfl)), by decide +kernel, by decide +kernel, by decide +kernel⟩
theorem im_X12_thrown : Cond.instanceMethod yX12_thrown ∈ lw_tbl := (tb7 (List.mem_of_getElem? (i := 87) rfl))
theorem se_X12_thrown : Cond.selects RX12 yX12_thrown yX12_thrown ∈ lw_tbl := (tb7 (List.mem_of_getElem? (i := 88) rfl))
theorem cl_L_264 : CLk RL 264 yX12_holds cX12_holds 2 (some .boolean) 1 := ⟨Or.inl (tb9 (List.mem_of_getElem? (i := 194) rfl)), (tb9 (List.mem_of_getElem? (i := 197) rfl)), (tb1 (List.mem_of_getElem? (i := 11) rfl)), by decide +kernel, by decide +kernel, by decide +kernel⟩
theorem im_X12_holds : Cond.instanceMethod yX12_holds ∈ lw_tbl := (tb9 (List.mem_of_getElem? (i := 195) rfl))
theorem se_X12_holds : Cond.selects RX12 yX12_holds yX12_holds ∈ lw_tbl := (tb9 (List.mem_of_getElem? (i := 196) rfl))
theorem cl_L_261 : CLk RL 261 yX12_story cX12_story 3 (some .int) 1 := ⟨Or.inl (tb8 (List.mem_of_getElem? (i := 144) rfl)), (tb8 (List.mem_of_getElem? (i := 147) rfl)), (tb1 (List.mem_of_getElem? (i := 11) rfl)), by decide +kernel, by decide +kernel, by decide +kernel⟩
theorem im_X12_story : Cond.instanceMethod yX12_story ∈ lw_tbl := (tb8 (List.mem_of_getElem? (i := 145) rfl))
theorem se_X12_story : Cond.selects RX12 yX12_story yX12_story ∈ lw_tbl := (tb8 (List.mem_of_getElem? (i := 146) rfl))
theorem cl_L_258 : CLk RL 258 yX12_joined cX12_joined 6 (some .int) 5 := ⟨Or.inl (tb9 (List.mem_of_getElem? (i := 186) rfl)), (tb9 (List.mem_of_getElem? (i := 189) rfl)), (tb1 (List.mem_of_getElem? (i := 11) rfl)), by decide +kernel, by decide +kernel, by decide +kernel⟩
theorem im_X12_joined : Cond.instanceMethod yX12_joined ∈ lw_tbl := (tb9 (List.mem_of_getElem? (i := 187) rfl))
theorem se_X12_joined : Cond.selects RX12 yX12_joined yX12_joined ∈ lw_tbl := (tb9 (List.mem_of_getElem? (i := 188) rfl))
theorem cl_L_254 : CLk RL 254 yX12_who cX12_who 5 (some .int) 1 := ⟨Or.inl (tb9 (List.mem_of_getElem? (i := 178) rfl)), (tb9 (List.mem_of_getElem? (i := 181) rfl)), (tb1 (List.mem_of_getElem? (i := 11) rfl)), by decide +kernel, by decide +kernel, by decide +kernel⟩
theorem im_X12_who : Cond.instanceMethod yX12_who ∈ lw_tbl := (tb9 (List.mem_of_getElem? (i := 179) rfl))
theorem se_X12_who : Cond.selects RX12 yX12_who yX12_who ∈ lw_tbl := (tb9 (List.mem_of_getElem? (i := 180) rfl))
theorem cl_L_248 : CLk RL 248 yX11_apart cX11_apart 1 (some .int) 0 := ⟨Or.inl (tb2 (List.mem_of_getElem? (i := 209) rfl)), (tb2 (List.mem_of_getElem? (i := 212) rfl)), (tb1 (List.mem_of_getElem? (i := 1) rfl)), by decide +kernel, by decide +kernel, by decide +kernel⟩
theorem im_X11_apart : Cond.instanceMethod yX11_apart ∈ lw_tbl := (tb2 (List.mem_of_getElem? (i := 210) rfl))
theorem se_X11_apart : Cond.selects RX11 yX11_apart yX11_apart ∈ lw_tbl := (tb2 (List.mem_of_getElem? (i := 211) rfl))
theorem cl_L_251 : CLk RL 251 yX12_apart cX12_apart 7 (some .int) 0 := ⟨Or.inl (tb9 (List.mem_of_getElem? (i := 174) rfl)), (tb9 (List.mem_of_getElem? (i := 177) rfl)), (tb1 (List.mem_of_getElem? (i := 11) rfl)), by decide +kernel, by decide +kernel, by decide +kernel⟩
theorem im_X12_apart : Cond.instanceMethod yX12_apart ∈ lw_tbl := (tb9 (List.mem_of_getElem? (i := 175) rfl))
theorem se_X12_apart : Cond.selects RX12 yX12_apart yX12_apart ∈ lw_tbl := (tb9 (List.mem_of_getElem? (i := 176) rfl))
theorem cl_L_247 : CLk RL 247 yX12_talked cX12_talked 3 (some .boolean) 2 := ⟨Or.inl (tb9 (List.mem_of_getElem? (i := 166) rfl)), (tb9 (List.mem_of_getElem? (i := 169) rfl)), (tb1 (List.mem_of_getElem? (i := 11) rfl)), by decide +kernel, by decide +kernel, by decide +kernel⟩
theorem im_X12_talked : Cond.instanceMethod yX12_talked ∈ lw_tbl := (tb9 (List.mem_of_getElem? (i := 167) rfl))
theorem se_X12_talked : Cond.selects RX12 yX12_talked yX12_talked ∈ lw_tbl := (tb9 (List.mem_of_getElem? (i := 168) rfl))
theorem cl_L_244 : CLk RL 244 yX12_could cX12_could 3 (some .boolean) 2 := ⟨Or.inl (tb9 (List.mem_of_getElem? (i := 146) rfl)), (tb9 (List.mem_of_getElem? (i := 149) rfl)), (tb1 (List.mem_of_getElem? (i := 11) rfl)), by decide +kernel, by decide +kernel, by decide +kernel⟩
theorem im_X12_could : Cond.instanceMethod yX12_could ∈ lw_tbl := (tb9 (List.mem_of_getElem? (i := 147) rfl))
theorem se_X12_could : Cond.selects RX12 yX12_could yX12_could ∈ lw_tbl := (tb9 (List.mem_of_getElem? (i := 148) rfl))
theorem cl_L_241 : CLk RL 241 yX12_tells cX12_tells 5 (some .int) 3 := ⟨Or.inl (tb9 (List.mem_of_getElem? (i := 142) rfl)), (tb9 (List.mem_of_getElem? (i := 145) rfl)), (tb1 (List.mem_of_getElem? (i := 11) rfl)), by decide +kernel, by decide +kernel, by decide +kernel⟩
theorem im_X12_tells : Cond.instanceMethod yX12_tells ∈ lw_tbl := (tb9 (List.mem_of_getElem? (i := 143) rfl))
theorem se_X12_tells : Cond.selects RX12 yX12_tells yX12_tells ∈ lw_tbl := (tb9 (List.mem_of_getElem? (i := 144) rfl))
theorem cl_L_238 : CLk RL 238 yX12_teller cX12_teller 6 (some .int) 4 := ⟨Or.inl (tb9 (List.mem_of_getElem? (i := 138) rfl)), (tb9 (List.mem_of_getElem? (i := 141) rfl)), (tb1 (List.mem_of_getElem? (i := 11) rfl)), by decide +kernel, by decide +kernel, by decide +kernel⟩
theorem im_X12_teller : Cond.instanceMethod yX12_teller ∈ lw_tbl := (tb9 (List.mem_of_getElem? (i := 139) rfl))
theorem se_X12_teller : Cond.selects RX12 yX12_teller yX12_teller ∈ lw_tbl := (tb9 (List.mem_of_getElem? (i := 140) rfl))
theorem cl_L_235 : CLk RL 235 yX12_still cX12_still 8 (some .int) 2 := ⟨Or.inl (tb9 (List.mem_of_getElem? (i := 134) rfl)), (tb9 (List.mem_of_getElem? (i := 137) rfl)), (tb1 (List.mem_of_getElem? (i := 11) rfl)), by decide +kernel, by decide +kernel, by decide +kernel⟩
theorem im_X12_still : Cond.instanceMethod yX12_still ∈ lw_tbl := (tb9 (List.mem_of_getElem? (i := 135) rfl))
theorem se_X12_still : Cond.selects RX12 yX12_still yX12_still ∈ lw_tbl := (tb9 (List.mem_of_getElem? (i := 136) rfl))
theorem cl_L_232 : CLk RL 232 yX12_length cX12_length 9 (some .int) 4 := ⟨Or.inl (tb9 (List.mem_of_getElem? (i := 130) rfl)), (tb9 (List.mem_of_getElem? (i := 133) rfl)), (tb1 (List.mem_of_getElem? (i := 11) rfl)), by decide +kernel, by decide +kernel, by decide +kernel⟩
theorem im_X12_length : Cond.instanceMethod yX12_length ∈ lw_tbl := (tb9 (List.mem_of_getElem? (i := 131) rfl))
theorem se_X12_length : Cond.selects RX12 yX12_length yX12_length ∈ lw_tbl := (tb9 (List.mem_of_getElem? (i := 132) rfl))
theorem cl_L_229 : CLk RL 229 yX12_heaps cX12_heaps 3 (some .int) 2 := ⟨Or.inl (tb9 (List.mem_of_getElem? (i := 118) rfl)), (tb9 (List.mem_of_getElem? (i := 121) rfl)), (tb1 (List.mem_of_getElem? (i := 11) rfl)), by decide +kernel, by decide +kernel, by decide +kernel⟩
theorem im_X12_heaps : Cond.instanceMethod yX12_heaps ∈ lw_tbl := (tb9 (List.mem_of_getElem? (i := 119) rfl))
theorem se_X12_heaps : Cond.selects RX12 yX12_heaps yX12_heaps ∈ lw_tbl := (tb9 (List.mem_of_getElem? (i := 120) rfl))
theorem cl_L_225 : CLk RL 225 yX12_held cX12_held 6 (some .int) 4 := ⟨Or.inl (tb9 (List.mem_of_getElem? (i := 103) rfl)), (tb9 (List.mem_of_getElem? (i := 106) rfl)), (tb1 (List.mem_of_getElem? (i := 11) rfl)), by decide +kernel, by decide +kernel, by decide +kernel⟩
theorem im_X12_held : Cond.instanceMethod yX12_held ∈ lw_tbl := (tb9 (List.mem_of_getElem? (i := 104) rfl))
theorem se_X12_held : Cond.selects RX12 yX12_held yX12_held ∈ lw_tbl := (tb9 (List.mem_of_getElem? (i := 105) rfl))
theorem cl_L_221 : CLk RL 221 yX12_way cX12_way 6 (some .int) 2 := ⟨Or.inl (tb9 (List.mem_of_getElem? (i := 70) rfl)), (tb9 (List.mem_of_getElem? (i := 73) rfl)), (tb1 (List.mem_of_getElem? (i := 11) rfl)), by decide +kernel, by decide +kernel, by decide +kernel⟩
theorem im_X12_way : Cond.instanceMethod yX12_way ∈ lw_tbl := (tb9 (List.mem_of_getElem? (i := 71) rfl))
theorem se_X12_way : Cond.selects RX12 yX12_way yX12_way ∈ lw_tbl := (tb9 (List.mem_of_getElem? (i := 72) rfl))
theorem cl_L_218 : CLk RL 218 yX12_later cX12_later 6 (some .int) 1 := ⟨Or.inl (tb9 (List.mem_of_getElem? (i := 62) rfl)), (tb9 (List.mem_of_getElem? (i := 65) rfl)), (tb1 (List.mem_of_getElem? (i := 11) rfl)), by decide +kernel, by decide +kernel, by decide +kernel⟩
theorem im_X12_later : Cond.instanceMethod yX12_later ∈ lw_tbl := (tb9 (List.mem_of_getElem? (i := 63) rfl))
theorem se_X12_later : Cond.selects RX12 yX12_later yX12_later ∈ lw_tbl := (tb9 (List.mem_of_getElem? (i := 64) rfl))
theorem cl_L_215 : CLk RL 215 yX12_same cX12_same 4 (some .int) 3 := ⟨Or.inl (tb9 (List.mem_of_getElem? (i := 58) rfl)), (tb9 (List.mem_of_getElem? (i := 61) rfl)), (tb1 (List.mem_of_getElem? (i := 11) rfl)), by decide +kernel, by decide +kernel, by decide +kernel⟩
theorem im_X12_same : Cond.instanceMethod yX12_same ∈ lw_tbl := (tb9 (List.mem_of_getElem? (i := 59) rfl))
theorem se_X12_same : Cond.selects RX12 yX12_same yX12_same ∈ lw_tbl := (tb9 (List.mem_of_getElem? (i := 60) rfl))
theorem cl_L_212 : CLk RL 212 yX12_needed cX12_needed 3 (some .int) 2 := ⟨Or.inl (tb9 (List.mem_of_getElem? (i := 45) rfl)), (tb9 (List.mem_of_getElem? (i := 48) rfl)), (tb1 (List.mem_of_getElem? (i := 11) rfl)), by decide +kernel, by decide +kernel, by decide +kernel⟩
theorem im_X12_needed : Cond.instanceMethod yX12_needed ∈ lw_tbl := (tb9 (List.mem_of_getElem? (i := 46) rfl))
theorem se_X12_needed : Cond.selects RX12 yX12_needed yX12_needed ∈ lw_tbl := (tb9 (List.mem_of_getElem? (i := 47) rfl))
theorem cl_L_206 : CLk RL 206 yX11_next cX11_next 1 (some .int) 0 := ⟨Or.inl (tb2 (List.mem_of_getElem? (i := 181) rfl)), (tb2 (List.mem_of_getElem? (i := 184) rfl)), (tb1 (List.mem_of_getElem? (i := 1) rfl)), by decide +kernel, by decide +kernel, by decide +kernel⟩
theorem im_X11_next : Cond.instanceMethod yX11_next ∈ lw_tbl := (tb2 (List.mem_of_getElem? (i := 182) rfl))
theorem se_X11_next : Cond.selects RX11 yX11_next yX11_next ∈ lw_tbl := (tb2 (List.mem_of_getElem? (i := 183) rfl))
theorem cl_L_209 : CLk RL 209 yX12_next cX12_next 7 (some .int) 0 := ⟨Or.inl (tb9 (List.mem_of_getElem? (i := 41) rfl)), (tb9 (List.mem_of_getElem? (i := 44) rfl)), (tb1 (List.mem_of_getElem? (i := 11) rfl)), by decide +kernel, by decide +kernel, by decide +kernel⟩
theorem im_X12_next : Cond.instanceMethod yX12_next ∈ lw_tbl := (tb9 (List.mem_of_getElem? (i := 42) rfl))
theorem se_X12_next : Cond.selects RX12 yX12_next yX12_next ∈ lw_tbl := (tb9 (List.mem_of_getElem? (i := 43) rfl))
theorem cl_L_205 : CLk RL 205 yX12_walk cX12_walk 3 (some .int) 1 := ⟨Or.inl (tb9 (List.mem_of_getElem? (i := 30) rfl)), (tb9 (List.mem_of_getElem? (i := 33) rfl)), (tb1 (List.mem_of_getElem? (i := 11) rfl)), by decide +kernel, by decide +kernel, by decide +kernel⟩
theorem im_X12_walk : Cond.instanceMethod yX12_walk ∈ lw_tbl := (tb9 (List.mem_of_getElem? (i := 31) rfl))
theorem se_X12_walk : Cond.selects RX12 yX12_walk yX12_walk ∈ lw_tbl := (tb9 (List.mem_of_getElem? (i := 32) rfl))
theorem cl_L_202 : CLk RL 202 yX12_machine cX12_machine 3 none 2 := ⟨Or.inl (tb9 (List.mem_of_getElem? (i := 26) rfl)), (tb9 (List.mem_of_getElem? (i := 29) rfl)), (tb1 (List.mem_of_getElem? (i := 11) rfl)), by decide +kernel, by decide +kernel, by decide +kernel⟩
theorem im_X12_machine : Cond.instanceMethod yX12_machine ∈ lw_tbl := (tb9 (List.mem_of_getElem? (i := 27) rfl))
theorem se_X12_machine : Cond.selects RX12 yX12_machine yX12_machine ∈ lw_tbl := (tb9 (List.mem_of_getElem? (i := 28) rfl))
theorem cl_L_198 : CLk RL 198 yX12_when cX12_when 4 none 3 := ⟨Or.inl (tb9 (List.mem_of_getElem? (i := 22) rfl)), (tb9 (List.mem_of_getElem? (i := 25) rfl)), (tb1 (List.mem_of_getElem? (i := 11) rfl)), by decide +kernel, by decide +kernel, by decide +kernel⟩
theorem im_X12_when : Cond.instanceMethod yX12_when ∈ lw_tbl := (tb9 (List.mem_of_getElem? (i := 23) rfl))
theorem se_X12_when : Cond.selects RX12 yX12_when yX12_when ∈ lw_tbl := (tb9 (List.mem_of_getElem? (i := 24) rfl))
theorem cl_L_195 : CLk RL 195 yX12_about cX12_about 3 (some .int) 2 := ⟨Or.inl (tb8 (List.mem_of_getElem? (i := 238) rfl)), (tb9 (List.mem_of_getElem? (i := 1) rfl)), (tb1 (List.mem_of_getElem? (i := 11) rfl)), by decide +kernel, by decide +kernel, by decide +kernel⟩
theorem im_X12_about : Cond.instanceMethod yX12_about ∈ lw_tbl := (tb8 (List.mem_of_getElem? (i := 239) rfl))
theorem se_X12_about : Cond.selects RX12 yX12_about yX12_about ∈ lw_tbl := (tb9 (List.mem_of_getElem? (i := 0) rfl))
theorem cl_L_192 : CLk RL 192 yX12_other cX12_other 6 (some .int) 4 := ⟨Or.inl (tb8 (List.mem_of_getElem? (i := 234) rfl)), (tb8 (List.mem_of_getElem? (i := 237) rfl)), (tb1 (List.mem_of_getElem? (i := 11) rfl)), by decide +kernel, by decide +kernel, by decide +kernel⟩
theorem im_X12_other : Cond.instanceMethod yX12_other ∈ lw_tbl := (tb8 (List.mem_of_getElem? (i := 235) rfl))
theorem se_X12_other : Cond.selects RX12 yX12_other yX12_other ∈ lw_tbl := (tb8 (List.mem_of_getElem? (i := 236) rfl))
theorem cl_L_189 : CLk RL 189 yX12_found cX12_found 4 (some .int) 3 := ⟨Or.inl (tb8 (List.mem_of_getElem? (i := 225) rfl)), (tb8 (List.mem_of_getElem? (i := 228) rfl)), (tb1 (List.mem_of_getElem? (i := 11) rfl)), by decide +kernel, by decide +kernel, by decide +kernel⟩
theorem im_X12_found : Cond.instanceMethod yX12_found ∈ lw_tbl := (tb8 (List.mem_of_getElem? (i := 226) rfl))
theorem se_X12_found : Cond.selects RX12 yX12_found yX12_found ∈ lw_tbl := (tb8 (List.mem_of_getElem? (i := 227) rfl))
theorem cl_L_185 : CLk RL 185 yX12_run cX12_run 4 (some .int) 1 := ⟨Or.inl (tb8 (List.mem_of_getElem? (i := 184) rfl)), (tb8 (List.mem_of_getElem? (i := 187) rfl)), (tb1 (List.mem_of_getElem? (i := 11) rfl)), by decide +kernel, by decide +kernel, by decide +kernel⟩
theorem im_X12_run : Cond.instanceMethod yX12_run ∈ lw_tbl := (tb8 (List.mem_of_getElem? (i := 185) rfl))
theorem se_X12_run : Cond.selects RX12 yX12_run yX12_run ∈ lw_tbl := (tb8 (List.mem_of_getElem? (i := 186) rfl))
theorem cl_L_179 : CLk RL 179 yX11_seed cX11_seed 2 none 1 := ⟨Or.inl (tb2 (List.mem_of_getElem? (i := 177) rfl)), (tb2 (List.mem_of_getElem? (i := 180) rfl)), (tb1 (List.mem_of_getElem? (i := 1) rfl)), by decide +kernel, by decide +kernel, by decide +kernel⟩
theorem im_X11_seed : Cond.instanceMethod yX11_seed ∈ lw_tbl := (tb2 (List.mem_of_getElem? (i := 178) rfl))
theorem se_X11_seed : Cond.selects RX11 yX11_seed yX11_seed ∈ lw_tbl := (tb2 (List.mem_of_getElem? (i := 179) rfl))
theorem cl_L_182 : CLk RL 182 yX12_seed cX12_seed 2 none 1 := ⟨Or.inl (tb8 (List.mem_of_getElem? (i := 180) rfl)), (tb8 (List.mem_of_getElem? (i := 183) rfl)), (tb1 (List.mem_of_getElem? (i := 11) rfl)), by decide +kernel, by decide +kernel, by decide +kernel⟩
theorem im_X12_seed : Cond.instanceMethod yX12_seed ∈ lw_tbl := (tb8 (List.mem_of_getElem? (i := 181) rfl))
theorem se_X12_seed : Cond.selects RX12 yX12_seed yX12_seed ∈ lw_tbl := (tb8 (List.mem_of_getElem? (i := 182) rfl))
theorem cl_L_178 : CLk RL 178 yX12_look cX12_look 3 (some .int) 2 := ⟨Or.inl (tb8 (List.mem_of_getElem? (i := 164) rfl)), (tb8 (List.mem_of_getElem? (i := 167) rfl)), (tb1 (List.mem_of_getElem? (i := 11) rfl)), by decide +kernel, by decide +kernel, by decide +kernel⟩
theorem im_X12_look : Cond.instanceMethod yX12_look ∈ lw_tbl := (tb8 (List.mem_of_getElem? (i := 165) rfl))
theorem se_X12_look : Cond.selects RX12 yX12_look yX12_look ∈ lw_tbl := (tb8 (List.mem_of_getElem? (i := 166) rfl))
theorem cl_L_175 : CLk RL 175 yX12_person cX12_person 7 (some .int) 4 := ⟨Or.inl (tb8 (List.mem_of_getElem? (i := 148) rfl)), (tb8 (List.mem_of_getElem? (i := 151) rfl)), (tb1 (List.mem_of_getElem? (i := 11) rfl)), by decide +kernel, by decide +kernel, by decide +kernel⟩
theorem im_X12_person : Cond.instanceMethod yX12_person ∈ lw_tbl := (tb8 (List.mem_of_getElem? (i := 149) rfl))
theorem se_X12_person : Cond.selects RX12 yX12_person yX12_person ∈ lw_tbl := (tb8 (List.mem_of_getElem? (i := 150) rfl))
theorem cl_L_169 : CLk RL 169 yX11_fault cX11_fault 1 (some .int) 0 := ⟨Or.inl (tb2 (List.mem_of_getElem? (i := 173) rfl)), (tb2 (List.mem_of_getElem? (i := 176) rfl)), (tb1 (List.mem_of_getElem? (i := 1) rfl)), by decide +kernel, by decide +kernel, by decide +kernel⟩
theorem im_X11_fault : Cond.instanceMethod yX11_fault ∈ lw_tbl := (tb2 (List.mem_of_getElem? (i := 174) rfl))
theorem se_X11_fault : Cond.selects RX11 yX11_fault yX11_fault ∈ lw_tbl := (tb2 (List.mem_of_getElem? (i := 175) rfl))
theorem cl_L_172 : CLk RL 172 yX12_fault cX12_fault 1 (some .int) 0 := ⟨Or.inl (tb8 (List.mem_of_getElem? (i := 10) rfl)), (tb8 (List.mem_of_getElem? (i := 13) rfl)), (tb1 (List.mem_of_getElem? (i := 11) rfl)), by decide +kernel, by decide +kernel, by decide +kernel⟩
theorem im_X12_fault : Cond.instanceMethod yX12_fault ∈ lw_tbl := (tb8 (List.mem_of_getElem? (i := 11) rfl))
theorem se_X12_fault : Cond.selects RX12 yX12_fault yX12_fault ∈ lw_tbl := (tb8 (List.mem_of_getElem? (i := 12) rfl))
theorem cl_L_168 : CLk RL 168 yX12_law cX12_law 1 (some .int) 0 := ⟨Or.inl (tb8 (List.mem_of_getElem? (i := 14) rfl)), (tb8 (List.mem_of_getElem? (i := 17) rfl)), (tb1 (List.mem_of_getElem? (i := 11) rfl)), by decide +kernel, by decide +kernel, by decide +kernel⟩
theorem im_X12_law : Cond.instanceMethod yX12_law ∈ lw_tbl := (tb8 (List.mem_of_getElem? (i := 15) rfl))
theorem se_X12_law : Cond.selects RX12 yX12_law yX12_law ∈ lw_tbl := (tb8 (List.mem_of_getElem? (i := 16) rfl))
theorem cl_L_164 : CLk RL 164 yX12_day cX12_day 2 none 1 := ⟨Or.inl (tb7 (List.mem_of_getElem? (i := 238) rfl)), (tb8 (List.mem_of_getElem? (i := 1) rfl)), (tb1 (List.mem_of_getElem? (i := 11) rfl)), by decide +kernel, by decide +kernel, by decide +kernel⟩
theorem im_X12_day : Cond.instanceMethod yX12_day ∈ lw_tbl := (tb7 (List.mem_of_getElem? (i := 239) rfl))
theorem se_X12_day : Cond.selects RX12 yX12_day yX12_day ∈ lw_tbl := (tb8 (List.mem_of_getElem? (i := 0) rfl))
theorem cl_L_160 : CLk RL 160 yX12_gun cX12_gun 6 (some .int) 4 := ⟨Or.inl (tb7 (List.mem_of_getElem? (i := 231) rfl)), (tb7 (List.mem_of_getElem? (i := 234) rfl)), (tb1 (List.mem_of_getElem? (i := 11) rfl)), by decide +kernel, by decide +kernel, by decide +kernel⟩
theorem im_X12_gun : Cond.instanceMethod yX12_gun ∈ lw_tbl := (tb7 (List.mem_of_getElem? (i := 232) rfl))
theorem se_X12_gun : Cond.selects RX12 yX12_gun yX12_gun ∈ lw_tbl := (tb7 (List.mem_of_getElem? (i := 233) rfl))
theorem cl_L_156 : CLk RL 156 yX12_sees cX12_sees 3 (some .boolean) 2 := ⟨Or.inl (tb7 (List.mem_of_getElem? (i := 213) rfl)), (tb7 (List.mem_of_getElem? (i := 216) rfl)), (tb1 (List.mem_of_getElem? (i := 11) rfl)), by decide +kernel, by decide +kernel, by decide +kernel⟩
theorem im_X12_sees : Cond.instanceMethod yX12_sees ∈ lw_tbl := (tb7 (List.mem_of_getElem? (i := 214) rfl))
theorem se_X12_sees : Cond.selects RX12 yX12_sees yX12_sees ∈ lw_tbl := (tb7 (List.mem_of_getElem? (i := 215) rfl))
theorem cl_L_152 : CLk RL 152 yX12_height cX12_height 2 (some .int) 1 := ⟨Or.inl (tb7 (List.mem_of_getElem? (i := 209) rfl)), (tb7 (List.mem_of_getElem? (i := 212) rfl)), (tb1 (List.mem_of_getElem? (i := 11) rfl)), by decide +kernel, by decide +kernel, by decide +kernel⟩
theorem im_X12_height : Cond.instanceMethod yX12_height ∈ lw_tbl := (tb7 (List.mem_of_getElem? (i := 210) rfl))
theorem se_X12_height : Cond.selects RX12 yX12_height yX12_height ∈ lw_tbl := (tb7 (List.mem_of_getElem? (i := 211) rfl))
theorem cl_L_145 : CLk RL 145 yX12_ground cX12_ground 5 none 3 := ⟨Or.inl (tb7 (List.mem_of_getElem? (i := 190) rfl)), (tb7 (List.mem_of_getElem? (i := 193) rfl)), (tb1 (List.mem_of_getElem? (i := 11) rfl)), by decide +kernel, by decide +kernel, by decide +kernel⟩
theorem im_X12_ground : Cond.instanceMethod yX12_ground ∈ lw_tbl := (tb7 (List.mem_of_getElem? (i := 191) rfl))
theorem se_X12_ground : Cond.selects RX12 yX12_ground yX12_ground ∈ lw_tbl := (tb7 (List.mem_of_getElem? (i := 192) rfl))
theorem cl_L_136 : CLk RL 136 yX11_end cX11_end 2 (some .boolean) 1 := ⟨Or.inl (tb2 (List.mem_of_getElem? (i := 169) rfl)), (tb2 (List.mem_of_getElem? (i := 172) rfl)), (tb1 (List.mem_of_getElem? (i := 1) rfl)), by decide +kernel, by decide +kernel, by decide +kernel⟩
theorem im_X11_end : Cond.instanceMethod yX11_end ∈ lw_tbl := (tb2 (List.mem_of_getElem? (i := 170) rfl))
theorem se_X11_end : Cond.selects RX11 yX11_end yX11_end ∈ lw_tbl := (tb2 (List.mem_of_getElem? (i := 171) rfl))
theorem cl_L_139 : CLk RL 139 yX12_end cX12_end 2 (some .boolean) 1 := ⟨Or.inl (tb8 (List.mem_of_getElem? (i := 6) rfl)), (tb8 (List.mem_of_getElem? (i := 9) rfl)), (tb1 (List.mem_of_getElem? (i := 11) rfl)), by decide +kernel, by decide +kernel, by decide +kernel⟩
theorem im_X12_end : Cond.instanceMethod yX12_end ∈ lw_tbl := (tb8 (List.mem_of_getElem? (i := 7) rfl))
theorem se_X12_end : Cond.selects RX12 yX12_end yX12_end ∈ lw_tbl := (tb8 (List.mem_of_getElem? (i := 8) rfl))
theorem cl_L_131 : CLk RL 131 yX11_feed cX11_feed 6 (some .int) 5 := ⟨Or.inl (tb2 (List.mem_of_getElem? (i := 157) rfl)), (tb2 (List.mem_of_getElem? (i := 160) rfl)), (tb1 (List.mem_of_getElem? (i := 1) rfl)), by decide +kernel, by decide +kernel, by decide +kernel⟩
theorem im_X11_feed : Cond.instanceMethod yX11_feed ∈ lw_tbl := (tb2 (List.mem_of_getElem? (i := 158) rfl))
theorem se_X11_feed : Cond.selects RX11 yX11_feed yX11_feed ∈ lw_tbl := (tb2 (List.mem_of_getElem? (i := 159) rfl))
theorem cl_L_135 : CLk RL 135 yX12_feed cX12_feed 7 (some .int) 5 := ⟨Or.inl (tb8 (List.mem_of_getElem? (i := 2) rfl)), (tb8 (List.mem_of_getElem? (i := 5) rfl)), (tb1 (List.mem_of_getElem? (i := 11) rfl)), by decide +kernel, by decide +kernel, by decide +kernel⟩
theorem im_X12_feed : Cond.instanceMethod yX12_feed ∈ lw_tbl := (tb8 (List.mem_of_getElem? (i := 3) rfl))
theorem se_X12_feed : Cond.selects RX12 yX12_feed yX12_feed ∈ lw_tbl := (tb8 (List.mem_of_getElem? (i := 4) rfl))
theorem df_X11 : ∀ k, k < 6 → defaultValue (tyX11 k) = if rf 11 k = true then .null else .int 0 := by decide +kernel
theorem cl_L_127 : CLk RL 127 yX11_init cX11_init 1 none 0 := ⟨Or.inl (tb1 (List.mem_of_getElem? (i := 32) rfl)), (tb1 (List.mem_of_getElem? (i := 34) rfl)), (tb1 (List.mem_of_getElem? (i := 1) rfl)), by decide +kernel, by decide +kernel, by decide +kernel⟩
theorem im_X11_init : Cond.instanceMethod yX11_init ∈ lw_tbl := (tb1 (List.mem_of_getElem? (i := 33) rfl))
theorem df_X12 : ∀ k, k < 28 → defaultValue (tyX12 k) = if rf 12 k = true then .null else .int 0 := by decide +kernel
theorem cl_L_130 : CLk RL 130 yX12_init cX12_init 1 none 0 := ⟨Or.inl (tb7 (List.mem_of_getElem? (i := 92) rfl)), (tb7 (List.mem_of_getElem? (i := 94) rfl)), (tb1 (List.mem_of_getElem? (i := 11) rfl)), by decide +kernel, by decide +kernel, by decide +kernel⟩
theorem im_X12_init : Cond.instanceMethod yX12_init ∈ lw_tbl := (tb7 (List.mem_of_getElem? (i := 93) rfl))
def w_L_law__2741 (xs : Nat → Int32) (L : Nat) (k : Int32 → AH → Prop) (v0 : Nat) (v1 : Nat) (v2 : Nat) (v3 : Nat) (v4 : Int32) (h : AH) (Q : Int32 → AH → Prop) : Prop :=
  k (v4 + 6) h
def w_L_law__2716 (xs : Nat → Int32) (L : Nat) (k : Int32 → AH → Prop) (v0 : Nat) (v1 : Nat) (v2 : Nat) (v3 : Nat) (v4 : Int32) (h : AH) (Q : Int32 → AH → Prop) : Prop :=
  xL xs L (v4 + (1 : Int32)) fun x1 =>
  vr h v1 11 (
  w_X11_count v1 x1 h (fun x2 h =>
  xL xs L (v4 + (1 : Int32)) fun x3 =>
  vr h v2 12 (
  w_X12_count v2 x3 h (fun x4 h =>
  br (x2 = x4) (
    w_L_law__2741 xs L k v0 v1 v2 v3 v4 h Q) (
    Q (0 : Int32) h)))))
def w_L_law__2703 (xs : Nat → Int32) (L : Nat) (k : Int32 → AH → Prop) (v0 : Nat) (v1 : Nat) (v2 : Nat) (v3 : Nat) (v4 : Int32) (h : AH) (Q : Int32 → AH → Prop) : Prop :=
  vr h v1 11 (
  w_X11_back v1 h (fun x1 h =>
  vr h v2 12 (
  w_X12_back v2 h (fun x2 h =>
  br (x1 = x2) (
    w_L_law__2741 xs L k v0 v1 v2 v3 v4 h Q) (
    Q (0 : Int32) h)))))
def w_L_law__2692 (xs : Nat → Int32) (L : Nat) (k : Int32 → AH → Prop) (v0 : Nat) (v1 : Nat) (v2 : Nat) (v3 : Nat) (v4 : Int32) (h : AH) (Q : Int32 → AH → Prop) : Prop :=
  vr h v1 11 (
  w_X11_image v1 h (fun h =>
  vr h v2 12 (
  w_X12_image v2 h (fun h =>
  w_L_law__2741 xs L k v0 v1 v2 v3 v4 h Q))))
def w_L_law__2689 (xs : Nat → Int32) (L : Nat) (k : Int32 → AH → Prop) (v0 : Nat) (v1 : Nat) (v2 : Nat) (v3 : Nat) (v4 : Int32) (h : AH) (Q : Int32 → AH → Prop) : Prop :=
  w_L_law__2741 xs L k v0 v1 v2 v3 v4 h Q
def w_L_law__2636 (xs : Nat → Int32) (L : Nat) (k : Int32 → AH → Prop) (v0 : Nat) (v1 : Nat) (v2 : Nat) (v3 : Nat) (v4 : Int32) (h : AH) (Q : Int32 → AH → Prop) : Prop :=
  xL xs L (v4 + (1 : Int32)) fun x1 =>
  w_L_odds v1 x1 v3 h (fun x2 h =>
  xL xs L (v4 + (1 : Int32)) fun x3 =>
  vr h v2 12 (
  w_X12_odds v2 x3 h (fun x4 h =>
  vr h v2 12 (
  w_X12_thrown v2 h (fun x5 h =>
  br (x5 = x2) (
    br (x2 = 0) (
      aJ h v3 (0 : Int32) fun j6 =>
      br ((lg_cmp j6 x4.toInt64) = 0) (
        w_L_law__2689 xs L k v0 v1 v2 v3 v4 h Q) (
        Q (0 : Int32) h)) (
      w_L_law__2689 xs L k v0 v1 v2 v3 v4 h Q)) (
    Q (0 : Int32) h))))))
def w_L_law__2633 (xs : Nat → Int32) (L : Nat) (k : Int32 → AH → Prop) (v0 : Nat) (v1 : Nat) (v2 : Nat) (v3 : Nat) (v4 : Int32) (h : AH) (Q : Int32 → AH → Prop) : Prop :=
  w_L_law__2741 xs L k v0 v1 v2 v3 v4 h Q
def w_L_law__2627 (xs : Nat → Int32) (L : Nat) (k : Int32 → AH → Prop) (v0 : Nat) (v1 : Nat) (v2 : Nat) (v3 : Nat) (v4 : Int32) (t0 : Int64) (t1 : Int64) (h : AH) (Q : Int32 → AH → Prop) : Prop :=
  br ((lg_cmp t0 t1) = 0) (
    w_L_law__2633 xs L k v0 v1 v2 v3 v4 h Q) (
    Q (0 : Int32) h)
def w_L_law__2573 (xs : Nat → Int32) (L : Nat) (k : Int32 → AH → Prop) (v0 : Nat) (v1 : Nat) (v2 : Nat) (v3 : Nat) (v4 : Int32) (h : AH) (Q : Int32 → AH → Prop) : Prop :=
  xL xs L (v4 + (1 : Int32)) fun x1 =>
  w_L_holds v1 x1 v3 h (fun x2 h =>
  xL xs L (v4 + (1 : Int32)) fun x3 =>
  vr h v2 12 (
  w_X12_holds v2 x3 h (fun x4 h =>
  vr h v2 12 (
  w_X12_thrown v2 h (fun x5 h =>
  br (x5 = x2) (
    br (x2 = 0) (
      aJ h v3 (0 : Int32) fun j6 =>
      br (x4 = 0) (
        w_L_law__2627 xs L k v0 v1 v2 v3 v4 j6 ((0 : Int64)) h Q) (
        w_L_law__2627 xs L k v0 v1 v2 v3 v4 j6 ((1 : Int64)) h Q)) (
      w_L_law__2633 xs L k v0 v1 v2 v3 v4 h Q)) (
    Q (0 : Int32) h))))))
def w_L_law__2570 (xs : Nat → Int32) (L : Nat) (k : Int32 → AH → Prop) (v0 : Nat) (v1 : Nat) (v2 : Nat) (v3 : Nat) (v4 : Int32) (h : AH) (Q : Int32 → AH → Prop) : Prop :=
  w_L_law__2741 xs L k v0 v1 v2 v3 v4 h Q
def w_L_law__2517 (xs : Nat → Int32) (L : Nat) (k : Int32 → AH → Prop) (v0 : Nat) (v1 : Nat) (v2 : Nat) (v3 : Nat) (v4 : Int32) (h : AH) (Q : Int32 → AH → Prop) : Prop :=
  xL xs L (v4 + (1 : Int32)) fun x1 =>
  w_L_story v1 x1 v3 h (fun x2 h =>
  xL xs L (v4 + (1 : Int32)) fun x3 =>
  vr h v2 12 (
  w_X12_story v2 x3 h (fun x4 h =>
  vr h v2 12 (
  w_X12_thrown v2 h (fun x5 h =>
  br (x5 = x2) (
    br (x2 = 0) (
      aJ h v3 (0 : Int32) fun j6 =>
      br ((lg_cmp j6 x4.toInt64) = 0) (
        w_L_law__2570 xs L k v0 v1 v2 v3 v4 h Q) (
        Q (0 : Int32) h)) (
      w_L_law__2570 xs L k v0 v1 v2 v3 v4 h Q)) (
    Q (0 : Int32) h))))))
def w_L_law__2514 (xs : Nat → Int32) (L : Nat) (k : Int32 → AH → Prop) (v0 : Nat) (v1 : Nat) (v2 : Nat) (v3 : Nat) (v4 : Int32) (h : AH) (Q : Int32 → AH → Prop) : Prop :=
  w_L_law__2741 xs L k v0 v1 v2 v3 v4 h Q
def w_L_law__2481 (xs : Nat → Int32) (L : Nat) (k : Int32 → AH → Prop) (v0 : Nat) (v1 : Nat) (v2 : Nat) (v3 : Nat) (v4 : Int32) (v5 : Int32) (t0 : Nat) (t1 : Int32) (t2 : Int32) (t3 : Int32) (t4 : Int32) (t5 : Int32) (h : AH) (Q : Int32 → AH → Prop) : Prop :=
  vr h t0 12 (
  w_X12_joined t0 t1 t2 t3 t4 t5 h (fun x1 h =>
  vr h v2 12 (
  w_X12_thrown v2 h (fun x2 h =>
  br (x2 = v5) (
    br (v5 = 0) (
      aJ h v3 (0 : Int32) fun j3 =>
      br ((lg_cmp j3 x1.toInt64) = 0) (
        w_L_law__2514 xs L k v0 v1 v2 v3 v4 h Q) (
        Q (0 : Int32) h)) (
      w_L_law__2514 xs L k v0 v1 v2 v3 v4 h Q)) (
    Q (0 : Int32) h)))))
def w_L_law__2436 (xs : Nat → Int32) (L : Nat) (k : Int32 → AH → Prop) (v0 : Nat) (v1 : Nat) (v2 : Nat) (v3 : Nat) (v4 : Int32) (t0 : Nat) (t1 : Int32) (t2 : Int32) (t3 : Int32) (t4 : Int32) (t5 : Int32) (h : AH) (Q : Int32 → AH → Prop) : Prop :=
  w_L_joined t0 t1 t2 t3 t4 t5 v3 h (fun x1 h =>
  xL xs L (v4 + (1 : Int32)) fun x2 =>
  xL xs L (v4 + (2 : Int32)) fun x3 =>
  xL xs L (v4 + (3 : Int32)) fun x4 =>
  xL xs L (v4 + (4 : Int32)) fun x5 =>
  xL xs L (v4 + (5 : Int32)) fun x6 =>
  br (x6 = 0) (
    w_L_law__2481 xs L k v0 v1 v2 v3 v4 x1 v2 x2 x3 x4 x5 (0 : Int32) h Q) (
    w_L_law__2481 xs L k v0 v1 v2 v3 v4 x1 v2 x2 x3 x4 x5 (1 : Int32) h Q))
def w_L_law__2397 (xs : Nat → Int32) (L : Nat) (k : Int32 → AH → Prop) (v0 : Nat) (v1 : Nat) (v2 : Nat) (v3 : Nat) (v4 : Int32) (h : AH) (Q : Int32 → AH → Prop) : Prop :=
  xL xs L (v4 + (1 : Int32)) fun x1 =>
  xL xs L (v4 + (2 : Int32)) fun x2 =>
  xL xs L (v4 + (3 : Int32)) fun x3 =>
  xL xs L (v4 + (4 : Int32)) fun x4 =>
  xL xs L (v4 + (5 : Int32)) fun x5 =>
  br (x5 = 0) (
    w_L_law__2436 xs L k v0 v1 v2 v3 v4 v1 x1 x2 x3 x4 (0 : Int32) h Q) (
    w_L_law__2436 xs L k v0 v1 v2 v3 v4 v1 x1 x2 x3 x4 (1 : Int32) h Q)
def w_L_law__2394 (xs : Nat → Int32) (L : Nat) (k : Int32 → AH → Prop) (v0 : Nat) (v1 : Nat) (v2 : Nat) (v3 : Nat) (v4 : Int32) (h : AH) (Q : Int32 → AH → Prop) : Prop :=
  w_L_law__2741 xs L k v0 v1 v2 v3 v4 h Q
def w_L_law__2341 (xs : Nat → Int32) (L : Nat) (k : Int32 → AH → Prop) (v0 : Nat) (v1 : Nat) (v2 : Nat) (v3 : Nat) (v4 : Int32) (h : AH) (Q : Int32 → AH → Prop) : Prop :=
  xL xs L (v4 + (1 : Int32)) fun x1 =>
  w_L_who v1 x1 v3 h (fun x2 h =>
  xL xs L (v4 + (1 : Int32)) fun x3 =>
  vr h v2 12 (
  w_X12_who v2 x3 h (fun x4 h =>
  vr h v2 12 (
  w_X12_thrown v2 h (fun x5 h =>
  br (x5 = x2) (
    br (x2 = 0) (
      aJ h v3 (0 : Int32) fun j6 =>
      br ((lg_cmp j6 x4.toInt64) = 0) (
        w_L_law__2394 xs L k v0 v1 v2 v3 v4 h Q) (
        Q (0 : Int32) h)) (
      w_L_law__2394 xs L k v0 v1 v2 v3 v4 h Q)) (
    Q (0 : Int32) h))))))
def w_L_law__2328 (xs : Nat → Int32) (L : Nat) (k : Int32 → AH → Prop) (v0 : Nat) (v1 : Nat) (v2 : Nat) (v3 : Nat) (v4 : Int32) (h : AH) (Q : Int32 → AH → Prop) : Prop :=
  vr h v1 11 (
  w_X11_apart v1 h (fun x1 h =>
  vr h v2 12 (
  w_X12_apart v2 h (fun x2 h =>
  br (x1 = x2) (
    w_L_law__2741 xs L k v0 v1 v2 v3 v4 h Q) (
    Q (0 : Int32) h)))))
def w_L_law__2325 (xs : Nat → Int32) (L : Nat) (k : Int32 → AH → Prop) (v0 : Nat) (v1 : Nat) (v2 : Nat) (v3 : Nat) (v4 : Int32) (h : AH) (Q : Int32 → AH → Prop) : Prop :=
  w_L_law__2741 xs L k v0 v1 v2 v3 v4 h Q
def w_L_law__2319 (xs : Nat → Int32) (L : Nat) (k : Int32 → AH → Prop) (v0 : Nat) (v1 : Nat) (v2 : Nat) (v3 : Nat) (v4 : Int32) (t0 : Int64) (t1 : Int64) (h : AH) (Q : Int32 → AH → Prop) : Prop :=
  br ((lg_cmp t0 t1) = 0) (
    w_L_law__2325 xs L k v0 v1 v2 v3 v4 h Q) (
    Q (0 : Int32) h)
def w_L_law__2253 (xs : Nat → Int32) (L : Nat) (k : Int32 → AH → Prop) (v0 : Nat) (v1 : Nat) (v2 : Nat) (v3 : Nat) (v4 : Int32) (h : AH) (Q : Int32 → AH → Prop) : Prop :=
  xL xs L (v4 + (1 : Int32)) fun x1 =>
  xL xs L (v4 + (2 : Int32)) fun x2 =>
  w_L_talked v1 x1 x2 v3 h (fun x3 h =>
  xL xs L (v4 + (1 : Int32)) fun x4 =>
  xL xs L (v4 + (2 : Int32)) fun x5 =>
  vr h v2 12 (
  w_X12_talked v2 x4 x5 h (fun x6 h =>
  vr h v2 12 (
  w_X12_thrown v2 h (fun x7 h =>
  br (x7 = x3) (
    br (x3 = 0) (
      aJ h v3 (0 : Int32) fun j8 =>
      br (x6 = 0) (
        w_L_law__2319 xs L k v0 v1 v2 v3 v4 j8 ((0 : Int64)) h Q) (
        w_L_law__2319 xs L k v0 v1 v2 v3 v4 j8 ((1 : Int64)) h Q)) (
      w_L_law__2325 xs L k v0 v1 v2 v3 v4 h Q)) (
    Q (0 : Int32) h))))))
def w_L_law__2250 (xs : Nat → Int32) (L : Nat) (k : Int32 → AH → Prop) (v0 : Nat) (v1 : Nat) (v2 : Nat) (v3 : Nat) (v4 : Int32) (h : AH) (Q : Int32 → AH → Prop) : Prop :=
  w_L_law__2741 xs L k v0 v1 v2 v3 v4 h Q
def w_L_law__2244 (xs : Nat → Int32) (L : Nat) (k : Int32 → AH → Prop) (v0 : Nat) (v1 : Nat) (v2 : Nat) (v3 : Nat) (v4 : Int32) (t0 : Int64) (t1 : Int64) (h : AH) (Q : Int32 → AH → Prop) : Prop :=
  br ((lg_cmp t0 t1) = 0) (
    w_L_law__2250 xs L k v0 v1 v2 v3 v4 h Q) (
    Q (0 : Int32) h)
def w_L_law__2210 (xs : Nat → Int32) (L : Nat) (k : Int32 → AH → Prop) (v0 : Nat) (v1 : Nat) (v2 : Nat) (v3 : Nat) (v4 : Int32) (v5 : Int32) (t0 : Nat) (t1 : Int32) (t2 : Int32) (h : AH) (Q : Int32 → AH → Prop) : Prop :=
  vr h t0 12 (
  w_X12_could t0 t1 t2 h (fun x1 h =>
  vr h v2 12 (
  w_X12_thrown v2 h (fun x2 h =>
  br (x2 = v5) (
    br (v5 = 0) (
      aJ h v3 (0 : Int32) fun j3 =>
      br (x1 = 0) (
        w_L_law__2244 xs L k v0 v1 v2 v3 v4 j3 ((0 : Int64)) h Q) (
        w_L_law__2244 xs L k v0 v1 v2 v3 v4 j3 ((1 : Int64)) h Q)) (
      w_L_law__2250 xs L k v0 v1 v2 v3 v4 h Q)) (
    Q (0 : Int32) h)))))
def w_L_law__2183 (xs : Nat → Int32) (L : Nat) (k : Int32 → AH → Prop) (v0 : Nat) (v1 : Nat) (v2 : Nat) (v3 : Nat) (v4 : Int32) (t0 : Nat) (t1 : Int32) (t2 : Int32) (h : AH) (Q : Int32 → AH → Prop) : Prop :=
  w_L_could t0 t1 t2 v3 h (fun x1 h =>
  xL xs L (v4 + (1 : Int32)) fun x2 =>
  xL xs L (v4 + (2 : Int32)) fun x3 =>
  br (x3 = 0) (
    w_L_law__2210 xs L k v0 v1 v2 v3 v4 x1 v2 x2 (0 : Int32) h Q) (
    w_L_law__2210 xs L k v0 v1 v2 v3 v4 x1 v2 x2 (1 : Int32) h Q))
def w_L_law__2162 (xs : Nat → Int32) (L : Nat) (k : Int32 → AH → Prop) (v0 : Nat) (v1 : Nat) (v2 : Nat) (v3 : Nat) (v4 : Int32) (h : AH) (Q : Int32 → AH → Prop) : Prop :=
  xL xs L (v4 + (1 : Int32)) fun x1 =>
  xL xs L (v4 + (2 : Int32)) fun x2 =>
  br (x2 = 0) (
    w_L_law__2183 xs L k v0 v1 v2 v3 v4 v1 x1 (0 : Int32) h Q) (
    w_L_law__2183 xs L k v0 v1 v2 v3 v4 v1 x1 (1 : Int32) h Q)
def w_L_law__2159 (xs : Nat → Int32) (L : Nat) (k : Int32 → AH → Prop) (v0 : Nat) (v1 : Nat) (v2 : Nat) (v3 : Nat) (v4 : Int32) (h : AH) (Q : Int32 → AH → Prop) : Prop :=
  w_L_law__2741 xs L k v0 v1 v2 v3 v4 h Q
def w_L_law__2082 (xs : Nat → Int32) (L : Nat) (k : Int32 → AH → Prop) (v0 : Nat) (v1 : Nat) (v2 : Nat) (v3 : Nat) (v4 : Int32) (h : AH) (Q : Int32 → AH → Prop) : Prop :=
  xL xs L (v4 + (1 : Int32)) fun x1 =>
  xL xs L (v4 + (2 : Int32)) fun x2 =>
  xL xs L (v4 + (3 : Int32)) fun x3 =>
  w_L_tells v1 x1 x2 x3 v3 h (fun x4 h =>
  xL xs L (v4 + (1 : Int32)) fun x5 =>
  xL xs L (v4 + (2 : Int32)) fun x6 =>
  xL xs L (v4 + (3 : Int32)) fun x7 =>
  vr h v2 12 (
  w_X12_tells v2 x5 x6 x7 h (fun x8 h =>
  vr h v2 12 (
  w_X12_thrown v2 h (fun x9 h =>
  br (x9 = x4) (
    br (x4 = 0) (
      aJ h v3 (0 : Int32) fun j10 =>
      br ((lg_cmp j10 x8.toInt64) = 0) (
        w_L_law__2159 xs L k v0 v1 v2 v3 v4 h Q) (
        Q (0 : Int32) h)) (
      w_L_law__2159 xs L k v0 v1 v2 v3 v4 h Q)) (
    Q (0 : Int32) h))))))
def w_L_law__2079 (xs : Nat → Int32) (L : Nat) (k : Int32 → AH → Prop) (v0 : Nat) (v1 : Nat) (v2 : Nat) (v3 : Nat) (v4 : Int32) (h : AH) (Q : Int32 → AH → Prop) : Prop :=
  w_L_law__2741 xs L k v0 v1 v2 v3 v4 h Q
def w_L_law__1990 (xs : Nat → Int32) (L : Nat) (k : Int32 → AH → Prop) (v0 : Nat) (v1 : Nat) (v2 : Nat) (v3 : Nat) (v4 : Int32) (h : AH) (Q : Int32 → AH → Prop) : Prop :=
  xL xs L (v4 + (1 : Int32)) fun x1 =>
  xL xs L (v4 + (2 : Int32)) fun x2 =>
  xL xs L (v4 + (3 : Int32)) fun x3 =>
  xL xs L (v4 + (4 : Int32)) fun x4 =>
  w_L_teller v1 x1 x2 x3 x4 v3 h (fun x5 h =>
  xL xs L (v4 + (1 : Int32)) fun x6 =>
  xL xs L (v4 + (2 : Int32)) fun x7 =>
  xL xs L (v4 + (3 : Int32)) fun x8 =>
  xL xs L (v4 + (4 : Int32)) fun x9 =>
  vr h v2 12 (
  w_X12_teller v2 x6 x7 x8 x9 h (fun x10 h =>
  vr h v2 12 (
  w_X12_thrown v2 h (fun x11 h =>
  br (x11 = x5) (
    br (x5 = 0) (
      aJ h v3 (0 : Int32) fun j12 =>
      br ((lg_cmp j12 x10.toInt64) = 0) (
        w_L_law__2079 xs L k v0 v1 v2 v3 v4 h Q) (
        Q (0 : Int32) h)) (
      w_L_law__2079 xs L k v0 v1 v2 v3 v4 h Q)) (
    Q (0 : Int32) h))))))
def w_L_law__1987 (xs : Nat → Int32) (L : Nat) (k : Int32 → AH → Prop) (v0 : Nat) (v1 : Nat) (v2 : Nat) (v3 : Nat) (v4 : Int32) (h : AH) (Q : Int32 → AH → Prop) : Prop :=
  w_L_law__2741 xs L k v0 v1 v2 v3 v4 h Q
def w_L_law__1922 (xs : Nat → Int32) (L : Nat) (k : Int32 → AH → Prop) (v0 : Nat) (v1 : Nat) (v2 : Nat) (v3 : Nat) (v4 : Int32) (h : AH) (Q : Int32 → AH → Prop) : Prop :=
  xL xs L (v4 + (1 : Int32)) fun x1 =>
  xL xs L (v4 + (2 : Int32)) fun x2 =>
  w_L_still v1 x1 x2 v3 h (fun x3 h =>
  xL xs L (v4 + (1 : Int32)) fun x4 =>
  xL xs L (v4 + (2 : Int32)) fun x5 =>
  vr h v2 12 (
  w_X12_still v2 x4 x5 h (fun x6 h =>
  vr h v2 12 (
  w_X12_thrown v2 h (fun x7 h =>
  br (x7 = x3) (
    br (x3 = 0) (
      aJ h v3 (0 : Int32) fun j8 =>
      br ((lg_cmp j8 x6.toInt64) = 0) (
        w_L_law__1987 xs L k v0 v1 v2 v3 v4 h Q) (
        Q (0 : Int32) h)) (
      w_L_law__1987 xs L k v0 v1 v2 v3 v4 h Q)) (
    Q (0 : Int32) h))))))
def w_L_law__1919 (xs : Nat → Int32) (L : Nat) (k : Int32 → AH → Prop) (v0 : Nat) (v1 : Nat) (v2 : Nat) (v3 : Nat) (v4 : Int32) (h : AH) (Q : Int32 → AH → Prop) : Prop :=
  w_L_law__2741 xs L k v0 v1 v2 v3 v4 h Q
def w_L_law__1886 (xs : Nat → Int32) (L : Nat) (k : Int32 → AH → Prop) (v0 : Nat) (v1 : Nat) (v2 : Nat) (v3 : Nat) (v4 : Int32) (v5 : Int32) (t0 : Nat) (t1 : Int32) (t2 : Int32) (t3 : Int32) (t4 : Int32) (h : AH) (Q : Int32 → AH → Prop) : Prop :=
  vr h t0 12 (
  w_X12_length t0 t1 t2 t3 t4 h (fun x1 h =>
  vr h v2 12 (
  w_X12_thrown v2 h (fun x2 h =>
  br (x2 = v5) (
    br (v5 = 0) (
      aJ h v3 (0 : Int32) fun j3 =>
      br ((lg_cmp j3 x1.toInt64) = 0) (
        w_L_law__1919 xs L k v0 v1 v2 v3 v4 h Q) (
        Q (0 : Int32) h)) (
      w_L_law__1919 xs L k v0 v1 v2 v3 v4 h Q)) (
    Q (0 : Int32) h)))))
def w_L_law__1847 (xs : Nat → Int32) (L : Nat) (k : Int32 → AH → Prop) (v0 : Nat) (v1 : Nat) (v2 : Nat) (v3 : Nat) (v4 : Int32) (t0 : Nat) (t1 : Int32) (t2 : Int32) (t3 : Int32) (t4 : Int32) (h : AH) (Q : Int32 → AH → Prop) : Prop :=
  w_L_length t0 t1 t2 t3 t4 v3 h (fun x1 h =>
  xL xs L (v4 + (1 : Int32)) fun x2 =>
  xL xs L (v4 + (2 : Int32)) fun x3 =>
  xL xs L (v4 + (3 : Int32)) fun x4 =>
  xL xs L (v4 + (4 : Int32)) fun x5 =>
  br (x5 = 0) (
    w_L_law__1886 xs L k v0 v1 v2 v3 v4 x1 v2 x2 x3 x4 (0 : Int32) h Q) (
    w_L_law__1886 xs L k v0 v1 v2 v3 v4 x1 v2 x2 x3 x4 (1 : Int32) h Q))
def w_L_law__1814 (xs : Nat → Int32) (L : Nat) (k : Int32 → AH → Prop) (v0 : Nat) (v1 : Nat) (v2 : Nat) (v3 : Nat) (v4 : Int32) (h : AH) (Q : Int32 → AH → Prop) : Prop :=
  xL xs L (v4 + (1 : Int32)) fun x1 =>
  xL xs L (v4 + (2 : Int32)) fun x2 =>
  xL xs L (v4 + (3 : Int32)) fun x3 =>
  xL xs L (v4 + (4 : Int32)) fun x4 =>
  br (x4 = 0) (
    w_L_law__1847 xs L k v0 v1 v2 v3 v4 v1 x1 x2 x3 (0 : Int32) h Q) (
    w_L_law__1847 xs L k v0 v1 v2 v3 v4 v1 x1 x2 x3 (1 : Int32) h Q)
def w_L_law__1811 (xs : Nat → Int32) (L : Nat) (k : Int32 → AH → Prop) (v0 : Nat) (v1 : Nat) (v2 : Nat) (v3 : Nat) (v4 : Int32) (h : AH) (Q : Int32 → AH → Prop) : Prop :=
  w_L_law__2741 xs L k v0 v1 v2 v3 v4 h Q
def w_L_law__1778 (xs : Nat → Int32) (L : Nat) (k : Int32 → AH → Prop) (v0 : Nat) (v1 : Nat) (v2 : Nat) (v3 : Nat) (v4 : Int32) (v5 : Int32) (t0 : Nat) (t1 : Int32) (t2 : Int32) (h : AH) (Q : Int32 → AH → Prop) : Prop :=
  vr h t0 12 (
  w_X12_heaps t0 t1 t2 h (fun x1 h =>
  vr h v2 12 (
  w_X12_thrown v2 h (fun x2 h =>
  br (x2 = v5) (
    br (v5 = 0) (
      aJ h v3 (0 : Int32) fun j3 =>
      br ((lg_cmp j3 x1.toInt64) = 0) (
        w_L_law__1811 xs L k v0 v1 v2 v3 v4 h Q) (
        Q (0 : Int32) h)) (
      w_L_law__1811 xs L k v0 v1 v2 v3 v4 h Q)) (
    Q (0 : Int32) h)))))
def w_L_law__1751 (xs : Nat → Int32) (L : Nat) (k : Int32 → AH → Prop) (v0 : Nat) (v1 : Nat) (v2 : Nat) (v3 : Nat) (v4 : Int32) (t0 : Nat) (t1 : Int32) (t2 : Int32) (h : AH) (Q : Int32 → AH → Prop) : Prop :=
  w_L_heaps t0 t1 t2 v3 h (fun x1 h =>
  xL xs L (v4 + (1 : Int32)) fun x2 =>
  xL xs L (v4 + (2 : Int32)) fun x3 =>
  br (x3 = 0) (
    w_L_law__1778 xs L k v0 v1 v2 v3 v4 x1 v2 x2 (0 : Int32) h Q) (
    w_L_law__1778 xs L k v0 v1 v2 v3 v4 x1 v2 x2 (1 : Int32) h Q))
def w_L_law__1730 (xs : Nat → Int32) (L : Nat) (k : Int32 → AH → Prop) (v0 : Nat) (v1 : Nat) (v2 : Nat) (v3 : Nat) (v4 : Int32) (h : AH) (Q : Int32 → AH → Prop) : Prop :=
  xL xs L (v4 + (1 : Int32)) fun x1 =>
  xL xs L (v4 + (2 : Int32)) fun x2 =>
  br (x2 = 0) (
    w_L_law__1751 xs L k v0 v1 v2 v3 v4 v1 x1 (0 : Int32) h Q) (
    w_L_law__1751 xs L k v0 v1 v2 v3 v4 v1 x1 (1 : Int32) h Q)
def w_L_law__1727 (xs : Nat → Int32) (L : Nat) (k : Int32 → AH → Prop) (v0 : Nat) (v1 : Nat) (v2 : Nat) (v3 : Nat) (v4 : Int32) (h : AH) (Q : Int32 → AH → Prop) : Prop :=
  w_L_law__2741 xs L k v0 v1 v2 v3 v4 h Q
def w_L_law__1694 (xs : Nat → Int32) (L : Nat) (k : Int32 → AH → Prop) (v0 : Nat) (v1 : Nat) (v2 : Nat) (v3 : Nat) (v4 : Int32) (v5 : Int32) (t0 : Nat) (t1 : Int32) (t2 : Int32) (t3 : Int32) (t4 : Int32) (h : AH) (Q : Int32 → AH → Prop) : Prop :=
  vr h t0 12 (
  w_X12_held t0 t1 t2 t3 t4 h (fun x1 h =>
  vr h v2 12 (
  w_X12_thrown v2 h (fun x2 h =>
  br (x2 = v5) (
    br (v5 = 0) (
      aJ h v3 (0 : Int32) fun j3 =>
      br ((lg_cmp j3 x1.toInt64) = 0) (
        w_L_law__1727 xs L k v0 v1 v2 v3 v4 h Q) (
        Q (0 : Int32) h)) (
      w_L_law__1727 xs L k v0 v1 v2 v3 v4 h Q)) (
    Q (0 : Int32) h)))))
def w_L_law__1655 (xs : Nat → Int32) (L : Nat) (k : Int32 → AH → Prop) (v0 : Nat) (v1 : Nat) (v2 : Nat) (v3 : Nat) (v4 : Int32) (t0 : Nat) (t1 : Int32) (t2 : Int32) (t3 : Int32) (t4 : Int32) (h : AH) (Q : Int32 → AH → Prop) : Prop :=
  w_L_held t0 t1 t2 t3 t4 v3 h (fun x1 h =>
  xL xs L (v4 + (1 : Int32)) fun x2 =>
  xL xs L (v4 + (2 : Int32)) fun x3 =>
  xL xs L (v4 + (3 : Int32)) fun x4 =>
  xL xs L (v4 + (4 : Int32)) fun x5 =>
  br (x5 = 0) (
    w_L_law__1694 xs L k v0 v1 v2 v3 v4 x1 v2 x2 x3 x4 (0 : Int32) h Q) (
    w_L_law__1694 xs L k v0 v1 v2 v3 v4 x1 v2 x2 x3 x4 (1 : Int32) h Q))
def w_L_law__1622 (xs : Nat → Int32) (L : Nat) (k : Int32 → AH → Prop) (v0 : Nat) (v1 : Nat) (v2 : Nat) (v3 : Nat) (v4 : Int32) (h : AH) (Q : Int32 → AH → Prop) : Prop :=
  xL xs L (v4 + (1 : Int32)) fun x1 =>
  xL xs L (v4 + (2 : Int32)) fun x2 =>
  xL xs L (v4 + (3 : Int32)) fun x3 =>
  xL xs L (v4 + (4 : Int32)) fun x4 =>
  br (x4 = 0) (
    w_L_law__1655 xs L k v0 v1 v2 v3 v4 v1 x1 x2 x3 (0 : Int32) h Q) (
    w_L_law__1655 xs L k v0 v1 v2 v3 v4 v1 x1 x2 x3 (1 : Int32) h Q)
def w_L_law__1619 (xs : Nat → Int32) (L : Nat) (k : Int32 → AH → Prop) (v0 : Nat) (v1 : Nat) (v2 : Nat) (v3 : Nat) (v4 : Int32) (h : AH) (Q : Int32 → AH → Prop) : Prop :=
  w_L_law__2741 xs L k v0 v1 v2 v3 v4 h Q
def w_L_law__1554 (xs : Nat → Int32) (L : Nat) (k : Int32 → AH → Prop) (v0 : Nat) (v1 : Nat) (v2 : Nat) (v3 : Nat) (v4 : Int32) (h : AH) (Q : Int32 → AH → Prop) : Prop :=
  xL xs L (v4 + (1 : Int32)) fun x1 =>
  xL xs L (v4 + (2 : Int32)) fun x2 =>
  w_L_way v1 x1 x2 v3 h (fun x3 h =>
  xL xs L (v4 + (1 : Int32)) fun x4 =>
  xL xs L (v4 + (2 : Int32)) fun x5 =>
  vr h v2 12 (
  w_X12_way v2 x4 x5 h (fun x6 h =>
  vr h v2 12 (
  w_X12_thrown v2 h (fun x7 h =>
  br (x7 = x3) (
    br (x3 = 0) (
      aJ h v3 (0 : Int32) fun j8 =>
      br ((lg_cmp j8 x6.toInt64) = 0) (
        w_L_law__1619 xs L k v0 v1 v2 v3 v4 h Q) (
        Q (0 : Int32) h)) (
      w_L_law__1619 xs L k v0 v1 v2 v3 v4 h Q)) (
    Q (0 : Int32) h))))))
def w_L_law__1551 (xs : Nat → Int32) (L : Nat) (k : Int32 → AH → Prop) (v0 : Nat) (v1 : Nat) (v2 : Nat) (v3 : Nat) (v4 : Int32) (h : AH) (Q : Int32 → AH → Prop) : Prop :=
  w_L_law__2741 xs L k v0 v1 v2 v3 v4 h Q
def w_L_law__1498 (xs : Nat → Int32) (L : Nat) (k : Int32 → AH → Prop) (v0 : Nat) (v1 : Nat) (v2 : Nat) (v3 : Nat) (v4 : Int32) (h : AH) (Q : Int32 → AH → Prop) : Prop :=
  xL xs L (v4 + (1 : Int32)) fun x1 =>
  w_L_later v1 x1 v3 h (fun x2 h =>
  xL xs L (v4 + (1 : Int32)) fun x3 =>
  vr h v2 12 (
  w_X12_later v2 x3 h (fun x4 h =>
  vr h v2 12 (
  w_X12_thrown v2 h (fun x5 h =>
  br (x5 = x2) (
    br (x2 = 0) (
      aJ h v3 (0 : Int32) fun j6 =>
      br ((lg_cmp j6 x4.toInt64) = 0) (
        w_L_law__1551 xs L k v0 v1 v2 v3 v4 h Q) (
        Q (0 : Int32) h)) (
      w_L_law__1551 xs L k v0 v1 v2 v3 v4 h Q)) (
    Q (0 : Int32) h))))))
def w_L_law__1495 (xs : Nat → Int32) (L : Nat) (k : Int32 → AH → Prop) (v0 : Nat) (v1 : Nat) (v2 : Nat) (v3 : Nat) (v4 : Int32) (h : AH) (Q : Int32 → AH → Prop) : Prop :=
  w_L_law__2741 xs L k v0 v1 v2 v3 v4 h Q
def w_L_law__1418 (xs : Nat → Int32) (L : Nat) (k : Int32 → AH → Prop) (v0 : Nat) (v1 : Nat) (v2 : Nat) (v3 : Nat) (v4 : Int32) (h : AH) (Q : Int32 → AH → Prop) : Prop :=
  xL xs L (v4 + (1 : Int32)) fun x1 =>
  xL xs L (v4 + (2 : Int32)) fun x2 =>
  xL xs L (v4 + (3 : Int32)) fun x3 =>
  w_L_same v1 x1 x2 x3 v3 h (fun x4 h =>
  xL xs L (v4 + (1 : Int32)) fun x5 =>
  xL xs L (v4 + (2 : Int32)) fun x6 =>
  xL xs L (v4 + (3 : Int32)) fun x7 =>
  vr h v2 12 (
  w_X12_same v2 x5 x6 x7 h (fun x8 h =>
  vr h v2 12 (
  w_X12_thrown v2 h (fun x9 h =>
  br (x9 = x4) (
    br (x4 = 0) (
      aJ h v3 (0 : Int32) fun j10 =>
      br ((lg_cmp j10 x8.toInt64) = 0) (
        w_L_law__1495 xs L k v0 v1 v2 v3 v4 h Q) (
        Q (0 : Int32) h)) (
      w_L_law__1495 xs L k v0 v1 v2 v3 v4 h Q)) (
    Q (0 : Int32) h))))))
def w_L_law__1415 (xs : Nat → Int32) (L : Nat) (k : Int32 → AH → Prop) (v0 : Nat) (v1 : Nat) (v2 : Nat) (v3 : Nat) (v4 : Int32) (h : AH) (Q : Int32 → AH → Prop) : Prop :=
  w_L_law__2741 xs L k v0 v1 v2 v3 v4 h Q
def w_L_law__1350 (xs : Nat → Int32) (L : Nat) (k : Int32 → AH → Prop) (v0 : Nat) (v1 : Nat) (v2 : Nat) (v3 : Nat) (v4 : Int32) (h : AH) (Q : Int32 → AH → Prop) : Prop :=
  xL xs L (v4 + (1 : Int32)) fun x1 =>
  xL xs L (v4 + (2 : Int32)) fun x2 =>
  w_L_needed v1 x1 x2 v3 h (fun x3 h =>
  xL xs L (v4 + (1 : Int32)) fun x4 =>
  xL xs L (v4 + (2 : Int32)) fun x5 =>
  vr h v2 12 (
  w_X12_needed v2 x4 x5 h (fun x6 h =>
  vr h v2 12 (
  w_X12_thrown v2 h (fun x7 h =>
  br (x7 = x3) (
    br (x3 = 0) (
      aJ h v3 (0 : Int32) fun j8 =>
      br ((lg_cmp j8 x6.toInt64) = 0) (
        w_L_law__1415 xs L k v0 v1 v2 v3 v4 h Q) (
        Q (0 : Int32) h)) (
      w_L_law__1415 xs L k v0 v1 v2 v3 v4 h Q)) (
    Q (0 : Int32) h))))))
def w_L_law__1337 (xs : Nat → Int32) (L : Nat) (k : Int32 → AH → Prop) (v0 : Nat) (v1 : Nat) (v2 : Nat) (v3 : Nat) (v4 : Int32) (h : AH) (Q : Int32 → AH → Prop) : Prop :=
  vr h v1 11 (
  w_X11_next v1 h (fun x1 h =>
  vr h v2 12 (
  w_X12_next v2 h (fun x2 h =>
  br (x1 = x2) (
    w_L_law__2741 xs L k v0 v1 v2 v3 v4 h Q) (
    Q (0 : Int32) h)))))
def w_L_law__1334 (xs : Nat → Int32) (L : Nat) (k : Int32 → AH → Prop) (v0 : Nat) (v1 : Nat) (v2 : Nat) (v3 : Nat) (v4 : Int32) (h : AH) (Q : Int32 → AH → Prop) : Prop :=
  w_L_law__2741 xs L k v0 v1 v2 v3 v4 h Q
def w_L_law__1281 (xs : Nat → Int32) (L : Nat) (k : Int32 → AH → Prop) (v0 : Nat) (v1 : Nat) (v2 : Nat) (v3 : Nat) (v4 : Int32) (h : AH) (Q : Int32 → AH → Prop) : Prop :=
  xL xs L (v4 + (1 : Int32)) fun x1 =>
  w_L_walk v1 x1 v3 h (fun x2 h =>
  xL xs L (v4 + (1 : Int32)) fun x3 =>
  vr h v2 12 (
  w_X12_walk v2 x3 h (fun x4 h =>
  vr h v2 12 (
  w_X12_thrown v2 h (fun x5 h =>
  br (x5 = x2) (
    br (x2 = 0) (
      aJ h v3 (0 : Int32) fun j6 =>
      br ((lg_cmp j6 x4.toInt64) = 0) (
        w_L_law__1334 xs L k v0 v1 v2 v3 v4 h Q) (
        Q (0 : Int32) h)) (
      w_L_law__1334 xs L k v0 v1 v2 v3 v4 h Q)) (
    Q (0 : Int32) h))))))
def w_L_law__1233 (xs : Nat → Int32) (L : Nat) (k : Int32 → AH → Prop) (v0 : Nat) (v1 : Nat) (v2 : Nat) (v3 : Nat) (v4 : Int32) (h : AH) (Q : Int32 → AH → Prop) : Prop :=
  xL xs L (v4 + (1 : Int32)) fun x1 =>
  xL xs L (v4 + (2 : Int32)) fun x2 =>
  w_L_machine v1 x1 x2 h (fun x3 h =>
  xL xs L (v4 + (1 : Int32)) fun x4 =>
  xL xs L (v4 + (2 : Int32)) fun x5 =>
  vr h v2 12 (
  w_X12_machine v2 x4 x5 h (fun h =>
  vr h v2 12 (
  w_X12_thrown v2 h (fun x6 h =>
  br (x6 = x3) (
    w_L_law__2741 xs L k v0 v1 v2 v3 v4 h Q) (
    Q (0 : Int32) h))))))
def w_L_law__1173 (xs : Nat → Int32) (L : Nat) (k : Int32 → AH → Prop) (v0 : Nat) (v1 : Nat) (v2 : Nat) (v3 : Nat) (v4 : Int32) (h : AH) (Q : Int32 → AH → Prop) : Prop :=
  xL xs L (v4 + (1 : Int32)) fun x1 =>
  xL xs L (v4 + (2 : Int32)) fun x2 =>
  xL xs L (v4 + (3 : Int32)) fun x3 =>
  w_L_when v1 x1 x2 x3 h (fun x4 h =>
  xL xs L (v4 + (1 : Int32)) fun x5 =>
  xL xs L (v4 + (2 : Int32)) fun x6 =>
  xL xs L (v4 + (3 : Int32)) fun x7 =>
  vr h v2 12 (
  w_X12_when v2 x5 x6 x7 h (fun h =>
  vr h v2 12 (
  w_X12_thrown v2 h (fun x8 h =>
  br (x8 = x4) (
    w_L_law__2741 xs L k v0 v1 v2 v3 v4 h Q) (
    Q (0 : Int32) h))))))
def w_L_law__1170 (xs : Nat → Int32) (L : Nat) (k : Int32 → AH → Prop) (v0 : Nat) (v1 : Nat) (v2 : Nat) (v3 : Nat) (v4 : Int32) (h : AH) (Q : Int32 → AH → Prop) : Prop :=
  w_L_law__2741 xs L k v0 v1 v2 v3 v4 h Q
def w_L_law__1105 (xs : Nat → Int32) (L : Nat) (k : Int32 → AH → Prop) (v0 : Nat) (v1 : Nat) (v2 : Nat) (v3 : Nat) (v4 : Int32) (h : AH) (Q : Int32 → AH → Prop) : Prop :=
  xL xs L (v4 + (1 : Int32)) fun x1 =>
  xL xs L (v4 + (2 : Int32)) fun x2 =>
  w_L_about v1 x1 x2 v3 h (fun x3 h =>
  xL xs L (v4 + (1 : Int32)) fun x4 =>
  xL xs L (v4 + (2 : Int32)) fun x5 =>
  vr h v2 12 (
  w_X12_about v2 x4 x5 h (fun x6 h =>
  vr h v2 12 (
  w_X12_thrown v2 h (fun x7 h =>
  br (x7 = x3) (
    br (x3 = 0) (
      aJ h v3 (0 : Int32) fun j8 =>
      br ((lg_cmp j8 x6.toInt64) = 0) (
        w_L_law__1170 xs L k v0 v1 v2 v3 v4 h Q) (
        Q (0 : Int32) h)) (
      w_L_law__1170 xs L k v0 v1 v2 v3 v4 h Q)) (
    Q (0 : Int32) h))))))
def w_L_law__1102 (xs : Nat → Int32) (L : Nat) (k : Int32 → AH → Prop) (v0 : Nat) (v1 : Nat) (v2 : Nat) (v3 : Nat) (v4 : Int32) (h : AH) (Q : Int32 → AH → Prop) : Prop :=
  w_L_law__2741 xs L k v0 v1 v2 v3 v4 h Q
def w_L_law__1013 (xs : Nat → Int32) (L : Nat) (k : Int32 → AH → Prop) (v0 : Nat) (v1 : Nat) (v2 : Nat) (v3 : Nat) (v4 : Int32) (h : AH) (Q : Int32 → AH → Prop) : Prop :=
  xL xs L (v4 + (1 : Int32)) fun x1 =>
  xL xs L (v4 + (2 : Int32)) fun x2 =>
  xL xs L (v4 + (3 : Int32)) fun x3 =>
  xL xs L (v4 + (4 : Int32)) fun x4 =>
  w_L_other v1 x1 x2 x3 x4 v3 h (fun x5 h =>
  xL xs L (v4 + (1 : Int32)) fun x6 =>
  xL xs L (v4 + (2 : Int32)) fun x7 =>
  xL xs L (v4 + (3 : Int32)) fun x8 =>
  xL xs L (v4 + (4 : Int32)) fun x9 =>
  vr h v2 12 (
  w_X12_other v2 x6 x7 x8 x9 h (fun x10 h =>
  vr h v2 12 (
  w_X12_thrown v2 h (fun x11 h =>
  br (x11 = x5) (
    br (x5 = 0) (
      aJ h v3 (0 : Int32) fun j12 =>
      br ((lg_cmp j12 x10.toInt64) = 0) (
        w_L_law__1102 xs L k v0 v1 v2 v3 v4 h Q) (
        Q (0 : Int32) h)) (
      w_L_law__1102 xs L k v0 v1 v2 v3 v4 h Q)) (
    Q (0 : Int32) h))))))
def w_L_law__1010 (xs : Nat → Int32) (L : Nat) (k : Int32 → AH → Prop) (v0 : Nat) (v1 : Nat) (v2 : Nat) (v3 : Nat) (v4 : Int32) (h : AH) (Q : Int32 → AH → Prop) : Prop :=
  w_L_law__2741 xs L k v0 v1 v2 v3 v4 h Q
def w_L_law__933 (xs : Nat → Int32) (L : Nat) (k : Int32 → AH → Prop) (v0 : Nat) (v1 : Nat) (v2 : Nat) (v3 : Nat) (v4 : Int32) (h : AH) (Q : Int32 → AH → Prop) : Prop :=
  xL xs L (v4 + (1 : Int32)) fun x1 =>
  xL xs L (v4 + (2 : Int32)) fun x2 =>
  xL xs L (v4 + (3 : Int32)) fun x3 =>
  w_L_found v1 x1 x2 x3 v3 h (fun x4 h =>
  xL xs L (v4 + (1 : Int32)) fun x5 =>
  xL xs L (v4 + (2 : Int32)) fun x6 =>
  xL xs L (v4 + (3 : Int32)) fun x7 =>
  vr h v2 12 (
  w_X12_found v2 x5 x6 x7 h (fun x8 h =>
  vr h v2 12 (
  w_X12_thrown v2 h (fun x9 h =>
  br (x9 = x4) (
    br (x4 = 0) (
      aJ h v3 (0 : Int32) fun j10 =>
      br ((lg_cmp j10 x8.toInt64) = 0) (
        w_L_law__1010 xs L k v0 v1 v2 v3 v4 h Q) (
        Q (0 : Int32) h)) (
      w_L_law__1010 xs L k v0 v1 v2 v3 v4 h Q)) (
    Q (0 : Int32) h))))))
def w_L_law__930 (xs : Nat → Int32) (L : Nat) (k : Int32 → AH → Prop) (v0 : Nat) (v1 : Nat) (v2 : Nat) (v3 : Nat) (v4 : Int32) (h : AH) (Q : Int32 → AH → Prop) : Prop :=
  w_L_law__2741 xs L k v0 v1 v2 v3 v4 h Q
def w_L_law__877 (xs : Nat → Int32) (L : Nat) (k : Int32 → AH → Prop) (v0 : Nat) (v1 : Nat) (v2 : Nat) (v3 : Nat) (v4 : Int32) (h : AH) (Q : Int32 → AH → Prop) : Prop :=
  xL xs L (v4 + (1 : Int32)) fun x1 =>
  w_L_run v1 x1 v3 h (fun x2 h =>
  xL xs L (v4 + (1 : Int32)) fun x3 =>
  vr h v2 12 (
  w_X12_run v2 x3 h (fun x4 h =>
  vr h v2 12 (
  w_X12_thrown v2 h (fun x5 h =>
  br (x5 = x2) (
    br (x2 = 0) (
      aJ h v3 (0 : Int32) fun j6 =>
      br ((lg_cmp j6 x4.toInt64) = 0) (
        w_L_law__930 xs L k v0 v1 v2 v3 v4 h Q) (
        Q (0 : Int32) h)) (
      w_L_law__930 xs L k v0 v1 v2 v3 v4 h Q)) (
    Q (0 : Int32) h))))))
def w_L_law__854 (xs : Nat → Int32) (L : Nat) (k : Int32 → AH → Prop) (v0 : Nat) (v1 : Nat) (v2 : Nat) (v3 : Nat) (v4 : Int32) (h : AH) (Q : Int32 → AH → Prop) : Prop :=
  xL xs L (v4 + (1 : Int32)) fun x1 =>
  vr h v1 11 (
  w_X11_seed v1 x1 h (fun h =>
  xL xs L (v4 + (1 : Int32)) fun x2 =>
  vr h v2 12 (
  w_X12_seed v2 x2 h (fun h =>
  w_L_law__2741 xs L k v0 v1 v2 v3 v4 h Q))))
def w_L_law__851 (xs : Nat → Int32) (L : Nat) (k : Int32 → AH → Prop) (v0 : Nat) (v1 : Nat) (v2 : Nat) (v3 : Nat) (v4 : Int32) (h : AH) (Q : Int32 → AH → Prop) : Prop :=
  w_L_law__2741 xs L k v0 v1 v2 v3 v4 h Q
def w_L_law__786 (xs : Nat → Int32) (L : Nat) (k : Int32 → AH → Prop) (v0 : Nat) (v1 : Nat) (v2 : Nat) (v3 : Nat) (v4 : Int32) (h : AH) (Q : Int32 → AH → Prop) : Prop :=
  xL xs L (v4 + (1 : Int32)) fun x1 =>
  xL xs L (v4 + (2 : Int32)) fun x2 =>
  w_L_look v1 x1 x2 v3 h (fun x3 h =>
  xL xs L (v4 + (1 : Int32)) fun x4 =>
  xL xs L (v4 + (2 : Int32)) fun x5 =>
  vr h v2 12 (
  w_X12_look v2 x4 x5 h (fun x6 h =>
  vr h v2 12 (
  w_X12_thrown v2 h (fun x7 h =>
  br (x7 = x3) (
    br (x3 = 0) (
      aJ h v3 (0 : Int32) fun j8 =>
      br ((lg_cmp j8 x6.toInt64) = 0) (
        w_L_law__851 xs L k v0 v1 v2 v3 v4 h Q) (
        Q (0 : Int32) h)) (
      w_L_law__851 xs L k v0 v1 v2 v3 v4 h Q)) (
    Q (0 : Int32) h))))))
def w_L_law__783 (xs : Nat → Int32) (L : Nat) (k : Int32 → AH → Prop) (v0 : Nat) (v1 : Nat) (v2 : Nat) (v3 : Nat) (v4 : Int32) (h : AH) (Q : Int32 → AH → Prop) : Prop :=
  w_L_law__2741 xs L k v0 v1 v2 v3 v4 h Q
def w_L_law__694 (xs : Nat → Int32) (L : Nat) (k : Int32 → AH → Prop) (v0 : Nat) (v1 : Nat) (v2 : Nat) (v3 : Nat) (v4 : Int32) (h : AH) (Q : Int32 → AH → Prop) : Prop :=
  xL xs L (v4 + (1 : Int32)) fun x1 =>
  xL xs L (v4 + (2 : Int32)) fun x2 =>
  xL xs L (v4 + (3 : Int32)) fun x3 =>
  xL xs L (v4 + (4 : Int32)) fun x4 =>
  w_L_person v1 x1 x2 x3 x4 v3 h (fun x5 h =>
  xL xs L (v4 + (1 : Int32)) fun x6 =>
  xL xs L (v4 + (2 : Int32)) fun x7 =>
  xL xs L (v4 + (3 : Int32)) fun x8 =>
  xL xs L (v4 + (4 : Int32)) fun x9 =>
  vr h v2 12 (
  w_X12_person v2 x6 x7 x8 x9 h (fun x10 h =>
  vr h v2 12 (
  w_X12_thrown v2 h (fun x11 h =>
  br (x11 = x5) (
    br (x5 = 0) (
      aJ h v3 (0 : Int32) fun j12 =>
      br ((lg_cmp j12 x10.toInt64) = 0) (
        w_L_law__783 xs L k v0 v1 v2 v3 v4 h Q) (
        Q (0 : Int32) h)) (
      w_L_law__783 xs L k v0 v1 v2 v3 v4 h Q)) (
    Q (0 : Int32) h))))))
def w_L_law__681 (xs : Nat → Int32) (L : Nat) (k : Int32 → AH → Prop) (v0 : Nat) (v1 : Nat) (v2 : Nat) (v3 : Nat) (v4 : Int32) (h : AH) (Q : Int32 → AH → Prop) : Prop :=
  vr h v1 11 (
  w_X11_fault v1 h (fun x1 h =>
  vr h v2 12 (
  w_X12_fault v2 h (fun x2 h =>
  br (x1 = x2) (
    w_L_law__2741 xs L k v0 v1 v2 v3 v4 h Q) (
    Q (0 : Int32) h)))))
def w_L_law__678 (xs : Nat → Int32) (L : Nat) (k : Int32 → AH → Prop) (v0 : Nat) (v1 : Nat) (v2 : Nat) (v3 : Nat) (v4 : Int32) (h : AH) (Q : Int32 → AH → Prop) : Prop :=
  w_L_law__2741 xs L k v0 v1 v2 v3 v4 h Q
def w_L_law__637 (xs : Nat → Int32) (L : Nat) (k : Int32 → AH → Prop) (v0 : Nat) (v1 : Nat) (v2 : Nat) (v3 : Nat) (v4 : Int32) (h : AH) (Q : Int32 → AH → Prop) : Prop :=
  w_L_law v1 v3 h (fun x1 h =>
  vr h v2 12 (
  w_X12_law v2 h (fun x2 h =>
  vr h v2 12 (
  w_X12_thrown v2 h (fun x3 h =>
  br (x3 = x1) (
    br (x1 = 0) (
      aJ h v3 (0 : Int32) fun j4 =>
      br ((lg_cmp j4 x2.toInt64) = 0) (
        w_L_law__678 xs L k v0 v1 v2 v3 v4 h Q) (
        Q (0 : Int32) h)) (
      w_L_law__678 xs L k v0 v1 v2 v3 v4 h Q)) (
    Q (0 : Int32) h))))))
def w_L_law__601 (xs : Nat → Int32) (L : Nat) (k : Int32 → AH → Prop) (v0 : Nat) (v1 : Nat) (v2 : Nat) (v3 : Nat) (v4 : Int32) (h : AH) (Q : Int32 → AH → Prop) : Prop :=
  xL xs L (v4 + (1 : Int32)) fun x1 =>
  w_L_day v1 x1 h (fun x2 h =>
  xL xs L (v4 + (1 : Int32)) fun x3 =>
  vr h v2 12 (
  w_X12_day v2 x3 h (fun h =>
  vr h v2 12 (
  w_X12_thrown v2 h (fun x4 h =>
  br (x4 = x2) (
    w_L_law__2741 xs L k v0 v1 v2 v3 v4 h Q) (
    Q (0 : Int32) h))))))
def w_L_law__598 (xs : Nat → Int32) (L : Nat) (k : Int32 → AH → Prop) (v0 : Nat) (v1 : Nat) (v2 : Nat) (v3 : Nat) (v4 : Int32) (h : AH) (Q : Int32 → AH → Prop) : Prop :=
  w_L_law__2741 xs L k v0 v1 v2 v3 v4 h Q
def w_L_law__509 (xs : Nat → Int32) (L : Nat) (k : Int32 → AH → Prop) (v0 : Nat) (v1 : Nat) (v2 : Nat) (v3 : Nat) (v4 : Int32) (h : AH) (Q : Int32 → AH → Prop) : Prop :=
  xL xs L (v4 + (1 : Int32)) fun x1 =>
  xL xs L (v4 + (2 : Int32)) fun x2 =>
  xL xs L (v4 + (3 : Int32)) fun x3 =>
  xL xs L (v4 + (4 : Int32)) fun x4 =>
  w_L_gun v1 x1 x2 x3 x4 v3 h (fun x5 h =>
  xL xs L (v4 + (1 : Int32)) fun x6 =>
  xL xs L (v4 + (2 : Int32)) fun x7 =>
  xL xs L (v4 + (3 : Int32)) fun x8 =>
  xL xs L (v4 + (4 : Int32)) fun x9 =>
  vr h v2 12 (
  w_X12_gun v2 x6 x7 x8 x9 h (fun x10 h =>
  vr h v2 12 (
  w_X12_thrown v2 h (fun x11 h =>
  br (x11 = x5) (
    br (x5 = 0) (
      aJ h v3 (0 : Int32) fun j12 =>
      br ((lg_cmp j12 x10.toInt64) = 0) (
        w_L_law__598 xs L k v0 v1 v2 v3 v4 h Q) (
        Q (0 : Int32) h)) (
      w_L_law__598 xs L k v0 v1 v2 v3 v4 h Q)) (
    Q (0 : Int32) h))))))
def w_L_law__506 (xs : Nat → Int32) (L : Nat) (k : Int32 → AH → Prop) (v0 : Nat) (v1 : Nat) (v2 : Nat) (v3 : Nat) (v4 : Int32) (h : AH) (Q : Int32 → AH → Prop) : Prop :=
  w_L_law__2741 xs L k v0 v1 v2 v3 v4 h Q
def w_L_law__500 (xs : Nat → Int32) (L : Nat) (k : Int32 → AH → Prop) (v0 : Nat) (v1 : Nat) (v2 : Nat) (v3 : Nat) (v4 : Int32) (t0 : Int64) (t1 : Int64) (h : AH) (Q : Int32 → AH → Prop) : Prop :=
  br ((lg_cmp t0 t1) = 0) (
    w_L_law__506 xs L k v0 v1 v2 v3 v4 h Q) (
    Q (0 : Int32) h)
def w_L_law__434 (xs : Nat → Int32) (L : Nat) (k : Int32 → AH → Prop) (v0 : Nat) (v1 : Nat) (v2 : Nat) (v3 : Nat) (v4 : Int32) (h : AH) (Q : Int32 → AH → Prop) : Prop :=
  xL xs L (v4 + (1 : Int32)) fun x1 =>
  xL xs L (v4 + (2 : Int32)) fun x2 =>
  w_L_sees v1 x1 x2 v3 h (fun x3 h =>
  xL xs L (v4 + (1 : Int32)) fun x4 =>
  xL xs L (v4 + (2 : Int32)) fun x5 =>
  vr h v2 12 (
  w_X12_sees v2 x4 x5 h (fun x6 h =>
  vr h v2 12 (
  w_X12_thrown v2 h (fun x7 h =>
  br (x7 = x3) (
    br (x3 = 0) (
      aJ h v3 (0 : Int32) fun j8 =>
      br (x6 = 0) (
        w_L_law__500 xs L k v0 v1 v2 v3 v4 j8 ((0 : Int64)) h Q) (
        w_L_law__500 xs L k v0 v1 v2 v3 v4 j8 ((1 : Int64)) h Q)) (
      w_L_law__506 xs L k v0 v1 v2 v3 v4 h Q)) (
    Q (0 : Int32) h))))))
def w_L_law__431 (xs : Nat → Int32) (L : Nat) (k : Int32 → AH → Prop) (v0 : Nat) (v1 : Nat) (v2 : Nat) (v3 : Nat) (v4 : Int32) (h : AH) (Q : Int32 → AH → Prop) : Prop :=
  w_L_law__2741 xs L k v0 v1 v2 v3 v4 h Q
def w_L_law__378 (xs : Nat → Int32) (L : Nat) (k : Int32 → AH → Prop) (v0 : Nat) (v1 : Nat) (v2 : Nat) (v3 : Nat) (v4 : Int32) (h : AH) (Q : Int32 → AH → Prop) : Prop :=
  xL xs L (v4 + (1 : Int32)) fun x1 =>
  w_L_height v1 x1 v3 h (fun x2 h =>
  xL xs L (v4 + (1 : Int32)) fun x3 =>
  vr h v2 12 (
  w_X12_height v2 x3 h (fun x4 h =>
  vr h v2 12 (
  w_X12_thrown v2 h (fun x5 h =>
  br (x5 = x2) (
    br (x2 = 0) (
      aJ h v3 (0 : Int32) fun j6 =>
      br ((lg_cmp j6 x4.toInt64) = 0) (
        w_L_law__431 xs L k v0 v1 v2 v3 v4 h Q) (
        Q (0 : Int32) h)) (
      w_L_law__431 xs L k v0 v1 v2 v3 v4 h Q)) (
    Q (0 : Int32) h))))))
def w_L_law__318 (xs : Nat → Int32) (L : Nat) (k : Int32 → AH → Prop) (v0 : Nat) (v1 : Nat) (v2 : Nat) (v3 : Nat) (v4 : Int32) (h : AH) (Q : Int32 → AH → Prop) : Prop :=
  xL xs L (v4 + (1 : Int32)) fun x1 =>
  xL xs L (v4 + (2 : Int32)) fun x2 =>
  xL xs L (v4 + (3 : Int32)) fun x3 =>
  w_L_ground v1 x1 x2 x3 h (fun x4 h =>
  xL xs L (v4 + (1 : Int32)) fun x5 =>
  xL xs L (v4 + (2 : Int32)) fun x6 =>
  xL xs L (v4 + (3 : Int32)) fun x7 =>
  vr h v2 12 (
  w_X12_ground v2 x5 x6 x7 h (fun h =>
  vr h v2 12 (
  w_X12_thrown v2 h (fun x8 h =>
  br (x8 = x4) (
    w_L_law__2741 xs L k v0 v1 v2 v3 v4 h Q) (
    Q (0 : Int32) h))))))
def w_L_law__293 (xs : Nat → Int32) (L : Nat) (k : Int32 → AH → Prop) (v0 : Nat) (v1 : Nat) (v2 : Nat) (v3 : Nat) (v4 : Int32) (h : AH) (Q : Int32 → AH → Prop) : Prop :=
  xL xs L (v4 + (1 : Int32)) fun x1 =>
  vr h v1 11 (
  w_X11_end v1 x1 h (fun x2 h =>
  xL xs L (v4 + (1 : Int32)) fun x3 =>
  vr h v2 12 (
  w_X12_end v2 x3 h (fun x4 h =>
  br (x2 = x4) (
    w_L_law__2741 xs L k v0 v1 v2 v3 v4 h Q) (
    Q (0 : Int32) h)))))
def w_L_law__220 (xs : Nat → Int32) (L : Nat) (k : Int32 → AH → Prop) (v0 : Nat) (v1 : Nat) (v2 : Nat) (v3 : Nat) (v4 : Int32) (h : AH) (Q : Int32 → AH → Prop) : Prop :=
  xL xs L (v4 + (1 : Int32)) fun x1 =>
  xL xs L (v4 + (2 : Int32)) fun x2 =>
  xL xs L (v4 + (3 : Int32)) fun x3 =>
  xL xs L (v4 + (4 : Int32)) fun x4 =>
  xL xs L (v4 + (5 : Int32)) fun x5 =>
  vr h v1 11 (
  w_X11_feed v1 x1 x2 x3 x4 x5 h (fun x6 h =>
  xL xs L (v4 + (1 : Int32)) fun x7 =>
  xL xs L (v4 + (2 : Int32)) fun x8 =>
  xL xs L (v4 + (3 : Int32)) fun x9 =>
  xL xs L (v4 + (4 : Int32)) fun x10 =>
  xL xs L (v4 + (5 : Int32)) fun x11 =>
  vr h v2 12 (
  w_X12_feed v2 x7 x8 x9 x10 x11 h (fun x12 h =>
  br (x6 = x12) (
    w_L_law__2741 xs L k v0 v1 v2 v3 v4 h Q) (
    Q (0 : Int32) h)))))
def w_L_law__23 (xs : Nat → Int32) (L : Nat) (k : Int32 → AH → Prop) (v0 : Nat) (v1 : Nat) (v2 : Nat) (v3 : Nat) (v4 : Int32) (h : AH) (Q : Int32 → AH → Prop) : Prop :=
  br (((Int32.ofNat L) - (6 : Int32)) < v4) (
    Q (1 : Int32) h) (
    xL xs L v4 fun x1 =>
    br ((x1 &&& (63 : Int32)) = 0) (
        w_L_law__220 xs L k v0 v1 v2 v3 v4 h Q) (
    br ((x1 &&& (63 : Int32)) = 1) (
        w_L_law__293 xs L k v0 v1 v2 v3 v4 h Q) (
    br ((x1 &&& (63 : Int32)) = 2) (
        w_L_law__318 xs L k v0 v1 v2 v3 v4 h Q) (
    br ((x1 &&& (63 : Int32)) = 3) (
        w_L_law__378 xs L k v0 v1 v2 v3 v4 h Q) (
    br ((x1 &&& (63 : Int32)) = 4) (
        w_L_law__434 xs L k v0 v1 v2 v3 v4 h Q) (
    br ((x1 &&& (63 : Int32)) = 5) (
        w_L_law__509 xs L k v0 v1 v2 v3 v4 h Q) (
    br ((x1 &&& (63 : Int32)) = 6) (
        w_L_law__601 xs L k v0 v1 v2 v3 v4 h Q) (
    br ((x1 &&& (63 : Int32)) = 7) (
        w_L_law__637 xs L k v0 v1 v2 v3 v4 h Q) (
    br ((x1 &&& (63 : Int32)) = 8) (
        w_L_law__681 xs L k v0 v1 v2 v3 v4 h Q) (
    br ((x1 &&& (63 : Int32)) = 9) (
        w_L_law__694 xs L k v0 v1 v2 v3 v4 h Q) (
    br ((x1 &&& (63 : Int32)) = 10) (
        w_L_law__786 xs L k v0 v1 v2 v3 v4 h Q) (
    br ((x1 &&& (63 : Int32)) = 11) (
        w_L_law__854 xs L k v0 v1 v2 v3 v4 h Q) (
    br ((x1 &&& (63 : Int32)) = 12) (
        w_L_law__877 xs L k v0 v1 v2 v3 v4 h Q) (
    br ((x1 &&& (63 : Int32)) = 13) (
        w_L_law__933 xs L k v0 v1 v2 v3 v4 h Q) (
    br ((x1 &&& (63 : Int32)) = 14) (
        w_L_law__1013 xs L k v0 v1 v2 v3 v4 h Q) (
    br ((x1 &&& (63 : Int32)) = 15) (
        w_L_law__1105 xs L k v0 v1 v2 v3 v4 h Q) (
    br ((x1 &&& (63 : Int32)) = 16) (
        w_L_law__1173 xs L k v0 v1 v2 v3 v4 h Q) (
    br ((x1 &&& (63 : Int32)) = 17) (
        w_L_law__1233 xs L k v0 v1 v2 v3 v4 h Q) (
    br ((x1 &&& (63 : Int32)) = 18) (
        w_L_law__1281 xs L k v0 v1 v2 v3 v4 h Q) (
    br ((x1 &&& (63 : Int32)) = 19) (
        w_L_law__1337 xs L k v0 v1 v2 v3 v4 h Q) (
    br ((x1 &&& (63 : Int32)) = 20) (
        w_L_law__1350 xs L k v0 v1 v2 v3 v4 h Q) (
    br ((x1 &&& (63 : Int32)) = 21) (
        w_L_law__1418 xs L k v0 v1 v2 v3 v4 h Q) (
    br ((x1 &&& (63 : Int32)) = 22) (
        w_L_law__1498 xs L k v0 v1 v2 v3 v4 h Q) (
    br ((x1 &&& (63 : Int32)) = 23) (
        w_L_law__1554 xs L k v0 v1 v2 v3 v4 h Q) (
    br ((x1 &&& (63 : Int32)) = 24) (
        w_L_law__1622 xs L k v0 v1 v2 v3 v4 h Q) (
    br ((x1 &&& (63 : Int32)) = 25) (
        w_L_law__1730 xs L k v0 v1 v2 v3 v4 h Q) (
    br ((x1 &&& (63 : Int32)) = 26) (
        w_L_law__1814 xs L k v0 v1 v2 v3 v4 h Q) (
    br ((x1 &&& (63 : Int32)) = 27) (
        w_L_law__1922 xs L k v0 v1 v2 v3 v4 h Q) (
    br ((x1 &&& (63 : Int32)) = 28) (
        w_L_law__1990 xs L k v0 v1 v2 v3 v4 h Q) (
    br ((x1 &&& (63 : Int32)) = 29) (
        w_L_law__2082 xs L k v0 v1 v2 v3 v4 h Q) (
    br ((x1 &&& (63 : Int32)) = 30) (
        w_L_law__2162 xs L k v0 v1 v2 v3 v4 h Q) (
    br ((x1 &&& (63 : Int32)) = 31) (
        w_L_law__2253 xs L k v0 v1 v2 v3 v4 h Q) (
    br ((x1 &&& (63 : Int32)) = 32) (
        w_L_law__2328 xs L k v0 v1 v2 v3 v4 h Q) (
    br ((x1 &&& (63 : Int32)) = 33) (
        w_L_law__2341 xs L k v0 v1 v2 v3 v4 h Q) (
    br ((x1 &&& (63 : Int32)) = 34) (
        w_L_law__2397 xs L k v0 v1 v2 v3 v4 h Q) (
    br ((x1 &&& (63 : Int32)) = 35) (
        w_L_law__2517 xs L k v0 v1 v2 v3 v4 h Q) (
    br ((x1 &&& (63 : Int32)) = 36) (
        w_L_law__2573 xs L k v0 v1 v2 v3 v4 h Q) (
    br ((x1 &&& (63 : Int32)) = 37) (
        w_L_law__2636 xs L k v0 v1 v2 v3 v4 h Q) (
    br ((x1 &&& (63 : Int32)) = 38) (
        w_L_law__2692 xs L k v0 v1 v2 v3 v4 h Q) (
    br ((x1 &&& (63 : Int32)) = 39) (
        w_L_law__2703 xs L k v0 v1 v2 v3 v4 h Q) (
    br ((x1 &&& (63 : Int32)) = 40) (
        w_L_law__2716 xs L k v0 v1 v2 v3 v4 h Q) (
      w_L_law__2741 xs L k v0 v1 v2 v3 v4 h Q))))))))))))))))))))))))))))))))))))))))))
def w_L_law_ (xs : Nat → Int32) (L v0 : Nat) (h : AH) (Q : Int32 → AH → Prop) : Prop :=
  wO h 11 fun a1 h =>
  w_X11_init a1 h (fun h =>
  wO h 12 fun a2 h =>
  w_X12_init a2 h (fun h =>
  wA h 3 1 fun a3 h =>
  it (fun (k2 : Int32 × AH → Prop) (s2 : Int32 × AH) => w_L_law__23 xs L (fun (y4 : Int32) h => k2 (y4, h)) v0 a1 a2 a3 s2.1 s2.2 Q) 513 ((0 : Int32), h)))
set_option maxRecDepth 100000 in
set_option maxHeartbeats 4000000 in
theorem s_L_law__2741 {p : Program} {l : Launch} {e : Env} {s : State} {m : MethodId} {args : Array Value} {below : List Frame} {meth : Method} {c : Code} {g : GG} {xs : Nat → Int32} {L kb sb : Nat} {v0 : Nat} {v1 : Nat} {v2 : Nat} {v3 : Nat} {Q : Int32 → AH → Prop} {k : Int32 → AH → Prop} (C : CXT p l s m args meth c RL cL_law_ 7 g) (hr : meth.sig.returnType = (some .boolean)) (hS : SX g v0 L xs s) (hkb : kb + 33 ≤ 400000) (hsb : sb + 2669 ≤ 5000000) (hk : ∀ (y4 : Int32) (h : AH), k y4 h → V p l e s m args below meth c g 1050 400000 5000000 7 (kb + 33) (sb + 2669) (MQ below (QCx g (QI Q)) args s 400000 5000000 (gA g)) 23 [(0, .ref v0), (1, .ref v1), (2, .ref v2), (3, .ref v3), (4, .int y4)] [] h) : ∀ (v4 : Int32) (h : AH), w_L_law__2741 xs L k v0 v1 v2 v3 v4 h Q → V p l e s m args below meth c g 1050 400000 5000000 7 (kb + 33) (sb + 2669) (MQ below (QCx g (QI Q)) args s 400000 5000000 (gA g)) 2741 [(0, .ref v0), (1, .ref v1), (2, .ref v2), (3, .ref v3), (4, .int v4)] [] h := by
  intro v4 h hw
  refine v_iinc (v := 6) (ls' := [(4, .int (v4 + 6)), (0, .ref v0), (1, .ref v1), (2, .ref v2), (3, .ref v3)]) C dL_law__2741 4 rfl (by decide) (by decide) rfl ?_
  refine v_goto (tgt := 23) C dL_law__2744 (by decide) ?_
  refine v_sub [1, 2, 3, 4, 0] rfl ?_
  exact hk _ _ hw
set_option maxRecDepth 100000 in
set_option maxHeartbeats 4000000 in
theorem s_L_law__2716 {p : Program} {l : Launch} {e : Env} {s : State} {m : MethodId} {args : Array Value} {below : List Frame} {meth : Method} {c : Code} {g : GG} {xs : Nat → Int32} {L kb sb : Nat} {v0 : Nat} {v1 : Nat} {v2 : Nat} {v3 : Nat} {Q : Int32 → AH → Prop} {k : Int32 → AH → Prop} (C : CXT p l s m args meth c RL cL_law_ 7 g) (hr : meth.sig.returnType = (some .boolean)) (hS : SX g v0 L xs s) (hkb : kb + 33 ≤ 400000) (hsb : sb + 2669 ≤ 5000000) (hk : ∀ (y4 : Int32) (h : AH), k y4 h → V p l e s m args below meth c g 1050 400000 5000000 7 (kb + 33) (sb + 2669) (MQ below (QCx g (QI Q)) args s 400000 5000000 (gA g)) 23 [(0, .ref v0), (1, .ref v1), (2, .ref v2), (3, .ref v3), (4, .int y4)] [] h) : ∀ (v4 : Int32) (h : AH), w_L_law__2716 xs L k v0 v1 v2 v3 v4 h Q → V p l e s m args below meth c g 1050 400000 5000000 7 (kb + 0) (sb + 0) (MQ below (QCx g (QI Q)) args s 400000 5000000 (gA g)) 2716 [(0, .ref v0), (1, .ref v1), (2, .ref v2), (3, .ref v3), (4, .int v4)] [] h := by
  intro v4 h hw
  refine v_aload_n C dL_law__2716 1 rfl rfl ?_
  refine v_aload_n C dL_law__2717 0 rfl rfl ?_
  refine v_iload C dL_law__2718 4 rfl ?_
  refine v_iconst (v := 1) C dL_law__2720 (by decide) ?_
  refine v_iadd C dL_law__2721 ?_
  refine w_sld C hS dL_law__2722 hw (fun x1 hw => ?_)
  refine w_callVi (st := []) C cl_L_277 im_X11_count se_X11_count rfl hw.1 (s_X11_count hw.2) rfl dL_law__2723 rfl (by first | decide | omega) (by omega) (by first | decide | omega) (by first | decide | omega) (by first | decide | omega) (fun x2 h hw => ?_)
  refine v_aload_n C dL_law__2726 2 rfl rfl ?_
  refine v_aload_n C dL_law__2727 0 rfl rfl ?_
  refine v_iload C dL_law__2728 4 rfl ?_
  refine v_iconst (v := 1) C dL_law__2730 (by decide) ?_
  refine v_iadd C dL_law__2731 ?_
  refine w_sld C hS dL_law__2732 hw (fun x3 hw => ?_)
  refine w_callVi (st := [.int x2]) C cl_L_280 im_X12_count se_X12_count rfl hw.1 (s_X12_count hw.2) rfl dL_law__2733 rfl (Nat.le_of_ble_eq_true rfl) (by omega) (by first | decide | omega) (by first | decide | omega) (by first | decide | omega) (fun x4 h hw => ?_)
  refine v_icmp_eq (tgt := 2741) C dL_law__2736 (by decide) (fun c_2736 => ?_) (fun c_2736 => ?_)
  · have hw := hw.1 c_2736
    refine v_cells (kc' := kb + 33) (ks' := sb + 2669) (by first | decide | omega) (by first | decide | omega) ?_
    exact s_L_law__2741 C hr hS hkb hsb hk _ _ hw
  · have hw := hw.2 c_2736
    refine v_iconst (v := 0) C dL_law__2739 (by decide) ?_
    exact (rt_MQ C _).2.1 _ _ _ _ _ _ _ hr rfl dL_law__2740 (by first | decide | omega) (by first | decide | omega) ⟨_, rfl, hw⟩
set_option maxRecDepth 100000 in
set_option maxHeartbeats 4000000 in
theorem s_L_law__2703 {p : Program} {l : Launch} {e : Env} {s : State} {m : MethodId} {args : Array Value} {below : List Frame} {meth : Method} {c : Code} {g : GG} {xs : Nat → Int32} {L kb sb : Nat} {v0 : Nat} {v1 : Nat} {v2 : Nat} {v3 : Nat} {Q : Int32 → AH → Prop} {k : Int32 → AH → Prop} (C : CXT p l s m args meth c RL cL_law_ 7 g) (hr : meth.sig.returnType = (some .boolean)) (hS : SX g v0 L xs s) (hkb : kb + 33 ≤ 400000) (hsb : sb + 2669 ≤ 5000000) (hk : ∀ (y4 : Int32) (h : AH), k y4 h → V p l e s m args below meth c g 1050 400000 5000000 7 (kb + 33) (sb + 2669) (MQ below (QCx g (QI Q)) args s 400000 5000000 (gA g)) 23 [(0, .ref v0), (1, .ref v1), (2, .ref v2), (3, .ref v3), (4, .int y4)] [] h) : ∀ (v4 : Int32) (h : AH), w_L_law__2703 xs L k v0 v1 v2 v3 v4 h Q → V p l e s m args below meth c g 1050 400000 5000000 7 (kb + 0) (sb + 0) (MQ below (QCx g (QI Q)) args s 400000 5000000 (gA g)) 2703 [(0, .ref v0), (1, .ref v1), (2, .ref v2), (3, .ref v3), (4, .int v4)] [] h := by
  intro v4 h hw
  refine v_aload_n C dL_law__2703 1 rfl rfl ?_
  refine w_callVi (st := []) C cl_L_272 im_X11_back se_X11_back rfl hw.1 (s_X11_back hw.2) rfl dL_law__2704 rfl (by first | decide | omega) (by omega) (by first | decide | omega) (by first | decide | omega) (by first | decide | omega) (fun x1 h hw => ?_)
  refine v_aload_n C dL_law__2707 2 rfl rfl ?_
  refine w_callVi (st := [.int x1]) C cl_L_276 im_X12_back se_X12_back rfl hw.1 (s_X12_back hw.2) rfl dL_law__2708 rfl (Nat.le_of_ble_eq_true rfl) (by omega) (by first | decide | omega) (by first | decide | omega) (by first | decide | omega) (fun x2 h hw => ?_)
  refine v_icmp_eq (tgt := 2741) C dL_law__2711 (by decide) (fun c_2711 => ?_) (fun c_2711 => ?_)
  · have hw := hw.1 c_2711
    refine v_cells (kc' := kb + 33) (ks' := sb + 2669) (by first | decide | omega) (by first | decide | omega) ?_
    exact s_L_law__2741 C hr hS hkb hsb hk _ _ hw
  · have hw := hw.2 c_2711
    refine v_iconst (v := 0) C dL_law__2714 (by decide) ?_
    exact (rt_MQ C _).2.1 _ _ _ _ _ _ _ hr rfl dL_law__2715 (by first | decide | omega) (by first | decide | omega) ⟨_, rfl, hw⟩
set_option maxRecDepth 100000 in
set_option maxHeartbeats 4000000 in
theorem s_L_law__2692 {p : Program} {l : Launch} {e : Env} {s : State} {m : MethodId} {args : Array Value} {below : List Frame} {meth : Method} {c : Code} {g : GG} {xs : Nat → Int32} {L kb sb : Nat} {v0 : Nat} {v1 : Nat} {v2 : Nat} {v3 : Nat} {Q : Int32 → AH → Prop} {k : Int32 → AH → Prop} (C : CXT p l s m args meth c RL cL_law_ 7 g) (hr : meth.sig.returnType = (some .boolean)) (hS : SX g v0 L xs s) (hkb : kb + 33 ≤ 400000) (hsb : sb + 2669 ≤ 5000000) (hk : ∀ (y4 : Int32) (h : AH), k y4 h → V p l e s m args below meth c g 1050 400000 5000000 7 (kb + 33) (sb + 2669) (MQ below (QCx g (QI Q)) args s 400000 5000000 (gA g)) 23 [(0, .ref v0), (1, .ref v1), (2, .ref v2), (3, .ref v3), (4, .int y4)] [] h) : ∀ (v4 : Int32) (h : AH), w_L_law__2692 xs L k v0 v1 v2 v3 v4 h Q → V p l e s m args below meth c g 1050 400000 5000000 7 (kb + 0) (sb + 0) (MQ below (QCx g (QI Q)) args s 400000 5000000 (gA g)) 2692 [(0, .ref v0), (1, .ref v1), (2, .ref v2), (3, .ref v3), (4, .int v4)] [] h := by
  intro v4 h hw
  refine v_aload_n C dL_law__2692 1 rfl rfl ?_
  refine w_callVv (st := []) C cl_L_268 im_X11_image se_X11_image rfl hw.1 (s_X11_image hw.2) rfl dL_law__2693 rfl (by first | decide | omega) (by omega) (by first | decide | omega) (by first | decide | omega) (by first | decide | omega) (fun h hw => ?_)
  refine v_aload_n C dL_law__2696 2 rfl rfl ?_
  refine w_callVv (st := []) C cl_L_271 im_X12_image se_X12_image rfl hw.1 (s_X12_image hw.2) rfl dL_law__2697 rfl (by first | decide | omega) (by omega) (by first | decide | omega) (by first | decide | omega) (by first | decide | omega) (fun h hw => ?_)
  refine v_goto (tgt := 2741) C dL_law__2700 (by decide) ?_
  refine v_cells (kc' := kb + 33) (ks' := sb + 2669) (by first | decide | omega) (by first | decide | omega) ?_
  exact s_L_law__2741 C hr hS hkb hsb hk _ _ hw
set_option maxRecDepth 100000 in
set_option maxHeartbeats 4000000 in
theorem s_L_law__2689 {p : Program} {l : Launch} {e : Env} {s : State} {m : MethodId} {args : Array Value} {below : List Frame} {meth : Method} {c : Code} {g : GG} {xs : Nat → Int32} {L kb sb : Nat} {v0 : Nat} {v1 : Nat} {v2 : Nat} {v3 : Nat} {Q : Int32 → AH → Prop} {k : Int32 → AH → Prop} (C : CXT p l s m args meth c RL cL_law_ 7 g) (hr : meth.sig.returnType = (some .boolean)) (hS : SX g v0 L xs s) (hkb : kb + 33 ≤ 400000) (hsb : sb + 2669 ≤ 5000000) (hk : ∀ (y4 : Int32) (h : AH), k y4 h → V p l e s m args below meth c g 1050 400000 5000000 7 (kb + 33) (sb + 2669) (MQ below (QCx g (QI Q)) args s 400000 5000000 (gA g)) 23 [(0, .ref v0), (1, .ref v1), (2, .ref v2), (3, .ref v3), (4, .int y4)] [] h) : ∀ (v4 : Int32) (h : AH), w_L_law__2689 xs L k v0 v1 v2 v3 v4 h Q → V p l e s m args below meth c g 1050 400000 5000000 7 (kb + 1) (sb + 6) (MQ below (QCx g (QI Q)) args s 400000 5000000 (gA g)) 2689 [(0, .ref v0), (1, .ref v1), (2, .ref v2), (3, .ref v3), (4, .int v4)] [] h := by
  intro v4 h hw
  refine v_goto (tgt := 2741) C dL_law__2689 (by decide) ?_
  refine v_cells (kc' := kb + 33) (ks' := sb + 2669) (by first | decide | omega) (by first | decide | omega) ?_
  exact s_L_law__2741 C hr hS hkb hsb hk _ _ hw
set_option maxRecDepth 100000 in
set_option maxHeartbeats 4000000 in
theorem s_L_law__2636 {p : Program} {l : Launch} {e : Env} {s : State} {m : MethodId} {args : Array Value} {below : List Frame} {meth : Method} {c : Code} {g : GG} {xs : Nat → Int32} {L kb sb : Nat} {v0 : Nat} {v1 : Nat} {v2 : Nat} {v3 : Nat} {Q : Int32 → AH → Prop} {k : Int32 → AH → Prop} (C : CXT p l s m args meth c RL cL_law_ 7 g) (hr : meth.sig.returnType = (some .boolean)) (hS : SX g v0 L xs s) (hkb : kb + 33 ≤ 400000) (hsb : sb + 2669 ≤ 5000000) (hk : ∀ (y4 : Int32) (h : AH), k y4 h → V p l e s m args below meth c g 1050 400000 5000000 7 (kb + 33) (sb + 2669) (MQ below (QCx g (QI Q)) args s 400000 5000000 (gA g)) 23 [(0, .ref v0), (1, .ref v1), (2, .ref v2), (3, .ref v3), (4, .int y4)] [] h) : ∀ (v4 : Int32) (h : AH), w_L_law__2636 xs L k v0 v1 v2 v3 v4 h Q → V p l e s m args below meth c g 1050 400000 5000000 7 (kb + 0) (sb + 0) (MQ below (QCx g (QI Q)) args s 400000 5000000 (gA g)) 2636 [(0, .ref v0), (1, .ref v1), (2, .ref v2), (3, .ref v3), (4, .int v4)] [] h := by
  intro v4 h hw
  refine v_aload_n C dL_law__2636 1 rfl rfl ?_
  refine v_aload_n C dL_law__2637 0 rfl rfl ?_
  refine v_iload C dL_law__2638 4 rfl ?_
  refine v_iconst (v := 1) C dL_law__2640 (by decide) ?_
  refine v_iadd C dL_law__2641 ?_
  refine w_sld C hS dL_law__2642 hw (fun x1 hw => ?_)
  refine v_aload_n C dL_law__2643 3 rfl rfl ?_
  refine v_callHS (st := []) C (tb7 (List.mem_of_getElem? (i := 74) rfl)) (tb7 (List.mem_of_getElem? (i := 76) rfl)) rfl (tb1 (List.mem_of_getElem? (i := 0) rfl)) ⟨by decide, by decide⟩ (n := 3) (by decide +kernel) (tb7 (List.mem_of_getElem? (i := 75) rfl)) (s_L_odds hw) rfl dL_law__2644 rfl (by first | decide | omega) (by first | decide | omega) (by first | decide | omega) (by first | decide | omega) (by first | decide | omega) (fun x2 h hw => ?_)
  refine v_istore (ls' := [(5, .int x2), (0, .ref v0), (1, .ref v1), (2, .ref v2), (3, .ref v3), (4, .int v4)]) C dL_law__2647 (by decide) rfl ?_
  refine v_aload_n C dL_law__2649 3 rfl rfl ?_
  refine v_aload_n C dL_law__2650 1 rfl rfl ?_
  refine v_iload C dL_law__2651 5 rfl ?_
  refine v_iconst (v := 1) C dL_law__2653 (by decide) ?_
  refine v_iadd C dL_law__2654 ?_
  refine w_sld C hS dL_law__2655 hw (fun x3 hw => ?_)
  refine w_callVi (st := []) C cl_L_267 im_X12_odds se_X12_odds rfl hw.1 (s_X12_odds hw.2) rfl dL_law__2656 rfl (by first | decide | omega) (by omega) (by first | decide | omega) (by first | decide | omega) (by first | decide | omega) (fun x4 h hw => ?_)
  refine v_istore (ls' := [(6, .int x4), (5, .int x2), (0, .ref v0), (1, .ref v1), (2, .ref v2), (3, .ref v3), (4, .int v4)]) C dL_law__2659 (by decide) rfl ?_
  refine v_aload_n C dL_law__2661 4 rfl rfl ?_
  refine w_callVi (st := []) C cl_L_146 im_X12_thrown se_X12_thrown rfl hw.1 (s_X12_thrown hw.2) rfl dL_law__2662 rfl (by first | decide | omega) (by omega) (by first | decide | omega) (by first | decide | omega) (by first | decide | omega) (fun x5 h hw => ?_)
  refine v_iload C dL_law__2665 1 rfl ?_
  refine v_icmp_eq (tgt := 2672) C dL_law__2667 (by decide) (fun c_2667 => ?_) (fun c_2667 => ?_)
  · have hw := hw.1 c_2667
    refine v_iload C dL_law__2672 1 rfl ?_
    refine v_if_ne (tgt := 2689) C dL_law__2674 (by decide) (fun c_2674 => ?_) (fun c_2674 => ?_)
    · have hw := hw.2 c_2674
      refine v_sub [2, 3, 4, 5, 6] rfl ?_
      exact s_L_law__2689 C hr hS hkb hsb hk _ _ hw
    · have hw := hw.1 c_2674
      refine v_aload_n C dL_law__2677 5 rfl rfl ?_
      refine v_iconst (v := 0) C dL_law__2678 (by decide) ?_
      refine w_laload C dL_law__2679 hw (fun j6 hw => ?_)
      refine v_iload C dL_law__2680 0 rfl ?_
      refine v_i2l C dL_law__2682 ?_
      refine v_lcmp C dL_law__2683 ?_
      refine v_if_eq (tgt := 2689) C dL_law__2684 (by decide) (fun c_2684 => ?_) (fun c_2684 => ?_)
      · have hw := hw.1 c_2684
        refine v_sub [2, 3, 4, 5, 6] rfl ?_
        exact s_L_law__2689 C hr hS hkb hsb hk _ _ hw
      · have hw := hw.2 c_2684
        refine v_iconst (v := 0) C dL_law__2687 (by decide) ?_
        exact (rt_MQ C _).2.1 _ _ _ _ _ _ _ hr rfl dL_law__2688 (by first | decide | omega) (by first | decide | omega) ⟨_, rfl, hw⟩
  · have hw := hw.2 c_2667
    refine v_iconst (v := 0) C dL_law__2670 (by decide) ?_
    exact (rt_MQ C _).2.1 _ _ _ _ _ _ _ hr rfl dL_law__2671 (by first | decide | omega) (by first | decide | omega) ⟨_, rfl, hw⟩
set_option maxRecDepth 100000 in
set_option maxHeartbeats 4000000 in
theorem s_L_law__2633 {p : Program} {l : Launch} {e : Env} {s : State} {m : MethodId} {args : Array Value} {below : List Frame} {meth : Method} {c : Code} {g : GG} {xs : Nat → Int32} {L kb sb : Nat} {v0 : Nat} {v1 : Nat} {v2 : Nat} {v3 : Nat} {Q : Int32 → AH → Prop} {k : Int32 → AH → Prop} (C : CXT p l s m args meth c RL cL_law_ 7 g) (hr : meth.sig.returnType = (some .boolean)) (hS : SX g v0 L xs s) (hkb : kb + 33 ≤ 400000) (hsb : sb + 2669 ≤ 5000000) (hk : ∀ (y4 : Int32) (h : AH), k y4 h → V p l e s m args below meth c g 1050 400000 5000000 7 (kb + 33) (sb + 2669) (MQ below (QCx g (QI Q)) args s 400000 5000000 (gA g)) 23 [(0, .ref v0), (1, .ref v1), (2, .ref v2), (3, .ref v3), (4, .int y4)] [] h) : ∀ (v4 : Int32) (h : AH), w_L_law__2633 xs L k v0 v1 v2 v3 v4 h Q → V p l e s m args below meth c g 1050 400000 5000000 7 (kb + 1) (sb + 6) (MQ below (QCx g (QI Q)) args s 400000 5000000 (gA g)) 2633 [(0, .ref v0), (1, .ref v1), (2, .ref v2), (3, .ref v3), (4, .int v4)] [] h := by
  intro v4 h hw
  refine v_goto (tgt := 2741) C dL_law__2633 (by decide) ?_
  refine v_cells (kc' := kb + 33) (ks' := sb + 2669) (by first | decide | omega) (by first | decide | omega) ?_
  exact s_L_law__2741 C hr hS hkb hsb hk _ _ hw
set_option maxRecDepth 100000 in
set_option maxHeartbeats 4000000 in
theorem s_L_law__2627 {p : Program} {l : Launch} {e : Env} {s : State} {m : MethodId} {args : Array Value} {below : List Frame} {meth : Method} {c : Code} {g : GG} {xs : Nat → Int32} {L kb sb : Nat} {v0 : Nat} {v1 : Nat} {v2 : Nat} {v3 : Nat} {Q : Int32 → AH → Prop} {k : Int32 → AH → Prop} (C : CXT p l s m args meth c RL cL_law_ 7 g) (hr : meth.sig.returnType = (some .boolean)) (hS : SX g v0 L xs s) (hkb : kb + 33 ≤ 400000) (hsb : sb + 2669 ≤ 5000000) (hk : ∀ (y4 : Int32) (h : AH), k y4 h → V p l e s m args below meth c g 1050 400000 5000000 7 (kb + 33) (sb + 2669) (MQ below (QCx g (QI Q)) args s 400000 5000000 (gA g)) 23 [(0, .ref v0), (1, .ref v1), (2, .ref v2), (3, .ref v3), (4, .int y4)] [] h) : ∀ (v4 : Int32) (t0 : Int64) (t1 : Int64) (h : AH), w_L_law__2627 xs L k v0 v1 v2 v3 v4 t0 t1 h Q → V p l e s m args below meth c g 1050 400000 5000000 7 (kb + 1) (sb + 6) (MQ below (QCx g (QI Q)) args s 400000 5000000 (gA g)) 2627 [(0, .ref v0), (1, .ref v1), (2, .ref v2), (3, .ref v3), (4, .int v4)] [.long t1, .long t0] h := by
  intro v4 t0 t1 h hw
  refine v_lcmp C dL_law__2627 ?_
  refine v_if_eq (tgt := 2633) C dL_law__2628 (by decide) (fun c_2628 => ?_) (fun c_2628 => ?_)
  · have hw := hw.1 c_2628
    exact s_L_law__2633 C hr hS hkb hsb hk _ _ hw
  · have hw := hw.2 c_2628
    refine v_iconst (v := 0) C dL_law__2631 (by decide) ?_
    exact (rt_MQ C _).2.1 _ _ _ _ _ _ _ hr rfl dL_law__2632 (by first | decide | omega) (by first | decide | omega) ⟨_, rfl, hw⟩
set_option maxRecDepth 100000 in
set_option maxHeartbeats 4000000 in
theorem s_L_law__2573 {p : Program} {l : Launch} {e : Env} {s : State} {m : MethodId} {args : Array Value} {below : List Frame} {meth : Method} {c : Code} {g : GG} {xs : Nat → Int32} {L kb sb : Nat} {v0 : Nat} {v1 : Nat} {v2 : Nat} {v3 : Nat} {Q : Int32 → AH → Prop} {k : Int32 → AH → Prop} (C : CXT p l s m args meth c RL cL_law_ 7 g) (hr : meth.sig.returnType = (some .boolean)) (hS : SX g v0 L xs s) (hkb : kb + 33 ≤ 400000) (hsb : sb + 2669 ≤ 5000000) (hk : ∀ (y4 : Int32) (h : AH), k y4 h → V p l e s m args below meth c g 1050 400000 5000000 7 (kb + 33) (sb + 2669) (MQ below (QCx g (QI Q)) args s 400000 5000000 (gA g)) 23 [(0, .ref v0), (1, .ref v1), (2, .ref v2), (3, .ref v3), (4, .int y4)] [] h) : ∀ (v4 : Int32) (h : AH), w_L_law__2573 xs L k v0 v1 v2 v3 v4 h Q → V p l e s m args below meth c g 1050 400000 5000000 7 (kb + 0) (sb + 0) (MQ below (QCx g (QI Q)) args s 400000 5000000 (gA g)) 2573 [(0, .ref v0), (1, .ref v1), (2, .ref v2), (3, .ref v3), (4, .int v4)] [] h := by
  intro v4 h hw
  refine v_aload_n C dL_law__2573 1 rfl rfl ?_
  refine v_aload_n C dL_law__2574 0 rfl rfl ?_
  refine v_iload C dL_law__2575 4 rfl ?_
  refine v_iconst (v := 1) C dL_law__2577 (by decide) ?_
  refine v_iadd C dL_law__2578 ?_
  refine w_sld C hS dL_law__2579 hw (fun x1 hw => ?_)
  refine v_aload_n C dL_law__2580 3 rfl rfl ?_
  refine v_callHS (st := []) C (tb7 (List.mem_of_getElem? (i := 54) rfl)) (tb7 (List.mem_of_getElem? (i := 56) rfl)) rfl (tb1 (List.mem_of_getElem? (i := 0) rfl)) ⟨by decide, by decide⟩ (n := 3) (by decide +kernel) (tb7 (List.mem_of_getElem? (i := 55) rfl)) (s_L_holds hw) rfl dL_law__2581 rfl (by first | decide | omega) (by first | decide | omega) (by first | decide | omega) (by first | decide | omega) (by first | decide | omega) (fun x2 h hw => ?_)
  refine v_istore (ls' := [(5, .int x2), (0, .ref v0), (1, .ref v1), (2, .ref v2), (3, .ref v3), (4, .int v4)]) C dL_law__2584 (by decide) rfl ?_
  refine v_aload_n C dL_law__2586 3 rfl rfl ?_
  refine v_aload_n C dL_law__2587 1 rfl rfl ?_
  refine v_iload C dL_law__2588 5 rfl ?_
  refine v_iconst (v := 1) C dL_law__2590 (by decide) ?_
  refine v_iadd C dL_law__2591 ?_
  refine w_sld C hS dL_law__2592 hw (fun x3 hw => ?_)
  refine w_callVi (st := []) C cl_L_264 im_X12_holds se_X12_holds rfl hw.1 (s_X12_holds hw.2) rfl dL_law__2593 rfl (by first | decide | omega) (by omega) (by first | decide | omega) (by first | decide | omega) (by first | decide | omega) (fun x4 h hw => ?_)
  refine v_istore (ls' := [(6, .int x4), (5, .int x2), (0, .ref v0), (1, .ref v1), (2, .ref v2), (3, .ref v3), (4, .int v4)]) C dL_law__2596 (by decide) rfl ?_
  refine v_aload_n C dL_law__2598 4 rfl rfl ?_
  refine w_callVi (st := []) C cl_L_146 im_X12_thrown se_X12_thrown rfl hw.1 (s_X12_thrown hw.2) rfl dL_law__2599 rfl (by first | decide | omega) (by omega) (by first | decide | omega) (by first | decide | omega) (by first | decide | omega) (fun x5 h hw => ?_)
  refine v_iload C dL_law__2602 1 rfl ?_
  refine v_icmp_eq (tgt := 2609) C dL_law__2604 (by decide) (fun c_2604 => ?_) (fun c_2604 => ?_)
  · have hw := hw.1 c_2604
    refine v_iload C dL_law__2609 1 rfl ?_
    refine v_if_ne (tgt := 2633) C dL_law__2611 (by decide) (fun c_2611 => ?_) (fun c_2611 => ?_)
    · have hw := hw.2 c_2611
      refine v_sub [2, 3, 4, 5, 6] rfl ?_
      exact s_L_law__2633 C hr hS hkb hsb hk _ _ hw
    · have hw := hw.1 c_2611
      refine v_aload_n C dL_law__2614 5 rfl rfl ?_
      refine v_iconst (v := 0) C dL_law__2615 (by decide) ?_
      refine w_laload C dL_law__2616 hw (fun j6 hw => ?_)
      refine v_iload C dL_law__2617 0 rfl ?_
      refine v_if_eq (tgt := 2626) C dL_law__2619 (by decide) (fun c_2619 => ?_) (fun c_2619 => ?_)
      · have hw := hw.1 c_2619
        refine v_lconst (v := 0) C dL_law__2626 (by decide) ?_
        refine v_sub [2, 3, 4, 5, 6] rfl ?_
        exact s_L_law__2627 C hr hS hkb hsb hk _ _ _ _ hw
      · have hw := hw.2 c_2619
        refine v_lconst (v := 1) C dL_law__2622 (by decide) ?_
        refine v_goto (tgt := 2627) C dL_law__2623 (by decide) ?_
        refine v_sub [2, 3, 4, 5, 6] rfl ?_
        exact s_L_law__2627 C hr hS hkb hsb hk _ _ _ _ hw
  · have hw := hw.2 c_2604
    refine v_iconst (v := 0) C dL_law__2607 (by decide) ?_
    exact (rt_MQ C _).2.1 _ _ _ _ _ _ _ hr rfl dL_law__2608 (by first | decide | omega) (by first | decide | omega) ⟨_, rfl, hw⟩
set_option maxRecDepth 100000 in
set_option maxHeartbeats 4000000 in
theorem s_L_law__2570 {p : Program} {l : Launch} {e : Env} {s : State} {m : MethodId} {args : Array Value} {below : List Frame} {meth : Method} {c : Code} {g : GG} {xs : Nat → Int32} {L kb sb : Nat} {v0 : Nat} {v1 : Nat} {v2 : Nat} {v3 : Nat} {Q : Int32 → AH → Prop} {k : Int32 → AH → Prop} (C : CXT p l s m args meth c RL cL_law_ 7 g) (hr : meth.sig.returnType = (some .boolean)) (hS : SX g v0 L xs s) (hkb : kb + 33 ≤ 400000) (hsb : sb + 2669 ≤ 5000000) (hk : ∀ (y4 : Int32) (h : AH), k y4 h → V p l e s m args below meth c g 1050 400000 5000000 7 (kb + 33) (sb + 2669) (MQ below (QCx g (QI Q)) args s 400000 5000000 (gA g)) 23 [(0, .ref v0), (1, .ref v1), (2, .ref v2), (3, .ref v3), (4, .int y4)] [] h) : ∀ (v4 : Int32) (h : AH), w_L_law__2570 xs L k v0 v1 v2 v3 v4 h Q → V p l e s m args below meth c g 1050 400000 5000000 7 (kb + 5) (sb + 448) (MQ below (QCx g (QI Q)) args s 400000 5000000 (gA g)) 2570 [(0, .ref v0), (1, .ref v1), (2, .ref v2), (3, .ref v3), (4, .int v4)] [] h := by
  intro v4 h hw
  refine v_goto (tgt := 2741) C dL_law__2570 (by decide) ?_
  refine v_cells (kc' := kb + 33) (ks' := sb + 2669) (by first | decide | omega) (by first | decide | omega) ?_
  exact s_L_law__2741 C hr hS hkb hsb hk _ _ hw
set_option maxRecDepth 100000 in
set_option maxHeartbeats 4000000 in
theorem s_L_law__2517 {p : Program} {l : Launch} {e : Env} {s : State} {m : MethodId} {args : Array Value} {below : List Frame} {meth : Method} {c : Code} {g : GG} {xs : Nat → Int32} {L kb sb : Nat} {v0 : Nat} {v1 : Nat} {v2 : Nat} {v3 : Nat} {Q : Int32 → AH → Prop} {k : Int32 → AH → Prop} (C : CXT p l s m args meth c RL cL_law_ 7 g) (hr : meth.sig.returnType = (some .boolean)) (hS : SX g v0 L xs s) (hkb : kb + 33 ≤ 400000) (hsb : sb + 2669 ≤ 5000000) (hk : ∀ (y4 : Int32) (h : AH), k y4 h → V p l e s m args below meth c g 1050 400000 5000000 7 (kb + 33) (sb + 2669) (MQ below (QCx g (QI Q)) args s 400000 5000000 (gA g)) 23 [(0, .ref v0), (1, .ref v1), (2, .ref v2), (3, .ref v3), (4, .int y4)] [] h) : ∀ (v4 : Int32) (h : AH), w_L_law__2517 xs L k v0 v1 v2 v3 v4 h Q → V p l e s m args below meth c g 1050 400000 5000000 7 (kb + 0) (sb + 0) (MQ below (QCx g (QI Q)) args s 400000 5000000 (gA g)) 2517 [(0, .ref v0), (1, .ref v1), (2, .ref v2), (3, .ref v3), (4, .int v4)] [] h := by
  intro v4 h hw
  refine v_aload_n C dL_law__2517 1 rfl rfl ?_
  refine v_aload_n C dL_law__2518 0 rfl rfl ?_
  refine v_iload C dL_law__2519 4 rfl ?_
  refine v_iconst (v := 1) C dL_law__2521 (by decide) ?_
  refine v_iadd C dL_law__2522 ?_
  refine w_sld C hS dL_law__2523 hw (fun x1 hw => ?_)
  refine v_aload_n C dL_law__2524 3 rfl rfl ?_
  refine v_callHS (st := []) C (tb7 (List.mem_of_getElem? (i := 39) rfl)) (tb7 (List.mem_of_getElem? (i := 41) rfl)) rfl (tb1 (List.mem_of_getElem? (i := 0) rfl)) ⟨by decide, by decide⟩ (n := 3) (by decide +kernel) (tb7 (List.mem_of_getElem? (i := 40) rfl)) (s_L_story hw) rfl dL_law__2525 rfl (by first | decide | omega) (by first | decide | omega) (by first | decide | omega) (by first | decide | omega) (by first | decide | omega) (fun x2 h hw => ?_)
  refine v_istore (ls' := [(5, .int x2), (0, .ref v0), (1, .ref v1), (2, .ref v2), (3, .ref v3), (4, .int v4)]) C dL_law__2528 (by decide) rfl ?_
  refine v_aload_n C dL_law__2530 3 rfl rfl ?_
  refine v_aload_n C dL_law__2531 1 rfl rfl ?_
  refine v_iload C dL_law__2532 5 rfl ?_
  refine v_iconst (v := 1) C dL_law__2534 (by decide) ?_
  refine v_iadd C dL_law__2535 ?_
  refine w_sld C hS dL_law__2536 hw (fun x3 hw => ?_)
  refine w_callVi (st := []) C cl_L_261 im_X12_story se_X12_story rfl hw.1 (s_X12_story hw.2) rfl dL_law__2537 rfl (by first | decide | omega) (by omega) (by first | decide | omega) (by first | decide | omega) (by first | decide | omega) (fun x4 h hw => ?_)
  refine v_istore (ls' := [(6, .int x4), (5, .int x2), (0, .ref v0), (1, .ref v1), (2, .ref v2), (3, .ref v3), (4, .int v4)]) C dL_law__2540 (by decide) rfl ?_
  refine v_aload_n C dL_law__2542 4 rfl rfl ?_
  refine w_callVi (st := []) C cl_L_146 im_X12_thrown se_X12_thrown rfl hw.1 (s_X12_thrown hw.2) rfl dL_law__2543 rfl (by first | decide | omega) (by omega) (by first | decide | omega) (by first | decide | omega) (by first | decide | omega) (fun x5 h hw => ?_)
  refine v_iload C dL_law__2546 1 rfl ?_
  refine v_icmp_eq (tgt := 2553) C dL_law__2548 (by decide) (fun c_2548 => ?_) (fun c_2548 => ?_)
  · have hw := hw.1 c_2548
    refine v_iload C dL_law__2553 1 rfl ?_
    refine v_if_ne (tgt := 2570) C dL_law__2555 (by decide) (fun c_2555 => ?_) (fun c_2555 => ?_)
    · have hw := hw.2 c_2555
      refine v_sub [2, 3, 4, 5, 6] rfl ?_
      exact s_L_law__2570 C hr hS hkb hsb hk _ _ hw
    · have hw := hw.1 c_2555
      refine v_aload_n C dL_law__2558 5 rfl rfl ?_
      refine v_iconst (v := 0) C dL_law__2559 (by decide) ?_
      refine w_laload C dL_law__2560 hw (fun j6 hw => ?_)
      refine v_iload C dL_law__2561 0 rfl ?_
      refine v_i2l C dL_law__2563 ?_
      refine v_lcmp C dL_law__2564 ?_
      refine v_if_eq (tgt := 2570) C dL_law__2565 (by decide) (fun c_2565 => ?_) (fun c_2565 => ?_)
      · have hw := hw.1 c_2565
        refine v_sub [2, 3, 4, 5, 6] rfl ?_
        exact s_L_law__2570 C hr hS hkb hsb hk _ _ hw
      · have hw := hw.2 c_2565
        refine v_iconst (v := 0) C dL_law__2568 (by decide) ?_
        exact (rt_MQ C _).2.1 _ _ _ _ _ _ _ hr rfl dL_law__2569 (by first | decide | omega) (by first | decide | omega) ⟨_, rfl, hw⟩
  · have hw := hw.2 c_2548
    refine v_iconst (v := 0) C dL_law__2551 (by decide) ?_
    exact (rt_MQ C _).2.1 _ _ _ _ _ _ _ hr rfl dL_law__2552 (by first | decide | omega) (by first | decide | omega) ⟨_, rfl, hw⟩
set_option maxRecDepth 100000 in
set_option maxHeartbeats 4000000 in
theorem s_L_law__2514 {p : Program} {l : Launch} {e : Env} {s : State} {m : MethodId} {args : Array Value} {below : List Frame} {meth : Method} {c : Code} {g : GG} {xs : Nat → Int32} {L kb sb : Nat} {v0 : Nat} {v1 : Nat} {v2 : Nat} {v3 : Nat} {Q : Int32 → AH → Prop} {k : Int32 → AH → Prop} (C : CXT p l s m args meth c RL cL_law_ 7 g) (hr : meth.sig.returnType = (some .boolean)) (hS : SX g v0 L xs s) (hkb : kb + 33 ≤ 400000) (hsb : sb + 2669 ≤ 5000000) (hk : ∀ (y4 : Int32) (h : AH), k y4 h → V p l e s m args below meth c g 1050 400000 5000000 7 (kb + 33) (sb + 2669) (MQ below (QCx g (QI Q)) args s 400000 5000000 (gA g)) 23 [(0, .ref v0), (1, .ref v1), (2, .ref v2), (3, .ref v3), (4, .int y4)] [] h) : ∀ (v4 : Int32) (h : AH), w_L_law__2514 xs L k v0 v1 v2 v3 v4 h Q → V p l e s m args below meth c g 1050 400000 5000000 7 (kb + 4) (sb + 24) (MQ below (QCx g (QI Q)) args s 400000 5000000 (gA g)) 2514 [(0, .ref v0), (1, .ref v1), (2, .ref v2), (3, .ref v3), (4, .int v4)] [] h := by
  intro v4 h hw
  refine v_goto (tgt := 2741) C dL_law__2514 (by decide) ?_
  refine v_cells (kc' := kb + 33) (ks' := sb + 2669) (by first | decide | omega) (by first | decide | omega) ?_
  exact s_L_law__2741 C hr hS hkb hsb hk _ _ hw
set_option maxRecDepth 100000 in
set_option maxHeartbeats 4000000 in
theorem s_L_law__2481 {p : Program} {l : Launch} {e : Env} {s : State} {m : MethodId} {args : Array Value} {below : List Frame} {meth : Method} {c : Code} {g : GG} {xs : Nat → Int32} {L kb sb : Nat} {v0 : Nat} {v1 : Nat} {v2 : Nat} {v3 : Nat} {Q : Int32 → AH → Prop} {k : Int32 → AH → Prop} (C : CXT p l s m args meth c RL cL_law_ 7 g) (hr : meth.sig.returnType = (some .boolean)) (hS : SX g v0 L xs s) (hkb : kb + 33 ≤ 400000) (hsb : sb + 2669 ≤ 5000000) (hk : ∀ (y4 : Int32) (h : AH), k y4 h → V p l e s m args below meth c g 1050 400000 5000000 7 (kb + 33) (sb + 2669) (MQ below (QCx g (QI Q)) args s 400000 5000000 (gA g)) 23 [(0, .ref v0), (1, .ref v1), (2, .ref v2), (3, .ref v3), (4, .int y4)] [] h) : ∀ (v4 : Int32) (v5 : Int32) (t0 : Nat) (t1 : Int32) (t2 : Int32) (t3 : Int32) (t4 : Int32) (t5 : Int32) (h : AH), w_L_law__2481 xs L k v0 v1 v2 v3 v4 v5 t0 t1 t2 t3 t4 t5 h Q → V p l e s m args below meth c g 1050 400000 5000000 7 (kb + 4) (sb + 24) (MQ below (QCx g (QI Q)) args s 400000 5000000 (gA g)) 2481 [(0, .ref v0), (1, .ref v1), (2, .ref v2), (3, .ref v3), (4, .int v4), (5, .int v5)] [.int t5, .int t4, .int t3, .int t2, .int t1, .ref t0] h := by
  intro v4 v5 t0 t1 t2 t3 t4 t5 h hw
  refine w_callVi (st := []) C cl_L_258 im_X12_joined se_X12_joined rfl hw.1 (s_X12_joined hw.2) rfl dL_law__2481 rfl (by first | decide | omega) (by omega) (by first | decide | omega) (by first | decide | omega) (by first | decide | omega) (fun x1 h hw => ?_)
  refine v_istore (ls' := [(6, .int x1), (0, .ref v0), (1, .ref v1), (2, .ref v2), (3, .ref v3), (4, .int v4), (5, .int v5)]) C dL_law__2484 (by decide) rfl ?_
  refine v_aload_n C dL_law__2486 3 rfl rfl ?_
  refine w_callVi (st := []) C cl_L_146 im_X12_thrown se_X12_thrown rfl hw.1 (s_X12_thrown hw.2) rfl dL_law__2487 rfl (by first | decide | omega) (by omega) (by first | decide | omega) (by first | decide | omega) (by first | decide | omega) (fun x2 h hw => ?_)
  refine v_iload C dL_law__2490 6 rfl ?_
  refine v_icmp_eq (tgt := 2497) C dL_law__2492 (by decide) (fun c_2492 => ?_) (fun c_2492 => ?_)
  · have hw := hw.1 c_2492
    refine v_iload C dL_law__2497 6 rfl ?_
    refine v_if_ne (tgt := 2514) C dL_law__2499 (by decide) (fun c_2499 => ?_) (fun c_2499 => ?_)
    · have hw := hw.2 c_2499
      refine v_sub [1, 2, 3, 4, 5] rfl ?_
      exact s_L_law__2514 C hr hS hkb hsb hk _ _ hw
    · have hw := hw.1 c_2499
      refine v_aload_n C dL_law__2502 4 rfl rfl ?_
      refine v_iconst (v := 0) C dL_law__2503 (by decide) ?_
      refine w_laload C dL_law__2504 hw (fun j3 hw => ?_)
      refine v_iload C dL_law__2505 0 rfl ?_
      refine v_i2l C dL_law__2507 ?_
      refine v_lcmp C dL_law__2508 ?_
      refine v_if_eq (tgt := 2514) C dL_law__2509 (by decide) (fun c_2509 => ?_) (fun c_2509 => ?_)
      · have hw := hw.1 c_2509
        refine v_sub [1, 2, 3, 4, 5] rfl ?_
        exact s_L_law__2514 C hr hS hkb hsb hk _ _ hw
      · have hw := hw.2 c_2509
        refine v_iconst (v := 0) C dL_law__2512 (by decide) ?_
        exact (rt_MQ C _).2.1 _ _ _ _ _ _ _ hr rfl dL_law__2513 (by first | decide | omega) (by first | decide | omega) ⟨_, rfl, hw⟩
  · have hw := hw.2 c_2492
    refine v_iconst (v := 0) C dL_law__2495 (by decide) ?_
    exact (rt_MQ C _).2.1 _ _ _ _ _ _ _ hr rfl dL_law__2496 (by first | decide | omega) (by first | decide | omega) ⟨_, rfl, hw⟩
set_option maxRecDepth 100000 in
set_option maxHeartbeats 4000000 in
theorem s_L_law__2436 {p : Program} {l : Launch} {e : Env} {s : State} {m : MethodId} {args : Array Value} {below : List Frame} {meth : Method} {c : Code} {g : GG} {xs : Nat → Int32} {L kb sb : Nat} {v0 : Nat} {v1 : Nat} {v2 : Nat} {v3 : Nat} {Q : Int32 → AH → Prop} {k : Int32 → AH → Prop} (C : CXT p l s m args meth c RL cL_law_ 7 g) (hr : meth.sig.returnType = (some .boolean)) (hS : SX g v0 L xs s) (hkb : kb + 33 ≤ 400000) (hsb : sb + 2669 ≤ 5000000) (hk : ∀ (y4 : Int32) (h : AH), k y4 h → V p l e s m args below meth c g 1050 400000 5000000 7 (kb + 33) (sb + 2669) (MQ below (QCx g (QI Q)) args s 400000 5000000 (gA g)) 23 [(0, .ref v0), (1, .ref v1), (2, .ref v2), (3, .ref v3), (4, .int y4)] [] h) : ∀ (v4 : Int32) (t0 : Nat) (t1 : Int32) (t2 : Int32) (t3 : Int32) (t4 : Int32) (t5 : Int32) (h : AH), w_L_law__2436 xs L k v0 v1 v2 v3 v4 t0 t1 t2 t3 t4 t5 h Q → V p l e s m args below meth c g 1050 400000 5000000 7 (kb + 0) (sb + 0) (MQ below (QCx g (QI Q)) args s 400000 5000000 (gA g)) 2436 [(0, .ref v0), (1, .ref v1), (2, .ref v2), (3, .ref v3), (4, .int v4)] [.int t5, .int t4, .int t3, .int t2, .int t1, .ref t0] h := by
  intro v4 t0 t1 t2 t3 t4 t5 h hw
  refine v_aload_n C dL_law__2436 3 rfl rfl ?_
  refine v_callHS (st := []) C (tb7 (List.mem_of_getElem? (i := 28) rfl)) (tb7 (List.mem_of_getElem? (i := 30) rfl)) rfl (tb1 (List.mem_of_getElem? (i := 0) rfl)) ⟨by decide, by decide⟩ (n := 7) (by decide +kernel) (tb7 (List.mem_of_getElem? (i := 29) rfl)) (s_L_joined hw) rfl dL_law__2437 rfl (by first | decide | omega) (by first | decide | omega) (by first | decide | omega) (by first | decide | omega) (by first | decide | omega) (fun x1 h hw => ?_)
  refine v_istore (ls' := [(5, .int x1), (0, .ref v0), (1, .ref v1), (2, .ref v2), (3, .ref v3), (4, .int v4)]) C dL_law__2440 (by decide) rfl ?_
  refine v_aload_n C dL_law__2442 3 rfl rfl ?_
  refine v_aload_n C dL_law__2443 1 rfl rfl ?_
  refine v_iload C dL_law__2444 5 rfl ?_
  refine v_iconst (v := 1) C dL_law__2446 (by decide) ?_
  refine v_iadd C dL_law__2447 ?_
  refine w_sld C hS dL_law__2448 hw (fun x2 hw => ?_)
  refine v_aload_n C dL_law__2449 1 rfl rfl ?_
  refine v_iload C dL_law__2450 5 rfl ?_
  refine v_iconst (v := 2) C dL_law__2452 (by decide) ?_
  refine v_iadd C dL_law__2453 ?_
  refine w_sld C hS dL_law__2454 hw (fun x3 hw => ?_)
  refine v_aload_n C dL_law__2455 1 rfl rfl ?_
  refine v_iload C dL_law__2456 5 rfl ?_
  refine v_iconst (v := 3) C dL_law__2458 (by decide) ?_
  refine v_iadd C dL_law__2459 ?_
  refine w_sld C hS dL_law__2460 hw (fun x4 hw => ?_)
  refine v_aload_n C dL_law__2461 1 rfl rfl ?_
  refine v_iload C dL_law__2462 5 rfl ?_
  refine v_iconst (v := 4) C dL_law__2464 (by decide) ?_
  refine v_iadd C dL_law__2465 ?_
  refine w_sld C hS dL_law__2466 hw (fun x5 hw => ?_)
  refine v_aload_n C dL_law__2467 1 rfl rfl ?_
  refine v_iload C dL_law__2468 5 rfl ?_
  refine v_iconst (v := 5) C dL_law__2470 (by decide) ?_
  refine v_iadd C dL_law__2471 ?_
  refine w_sld C hS dL_law__2472 hw (fun x6 hw => ?_)
  refine v_if_eq (tgt := 2480) C dL_law__2473 (by decide) (fun c_2473 => ?_) (fun c_2473 => ?_)
  · have hw := hw.1 c_2473
    refine v_iconst (v := 0) C dL_law__2480 (by decide) ?_
    refine v_sub [1, 2, 3, 4, 5, 0] rfl ?_
    exact s_L_law__2481 C hr hS hkb hsb hk _ _ _ _ _ _ _ _ _ hw
  · have hw := hw.2 c_2473
    refine v_iconst (v := 1) C dL_law__2476 (by decide) ?_
    refine v_goto (tgt := 2481) C dL_law__2477 (by decide) ?_
    refine v_sub [1, 2, 3, 4, 5, 0] rfl ?_
    exact s_L_law__2481 C hr hS hkb hsb hk _ _ _ _ _ _ _ _ _ hw
set_option maxRecDepth 100000 in
set_option maxHeartbeats 4000000 in
theorem s_L_law__2397 {p : Program} {l : Launch} {e : Env} {s : State} {m : MethodId} {args : Array Value} {below : List Frame} {meth : Method} {c : Code} {g : GG} {xs : Nat → Int32} {L kb sb : Nat} {v0 : Nat} {v1 : Nat} {v2 : Nat} {v3 : Nat} {Q : Int32 → AH → Prop} {k : Int32 → AH → Prop} (C : CXT p l s m args meth c RL cL_law_ 7 g) (hr : meth.sig.returnType = (some .boolean)) (hS : SX g v0 L xs s) (hkb : kb + 33 ≤ 400000) (hsb : sb + 2669 ≤ 5000000) (hk : ∀ (y4 : Int32) (h : AH), k y4 h → V p l e s m args below meth c g 1050 400000 5000000 7 (kb + 33) (sb + 2669) (MQ below (QCx g (QI Q)) args s 400000 5000000 (gA g)) 23 [(0, .ref v0), (1, .ref v1), (2, .ref v2), (3, .ref v3), (4, .int y4)] [] h) : ∀ (v4 : Int32) (h : AH), w_L_law__2397 xs L k v0 v1 v2 v3 v4 h Q → V p l e s m args below meth c g 1050 400000 5000000 7 (kb + 0) (sb + 0) (MQ below (QCx g (QI Q)) args s 400000 5000000 (gA g)) 2397 [(0, .ref v0), (1, .ref v1), (2, .ref v2), (3, .ref v3), (4, .int v4)] [] h := by
  intro v4 h hw
  refine v_aload_n C dL_law__2397 1 rfl rfl ?_
  refine v_aload_n C dL_law__2398 0 rfl rfl ?_
  refine v_iload C dL_law__2399 4 rfl ?_
  refine v_iconst (v := 1) C dL_law__2401 (by decide) ?_
  refine v_iadd C dL_law__2402 ?_
  refine w_sld C hS dL_law__2403 hw (fun x1 hw => ?_)
  refine v_aload_n C dL_law__2404 0 rfl rfl ?_
  refine v_iload C dL_law__2405 4 rfl ?_
  refine v_iconst (v := 2) C dL_law__2407 (by decide) ?_
  refine v_iadd C dL_law__2408 ?_
  refine w_sld C hS dL_law__2409 hw (fun x2 hw => ?_)
  refine v_aload_n C dL_law__2410 0 rfl rfl ?_
  refine v_iload C dL_law__2411 4 rfl ?_
  refine v_iconst (v := 3) C dL_law__2413 (by decide) ?_
  refine v_iadd C dL_law__2414 ?_
  refine w_sld C hS dL_law__2415 hw (fun x3 hw => ?_)
  refine v_aload_n C dL_law__2416 0 rfl rfl ?_
  refine v_iload C dL_law__2417 4 rfl ?_
  refine v_iconst (v := 4) C dL_law__2419 (by decide) ?_
  refine v_iadd C dL_law__2420 ?_
  refine w_sld C hS dL_law__2421 hw (fun x4 hw => ?_)
  refine v_aload_n C dL_law__2422 0 rfl rfl ?_
  refine v_iload C dL_law__2423 4 rfl ?_
  refine v_iconst (v := 5) C dL_law__2425 (by decide) ?_
  refine v_iadd C dL_law__2426 ?_
  refine w_sld C hS dL_law__2427 hw (fun x5 hw => ?_)
  refine v_if_eq (tgt := 2435) C dL_law__2428 (by decide) (fun c_2428 => ?_) (fun c_2428 => ?_)
  · have hw := hw.1 c_2428
    refine v_iconst (v := 0) C dL_law__2435 (by decide) ?_
    exact s_L_law__2436 C hr hS hkb hsb hk _ _ _ _ _ _ _ _ hw
  · have hw := hw.2 c_2428
    refine v_iconst (v := 1) C dL_law__2431 (by decide) ?_
    refine v_goto (tgt := 2436) C dL_law__2432 (by decide) ?_
    exact s_L_law__2436 C hr hS hkb hsb hk _ _ _ _ _ _ _ _ hw
set_option maxRecDepth 100000 in
set_option maxHeartbeats 4000000 in
theorem s_L_law__2394 {p : Program} {l : Launch} {e : Env} {s : State} {m : MethodId} {args : Array Value} {below : List Frame} {meth : Method} {c : Code} {g : GG} {xs : Nat → Int32} {L kb sb : Nat} {v0 : Nat} {v1 : Nat} {v2 : Nat} {v3 : Nat} {Q : Int32 → AH → Prop} {k : Int32 → AH → Prop} (C : CXT p l s m args meth c RL cL_law_ 7 g) (hr : meth.sig.returnType = (some .boolean)) (hS : SX g v0 L xs s) (hkb : kb + 33 ≤ 400000) (hsb : sb + 2669 ≤ 5000000) (hk : ∀ (y4 : Int32) (h : AH), k y4 h → V p l e s m args below meth c g 1050 400000 5000000 7 (kb + 33) (sb + 2669) (MQ below (QCx g (QI Q)) args s 400000 5000000 (gA g)) 23 [(0, .ref v0), (1, .ref v1), (2, .ref v2), (3, .ref v3), (4, .int y4)] [] h) : ∀ (v4 : Int32) (h : AH), w_L_law__2394 xs L k v0 v1 v2 v3 v4 h Q → V p l e s m args below meth c g 1050 400000 5000000 7 (kb + 2) (sb + 12) (MQ below (QCx g (QI Q)) args s 400000 5000000 (gA g)) 2394 [(0, .ref v0), (1, .ref v1), (2, .ref v2), (3, .ref v3), (4, .int v4)] [] h := by
  intro v4 h hw
  refine v_goto (tgt := 2741) C dL_law__2394 (by decide) ?_
  refine v_cells (kc' := kb + 33) (ks' := sb + 2669) (by first | decide | omega) (by first | decide | omega) ?_
  exact s_L_law__2741 C hr hS hkb hsb hk _ _ hw
set_option maxRecDepth 100000 in
set_option maxHeartbeats 4000000 in
theorem s_L_law__2341 {p : Program} {l : Launch} {e : Env} {s : State} {m : MethodId} {args : Array Value} {below : List Frame} {meth : Method} {c : Code} {g : GG} {xs : Nat → Int32} {L kb sb : Nat} {v0 : Nat} {v1 : Nat} {v2 : Nat} {v3 : Nat} {Q : Int32 → AH → Prop} {k : Int32 → AH → Prop} (C : CXT p l s m args meth c RL cL_law_ 7 g) (hr : meth.sig.returnType = (some .boolean)) (hS : SX g v0 L xs s) (hkb : kb + 33 ≤ 400000) (hsb : sb + 2669 ≤ 5000000) (hk : ∀ (y4 : Int32) (h : AH), k y4 h → V p l e s m args below meth c g 1050 400000 5000000 7 (kb + 33) (sb + 2669) (MQ below (QCx g (QI Q)) args s 400000 5000000 (gA g)) 23 [(0, .ref v0), (1, .ref v1), (2, .ref v2), (3, .ref v3), (4, .int y4)] [] h) : ∀ (v4 : Int32) (h : AH), w_L_law__2341 xs L k v0 v1 v2 v3 v4 h Q → V p l e s m args below meth c g 1050 400000 5000000 7 (kb + 0) (sb + 0) (MQ below (QCx g (QI Q)) args s 400000 5000000 (gA g)) 2341 [(0, .ref v0), (1, .ref v1), (2, .ref v2), (3, .ref v3), (4, .int v4)] [] h := by
  intro v4 h hw
  refine v_aload_n C dL_law__2341 1 rfl rfl ?_
  refine v_aload_n C dL_law__2342 0 rfl rfl ?_
  refine v_iload C dL_law__2343 4 rfl ?_
  refine v_iconst (v := 1) C dL_law__2345 (by decide) ?_
  refine v_iadd C dL_law__2346 ?_
  refine w_sld C hS dL_law__2347 hw (fun x1 hw => ?_)
  refine v_aload_n C dL_law__2348 3 rfl rfl ?_
  refine v_callHS (st := []) C (tb7 (List.mem_of_getElem? (i := 1) rfl)) (tb7 (List.mem_of_getElem? (i := 3) rfl)) rfl (tb1 (List.mem_of_getElem? (i := 0) rfl)) ⟨by decide, by decide⟩ (n := 3) (by decide +kernel) (tb7 (List.mem_of_getElem? (i := 2) rfl)) (s_L_who hw) rfl dL_law__2349 rfl (by first | decide | omega) (by first | decide | omega) (by first | decide | omega) (by first | decide | omega) (by first | decide | omega) (fun x2 h hw => ?_)
  refine v_istore (ls' := [(5, .int x2), (0, .ref v0), (1, .ref v1), (2, .ref v2), (3, .ref v3), (4, .int v4)]) C dL_law__2352 (by decide) rfl ?_
  refine v_aload_n C dL_law__2354 3 rfl rfl ?_
  refine v_aload_n C dL_law__2355 1 rfl rfl ?_
  refine v_iload C dL_law__2356 5 rfl ?_
  refine v_iconst (v := 1) C dL_law__2358 (by decide) ?_
  refine v_iadd C dL_law__2359 ?_
  refine w_sld C hS dL_law__2360 hw (fun x3 hw => ?_)
  refine w_callVi (st := []) C cl_L_254 im_X12_who se_X12_who rfl hw.1 (s_X12_who hw.2) rfl dL_law__2361 rfl (by first | decide | omega) (by omega) (by first | decide | omega) (by first | decide | omega) (by first | decide | omega) (fun x4 h hw => ?_)
  refine v_istore (ls' := [(6, .int x4), (5, .int x2), (0, .ref v0), (1, .ref v1), (2, .ref v2), (3, .ref v3), (4, .int v4)]) C dL_law__2364 (by decide) rfl ?_
  refine v_aload_n C dL_law__2366 4 rfl rfl ?_
  refine w_callVi (st := []) C cl_L_146 im_X12_thrown se_X12_thrown rfl hw.1 (s_X12_thrown hw.2) rfl dL_law__2367 rfl (by first | decide | omega) (by omega) (by first | decide | omega) (by first | decide | omega) (by first | decide | omega) (fun x5 h hw => ?_)
  refine v_iload C dL_law__2370 1 rfl ?_
  refine v_icmp_eq (tgt := 2377) C dL_law__2372 (by decide) (fun c_2372 => ?_) (fun c_2372 => ?_)
  · have hw := hw.1 c_2372
    refine v_iload C dL_law__2377 1 rfl ?_
    refine v_if_ne (tgt := 2394) C dL_law__2379 (by decide) (fun c_2379 => ?_) (fun c_2379 => ?_)
    · have hw := hw.2 c_2379
      refine v_sub [2, 3, 4, 5, 6] rfl ?_
      exact s_L_law__2394 C hr hS hkb hsb hk _ _ hw
    · have hw := hw.1 c_2379
      refine v_aload_n C dL_law__2382 5 rfl rfl ?_
      refine v_iconst (v := 0) C dL_law__2383 (by decide) ?_
      refine w_laload C dL_law__2384 hw (fun j6 hw => ?_)
      refine v_iload C dL_law__2385 0 rfl ?_
      refine v_i2l C dL_law__2387 ?_
      refine v_lcmp C dL_law__2388 ?_
      refine v_if_eq (tgt := 2394) C dL_law__2389 (by decide) (fun c_2389 => ?_) (fun c_2389 => ?_)
      · have hw := hw.1 c_2389
        refine v_sub [2, 3, 4, 5, 6] rfl ?_
        exact s_L_law__2394 C hr hS hkb hsb hk _ _ hw
      · have hw := hw.2 c_2389
        refine v_iconst (v := 0) C dL_law__2392 (by decide) ?_
        exact (rt_MQ C _).2.1 _ _ _ _ _ _ _ hr rfl dL_law__2393 (by first | decide | omega) (by first | decide | omega) ⟨_, rfl, hw⟩
  · have hw := hw.2 c_2372
    refine v_iconst (v := 0) C dL_law__2375 (by decide) ?_
    exact (rt_MQ C _).2.1 _ _ _ _ _ _ _ hr rfl dL_law__2376 (by first | decide | omega) (by first | decide | omega) ⟨_, rfl, hw⟩
set_option maxRecDepth 100000 in
set_option maxHeartbeats 4000000 in
theorem s_L_law__2328 {p : Program} {l : Launch} {e : Env} {s : State} {m : MethodId} {args : Array Value} {below : List Frame} {meth : Method} {c : Code} {g : GG} {xs : Nat → Int32} {L kb sb : Nat} {v0 : Nat} {v1 : Nat} {v2 : Nat} {v3 : Nat} {Q : Int32 → AH → Prop} {k : Int32 → AH → Prop} (C : CXT p l s m args meth c RL cL_law_ 7 g) (hr : meth.sig.returnType = (some .boolean)) (hS : SX g v0 L xs s) (hkb : kb + 33 ≤ 400000) (hsb : sb + 2669 ≤ 5000000) (hk : ∀ (y4 : Int32) (h : AH), k y4 h → V p l e s m args below meth c g 1050 400000 5000000 7 (kb + 33) (sb + 2669) (MQ below (QCx g (QI Q)) args s 400000 5000000 (gA g)) 23 [(0, .ref v0), (1, .ref v1), (2, .ref v2), (3, .ref v3), (4, .int y4)] [] h) : ∀ (v4 : Int32) (h : AH), w_L_law__2328 xs L k v0 v1 v2 v3 v4 h Q → V p l e s m args below meth c g 1050 400000 5000000 7 (kb + 0) (sb + 0) (MQ below (QCx g (QI Q)) args s 400000 5000000 (gA g)) 2328 [(0, .ref v0), (1, .ref v1), (2, .ref v2), (3, .ref v3), (4, .int v4)] [] h := by
  intro v4 h hw
  refine v_aload_n C dL_law__2328 1 rfl rfl ?_
  refine w_callVi (st := []) C cl_L_248 im_X11_apart se_X11_apart rfl hw.1 (s_X11_apart hw.2) rfl dL_law__2329 rfl (by first | decide | omega) (by omega) (by first | decide | omega) (by first | decide | omega) (by first | decide | omega) (fun x1 h hw => ?_)
  refine v_aload_n C dL_law__2332 2 rfl rfl ?_
  refine w_callVi (st := [.int x1]) C cl_L_251 im_X12_apart se_X12_apart rfl hw.1 (s_X12_apart hw.2) rfl dL_law__2333 rfl (Nat.le_of_ble_eq_true rfl) (by omega) (by first | decide | omega) (by first | decide | omega) (by first | decide | omega) (fun x2 h hw => ?_)
  refine v_icmp_eq (tgt := 2741) C dL_law__2336 (by decide) (fun c_2336 => ?_) (fun c_2336 => ?_)
  · have hw := hw.1 c_2336
    refine v_cells (kc' := kb + 33) (ks' := sb + 2669) (by first | decide | omega) (by first | decide | omega) ?_
    exact s_L_law__2741 C hr hS hkb hsb hk _ _ hw
  · have hw := hw.2 c_2336
    refine v_iconst (v := 0) C dL_law__2339 (by decide) ?_
    exact (rt_MQ C _).2.1 _ _ _ _ _ _ _ hr rfl dL_law__2340 (by first | decide | omega) (by first | decide | omega) ⟨_, rfl, hw⟩
set_option maxRecDepth 100000 in
set_option maxHeartbeats 4000000 in
theorem s_L_law__2325 {p : Program} {l : Launch} {e : Env} {s : State} {m : MethodId} {args : Array Value} {below : List Frame} {meth : Method} {c : Code} {g : GG} {xs : Nat → Int32} {L kb sb : Nat} {v0 : Nat} {v1 : Nat} {v2 : Nat} {v3 : Nat} {Q : Int32 → AH → Prop} {k : Int32 → AH → Prop} (C : CXT p l s m args meth c RL cL_law_ 7 g) (hr : meth.sig.returnType = (some .boolean)) (hS : SX g v0 L xs s) (hkb : kb + 33 ≤ 400000) (hsb : sb + 2669 ≤ 5000000) (hk : ∀ (y4 : Int32) (h : AH), k y4 h → V p l e s m args below meth c g 1050 400000 5000000 7 (kb + 33) (sb + 2669) (MQ below (QCx g (QI Q)) args s 400000 5000000 (gA g)) 23 [(0, .ref v0), (1, .ref v1), (2, .ref v2), (3, .ref v3), (4, .int y4)] [] h) : ∀ (v4 : Int32) (h : AH), w_L_law__2325 xs L k v0 v1 v2 v3 v4 h Q → V p l e s m args below meth c g 1050 400000 5000000 7 (kb + 2) (sb + 12) (MQ below (QCx g (QI Q)) args s 400000 5000000 (gA g)) 2325 [(0, .ref v0), (1, .ref v1), (2, .ref v2), (3, .ref v3), (4, .int v4)] [] h := by
  intro v4 h hw
  refine v_goto (tgt := 2741) C dL_law__2325 (by decide) ?_
  refine v_cells (kc' := kb + 33) (ks' := sb + 2669) (by first | decide | omega) (by first | decide | omega) ?_
  exact s_L_law__2741 C hr hS hkb hsb hk _ _ hw
set_option maxRecDepth 100000 in
set_option maxHeartbeats 4000000 in
theorem s_L_law__2319 {p : Program} {l : Launch} {e : Env} {s : State} {m : MethodId} {args : Array Value} {below : List Frame} {meth : Method} {c : Code} {g : GG} {xs : Nat → Int32} {L kb sb : Nat} {v0 : Nat} {v1 : Nat} {v2 : Nat} {v3 : Nat} {Q : Int32 → AH → Prop} {k : Int32 → AH → Prop} (C : CXT p l s m args meth c RL cL_law_ 7 g) (hr : meth.sig.returnType = (some .boolean)) (hS : SX g v0 L xs s) (hkb : kb + 33 ≤ 400000) (hsb : sb + 2669 ≤ 5000000) (hk : ∀ (y4 : Int32) (h : AH), k y4 h → V p l e s m args below meth c g 1050 400000 5000000 7 (kb + 33) (sb + 2669) (MQ below (QCx g (QI Q)) args s 400000 5000000 (gA g)) 23 [(0, .ref v0), (1, .ref v1), (2, .ref v2), (3, .ref v3), (4, .int y4)] [] h) : ∀ (v4 : Int32) (t0 : Int64) (t1 : Int64) (h : AH), w_L_law__2319 xs L k v0 v1 v2 v3 v4 t0 t1 h Q → V p l e s m args below meth c g 1050 400000 5000000 7 (kb + 2) (sb + 12) (MQ below (QCx g (QI Q)) args s 400000 5000000 (gA g)) 2319 [(0, .ref v0), (1, .ref v1), (2, .ref v2), (3, .ref v3), (4, .int v4)] [.long t1, .long t0] h := by
  intro v4 t0 t1 h hw
  refine v_lcmp C dL_law__2319 ?_
  refine v_if_eq (tgt := 2325) C dL_law__2320 (by decide) (fun c_2320 => ?_) (fun c_2320 => ?_)
  · have hw := hw.1 c_2320
    exact s_L_law__2325 C hr hS hkb hsb hk _ _ hw
  · have hw := hw.2 c_2320
    refine v_iconst (v := 0) C dL_law__2323 (by decide) ?_
    exact (rt_MQ C _).2.1 _ _ _ _ _ _ _ hr rfl dL_law__2324 (by first | decide | omega) (by first | decide | omega) ⟨_, rfl, hw⟩
set_option maxRecDepth 100000 in
set_option maxHeartbeats 4000000 in
theorem s_L_law__2253 {p : Program} {l : Launch} {e : Env} {s : State} {m : MethodId} {args : Array Value} {below : List Frame} {meth : Method} {c : Code} {g : GG} {xs : Nat → Int32} {L kb sb : Nat} {v0 : Nat} {v1 : Nat} {v2 : Nat} {v3 : Nat} {Q : Int32 → AH → Prop} {k : Int32 → AH → Prop} (C : CXT p l s m args meth c RL cL_law_ 7 g) (hr : meth.sig.returnType = (some .boolean)) (hS : SX g v0 L xs s) (hkb : kb + 33 ≤ 400000) (hsb : sb + 2669 ≤ 5000000) (hk : ∀ (y4 : Int32) (h : AH), k y4 h → V p l e s m args below meth c g 1050 400000 5000000 7 (kb + 33) (sb + 2669) (MQ below (QCx g (QI Q)) args s 400000 5000000 (gA g)) 23 [(0, .ref v0), (1, .ref v1), (2, .ref v2), (3, .ref v3), (4, .int y4)] [] h) : ∀ (v4 : Int32) (h : AH), w_L_law__2253 xs L k v0 v1 v2 v3 v4 h Q → V p l e s m args below meth c g 1050 400000 5000000 7 (kb + 0) (sb + 0) (MQ below (QCx g (QI Q)) args s 400000 5000000 (gA g)) 2253 [(0, .ref v0), (1, .ref v1), (2, .ref v2), (3, .ref v3), (4, .int v4)] [] h := by
  intro v4 h hw
  refine v_aload_n C dL_law__2253 1 rfl rfl ?_
  refine v_aload_n C dL_law__2254 0 rfl rfl ?_
  refine v_iload C dL_law__2255 4 rfl ?_
  refine v_iconst (v := 1) C dL_law__2257 (by decide) ?_
  refine v_iadd C dL_law__2258 ?_
  refine w_sld C hS dL_law__2259 hw (fun x1 hw => ?_)
  refine v_aload_n C dL_law__2260 0 rfl rfl ?_
  refine v_iload C dL_law__2261 4 rfl ?_
  refine v_iconst (v := 2) C dL_law__2263 (by decide) ?_
  refine v_iadd C dL_law__2264 ?_
  refine w_sld C hS dL_law__2265 hw (fun x2 hw => ?_)
  refine v_aload_n C dL_law__2266 3 rfl rfl ?_
  refine v_callHS (st := []) C (tb6 (List.mem_of_getElem? (i := 233) rfl)) (tb6 (List.mem_of_getElem? (i := 235) rfl)) rfl (tb1 (List.mem_of_getElem? (i := 0) rfl)) ⟨by decide, by decide⟩ (n := 4) (by decide +kernel) (tb6 (List.mem_of_getElem? (i := 234) rfl)) (s_L_talked hw) rfl dL_law__2267 rfl (by first | decide | omega) (by first | decide | omega) (by first | decide | omega) (by first | decide | omega) (by first | decide | omega) (fun x3 h hw => ?_)
  refine v_istore (ls' := [(5, .int x3), (0, .ref v0), (1, .ref v1), (2, .ref v2), (3, .ref v3), (4, .int v4)]) C dL_law__2270 (by decide) rfl ?_
  refine v_aload_n C dL_law__2272 3 rfl rfl ?_
  refine v_aload_n C dL_law__2273 1 rfl rfl ?_
  refine v_iload C dL_law__2274 5 rfl ?_
  refine v_iconst (v := 1) C dL_law__2276 (by decide) ?_
  refine v_iadd C dL_law__2277 ?_
  refine w_sld C hS dL_law__2278 hw (fun x4 hw => ?_)
  refine v_aload_n C dL_law__2279 1 rfl rfl ?_
  refine v_iload C dL_law__2280 5 rfl ?_
  refine v_iconst (v := 2) C dL_law__2282 (by decide) ?_
  refine v_iadd C dL_law__2283 ?_
  refine w_sld C hS dL_law__2284 hw (fun x5 hw => ?_)
  refine w_callVi (st := []) C cl_L_247 im_X12_talked se_X12_talked rfl hw.1 (s_X12_talked hw.2) rfl dL_law__2285 rfl (by first | decide | omega) (by omega) (by first | decide | omega) (by first | decide | omega) (by first | decide | omega) (fun x6 h hw => ?_)
  refine v_istore (ls' := [(6, .int x6), (5, .int x3), (0, .ref v0), (1, .ref v1), (2, .ref v2), (3, .ref v3), (4, .int v4)]) C dL_law__2288 (by decide) rfl ?_
  refine v_aload_n C dL_law__2290 4 rfl rfl ?_
  refine w_callVi (st := []) C cl_L_146 im_X12_thrown se_X12_thrown rfl hw.1 (s_X12_thrown hw.2) rfl dL_law__2291 rfl (by first | decide | omega) (by omega) (by first | decide | omega) (by first | decide | omega) (by first | decide | omega) (fun x7 h hw => ?_)
  refine v_iload C dL_law__2294 1 rfl ?_
  refine v_icmp_eq (tgt := 2301) C dL_law__2296 (by decide) (fun c_2296 => ?_) (fun c_2296 => ?_)
  · have hw := hw.1 c_2296
    refine v_iload C dL_law__2301 1 rfl ?_
    refine v_if_ne (tgt := 2325) C dL_law__2303 (by decide) (fun c_2303 => ?_) (fun c_2303 => ?_)
    · have hw := hw.2 c_2303
      refine v_sub [2, 3, 4, 5, 6] rfl ?_
      exact s_L_law__2325 C hr hS hkb hsb hk _ _ hw
    · have hw := hw.1 c_2303
      refine v_aload_n C dL_law__2306 5 rfl rfl ?_
      refine v_iconst (v := 0) C dL_law__2307 (by decide) ?_
      refine w_laload C dL_law__2308 hw (fun j8 hw => ?_)
      refine v_iload C dL_law__2309 0 rfl ?_
      refine v_if_eq (tgt := 2318) C dL_law__2311 (by decide) (fun c_2311 => ?_) (fun c_2311 => ?_)
      · have hw := hw.1 c_2311
        refine v_lconst (v := 0) C dL_law__2318 (by decide) ?_
        refine v_sub [2, 3, 4, 5, 6] rfl ?_
        exact s_L_law__2319 C hr hS hkb hsb hk _ _ _ _ hw
      · have hw := hw.2 c_2311
        refine v_lconst (v := 1) C dL_law__2314 (by decide) ?_
        refine v_goto (tgt := 2319) C dL_law__2315 (by decide) ?_
        refine v_sub [2, 3, 4, 5, 6] rfl ?_
        exact s_L_law__2319 C hr hS hkb hsb hk _ _ _ _ hw
  · have hw := hw.2 c_2296
    refine v_iconst (v := 0) C dL_law__2299 (by decide) ?_
    exact (rt_MQ C _).2.1 _ _ _ _ _ _ _ hr rfl dL_law__2300 (by first | decide | omega) (by first | decide | omega) ⟨_, rfl, hw⟩
set_option maxRecDepth 100000 in
set_option maxHeartbeats 4000000 in
theorem s_L_law__2250 {p : Program} {l : Launch} {e : Env} {s : State} {m : MethodId} {args : Array Value} {below : List Frame} {meth : Method} {c : Code} {g : GG} {xs : Nat → Int32} {L kb sb : Nat} {v0 : Nat} {v1 : Nat} {v2 : Nat} {v3 : Nat} {Q : Int32 → AH → Prop} {k : Int32 → AH → Prop} (C : CXT p l s m args meth c RL cL_law_ 7 g) (hr : meth.sig.returnType = (some .boolean)) (hS : SX g v0 L xs s) (hkb : kb + 33 ≤ 400000) (hsb : sb + 2669 ≤ 5000000) (hk : ∀ (y4 : Int32) (h : AH), k y4 h → V p l e s m args below meth c g 1050 400000 5000000 7 (kb + 33) (sb + 2669) (MQ below (QCx g (QI Q)) args s 400000 5000000 (gA g)) 23 [(0, .ref v0), (1, .ref v1), (2, .ref v2), (3, .ref v3), (4, .int y4)] [] h) : ∀ (v4 : Int32) (h : AH), w_L_law__2250 xs L k v0 v1 v2 v3 v4 h Q → V p l e s m args below meth c g 1050 400000 5000000 7 (kb + 1) (sb + 6) (MQ below (QCx g (QI Q)) args s 400000 5000000 (gA g)) 2250 [(0, .ref v0), (1, .ref v1), (2, .ref v2), (3, .ref v3), (4, .int v4)] [] h := by
  intro v4 h hw
  refine v_goto (tgt := 2741) C dL_law__2250 (by decide) ?_
  refine v_cells (kc' := kb + 33) (ks' := sb + 2669) (by first | decide | omega) (by first | decide | omega) ?_
  exact s_L_law__2741 C hr hS hkb hsb hk _ _ hw
set_option maxRecDepth 100000 in
set_option maxHeartbeats 4000000 in
theorem s_L_law__2244 {p : Program} {l : Launch} {e : Env} {s : State} {m : MethodId} {args : Array Value} {below : List Frame} {meth : Method} {c : Code} {g : GG} {xs : Nat → Int32} {L kb sb : Nat} {v0 : Nat} {v1 : Nat} {v2 : Nat} {v3 : Nat} {Q : Int32 → AH → Prop} {k : Int32 → AH → Prop} (C : CXT p l s m args meth c RL cL_law_ 7 g) (hr : meth.sig.returnType = (some .boolean)) (hS : SX g v0 L xs s) (hkb : kb + 33 ≤ 400000) (hsb : sb + 2669 ≤ 5000000) (hk : ∀ (y4 : Int32) (h : AH), k y4 h → V p l e s m args below meth c g 1050 400000 5000000 7 (kb + 33) (sb + 2669) (MQ below (QCx g (QI Q)) args s 400000 5000000 (gA g)) 23 [(0, .ref v0), (1, .ref v1), (2, .ref v2), (3, .ref v3), (4, .int y4)] [] h) : ∀ (v4 : Int32) (t0 : Int64) (t1 : Int64) (h : AH), w_L_law__2244 xs L k v0 v1 v2 v3 v4 t0 t1 h Q → V p l e s m args below meth c g 1050 400000 5000000 7 (kb + 1) (sb + 6) (MQ below (QCx g (QI Q)) args s 400000 5000000 (gA g)) 2244 [(0, .ref v0), (1, .ref v1), (2, .ref v2), (3, .ref v3), (4, .int v4)] [.long t1, .long t0] h := by
  intro v4 t0 t1 h hw
  refine v_lcmp C dL_law__2244 ?_
  refine v_if_eq (tgt := 2250) C dL_law__2245 (by decide) (fun c_2245 => ?_) (fun c_2245 => ?_)
  · have hw := hw.1 c_2245
    exact s_L_law__2250 C hr hS hkb hsb hk _ _ hw
  · have hw := hw.2 c_2245
    refine v_iconst (v := 0) C dL_law__2248 (by decide) ?_
    exact (rt_MQ C _).2.1 _ _ _ _ _ _ _ hr rfl dL_law__2249 (by first | decide | omega) (by first | decide | omega) ⟨_, rfl, hw⟩
set_option maxRecDepth 100000 in
set_option maxHeartbeats 4000000 in
theorem s_L_law__2210 {p : Program} {l : Launch} {e : Env} {s : State} {m : MethodId} {args : Array Value} {below : List Frame} {meth : Method} {c : Code} {g : GG} {xs : Nat → Int32} {L kb sb : Nat} {v0 : Nat} {v1 : Nat} {v2 : Nat} {v3 : Nat} {Q : Int32 → AH → Prop} {k : Int32 → AH → Prop} (C : CXT p l s m args meth c RL cL_law_ 7 g) (hr : meth.sig.returnType = (some .boolean)) (hS : SX g v0 L xs s) (hkb : kb + 33 ≤ 400000) (hsb : sb + 2669 ≤ 5000000) (hk : ∀ (y4 : Int32) (h : AH), k y4 h → V p l e s m args below meth c g 1050 400000 5000000 7 (kb + 33) (sb + 2669) (MQ below (QCx g (QI Q)) args s 400000 5000000 (gA g)) 23 [(0, .ref v0), (1, .ref v1), (2, .ref v2), (3, .ref v3), (4, .int y4)] [] h) : ∀ (v4 : Int32) (v5 : Int32) (t0 : Nat) (t1 : Int32) (t2 : Int32) (h : AH), w_L_law__2210 xs L k v0 v1 v2 v3 v4 v5 t0 t1 t2 h Q → V p l e s m args below meth c g 1050 400000 5000000 7 (kb + 1) (sb + 6) (MQ below (QCx g (QI Q)) args s 400000 5000000 (gA g)) 2210 [(0, .ref v0), (1, .ref v1), (2, .ref v2), (3, .ref v3), (4, .int v4), (5, .int v5)] [.int t2, .int t1, .ref t0] h := by
  intro v4 v5 t0 t1 t2 h hw
  refine w_callVi (st := []) C cl_L_244 im_X12_could se_X12_could rfl hw.1 (s_X12_could hw.2) rfl dL_law__2210 rfl (by first | decide | omega) (by omega) (by first | decide | omega) (by first | decide | omega) (by first | decide | omega) (fun x1 h hw => ?_)
  refine v_istore (ls' := [(6, .int x1), (0, .ref v0), (1, .ref v1), (2, .ref v2), (3, .ref v3), (4, .int v4), (5, .int v5)]) C dL_law__2213 (by decide) rfl ?_
  refine v_aload_n C dL_law__2215 3 rfl rfl ?_
  refine w_callVi (st := []) C cl_L_146 im_X12_thrown se_X12_thrown rfl hw.1 (s_X12_thrown hw.2) rfl dL_law__2216 rfl (by first | decide | omega) (by omega) (by first | decide | omega) (by first | decide | omega) (by first | decide | omega) (fun x2 h hw => ?_)
  refine v_iload C dL_law__2219 6 rfl ?_
  refine v_icmp_eq (tgt := 2226) C dL_law__2221 (by decide) (fun c_2221 => ?_) (fun c_2221 => ?_)
  · have hw := hw.1 c_2221
    refine v_iload C dL_law__2226 6 rfl ?_
    refine v_if_ne (tgt := 2250) C dL_law__2228 (by decide) (fun c_2228 => ?_) (fun c_2228 => ?_)
    · have hw := hw.2 c_2228
      refine v_sub [1, 2, 3, 4, 5] rfl ?_
      exact s_L_law__2250 C hr hS hkb hsb hk _ _ hw
    · have hw := hw.1 c_2228
      refine v_aload_n C dL_law__2231 4 rfl rfl ?_
      refine v_iconst (v := 0) C dL_law__2232 (by decide) ?_
      refine w_laload C dL_law__2233 hw (fun j3 hw => ?_)
      refine v_iload C dL_law__2234 0 rfl ?_
      refine v_if_eq (tgt := 2243) C dL_law__2236 (by decide) (fun c_2236 => ?_) (fun c_2236 => ?_)
      · have hw := hw.1 c_2236
        refine v_lconst (v := 0) C dL_law__2243 (by decide) ?_
        refine v_sub [1, 2, 3, 4, 5] rfl ?_
        exact s_L_law__2244 C hr hS hkb hsb hk _ _ _ _ hw
      · have hw := hw.2 c_2236
        refine v_lconst (v := 1) C dL_law__2239 (by decide) ?_
        refine v_goto (tgt := 2244) C dL_law__2240 (by decide) ?_
        refine v_sub [1, 2, 3, 4, 5] rfl ?_
        exact s_L_law__2244 C hr hS hkb hsb hk _ _ _ _ hw
  · have hw := hw.2 c_2221
    refine v_iconst (v := 0) C dL_law__2224 (by decide) ?_
    exact (rt_MQ C _).2.1 _ _ _ _ _ _ _ hr rfl dL_law__2225 (by first | decide | omega) (by first | decide | omega) ⟨_, rfl, hw⟩
set_option maxRecDepth 100000 in
set_option maxHeartbeats 4000000 in
theorem s_L_law__2183 {p : Program} {l : Launch} {e : Env} {s : State} {m : MethodId} {args : Array Value} {below : List Frame} {meth : Method} {c : Code} {g : GG} {xs : Nat → Int32} {L kb sb : Nat} {v0 : Nat} {v1 : Nat} {v2 : Nat} {v3 : Nat} {Q : Int32 → AH → Prop} {k : Int32 → AH → Prop} (C : CXT p l s m args meth c RL cL_law_ 7 g) (hr : meth.sig.returnType = (some .boolean)) (hS : SX g v0 L xs s) (hkb : kb + 33 ≤ 400000) (hsb : sb + 2669 ≤ 5000000) (hk : ∀ (y4 : Int32) (h : AH), k y4 h → V p l e s m args below meth c g 1050 400000 5000000 7 (kb + 33) (sb + 2669) (MQ below (QCx g (QI Q)) args s 400000 5000000 (gA g)) 23 [(0, .ref v0), (1, .ref v1), (2, .ref v2), (3, .ref v3), (4, .int y4)] [] h) : ∀ (v4 : Int32) (t0 : Nat) (t1 : Int32) (t2 : Int32) (h : AH), w_L_law__2183 xs L k v0 v1 v2 v3 v4 t0 t1 t2 h Q → V p l e s m args below meth c g 1050 400000 5000000 7 (kb + 0) (sb + 0) (MQ below (QCx g (QI Q)) args s 400000 5000000 (gA g)) 2183 [(0, .ref v0), (1, .ref v1), (2, .ref v2), (3, .ref v3), (4, .int v4)] [.int t2, .int t1, .ref t0] h := by
  intro v4 t0 t1 t2 h hw
  refine v_aload_n C dL_law__2183 3 rfl rfl ?_
  refine v_callHS (st := []) C (tb6 (List.mem_of_getElem? (i := 224) rfl)) (tb6 (List.mem_of_getElem? (i := 226) rfl)) rfl (tb1 (List.mem_of_getElem? (i := 0) rfl)) ⟨by decide, by decide⟩ (n := 4) (by decide +kernel) (tb6 (List.mem_of_getElem? (i := 225) rfl)) (s_L_could hw) rfl dL_law__2184 rfl (by first | decide | omega) (by first | decide | omega) (by first | decide | omega) (by first | decide | omega) (by first | decide | omega) (fun x1 h hw => ?_)
  refine v_istore (ls' := [(5, .int x1), (0, .ref v0), (1, .ref v1), (2, .ref v2), (3, .ref v3), (4, .int v4)]) C dL_law__2187 (by decide) rfl ?_
  refine v_aload_n C dL_law__2189 3 rfl rfl ?_
  refine v_aload_n C dL_law__2190 1 rfl rfl ?_
  refine v_iload C dL_law__2191 5 rfl ?_
  refine v_iconst (v := 1) C dL_law__2193 (by decide) ?_
  refine v_iadd C dL_law__2194 ?_
  refine w_sld C hS dL_law__2195 hw (fun x2 hw => ?_)
  refine v_aload_n C dL_law__2196 1 rfl rfl ?_
  refine v_iload C dL_law__2197 5 rfl ?_
  refine v_iconst (v := 2) C dL_law__2199 (by decide) ?_
  refine v_iadd C dL_law__2200 ?_
  refine w_sld C hS dL_law__2201 hw (fun x3 hw => ?_)
  refine v_if_eq (tgt := 2209) C dL_law__2202 (by decide) (fun c_2202 => ?_) (fun c_2202 => ?_)
  · have hw := hw.1 c_2202
    refine v_iconst (v := 0) C dL_law__2209 (by decide) ?_
    refine v_sub [1, 2, 3, 4, 5, 0] rfl ?_
    exact s_L_law__2210 C hr hS hkb hsb hk _ _ _ _ _ _ hw
  · have hw := hw.2 c_2202
    refine v_iconst (v := 1) C dL_law__2205 (by decide) ?_
    refine v_goto (tgt := 2210) C dL_law__2206 (by decide) ?_
    refine v_sub [1, 2, 3, 4, 5, 0] rfl ?_
    exact s_L_law__2210 C hr hS hkb hsb hk _ _ _ _ _ _ hw
set_option maxRecDepth 100000 in
set_option maxHeartbeats 4000000 in
theorem s_L_law__2162 {p : Program} {l : Launch} {e : Env} {s : State} {m : MethodId} {args : Array Value} {below : List Frame} {meth : Method} {c : Code} {g : GG} {xs : Nat → Int32} {L kb sb : Nat} {v0 : Nat} {v1 : Nat} {v2 : Nat} {v3 : Nat} {Q : Int32 → AH → Prop} {k : Int32 → AH → Prop} (C : CXT p l s m args meth c RL cL_law_ 7 g) (hr : meth.sig.returnType = (some .boolean)) (hS : SX g v0 L xs s) (hkb : kb + 33 ≤ 400000) (hsb : sb + 2669 ≤ 5000000) (hk : ∀ (y4 : Int32) (h : AH), k y4 h → V p l e s m args below meth c g 1050 400000 5000000 7 (kb + 33) (sb + 2669) (MQ below (QCx g (QI Q)) args s 400000 5000000 (gA g)) 23 [(0, .ref v0), (1, .ref v1), (2, .ref v2), (3, .ref v3), (4, .int y4)] [] h) : ∀ (v4 : Int32) (h : AH), w_L_law__2162 xs L k v0 v1 v2 v3 v4 h Q → V p l e s m args below meth c g 1050 400000 5000000 7 (kb + 0) (sb + 0) (MQ below (QCx g (QI Q)) args s 400000 5000000 (gA g)) 2162 [(0, .ref v0), (1, .ref v1), (2, .ref v2), (3, .ref v3), (4, .int v4)] [] h := by
  intro v4 h hw
  refine v_aload_n C dL_law__2162 1 rfl rfl ?_
  refine v_aload_n C dL_law__2163 0 rfl rfl ?_
  refine v_iload C dL_law__2164 4 rfl ?_
  refine v_iconst (v := 1) C dL_law__2166 (by decide) ?_
  refine v_iadd C dL_law__2167 ?_
  refine w_sld C hS dL_law__2168 hw (fun x1 hw => ?_)
  refine v_aload_n C dL_law__2169 0 rfl rfl ?_
  refine v_iload C dL_law__2170 4 rfl ?_
  refine v_iconst (v := 2) C dL_law__2172 (by decide) ?_
  refine v_iadd C dL_law__2173 ?_
  refine w_sld C hS dL_law__2174 hw (fun x2 hw => ?_)
  refine v_if_eq (tgt := 2182) C dL_law__2175 (by decide) (fun c_2175 => ?_) (fun c_2175 => ?_)
  · have hw := hw.1 c_2175
    refine v_iconst (v := 0) C dL_law__2182 (by decide) ?_
    exact s_L_law__2183 C hr hS hkb hsb hk _ _ _ _ _ hw
  · have hw := hw.2 c_2175
    refine v_iconst (v := 1) C dL_law__2178 (by decide) ?_
    refine v_goto (tgt := 2183) C dL_law__2179 (by decide) ?_
    exact s_L_law__2183 C hr hS hkb hsb hk _ _ _ _ _ hw
set_option maxRecDepth 100000 in
set_option maxHeartbeats 4000000 in
theorem s_L_law__2159 {p : Program} {l : Launch} {e : Env} {s : State} {m : MethodId} {args : Array Value} {below : List Frame} {meth : Method} {c : Code} {g : GG} {xs : Nat → Int32} {L kb sb : Nat} {v0 : Nat} {v1 : Nat} {v2 : Nat} {v3 : Nat} {Q : Int32 → AH → Prop} {k : Int32 → AH → Prop} (C : CXT p l s m args meth c RL cL_law_ 7 g) (hr : meth.sig.returnType = (some .boolean)) (hS : SX g v0 L xs s) (hkb : kb + 33 ≤ 400000) (hsb : sb + 2669 ≤ 5000000) (hk : ∀ (y4 : Int32) (h : AH), k y4 h → V p l e s m args below meth c g 1050 400000 5000000 7 (kb + 33) (sb + 2669) (MQ below (QCx g (QI Q)) args s 400000 5000000 (gA g)) 23 [(0, .ref v0), (1, .ref v1), (2, .ref v2), (3, .ref v3), (4, .int y4)] [] h) : ∀ (v4 : Int32) (h : AH), w_L_law__2159 xs L k v0 v1 v2 v3 v4 h Q → V p l e s m args below meth c g 1050 400000 5000000 7 (kb + 4) (sb + 24) (MQ below (QCx g (QI Q)) args s 400000 5000000 (gA g)) 2159 [(0, .ref v0), (1, .ref v1), (2, .ref v2), (3, .ref v3), (4, .int v4)] [] h := by
  intro v4 h hw
  refine v_goto (tgt := 2741) C dL_law__2159 (by decide) ?_
  refine v_cells (kc' := kb + 33) (ks' := sb + 2669) (by first | decide | omega) (by first | decide | omega) ?_
  exact s_L_law__2741 C hr hS hkb hsb hk _ _ hw
set_option maxRecDepth 100000 in
set_option maxHeartbeats 4000000 in
theorem s_L_law__2082 {p : Program} {l : Launch} {e : Env} {s : State} {m : MethodId} {args : Array Value} {below : List Frame} {meth : Method} {c : Code} {g : GG} {xs : Nat → Int32} {L kb sb : Nat} {v0 : Nat} {v1 : Nat} {v2 : Nat} {v3 : Nat} {Q : Int32 → AH → Prop} {k : Int32 → AH → Prop} (C : CXT p l s m args meth c RL cL_law_ 7 g) (hr : meth.sig.returnType = (some .boolean)) (hS : SX g v0 L xs s) (hkb : kb + 33 ≤ 400000) (hsb : sb + 2669 ≤ 5000000) (hk : ∀ (y4 : Int32) (h : AH), k y4 h → V p l e s m args below meth c g 1050 400000 5000000 7 (kb + 33) (sb + 2669) (MQ below (QCx g (QI Q)) args s 400000 5000000 (gA g)) 23 [(0, .ref v0), (1, .ref v1), (2, .ref v2), (3, .ref v3), (4, .int y4)] [] h) : ∀ (v4 : Int32) (h : AH), w_L_law__2082 xs L k v0 v1 v2 v3 v4 h Q → V p l e s m args below meth c g 1050 400000 5000000 7 (kb + 0) (sb + 0) (MQ below (QCx g (QI Q)) args s 400000 5000000 (gA g)) 2082 [(0, .ref v0), (1, .ref v1), (2, .ref v2), (3, .ref v3), (4, .int v4)] [] h := by
  intro v4 h hw
  refine v_aload_n C dL_law__2082 1 rfl rfl ?_
  refine v_aload_n C dL_law__2083 0 rfl rfl ?_
  refine v_iload C dL_law__2084 4 rfl ?_
  refine v_iconst (v := 1) C dL_law__2086 (by decide) ?_
  refine v_iadd C dL_law__2087 ?_
  refine w_sld C hS dL_law__2088 hw (fun x1 hw => ?_)
  refine v_aload_n C dL_law__2089 0 rfl rfl ?_
  refine v_iload C dL_law__2090 4 rfl ?_
  refine v_iconst (v := 2) C dL_law__2092 (by decide) ?_
  refine v_iadd C dL_law__2093 ?_
  refine w_sld C hS dL_law__2094 hw (fun x2 hw => ?_)
  refine v_aload_n C dL_law__2095 0 rfl rfl ?_
  refine v_iload C dL_law__2096 4 rfl ?_
  refine v_iconst (v := 3) C dL_law__2098 (by decide) ?_
  refine v_iadd C dL_law__2099 ?_
  refine w_sld C hS dL_law__2100 hw (fun x3 hw => ?_)
  refine v_aload_n C dL_law__2101 3 rfl rfl ?_
  refine v_callHS (st := []) C (tb6 (List.mem_of_getElem? (i := 213) rfl)) (tb6 (List.mem_of_getElem? (i := 215) rfl)) rfl (tb1 (List.mem_of_getElem? (i := 0) rfl)) ⟨by decide, by decide⟩ (n := 5) (by decide +kernel) (tb6 (List.mem_of_getElem? (i := 214) rfl)) (s_L_tells hw) rfl dL_law__2102 rfl (by first | decide | omega) (by first | decide | omega) (by first | decide | omega) (by first | decide | omega) (by first | decide | omega) (fun x4 h hw => ?_)
  refine v_istore (ls' := [(5, .int x4), (0, .ref v0), (1, .ref v1), (2, .ref v2), (3, .ref v3), (4, .int v4)]) C dL_law__2105 (by decide) rfl ?_
  refine v_aload_n C dL_law__2107 3 rfl rfl ?_
  refine v_aload_n C dL_law__2108 1 rfl rfl ?_
  refine v_iload C dL_law__2109 5 rfl ?_
  refine v_iconst (v := 1) C dL_law__2111 (by decide) ?_
  refine v_iadd C dL_law__2112 ?_
  refine w_sld C hS dL_law__2113 hw (fun x5 hw => ?_)
  refine v_aload_n C dL_law__2114 1 rfl rfl ?_
  refine v_iload C dL_law__2115 5 rfl ?_
  refine v_iconst (v := 2) C dL_law__2117 (by decide) ?_
  refine v_iadd C dL_law__2118 ?_
  refine w_sld C hS dL_law__2119 hw (fun x6 hw => ?_)
  refine v_aload_n C dL_law__2120 1 rfl rfl ?_
  refine v_iload C dL_law__2121 5 rfl ?_
  refine v_iconst (v := 3) C dL_law__2123 (by decide) ?_
  refine v_iadd C dL_law__2124 ?_
  refine w_sld C hS dL_law__2125 hw (fun x7 hw => ?_)
  refine w_callVi (st := []) C cl_L_241 im_X12_tells se_X12_tells rfl hw.1 (s_X12_tells hw.2) rfl dL_law__2126 rfl (by first | decide | omega) (by omega) (by first | decide | omega) (by first | decide | omega) (by first | decide | omega) (fun x8 h hw => ?_)
  refine v_istore (ls' := [(6, .int x8), (5, .int x4), (0, .ref v0), (1, .ref v1), (2, .ref v2), (3, .ref v3), (4, .int v4)]) C dL_law__2129 (by decide) rfl ?_
  refine v_aload_n C dL_law__2131 4 rfl rfl ?_
  refine w_callVi (st := []) C cl_L_146 im_X12_thrown se_X12_thrown rfl hw.1 (s_X12_thrown hw.2) rfl dL_law__2132 rfl (by first | decide | omega) (by omega) (by first | decide | omega) (by first | decide | omega) (by first | decide | omega) (fun x9 h hw => ?_)
  refine v_iload C dL_law__2135 1 rfl ?_
  refine v_icmp_eq (tgt := 2142) C dL_law__2137 (by decide) (fun c_2137 => ?_) (fun c_2137 => ?_)
  · have hw := hw.1 c_2137
    refine v_iload C dL_law__2142 1 rfl ?_
    refine v_if_ne (tgt := 2159) C dL_law__2144 (by decide) (fun c_2144 => ?_) (fun c_2144 => ?_)
    · have hw := hw.2 c_2144
      refine v_sub [2, 3, 4, 5, 6] rfl ?_
      exact s_L_law__2159 C hr hS hkb hsb hk _ _ hw
    · have hw := hw.1 c_2144
      refine v_aload_n C dL_law__2147 5 rfl rfl ?_
      refine v_iconst (v := 0) C dL_law__2148 (by decide) ?_
      refine w_laload C dL_law__2149 hw (fun j10 hw => ?_)
      refine v_iload C dL_law__2150 0 rfl ?_
      refine v_i2l C dL_law__2152 ?_
      refine v_lcmp C dL_law__2153 ?_
      refine v_if_eq (tgt := 2159) C dL_law__2154 (by decide) (fun c_2154 => ?_) (fun c_2154 => ?_)
      · have hw := hw.1 c_2154
        refine v_sub [2, 3, 4, 5, 6] rfl ?_
        exact s_L_law__2159 C hr hS hkb hsb hk _ _ hw
      · have hw := hw.2 c_2154
        refine v_iconst (v := 0) C dL_law__2157 (by decide) ?_
        exact (rt_MQ C _).2.1 _ _ _ _ _ _ _ hr rfl dL_law__2158 (by first | decide | omega) (by first | decide | omega) ⟨_, rfl, hw⟩
  · have hw := hw.2 c_2137
    refine v_iconst (v := 0) C dL_law__2140 (by decide) ?_
    exact (rt_MQ C _).2.1 _ _ _ _ _ _ _ hr rfl dL_law__2141 (by first | decide | omega) (by first | decide | omega) ⟨_, rfl, hw⟩
set_option maxRecDepth 100000 in
set_option maxHeartbeats 4000000 in
theorem s_L_law__2079 {p : Program} {l : Launch} {e : Env} {s : State} {m : MethodId} {args : Array Value} {below : List Frame} {meth : Method} {c : Code} {g : GG} {xs : Nat → Int32} {L kb sb : Nat} {v0 : Nat} {v1 : Nat} {v2 : Nat} {v3 : Nat} {Q : Int32 → AH → Prop} {k : Int32 → AH → Prop} (C : CXT p l s m args meth c RL cL_law_ 7 g) (hr : meth.sig.returnType = (some .boolean)) (hS : SX g v0 L xs s) (hkb : kb + 33 ≤ 400000) (hsb : sb + 2669 ≤ 5000000) (hk : ∀ (y4 : Int32) (h : AH), k y4 h → V p l e s m args below meth c g 1050 400000 5000000 7 (kb + 33) (sb + 2669) (MQ below (QCx g (QI Q)) args s 400000 5000000 (gA g)) 23 [(0, .ref v0), (1, .ref v1), (2, .ref v2), (3, .ref v3), (4, .int y4)] [] h) : ∀ (v4 : Int32) (h : AH), w_L_law__2079 xs L k v0 v1 v2 v3 v4 h Q → V p l e s m args below meth c g 1050 400000 5000000 7 (kb + 3) (sb + 18) (MQ below (QCx g (QI Q)) args s 400000 5000000 (gA g)) 2079 [(0, .ref v0), (1, .ref v1), (2, .ref v2), (3, .ref v3), (4, .int v4)] [] h := by
  intro v4 h hw
  refine v_goto (tgt := 2741) C dL_law__2079 (by decide) ?_
  refine v_cells (kc' := kb + 33) (ks' := sb + 2669) (by first | decide | omega) (by first | decide | omega) ?_
  exact s_L_law__2741 C hr hS hkb hsb hk _ _ hw
set_option maxRecDepth 100000 in
set_option maxHeartbeats 4000000 in
theorem s_L_law__1990 {p : Program} {l : Launch} {e : Env} {s : State} {m : MethodId} {args : Array Value} {below : List Frame} {meth : Method} {c : Code} {g : GG} {xs : Nat → Int32} {L kb sb : Nat} {v0 : Nat} {v1 : Nat} {v2 : Nat} {v3 : Nat} {Q : Int32 → AH → Prop} {k : Int32 → AH → Prop} (C : CXT p l s m args meth c RL cL_law_ 7 g) (hr : meth.sig.returnType = (some .boolean)) (hS : SX g v0 L xs s) (hkb : kb + 33 ≤ 400000) (hsb : sb + 2669 ≤ 5000000) (hk : ∀ (y4 : Int32) (h : AH), k y4 h → V p l e s m args below meth c g 1050 400000 5000000 7 (kb + 33) (sb + 2669) (MQ below (QCx g (QI Q)) args s 400000 5000000 (gA g)) 23 [(0, .ref v0), (1, .ref v1), (2, .ref v2), (3, .ref v3), (4, .int y4)] [] h) : ∀ (v4 : Int32) (h : AH), w_L_law__1990 xs L k v0 v1 v2 v3 v4 h Q → V p l e s m args below meth c g 1050 400000 5000000 7 (kb + 0) (sb + 0) (MQ below (QCx g (QI Q)) args s 400000 5000000 (gA g)) 1990 [(0, .ref v0), (1, .ref v1), (2, .ref v2), (3, .ref v3), (4, .int v4)] [] h := by
  intro v4 h hw
  refine v_aload_n C dL_law__1990 1 rfl rfl ?_
  refine v_aload_n C dL_law__1991 0 rfl rfl ?_
  refine v_iload C dL_law__1992 4 rfl ?_
  refine v_iconst (v := 1) C dL_law__1994 (by decide) ?_
  refine v_iadd C dL_law__1995 ?_
  refine w_sld C hS dL_law__1996 hw (fun x1 hw => ?_)
  refine v_aload_n C dL_law__1997 0 rfl rfl ?_
  refine v_iload C dL_law__1998 4 rfl ?_
  refine v_iconst (v := 2) C dL_law__2000 (by decide) ?_
  refine v_iadd C dL_law__2001 ?_
  refine w_sld C hS dL_law__2002 hw (fun x2 hw => ?_)
  refine v_aload_n C dL_law__2003 0 rfl rfl ?_
  refine v_iload C dL_law__2004 4 rfl ?_
  refine v_iconst (v := 3) C dL_law__2006 (by decide) ?_
  refine v_iadd C dL_law__2007 ?_
  refine w_sld C hS dL_law__2008 hw (fun x3 hw => ?_)
  refine v_aload_n C dL_law__2009 0 rfl rfl ?_
  refine v_iload C dL_law__2010 4 rfl ?_
  refine v_iconst (v := 4) C dL_law__2012 (by decide) ?_
  refine v_iadd C dL_law__2013 ?_
  refine w_sld C hS dL_law__2014 hw (fun x4 hw => ?_)
  refine v_aload_n C dL_law__2015 3 rfl rfl ?_
  refine v_callHS (st := []) C (tb6 (List.mem_of_getElem? (i := 202) rfl)) (tb6 (List.mem_of_getElem? (i := 204) rfl)) rfl (tb1 (List.mem_of_getElem? (i := 0) rfl)) ⟨by decide, by decide⟩ (n := 6) (by decide +kernel) (tb6 (List.mem_of_getElem? (i := 203) rfl)) (s_L_teller hw) rfl dL_law__2016 rfl (by first | decide | omega) (by first | decide | omega) (by first | decide | omega) (by first | decide | omega) (by first | decide | omega) (fun x5 h hw => ?_)
  refine v_istore (ls' := [(5, .int x5), (0, .ref v0), (1, .ref v1), (2, .ref v2), (3, .ref v3), (4, .int v4)]) C dL_law__2019 (by decide) rfl ?_
  refine v_aload_n C dL_law__2021 3 rfl rfl ?_
  refine v_aload_n C dL_law__2022 1 rfl rfl ?_
  refine v_iload C dL_law__2023 5 rfl ?_
  refine v_iconst (v := 1) C dL_law__2025 (by decide) ?_
  refine v_iadd C dL_law__2026 ?_
  refine w_sld C hS dL_law__2027 hw (fun x6 hw => ?_)
  refine v_aload_n C dL_law__2028 1 rfl rfl ?_
  refine v_iload C dL_law__2029 5 rfl ?_
  refine v_iconst (v := 2) C dL_law__2031 (by decide) ?_
  refine v_iadd C dL_law__2032 ?_
  refine w_sld C hS dL_law__2033 hw (fun x7 hw => ?_)
  refine v_aload_n C dL_law__2034 1 rfl rfl ?_
  refine v_iload C dL_law__2035 5 rfl ?_
  refine v_iconst (v := 3) C dL_law__2037 (by decide) ?_
  refine v_iadd C dL_law__2038 ?_
  refine w_sld C hS dL_law__2039 hw (fun x8 hw => ?_)
  refine v_aload_n C dL_law__2040 1 rfl rfl ?_
  refine v_iload C dL_law__2041 5 rfl ?_
  refine v_iconst (v := 4) C dL_law__2043 (by decide) ?_
  refine v_iadd C dL_law__2044 ?_
  refine w_sld C hS dL_law__2045 hw (fun x9 hw => ?_)
  refine w_callVi (st := []) C cl_L_238 im_X12_teller se_X12_teller rfl hw.1 (s_X12_teller hw.2) rfl dL_law__2046 rfl (by first | decide | omega) (by omega) (by first | decide | omega) (by first | decide | omega) (by first | decide | omega) (fun x10 h hw => ?_)
  refine v_istore (ls' := [(6, .int x10), (5, .int x5), (0, .ref v0), (1, .ref v1), (2, .ref v2), (3, .ref v3), (4, .int v4)]) C dL_law__2049 (by decide) rfl ?_
  refine v_aload_n C dL_law__2051 4 rfl rfl ?_
  refine w_callVi (st := []) C cl_L_146 im_X12_thrown se_X12_thrown rfl hw.1 (s_X12_thrown hw.2) rfl dL_law__2052 rfl (by first | decide | omega) (by omega) (by first | decide | omega) (by first | decide | omega) (by first | decide | omega) (fun x11 h hw => ?_)
  refine v_iload C dL_law__2055 1 rfl ?_
  refine v_icmp_eq (tgt := 2062) C dL_law__2057 (by decide) (fun c_2057 => ?_) (fun c_2057 => ?_)
  · have hw := hw.1 c_2057
    refine v_iload C dL_law__2062 1 rfl ?_
    refine v_if_ne (tgt := 2079) C dL_law__2064 (by decide) (fun c_2064 => ?_) (fun c_2064 => ?_)
    · have hw := hw.2 c_2064
      refine v_sub [2, 3, 4, 5, 6] rfl ?_
      exact s_L_law__2079 C hr hS hkb hsb hk _ _ hw
    · have hw := hw.1 c_2064
      refine v_aload_n C dL_law__2067 5 rfl rfl ?_
      refine v_iconst (v := 0) C dL_law__2068 (by decide) ?_
      refine w_laload C dL_law__2069 hw (fun j12 hw => ?_)
      refine v_iload C dL_law__2070 0 rfl ?_
      refine v_i2l C dL_law__2072 ?_
      refine v_lcmp C dL_law__2073 ?_
      refine v_if_eq (tgt := 2079) C dL_law__2074 (by decide) (fun c_2074 => ?_) (fun c_2074 => ?_)
      · have hw := hw.1 c_2074
        refine v_sub [2, 3, 4, 5, 6] rfl ?_
        exact s_L_law__2079 C hr hS hkb hsb hk _ _ hw
      · have hw := hw.2 c_2074
        refine v_iconst (v := 0) C dL_law__2077 (by decide) ?_
        exact (rt_MQ C _).2.1 _ _ _ _ _ _ _ hr rfl dL_law__2078 (by first | decide | omega) (by first | decide | omega) ⟨_, rfl, hw⟩
  · have hw := hw.2 c_2057
    refine v_iconst (v := 0) C dL_law__2060 (by decide) ?_
    exact (rt_MQ C _).2.1 _ _ _ _ _ _ _ hr rfl dL_law__2061 (by first | decide | omega) (by first | decide | omega) ⟨_, rfl, hw⟩
set_option maxRecDepth 100000 in
set_option maxHeartbeats 4000000 in
theorem s_L_law__1987 {p : Program} {l : Launch} {e : Env} {s : State} {m : MethodId} {args : Array Value} {below : List Frame} {meth : Method} {c : Code} {g : GG} {xs : Nat → Int32} {L kb sb : Nat} {v0 : Nat} {v1 : Nat} {v2 : Nat} {v3 : Nat} {Q : Int32 → AH → Prop} {k : Int32 → AH → Prop} (C : CXT p l s m args meth c RL cL_law_ 7 g) (hr : meth.sig.returnType = (some .boolean)) (hS : SX g v0 L xs s) (hkb : kb + 33 ≤ 400000) (hsb : sb + 2669 ≤ 5000000) (hk : ∀ (y4 : Int32) (h : AH), k y4 h → V p l e s m args below meth c g 1050 400000 5000000 7 (kb + 33) (sb + 2669) (MQ below (QCx g (QI Q)) args s 400000 5000000 (gA g)) 23 [(0, .ref v0), (1, .ref v1), (2, .ref v2), (3, .ref v3), (4, .int y4)] [] h) : ∀ (v4 : Int32) (h : AH), w_L_law__1987 xs L k v0 v1 v2 v3 v4 h Q → V p l e s m args below meth c g 1050 400000 5000000 7 (kb + 2) (sb + 12) (MQ below (QCx g (QI Q)) args s 400000 5000000 (gA g)) 1987 [(0, .ref v0), (1, .ref v1), (2, .ref v2), (3, .ref v3), (4, .int v4)] [] h := by
  intro v4 h hw
  refine v_goto (tgt := 2741) C dL_law__1987 (by decide) ?_
  refine v_cells (kc' := kb + 33) (ks' := sb + 2669) (by first | decide | omega) (by first | decide | omega) ?_
  exact s_L_law__2741 C hr hS hkb hsb hk _ _ hw
set_option maxRecDepth 100000 in
set_option maxHeartbeats 4000000 in
theorem s_L_law__1922 {p : Program} {l : Launch} {e : Env} {s : State} {m : MethodId} {args : Array Value} {below : List Frame} {meth : Method} {c : Code} {g : GG} {xs : Nat → Int32} {L kb sb : Nat} {v0 : Nat} {v1 : Nat} {v2 : Nat} {v3 : Nat} {Q : Int32 → AH → Prop} {k : Int32 → AH → Prop} (C : CXT p l s m args meth c RL cL_law_ 7 g) (hr : meth.sig.returnType = (some .boolean)) (hS : SX g v0 L xs s) (hkb : kb + 33 ≤ 400000) (hsb : sb + 2669 ≤ 5000000) (hk : ∀ (y4 : Int32) (h : AH), k y4 h → V p l e s m args below meth c g 1050 400000 5000000 7 (kb + 33) (sb + 2669) (MQ below (QCx g (QI Q)) args s 400000 5000000 (gA g)) 23 [(0, .ref v0), (1, .ref v1), (2, .ref v2), (3, .ref v3), (4, .int y4)] [] h) : ∀ (v4 : Int32) (h : AH), w_L_law__1922 xs L k v0 v1 v2 v3 v4 h Q → V p l e s m args below meth c g 1050 400000 5000000 7 (kb + 0) (sb + 0) (MQ below (QCx g (QI Q)) args s 400000 5000000 (gA g)) 1922 [(0, .ref v0), (1, .ref v1), (2, .ref v2), (3, .ref v3), (4, .int v4)] [] h := by
  intro v4 h hw
  refine v_aload_n C dL_law__1922 1 rfl rfl ?_
  refine v_aload_n C dL_law__1923 0 rfl rfl ?_
  refine v_iload C dL_law__1924 4 rfl ?_
  refine v_iconst (v := 1) C dL_law__1926 (by decide) ?_
  refine v_iadd C dL_law__1927 ?_
  refine w_sld C hS dL_law__1928 hw (fun x1 hw => ?_)
  refine v_aload_n C dL_law__1929 0 rfl rfl ?_
  refine v_iload C dL_law__1930 4 rfl ?_
  refine v_iconst (v := 2) C dL_law__1932 (by decide) ?_
  refine v_iadd C dL_law__1933 ?_
  refine w_sld C hS dL_law__1934 hw (fun x2 hw => ?_)
  refine v_aload_n C dL_law__1935 3 rfl rfl ?_
  refine v_callHS (st := []) C (tb6 (List.mem_of_getElem? (i := 191) rfl)) (tb6 (List.mem_of_getElem? (i := 193) rfl)) rfl (tb1 (List.mem_of_getElem? (i := 0) rfl)) ⟨by decide, by decide⟩ (n := 4) (by decide +kernel) (tb6 (List.mem_of_getElem? (i := 192) rfl)) (s_L_still hw) rfl dL_law__1936 rfl (by first | decide | omega) (by first | decide | omega) (by first | decide | omega) (by first | decide | omega) (by first | decide | omega) (fun x3 h hw => ?_)
  refine v_istore (ls' := [(5, .int x3), (0, .ref v0), (1, .ref v1), (2, .ref v2), (3, .ref v3), (4, .int v4)]) C dL_law__1939 (by decide) rfl ?_
  refine v_aload_n C dL_law__1941 3 rfl rfl ?_
  refine v_aload_n C dL_law__1942 1 rfl rfl ?_
  refine v_iload C dL_law__1943 5 rfl ?_
  refine v_iconst (v := 1) C dL_law__1945 (by decide) ?_
  refine v_iadd C dL_law__1946 ?_
  refine w_sld C hS dL_law__1947 hw (fun x4 hw => ?_)
  refine v_aload_n C dL_law__1948 1 rfl rfl ?_
  refine v_iload C dL_law__1949 5 rfl ?_
  refine v_iconst (v := 2) C dL_law__1951 (by decide) ?_
  refine v_iadd C dL_law__1952 ?_
  refine w_sld C hS dL_law__1953 hw (fun x5 hw => ?_)
  refine w_callVi (st := []) C cl_L_235 im_X12_still se_X12_still rfl hw.1 (s_X12_still hw.2) rfl dL_law__1954 rfl (by first | decide | omega) (by omega) (by first | decide | omega) (by first | decide | omega) (by first | decide | omega) (fun x6 h hw => ?_)
  refine v_istore (ls' := [(6, .int x6), (5, .int x3), (0, .ref v0), (1, .ref v1), (2, .ref v2), (3, .ref v3), (4, .int v4)]) C dL_law__1957 (by decide) rfl ?_
  refine v_aload_n C dL_law__1959 4 rfl rfl ?_
  refine w_callVi (st := []) C cl_L_146 im_X12_thrown se_X12_thrown rfl hw.1 (s_X12_thrown hw.2) rfl dL_law__1960 rfl (by first | decide | omega) (by omega) (by first | decide | omega) (by first | decide | omega) (by first | decide | omega) (fun x7 h hw => ?_)
  refine v_iload C dL_law__1963 1 rfl ?_
  refine v_icmp_eq (tgt := 1970) C dL_law__1965 (by decide) (fun c_1965 => ?_) (fun c_1965 => ?_)
  · have hw := hw.1 c_1965
    refine v_iload C dL_law__1970 1 rfl ?_
    refine v_if_ne (tgt := 1987) C dL_law__1972 (by decide) (fun c_1972 => ?_) (fun c_1972 => ?_)
    · have hw := hw.2 c_1972
      refine v_sub [2, 3, 4, 5, 6] rfl ?_
      exact s_L_law__1987 C hr hS hkb hsb hk _ _ hw
    · have hw := hw.1 c_1972
      refine v_aload_n C dL_law__1975 5 rfl rfl ?_
      refine v_iconst (v := 0) C dL_law__1976 (by decide) ?_
      refine w_laload C dL_law__1977 hw (fun j8 hw => ?_)
      refine v_iload C dL_law__1978 0 rfl ?_
      refine v_i2l C dL_law__1980 ?_
      refine v_lcmp C dL_law__1981 ?_
      refine v_if_eq (tgt := 1987) C dL_law__1982 (by decide) (fun c_1982 => ?_) (fun c_1982 => ?_)
      · have hw := hw.1 c_1982
        refine v_sub [2, 3, 4, 5, 6] rfl ?_
        exact s_L_law__1987 C hr hS hkb hsb hk _ _ hw
      · have hw := hw.2 c_1982
        refine v_iconst (v := 0) C dL_law__1985 (by decide) ?_
        exact (rt_MQ C _).2.1 _ _ _ _ _ _ _ hr rfl dL_law__1986 (by first | decide | omega) (by first | decide | omega) ⟨_, rfl, hw⟩
  · have hw := hw.2 c_1965
    refine v_iconst (v := 0) C dL_law__1968 (by decide) ?_
    exact (rt_MQ C _).2.1 _ _ _ _ _ _ _ hr rfl dL_law__1969 (by first | decide | omega) (by first | decide | omega) ⟨_, rfl, hw⟩
set_option maxRecDepth 100000 in
set_option maxHeartbeats 4000000 in
theorem s_L_law__1919 {p : Program} {l : Launch} {e : Env} {s : State} {m : MethodId} {args : Array Value} {below : List Frame} {meth : Method} {c : Code} {g : GG} {xs : Nat → Int32} {L kb sb : Nat} {v0 : Nat} {v1 : Nat} {v2 : Nat} {v3 : Nat} {Q : Int32 → AH → Prop} {k : Int32 → AH → Prop} (C : CXT p l s m args meth c RL cL_law_ 7 g) (hr : meth.sig.returnType = (some .boolean)) (hS : SX g v0 L xs s) (hkb : kb + 33 ≤ 400000) (hsb : sb + 2669 ≤ 5000000) (hk : ∀ (y4 : Int32) (h : AH), k y4 h → V p l e s m args below meth c g 1050 400000 5000000 7 (kb + 33) (sb + 2669) (MQ below (QCx g (QI Q)) args s 400000 5000000 (gA g)) 23 [(0, .ref v0), (1, .ref v1), (2, .ref v2), (3, .ref v3), (4, .int y4)] [] h) : ∀ (v4 : Int32) (h : AH), w_L_law__1919 xs L k v0 v1 v2 v3 v4 h Q → V p l e s m args below meth c g 1050 400000 5000000 7 (kb + 2) (sb + 12) (MQ below (QCx g (QI Q)) args s 400000 5000000 (gA g)) 1919 [(0, .ref v0), (1, .ref v1), (2, .ref v2), (3, .ref v3), (4, .int v4)] [] h := by
  intro v4 h hw
  refine v_goto (tgt := 2741) C dL_law__1919 (by decide) ?_
  refine v_cells (kc' := kb + 33) (ks' := sb + 2669) (by first | decide | omega) (by first | decide | omega) ?_
  exact s_L_law__2741 C hr hS hkb hsb hk _ _ hw
set_option maxRecDepth 100000 in
set_option maxHeartbeats 4000000 in
theorem s_L_law__1886 {p : Program} {l : Launch} {e : Env} {s : State} {m : MethodId} {args : Array Value} {below : List Frame} {meth : Method} {c : Code} {g : GG} {xs : Nat → Int32} {L kb sb : Nat} {v0 : Nat} {v1 : Nat} {v2 : Nat} {v3 : Nat} {Q : Int32 → AH → Prop} {k : Int32 → AH → Prop} (C : CXT p l s m args meth c RL cL_law_ 7 g) (hr : meth.sig.returnType = (some .boolean)) (hS : SX g v0 L xs s) (hkb : kb + 33 ≤ 400000) (hsb : sb + 2669 ≤ 5000000) (hk : ∀ (y4 : Int32) (h : AH), k y4 h → V p l e s m args below meth c g 1050 400000 5000000 7 (kb + 33) (sb + 2669) (MQ below (QCx g (QI Q)) args s 400000 5000000 (gA g)) 23 [(0, .ref v0), (1, .ref v1), (2, .ref v2), (3, .ref v3), (4, .int y4)] [] h) : ∀ (v4 : Int32) (v5 : Int32) (t0 : Nat) (t1 : Int32) (t2 : Int32) (t3 : Int32) (t4 : Int32) (h : AH), w_L_law__1886 xs L k v0 v1 v2 v3 v4 v5 t0 t1 t2 t3 t4 h Q → V p l e s m args below meth c g 1050 400000 5000000 7 (kb + 2) (sb + 12) (MQ below (QCx g (QI Q)) args s 400000 5000000 (gA g)) 1886 [(0, .ref v0), (1, .ref v1), (2, .ref v2), (3, .ref v3), (4, .int v4), (5, .int v5)] [.int t4, .int t3, .int t2, .int t1, .ref t0] h := by
  intro v4 v5 t0 t1 t2 t3 t4 h hw
  refine w_callVi (st := []) C cl_L_232 im_X12_length se_X12_length rfl hw.1 (s_X12_length hw.2) rfl dL_law__1886 rfl (by first | decide | omega) (by omega) (by first | decide | omega) (by first | decide | omega) (by first | decide | omega) (fun x1 h hw => ?_)
  refine v_istore (ls' := [(6, .int x1), (0, .ref v0), (1, .ref v1), (2, .ref v2), (3, .ref v3), (4, .int v4), (5, .int v5)]) C dL_law__1889 (by decide) rfl ?_
  refine v_aload_n C dL_law__1891 3 rfl rfl ?_
  refine w_callVi (st := []) C cl_L_146 im_X12_thrown se_X12_thrown rfl hw.1 (s_X12_thrown hw.2) rfl dL_law__1892 rfl (by first | decide | omega) (by omega) (by first | decide | omega) (by first | decide | omega) (by first | decide | omega) (fun x2 h hw => ?_)
  refine v_iload C dL_law__1895 6 rfl ?_
  refine v_icmp_eq (tgt := 1902) C dL_law__1897 (by decide) (fun c_1897 => ?_) (fun c_1897 => ?_)
  · have hw := hw.1 c_1897
    refine v_iload C dL_law__1902 6 rfl ?_
    refine v_if_ne (tgt := 1919) C dL_law__1904 (by decide) (fun c_1904 => ?_) (fun c_1904 => ?_)
    · have hw := hw.2 c_1904
      refine v_sub [1, 2, 3, 4, 5] rfl ?_
      exact s_L_law__1919 C hr hS hkb hsb hk _ _ hw
    · have hw := hw.1 c_1904
      refine v_aload_n C dL_law__1907 4 rfl rfl ?_
      refine v_iconst (v := 0) C dL_law__1908 (by decide) ?_
      refine w_laload C dL_law__1909 hw (fun j3 hw => ?_)
      refine v_iload C dL_law__1910 0 rfl ?_
      refine v_i2l C dL_law__1912 ?_
      refine v_lcmp C dL_law__1913 ?_
      refine v_if_eq (tgt := 1919) C dL_law__1914 (by decide) (fun c_1914 => ?_) (fun c_1914 => ?_)
      · have hw := hw.1 c_1914
        refine v_sub [1, 2, 3, 4, 5] rfl ?_
        exact s_L_law__1919 C hr hS hkb hsb hk _ _ hw
      · have hw := hw.2 c_1914
        refine v_iconst (v := 0) C dL_law__1917 (by decide) ?_
        exact (rt_MQ C _).2.1 _ _ _ _ _ _ _ hr rfl dL_law__1918 (by first | decide | omega) (by first | decide | omega) ⟨_, rfl, hw⟩
  · have hw := hw.2 c_1897
    refine v_iconst (v := 0) C dL_law__1900 (by decide) ?_
    exact (rt_MQ C _).2.1 _ _ _ _ _ _ _ hr rfl dL_law__1901 (by first | decide | omega) (by first | decide | omega) ⟨_, rfl, hw⟩
set_option maxRecDepth 100000 in
set_option maxHeartbeats 4000000 in
theorem s_L_law__1847 {p : Program} {l : Launch} {e : Env} {s : State} {m : MethodId} {args : Array Value} {below : List Frame} {meth : Method} {c : Code} {g : GG} {xs : Nat → Int32} {L kb sb : Nat} {v0 : Nat} {v1 : Nat} {v2 : Nat} {v3 : Nat} {Q : Int32 → AH → Prop} {k : Int32 → AH → Prop} (C : CXT p l s m args meth c RL cL_law_ 7 g) (hr : meth.sig.returnType = (some .boolean)) (hS : SX g v0 L xs s) (hkb : kb + 33 ≤ 400000) (hsb : sb + 2669 ≤ 5000000) (hk : ∀ (y4 : Int32) (h : AH), k y4 h → V p l e s m args below meth c g 1050 400000 5000000 7 (kb + 33) (sb + 2669) (MQ below (QCx g (QI Q)) args s 400000 5000000 (gA g)) 23 [(0, .ref v0), (1, .ref v1), (2, .ref v2), (3, .ref v3), (4, .int y4)] [] h) : ∀ (v4 : Int32) (t0 : Nat) (t1 : Int32) (t2 : Int32) (t3 : Int32) (t4 : Int32) (h : AH), w_L_law__1847 xs L k v0 v1 v2 v3 v4 t0 t1 t2 t3 t4 h Q → V p l e s m args below meth c g 1050 400000 5000000 7 (kb + 0) (sb + 0) (MQ below (QCx g (QI Q)) args s 400000 5000000 (gA g)) 1847 [(0, .ref v0), (1, .ref v1), (2, .ref v2), (3, .ref v3), (4, .int v4)] [.int t4, .int t3, .int t2, .int t1, .ref t0] h := by
  intro v4 t0 t1 t2 t3 t4 h hw
  refine v_aload_n C dL_law__1847 3 rfl rfl ?_
  refine v_callHS (st := []) C (tb6 (List.mem_of_getElem? (i := 176) rfl)) (tb6 (List.mem_of_getElem? (i := 178) rfl)) rfl (tb1 (List.mem_of_getElem? (i := 0) rfl)) ⟨by decide, by decide⟩ (n := 6) (by decide +kernel) (tb6 (List.mem_of_getElem? (i := 177) rfl)) (s_L_length hw) rfl dL_law__1848 rfl (by first | decide | omega) (by first | decide | omega) (by first | decide | omega) (by first | decide | omega) (by first | decide | omega) (fun x1 h hw => ?_)
  refine v_istore (ls' := [(5, .int x1), (0, .ref v0), (1, .ref v1), (2, .ref v2), (3, .ref v3), (4, .int v4)]) C dL_law__1851 (by decide) rfl ?_
  refine v_aload_n C dL_law__1853 3 rfl rfl ?_
  refine v_aload_n C dL_law__1854 1 rfl rfl ?_
  refine v_iload C dL_law__1855 5 rfl ?_
  refine v_iconst (v := 1) C dL_law__1857 (by decide) ?_
  refine v_iadd C dL_law__1858 ?_
  refine w_sld C hS dL_law__1859 hw (fun x2 hw => ?_)
  refine v_aload_n C dL_law__1860 1 rfl rfl ?_
  refine v_iload C dL_law__1861 5 rfl ?_
  refine v_iconst (v := 2) C dL_law__1863 (by decide) ?_
  refine v_iadd C dL_law__1864 ?_
  refine w_sld C hS dL_law__1865 hw (fun x3 hw => ?_)
  refine v_aload_n C dL_law__1866 1 rfl rfl ?_
  refine v_iload C dL_law__1867 5 rfl ?_
  refine v_iconst (v := 3) C dL_law__1869 (by decide) ?_
  refine v_iadd C dL_law__1870 ?_
  refine w_sld C hS dL_law__1871 hw (fun x4 hw => ?_)
  refine v_aload_n C dL_law__1872 1 rfl rfl ?_
  refine v_iload C dL_law__1873 5 rfl ?_
  refine v_iconst (v := 4) C dL_law__1875 (by decide) ?_
  refine v_iadd C dL_law__1876 ?_
  refine w_sld C hS dL_law__1877 hw (fun x5 hw => ?_)
  refine v_if_eq (tgt := 1885) C dL_law__1878 (by decide) (fun c_1878 => ?_) (fun c_1878 => ?_)
  · have hw := hw.1 c_1878
    refine v_iconst (v := 0) C dL_law__1885 (by decide) ?_
    refine v_sub [1, 2, 3, 4, 5, 0] rfl ?_
    exact s_L_law__1886 C hr hS hkb hsb hk _ _ _ _ _ _ _ _ hw
  · have hw := hw.2 c_1878
    refine v_iconst (v := 1) C dL_law__1881 (by decide) ?_
    refine v_goto (tgt := 1886) C dL_law__1882 (by decide) ?_
    refine v_sub [1, 2, 3, 4, 5, 0] rfl ?_
    exact s_L_law__1886 C hr hS hkb hsb hk _ _ _ _ _ _ _ _ hw
set_option maxRecDepth 100000 in
set_option maxHeartbeats 4000000 in
theorem s_L_law__1814 {p : Program} {l : Launch} {e : Env} {s : State} {m : MethodId} {args : Array Value} {below : List Frame} {meth : Method} {c : Code} {g : GG} {xs : Nat → Int32} {L kb sb : Nat} {v0 : Nat} {v1 : Nat} {v2 : Nat} {v3 : Nat} {Q : Int32 → AH → Prop} {k : Int32 → AH → Prop} (C : CXT p l s m args meth c RL cL_law_ 7 g) (hr : meth.sig.returnType = (some .boolean)) (hS : SX g v0 L xs s) (hkb : kb + 33 ≤ 400000) (hsb : sb + 2669 ≤ 5000000) (hk : ∀ (y4 : Int32) (h : AH), k y4 h → V p l e s m args below meth c g 1050 400000 5000000 7 (kb + 33) (sb + 2669) (MQ below (QCx g (QI Q)) args s 400000 5000000 (gA g)) 23 [(0, .ref v0), (1, .ref v1), (2, .ref v2), (3, .ref v3), (4, .int y4)] [] h) : ∀ (v4 : Int32) (h : AH), w_L_law__1814 xs L k v0 v1 v2 v3 v4 h Q → V p l e s m args below meth c g 1050 400000 5000000 7 (kb + 0) (sb + 0) (MQ below (QCx g (QI Q)) args s 400000 5000000 (gA g)) 1814 [(0, .ref v0), (1, .ref v1), (2, .ref v2), (3, .ref v3), (4, .int v4)] [] h := by
  intro v4 h hw
  refine v_aload_n C dL_law__1814 1 rfl rfl ?_
  refine v_aload_n C dL_law__1815 0 rfl rfl ?_
  refine v_iload C dL_law__1816 4 rfl ?_
  refine v_iconst (v := 1) C dL_law__1818 (by decide) ?_
  refine v_iadd C dL_law__1819 ?_
  refine w_sld C hS dL_law__1820 hw (fun x1 hw => ?_)
  refine v_aload_n C dL_law__1821 0 rfl rfl ?_
  refine v_iload C dL_law__1822 4 rfl ?_
  refine v_iconst (v := 2) C dL_law__1824 (by decide) ?_
  refine v_iadd C dL_law__1825 ?_
  refine w_sld C hS dL_law__1826 hw (fun x2 hw => ?_)
  refine v_aload_n C dL_law__1827 0 rfl rfl ?_
  refine v_iload C dL_law__1828 4 rfl ?_
  refine v_iconst (v := 3) C dL_law__1830 (by decide) ?_
  refine v_iadd C dL_law__1831 ?_
  refine w_sld C hS dL_law__1832 hw (fun x3 hw => ?_)
  refine v_aload_n C dL_law__1833 0 rfl rfl ?_
  refine v_iload C dL_law__1834 4 rfl ?_
  refine v_iconst (v := 4) C dL_law__1836 (by decide) ?_
  refine v_iadd C dL_law__1837 ?_
  refine w_sld C hS dL_law__1838 hw (fun x4 hw => ?_)
  refine v_if_eq (tgt := 1846) C dL_law__1839 (by decide) (fun c_1839 => ?_) (fun c_1839 => ?_)
  · have hw := hw.1 c_1839
    refine v_iconst (v := 0) C dL_law__1846 (by decide) ?_
    exact s_L_law__1847 C hr hS hkb hsb hk _ _ _ _ _ _ _ hw
  · have hw := hw.2 c_1839
    refine v_iconst (v := 1) C dL_law__1842 (by decide) ?_
    refine v_goto (tgt := 1847) C dL_law__1843 (by decide) ?_
    exact s_L_law__1847 C hr hS hkb hsb hk _ _ _ _ _ _ _ hw
set_option maxRecDepth 100000 in
set_option maxHeartbeats 4000000 in
theorem s_L_law__1811 {p : Program} {l : Launch} {e : Env} {s : State} {m : MethodId} {args : Array Value} {below : List Frame} {meth : Method} {c : Code} {g : GG} {xs : Nat → Int32} {L kb sb : Nat} {v0 : Nat} {v1 : Nat} {v2 : Nat} {v3 : Nat} {Q : Int32 → AH → Prop} {k : Int32 → AH → Prop} (C : CXT p l s m args meth c RL cL_law_ 7 g) (hr : meth.sig.returnType = (some .boolean)) (hS : SX g v0 L xs s) (hkb : kb + 33 ≤ 400000) (hsb : sb + 2669 ≤ 5000000) (hk : ∀ (y4 : Int32) (h : AH), k y4 h → V p l e s m args below meth c g 1050 400000 5000000 7 (kb + 33) (sb + 2669) (MQ below (QCx g (QI Q)) args s 400000 5000000 (gA g)) 23 [(0, .ref v0), (1, .ref v1), (2, .ref v2), (3, .ref v3), (4, .int y4)] [] h) : ∀ (v4 : Int32) (h : AH), w_L_law__1811 xs L k v0 v1 v2 v3 v4 h Q → V p l e s m args below meth c g 1050 400000 5000000 7 (kb + 1) (sb + 6) (MQ below (QCx g (QI Q)) args s 400000 5000000 (gA g)) 1811 [(0, .ref v0), (1, .ref v1), (2, .ref v2), (3, .ref v3), (4, .int v4)] [] h := by
  intro v4 h hw
  refine v_goto (tgt := 2741) C dL_law__1811 (by decide) ?_
  refine v_cells (kc' := kb + 33) (ks' := sb + 2669) (by first | decide | omega) (by first | decide | omega) ?_
  exact s_L_law__2741 C hr hS hkb hsb hk _ _ hw
set_option maxRecDepth 100000 in
set_option maxHeartbeats 4000000 in
theorem s_L_law__1778 {p : Program} {l : Launch} {e : Env} {s : State} {m : MethodId} {args : Array Value} {below : List Frame} {meth : Method} {c : Code} {g : GG} {xs : Nat → Int32} {L kb sb : Nat} {v0 : Nat} {v1 : Nat} {v2 : Nat} {v3 : Nat} {Q : Int32 → AH → Prop} {k : Int32 → AH → Prop} (C : CXT p l s m args meth c RL cL_law_ 7 g) (hr : meth.sig.returnType = (some .boolean)) (hS : SX g v0 L xs s) (hkb : kb + 33 ≤ 400000) (hsb : sb + 2669 ≤ 5000000) (hk : ∀ (y4 : Int32) (h : AH), k y4 h → V p l e s m args below meth c g 1050 400000 5000000 7 (kb + 33) (sb + 2669) (MQ below (QCx g (QI Q)) args s 400000 5000000 (gA g)) 23 [(0, .ref v0), (1, .ref v1), (2, .ref v2), (3, .ref v3), (4, .int y4)] [] h) : ∀ (v4 : Int32) (v5 : Int32) (t0 : Nat) (t1 : Int32) (t2 : Int32) (h : AH), w_L_law__1778 xs L k v0 v1 v2 v3 v4 v5 t0 t1 t2 h Q → V p l e s m args below meth c g 1050 400000 5000000 7 (kb + 1) (sb + 6) (MQ below (QCx g (QI Q)) args s 400000 5000000 (gA g)) 1778 [(0, .ref v0), (1, .ref v1), (2, .ref v2), (3, .ref v3), (4, .int v4), (5, .int v5)] [.int t2, .int t1, .ref t0] h := by
  intro v4 v5 t0 t1 t2 h hw
  refine w_callVi (st := []) C cl_L_229 im_X12_heaps se_X12_heaps rfl hw.1 (s_X12_heaps hw.2) rfl dL_law__1778 rfl (by first | decide | omega) (by omega) (by first | decide | omega) (by first | decide | omega) (by first | decide | omega) (fun x1 h hw => ?_)
  refine v_istore (ls' := [(6, .int x1), (0, .ref v0), (1, .ref v1), (2, .ref v2), (3, .ref v3), (4, .int v4), (5, .int v5)]) C dL_law__1781 (by decide) rfl ?_
  refine v_aload_n C dL_law__1783 3 rfl rfl ?_
  refine w_callVi (st := []) C cl_L_146 im_X12_thrown se_X12_thrown rfl hw.1 (s_X12_thrown hw.2) rfl dL_law__1784 rfl (by first | decide | omega) (by omega) (by first | decide | omega) (by first | decide | omega) (by first | decide | omega) (fun x2 h hw => ?_)
  refine v_iload C dL_law__1787 6 rfl ?_
  refine v_icmp_eq (tgt := 1794) C dL_law__1789 (by decide) (fun c_1789 => ?_) (fun c_1789 => ?_)
  · have hw := hw.1 c_1789
    refine v_iload C dL_law__1794 6 rfl ?_
    refine v_if_ne (tgt := 1811) C dL_law__1796 (by decide) (fun c_1796 => ?_) (fun c_1796 => ?_)
    · have hw := hw.2 c_1796
      refine v_sub [1, 2, 3, 4, 5] rfl ?_
      exact s_L_law__1811 C hr hS hkb hsb hk _ _ hw
    · have hw := hw.1 c_1796
      refine v_aload_n C dL_law__1799 4 rfl rfl ?_
      refine v_iconst (v := 0) C dL_law__1800 (by decide) ?_
      refine w_laload C dL_law__1801 hw (fun j3 hw => ?_)
      refine v_iload C dL_law__1802 0 rfl ?_
      refine v_i2l C dL_law__1804 ?_
      refine v_lcmp C dL_law__1805 ?_
      refine v_if_eq (tgt := 1811) C dL_law__1806 (by decide) (fun c_1806 => ?_) (fun c_1806 => ?_)
      · have hw := hw.1 c_1806
        refine v_sub [1, 2, 3, 4, 5] rfl ?_
        exact s_L_law__1811 C hr hS hkb hsb hk _ _ hw
      · have hw := hw.2 c_1806
        refine v_iconst (v := 0) C dL_law__1809 (by decide) ?_
        exact (rt_MQ C _).2.1 _ _ _ _ _ _ _ hr rfl dL_law__1810 (by first | decide | omega) (by first | decide | omega) ⟨_, rfl, hw⟩
  · have hw := hw.2 c_1789
    refine v_iconst (v := 0) C dL_law__1792 (by decide) ?_
    exact (rt_MQ C _).2.1 _ _ _ _ _ _ _ hr rfl dL_law__1793 (by first | decide | omega) (by first | decide | omega) ⟨_, rfl, hw⟩
set_option maxRecDepth 100000 in
set_option maxHeartbeats 4000000 in
theorem s_L_law__1751 {p : Program} {l : Launch} {e : Env} {s : State} {m : MethodId} {args : Array Value} {below : List Frame} {meth : Method} {c : Code} {g : GG} {xs : Nat → Int32} {L kb sb : Nat} {v0 : Nat} {v1 : Nat} {v2 : Nat} {v3 : Nat} {Q : Int32 → AH → Prop} {k : Int32 → AH → Prop} (C : CXT p l s m args meth c RL cL_law_ 7 g) (hr : meth.sig.returnType = (some .boolean)) (hS : SX g v0 L xs s) (hkb : kb + 33 ≤ 400000) (hsb : sb + 2669 ≤ 5000000) (hk : ∀ (y4 : Int32) (h : AH), k y4 h → V p l e s m args below meth c g 1050 400000 5000000 7 (kb + 33) (sb + 2669) (MQ below (QCx g (QI Q)) args s 400000 5000000 (gA g)) 23 [(0, .ref v0), (1, .ref v1), (2, .ref v2), (3, .ref v3), (4, .int y4)] [] h) : ∀ (v4 : Int32) (t0 : Nat) (t1 : Int32) (t2 : Int32) (h : AH), w_L_law__1751 xs L k v0 v1 v2 v3 v4 t0 t1 t2 h Q → V p l e s m args below meth c g 1050 400000 5000000 7 (kb + 0) (sb + 0) (MQ below (QCx g (QI Q)) args s 400000 5000000 (gA g)) 1751 [(0, .ref v0), (1, .ref v1), (2, .ref v2), (3, .ref v3), (4, .int v4)] [.int t2, .int t1, .ref t0] h := by
  intro v4 t0 t1 t2 h hw
  refine v_aload_n C dL_law__1751 3 rfl rfl ?_
  refine v_callHS (st := []) C (tb6 (List.mem_of_getElem? (i := 154) rfl)) (tb6 (List.mem_of_getElem? (i := 156) rfl)) rfl (tb1 (List.mem_of_getElem? (i := 0) rfl)) ⟨by decide, by decide⟩ (n := 4) (by decide +kernel) (tb6 (List.mem_of_getElem? (i := 155) rfl)) (s_L_heaps hw) rfl dL_law__1752 rfl (by first | decide | omega) (by first | decide | omega) (by first | decide | omega) (by first | decide | omega) (by first | decide | omega) (fun x1 h hw => ?_)
  refine v_istore (ls' := [(5, .int x1), (0, .ref v0), (1, .ref v1), (2, .ref v2), (3, .ref v3), (4, .int v4)]) C dL_law__1755 (by decide) rfl ?_
  refine v_aload_n C dL_law__1757 3 rfl rfl ?_
  refine v_aload_n C dL_law__1758 1 rfl rfl ?_
  refine v_iload C dL_law__1759 5 rfl ?_
  refine v_iconst (v := 1) C dL_law__1761 (by decide) ?_
  refine v_iadd C dL_law__1762 ?_
  refine w_sld C hS dL_law__1763 hw (fun x2 hw => ?_)
  refine v_aload_n C dL_law__1764 1 rfl rfl ?_
  refine v_iload C dL_law__1765 5 rfl ?_
  refine v_iconst (v := 2) C dL_law__1767 (by decide) ?_
  refine v_iadd C dL_law__1768 ?_
  refine w_sld C hS dL_law__1769 hw (fun x3 hw => ?_)
  refine v_if_eq (tgt := 1777) C dL_law__1770 (by decide) (fun c_1770 => ?_) (fun c_1770 => ?_)
  · have hw := hw.1 c_1770
    refine v_iconst (v := 0) C dL_law__1777 (by decide) ?_
    refine v_sub [1, 2, 3, 4, 5, 0] rfl ?_
    exact s_L_law__1778 C hr hS hkb hsb hk _ _ _ _ _ _ hw
  · have hw := hw.2 c_1770
    refine v_iconst (v := 1) C dL_law__1773 (by decide) ?_
    refine v_goto (tgt := 1778) C dL_law__1774 (by decide) ?_
    refine v_sub [1, 2, 3, 4, 5, 0] rfl ?_
    exact s_L_law__1778 C hr hS hkb hsb hk _ _ _ _ _ _ hw
set_option maxRecDepth 100000 in
set_option maxHeartbeats 4000000 in
theorem s_L_law__1730 {p : Program} {l : Launch} {e : Env} {s : State} {m : MethodId} {args : Array Value} {below : List Frame} {meth : Method} {c : Code} {g : GG} {xs : Nat → Int32} {L kb sb : Nat} {v0 : Nat} {v1 : Nat} {v2 : Nat} {v3 : Nat} {Q : Int32 → AH → Prop} {k : Int32 → AH → Prop} (C : CXT p l s m args meth c RL cL_law_ 7 g) (hr : meth.sig.returnType = (some .boolean)) (hS : SX g v0 L xs s) (hkb : kb + 33 ≤ 400000) (hsb : sb + 2669 ≤ 5000000) (hk : ∀ (y4 : Int32) (h : AH), k y4 h → V p l e s m args below meth c g 1050 400000 5000000 7 (kb + 33) (sb + 2669) (MQ below (QCx g (QI Q)) args s 400000 5000000 (gA g)) 23 [(0, .ref v0), (1, .ref v1), (2, .ref v2), (3, .ref v3), (4, .int y4)] [] h) : ∀ (v4 : Int32) (h : AH), w_L_law__1730 xs L k v0 v1 v2 v3 v4 h Q → V p l e s m args below meth c g 1050 400000 5000000 7 (kb + 0) (sb + 0) (MQ below (QCx g (QI Q)) args s 400000 5000000 (gA g)) 1730 [(0, .ref v0), (1, .ref v1), (2, .ref v2), (3, .ref v3), (4, .int v4)] [] h := by
  intro v4 h hw
  refine v_aload_n C dL_law__1730 1 rfl rfl ?_
  refine v_aload_n C dL_law__1731 0 rfl rfl ?_
  refine v_iload C dL_law__1732 4 rfl ?_
  refine v_iconst (v := 1) C dL_law__1734 (by decide) ?_
  refine v_iadd C dL_law__1735 ?_
  refine w_sld C hS dL_law__1736 hw (fun x1 hw => ?_)
  refine v_aload_n C dL_law__1737 0 rfl rfl ?_
  refine v_iload C dL_law__1738 4 rfl ?_
  refine v_iconst (v := 2) C dL_law__1740 (by decide) ?_
  refine v_iadd C dL_law__1741 ?_
  refine w_sld C hS dL_law__1742 hw (fun x2 hw => ?_)
  refine v_if_eq (tgt := 1750) C dL_law__1743 (by decide) (fun c_1743 => ?_) (fun c_1743 => ?_)
  · have hw := hw.1 c_1743
    refine v_iconst (v := 0) C dL_law__1750 (by decide) ?_
    exact s_L_law__1751 C hr hS hkb hsb hk _ _ _ _ _ hw
  · have hw := hw.2 c_1743
    refine v_iconst (v := 1) C dL_law__1746 (by decide) ?_
    refine v_goto (tgt := 1751) C dL_law__1747 (by decide) ?_
    exact s_L_law__1751 C hr hS hkb hsb hk _ _ _ _ _ hw
set_option maxRecDepth 100000 in
set_option maxHeartbeats 4000000 in
theorem s_L_law__1727 {p : Program} {l : Launch} {e : Env} {s : State} {m : MethodId} {args : Array Value} {below : List Frame} {meth : Method} {c : Code} {g : GG} {xs : Nat → Int32} {L kb sb : Nat} {v0 : Nat} {v1 : Nat} {v2 : Nat} {v3 : Nat} {Q : Int32 → AH → Prop} {k : Int32 → AH → Prop} (C : CXT p l s m args meth c RL cL_law_ 7 g) (hr : meth.sig.returnType = (some .boolean)) (hS : SX g v0 L xs s) (hkb : kb + 33 ≤ 400000) (hsb : sb + 2669 ≤ 5000000) (hk : ∀ (y4 : Int32) (h : AH), k y4 h → V p l e s m args below meth c g 1050 400000 5000000 7 (kb + 33) (sb + 2669) (MQ below (QCx g (QI Q)) args s 400000 5000000 (gA g)) 23 [(0, .ref v0), (1, .ref v1), (2, .ref v2), (3, .ref v3), (4, .int y4)] [] h) : ∀ (v4 : Int32) (h : AH), w_L_law__1727 xs L k v0 v1 v2 v3 v4 h Q → V p l e s m args below meth c g 1050 400000 5000000 7 (kb + 3) (sb + 18) (MQ below (QCx g (QI Q)) args s 400000 5000000 (gA g)) 1727 [(0, .ref v0), (1, .ref v1), (2, .ref v2), (3, .ref v3), (4, .int v4)] [] h := by
  intro v4 h hw
  refine v_goto (tgt := 2741) C dL_law__1727 (by decide) ?_
  refine v_cells (kc' := kb + 33) (ks' := sb + 2669) (by first | decide | omega) (by first | decide | omega) ?_
  exact s_L_law__2741 C hr hS hkb hsb hk _ _ hw
set_option maxRecDepth 100000 in
set_option maxHeartbeats 4000000 in
theorem s_L_law__1694 {p : Program} {l : Launch} {e : Env} {s : State} {m : MethodId} {args : Array Value} {below : List Frame} {meth : Method} {c : Code} {g : GG} {xs : Nat → Int32} {L kb sb : Nat} {v0 : Nat} {v1 : Nat} {v2 : Nat} {v3 : Nat} {Q : Int32 → AH → Prop} {k : Int32 → AH → Prop} (C : CXT p l s m args meth c RL cL_law_ 7 g) (hr : meth.sig.returnType = (some .boolean)) (hS : SX g v0 L xs s) (hkb : kb + 33 ≤ 400000) (hsb : sb + 2669 ≤ 5000000) (hk : ∀ (y4 : Int32) (h : AH), k y4 h → V p l e s m args below meth c g 1050 400000 5000000 7 (kb + 33) (sb + 2669) (MQ below (QCx g (QI Q)) args s 400000 5000000 (gA g)) 23 [(0, .ref v0), (1, .ref v1), (2, .ref v2), (3, .ref v3), (4, .int y4)] [] h) : ∀ (v4 : Int32) (v5 : Int32) (t0 : Nat) (t1 : Int32) (t2 : Int32) (t3 : Int32) (t4 : Int32) (h : AH), w_L_law__1694 xs L k v0 v1 v2 v3 v4 v5 t0 t1 t2 t3 t4 h Q → V p l e s m args below meth c g 1050 400000 5000000 7 (kb + 3) (sb + 18) (MQ below (QCx g (QI Q)) args s 400000 5000000 (gA g)) 1694 [(0, .ref v0), (1, .ref v1), (2, .ref v2), (3, .ref v3), (4, .int v4), (5, .int v5)] [.int t4, .int t3, .int t2, .int t1, .ref t0] h := by
  intro v4 v5 t0 t1 t2 t3 t4 h hw
  refine w_callVi (st := []) C cl_L_225 im_X12_held se_X12_held rfl hw.1 (s_X12_held hw.2) rfl dL_law__1694 rfl (by first | decide | omega) (by omega) (by first | decide | omega) (by first | decide | omega) (by first | decide | omega) (fun x1 h hw => ?_)
  refine v_istore (ls' := [(6, .int x1), (0, .ref v0), (1, .ref v1), (2, .ref v2), (3, .ref v3), (4, .int v4), (5, .int v5)]) C dL_law__1697 (by decide) rfl ?_
  refine v_aload_n C dL_law__1699 3 rfl rfl ?_
  refine w_callVi (st := []) C cl_L_146 im_X12_thrown se_X12_thrown rfl hw.1 (s_X12_thrown hw.2) rfl dL_law__1700 rfl (by first | decide | omega) (by omega) (by first | decide | omega) (by first | decide | omega) (by first | decide | omega) (fun x2 h hw => ?_)
  refine v_iload C dL_law__1703 6 rfl ?_
  refine v_icmp_eq (tgt := 1710) C dL_law__1705 (by decide) (fun c_1705 => ?_) (fun c_1705 => ?_)
  · have hw := hw.1 c_1705
    refine v_iload C dL_law__1710 6 rfl ?_
    refine v_if_ne (tgt := 1727) C dL_law__1712 (by decide) (fun c_1712 => ?_) (fun c_1712 => ?_)
    · have hw := hw.2 c_1712
      refine v_sub [1, 2, 3, 4, 5] rfl ?_
      exact s_L_law__1727 C hr hS hkb hsb hk _ _ hw
    · have hw := hw.1 c_1712
      refine v_aload_n C dL_law__1715 4 rfl rfl ?_
      refine v_iconst (v := 0) C dL_law__1716 (by decide) ?_
      refine w_laload C dL_law__1717 hw (fun j3 hw => ?_)
      refine v_iload C dL_law__1718 0 rfl ?_
      refine v_i2l C dL_law__1720 ?_
      refine v_lcmp C dL_law__1721 ?_
      refine v_if_eq (tgt := 1727) C dL_law__1722 (by decide) (fun c_1722 => ?_) (fun c_1722 => ?_)
      · have hw := hw.1 c_1722
        refine v_sub [1, 2, 3, 4, 5] rfl ?_
        exact s_L_law__1727 C hr hS hkb hsb hk _ _ hw
      · have hw := hw.2 c_1722
        refine v_iconst (v := 0) C dL_law__1725 (by decide) ?_
        exact (rt_MQ C _).2.1 _ _ _ _ _ _ _ hr rfl dL_law__1726 (by first | decide | omega) (by first | decide | omega) ⟨_, rfl, hw⟩
  · have hw := hw.2 c_1705
    refine v_iconst (v := 0) C dL_law__1708 (by decide) ?_
    exact (rt_MQ C _).2.1 _ _ _ _ _ _ _ hr rfl dL_law__1709 (by first | decide | omega) (by first | decide | omega) ⟨_, rfl, hw⟩
set_option maxRecDepth 100000 in
set_option maxHeartbeats 4000000 in
theorem s_L_law__1655 {p : Program} {l : Launch} {e : Env} {s : State} {m : MethodId} {args : Array Value} {below : List Frame} {meth : Method} {c : Code} {g : GG} {xs : Nat → Int32} {L kb sb : Nat} {v0 : Nat} {v1 : Nat} {v2 : Nat} {v3 : Nat} {Q : Int32 → AH → Prop} {k : Int32 → AH → Prop} (C : CXT p l s m args meth c RL cL_law_ 7 g) (hr : meth.sig.returnType = (some .boolean)) (hS : SX g v0 L xs s) (hkb : kb + 33 ≤ 400000) (hsb : sb + 2669 ≤ 5000000) (hk : ∀ (y4 : Int32) (h : AH), k y4 h → V p l e s m args below meth c g 1050 400000 5000000 7 (kb + 33) (sb + 2669) (MQ below (QCx g (QI Q)) args s 400000 5000000 (gA g)) 23 [(0, .ref v0), (1, .ref v1), (2, .ref v2), (3, .ref v3), (4, .int y4)] [] h) : ∀ (v4 : Int32) (t0 : Nat) (t1 : Int32) (t2 : Int32) (t3 : Int32) (t4 : Int32) (h : AH), w_L_law__1655 xs L k v0 v1 v2 v3 v4 t0 t1 t2 t3 t4 h Q → V p l e s m args below meth c g 1050 400000 5000000 7 (kb + 0) (sb + 0) (MQ below (QCx g (QI Q)) args s 400000 5000000 (gA g)) 1655 [(0, .ref v0), (1, .ref v1), (2, .ref v2), (3, .ref v3), (4, .int v4)] [.int t4, .int t3, .int t2, .int t1, .ref t0] h := by
  intro v4 t0 t1 t2 t3 t4 h hw
  refine v_aload_n C dL_law__1655 3 rfl rfl ?_
  refine v_callHS (st := []) C (tb6 (List.mem_of_getElem? (i := 111) rfl)) (tb6 (List.mem_of_getElem? (i := 113) rfl)) rfl (tb1 (List.mem_of_getElem? (i := 0) rfl)) ⟨by decide, by decide⟩ (n := 6) (by decide +kernel) (tb6 (List.mem_of_getElem? (i := 112) rfl)) (s_L_held hw) rfl dL_law__1656 rfl (by first | decide | omega) (by first | decide | omega) (by first | decide | omega) (by first | decide | omega) (by first | decide | omega) (fun x1 h hw => ?_)
  refine v_istore (ls' := [(5, .int x1), (0, .ref v0), (1, .ref v1), (2, .ref v2), (3, .ref v3), (4, .int v4)]) C dL_law__1659 (by decide) rfl ?_
  refine v_aload_n C dL_law__1661 3 rfl rfl ?_
  refine v_aload_n C dL_law__1662 1 rfl rfl ?_
  refine v_iload C dL_law__1663 5 rfl ?_
  refine v_iconst (v := 1) C dL_law__1665 (by decide) ?_
  refine v_iadd C dL_law__1666 ?_
  refine w_sld C hS dL_law__1667 hw (fun x2 hw => ?_)
  refine v_aload_n C dL_law__1668 1 rfl rfl ?_
  refine v_iload C dL_law__1669 5 rfl ?_
  refine v_iconst (v := 2) C dL_law__1671 (by decide) ?_
  refine v_iadd C dL_law__1672 ?_
  refine w_sld C hS dL_law__1673 hw (fun x3 hw => ?_)
  refine v_aload_n C dL_law__1674 1 rfl rfl ?_
  refine v_iload C dL_law__1675 5 rfl ?_
  refine v_iconst (v := 3) C dL_law__1677 (by decide) ?_
  refine v_iadd C dL_law__1678 ?_
  refine w_sld C hS dL_law__1679 hw (fun x4 hw => ?_)
  refine v_aload_n C dL_law__1680 1 rfl rfl ?_
  refine v_iload C dL_law__1681 5 rfl ?_
  refine v_iconst (v := 4) C dL_law__1683 (by decide) ?_
  refine v_iadd C dL_law__1684 ?_
  refine w_sld C hS dL_law__1685 hw (fun x5 hw => ?_)
  refine v_if_eq (tgt := 1693) C dL_law__1686 (by decide) (fun c_1686 => ?_) (fun c_1686 => ?_)
  · have hw := hw.1 c_1686
    refine v_iconst (v := 0) C dL_law__1693 (by decide) ?_
    refine v_sub [1, 2, 3, 4, 5, 0] rfl ?_
    exact s_L_law__1694 C hr hS hkb hsb hk _ _ _ _ _ _ _ _ hw
  · have hw := hw.2 c_1686
    refine v_iconst (v := 1) C dL_law__1689 (by decide) ?_
    refine v_goto (tgt := 1694) C dL_law__1690 (by decide) ?_
    refine v_sub [1, 2, 3, 4, 5, 0] rfl ?_
    exact s_L_law__1694 C hr hS hkb hsb hk _ _ _ _ _ _ _ _ hw
set_option maxRecDepth 100000 in
set_option maxHeartbeats 4000000 in
theorem s_L_law__1622 {p : Program} {l : Launch} {e : Env} {s : State} {m : MethodId} {args : Array Value} {below : List Frame} {meth : Method} {c : Code} {g : GG} {xs : Nat → Int32} {L kb sb : Nat} {v0 : Nat} {v1 : Nat} {v2 : Nat} {v3 : Nat} {Q : Int32 → AH → Prop} {k : Int32 → AH → Prop} (C : CXT p l s m args meth c RL cL_law_ 7 g) (hr : meth.sig.returnType = (some .boolean)) (hS : SX g v0 L xs s) (hkb : kb + 33 ≤ 400000) (hsb : sb + 2669 ≤ 5000000) (hk : ∀ (y4 : Int32) (h : AH), k y4 h → V p l e s m args below meth c g 1050 400000 5000000 7 (kb + 33) (sb + 2669) (MQ below (QCx g (QI Q)) args s 400000 5000000 (gA g)) 23 [(0, .ref v0), (1, .ref v1), (2, .ref v2), (3, .ref v3), (4, .int y4)] [] h) : ∀ (v4 : Int32) (h : AH), w_L_law__1622 xs L k v0 v1 v2 v3 v4 h Q → V p l e s m args below meth c g 1050 400000 5000000 7 (kb + 0) (sb + 0) (MQ below (QCx g (QI Q)) args s 400000 5000000 (gA g)) 1622 [(0, .ref v0), (1, .ref v1), (2, .ref v2), (3, .ref v3), (4, .int v4)] [] h := by
  intro v4 h hw
  refine v_aload_n C dL_law__1622 1 rfl rfl ?_
  refine v_aload_n C dL_law__1623 0 rfl rfl ?_
  refine v_iload C dL_law__1624 4 rfl ?_
  refine v_iconst (v := 1) C dL_law__1626 (by decide) ?_
  refine v_iadd C dL_law__1627 ?_
  refine w_sld C hS dL_law__1628 hw (fun x1 hw => ?_)
  refine v_aload_n C dL_law__1629 0 rfl rfl ?_
  refine v_iload C dL_law__1630 4 rfl ?_
  refine v_iconst (v := 2) C dL_law__1632 (by decide) ?_
  refine v_iadd C dL_law__1633 ?_
  refine w_sld C hS dL_law__1634 hw (fun x2 hw => ?_)
  refine v_aload_n C dL_law__1635 0 rfl rfl ?_
  refine v_iload C dL_law__1636 4 rfl ?_
  refine v_iconst (v := 3) C dL_law__1638 (by decide) ?_
  refine v_iadd C dL_law__1639 ?_
  refine w_sld C hS dL_law__1640 hw (fun x3 hw => ?_)
  refine v_aload_n C dL_law__1641 0 rfl rfl ?_
  refine v_iload C dL_law__1642 4 rfl ?_
  refine v_iconst (v := 4) C dL_law__1644 (by decide) ?_
  refine v_iadd C dL_law__1645 ?_
  refine w_sld C hS dL_law__1646 hw (fun x4 hw => ?_)
  refine v_if_eq (tgt := 1654) C dL_law__1647 (by decide) (fun c_1647 => ?_) (fun c_1647 => ?_)
  · have hw := hw.1 c_1647
    refine v_iconst (v := 0) C dL_law__1654 (by decide) ?_
    exact s_L_law__1655 C hr hS hkb hsb hk _ _ _ _ _ _ _ hw
  · have hw := hw.2 c_1647
    refine v_iconst (v := 1) C dL_law__1650 (by decide) ?_
    refine v_goto (tgt := 1655) C dL_law__1651 (by decide) ?_
    exact s_L_law__1655 C hr hS hkb hsb hk _ _ _ _ _ _ _ hw
set_option maxRecDepth 100000 in
set_option maxHeartbeats 4000000 in
theorem s_L_law__1619 {p : Program} {l : Launch} {e : Env} {s : State} {m : MethodId} {args : Array Value} {below : List Frame} {meth : Method} {c : Code} {g : GG} {xs : Nat → Int32} {L kb sb : Nat} {v0 : Nat} {v1 : Nat} {v2 : Nat} {v3 : Nat} {Q : Int32 → AH → Prop} {k : Int32 → AH → Prop} (C : CXT p l s m args meth c RL cL_law_ 7 g) (hr : meth.sig.returnType = (some .boolean)) (hS : SX g v0 L xs s) (hkb : kb + 33 ≤ 400000) (hsb : sb + 2669 ≤ 5000000) (hk : ∀ (y4 : Int32) (h : AH), k y4 h → V p l e s m args below meth c g 1050 400000 5000000 7 (kb + 33) (sb + 2669) (MQ below (QCx g (QI Q)) args s 400000 5000000 (gA g)) 23 [(0, .ref v0), (1, .ref v1), (2, .ref v2), (3, .ref v3), (4, .int y4)] [] h) : ∀ (v4 : Int32) (h : AH), w_L_law__1619 xs L k v0 v1 v2 v3 v4 h Q → V p l e s m args below meth c g 1050 400000 5000000 7 (kb + 10) (sb + 2669) (MQ below (QCx g (QI Q)) args s 400000 5000000 (gA g)) 1619 [(0, .ref v0), (1, .ref v1), (2, .ref v2), (3, .ref v3), (4, .int v4)] [] h := by
  intro v4 h hw
  refine v_goto (tgt := 2741) C dL_law__1619 (by decide) ?_
  refine v_cells (kc' := kb + 33) (ks' := sb + 2669) (by first | decide | omega) (by first | decide | omega) ?_
  exact s_L_law__2741 C hr hS hkb hsb hk _ _ hw
set_option maxRecDepth 100000 in
set_option maxHeartbeats 4000000 in
theorem s_L_law__1554 {p : Program} {l : Launch} {e : Env} {s : State} {m : MethodId} {args : Array Value} {below : List Frame} {meth : Method} {c : Code} {g : GG} {xs : Nat → Int32} {L kb sb : Nat} {v0 : Nat} {v1 : Nat} {v2 : Nat} {v3 : Nat} {Q : Int32 → AH → Prop} {k : Int32 → AH → Prop} (C : CXT p l s m args meth c RL cL_law_ 7 g) (hr : meth.sig.returnType = (some .boolean)) (hS : SX g v0 L xs s) (hkb : kb + 33 ≤ 400000) (hsb : sb + 2669 ≤ 5000000) (hk : ∀ (y4 : Int32) (h : AH), k y4 h → V p l e s m args below meth c g 1050 400000 5000000 7 (kb + 33) (sb + 2669) (MQ below (QCx g (QI Q)) args s 400000 5000000 (gA g)) 23 [(0, .ref v0), (1, .ref v1), (2, .ref v2), (3, .ref v3), (4, .int y4)] [] h) : ∀ (v4 : Int32) (h : AH), w_L_law__1554 xs L k v0 v1 v2 v3 v4 h Q → V p l e s m args below meth c g 1050 400000 5000000 7 (kb + 0) (sb + 0) (MQ below (QCx g (QI Q)) args s 400000 5000000 (gA g)) 1554 [(0, .ref v0), (1, .ref v1), (2, .ref v2), (3, .ref v3), (4, .int v4)] [] h := by
  intro v4 h hw
  refine v_aload_n C dL_law__1554 1 rfl rfl ?_
  refine v_aload_n C dL_law__1555 0 rfl rfl ?_
  refine v_iload C dL_law__1556 4 rfl ?_
  refine v_iconst (v := 1) C dL_law__1558 (by decide) ?_
  refine v_iadd C dL_law__1559 ?_
  refine w_sld C hS dL_law__1560 hw (fun x1 hw => ?_)
  refine v_aload_n C dL_law__1561 0 rfl rfl ?_
  refine v_iload C dL_law__1562 4 rfl ?_
  refine v_iconst (v := 2) C dL_law__1564 (by decide) ?_
  refine v_iadd C dL_law__1565 ?_
  refine w_sld C hS dL_law__1566 hw (fun x2 hw => ?_)
  refine v_aload_n C dL_law__1567 3 rfl rfl ?_
  refine v_callHS (st := []) C (tb6 (List.mem_of_getElem? (i := 19) rfl)) (tb6 (List.mem_of_getElem? (i := 21) rfl)) rfl (tb1 (List.mem_of_getElem? (i := 0) rfl)) ⟨by decide, by decide⟩ (n := 4) (by decide +kernel) (tb6 (List.mem_of_getElem? (i := 20) rfl)) (s_L_way hw) rfl dL_law__1568 rfl (by first | decide | omega) (by first | decide | omega) (by first | decide | omega) (by first | decide | omega) (by first | decide | omega) (fun x3 h hw => ?_)
  refine v_istore (ls' := [(5, .int x3), (0, .ref v0), (1, .ref v1), (2, .ref v2), (3, .ref v3), (4, .int v4)]) C dL_law__1571 (by decide) rfl ?_
  refine v_aload_n C dL_law__1573 3 rfl rfl ?_
  refine v_aload_n C dL_law__1574 1 rfl rfl ?_
  refine v_iload C dL_law__1575 5 rfl ?_
  refine v_iconst (v := 1) C dL_law__1577 (by decide) ?_
  refine v_iadd C dL_law__1578 ?_
  refine w_sld C hS dL_law__1579 hw (fun x4 hw => ?_)
  refine v_aload_n C dL_law__1580 1 rfl rfl ?_
  refine v_iload C dL_law__1581 5 rfl ?_
  refine v_iconst (v := 2) C dL_law__1583 (by decide) ?_
  refine v_iadd C dL_law__1584 ?_
  refine w_sld C hS dL_law__1585 hw (fun x5 hw => ?_)
  refine w_callVi (st := []) C cl_L_221 im_X12_way se_X12_way rfl hw.1 (s_X12_way hw.2) rfl dL_law__1586 rfl (by first | decide | omega) (by omega) (by first | decide | omega) (by first | decide | omega) (by first | decide | omega) (fun x6 h hw => ?_)
  refine v_istore (ls' := [(6, .int x6), (5, .int x3), (0, .ref v0), (1, .ref v1), (2, .ref v2), (3, .ref v3), (4, .int v4)]) C dL_law__1589 (by decide) rfl ?_
  refine v_aload_n C dL_law__1591 4 rfl rfl ?_
  refine w_callVi (st := []) C cl_L_146 im_X12_thrown se_X12_thrown rfl hw.1 (s_X12_thrown hw.2) rfl dL_law__1592 rfl (by first | decide | omega) (by omega) (by first | decide | omega) (by first | decide | omega) (by first | decide | omega) (fun x7 h hw => ?_)
  refine v_iload C dL_law__1595 1 rfl ?_
  refine v_icmp_eq (tgt := 1602) C dL_law__1597 (by decide) (fun c_1597 => ?_) (fun c_1597 => ?_)
  · have hw := hw.1 c_1597
    refine v_iload C dL_law__1602 1 rfl ?_
    refine v_if_ne (tgt := 1619) C dL_law__1604 (by decide) (fun c_1604 => ?_) (fun c_1604 => ?_)
    · have hw := hw.2 c_1604
      refine v_sub [2, 3, 4, 5, 6] rfl ?_
      exact s_L_law__1619 C hr hS hkb hsb hk _ _ hw
    · have hw := hw.1 c_1604
      refine v_aload_n C dL_law__1607 5 rfl rfl ?_
      refine v_iconst (v := 0) C dL_law__1608 (by decide) ?_
      refine w_laload C dL_law__1609 hw (fun j8 hw => ?_)
      refine v_iload C dL_law__1610 0 rfl ?_
      refine v_i2l C dL_law__1612 ?_
      refine v_lcmp C dL_law__1613 ?_
      refine v_if_eq (tgt := 1619) C dL_law__1614 (by decide) (fun c_1614 => ?_) (fun c_1614 => ?_)
      · have hw := hw.1 c_1614
        refine v_sub [2, 3, 4, 5, 6] rfl ?_
        exact s_L_law__1619 C hr hS hkb hsb hk _ _ hw
      · have hw := hw.2 c_1614
        refine v_iconst (v := 0) C dL_law__1617 (by decide) ?_
        exact (rt_MQ C _).2.1 _ _ _ _ _ _ _ hr rfl dL_law__1618 (by first | decide | omega) (by first | decide | omega) ⟨_, rfl, hw⟩
  · have hw := hw.2 c_1597
    refine v_iconst (v := 0) C dL_law__1600 (by decide) ?_
    exact (rt_MQ C _).2.1 _ _ _ _ _ _ _ hr rfl dL_law__1601 (by first | decide | omega) (by first | decide | omega) ⟨_, rfl, hw⟩
set_option maxRecDepth 100000 in
set_option maxHeartbeats 4000000 in
theorem s_L_law__1551 {p : Program} {l : Launch} {e : Env} {s : State} {m : MethodId} {args : Array Value} {below : List Frame} {meth : Method} {c : Code} {g : GG} {xs : Nat → Int32} {L kb sb : Nat} {v0 : Nat} {v1 : Nat} {v2 : Nat} {v3 : Nat} {Q : Int32 → AH → Prop} {k : Int32 → AH → Prop} (C : CXT p l s m args meth c RL cL_law_ 7 g) (hr : meth.sig.returnType = (some .boolean)) (hS : SX g v0 L xs s) (hkb : kb + 33 ≤ 400000) (hsb : sb + 2669 ≤ 5000000) (hk : ∀ (y4 : Int32) (h : AH), k y4 h → V p l e s m args below meth c g 1050 400000 5000000 7 (kb + 33) (sb + 2669) (MQ below (QCx g (QI Q)) args s 400000 5000000 (gA g)) 23 [(0, .ref v0), (1, .ref v1), (2, .ref v2), (3, .ref v3), (4, .int y4)] [] h) : ∀ (v4 : Int32) (h : AH), w_L_law__1551 xs L k v0 v1 v2 v3 v4 h Q → V p l e s m args below meth c g 1050 400000 5000000 7 (kb + 1) (sb + 6) (MQ below (QCx g (QI Q)) args s 400000 5000000 (gA g)) 1551 [(0, .ref v0), (1, .ref v1), (2, .ref v2), (3, .ref v3), (4, .int v4)] [] h := by
  intro v4 h hw
  refine v_goto (tgt := 2741) C dL_law__1551 (by decide) ?_
  refine v_cells (kc' := kb + 33) (ks' := sb + 2669) (by first | decide | omega) (by first | decide | omega) ?_
  exact s_L_law__2741 C hr hS hkb hsb hk _ _ hw
set_option maxRecDepth 100000 in
set_option maxHeartbeats 4000000 in
theorem s_L_law__1498 {p : Program} {l : Launch} {e : Env} {s : State} {m : MethodId} {args : Array Value} {below : List Frame} {meth : Method} {c : Code} {g : GG} {xs : Nat → Int32} {L kb sb : Nat} {v0 : Nat} {v1 : Nat} {v2 : Nat} {v3 : Nat} {Q : Int32 → AH → Prop} {k : Int32 → AH → Prop} (C : CXT p l s m args meth c RL cL_law_ 7 g) (hr : meth.sig.returnType = (some .boolean)) (hS : SX g v0 L xs s) (hkb : kb + 33 ≤ 400000) (hsb : sb + 2669 ≤ 5000000) (hk : ∀ (y4 : Int32) (h : AH), k y4 h → V p l e s m args below meth c g 1050 400000 5000000 7 (kb + 33) (sb + 2669) (MQ below (QCx g (QI Q)) args s 400000 5000000 (gA g)) 23 [(0, .ref v0), (1, .ref v1), (2, .ref v2), (3, .ref v3), (4, .int y4)] [] h) : ∀ (v4 : Int32) (h : AH), w_L_law__1498 xs L k v0 v1 v2 v3 v4 h Q → V p l e s m args below meth c g 1050 400000 5000000 7 (kb + 0) (sb + 0) (MQ below (QCx g (QI Q)) args s 400000 5000000 (gA g)) 1498 [(0, .ref v0), (1, .ref v1), (2, .ref v2), (3, .ref v3), (4, .int v4)] [] h := by
  intro v4 h hw
  refine v_aload_n C dL_law__1498 1 rfl rfl ?_
  refine v_aload_n C dL_law__1499 0 rfl rfl ?_
  refine v_iload C dL_law__1500 4 rfl ?_
  refine v_iconst (v := 1) C dL_law__1502 (by decide) ?_
  refine v_iadd C dL_law__1503 ?_
  refine w_sld C hS dL_law__1504 hw (fun x1 hw => ?_)
  refine v_aload_n C dL_law__1505 3 rfl rfl ?_
  refine v_callHS (st := []) C (tb5 (List.mem_of_getElem? (i := 236) rfl)) (tb5 (List.mem_of_getElem? (i := 238) rfl)) rfl (tb1 (List.mem_of_getElem? (i := 0) rfl)) ⟨by decide, by decide⟩ (n := 3) (by decide +kernel) (tb5 (List.mem_of_getElem? (i := 237) rfl)) (s_L_later hw) rfl dL_law__1506 rfl (by first | decide | omega) (by first | decide | omega) (by first | decide | omega) (by first | decide | omega) (by first | decide | omega) (fun x2 h hw => ?_)
  refine v_istore (ls' := [(5, .int x2), (0, .ref v0), (1, .ref v1), (2, .ref v2), (3, .ref v3), (4, .int v4)]) C dL_law__1509 (by decide) rfl ?_
  refine v_aload_n C dL_law__1511 3 rfl rfl ?_
  refine v_aload_n C dL_law__1512 1 rfl rfl ?_
  refine v_iload C dL_law__1513 5 rfl ?_
  refine v_iconst (v := 1) C dL_law__1515 (by decide) ?_
  refine v_iadd C dL_law__1516 ?_
  refine w_sld C hS dL_law__1517 hw (fun x3 hw => ?_)
  refine w_callVi (st := []) C cl_L_218 im_X12_later se_X12_later rfl hw.1 (s_X12_later hw.2) rfl dL_law__1518 rfl (by first | decide | omega) (by omega) (by first | decide | omega) (by first | decide | omega) (by first | decide | omega) (fun x4 h hw => ?_)
  refine v_istore (ls' := [(6, .int x4), (5, .int x2), (0, .ref v0), (1, .ref v1), (2, .ref v2), (3, .ref v3), (4, .int v4)]) C dL_law__1521 (by decide) rfl ?_
  refine v_aload_n C dL_law__1523 4 rfl rfl ?_
  refine w_callVi (st := []) C cl_L_146 im_X12_thrown se_X12_thrown rfl hw.1 (s_X12_thrown hw.2) rfl dL_law__1524 rfl (by first | decide | omega) (by omega) (by first | decide | omega) (by first | decide | omega) (by first | decide | omega) (fun x5 h hw => ?_)
  refine v_iload C dL_law__1527 1 rfl ?_
  refine v_icmp_eq (tgt := 1534) C dL_law__1529 (by decide) (fun c_1529 => ?_) (fun c_1529 => ?_)
  · have hw := hw.1 c_1529
    refine v_iload C dL_law__1534 1 rfl ?_
    refine v_if_ne (tgt := 1551) C dL_law__1536 (by decide) (fun c_1536 => ?_) (fun c_1536 => ?_)
    · have hw := hw.2 c_1536
      refine v_sub [2, 3, 4, 5, 6] rfl ?_
      exact s_L_law__1551 C hr hS hkb hsb hk _ _ hw
    · have hw := hw.1 c_1536
      refine v_aload_n C dL_law__1539 5 rfl rfl ?_
      refine v_iconst (v := 0) C dL_law__1540 (by decide) ?_
      refine w_laload C dL_law__1541 hw (fun j6 hw => ?_)
      refine v_iload C dL_law__1542 0 rfl ?_
      refine v_i2l C dL_law__1544 ?_
      refine v_lcmp C dL_law__1545 ?_
      refine v_if_eq (tgt := 1551) C dL_law__1546 (by decide) (fun c_1546 => ?_) (fun c_1546 => ?_)
      · have hw := hw.1 c_1546
        refine v_sub [2, 3, 4, 5, 6] rfl ?_
        exact s_L_law__1551 C hr hS hkb hsb hk _ _ hw
      · have hw := hw.2 c_1546
        refine v_iconst (v := 0) C dL_law__1549 (by decide) ?_
        exact (rt_MQ C _).2.1 _ _ _ _ _ _ _ hr rfl dL_law__1550 (by first | decide | omega) (by first | decide | omega) ⟨_, rfl, hw⟩
  · have hw := hw.2 c_1529
    refine v_iconst (v := 0) C dL_law__1532 (by decide) ?_
    exact (rt_MQ C _).2.1 _ _ _ _ _ _ _ hr rfl dL_law__1533 (by first | decide | omega) (by first | decide | omega) ⟨_, rfl, hw⟩
set_option maxRecDepth 100000 in
set_option maxHeartbeats 4000000 in
theorem s_L_law__1495 {p : Program} {l : Launch} {e : Env} {s : State} {m : MethodId} {args : Array Value} {below : List Frame} {meth : Method} {c : Code} {g : GG} {xs : Nat → Int32} {L kb sb : Nat} {v0 : Nat} {v1 : Nat} {v2 : Nat} {v3 : Nat} {Q : Int32 → AH → Prop} {k : Int32 → AH → Prop} (C : CXT p l s m args meth c RL cL_law_ 7 g) (hr : meth.sig.returnType = (some .boolean)) (hS : SX g v0 L xs s) (hkb : kb + 33 ≤ 400000) (hsb : sb + 2669 ≤ 5000000) (hk : ∀ (y4 : Int32) (h : AH), k y4 h → V p l e s m args below meth c g 1050 400000 5000000 7 (kb + 33) (sb + 2669) (MQ below (QCx g (QI Q)) args s 400000 5000000 (gA g)) 23 [(0, .ref v0), (1, .ref v1), (2, .ref v2), (3, .ref v3), (4, .int y4)] [] h) : ∀ (v4 : Int32) (h : AH), w_L_law__1495 xs L k v0 v1 v2 v3 v4 h Q → V p l e s m args below meth c g 1050 400000 5000000 7 (kb + 4) (sb + 24) (MQ below (QCx g (QI Q)) args s 400000 5000000 (gA g)) 1495 [(0, .ref v0), (1, .ref v1), (2, .ref v2), (3, .ref v3), (4, .int v4)] [] h := by
  intro v4 h hw
  refine v_goto (tgt := 2741) C dL_law__1495 (by decide) ?_
  refine v_cells (kc' := kb + 33) (ks' := sb + 2669) (by first | decide | omega) (by first | decide | omega) ?_
  exact s_L_law__2741 C hr hS hkb hsb hk _ _ hw
set_option maxRecDepth 100000 in
set_option maxHeartbeats 4000000 in
theorem s_L_law__1418 {p : Program} {l : Launch} {e : Env} {s : State} {m : MethodId} {args : Array Value} {below : List Frame} {meth : Method} {c : Code} {g : GG} {xs : Nat → Int32} {L kb sb : Nat} {v0 : Nat} {v1 : Nat} {v2 : Nat} {v3 : Nat} {Q : Int32 → AH → Prop} {k : Int32 → AH → Prop} (C : CXT p l s m args meth c RL cL_law_ 7 g) (hr : meth.sig.returnType = (some .boolean)) (hS : SX g v0 L xs s) (hkb : kb + 33 ≤ 400000) (hsb : sb + 2669 ≤ 5000000) (hk : ∀ (y4 : Int32) (h : AH), k y4 h → V p l e s m args below meth c g 1050 400000 5000000 7 (kb + 33) (sb + 2669) (MQ below (QCx g (QI Q)) args s 400000 5000000 (gA g)) 23 [(0, .ref v0), (1, .ref v1), (2, .ref v2), (3, .ref v3), (4, .int y4)] [] h) : ∀ (v4 : Int32) (h : AH), w_L_law__1418 xs L k v0 v1 v2 v3 v4 h Q → V p l e s m args below meth c g 1050 400000 5000000 7 (kb + 0) (sb + 0) (MQ below (QCx g (QI Q)) args s 400000 5000000 (gA g)) 1418 [(0, .ref v0), (1, .ref v1), (2, .ref v2), (3, .ref v3), (4, .int v4)] [] h := by
  intro v4 h hw
  refine v_aload_n C dL_law__1418 1 rfl rfl ?_
  refine v_aload_n C dL_law__1419 0 rfl rfl ?_
  refine v_iload C dL_law__1420 4 rfl ?_
  refine v_iconst (v := 1) C dL_law__1422 (by decide) ?_
  refine v_iadd C dL_law__1423 ?_
  refine w_sld C hS dL_law__1424 hw (fun x1 hw => ?_)
  refine v_aload_n C dL_law__1425 0 rfl rfl ?_
  refine v_iload C dL_law__1426 4 rfl ?_
  refine v_iconst (v := 2) C dL_law__1428 (by decide) ?_
  refine v_iadd C dL_law__1429 ?_
  refine w_sld C hS dL_law__1430 hw (fun x2 hw => ?_)
  refine v_aload_n C dL_law__1431 0 rfl rfl ?_
  refine v_iload C dL_law__1432 4 rfl ?_
  refine v_iconst (v := 3) C dL_law__1434 (by decide) ?_
  refine v_iadd C dL_law__1435 ?_
  refine w_sld C hS dL_law__1436 hw (fun x3 hw => ?_)
  refine v_aload_n C dL_law__1437 3 rfl rfl ?_
  refine v_callHS (st := []) C (tb5 (List.mem_of_getElem? (i := 225) rfl)) (tb5 (List.mem_of_getElem? (i := 227) rfl)) rfl (tb1 (List.mem_of_getElem? (i := 0) rfl)) ⟨by decide, by decide⟩ (n := 5) (by decide +kernel) (tb5 (List.mem_of_getElem? (i := 226) rfl)) (s_L_same hw) rfl dL_law__1438 rfl (by first | decide | omega) (by first | decide | omega) (by first | decide | omega) (by first | decide | omega) (by first | decide | omega) (fun x4 h hw => ?_)
  refine v_istore (ls' := [(5, .int x4), (0, .ref v0), (1, .ref v1), (2, .ref v2), (3, .ref v3), (4, .int v4)]) C dL_law__1441 (by decide) rfl ?_
  refine v_aload_n C dL_law__1443 3 rfl rfl ?_
  refine v_aload_n C dL_law__1444 1 rfl rfl ?_
  refine v_iload C dL_law__1445 5 rfl ?_
  refine v_iconst (v := 1) C dL_law__1447 (by decide) ?_
  refine v_iadd C dL_law__1448 ?_
  refine w_sld C hS dL_law__1449 hw (fun x5 hw => ?_)
  refine v_aload_n C dL_law__1450 1 rfl rfl ?_
  refine v_iload C dL_law__1451 5 rfl ?_
  refine v_iconst (v := 2) C dL_law__1453 (by decide) ?_
  refine v_iadd C dL_law__1454 ?_
  refine w_sld C hS dL_law__1455 hw (fun x6 hw => ?_)
  refine v_aload_n C dL_law__1456 1 rfl rfl ?_
  refine v_iload C dL_law__1457 5 rfl ?_
  refine v_iconst (v := 3) C dL_law__1459 (by decide) ?_
  refine v_iadd C dL_law__1460 ?_
  refine w_sld C hS dL_law__1461 hw (fun x7 hw => ?_)
  refine w_callVi (st := []) C cl_L_215 im_X12_same se_X12_same rfl hw.1 (s_X12_same hw.2) rfl dL_law__1462 rfl (by first | decide | omega) (by omega) (by first | decide | omega) (by first | decide | omega) (by first | decide | omega) (fun x8 h hw => ?_)
  refine v_istore (ls' := [(6, .int x8), (5, .int x4), (0, .ref v0), (1, .ref v1), (2, .ref v2), (3, .ref v3), (4, .int v4)]) C dL_law__1465 (by decide) rfl ?_
  refine v_aload_n C dL_law__1467 4 rfl rfl ?_
  refine w_callVi (st := []) C cl_L_146 im_X12_thrown se_X12_thrown rfl hw.1 (s_X12_thrown hw.2) rfl dL_law__1468 rfl (by first | decide | omega) (by omega) (by first | decide | omega) (by first | decide | omega) (by first | decide | omega) (fun x9 h hw => ?_)
  refine v_iload C dL_law__1471 1 rfl ?_
  refine v_icmp_eq (tgt := 1478) C dL_law__1473 (by decide) (fun c_1473 => ?_) (fun c_1473 => ?_)
  · have hw := hw.1 c_1473
    refine v_iload C dL_law__1478 1 rfl ?_
    refine v_if_ne (tgt := 1495) C dL_law__1480 (by decide) (fun c_1480 => ?_) (fun c_1480 => ?_)
    · have hw := hw.2 c_1480
      refine v_sub [2, 3, 4, 5, 6] rfl ?_
      exact s_L_law__1495 C hr hS hkb hsb hk _ _ hw
    · have hw := hw.1 c_1480
      refine v_aload_n C dL_law__1483 5 rfl rfl ?_
      refine v_iconst (v := 0) C dL_law__1484 (by decide) ?_
      refine w_laload C dL_law__1485 hw (fun j10 hw => ?_)
      refine v_iload C dL_law__1486 0 rfl ?_
      refine v_i2l C dL_law__1488 ?_
      refine v_lcmp C dL_law__1489 ?_
      refine v_if_eq (tgt := 1495) C dL_law__1490 (by decide) (fun c_1490 => ?_) (fun c_1490 => ?_)
      · have hw := hw.1 c_1490
        refine v_sub [2, 3, 4, 5, 6] rfl ?_
        exact s_L_law__1495 C hr hS hkb hsb hk _ _ hw
      · have hw := hw.2 c_1490
        refine v_iconst (v := 0) C dL_law__1493 (by decide) ?_
        exact (rt_MQ C _).2.1 _ _ _ _ _ _ _ hr rfl dL_law__1494 (by first | decide | omega) (by first | decide | omega) ⟨_, rfl, hw⟩
  · have hw := hw.2 c_1473
    refine v_iconst (v := 0) C dL_law__1476 (by decide) ?_
    exact (rt_MQ C _).2.1 _ _ _ _ _ _ _ hr rfl dL_law__1477 (by first | decide | omega) (by first | decide | omega) ⟨_, rfl, hw⟩
set_option maxRecDepth 100000 in
set_option maxHeartbeats 4000000 in
theorem s_L_law__1415 {p : Program} {l : Launch} {e : Env} {s : State} {m : MethodId} {args : Array Value} {below : List Frame} {meth : Method} {c : Code} {g : GG} {xs : Nat → Int32} {L kb sb : Nat} {v0 : Nat} {v1 : Nat} {v2 : Nat} {v3 : Nat} {Q : Int32 → AH → Prop} {k : Int32 → AH → Prop} (C : CXT p l s m args meth c RL cL_law_ 7 g) (hr : meth.sig.returnType = (some .boolean)) (hS : SX g v0 L xs s) (hkb : kb + 33 ≤ 400000) (hsb : sb + 2669 ≤ 5000000) (hk : ∀ (y4 : Int32) (h : AH), k y4 h → V p l e s m args below meth c g 1050 400000 5000000 7 (kb + 33) (sb + 2669) (MQ below (QCx g (QI Q)) args s 400000 5000000 (gA g)) 23 [(0, .ref v0), (1, .ref v1), (2, .ref v2), (3, .ref v3), (4, .int y4)] [] h) : ∀ (v4 : Int32) (h : AH), w_L_law__1415 xs L k v0 v1 v2 v3 v4 h Q → V p l e s m args below meth c g 1050 400000 5000000 7 (kb + 2) (sb + 12) (MQ below (QCx g (QI Q)) args s 400000 5000000 (gA g)) 1415 [(0, .ref v0), (1, .ref v1), (2, .ref v2), (3, .ref v3), (4, .int v4)] [] h := by
  intro v4 h hw
  refine v_goto (tgt := 2741) C dL_law__1415 (by decide) ?_
  refine v_cells (kc' := kb + 33) (ks' := sb + 2669) (by first | decide | omega) (by first | decide | omega) ?_
  exact s_L_law__2741 C hr hS hkb hsb hk _ _ hw
set_option maxRecDepth 100000 in
set_option maxHeartbeats 4000000 in
theorem s_L_law__1350 {p : Program} {l : Launch} {e : Env} {s : State} {m : MethodId} {args : Array Value} {below : List Frame} {meth : Method} {c : Code} {g : GG} {xs : Nat → Int32} {L kb sb : Nat} {v0 : Nat} {v1 : Nat} {v2 : Nat} {v3 : Nat} {Q : Int32 → AH → Prop} {k : Int32 → AH → Prop} (C : CXT p l s m args meth c RL cL_law_ 7 g) (hr : meth.sig.returnType = (some .boolean)) (hS : SX g v0 L xs s) (hkb : kb + 33 ≤ 400000) (hsb : sb + 2669 ≤ 5000000) (hk : ∀ (y4 : Int32) (h : AH), k y4 h → V p l e s m args below meth c g 1050 400000 5000000 7 (kb + 33) (sb + 2669) (MQ below (QCx g (QI Q)) args s 400000 5000000 (gA g)) 23 [(0, .ref v0), (1, .ref v1), (2, .ref v2), (3, .ref v3), (4, .int y4)] [] h) : ∀ (v4 : Int32) (h : AH), w_L_law__1350 xs L k v0 v1 v2 v3 v4 h Q → V p l e s m args below meth c g 1050 400000 5000000 7 (kb + 0) (sb + 0) (MQ below (QCx g (QI Q)) args s 400000 5000000 (gA g)) 1350 [(0, .ref v0), (1, .ref v1), (2, .ref v2), (3, .ref v3), (4, .int v4)] [] h := by
  intro v4 h hw
  refine v_aload_n C dL_law__1350 1 rfl rfl ?_
  refine v_aload_n C dL_law__1351 0 rfl rfl ?_
  refine v_iload C dL_law__1352 4 rfl ?_
  refine v_iconst (v := 1) C dL_law__1354 (by decide) ?_
  refine v_iadd C dL_law__1355 ?_
  refine w_sld C hS dL_law__1356 hw (fun x1 hw => ?_)
  refine v_aload_n C dL_law__1357 0 rfl rfl ?_
  refine v_iload C dL_law__1358 4 rfl ?_
  refine v_iconst (v := 2) C dL_law__1360 (by decide) ?_
  refine v_iadd C dL_law__1361 ?_
  refine w_sld C hS dL_law__1362 hw (fun x2 hw => ?_)
  refine v_aload_n C dL_law__1363 3 rfl rfl ?_
  refine v_callHS (st := []) C (tb5 (List.mem_of_getElem? (i := 200) rfl)) (tb5 (List.mem_of_getElem? (i := 202) rfl)) rfl (tb1 (List.mem_of_getElem? (i := 0) rfl)) ⟨by decide, by decide⟩ (n := 4) (by decide +kernel) (tb5 (List.mem_of_getElem? (i := 201) rfl)) (s_L_needed hw) rfl dL_law__1364 rfl (by first | decide | omega) (by first | decide | omega) (by first | decide | omega) (by first | decide | omega) (by first | decide | omega) (fun x3 h hw => ?_)
  refine v_istore (ls' := [(5, .int x3), (0, .ref v0), (1, .ref v1), (2, .ref v2), (3, .ref v3), (4, .int v4)]) C dL_law__1367 (by decide) rfl ?_
  refine v_aload_n C dL_law__1369 3 rfl rfl ?_
  refine v_aload_n C dL_law__1370 1 rfl rfl ?_
  refine v_iload C dL_law__1371 5 rfl ?_
  refine v_iconst (v := 1) C dL_law__1373 (by decide) ?_
  refine v_iadd C dL_law__1374 ?_
  refine w_sld C hS dL_law__1375 hw (fun x4 hw => ?_)
  refine v_aload_n C dL_law__1376 1 rfl rfl ?_
  refine v_iload C dL_law__1377 5 rfl ?_
  refine v_iconst (v := 2) C dL_law__1379 (by decide) ?_
  refine v_iadd C dL_law__1380 ?_
  refine w_sld C hS dL_law__1381 hw (fun x5 hw => ?_)
  refine w_callVi (st := []) C cl_L_212 im_X12_needed se_X12_needed rfl hw.1 (s_X12_needed hw.2) rfl dL_law__1382 rfl (by first | decide | omega) (by omega) (by first | decide | omega) (by first | decide | omega) (by first | decide | omega) (fun x6 h hw => ?_)
  refine v_istore (ls' := [(6, .int x6), (5, .int x3), (0, .ref v0), (1, .ref v1), (2, .ref v2), (3, .ref v3), (4, .int v4)]) C dL_law__1385 (by decide) rfl ?_
  refine v_aload_n C dL_law__1387 4 rfl rfl ?_
  refine w_callVi (st := []) C cl_L_146 im_X12_thrown se_X12_thrown rfl hw.1 (s_X12_thrown hw.2) rfl dL_law__1388 rfl (by first | decide | omega) (by omega) (by first | decide | omega) (by first | decide | omega) (by first | decide | omega) (fun x7 h hw => ?_)
  refine v_iload C dL_law__1391 1 rfl ?_
  refine v_icmp_eq (tgt := 1398) C dL_law__1393 (by decide) (fun c_1393 => ?_) (fun c_1393 => ?_)
  · have hw := hw.1 c_1393
    refine v_iload C dL_law__1398 1 rfl ?_
    refine v_if_ne (tgt := 1415) C dL_law__1400 (by decide) (fun c_1400 => ?_) (fun c_1400 => ?_)
    · have hw := hw.2 c_1400
      refine v_sub [2, 3, 4, 5, 6] rfl ?_
      exact s_L_law__1415 C hr hS hkb hsb hk _ _ hw
    · have hw := hw.1 c_1400
      refine v_aload_n C dL_law__1403 5 rfl rfl ?_
      refine v_iconst (v := 0) C dL_law__1404 (by decide) ?_
      refine w_laload C dL_law__1405 hw (fun j8 hw => ?_)
      refine v_iload C dL_law__1406 0 rfl ?_
      refine v_i2l C dL_law__1408 ?_
      refine v_lcmp C dL_law__1409 ?_
      refine v_if_eq (tgt := 1415) C dL_law__1410 (by decide) (fun c_1410 => ?_) (fun c_1410 => ?_)
      · have hw := hw.1 c_1410
        refine v_sub [2, 3, 4, 5, 6] rfl ?_
        exact s_L_law__1415 C hr hS hkb hsb hk _ _ hw
      · have hw := hw.2 c_1410
        refine v_iconst (v := 0) C dL_law__1413 (by decide) ?_
        exact (rt_MQ C _).2.1 _ _ _ _ _ _ _ hr rfl dL_law__1414 (by first | decide | omega) (by first | decide | omega) ⟨_, rfl, hw⟩
  · have hw := hw.2 c_1393
    refine v_iconst (v := 0) C dL_law__1396 (by decide) ?_
    exact (rt_MQ C _).2.1 _ _ _ _ _ _ _ hr rfl dL_law__1397 (by first | decide | omega) (by first | decide | omega) ⟨_, rfl, hw⟩
set_option maxRecDepth 100000 in
set_option maxHeartbeats 4000000 in
theorem s_L_law__1337 {p : Program} {l : Launch} {e : Env} {s : State} {m : MethodId} {args : Array Value} {below : List Frame} {meth : Method} {c : Code} {g : GG} {xs : Nat → Int32} {L kb sb : Nat} {v0 : Nat} {v1 : Nat} {v2 : Nat} {v3 : Nat} {Q : Int32 → AH → Prop} {k : Int32 → AH → Prop} (C : CXT p l s m args meth c RL cL_law_ 7 g) (hr : meth.sig.returnType = (some .boolean)) (hS : SX g v0 L xs s) (hkb : kb + 33 ≤ 400000) (hsb : sb + 2669 ≤ 5000000) (hk : ∀ (y4 : Int32) (h : AH), k y4 h → V p l e s m args below meth c g 1050 400000 5000000 7 (kb + 33) (sb + 2669) (MQ below (QCx g (QI Q)) args s 400000 5000000 (gA g)) 23 [(0, .ref v0), (1, .ref v1), (2, .ref v2), (3, .ref v3), (4, .int y4)] [] h) : ∀ (v4 : Int32) (h : AH), w_L_law__1337 xs L k v0 v1 v2 v3 v4 h Q → V p l e s m args below meth c g 1050 400000 5000000 7 (kb + 0) (sb + 0) (MQ below (QCx g (QI Q)) args s 400000 5000000 (gA g)) 1337 [(0, .ref v0), (1, .ref v1), (2, .ref v2), (3, .ref v3), (4, .int v4)] [] h := by
  intro v4 h hw
  refine v_aload_n C dL_law__1337 1 rfl rfl ?_
  refine w_callVi (st := []) C cl_L_206 im_X11_next se_X11_next rfl hw.1 (s_X11_next hw.2) rfl dL_law__1338 rfl (by first | decide | omega) (by omega) (by first | decide | omega) (by first | decide | omega) (by first | decide | omega) (fun x1 h hw => ?_)
  refine v_aload_n C dL_law__1341 2 rfl rfl ?_
  refine w_callVi (st := [.int x1]) C cl_L_209 im_X12_next se_X12_next rfl hw.1 (s_X12_next hw.2) rfl dL_law__1342 rfl (Nat.le_of_ble_eq_true rfl) (by omega) (by first | decide | omega) (by first | decide | omega) (by first | decide | omega) (fun x2 h hw => ?_)
  refine v_icmp_eq (tgt := 2741) C dL_law__1345 (by decide) (fun c_1345 => ?_) (fun c_1345 => ?_)
  · have hw := hw.1 c_1345
    refine v_cells (kc' := kb + 33) (ks' := sb + 2669) (by first | decide | omega) (by first | decide | omega) ?_
    exact s_L_law__2741 C hr hS hkb hsb hk _ _ hw
  · have hw := hw.2 c_1345
    refine v_iconst (v := 0) C dL_law__1348 (by decide) ?_
    exact (rt_MQ C _).2.1 _ _ _ _ _ _ _ hr rfl dL_law__1349 (by first | decide | omega) (by first | decide | omega) ⟨_, rfl, hw⟩
set_option maxRecDepth 100000 in
set_option maxHeartbeats 4000000 in
theorem s_L_law__1334 {p : Program} {l : Launch} {e : Env} {s : State} {m : MethodId} {args : Array Value} {below : List Frame} {meth : Method} {c : Code} {g : GG} {xs : Nat → Int32} {L kb sb : Nat} {v0 : Nat} {v1 : Nat} {v2 : Nat} {v3 : Nat} {Q : Int32 → AH → Prop} {k : Int32 → AH → Prop} (C : CXT p l s m args meth c RL cL_law_ 7 g) (hr : meth.sig.returnType = (some .boolean)) (hS : SX g v0 L xs s) (hkb : kb + 33 ≤ 400000) (hsb : sb + 2669 ≤ 5000000) (hk : ∀ (y4 : Int32) (h : AH), k y4 h → V p l e s m args below meth c g 1050 400000 5000000 7 (kb + 33) (sb + 2669) (MQ below (QCx g (QI Q)) args s 400000 5000000 (gA g)) 23 [(0, .ref v0), (1, .ref v1), (2, .ref v2), (3, .ref v3), (4, .int y4)] [] h) : ∀ (v4 : Int32) (h : AH), w_L_law__1334 xs L k v0 v1 v2 v3 v4 h Q → V p l e s m args below meth c g 1050 400000 5000000 7 (kb + 1) (sb + 6) (MQ below (QCx g (QI Q)) args s 400000 5000000 (gA g)) 1334 [(0, .ref v0), (1, .ref v1), (2, .ref v2), (3, .ref v3), (4, .int v4)] [] h := by
  intro v4 h hw
  refine v_goto (tgt := 2741) C dL_law__1334 (by decide) ?_
  refine v_cells (kc' := kb + 33) (ks' := sb + 2669) (by first | decide | omega) (by first | decide | omega) ?_
  exact s_L_law__2741 C hr hS hkb hsb hk _ _ hw
set_option maxRecDepth 100000 in
set_option maxHeartbeats 4000000 in
theorem s_L_law__1281 {p : Program} {l : Launch} {e : Env} {s : State} {m : MethodId} {args : Array Value} {below : List Frame} {meth : Method} {c : Code} {g : GG} {xs : Nat → Int32} {L kb sb : Nat} {v0 : Nat} {v1 : Nat} {v2 : Nat} {v3 : Nat} {Q : Int32 → AH → Prop} {k : Int32 → AH → Prop} (C : CXT p l s m args meth c RL cL_law_ 7 g) (hr : meth.sig.returnType = (some .boolean)) (hS : SX g v0 L xs s) (hkb : kb + 33 ≤ 400000) (hsb : sb + 2669 ≤ 5000000) (hk : ∀ (y4 : Int32) (h : AH), k y4 h → V p l e s m args below meth c g 1050 400000 5000000 7 (kb + 33) (sb + 2669) (MQ below (QCx g (QI Q)) args s 400000 5000000 (gA g)) 23 [(0, .ref v0), (1, .ref v1), (2, .ref v2), (3, .ref v3), (4, .int y4)] [] h) : ∀ (v4 : Int32) (h : AH), w_L_law__1281 xs L k v0 v1 v2 v3 v4 h Q → V p l e s m args below meth c g 1050 400000 5000000 7 (kb + 0) (sb + 0) (MQ below (QCx g (QI Q)) args s 400000 5000000 (gA g)) 1281 [(0, .ref v0), (1, .ref v1), (2, .ref v2), (3, .ref v3), (4, .int v4)] [] h := by
  intro v4 h hw
  refine v_aload_n C dL_law__1281 1 rfl rfl ?_
  refine v_aload_n C dL_law__1282 0 rfl rfl ?_
  refine v_iload C dL_law__1283 4 rfl ?_
  refine v_iconst (v := 1) C dL_law__1285 (by decide) ?_
  refine v_iadd C dL_law__1286 ?_
  refine w_sld C hS dL_law__1287 hw (fun x1 hw => ?_)
  refine v_aload_n C dL_law__1288 3 rfl rfl ?_
  refine v_callHS (st := []) C (tb5 (List.mem_of_getElem? (i := 193) rfl)) (tb5 (List.mem_of_getElem? (i := 195) rfl)) rfl (tb1 (List.mem_of_getElem? (i := 0) rfl)) ⟨by decide, by decide⟩ (n := 3) (by decide +kernel) (tb5 (List.mem_of_getElem? (i := 194) rfl)) (s_L_walk hw) rfl dL_law__1289 rfl (by first | decide | omega) (by first | decide | omega) (by first | decide | omega) (by first | decide | omega) (by first | decide | omega) (fun x2 h hw => ?_)
  refine v_istore (ls' := [(5, .int x2), (0, .ref v0), (1, .ref v1), (2, .ref v2), (3, .ref v3), (4, .int v4)]) C dL_law__1292 (by decide) rfl ?_
  refine v_aload_n C dL_law__1294 3 rfl rfl ?_
  refine v_aload_n C dL_law__1295 1 rfl rfl ?_
  refine v_iload C dL_law__1296 5 rfl ?_
  refine v_iconst (v := 1) C dL_law__1298 (by decide) ?_
  refine v_iadd C dL_law__1299 ?_
  refine w_sld C hS dL_law__1300 hw (fun x3 hw => ?_)
  refine w_callVi (st := []) C cl_L_205 im_X12_walk se_X12_walk rfl hw.1 (s_X12_walk hw.2) rfl dL_law__1301 rfl (by first | decide | omega) (by omega) (by first | decide | omega) (by first | decide | omega) (by first | decide | omega) (fun x4 h hw => ?_)
  refine v_istore (ls' := [(6, .int x4), (5, .int x2), (0, .ref v0), (1, .ref v1), (2, .ref v2), (3, .ref v3), (4, .int v4)]) C dL_law__1304 (by decide) rfl ?_
  refine v_aload_n C dL_law__1306 4 rfl rfl ?_
  refine w_callVi (st := []) C cl_L_146 im_X12_thrown se_X12_thrown rfl hw.1 (s_X12_thrown hw.2) rfl dL_law__1307 rfl (by first | decide | omega) (by omega) (by first | decide | omega) (by first | decide | omega) (by first | decide | omega) (fun x5 h hw => ?_)
  refine v_iload C dL_law__1310 1 rfl ?_
  refine v_icmp_eq (tgt := 1317) C dL_law__1312 (by decide) (fun c_1312 => ?_) (fun c_1312 => ?_)
  · have hw := hw.1 c_1312
    refine v_iload C dL_law__1317 1 rfl ?_
    refine v_if_ne (tgt := 1334) C dL_law__1319 (by decide) (fun c_1319 => ?_) (fun c_1319 => ?_)
    · have hw := hw.2 c_1319
      refine v_sub [2, 3, 4, 5, 6] rfl ?_
      exact s_L_law__1334 C hr hS hkb hsb hk _ _ hw
    · have hw := hw.1 c_1319
      refine v_aload_n C dL_law__1322 5 rfl rfl ?_
      refine v_iconst (v := 0) C dL_law__1323 (by decide) ?_
      refine w_laload C dL_law__1324 hw (fun j6 hw => ?_)
      refine v_iload C dL_law__1325 0 rfl ?_
      refine v_i2l C dL_law__1327 ?_
      refine v_lcmp C dL_law__1328 ?_
      refine v_if_eq (tgt := 1334) C dL_law__1329 (by decide) (fun c_1329 => ?_) (fun c_1329 => ?_)
      · have hw := hw.1 c_1329
        refine v_sub [2, 3, 4, 5, 6] rfl ?_
        exact s_L_law__1334 C hr hS hkb hsb hk _ _ hw
      · have hw := hw.2 c_1329
        refine v_iconst (v := 0) C dL_law__1332 (by decide) ?_
        exact (rt_MQ C _).2.1 _ _ _ _ _ _ _ hr rfl dL_law__1333 (by first | decide | omega) (by first | decide | omega) ⟨_, rfl, hw⟩
  · have hw := hw.2 c_1312
    refine v_iconst (v := 0) C dL_law__1315 (by decide) ?_
    exact (rt_MQ C _).2.1 _ _ _ _ _ _ _ hr rfl dL_law__1316 (by first | decide | omega) (by first | decide | omega) ⟨_, rfl, hw⟩
set_option maxRecDepth 100000 in
set_option maxHeartbeats 4000000 in
theorem s_L_law__1233 {p : Program} {l : Launch} {e : Env} {s : State} {m : MethodId} {args : Array Value} {below : List Frame} {meth : Method} {c : Code} {g : GG} {xs : Nat → Int32} {L kb sb : Nat} {v0 : Nat} {v1 : Nat} {v2 : Nat} {v3 : Nat} {Q : Int32 → AH → Prop} {k : Int32 → AH → Prop} (C : CXT p l s m args meth c RL cL_law_ 7 g) (hr : meth.sig.returnType = (some .boolean)) (hS : SX g v0 L xs s) (hkb : kb + 33 ≤ 400000) (hsb : sb + 2669 ≤ 5000000) (hk : ∀ (y4 : Int32) (h : AH), k y4 h → V p l e s m args below meth c g 1050 400000 5000000 7 (kb + 33) (sb + 2669) (MQ below (QCx g (QI Q)) args s 400000 5000000 (gA g)) 23 [(0, .ref v0), (1, .ref v1), (2, .ref v2), (3, .ref v3), (4, .int y4)] [] h) : ∀ (v4 : Int32) (h : AH), w_L_law__1233 xs L k v0 v1 v2 v3 v4 h Q → V p l e s m args below meth c g 1050 400000 5000000 7 (kb + 0) (sb + 0) (MQ below (QCx g (QI Q)) args s 400000 5000000 (gA g)) 1233 [(0, .ref v0), (1, .ref v1), (2, .ref v2), (3, .ref v3), (4, .int v4)] [] h := by
  intro v4 h hw
  refine v_aload_n C dL_law__1233 1 rfl rfl ?_
  refine v_aload_n C dL_law__1234 0 rfl rfl ?_
  refine v_iload C dL_law__1235 4 rfl ?_
  refine v_iconst (v := 1) C dL_law__1237 (by decide) ?_
  refine v_iadd C dL_law__1238 ?_
  refine w_sld C hS dL_law__1239 hw (fun x1 hw => ?_)
  refine v_aload_n C dL_law__1240 0 rfl rfl ?_
  refine v_iload C dL_law__1241 4 rfl ?_
  refine v_iconst (v := 2) C dL_law__1243 (by decide) ?_
  refine v_iadd C dL_law__1244 ?_
  refine w_sld C hS dL_law__1245 hw (fun x2 hw => ?_)
  refine v_callHS (st := []) C (tb5 (List.mem_of_getElem? (i := 186) rfl)) (tb5 (List.mem_of_getElem? (i := 188) rfl)) rfl (tb1 (List.mem_of_getElem? (i := 0) rfl)) ⟨by decide, by decide⟩ (n := 3) (by decide +kernel) (tb5 (List.mem_of_getElem? (i := 187) rfl)) (s_L_machine hw) rfl dL_law__1246 rfl (by first | decide | omega) (by first | decide | omega) (by first | decide | omega) (by first | decide | omega) (by first | decide | omega) (fun x3 h hw => ?_)
  refine v_istore (ls' := [(5, .int x3), (0, .ref v0), (1, .ref v1), (2, .ref v2), (3, .ref v3), (4, .int v4)]) C dL_law__1249 (by decide) rfl ?_
  refine v_aload_n C dL_law__1251 3 rfl rfl ?_
  refine v_aload_n C dL_law__1252 1 rfl rfl ?_
  refine v_iload C dL_law__1253 5 rfl ?_
  refine v_iconst (v := 1) C dL_law__1255 (by decide) ?_
  refine v_iadd C dL_law__1256 ?_
  refine w_sld C hS dL_law__1257 hw (fun x4 hw => ?_)
  refine v_aload_n C dL_law__1258 1 rfl rfl ?_
  refine v_iload C dL_law__1259 5 rfl ?_
  refine v_iconst (v := 2) C dL_law__1261 (by decide) ?_
  refine v_iadd C dL_law__1262 ?_
  refine w_sld C hS dL_law__1263 hw (fun x5 hw => ?_)
  refine w_callVv (st := []) C cl_L_202 im_X12_machine se_X12_machine rfl hw.1 (s_X12_machine hw.2) rfl dL_law__1264 rfl (by first | decide | omega) (by omega) (by first | decide | omega) (by first | decide | omega) (by first | decide | omega) (fun h hw => ?_)
  refine v_aload_n C dL_law__1267 3 rfl rfl ?_
  refine w_callVi (st := []) C cl_L_146 im_X12_thrown se_X12_thrown rfl hw.1 (s_X12_thrown hw.2) rfl dL_law__1268 rfl (by first | decide | omega) (by omega) (by first | decide | omega) (by first | decide | omega) (by first | decide | omega) (fun x6 h hw => ?_)
  refine v_iload C dL_law__1271 0 rfl ?_
  refine v_icmp_eq (tgt := 1278) C dL_law__1273 (by decide) (fun c_1273 => ?_) (fun c_1273 => ?_)
  · have hw := hw.1 c_1273
    refine v_goto (tgt := 2741) C dL_law__1278 (by decide) ?_
    refine v_cells (kc' := kb + 33) (ks' := sb + 2669) (by first | decide | omega) (by first | decide | omega) ?_
    refine v_sub [1, 2, 3, 4, 5] rfl ?_
    exact s_L_law__2741 C hr hS hkb hsb hk _ _ hw
  · have hw := hw.2 c_1273
    refine v_iconst (v := 0) C dL_law__1276 (by decide) ?_
    exact (rt_MQ C _).2.1 _ _ _ _ _ _ _ hr rfl dL_law__1277 (by first | decide | omega) (by first | decide | omega) ⟨_, rfl, hw⟩
set_option maxRecDepth 100000 in
set_option maxHeartbeats 4000000 in
theorem s_L_law__1173 {p : Program} {l : Launch} {e : Env} {s : State} {m : MethodId} {args : Array Value} {below : List Frame} {meth : Method} {c : Code} {g : GG} {xs : Nat → Int32} {L kb sb : Nat} {v0 : Nat} {v1 : Nat} {v2 : Nat} {v3 : Nat} {Q : Int32 → AH → Prop} {k : Int32 → AH → Prop} (C : CXT p l s m args meth c RL cL_law_ 7 g) (hr : meth.sig.returnType = (some .boolean)) (hS : SX g v0 L xs s) (hkb : kb + 33 ≤ 400000) (hsb : sb + 2669 ≤ 5000000) (hk : ∀ (y4 : Int32) (h : AH), k y4 h → V p l e s m args below meth c g 1050 400000 5000000 7 (kb + 33) (sb + 2669) (MQ below (QCx g (QI Q)) args s 400000 5000000 (gA g)) 23 [(0, .ref v0), (1, .ref v1), (2, .ref v2), (3, .ref v3), (4, .int y4)] [] h) : ∀ (v4 : Int32) (h : AH), w_L_law__1173 xs L k v0 v1 v2 v3 v4 h Q → V p l e s m args below meth c g 1050 400000 5000000 7 (kb + 0) (sb + 0) (MQ below (QCx g (QI Q)) args s 400000 5000000 (gA g)) 1173 [(0, .ref v0), (1, .ref v1), (2, .ref v2), (3, .ref v3), (4, .int v4)] [] h := by
  intro v4 h hw
  refine v_aload_n C dL_law__1173 1 rfl rfl ?_
  refine v_aload_n C dL_law__1174 0 rfl rfl ?_
  refine v_iload C dL_law__1175 4 rfl ?_
  refine v_iconst (v := 1) C dL_law__1177 (by decide) ?_
  refine v_iadd C dL_law__1178 ?_
  refine w_sld C hS dL_law__1179 hw (fun x1 hw => ?_)
  refine v_aload_n C dL_law__1180 0 rfl rfl ?_
  refine v_iload C dL_law__1181 4 rfl ?_
  refine v_iconst (v := 2) C dL_law__1183 (by decide) ?_
  refine v_iadd C dL_law__1184 ?_
  refine w_sld C hS dL_law__1185 hw (fun x2 hw => ?_)
  refine v_aload_n C dL_law__1186 0 rfl rfl ?_
  refine v_iload C dL_law__1187 4 rfl ?_
  refine v_iconst (v := 3) C dL_law__1189 (by decide) ?_
  refine v_iadd C dL_law__1190 ?_
  refine w_sld C hS dL_law__1191 hw (fun x3 hw => ?_)
  refine v_callHS (st := []) C (tb5 (List.mem_of_getElem? (i := 176) rfl)) (tb5 (List.mem_of_getElem? (i := 178) rfl)) rfl (tb1 (List.mem_of_getElem? (i := 0) rfl)) ⟨by decide, by decide⟩ (n := 4) (by decide +kernel) (tb5 (List.mem_of_getElem? (i := 177) rfl)) (s_L_when hw) rfl dL_law__1192 rfl (by first | decide | omega) (by first | decide | omega) (by first | decide | omega) (by first | decide | omega) (by first | decide | omega) (fun x4 h hw => ?_)
  refine v_istore (ls' := [(5, .int x4), (0, .ref v0), (1, .ref v1), (2, .ref v2), (3, .ref v3), (4, .int v4)]) C dL_law__1195 (by decide) rfl ?_
  refine v_aload_n C dL_law__1197 3 rfl rfl ?_
  refine v_aload_n C dL_law__1198 1 rfl rfl ?_
  refine v_iload C dL_law__1199 5 rfl ?_
  refine v_iconst (v := 1) C dL_law__1201 (by decide) ?_
  refine v_iadd C dL_law__1202 ?_
  refine w_sld C hS dL_law__1203 hw (fun x5 hw => ?_)
  refine v_aload_n C dL_law__1204 1 rfl rfl ?_
  refine v_iload C dL_law__1205 5 rfl ?_
  refine v_iconst (v := 2) C dL_law__1207 (by decide) ?_
  refine v_iadd C dL_law__1208 ?_
  refine w_sld C hS dL_law__1209 hw (fun x6 hw => ?_)
  refine v_aload_n C dL_law__1210 1 rfl rfl ?_
  refine v_iload C dL_law__1211 5 rfl ?_
  refine v_iconst (v := 3) C dL_law__1213 (by decide) ?_
  refine v_iadd C dL_law__1214 ?_
  refine w_sld C hS dL_law__1215 hw (fun x7 hw => ?_)
  refine w_callVv (st := []) C cl_L_198 im_X12_when se_X12_when rfl hw.1 (s_X12_when hw.2) rfl dL_law__1216 rfl (by first | decide | omega) (by omega) (by first | decide | omega) (by first | decide | omega) (by first | decide | omega) (fun h hw => ?_)
  refine v_aload_n C dL_law__1219 3 rfl rfl ?_
  refine w_callVi (st := []) C cl_L_146 im_X12_thrown se_X12_thrown rfl hw.1 (s_X12_thrown hw.2) rfl dL_law__1220 rfl (by first | decide | omega) (by omega) (by first | decide | omega) (by first | decide | omega) (by first | decide | omega) (fun x8 h hw => ?_)
  refine v_iload C dL_law__1223 0 rfl ?_
  refine v_icmp_eq (tgt := 1230) C dL_law__1225 (by decide) (fun c_1225 => ?_) (fun c_1225 => ?_)
  · have hw := hw.1 c_1225
    refine v_goto (tgt := 2741) C dL_law__1230 (by decide) ?_
    refine v_cells (kc' := kb + 33) (ks' := sb + 2669) (by first | decide | omega) (by first | decide | omega) ?_
    refine v_sub [1, 2, 3, 4, 5] rfl ?_
    exact s_L_law__2741 C hr hS hkb hsb hk _ _ hw
  · have hw := hw.2 c_1225
    refine v_iconst (v := 0) C dL_law__1228 (by decide) ?_
    exact (rt_MQ C _).2.1 _ _ _ _ _ _ _ hr rfl dL_law__1229 (by first | decide | omega) (by first | decide | omega) ⟨_, rfl, hw⟩
set_option maxRecDepth 100000 in
set_option maxHeartbeats 4000000 in
theorem s_L_law__1170 {p : Program} {l : Launch} {e : Env} {s : State} {m : MethodId} {args : Array Value} {below : List Frame} {meth : Method} {c : Code} {g : GG} {xs : Nat → Int32} {L kb sb : Nat} {v0 : Nat} {v1 : Nat} {v2 : Nat} {v3 : Nat} {Q : Int32 → AH → Prop} {k : Int32 → AH → Prop} (C : CXT p l s m args meth c RL cL_law_ 7 g) (hr : meth.sig.returnType = (some .boolean)) (hS : SX g v0 L xs s) (hkb : kb + 33 ≤ 400000) (hsb : sb + 2669 ≤ 5000000) (hk : ∀ (y4 : Int32) (h : AH), k y4 h → V p l e s m args below meth c g 1050 400000 5000000 7 (kb + 33) (sb + 2669) (MQ below (QCx g (QI Q)) args s 400000 5000000 (gA g)) 23 [(0, .ref v0), (1, .ref v1), (2, .ref v2), (3, .ref v3), (4, .int y4)] [] h) : ∀ (v4 : Int32) (h : AH), w_L_law__1170 xs L k v0 v1 v2 v3 v4 h Q → V p l e s m args below meth c g 1050 400000 5000000 7 (kb + 2) (sb + 12) (MQ below (QCx g (QI Q)) args s 400000 5000000 (gA g)) 1170 [(0, .ref v0), (1, .ref v1), (2, .ref v2), (3, .ref v3), (4, .int v4)] [] h := by
  intro v4 h hw
  refine v_goto (tgt := 2741) C dL_law__1170 (by decide) ?_
  refine v_cells (kc' := kb + 33) (ks' := sb + 2669) (by first | decide | omega) (by first | decide | omega) ?_
  exact s_L_law__2741 C hr hS hkb hsb hk _ _ hw
set_option maxRecDepth 100000 in
set_option maxHeartbeats 4000000 in
theorem s_L_law__1105 {p : Program} {l : Launch} {e : Env} {s : State} {m : MethodId} {args : Array Value} {below : List Frame} {meth : Method} {c : Code} {g : GG} {xs : Nat → Int32} {L kb sb : Nat} {v0 : Nat} {v1 : Nat} {v2 : Nat} {v3 : Nat} {Q : Int32 → AH → Prop} {k : Int32 → AH → Prop} (C : CXT p l s m args meth c RL cL_law_ 7 g) (hr : meth.sig.returnType = (some .boolean)) (hS : SX g v0 L xs s) (hkb : kb + 33 ≤ 400000) (hsb : sb + 2669 ≤ 5000000) (hk : ∀ (y4 : Int32) (h : AH), k y4 h → V p l e s m args below meth c g 1050 400000 5000000 7 (kb + 33) (sb + 2669) (MQ below (QCx g (QI Q)) args s 400000 5000000 (gA g)) 23 [(0, .ref v0), (1, .ref v1), (2, .ref v2), (3, .ref v3), (4, .int y4)] [] h) : ∀ (v4 : Int32) (h : AH), w_L_law__1105 xs L k v0 v1 v2 v3 v4 h Q → V p l e s m args below meth c g 1050 400000 5000000 7 (kb + 0) (sb + 0) (MQ below (QCx g (QI Q)) args s 400000 5000000 (gA g)) 1105 [(0, .ref v0), (1, .ref v1), (2, .ref v2), (3, .ref v3), (4, .int v4)] [] h := by
  intro v4 h hw
  refine v_aload_n C dL_law__1105 1 rfl rfl ?_
  refine v_aload_n C dL_law__1106 0 rfl rfl ?_
  refine v_iload C dL_law__1107 4 rfl ?_
  refine v_iconst (v := 1) C dL_law__1109 (by decide) ?_
  refine v_iadd C dL_law__1110 ?_
  refine w_sld C hS dL_law__1111 hw (fun x1 hw => ?_)
  refine v_aload_n C dL_law__1112 0 rfl rfl ?_
  refine v_iload C dL_law__1113 4 rfl ?_
  refine v_iconst (v := 2) C dL_law__1115 (by decide) ?_
  refine v_iadd C dL_law__1116 ?_
  refine w_sld C hS dL_law__1117 hw (fun x2 hw => ?_)
  refine v_aload_n C dL_law__1118 3 rfl rfl ?_
  refine v_callHS (st := []) C (tb5 (List.mem_of_getElem? (i := 158) rfl)) (tb5 (List.mem_of_getElem? (i := 160) rfl)) rfl (tb1 (List.mem_of_getElem? (i := 0) rfl)) ⟨by decide, by decide⟩ (n := 4) (by decide +kernel) (tb5 (List.mem_of_getElem? (i := 159) rfl)) (s_L_about hw) rfl dL_law__1119 rfl (by first | decide | omega) (by first | decide | omega) (by first | decide | omega) (by first | decide | omega) (by first | decide | omega) (fun x3 h hw => ?_)
  refine v_istore (ls' := [(5, .int x3), (0, .ref v0), (1, .ref v1), (2, .ref v2), (3, .ref v3), (4, .int v4)]) C dL_law__1122 (by decide) rfl ?_
  refine v_aload_n C dL_law__1124 3 rfl rfl ?_
  refine v_aload_n C dL_law__1125 1 rfl rfl ?_
  refine v_iload C dL_law__1126 5 rfl ?_
  refine v_iconst (v := 1) C dL_law__1128 (by decide) ?_
  refine v_iadd C dL_law__1129 ?_
  refine w_sld C hS dL_law__1130 hw (fun x4 hw => ?_)
  refine v_aload_n C dL_law__1131 1 rfl rfl ?_
  refine v_iload C dL_law__1132 5 rfl ?_
  refine v_iconst (v := 2) C dL_law__1134 (by decide) ?_
  refine v_iadd C dL_law__1135 ?_
  refine w_sld C hS dL_law__1136 hw (fun x5 hw => ?_)
  refine w_callVi (st := []) C cl_L_195 im_X12_about se_X12_about rfl hw.1 (s_X12_about hw.2) rfl dL_law__1137 rfl (by first | decide | omega) (by omega) (by first | decide | omega) (by first | decide | omega) (by first | decide | omega) (fun x6 h hw => ?_)
  refine v_istore (ls' := [(6, .int x6), (5, .int x3), (0, .ref v0), (1, .ref v1), (2, .ref v2), (3, .ref v3), (4, .int v4)]) C dL_law__1140 (by decide) rfl ?_
  refine v_aload_n C dL_law__1142 4 rfl rfl ?_
  refine w_callVi (st := []) C cl_L_146 im_X12_thrown se_X12_thrown rfl hw.1 (s_X12_thrown hw.2) rfl dL_law__1143 rfl (by first | decide | omega) (by omega) (by first | decide | omega) (by first | decide | omega) (by first | decide | omega) (fun x7 h hw => ?_)
  refine v_iload C dL_law__1146 1 rfl ?_
  refine v_icmp_eq (tgt := 1153) C dL_law__1148 (by decide) (fun c_1148 => ?_) (fun c_1148 => ?_)
  · have hw := hw.1 c_1148
    refine v_iload C dL_law__1153 1 rfl ?_
    refine v_if_ne (tgt := 1170) C dL_law__1155 (by decide) (fun c_1155 => ?_) (fun c_1155 => ?_)
    · have hw := hw.2 c_1155
      refine v_sub [2, 3, 4, 5, 6] rfl ?_
      exact s_L_law__1170 C hr hS hkb hsb hk _ _ hw
    · have hw := hw.1 c_1155
      refine v_aload_n C dL_law__1158 5 rfl rfl ?_
      refine v_iconst (v := 0) C dL_law__1159 (by decide) ?_
      refine w_laload C dL_law__1160 hw (fun j8 hw => ?_)
      refine v_iload C dL_law__1161 0 rfl ?_
      refine v_i2l C dL_law__1163 ?_
      refine v_lcmp C dL_law__1164 ?_
      refine v_if_eq (tgt := 1170) C dL_law__1165 (by decide) (fun c_1165 => ?_) (fun c_1165 => ?_)
      · have hw := hw.1 c_1165
        refine v_sub [2, 3, 4, 5, 6] rfl ?_
        exact s_L_law__1170 C hr hS hkb hsb hk _ _ hw
      · have hw := hw.2 c_1165
        refine v_iconst (v := 0) C dL_law__1168 (by decide) ?_
        exact (rt_MQ C _).2.1 _ _ _ _ _ _ _ hr rfl dL_law__1169 (by first | decide | omega) (by first | decide | omega) ⟨_, rfl, hw⟩
  · have hw := hw.2 c_1148
    refine v_iconst (v := 0) C dL_law__1151 (by decide) ?_
    exact (rt_MQ C _).2.1 _ _ _ _ _ _ _ hr rfl dL_law__1152 (by first | decide | omega) (by first | decide | omega) ⟨_, rfl, hw⟩
set_option maxRecDepth 100000 in
set_option maxHeartbeats 4000000 in
theorem s_L_law__1102 {p : Program} {l : Launch} {e : Env} {s : State} {m : MethodId} {args : Array Value} {below : List Frame} {meth : Method} {c : Code} {g : GG} {xs : Nat → Int32} {L kb sb : Nat} {v0 : Nat} {v1 : Nat} {v2 : Nat} {v3 : Nat} {Q : Int32 → AH → Prop} {k : Int32 → AH → Prop} (C : CXT p l s m args meth c RL cL_law_ 7 g) (hr : meth.sig.returnType = (some .boolean)) (hS : SX g v0 L xs s) (hkb : kb + 33 ≤ 400000) (hsb : sb + 2669 ≤ 5000000) (hk : ∀ (y4 : Int32) (h : AH), k y4 h → V p l e s m args below meth c g 1050 400000 5000000 7 (kb + 33) (sb + 2669) (MQ below (QCx g (QI Q)) args s 400000 5000000 (gA g)) 23 [(0, .ref v0), (1, .ref v1), (2, .ref v2), (3, .ref v3), (4, .int y4)] [] h) : ∀ (v4 : Int32) (h : AH), w_L_law__1102 xs L k v0 v1 v2 v3 v4 h Q → V p l e s m args below meth c g 1050 400000 5000000 7 (kb + 3) (sb + 18) (MQ below (QCx g (QI Q)) args s 400000 5000000 (gA g)) 1102 [(0, .ref v0), (1, .ref v1), (2, .ref v2), (3, .ref v3), (4, .int v4)] [] h := by
  intro v4 h hw
  refine v_goto (tgt := 2741) C dL_law__1102 (by decide) ?_
  refine v_cells (kc' := kb + 33) (ks' := sb + 2669) (by first | decide | omega) (by first | decide | omega) ?_
  exact s_L_law__2741 C hr hS hkb hsb hk _ _ hw
set_option maxRecDepth 100000 in
set_option maxHeartbeats 4000000 in
theorem s_L_law__1013 {p : Program} {l : Launch} {e : Env} {s : State} {m : MethodId} {args : Array Value} {below : List Frame} {meth : Method} {c : Code} {g : GG} {xs : Nat → Int32} {L kb sb : Nat} {v0 : Nat} {v1 : Nat} {v2 : Nat} {v3 : Nat} {Q : Int32 → AH → Prop} {k : Int32 → AH → Prop} (C : CXT p l s m args meth c RL cL_law_ 7 g) (hr : meth.sig.returnType = (some .boolean)) (hS : SX g v0 L xs s) (hkb : kb + 33 ≤ 400000) (hsb : sb + 2669 ≤ 5000000) (hk : ∀ (y4 : Int32) (h : AH), k y4 h → V p l e s m args below meth c g 1050 400000 5000000 7 (kb + 33) (sb + 2669) (MQ below (QCx g (QI Q)) args s 400000 5000000 (gA g)) 23 [(0, .ref v0), (1, .ref v1), (2, .ref v2), (3, .ref v3), (4, .int y4)] [] h) : ∀ (v4 : Int32) (h : AH), w_L_law__1013 xs L k v0 v1 v2 v3 v4 h Q → V p l e s m args below meth c g 1050 400000 5000000 7 (kb + 0) (sb + 0) (MQ below (QCx g (QI Q)) args s 400000 5000000 (gA g)) 1013 [(0, .ref v0), (1, .ref v1), (2, .ref v2), (3, .ref v3), (4, .int v4)] [] h := by
  intro v4 h hw
  refine v_aload_n C dL_law__1013 1 rfl rfl ?_
  refine v_aload_n C dL_law__1014 0 rfl rfl ?_
  refine v_iload C dL_law__1015 4 rfl ?_
  refine v_iconst (v := 1) C dL_law__1017 (by decide) ?_
  refine v_iadd C dL_law__1018 ?_
  refine w_sld C hS dL_law__1019 hw (fun x1 hw => ?_)
  refine v_aload_n C dL_law__1020 0 rfl rfl ?_
  refine v_iload C dL_law__1021 4 rfl ?_
  refine v_iconst (v := 2) C dL_law__1023 (by decide) ?_
  refine v_iadd C dL_law__1024 ?_
  refine w_sld C hS dL_law__1025 hw (fun x2 hw => ?_)
  refine v_aload_n C dL_law__1026 0 rfl rfl ?_
  refine v_iload C dL_law__1027 4 rfl ?_
  refine v_iconst (v := 3) C dL_law__1029 (by decide) ?_
  refine v_iadd C dL_law__1030 ?_
  refine w_sld C hS dL_law__1031 hw (fun x3 hw => ?_)
  refine v_aload_n C dL_law__1032 0 rfl rfl ?_
  refine v_iload C dL_law__1033 4 rfl ?_
  refine v_iconst (v := 4) C dL_law__1035 (by decide) ?_
  refine v_iadd C dL_law__1036 ?_
  refine w_sld C hS dL_law__1037 hw (fun x4 hw => ?_)
  refine v_aload_n C dL_law__1038 3 rfl rfl ?_
  refine v_callHS (st := []) C (tb5 (List.mem_of_getElem? (i := 148) rfl)) (tb5 (List.mem_of_getElem? (i := 150) rfl)) rfl (tb1 (List.mem_of_getElem? (i := 0) rfl)) ⟨by decide, by decide⟩ (n := 6) (by decide +kernel) (tb5 (List.mem_of_getElem? (i := 149) rfl)) (s_L_other hw) rfl dL_law__1039 rfl (by first | decide | omega) (by first | decide | omega) (by first | decide | omega) (by first | decide | omega) (by first | decide | omega) (fun x5 h hw => ?_)
  refine v_istore (ls' := [(5, .int x5), (0, .ref v0), (1, .ref v1), (2, .ref v2), (3, .ref v3), (4, .int v4)]) C dL_law__1042 (by decide) rfl ?_
  refine v_aload_n C dL_law__1044 3 rfl rfl ?_
  refine v_aload_n C dL_law__1045 1 rfl rfl ?_
  refine v_iload C dL_law__1046 5 rfl ?_
  refine v_iconst (v := 1) C dL_law__1048 (by decide) ?_
  refine v_iadd C dL_law__1049 ?_
  refine w_sld C hS dL_law__1050 hw (fun x6 hw => ?_)
  refine v_aload_n C dL_law__1051 1 rfl rfl ?_
  refine v_iload C dL_law__1052 5 rfl ?_
  refine v_iconst (v := 2) C dL_law__1054 (by decide) ?_
  refine v_iadd C dL_law__1055 ?_
  refine w_sld C hS dL_law__1056 hw (fun x7 hw => ?_)
  refine v_aload_n C dL_law__1057 1 rfl rfl ?_
  refine v_iload C dL_law__1058 5 rfl ?_
  refine v_iconst (v := 3) C dL_law__1060 (by decide) ?_
  refine v_iadd C dL_law__1061 ?_
  refine w_sld C hS dL_law__1062 hw (fun x8 hw => ?_)
  refine v_aload_n C dL_law__1063 1 rfl rfl ?_
  refine v_iload C dL_law__1064 5 rfl ?_
  refine v_iconst (v := 4) C dL_law__1066 (by decide) ?_
  refine v_iadd C dL_law__1067 ?_
  refine w_sld C hS dL_law__1068 hw (fun x9 hw => ?_)
  refine w_callVi (st := []) C cl_L_192 im_X12_other se_X12_other rfl hw.1 (s_X12_other hw.2) rfl dL_law__1069 rfl (by first | decide | omega) (by omega) (by first | decide | omega) (by first | decide | omega) (by first | decide | omega) (fun x10 h hw => ?_)
  refine v_istore (ls' := [(6, .int x10), (5, .int x5), (0, .ref v0), (1, .ref v1), (2, .ref v2), (3, .ref v3), (4, .int v4)]) C dL_law__1072 (by decide) rfl ?_
  refine v_aload_n C dL_law__1074 4 rfl rfl ?_
  refine w_callVi (st := []) C cl_L_146 im_X12_thrown se_X12_thrown rfl hw.1 (s_X12_thrown hw.2) rfl dL_law__1075 rfl (by first | decide | omega) (by omega) (by first | decide | omega) (by first | decide | omega) (by first | decide | omega) (fun x11 h hw => ?_)
  refine v_iload C dL_law__1078 1 rfl ?_
  refine v_icmp_eq (tgt := 1085) C dL_law__1080 (by decide) (fun c_1080 => ?_) (fun c_1080 => ?_)
  · have hw := hw.1 c_1080
    refine v_iload C dL_law__1085 1 rfl ?_
    refine v_if_ne (tgt := 1102) C dL_law__1087 (by decide) (fun c_1087 => ?_) (fun c_1087 => ?_)
    · have hw := hw.2 c_1087
      refine v_sub [2, 3, 4, 5, 6] rfl ?_
      exact s_L_law__1102 C hr hS hkb hsb hk _ _ hw
    · have hw := hw.1 c_1087
      refine v_aload_n C dL_law__1090 5 rfl rfl ?_
      refine v_iconst (v := 0) C dL_law__1091 (by decide) ?_
      refine w_laload C dL_law__1092 hw (fun j12 hw => ?_)
      refine v_iload C dL_law__1093 0 rfl ?_
      refine v_i2l C dL_law__1095 ?_
      refine v_lcmp C dL_law__1096 ?_
      refine v_if_eq (tgt := 1102) C dL_law__1097 (by decide) (fun c_1097 => ?_) (fun c_1097 => ?_)
      · have hw := hw.1 c_1097
        refine v_sub [2, 3, 4, 5, 6] rfl ?_
        exact s_L_law__1102 C hr hS hkb hsb hk _ _ hw
      · have hw := hw.2 c_1097
        refine v_iconst (v := 0) C dL_law__1100 (by decide) ?_
        exact (rt_MQ C _).2.1 _ _ _ _ _ _ _ hr rfl dL_law__1101 (by first | decide | omega) (by first | decide | omega) ⟨_, rfl, hw⟩
  · have hw := hw.2 c_1080
    refine v_iconst (v := 0) C dL_law__1083 (by decide) ?_
    exact (rt_MQ C _).2.1 _ _ _ _ _ _ _ hr rfl dL_law__1084 (by first | decide | omega) (by first | decide | omega) ⟨_, rfl, hw⟩
set_option maxRecDepth 100000 in
set_option maxHeartbeats 4000000 in
theorem s_L_law__1010 {p : Program} {l : Launch} {e : Env} {s : State} {m : MethodId} {args : Array Value} {below : List Frame} {meth : Method} {c : Code} {g : GG} {xs : Nat → Int32} {L kb sb : Nat} {v0 : Nat} {v1 : Nat} {v2 : Nat} {v3 : Nat} {Q : Int32 → AH → Prop} {k : Int32 → AH → Prop} (C : CXT p l s m args meth c RL cL_law_ 7 g) (hr : meth.sig.returnType = (some .boolean)) (hS : SX g v0 L xs s) (hkb : kb + 33 ≤ 400000) (hsb : sb + 2669 ≤ 5000000) (hk : ∀ (y4 : Int32) (h : AH), k y4 h → V p l e s m args below meth c g 1050 400000 5000000 7 (kb + 33) (sb + 2669) (MQ below (QCx g (QI Q)) args s 400000 5000000 (gA g)) 23 [(0, .ref v0), (1, .ref v1), (2, .ref v2), (3, .ref v3), (4, .int y4)] [] h) : ∀ (v4 : Int32) (h : AH), w_L_law__1010 xs L k v0 v1 v2 v3 v4 h Q → V p l e s m args below meth c g 1050 400000 5000000 7 (kb + 3) (sb + 18) (MQ below (QCx g (QI Q)) args s 400000 5000000 (gA g)) 1010 [(0, .ref v0), (1, .ref v1), (2, .ref v2), (3, .ref v3), (4, .int v4)] [] h := by
  intro v4 h hw
  refine v_goto (tgt := 2741) C dL_law__1010 (by decide) ?_
  refine v_cells (kc' := kb + 33) (ks' := sb + 2669) (by first | decide | omega) (by first | decide | omega) ?_
  exact s_L_law__2741 C hr hS hkb hsb hk _ _ hw
set_option maxRecDepth 100000 in
set_option maxHeartbeats 4000000 in
theorem s_L_law__933 {p : Program} {l : Launch} {e : Env} {s : State} {m : MethodId} {args : Array Value} {below : List Frame} {meth : Method} {c : Code} {g : GG} {xs : Nat → Int32} {L kb sb : Nat} {v0 : Nat} {v1 : Nat} {v2 : Nat} {v3 : Nat} {Q : Int32 → AH → Prop} {k : Int32 → AH → Prop} (C : CXT p l s m args meth c RL cL_law_ 7 g) (hr : meth.sig.returnType = (some .boolean)) (hS : SX g v0 L xs s) (hkb : kb + 33 ≤ 400000) (hsb : sb + 2669 ≤ 5000000) (hk : ∀ (y4 : Int32) (h : AH), k y4 h → V p l e s m args below meth c g 1050 400000 5000000 7 (kb + 33) (sb + 2669) (MQ below (QCx g (QI Q)) args s 400000 5000000 (gA g)) 23 [(0, .ref v0), (1, .ref v1), (2, .ref v2), (3, .ref v3), (4, .int y4)] [] h) : ∀ (v4 : Int32) (h : AH), w_L_law__933 xs L k v0 v1 v2 v3 v4 h Q → V p l e s m args below meth c g 1050 400000 5000000 7 (kb + 0) (sb + 0) (MQ below (QCx g (QI Q)) args s 400000 5000000 (gA g)) 933 [(0, .ref v0), (1, .ref v1), (2, .ref v2), (3, .ref v3), (4, .int v4)] [] h := by
  intro v4 h hw
  refine v_aload_n C dL_law__933 1 rfl rfl ?_
  refine v_aload_n C dL_law__934 0 rfl rfl ?_
  refine v_iload C dL_law__935 4 rfl ?_
  refine v_iconst (v := 1) C dL_law__937 (by decide) ?_
  refine v_iadd C dL_law__938 ?_
  refine w_sld C hS dL_law__939 hw (fun x1 hw => ?_)
  refine v_aload_n C dL_law__940 0 rfl rfl ?_
  refine v_iload C dL_law__941 4 rfl ?_
  refine v_iconst (v := 2) C dL_law__943 (by decide) ?_
  refine v_iadd C dL_law__944 ?_
  refine w_sld C hS dL_law__945 hw (fun x2 hw => ?_)
  refine v_aload_n C dL_law__946 0 rfl rfl ?_
  refine v_iload C dL_law__947 4 rfl ?_
  refine v_iconst (v := 3) C dL_law__949 (by decide) ?_
  refine v_iadd C dL_law__950 ?_
  refine w_sld C hS dL_law__951 hw (fun x3 hw => ?_)
  refine v_aload_n C dL_law__952 3 rfl rfl ?_
  refine v_callHS (st := []) C (tb5 (List.mem_of_getElem? (i := 139) rfl)) (tb5 (List.mem_of_getElem? (i := 141) rfl)) rfl (tb1 (List.mem_of_getElem? (i := 0) rfl)) ⟨by decide, by decide⟩ (n := 5) (by decide +kernel) (tb5 (List.mem_of_getElem? (i := 140) rfl)) (s_L_found hw) rfl dL_law__953 rfl (by first | decide | omega) (by first | decide | omega) (by first | decide | omega) (by first | decide | omega) (by first | decide | omega) (fun x4 h hw => ?_)
  refine v_istore (ls' := [(5, .int x4), (0, .ref v0), (1, .ref v1), (2, .ref v2), (3, .ref v3), (4, .int v4)]) C dL_law__956 (by decide) rfl ?_
  refine v_aload_n C dL_law__958 3 rfl rfl ?_
  refine v_aload_n C dL_law__959 1 rfl rfl ?_
  refine v_iload C dL_law__960 5 rfl ?_
  refine v_iconst (v := 1) C dL_law__962 (by decide) ?_
  refine v_iadd C dL_law__963 ?_
  refine w_sld C hS dL_law__964 hw (fun x5 hw => ?_)
  refine v_aload_n C dL_law__965 1 rfl rfl ?_
  refine v_iload C dL_law__966 5 rfl ?_
  refine v_iconst (v := 2) C dL_law__968 (by decide) ?_
  refine v_iadd C dL_law__969 ?_
  refine w_sld C hS dL_law__970 hw (fun x6 hw => ?_)
  refine v_aload_n C dL_law__971 1 rfl rfl ?_
  refine v_iload C dL_law__972 5 rfl ?_
  refine v_iconst (v := 3) C dL_law__974 (by decide) ?_
  refine v_iadd C dL_law__975 ?_
  refine w_sld C hS dL_law__976 hw (fun x7 hw => ?_)
  refine w_callVi (st := []) C cl_L_189 im_X12_found se_X12_found rfl hw.1 (s_X12_found hw.2) rfl dL_law__977 rfl (by first | decide | omega) (by omega) (by first | decide | omega) (by first | decide | omega) (by first | decide | omega) (fun x8 h hw => ?_)
  refine v_istore (ls' := [(6, .int x8), (5, .int x4), (0, .ref v0), (1, .ref v1), (2, .ref v2), (3, .ref v3), (4, .int v4)]) C dL_law__980 (by decide) rfl ?_
  refine v_aload_n C dL_law__982 4 rfl rfl ?_
  refine w_callVi (st := []) C cl_L_146 im_X12_thrown se_X12_thrown rfl hw.1 (s_X12_thrown hw.2) rfl dL_law__983 rfl (by first | decide | omega) (by omega) (by first | decide | omega) (by first | decide | omega) (by first | decide | omega) (fun x9 h hw => ?_)
  refine v_iload C dL_law__986 1 rfl ?_
  refine v_icmp_eq (tgt := 993) C dL_law__988 (by decide) (fun c_988 => ?_) (fun c_988 => ?_)
  · have hw := hw.1 c_988
    refine v_iload C dL_law__993 1 rfl ?_
    refine v_if_ne (tgt := 1010) C dL_law__995 (by decide) (fun c_995 => ?_) (fun c_995 => ?_)
    · have hw := hw.2 c_995
      refine v_sub [2, 3, 4, 5, 6] rfl ?_
      exact s_L_law__1010 C hr hS hkb hsb hk _ _ hw
    · have hw := hw.1 c_995
      refine v_aload_n C dL_law__998 5 rfl rfl ?_
      refine v_iconst (v := 0) C dL_law__999 (by decide) ?_
      refine w_laload C dL_law__1000 hw (fun j10 hw => ?_)
      refine v_iload C dL_law__1001 0 rfl ?_
      refine v_i2l C dL_law__1003 ?_
      refine v_lcmp C dL_law__1004 ?_
      refine v_if_eq (tgt := 1010) C dL_law__1005 (by decide) (fun c_1005 => ?_) (fun c_1005 => ?_)
      · have hw := hw.1 c_1005
        refine v_sub [2, 3, 4, 5, 6] rfl ?_
        exact s_L_law__1010 C hr hS hkb hsb hk _ _ hw
      · have hw := hw.2 c_1005
        refine v_iconst (v := 0) C dL_law__1008 (by decide) ?_
        exact (rt_MQ C _).2.1 _ _ _ _ _ _ _ hr rfl dL_law__1009 (by first | decide | omega) (by first | decide | omega) ⟨_, rfl, hw⟩
  · have hw := hw.2 c_988
    refine v_iconst (v := 0) C dL_law__991 (by decide) ?_
    exact (rt_MQ C _).2.1 _ _ _ _ _ _ _ hr rfl dL_law__992 (by first | decide | omega) (by first | decide | omega) ⟨_, rfl, hw⟩
set_option maxRecDepth 100000 in
set_option maxHeartbeats 4000000 in
theorem s_L_law__930 {p : Program} {l : Launch} {e : Env} {s : State} {m : MethodId} {args : Array Value} {below : List Frame} {meth : Method} {c : Code} {g : GG} {xs : Nat → Int32} {L kb sb : Nat} {v0 : Nat} {v1 : Nat} {v2 : Nat} {v3 : Nat} {Q : Int32 → AH → Prop} {k : Int32 → AH → Prop} (C : CXT p l s m args meth c RL cL_law_ 7 g) (hr : meth.sig.returnType = (some .boolean)) (hS : SX g v0 L xs s) (hkb : kb + 33 ≤ 400000) (hsb : sb + 2669 ≤ 5000000) (hk : ∀ (y4 : Int32) (h : AH), k y4 h → V p l e s m args below meth c g 1050 400000 5000000 7 (kb + 33) (sb + 2669) (MQ below (QCx g (QI Q)) args s 400000 5000000 (gA g)) 23 [(0, .ref v0), (1, .ref v1), (2, .ref v2), (3, .ref v3), (4, .int y4)] [] h) : ∀ (v4 : Int32) (h : AH), w_L_law__930 xs L k v0 v1 v2 v3 v4 h Q → V p l e s m args below meth c g 1050 400000 5000000 7 (kb + 1) (sb + 6) (MQ below (QCx g (QI Q)) args s 400000 5000000 (gA g)) 930 [(0, .ref v0), (1, .ref v1), (2, .ref v2), (3, .ref v3), (4, .int v4)] [] h := by
  intro v4 h hw
  refine v_goto (tgt := 2741) C dL_law__930 (by decide) ?_
  refine v_cells (kc' := kb + 33) (ks' := sb + 2669) (by first | decide | omega) (by first | decide | omega) ?_
  exact s_L_law__2741 C hr hS hkb hsb hk _ _ hw
set_option maxRecDepth 100000 in
set_option maxHeartbeats 4000000 in
theorem s_L_law__877 {p : Program} {l : Launch} {e : Env} {s : State} {m : MethodId} {args : Array Value} {below : List Frame} {meth : Method} {c : Code} {g : GG} {xs : Nat → Int32} {L kb sb : Nat} {v0 : Nat} {v1 : Nat} {v2 : Nat} {v3 : Nat} {Q : Int32 → AH → Prop} {k : Int32 → AH → Prop} (C : CXT p l s m args meth c RL cL_law_ 7 g) (hr : meth.sig.returnType = (some .boolean)) (hS : SX g v0 L xs s) (hkb : kb + 33 ≤ 400000) (hsb : sb + 2669 ≤ 5000000) (hk : ∀ (y4 : Int32) (h : AH), k y4 h → V p l e s m args below meth c g 1050 400000 5000000 7 (kb + 33) (sb + 2669) (MQ below (QCx g (QI Q)) args s 400000 5000000 (gA g)) 23 [(0, .ref v0), (1, .ref v1), (2, .ref v2), (3, .ref v3), (4, .int y4)] [] h) : ∀ (v4 : Int32) (h : AH), w_L_law__877 xs L k v0 v1 v2 v3 v4 h Q → V p l e s m args below meth c g 1050 400000 5000000 7 (kb + 0) (sb + 0) (MQ below (QCx g (QI Q)) args s 400000 5000000 (gA g)) 877 [(0, .ref v0), (1, .ref v1), (2, .ref v2), (3, .ref v3), (4, .int v4)] [] h := by
  intro v4 h hw
  refine v_aload_n C dL_law__877 1 rfl rfl ?_
  refine v_aload_n C dL_law__878 0 rfl rfl ?_
  refine v_iload C dL_law__879 4 rfl ?_
  refine v_iconst (v := 1) C dL_law__881 (by decide) ?_
  refine v_iadd C dL_law__882 ?_
  refine w_sld C hS dL_law__883 hw (fun x1 hw => ?_)
  refine v_aload_n C dL_law__884 3 rfl rfl ?_
  refine v_callHS (st := []) C (tb5 (List.mem_of_getElem? (i := 61) rfl)) (tb5 (List.mem_of_getElem? (i := 63) rfl)) rfl (tb1 (List.mem_of_getElem? (i := 0) rfl)) ⟨by decide, by decide⟩ (n := 3) (by decide +kernel) (tb5 (List.mem_of_getElem? (i := 62) rfl)) (s_L_run hw) rfl dL_law__885 rfl (by first | decide | omega) (by first | decide | omega) (by first | decide | omega) (by first | decide | omega) (by first | decide | omega) (fun x2 h hw => ?_)
  refine v_istore (ls' := [(5, .int x2), (0, .ref v0), (1, .ref v1), (2, .ref v2), (3, .ref v3), (4, .int v4)]) C dL_law__888 (by decide) rfl ?_
  refine v_aload_n C dL_law__890 3 rfl rfl ?_
  refine v_aload_n C dL_law__891 1 rfl rfl ?_
  refine v_iload C dL_law__892 5 rfl ?_
  refine v_iconst (v := 1) C dL_law__894 (by decide) ?_
  refine v_iadd C dL_law__895 ?_
  refine w_sld C hS dL_law__896 hw (fun x3 hw => ?_)
  refine w_callVi (st := []) C cl_L_185 im_X12_run se_X12_run rfl hw.1 (s_X12_run hw.2) rfl dL_law__897 rfl (by first | decide | omega) (by omega) (by first | decide | omega) (by first | decide | omega) (by first | decide | omega) (fun x4 h hw => ?_)
  refine v_istore (ls' := [(6, .int x4), (5, .int x2), (0, .ref v0), (1, .ref v1), (2, .ref v2), (3, .ref v3), (4, .int v4)]) C dL_law__900 (by decide) rfl ?_
  refine v_aload_n C dL_law__902 4 rfl rfl ?_
  refine w_callVi (st := []) C cl_L_146 im_X12_thrown se_X12_thrown rfl hw.1 (s_X12_thrown hw.2) rfl dL_law__903 rfl (by first | decide | omega) (by omega) (by first | decide | omega) (by first | decide | omega) (by first | decide | omega) (fun x5 h hw => ?_)
  refine v_iload C dL_law__906 1 rfl ?_
  refine v_icmp_eq (tgt := 913) C dL_law__908 (by decide) (fun c_908 => ?_) (fun c_908 => ?_)
  · have hw := hw.1 c_908
    refine v_iload C dL_law__913 1 rfl ?_
    refine v_if_ne (tgt := 930) C dL_law__915 (by decide) (fun c_915 => ?_) (fun c_915 => ?_)
    · have hw := hw.2 c_915
      refine v_sub [2, 3, 4, 5, 6] rfl ?_
      exact s_L_law__930 C hr hS hkb hsb hk _ _ hw
    · have hw := hw.1 c_915
      refine v_aload_n C dL_law__918 5 rfl rfl ?_
      refine v_iconst (v := 0) C dL_law__919 (by decide) ?_
      refine w_laload C dL_law__920 hw (fun j6 hw => ?_)
      refine v_iload C dL_law__921 0 rfl ?_
      refine v_i2l C dL_law__923 ?_
      refine v_lcmp C dL_law__924 ?_
      refine v_if_eq (tgt := 930) C dL_law__925 (by decide) (fun c_925 => ?_) (fun c_925 => ?_)
      · have hw := hw.1 c_925
        refine v_sub [2, 3, 4, 5, 6] rfl ?_
        exact s_L_law__930 C hr hS hkb hsb hk _ _ hw
      · have hw := hw.2 c_925
        refine v_iconst (v := 0) C dL_law__928 (by decide) ?_
        exact (rt_MQ C _).2.1 _ _ _ _ _ _ _ hr rfl dL_law__929 (by first | decide | omega) (by first | decide | omega) ⟨_, rfl, hw⟩
  · have hw := hw.2 c_908
    refine v_iconst (v := 0) C dL_law__911 (by decide) ?_
    exact (rt_MQ C _).2.1 _ _ _ _ _ _ _ hr rfl dL_law__912 (by first | decide | omega) (by first | decide | omega) ⟨_, rfl, hw⟩
set_option maxRecDepth 100000 in
set_option maxHeartbeats 4000000 in
theorem s_L_law__854 {p : Program} {l : Launch} {e : Env} {s : State} {m : MethodId} {args : Array Value} {below : List Frame} {meth : Method} {c : Code} {g : GG} {xs : Nat → Int32} {L kb sb : Nat} {v0 : Nat} {v1 : Nat} {v2 : Nat} {v3 : Nat} {Q : Int32 → AH → Prop} {k : Int32 → AH → Prop} (C : CXT p l s m args meth c RL cL_law_ 7 g) (hr : meth.sig.returnType = (some .boolean)) (hS : SX g v0 L xs s) (hkb : kb + 33 ≤ 400000) (hsb : sb + 2669 ≤ 5000000) (hk : ∀ (y4 : Int32) (h : AH), k y4 h → V p l e s m args below meth c g 1050 400000 5000000 7 (kb + 33) (sb + 2669) (MQ below (QCx g (QI Q)) args s 400000 5000000 (gA g)) 23 [(0, .ref v0), (1, .ref v1), (2, .ref v2), (3, .ref v3), (4, .int y4)] [] h) : ∀ (v4 : Int32) (h : AH), w_L_law__854 xs L k v0 v1 v2 v3 v4 h Q → V p l e s m args below meth c g 1050 400000 5000000 7 (kb + 0) (sb + 0) (MQ below (QCx g (QI Q)) args s 400000 5000000 (gA g)) 854 [(0, .ref v0), (1, .ref v1), (2, .ref v2), (3, .ref v3), (4, .int v4)] [] h := by
  intro v4 h hw
  refine v_aload_n C dL_law__854 1 rfl rfl ?_
  refine v_aload_n C dL_law__855 0 rfl rfl ?_
  refine v_iload C dL_law__856 4 rfl ?_
  refine v_iconst (v := 1) C dL_law__858 (by decide) ?_
  refine v_iadd C dL_law__859 ?_
  refine w_sld C hS dL_law__860 hw (fun x1 hw => ?_)
  refine w_callVv (st := []) C cl_L_179 im_X11_seed se_X11_seed rfl hw.1 (s_X11_seed hw.2) rfl dL_law__861 rfl (by first | decide | omega) (by omega) (by first | decide | omega) (by first | decide | omega) (by first | decide | omega) (fun h hw => ?_)
  refine v_aload_n C dL_law__864 2 rfl rfl ?_
  refine v_aload_n C dL_law__865 0 rfl rfl ?_
  refine v_iload C dL_law__866 4 rfl ?_
  refine v_iconst (v := 1) C dL_law__868 (by decide) ?_
  refine v_iadd C dL_law__869 ?_
  refine w_sld C hS dL_law__870 hw (fun x2 hw => ?_)
  refine w_callVv (st := []) C cl_L_182 im_X12_seed se_X12_seed rfl hw.1 (s_X12_seed hw.2) rfl dL_law__871 rfl (by first | decide | omega) (by omega) (by first | decide | omega) (by first | decide | omega) (by first | decide | omega) (fun h hw => ?_)
  refine v_goto (tgt := 2741) C dL_law__874 (by decide) ?_
  refine v_cells (kc' := kb + 33) (ks' := sb + 2669) (by first | decide | omega) (by first | decide | omega) ?_
  exact s_L_law__2741 C hr hS hkb hsb hk _ _ hw
set_option maxRecDepth 100000 in
set_option maxHeartbeats 4000000 in
theorem s_L_law__851 {p : Program} {l : Launch} {e : Env} {s : State} {m : MethodId} {args : Array Value} {below : List Frame} {meth : Method} {c : Code} {g : GG} {xs : Nat → Int32} {L kb sb : Nat} {v0 : Nat} {v1 : Nat} {v2 : Nat} {v3 : Nat} {Q : Int32 → AH → Prop} {k : Int32 → AH → Prop} (C : CXT p l s m args meth c RL cL_law_ 7 g) (hr : meth.sig.returnType = (some .boolean)) (hS : SX g v0 L xs s) (hkb : kb + 33 ≤ 400000) (hsb : sb + 2669 ≤ 5000000) (hk : ∀ (y4 : Int32) (h : AH), k y4 h → V p l e s m args below meth c g 1050 400000 5000000 7 (kb + 33) (sb + 2669) (MQ below (QCx g (QI Q)) args s 400000 5000000 (gA g)) 23 [(0, .ref v0), (1, .ref v1), (2, .ref v2), (3, .ref v3), (4, .int y4)] [] h) : ∀ (v4 : Int32) (h : AH), w_L_law__851 xs L k v0 v1 v2 v3 v4 h Q → V p l e s m args below meth c g 1050 400000 5000000 7 (kb + 2) (sb + 12) (MQ below (QCx g (QI Q)) args s 400000 5000000 (gA g)) 851 [(0, .ref v0), (1, .ref v1), (2, .ref v2), (3, .ref v3), (4, .int v4)] [] h := by
  intro v4 h hw
  refine v_goto (tgt := 2741) C dL_law__851 (by decide) ?_
  refine v_cells (kc' := kb + 33) (ks' := sb + 2669) (by first | decide | omega) (by first | decide | omega) ?_
  exact s_L_law__2741 C hr hS hkb hsb hk _ _ hw
set_option maxRecDepth 100000 in
set_option maxHeartbeats 4000000 in
theorem s_L_law__786 {p : Program} {l : Launch} {e : Env} {s : State} {m : MethodId} {args : Array Value} {below : List Frame} {meth : Method} {c : Code} {g : GG} {xs : Nat → Int32} {L kb sb : Nat} {v0 : Nat} {v1 : Nat} {v2 : Nat} {v3 : Nat} {Q : Int32 → AH → Prop} {k : Int32 → AH → Prop} (C : CXT p l s m args meth c RL cL_law_ 7 g) (hr : meth.sig.returnType = (some .boolean)) (hS : SX g v0 L xs s) (hkb : kb + 33 ≤ 400000) (hsb : sb + 2669 ≤ 5000000) (hk : ∀ (y4 : Int32) (h : AH), k y4 h → V p l e s m args below meth c g 1050 400000 5000000 7 (kb + 33) (sb + 2669) (MQ below (QCx g (QI Q)) args s 400000 5000000 (gA g)) 23 [(0, .ref v0), (1, .ref v1), (2, .ref v2), (3, .ref v3), (4, .int y4)] [] h) : ∀ (v4 : Int32) (h : AH), w_L_law__786 xs L k v0 v1 v2 v3 v4 h Q → V p l e s m args below meth c g 1050 400000 5000000 7 (kb + 0) (sb + 0) (MQ below (QCx g (QI Q)) args s 400000 5000000 (gA g)) 786 [(0, .ref v0), (1, .ref v1), (2, .ref v2), (3, .ref v3), (4, .int v4)] [] h := by
  intro v4 h hw
  refine v_aload_n C dL_law__786 1 rfl rfl ?_
  refine v_aload_n C dL_law__787 0 rfl rfl ?_
  refine v_iload C dL_law__788 4 rfl ?_
  refine v_iconst (v := 1) C dL_law__790 (by decide) ?_
  refine v_iadd C dL_law__791 ?_
  refine w_sld C hS dL_law__792 hw (fun x1 hw => ?_)
  refine v_aload_n C dL_law__793 0 rfl rfl ?_
  refine v_iload C dL_law__794 4 rfl ?_
  refine v_iconst (v := 2) C dL_law__796 (by decide) ?_
  refine v_iadd C dL_law__797 ?_
  refine w_sld C hS dL_law__798 hw (fun x2 hw => ?_)
  refine v_aload_n C dL_law__799 3 rfl rfl ?_
  refine v_callHS (st := []) C (tb5 (List.mem_of_getElem? (i := 20) rfl)) (tb5 (List.mem_of_getElem? (i := 22) rfl)) rfl (tb1 (List.mem_of_getElem? (i := 0) rfl)) ⟨by decide, by decide⟩ (n := 4) (by decide +kernel) (tb5 (List.mem_of_getElem? (i := 21) rfl)) (s_L_look hw) rfl dL_law__800 rfl (by first | decide | omega) (by first | decide | omega) (by first | decide | omega) (by first | decide | omega) (by first | decide | omega) (fun x3 h hw => ?_)
  refine v_istore (ls' := [(5, .int x3), (0, .ref v0), (1, .ref v1), (2, .ref v2), (3, .ref v3), (4, .int v4)]) C dL_law__803 (by decide) rfl ?_
  refine v_aload_n C dL_law__805 3 rfl rfl ?_
  refine v_aload_n C dL_law__806 1 rfl rfl ?_
  refine v_iload C dL_law__807 5 rfl ?_
  refine v_iconst (v := 1) C dL_law__809 (by decide) ?_
  refine v_iadd C dL_law__810 ?_
  refine w_sld C hS dL_law__811 hw (fun x4 hw => ?_)
  refine v_aload_n C dL_law__812 1 rfl rfl ?_
  refine v_iload C dL_law__813 5 rfl ?_
  refine v_iconst (v := 2) C dL_law__815 (by decide) ?_
  refine v_iadd C dL_law__816 ?_
  refine w_sld C hS dL_law__817 hw (fun x5 hw => ?_)
  refine w_callVi (st := []) C cl_L_178 im_X12_look se_X12_look rfl hw.1 (s_X12_look hw.2) rfl dL_law__818 rfl (by first | decide | omega) (by omega) (by first | decide | omega) (by first | decide | omega) (by first | decide | omega) (fun x6 h hw => ?_)
  refine v_istore (ls' := [(6, .int x6), (5, .int x3), (0, .ref v0), (1, .ref v1), (2, .ref v2), (3, .ref v3), (4, .int v4)]) C dL_law__821 (by decide) rfl ?_
  refine v_aload_n C dL_law__823 4 rfl rfl ?_
  refine w_callVi (st := []) C cl_L_146 im_X12_thrown se_X12_thrown rfl hw.1 (s_X12_thrown hw.2) rfl dL_law__824 rfl (by first | decide | omega) (by omega) (by first | decide | omega) (by first | decide | omega) (by first | decide | omega) (fun x7 h hw => ?_)
  refine v_iload C dL_law__827 1 rfl ?_
  refine v_icmp_eq (tgt := 834) C dL_law__829 (by decide) (fun c_829 => ?_) (fun c_829 => ?_)
  · have hw := hw.1 c_829
    refine v_iload C dL_law__834 1 rfl ?_
    refine v_if_ne (tgt := 851) C dL_law__836 (by decide) (fun c_836 => ?_) (fun c_836 => ?_)
    · have hw := hw.2 c_836
      refine v_sub [2, 3, 4, 5, 6] rfl ?_
      exact s_L_law__851 C hr hS hkb hsb hk _ _ hw
    · have hw := hw.1 c_836
      refine v_aload_n C dL_law__839 5 rfl rfl ?_
      refine v_iconst (v := 0) C dL_law__840 (by decide) ?_
      refine w_laload C dL_law__841 hw (fun j8 hw => ?_)
      refine v_iload C dL_law__842 0 rfl ?_
      refine v_i2l C dL_law__844 ?_
      refine v_lcmp C dL_law__845 ?_
      refine v_if_eq (tgt := 851) C dL_law__846 (by decide) (fun c_846 => ?_) (fun c_846 => ?_)
      · have hw := hw.1 c_846
        refine v_sub [2, 3, 4, 5, 6] rfl ?_
        exact s_L_law__851 C hr hS hkb hsb hk _ _ hw
      · have hw := hw.2 c_846
        refine v_iconst (v := 0) C dL_law__849 (by decide) ?_
        exact (rt_MQ C _).2.1 _ _ _ _ _ _ _ hr rfl dL_law__850 (by first | decide | omega) (by first | decide | omega) ⟨_, rfl, hw⟩
  · have hw := hw.2 c_829
    refine v_iconst (v := 0) C dL_law__832 (by decide) ?_
    exact (rt_MQ C _).2.1 _ _ _ _ _ _ _ hr rfl dL_law__833 (by first | decide | omega) (by first | decide | omega) ⟨_, rfl, hw⟩
set_option maxRecDepth 100000 in
set_option maxHeartbeats 4000000 in
theorem s_L_law__783 {p : Program} {l : Launch} {e : Env} {s : State} {m : MethodId} {args : Array Value} {below : List Frame} {meth : Method} {c : Code} {g : GG} {xs : Nat → Int32} {L kb sb : Nat} {v0 : Nat} {v1 : Nat} {v2 : Nat} {v3 : Nat} {Q : Int32 → AH → Prop} {k : Int32 → AH → Prop} (C : CXT p l s m args meth c RL cL_law_ 7 g) (hr : meth.sig.returnType = (some .boolean)) (hS : SX g v0 L xs s) (hkb : kb + 33 ≤ 400000) (hsb : sb + 2669 ≤ 5000000) (hk : ∀ (y4 : Int32) (h : AH), k y4 h → V p l e s m args below meth c g 1050 400000 5000000 7 (kb + 33) (sb + 2669) (MQ below (QCx g (QI Q)) args s 400000 5000000 (gA g)) 23 [(0, .ref v0), (1, .ref v1), (2, .ref v2), (3, .ref v3), (4, .int y4)] [] h) : ∀ (v4 : Int32) (h : AH), w_L_law__783 xs L k v0 v1 v2 v3 v4 h Q → V p l e s m args below meth c g 1050 400000 5000000 7 (kb + 5) (sb + 30) (MQ below (QCx g (QI Q)) args s 400000 5000000 (gA g)) 783 [(0, .ref v0), (1, .ref v1), (2, .ref v2), (3, .ref v3), (4, .int v4)] [] h := by
  intro v4 h hw
  refine v_goto (tgt := 2741) C dL_law__783 (by decide) ?_
  refine v_cells (kc' := kb + 33) (ks' := sb + 2669) (by first | decide | omega) (by first | decide | omega) ?_
  exact s_L_law__2741 C hr hS hkb hsb hk _ _ hw
set_option maxRecDepth 100000 in
set_option maxHeartbeats 4000000 in
theorem s_L_law__694 {p : Program} {l : Launch} {e : Env} {s : State} {m : MethodId} {args : Array Value} {below : List Frame} {meth : Method} {c : Code} {g : GG} {xs : Nat → Int32} {L kb sb : Nat} {v0 : Nat} {v1 : Nat} {v2 : Nat} {v3 : Nat} {Q : Int32 → AH → Prop} {k : Int32 → AH → Prop} (C : CXT p l s m args meth c RL cL_law_ 7 g) (hr : meth.sig.returnType = (some .boolean)) (hS : SX g v0 L xs s) (hkb : kb + 33 ≤ 400000) (hsb : sb + 2669 ≤ 5000000) (hk : ∀ (y4 : Int32) (h : AH), k y4 h → V p l e s m args below meth c g 1050 400000 5000000 7 (kb + 33) (sb + 2669) (MQ below (QCx g (QI Q)) args s 400000 5000000 (gA g)) 23 [(0, .ref v0), (1, .ref v1), (2, .ref v2), (3, .ref v3), (4, .int y4)] [] h) : ∀ (v4 : Int32) (h : AH), w_L_law__694 xs L k v0 v1 v2 v3 v4 h Q → V p l e s m args below meth c g 1050 400000 5000000 7 (kb + 0) (sb + 0) (MQ below (QCx g (QI Q)) args s 400000 5000000 (gA g)) 694 [(0, .ref v0), (1, .ref v1), (2, .ref v2), (3, .ref v3), (4, .int v4)] [] h := by
  intro v4 h hw
  refine v_aload_n C dL_law__694 1 rfl rfl ?_
  refine v_aload_n C dL_law__695 0 rfl rfl ?_
  refine v_iload C dL_law__696 4 rfl ?_
  refine v_iconst (v := 1) C dL_law__698 (by decide) ?_
  refine v_iadd C dL_law__699 ?_
  refine w_sld C hS dL_law__700 hw (fun x1 hw => ?_)
  refine v_aload_n C dL_law__701 0 rfl rfl ?_
  refine v_iload C dL_law__702 4 rfl ?_
  refine v_iconst (v := 2) C dL_law__704 (by decide) ?_
  refine v_iadd C dL_law__705 ?_
  refine w_sld C hS dL_law__706 hw (fun x2 hw => ?_)
  refine v_aload_n C dL_law__707 0 rfl rfl ?_
  refine v_iload C dL_law__708 4 rfl ?_
  refine v_iconst (v := 3) C dL_law__710 (by decide) ?_
  refine v_iadd C dL_law__711 ?_
  refine w_sld C hS dL_law__712 hw (fun x3 hw => ?_)
  refine v_aload_n C dL_law__713 0 rfl rfl ?_
  refine v_iload C dL_law__714 4 rfl ?_
  refine v_iconst (v := 4) C dL_law__716 (by decide) ?_
  refine v_iadd C dL_law__717 ?_
  refine w_sld C hS dL_law__718 hw (fun x4 hw => ?_)
  refine v_aload_n C dL_law__719 3 rfl rfl ?_
  refine v_callHS (st := []) C (tb5 (List.mem_of_getElem? (i := 5) rfl)) (tb5 (List.mem_of_getElem? (i := 7) rfl)) rfl (tb1 (List.mem_of_getElem? (i := 0) rfl)) ⟨by decide, by decide⟩ (n := 6) (by decide +kernel) (tb5 (List.mem_of_getElem? (i := 6) rfl)) (s_L_person hw) rfl dL_law__720 rfl (by first | decide | omega) (by first | decide | omega) (by first | decide | omega) (by first | decide | omega) (by first | decide | omega) (fun x5 h hw => ?_)
  refine v_istore (ls' := [(5, .int x5), (0, .ref v0), (1, .ref v1), (2, .ref v2), (3, .ref v3), (4, .int v4)]) C dL_law__723 (by decide) rfl ?_
  refine v_aload_n C dL_law__725 3 rfl rfl ?_
  refine v_aload_n C dL_law__726 1 rfl rfl ?_
  refine v_iload C dL_law__727 5 rfl ?_
  refine v_iconst (v := 1) C dL_law__729 (by decide) ?_
  refine v_iadd C dL_law__730 ?_
  refine w_sld C hS dL_law__731 hw (fun x6 hw => ?_)
  refine v_aload_n C dL_law__732 1 rfl rfl ?_
  refine v_iload C dL_law__733 5 rfl ?_
  refine v_iconst (v := 2) C dL_law__735 (by decide) ?_
  refine v_iadd C dL_law__736 ?_
  refine w_sld C hS dL_law__737 hw (fun x7 hw => ?_)
  refine v_aload_n C dL_law__738 1 rfl rfl ?_
  refine v_iload C dL_law__739 5 rfl ?_
  refine v_iconst (v := 3) C dL_law__741 (by decide) ?_
  refine v_iadd C dL_law__742 ?_
  refine w_sld C hS dL_law__743 hw (fun x8 hw => ?_)
  refine v_aload_n C dL_law__744 1 rfl rfl ?_
  refine v_iload C dL_law__745 5 rfl ?_
  refine v_iconst (v := 4) C dL_law__747 (by decide) ?_
  refine v_iadd C dL_law__748 ?_
  refine w_sld C hS dL_law__749 hw (fun x9 hw => ?_)
  refine w_callVi (st := []) C cl_L_175 im_X12_person se_X12_person rfl hw.1 (s_X12_person hw.2) rfl dL_law__750 rfl (by first | decide | omega) (by omega) (by first | decide | omega) (by first | decide | omega) (by first | decide | omega) (fun x10 h hw => ?_)
  refine v_istore (ls' := [(6, .int x10), (5, .int x5), (0, .ref v0), (1, .ref v1), (2, .ref v2), (3, .ref v3), (4, .int v4)]) C dL_law__753 (by decide) rfl ?_
  refine v_aload_n C dL_law__755 4 rfl rfl ?_
  refine w_callVi (st := []) C cl_L_146 im_X12_thrown se_X12_thrown rfl hw.1 (s_X12_thrown hw.2) rfl dL_law__756 rfl (by first | decide | omega) (by omega) (by first | decide | omega) (by first | decide | omega) (by first | decide | omega) (fun x11 h hw => ?_)
  refine v_iload C dL_law__759 1 rfl ?_
  refine v_icmp_eq (tgt := 766) C dL_law__761 (by decide) (fun c_761 => ?_) (fun c_761 => ?_)
  · have hw := hw.1 c_761
    refine v_iload C dL_law__766 1 rfl ?_
    refine v_if_ne (tgt := 783) C dL_law__768 (by decide) (fun c_768 => ?_) (fun c_768 => ?_)
    · have hw := hw.2 c_768
      refine v_sub [2, 3, 4, 5, 6] rfl ?_
      exact s_L_law__783 C hr hS hkb hsb hk _ _ hw
    · have hw := hw.1 c_768
      refine v_aload_n C dL_law__771 5 rfl rfl ?_
      refine v_iconst (v := 0) C dL_law__772 (by decide) ?_
      refine w_laload C dL_law__773 hw (fun j12 hw => ?_)
      refine v_iload C dL_law__774 0 rfl ?_
      refine v_i2l C dL_law__776 ?_
      refine v_lcmp C dL_law__777 ?_
      refine v_if_eq (tgt := 783) C dL_law__778 (by decide) (fun c_778 => ?_) (fun c_778 => ?_)
      · have hw := hw.1 c_778
        refine v_sub [2, 3, 4, 5, 6] rfl ?_
        exact s_L_law__783 C hr hS hkb hsb hk _ _ hw
      · have hw := hw.2 c_778
        refine v_iconst (v := 0) C dL_law__781 (by decide) ?_
        exact (rt_MQ C _).2.1 _ _ _ _ _ _ _ hr rfl dL_law__782 (by first | decide | omega) (by first | decide | omega) ⟨_, rfl, hw⟩
  · have hw := hw.2 c_761
    refine v_iconst (v := 0) C dL_law__764 (by decide) ?_
    exact (rt_MQ C _).2.1 _ _ _ _ _ _ _ hr rfl dL_law__765 (by first | decide | omega) (by first | decide | omega) ⟨_, rfl, hw⟩
set_option maxRecDepth 100000 in
set_option maxHeartbeats 4000000 in
theorem s_L_law__681 {p : Program} {l : Launch} {e : Env} {s : State} {m : MethodId} {args : Array Value} {below : List Frame} {meth : Method} {c : Code} {g : GG} {xs : Nat → Int32} {L kb sb : Nat} {v0 : Nat} {v1 : Nat} {v2 : Nat} {v3 : Nat} {Q : Int32 → AH → Prop} {k : Int32 → AH → Prop} (C : CXT p l s m args meth c RL cL_law_ 7 g) (hr : meth.sig.returnType = (some .boolean)) (hS : SX g v0 L xs s) (hkb : kb + 33 ≤ 400000) (hsb : sb + 2669 ≤ 5000000) (hk : ∀ (y4 : Int32) (h : AH), k y4 h → V p l e s m args below meth c g 1050 400000 5000000 7 (kb + 33) (sb + 2669) (MQ below (QCx g (QI Q)) args s 400000 5000000 (gA g)) 23 [(0, .ref v0), (1, .ref v1), (2, .ref v2), (3, .ref v3), (4, .int y4)] [] h) : ∀ (v4 : Int32) (h : AH), w_L_law__681 xs L k v0 v1 v2 v3 v4 h Q → V p l e s m args below meth c g 1050 400000 5000000 7 (kb + 0) (sb + 0) (MQ below (QCx g (QI Q)) args s 400000 5000000 (gA g)) 681 [(0, .ref v0), (1, .ref v1), (2, .ref v2), (3, .ref v3), (4, .int v4)] [] h := by
  intro v4 h hw
  refine v_aload_n C dL_law__681 1 rfl rfl ?_
  refine w_callVi (st := []) C cl_L_169 im_X11_fault se_X11_fault rfl hw.1 (s_X11_fault hw.2) rfl dL_law__682 rfl (by first | decide | omega) (by omega) (by first | decide | omega) (by first | decide | omega) (by first | decide | omega) (fun x1 h hw => ?_)
  refine v_aload_n C dL_law__685 2 rfl rfl ?_
  refine w_callVi (st := [.int x1]) C cl_L_172 im_X12_fault se_X12_fault rfl hw.1 (s_X12_fault hw.2) rfl dL_law__686 rfl (Nat.le_of_ble_eq_true rfl) (by omega) (by first | decide | omega) (by first | decide | omega) (by first | decide | omega) (fun x2 h hw => ?_)
  refine v_icmp_eq (tgt := 2741) C dL_law__689 (by decide) (fun c_689 => ?_) (fun c_689 => ?_)
  · have hw := hw.1 c_689
    refine v_cells (kc' := kb + 33) (ks' := sb + 2669) (by first | decide | omega) (by first | decide | omega) ?_
    exact s_L_law__2741 C hr hS hkb hsb hk _ _ hw
  · have hw := hw.2 c_689
    refine v_iconst (v := 0) C dL_law__692 (by decide) ?_
    exact (rt_MQ C _).2.1 _ _ _ _ _ _ _ hr rfl dL_law__693 (by first | decide | omega) (by first | decide | omega) ⟨_, rfl, hw⟩
set_option maxRecDepth 100000 in
set_option maxHeartbeats 4000000 in
theorem s_L_law__678 {p : Program} {l : Launch} {e : Env} {s : State} {m : MethodId} {args : Array Value} {below : List Frame} {meth : Method} {c : Code} {g : GG} {xs : Nat → Int32} {L kb sb : Nat} {v0 : Nat} {v1 : Nat} {v2 : Nat} {v3 : Nat} {Q : Int32 → AH → Prop} {k : Int32 → AH → Prop} (C : CXT p l s m args meth c RL cL_law_ 7 g) (hr : meth.sig.returnType = (some .boolean)) (hS : SX g v0 L xs s) (hkb : kb + 33 ≤ 400000) (hsb : sb + 2669 ≤ 5000000) (hk : ∀ (y4 : Int32) (h : AH), k y4 h → V p l e s m args below meth c g 1050 400000 5000000 7 (kb + 33) (sb + 2669) (MQ below (QCx g (QI Q)) args s 400000 5000000 (gA g)) 23 [(0, .ref v0), (1, .ref v1), (2, .ref v2), (3, .ref v3), (4, .int y4)] [] h) : ∀ (v4 : Int32) (h : AH), w_L_law__678 xs L k v0 v1 v2 v3 v4 h Q → V p l e s m args below meth c g 1050 400000 5000000 7 (kb + 5) (sb + 448) (MQ below (QCx g (QI Q)) args s 400000 5000000 (gA g)) 678 [(0, .ref v0), (1, .ref v1), (2, .ref v2), (3, .ref v3), (4, .int v4)] [] h := by
  intro v4 h hw
  refine v_goto (tgt := 2741) C dL_law__678 (by decide) ?_
  refine v_cells (kc' := kb + 33) (ks' := sb + 2669) (by first | decide | omega) (by first | decide | omega) ?_
  exact s_L_law__2741 C hr hS hkb hsb hk _ _ hw
set_option maxRecDepth 100000 in
set_option maxHeartbeats 4000000 in
theorem s_L_law__637 {p : Program} {l : Launch} {e : Env} {s : State} {m : MethodId} {args : Array Value} {below : List Frame} {meth : Method} {c : Code} {g : GG} {xs : Nat → Int32} {L kb sb : Nat} {v0 : Nat} {v1 : Nat} {v2 : Nat} {v3 : Nat} {Q : Int32 → AH → Prop} {k : Int32 → AH → Prop} (C : CXT p l s m args meth c RL cL_law_ 7 g) (hr : meth.sig.returnType = (some .boolean)) (hS : SX g v0 L xs s) (hkb : kb + 33 ≤ 400000) (hsb : sb + 2669 ≤ 5000000) (hk : ∀ (y4 : Int32) (h : AH), k y4 h → V p l e s m args below meth c g 1050 400000 5000000 7 (kb + 33) (sb + 2669) (MQ below (QCx g (QI Q)) args s 400000 5000000 (gA g)) 23 [(0, .ref v0), (1, .ref v1), (2, .ref v2), (3, .ref v3), (4, .int y4)] [] h) : ∀ (v4 : Int32) (h : AH), w_L_law__637 xs L k v0 v1 v2 v3 v4 h Q → V p l e s m args below meth c g 1050 400000 5000000 7 (kb + 0) (sb + 0) (MQ below (QCx g (QI Q)) args s 400000 5000000 (gA g)) 637 [(0, .ref v0), (1, .ref v1), (2, .ref v2), (3, .ref v3), (4, .int v4)] [] h := by
  intro v4 h hw
  refine v_aload_n C dL_law__637 1 rfl rfl ?_
  refine v_aload_n C dL_law__638 3 rfl rfl ?_
  refine v_callHS (st := []) C (tb4 (List.mem_of_getElem? (i := 21) rfl)) (tb4 (List.mem_of_getElem? (i := 23) rfl)) rfl (tb1 (List.mem_of_getElem? (i := 0) rfl)) ⟨by decide, by decide⟩ (n := 2) (by decide +kernel) (tb4 (List.mem_of_getElem? (i := 22) rfl)) (s_L_law hw) rfl dL_law__639 rfl (by first | decide | omega) (by first | decide | omega) (by first | decide | omega) (by first | decide | omega) (by first | decide | omega) (fun x1 h hw => ?_)
  refine v_istore (ls' := [(5, .int x1), (0, .ref v0), (1, .ref v1), (2, .ref v2), (3, .ref v3), (4, .int v4)]) C dL_law__642 (by decide) rfl ?_
  refine v_aload_n C dL_law__644 3 rfl rfl ?_
  refine w_callVi (st := []) C cl_L_168 im_X12_law se_X12_law rfl hw.1 (s_X12_law hw.2) rfl dL_law__645 rfl (by first | decide | omega) (by omega) (by first | decide | omega) (by first | decide | omega) (by first | decide | omega) (fun x2 h hw => ?_)
  refine v_istore (ls' := [(6, .int x2), (5, .int x1), (0, .ref v0), (1, .ref v1), (2, .ref v2), (3, .ref v3), (4, .int v4)]) C dL_law__648 (by decide) rfl ?_
  refine v_aload_n C dL_law__650 4 rfl rfl ?_
  refine w_callVi (st := []) C cl_L_146 im_X12_thrown se_X12_thrown rfl hw.1 (s_X12_thrown hw.2) rfl dL_law__651 rfl (by first | decide | omega) (by omega) (by first | decide | omega) (by first | decide | omega) (by first | decide | omega) (fun x3 h hw => ?_)
  refine v_iload C dL_law__654 1 rfl ?_
  refine v_icmp_eq (tgt := 661) C dL_law__656 (by decide) (fun c_656 => ?_) (fun c_656 => ?_)
  · have hw := hw.1 c_656
    refine v_iload C dL_law__661 1 rfl ?_
    refine v_if_ne (tgt := 678) C dL_law__663 (by decide) (fun c_663 => ?_) (fun c_663 => ?_)
    · have hw := hw.2 c_663
      refine v_sub [2, 3, 4, 5, 6] rfl ?_
      exact s_L_law__678 C hr hS hkb hsb hk _ _ hw
    · have hw := hw.1 c_663
      refine v_aload_n C dL_law__666 5 rfl rfl ?_
      refine v_iconst (v := 0) C dL_law__667 (by decide) ?_
      refine w_laload C dL_law__668 hw (fun j4 hw => ?_)
      refine v_iload C dL_law__669 0 rfl ?_
      refine v_i2l C dL_law__671 ?_
      refine v_lcmp C dL_law__672 ?_
      refine v_if_eq (tgt := 678) C dL_law__673 (by decide) (fun c_673 => ?_) (fun c_673 => ?_)
      · have hw := hw.1 c_673
        refine v_sub [2, 3, 4, 5, 6] rfl ?_
        exact s_L_law__678 C hr hS hkb hsb hk _ _ hw
      · have hw := hw.2 c_673
        refine v_iconst (v := 0) C dL_law__676 (by decide) ?_
        exact (rt_MQ C _).2.1 _ _ _ _ _ _ _ hr rfl dL_law__677 (by first | decide | omega) (by first | decide | omega) ⟨_, rfl, hw⟩
  · have hw := hw.2 c_656
    refine v_iconst (v := 0) C dL_law__659 (by decide) ?_
    exact (rt_MQ C _).2.1 _ _ _ _ _ _ _ hr rfl dL_law__660 (by first | decide | omega) (by first | decide | omega) ⟨_, rfl, hw⟩
set_option maxRecDepth 100000 in
set_option maxHeartbeats 4000000 in
theorem s_L_law__601 {p : Program} {l : Launch} {e : Env} {s : State} {m : MethodId} {args : Array Value} {below : List Frame} {meth : Method} {c : Code} {g : GG} {xs : Nat → Int32} {L kb sb : Nat} {v0 : Nat} {v1 : Nat} {v2 : Nat} {v3 : Nat} {Q : Int32 → AH → Prop} {k : Int32 → AH → Prop} (C : CXT p l s m args meth c RL cL_law_ 7 g) (hr : meth.sig.returnType = (some .boolean)) (hS : SX g v0 L xs s) (hkb : kb + 33 ≤ 400000) (hsb : sb + 2669 ≤ 5000000) (hk : ∀ (y4 : Int32) (h : AH), k y4 h → V p l e s m args below meth c g 1050 400000 5000000 7 (kb + 33) (sb + 2669) (MQ below (QCx g (QI Q)) args s 400000 5000000 (gA g)) 23 [(0, .ref v0), (1, .ref v1), (2, .ref v2), (3, .ref v3), (4, .int y4)] [] h) : ∀ (v4 : Int32) (h : AH), w_L_law__601 xs L k v0 v1 v2 v3 v4 h Q → V p l e s m args below meth c g 1050 400000 5000000 7 (kb + 0) (sb + 0) (MQ below (QCx g (QI Q)) args s 400000 5000000 (gA g)) 601 [(0, .ref v0), (1, .ref v1), (2, .ref v2), (3, .ref v3), (4, .int v4)] [] h := by
  intro v4 h hw
  refine v_aload_n C dL_law__601 1 rfl rfl ?_
  refine v_aload_n C dL_law__602 0 rfl rfl ?_
  refine v_iload C dL_law__603 4 rfl ?_
  refine v_iconst (v := 1) C dL_law__605 (by decide) ?_
  refine v_iadd C dL_law__606 ?_
  refine w_sld C hS dL_law__607 hw (fun x1 hw => ?_)
  refine v_callHS (st := []) C (tb4 (List.mem_of_getElem? (i := 14) rfl)) (tb4 (List.mem_of_getElem? (i := 16) rfl)) rfl (tb1 (List.mem_of_getElem? (i := 0) rfl)) ⟨by decide, by decide⟩ (n := 2) (by decide +kernel) (tb4 (List.mem_of_getElem? (i := 15) rfl)) (s_L_day hw) rfl dL_law__608 rfl (by first | decide | omega) (by first | decide | omega) (by first | decide | omega) (by first | decide | omega) (by first | decide | omega) (fun x2 h hw => ?_)
  refine v_istore (ls' := [(5, .int x2), (0, .ref v0), (1, .ref v1), (2, .ref v2), (3, .ref v3), (4, .int v4)]) C dL_law__611 (by decide) rfl ?_
  refine v_aload_n C dL_law__613 3 rfl rfl ?_
  refine v_aload_n C dL_law__614 1 rfl rfl ?_
  refine v_iload C dL_law__615 5 rfl ?_
  refine v_iconst (v := 1) C dL_law__617 (by decide) ?_
  refine v_iadd C dL_law__618 ?_
  refine w_sld C hS dL_law__619 hw (fun x3 hw => ?_)
  refine w_callVv (st := []) C cl_L_164 im_X12_day se_X12_day rfl hw.1 (s_X12_day hw.2) rfl dL_law__620 rfl (by first | decide | omega) (by omega) (by first | decide | omega) (by first | decide | omega) (by first | decide | omega) (fun h hw => ?_)
  refine v_aload_n C dL_law__623 3 rfl rfl ?_
  refine w_callVi (st := []) C cl_L_146 im_X12_thrown se_X12_thrown rfl hw.1 (s_X12_thrown hw.2) rfl dL_law__624 rfl (by first | decide | omega) (by omega) (by first | decide | omega) (by first | decide | omega) (by first | decide | omega) (fun x4 h hw => ?_)
  refine v_iload C dL_law__627 0 rfl ?_
  refine v_icmp_eq (tgt := 634) C dL_law__629 (by decide) (fun c_629 => ?_) (fun c_629 => ?_)
  · have hw := hw.1 c_629
    refine v_goto (tgt := 2741) C dL_law__634 (by decide) ?_
    refine v_cells (kc' := kb + 33) (ks' := sb + 2669) (by first | decide | omega) (by first | decide | omega) ?_
    refine v_sub [1, 2, 3, 4, 5] rfl ?_
    exact s_L_law__2741 C hr hS hkb hsb hk _ _ hw
  · have hw := hw.2 c_629
    refine v_iconst (v := 0) C dL_law__632 (by decide) ?_
    exact (rt_MQ C _).2.1 _ _ _ _ _ _ _ hr rfl dL_law__633 (by first | decide | omega) (by first | decide | omega) ⟨_, rfl, hw⟩
set_option maxRecDepth 100000 in
set_option maxHeartbeats 4000000 in
theorem s_L_law__598 {p : Program} {l : Launch} {e : Env} {s : State} {m : MethodId} {args : Array Value} {below : List Frame} {meth : Method} {c : Code} {g : GG} {xs : Nat → Int32} {L kb sb : Nat} {v0 : Nat} {v1 : Nat} {v2 : Nat} {v3 : Nat} {Q : Int32 → AH → Prop} {k : Int32 → AH → Prop} (C : CXT p l s m args meth c RL cL_law_ 7 g) (hr : meth.sig.returnType = (some .boolean)) (hS : SX g v0 L xs s) (hkb : kb + 33 ≤ 400000) (hsb : sb + 2669 ≤ 5000000) (hk : ∀ (y4 : Int32) (h : AH), k y4 h → V p l e s m args below meth c g 1050 400000 5000000 7 (kb + 33) (sb + 2669) (MQ below (QCx g (QI Q)) args s 400000 5000000 (gA g)) 23 [(0, .ref v0), (1, .ref v1), (2, .ref v2), (3, .ref v3), (4, .int y4)] [] h) : ∀ (v4 : Int32) (h : AH), w_L_law__598 xs L k v0 v1 v2 v3 v4 h Q → V p l e s m args below meth c g 1050 400000 5000000 7 (kb + 2) (sb + 12) (MQ below (QCx g (QI Q)) args s 400000 5000000 (gA g)) 598 [(0, .ref v0), (1, .ref v1), (2, .ref v2), (3, .ref v3), (4, .int v4)] [] h := by
  intro v4 h hw
  refine v_goto (tgt := 2741) C dL_law__598 (by decide) ?_
  refine v_cells (kc' := kb + 33) (ks' := sb + 2669) (by first | decide | omega) (by first | decide | omega) ?_
  exact s_L_law__2741 C hr hS hkb hsb hk _ _ hw
set_option maxRecDepth 100000 in
set_option maxHeartbeats 4000000 in
theorem s_L_law__509 {p : Program} {l : Launch} {e : Env} {s : State} {m : MethodId} {args : Array Value} {below : List Frame} {meth : Method} {c : Code} {g : GG} {xs : Nat → Int32} {L kb sb : Nat} {v0 : Nat} {v1 : Nat} {v2 : Nat} {v3 : Nat} {Q : Int32 → AH → Prop} {k : Int32 → AH → Prop} (C : CXT p l s m args meth c RL cL_law_ 7 g) (hr : meth.sig.returnType = (some .boolean)) (hS : SX g v0 L xs s) (hkb : kb + 33 ≤ 400000) (hsb : sb + 2669 ≤ 5000000) (hk : ∀ (y4 : Int32) (h : AH), k y4 h → V p l e s m args below meth c g 1050 400000 5000000 7 (kb + 33) (sb + 2669) (MQ below (QCx g (QI Q)) args s 400000 5000000 (gA g)) 23 [(0, .ref v0), (1, .ref v1), (2, .ref v2), (3, .ref v3), (4, .int y4)] [] h) : ∀ (v4 : Int32) (h : AH), w_L_law__509 xs L k v0 v1 v2 v3 v4 h Q → V p l e s m args below meth c g 1050 400000 5000000 7 (kb + 0) (sb + 0) (MQ below (QCx g (QI Q)) args s 400000 5000000 (gA g)) 509 [(0, .ref v0), (1, .ref v1), (2, .ref v2), (3, .ref v3), (4, .int v4)] [] h := by
  intro v4 h hw
  refine v_aload_n C dL_law__509 1 rfl rfl ?_
  refine v_aload_n C dL_law__510 0 rfl rfl ?_
  refine v_iload C dL_law__511 4 rfl ?_
  refine v_iconst (v := 1) C dL_law__513 (by decide) ?_
  refine v_iadd C dL_law__514 ?_
  refine w_sld C hS dL_law__515 hw (fun x1 hw => ?_)
  refine v_aload_n C dL_law__516 0 rfl rfl ?_
  refine v_iload C dL_law__517 4 rfl ?_
  refine v_iconst (v := 2) C dL_law__519 (by decide) ?_
  refine v_iadd C dL_law__520 ?_
  refine w_sld C hS dL_law__521 hw (fun x2 hw => ?_)
  refine v_aload_n C dL_law__522 0 rfl rfl ?_
  refine v_iload C dL_law__523 4 rfl ?_
  refine v_iconst (v := 3) C dL_law__525 (by decide) ?_
  refine v_iadd C dL_law__526 ?_
  refine w_sld C hS dL_law__527 hw (fun x3 hw => ?_)
  refine v_aload_n C dL_law__528 0 rfl rfl ?_
  refine v_iload C dL_law__529 4 rfl ?_
  refine v_iconst (v := 4) C dL_law__531 (by decide) ?_
  refine v_iadd C dL_law__532 ?_
  refine w_sld C hS dL_law__533 hw (fun x4 hw => ?_)
  refine v_aload_n C dL_law__534 3 rfl rfl ?_
  refine v_callHS (st := []) C (tb3 (List.mem_of_getElem? (i := 220) rfl)) (tb3 (List.mem_of_getElem? (i := 222) rfl)) rfl (tb1 (List.mem_of_getElem? (i := 0) rfl)) ⟨by decide, by decide⟩ (n := 6) (by decide +kernel) (tb3 (List.mem_of_getElem? (i := 221) rfl)) (s_L_gun hw) rfl dL_law__535 rfl (by first | decide | omega) (by first | decide | omega) (by first | decide | omega) (by first | decide | omega) (by first | decide | omega) (fun x5 h hw => ?_)
  refine v_istore (ls' := [(5, .int x5), (0, .ref v0), (1, .ref v1), (2, .ref v2), (3, .ref v3), (4, .int v4)]) C dL_law__538 (by decide) rfl ?_
  refine v_aload_n C dL_law__540 3 rfl rfl ?_
  refine v_aload_n C dL_law__541 1 rfl rfl ?_
  refine v_iload C dL_law__542 5 rfl ?_
  refine v_iconst (v := 1) C dL_law__544 (by decide) ?_
  refine v_iadd C dL_law__545 ?_
  refine w_sld C hS dL_law__546 hw (fun x6 hw => ?_)
  refine v_aload_n C dL_law__547 1 rfl rfl ?_
  refine v_iload C dL_law__548 5 rfl ?_
  refine v_iconst (v := 2) C dL_law__550 (by decide) ?_
  refine v_iadd C dL_law__551 ?_
  refine w_sld C hS dL_law__552 hw (fun x7 hw => ?_)
  refine v_aload_n C dL_law__553 1 rfl rfl ?_
  refine v_iload C dL_law__554 5 rfl ?_
  refine v_iconst (v := 3) C dL_law__556 (by decide) ?_
  refine v_iadd C dL_law__557 ?_
  refine w_sld C hS dL_law__558 hw (fun x8 hw => ?_)
  refine v_aload_n C dL_law__559 1 rfl rfl ?_
  refine v_iload C dL_law__560 5 rfl ?_
  refine v_iconst (v := 4) C dL_law__562 (by decide) ?_
  refine v_iadd C dL_law__563 ?_
  refine w_sld C hS dL_law__564 hw (fun x9 hw => ?_)
  refine w_callVi (st := []) C cl_L_160 im_X12_gun se_X12_gun rfl hw.1 (s_X12_gun hw.2) rfl dL_law__565 rfl (by first | decide | omega) (by omega) (by first | decide | omega) (by first | decide | omega) (by first | decide | omega) (fun x10 h hw => ?_)
  refine v_istore (ls' := [(6, .int x10), (5, .int x5), (0, .ref v0), (1, .ref v1), (2, .ref v2), (3, .ref v3), (4, .int v4)]) C dL_law__568 (by decide) rfl ?_
  refine v_aload_n C dL_law__570 4 rfl rfl ?_
  refine w_callVi (st := []) C cl_L_146 im_X12_thrown se_X12_thrown rfl hw.1 (s_X12_thrown hw.2) rfl dL_law__571 rfl (by first | decide | omega) (by omega) (by first | decide | omega) (by first | decide | omega) (by first | decide | omega) (fun x11 h hw => ?_)
  refine v_iload C dL_law__574 1 rfl ?_
  refine v_icmp_eq (tgt := 581) C dL_law__576 (by decide) (fun c_576 => ?_) (fun c_576 => ?_)
  · have hw := hw.1 c_576
    refine v_iload C dL_law__581 1 rfl ?_
    refine v_if_ne (tgt := 598) C dL_law__583 (by decide) (fun c_583 => ?_) (fun c_583 => ?_)
    · have hw := hw.2 c_583
      refine v_sub [2, 3, 4, 5, 6] rfl ?_
      exact s_L_law__598 C hr hS hkb hsb hk _ _ hw
    · have hw := hw.1 c_583
      refine v_aload_n C dL_law__586 5 rfl rfl ?_
      refine v_iconst (v := 0) C dL_law__587 (by decide) ?_
      refine w_laload C dL_law__588 hw (fun j12 hw => ?_)
      refine v_iload C dL_law__589 0 rfl ?_
      refine v_i2l C dL_law__591 ?_
      refine v_lcmp C dL_law__592 ?_
      refine v_if_eq (tgt := 598) C dL_law__593 (by decide) (fun c_593 => ?_) (fun c_593 => ?_)
      · have hw := hw.1 c_593
        refine v_sub [2, 3, 4, 5, 6] rfl ?_
        exact s_L_law__598 C hr hS hkb hsb hk _ _ hw
      · have hw := hw.2 c_593
        refine v_iconst (v := 0) C dL_law__596 (by decide) ?_
        exact (rt_MQ C _).2.1 _ _ _ _ _ _ _ hr rfl dL_law__597 (by first | decide | omega) (by first | decide | omega) ⟨_, rfl, hw⟩
  · have hw := hw.2 c_576
    refine v_iconst (v := 0) C dL_law__579 (by decide) ?_
    exact (rt_MQ C _).2.1 _ _ _ _ _ _ _ hr rfl dL_law__580 (by first | decide | omega) (by first | decide | omega) ⟨_, rfl, hw⟩
set_option maxRecDepth 100000 in
set_option maxHeartbeats 4000000 in
theorem s_L_law__506 {p : Program} {l : Launch} {e : Env} {s : State} {m : MethodId} {args : Array Value} {below : List Frame} {meth : Method} {c : Code} {g : GG} {xs : Nat → Int32} {L kb sb : Nat} {v0 : Nat} {v1 : Nat} {v2 : Nat} {v3 : Nat} {Q : Int32 → AH → Prop} {k : Int32 → AH → Prop} (C : CXT p l s m args meth c RL cL_law_ 7 g) (hr : meth.sig.returnType = (some .boolean)) (hS : SX g v0 L xs s) (hkb : kb + 33 ≤ 400000) (hsb : sb + 2669 ≤ 5000000) (hk : ∀ (y4 : Int32) (h : AH), k y4 h → V p l e s m args below meth c g 1050 400000 5000000 7 (kb + 33) (sb + 2669) (MQ below (QCx g (QI Q)) args s 400000 5000000 (gA g)) 23 [(0, .ref v0), (1, .ref v1), (2, .ref v2), (3, .ref v3), (4, .int y4)] [] h) : ∀ (v4 : Int32) (h : AH), w_L_law__506 xs L k v0 v1 v2 v3 v4 h Q → V p l e s m args below meth c g 1050 400000 5000000 7 (kb + 2) (sb + 12) (MQ below (QCx g (QI Q)) args s 400000 5000000 (gA g)) 506 [(0, .ref v0), (1, .ref v1), (2, .ref v2), (3, .ref v3), (4, .int v4)] [] h := by
  intro v4 h hw
  refine v_goto (tgt := 2741) C dL_law__506 (by decide) ?_
  refine v_cells (kc' := kb + 33) (ks' := sb + 2669) (by first | decide | omega) (by first | decide | omega) ?_
  exact s_L_law__2741 C hr hS hkb hsb hk _ _ hw
set_option maxRecDepth 100000 in
set_option maxHeartbeats 4000000 in
theorem s_L_law__500 {p : Program} {l : Launch} {e : Env} {s : State} {m : MethodId} {args : Array Value} {below : List Frame} {meth : Method} {c : Code} {g : GG} {xs : Nat → Int32} {L kb sb : Nat} {v0 : Nat} {v1 : Nat} {v2 : Nat} {v3 : Nat} {Q : Int32 → AH → Prop} {k : Int32 → AH → Prop} (C : CXT p l s m args meth c RL cL_law_ 7 g) (hr : meth.sig.returnType = (some .boolean)) (hS : SX g v0 L xs s) (hkb : kb + 33 ≤ 400000) (hsb : sb + 2669 ≤ 5000000) (hk : ∀ (y4 : Int32) (h : AH), k y4 h → V p l e s m args below meth c g 1050 400000 5000000 7 (kb + 33) (sb + 2669) (MQ below (QCx g (QI Q)) args s 400000 5000000 (gA g)) 23 [(0, .ref v0), (1, .ref v1), (2, .ref v2), (3, .ref v3), (4, .int y4)] [] h) : ∀ (v4 : Int32) (t0 : Int64) (t1 : Int64) (h : AH), w_L_law__500 xs L k v0 v1 v2 v3 v4 t0 t1 h Q → V p l e s m args below meth c g 1050 400000 5000000 7 (kb + 2) (sb + 12) (MQ below (QCx g (QI Q)) args s 400000 5000000 (gA g)) 500 [(0, .ref v0), (1, .ref v1), (2, .ref v2), (3, .ref v3), (4, .int v4)] [.long t1, .long t0] h := by
  intro v4 t0 t1 h hw
  refine v_lcmp C dL_law__500 ?_
  refine v_if_eq (tgt := 506) C dL_law__501 (by decide) (fun c_501 => ?_) (fun c_501 => ?_)
  · have hw := hw.1 c_501
    exact s_L_law__506 C hr hS hkb hsb hk _ _ hw
  · have hw := hw.2 c_501
    refine v_iconst (v := 0) C dL_law__504 (by decide) ?_
    exact (rt_MQ C _).2.1 _ _ _ _ _ _ _ hr rfl dL_law__505 (by first | decide | omega) (by first | decide | omega) ⟨_, rfl, hw⟩
set_option maxRecDepth 100000 in
set_option maxHeartbeats 4000000 in
theorem s_L_law__434 {p : Program} {l : Launch} {e : Env} {s : State} {m : MethodId} {args : Array Value} {below : List Frame} {meth : Method} {c : Code} {g : GG} {xs : Nat → Int32} {L kb sb : Nat} {v0 : Nat} {v1 : Nat} {v2 : Nat} {v3 : Nat} {Q : Int32 → AH → Prop} {k : Int32 → AH → Prop} (C : CXT p l s m args meth c RL cL_law_ 7 g) (hr : meth.sig.returnType = (some .boolean)) (hS : SX g v0 L xs s) (hkb : kb + 33 ≤ 400000) (hsb : sb + 2669 ≤ 5000000) (hk : ∀ (y4 : Int32) (h : AH), k y4 h → V p l e s m args below meth c g 1050 400000 5000000 7 (kb + 33) (sb + 2669) (MQ below (QCx g (QI Q)) args s 400000 5000000 (gA g)) 23 [(0, .ref v0), (1, .ref v1), (2, .ref v2), (3, .ref v3), (4, .int y4)] [] h) : ∀ (v4 : Int32) (h : AH), w_L_law__434 xs L k v0 v1 v2 v3 v4 h Q → V p l e s m args below meth c g 1050 400000 5000000 7 (kb + 0) (sb + 0) (MQ below (QCx g (QI Q)) args s 400000 5000000 (gA g)) 434 [(0, .ref v0), (1, .ref v1), (2, .ref v2), (3, .ref v3), (4, .int v4)] [] h := by
  intro v4 h hw
  refine v_aload_n C dL_law__434 1 rfl rfl ?_
  refine v_aload_n C dL_law__435 0 rfl rfl ?_
  refine v_iload C dL_law__436 4 rfl ?_
  refine v_iconst (v := 1) C dL_law__438 (by decide) ?_
  refine v_iadd C dL_law__439 ?_
  refine w_sld C hS dL_law__440 hw (fun x1 hw => ?_)
  refine v_aload_n C dL_law__441 0 rfl rfl ?_
  refine v_iload C dL_law__442 4 rfl ?_
  refine v_iconst (v := 2) C dL_law__444 (by decide) ?_
  refine v_iadd C dL_law__445 ?_
  refine w_sld C hS dL_law__446 hw (fun x2 hw => ?_)
  refine v_aload_n C dL_law__447 3 rfl rfl ?_
  refine v_callHS (st := []) C (tb3 (List.mem_of_getElem? (i := 212) rfl)) (tb3 (List.mem_of_getElem? (i := 214) rfl)) rfl (tb1 (List.mem_of_getElem? (i := 0) rfl)) ⟨by decide, by decide⟩ (n := 4) (by decide +kernel) (tb3 (List.mem_of_getElem? (i := 213) rfl)) (s_L_sees hw) rfl dL_law__448 rfl (by first | decide | omega) (by first | decide | omega) (by first | decide | omega) (by first | decide | omega) (by first | decide | omega) (fun x3 h hw => ?_)
  refine v_istore (ls' := [(5, .int x3), (0, .ref v0), (1, .ref v1), (2, .ref v2), (3, .ref v3), (4, .int v4)]) C dL_law__451 (by decide) rfl ?_
  refine v_aload_n C dL_law__453 3 rfl rfl ?_
  refine v_aload_n C dL_law__454 1 rfl rfl ?_
  refine v_iload C dL_law__455 5 rfl ?_
  refine v_iconst (v := 1) C dL_law__457 (by decide) ?_
  refine v_iadd C dL_law__458 ?_
  refine w_sld C hS dL_law__459 hw (fun x4 hw => ?_)
  refine v_aload_n C dL_law__460 1 rfl rfl ?_
  refine v_iload C dL_law__461 5 rfl ?_
  refine v_iconst (v := 2) C dL_law__463 (by decide) ?_
  refine v_iadd C dL_law__464 ?_
  refine w_sld C hS dL_law__465 hw (fun x5 hw => ?_)
  refine w_callVi (st := []) C cl_L_156 im_X12_sees se_X12_sees rfl hw.1 (s_X12_sees hw.2) rfl dL_law__466 rfl (by first | decide | omega) (by omega) (by first | decide | omega) (by first | decide | omega) (by first | decide | omega) (fun x6 h hw => ?_)
  refine v_istore (ls' := [(6, .int x6), (5, .int x3), (0, .ref v0), (1, .ref v1), (2, .ref v2), (3, .ref v3), (4, .int v4)]) C dL_law__469 (by decide) rfl ?_
  refine v_aload_n C dL_law__471 4 rfl rfl ?_
  refine w_callVi (st := []) C cl_L_146 im_X12_thrown se_X12_thrown rfl hw.1 (s_X12_thrown hw.2) rfl dL_law__472 rfl (by first | decide | omega) (by omega) (by first | decide | omega) (by first | decide | omega) (by first | decide | omega) (fun x7 h hw => ?_)
  refine v_iload C dL_law__475 1 rfl ?_
  refine v_icmp_eq (tgt := 482) C dL_law__477 (by decide) (fun c_477 => ?_) (fun c_477 => ?_)
  · have hw := hw.1 c_477
    refine v_iload C dL_law__482 1 rfl ?_
    refine v_if_ne (tgt := 506) C dL_law__484 (by decide) (fun c_484 => ?_) (fun c_484 => ?_)
    · have hw := hw.2 c_484
      refine v_sub [2, 3, 4, 5, 6] rfl ?_
      exact s_L_law__506 C hr hS hkb hsb hk _ _ hw
    · have hw := hw.1 c_484
      refine v_aload_n C dL_law__487 5 rfl rfl ?_
      refine v_iconst (v := 0) C dL_law__488 (by decide) ?_
      refine w_laload C dL_law__489 hw (fun j8 hw => ?_)
      refine v_iload C dL_law__490 0 rfl ?_
      refine v_if_eq (tgt := 499) C dL_law__492 (by decide) (fun c_492 => ?_) (fun c_492 => ?_)
      · have hw := hw.1 c_492
        refine v_lconst (v := 0) C dL_law__499 (by decide) ?_
        refine v_sub [2, 3, 4, 5, 6] rfl ?_
        exact s_L_law__500 C hr hS hkb hsb hk _ _ _ _ hw
      · have hw := hw.2 c_492
        refine v_lconst (v := 1) C dL_law__495 (by decide) ?_
        refine v_goto (tgt := 500) C dL_law__496 (by decide) ?_
        refine v_sub [2, 3, 4, 5, 6] rfl ?_
        exact s_L_law__500 C hr hS hkb hsb hk _ _ _ _ hw
  · have hw := hw.2 c_477
    refine v_iconst (v := 0) C dL_law__480 (by decide) ?_
    exact (rt_MQ C _).2.1 _ _ _ _ _ _ _ hr rfl dL_law__481 (by first | decide | omega) (by first | decide | omega) ⟨_, rfl, hw⟩
set_option maxRecDepth 100000 in
set_option maxHeartbeats 4000000 in
theorem s_L_law__431 {p : Program} {l : Launch} {e : Env} {s : State} {m : MethodId} {args : Array Value} {below : List Frame} {meth : Method} {c : Code} {g : GG} {xs : Nat → Int32} {L kb sb : Nat} {v0 : Nat} {v1 : Nat} {v2 : Nat} {v3 : Nat} {Q : Int32 → AH → Prop} {k : Int32 → AH → Prop} (C : CXT p l s m args meth c RL cL_law_ 7 g) (hr : meth.sig.returnType = (some .boolean)) (hS : SX g v0 L xs s) (hkb : kb + 33 ≤ 400000) (hsb : sb + 2669 ≤ 5000000) (hk : ∀ (y4 : Int32) (h : AH), k y4 h → V p l e s m args below meth c g 1050 400000 5000000 7 (kb + 33) (sb + 2669) (MQ below (QCx g (QI Q)) args s 400000 5000000 (gA g)) 23 [(0, .ref v0), (1, .ref v1), (2, .ref v2), (3, .ref v3), (4, .int y4)] [] h) : ∀ (v4 : Int32) (h : AH), w_L_law__431 xs L k v0 v1 v2 v3 v4 h Q → V p l e s m args below meth c g 1050 400000 5000000 7 (kb + 1) (sb + 6) (MQ below (QCx g (QI Q)) args s 400000 5000000 (gA g)) 431 [(0, .ref v0), (1, .ref v1), (2, .ref v2), (3, .ref v3), (4, .int v4)] [] h := by
  intro v4 h hw
  refine v_goto (tgt := 2741) C dL_law__431 (by decide) ?_
  refine v_cells (kc' := kb + 33) (ks' := sb + 2669) (by first | decide | omega) (by first | decide | omega) ?_
  exact s_L_law__2741 C hr hS hkb hsb hk _ _ hw
set_option maxRecDepth 100000 in
set_option maxHeartbeats 4000000 in
theorem s_L_law__378 {p : Program} {l : Launch} {e : Env} {s : State} {m : MethodId} {args : Array Value} {below : List Frame} {meth : Method} {c : Code} {g : GG} {xs : Nat → Int32} {L kb sb : Nat} {v0 : Nat} {v1 : Nat} {v2 : Nat} {v3 : Nat} {Q : Int32 → AH → Prop} {k : Int32 → AH → Prop} (C : CXT p l s m args meth c RL cL_law_ 7 g) (hr : meth.sig.returnType = (some .boolean)) (hS : SX g v0 L xs s) (hkb : kb + 33 ≤ 400000) (hsb : sb + 2669 ≤ 5000000) (hk : ∀ (y4 : Int32) (h : AH), k y4 h → V p l e s m args below meth c g 1050 400000 5000000 7 (kb + 33) (sb + 2669) (MQ below (QCx g (QI Q)) args s 400000 5000000 (gA g)) 23 [(0, .ref v0), (1, .ref v1), (2, .ref v2), (3, .ref v3), (4, .int y4)] [] h) : ∀ (v4 : Int32) (h : AH), w_L_law__378 xs L k v0 v1 v2 v3 v4 h Q → V p l e s m args below meth c g 1050 400000 5000000 7 (kb + 0) (sb + 0) (MQ below (QCx g (QI Q)) args s 400000 5000000 (gA g)) 378 [(0, .ref v0), (1, .ref v1), (2, .ref v2), (3, .ref v3), (4, .int v4)] [] h := by
  intro v4 h hw
  refine v_aload_n C dL_law__378 1 rfl rfl ?_
  refine v_aload_n C dL_law__379 0 rfl rfl ?_
  refine v_iload C dL_law__380 4 rfl ?_
  refine v_iconst (v := 1) C dL_law__382 (by decide) ?_
  refine v_iadd C dL_law__383 ?_
  refine w_sld C hS dL_law__384 hw (fun x1 hw => ?_)
  refine v_aload_n C dL_law__385 3 rfl rfl ?_
  refine v_callHS (st := []) C (tb3 (List.mem_of_getElem? (i := 205) rfl)) (tb3 (List.mem_of_getElem? (i := 207) rfl)) rfl (tb1 (List.mem_of_getElem? (i := 0) rfl)) ⟨by decide, by decide⟩ (n := 3) (by decide +kernel) (tb3 (List.mem_of_getElem? (i := 206) rfl)) (s_L_height hw) rfl dL_law__386 rfl (by first | decide | omega) (by first | decide | omega) (by first | decide | omega) (by first | decide | omega) (by first | decide | omega) (fun x2 h hw => ?_)
  refine v_istore (ls' := [(5, .int x2), (0, .ref v0), (1, .ref v1), (2, .ref v2), (3, .ref v3), (4, .int v4)]) C dL_law__389 (by decide) rfl ?_
  refine v_aload_n C dL_law__391 3 rfl rfl ?_
  refine v_aload_n C dL_law__392 1 rfl rfl ?_
  refine v_iload C dL_law__393 5 rfl ?_
  refine v_iconst (v := 1) C dL_law__395 (by decide) ?_
  refine v_iadd C dL_law__396 ?_
  refine w_sld C hS dL_law__397 hw (fun x3 hw => ?_)
  refine w_callVi (st := []) C cl_L_152 im_X12_height se_X12_height rfl hw.1 (s_X12_height hw.2) rfl dL_law__398 rfl (by first | decide | omega) (by omega) (by first | decide | omega) (by first | decide | omega) (by first | decide | omega) (fun x4 h hw => ?_)
  refine v_istore (ls' := [(6, .int x4), (5, .int x2), (0, .ref v0), (1, .ref v1), (2, .ref v2), (3, .ref v3), (4, .int v4)]) C dL_law__401 (by decide) rfl ?_
  refine v_aload_n C dL_law__403 4 rfl rfl ?_
  refine w_callVi (st := []) C cl_L_146 im_X12_thrown se_X12_thrown rfl hw.1 (s_X12_thrown hw.2) rfl dL_law__404 rfl (by first | decide | omega) (by omega) (by first | decide | omega) (by first | decide | omega) (by first | decide | omega) (fun x5 h hw => ?_)
  refine v_iload C dL_law__407 1 rfl ?_
  refine v_icmp_eq (tgt := 414) C dL_law__409 (by decide) (fun c_409 => ?_) (fun c_409 => ?_)
  · have hw := hw.1 c_409
    refine v_iload C dL_law__414 1 rfl ?_
    refine v_if_ne (tgt := 431) C dL_law__416 (by decide) (fun c_416 => ?_) (fun c_416 => ?_)
    · have hw := hw.2 c_416
      refine v_sub [2, 3, 4, 5, 6] rfl ?_
      exact s_L_law__431 C hr hS hkb hsb hk _ _ hw
    · have hw := hw.1 c_416
      refine v_aload_n C dL_law__419 5 rfl rfl ?_
      refine v_iconst (v := 0) C dL_law__420 (by decide) ?_
      refine w_laload C dL_law__421 hw (fun j6 hw => ?_)
      refine v_iload C dL_law__422 0 rfl ?_
      refine v_i2l C dL_law__424 ?_
      refine v_lcmp C dL_law__425 ?_
      refine v_if_eq (tgt := 431) C dL_law__426 (by decide) (fun c_426 => ?_) (fun c_426 => ?_)
      · have hw := hw.1 c_426
        refine v_sub [2, 3, 4, 5, 6] rfl ?_
        exact s_L_law__431 C hr hS hkb hsb hk _ _ hw
      · have hw := hw.2 c_426
        refine v_iconst (v := 0) C dL_law__429 (by decide) ?_
        exact (rt_MQ C _).2.1 _ _ _ _ _ _ _ hr rfl dL_law__430 (by first | decide | omega) (by first | decide | omega) ⟨_, rfl, hw⟩
  · have hw := hw.2 c_409
    refine v_iconst (v := 0) C dL_law__412 (by decide) ?_
    exact (rt_MQ C _).2.1 _ _ _ _ _ _ _ hr rfl dL_law__413 (by first | decide | omega) (by first | decide | omega) ⟨_, rfl, hw⟩
set_option maxRecDepth 100000 in
set_option maxHeartbeats 4000000 in
theorem s_L_law__318 {p : Program} {l : Launch} {e : Env} {s : State} {m : MethodId} {args : Array Value} {below : List Frame} {meth : Method} {c : Code} {g : GG} {xs : Nat → Int32} {L kb sb : Nat} {v0 : Nat} {v1 : Nat} {v2 : Nat} {v3 : Nat} {Q : Int32 → AH → Prop} {k : Int32 → AH → Prop} (C : CXT p l s m args meth c RL cL_law_ 7 g) (hr : meth.sig.returnType = (some .boolean)) (hS : SX g v0 L xs s) (hkb : kb + 33 ≤ 400000) (hsb : sb + 2669 ≤ 5000000) (hk : ∀ (y4 : Int32) (h : AH), k y4 h → V p l e s m args below meth c g 1050 400000 5000000 7 (kb + 33) (sb + 2669) (MQ below (QCx g (QI Q)) args s 400000 5000000 (gA g)) 23 [(0, .ref v0), (1, .ref v1), (2, .ref v2), (3, .ref v3), (4, .int y4)] [] h) : ∀ (v4 : Int32) (h : AH), w_L_law__318 xs L k v0 v1 v2 v3 v4 h Q → V p l e s m args below meth c g 1050 400000 5000000 7 (kb + 0) (sb + 0) (MQ below (QCx g (QI Q)) args s 400000 5000000 (gA g)) 318 [(0, .ref v0), (1, .ref v1), (2, .ref v2), (3, .ref v3), (4, .int v4)] [] h := by
  intro v4 h hw
  refine v_aload_n C dL_law__318 1 rfl rfl ?_
  refine v_aload_n C dL_law__319 0 rfl rfl ?_
  refine v_iload C dL_law__320 4 rfl ?_
  refine v_iconst (v := 1) C dL_law__322 (by decide) ?_
  refine v_iadd C dL_law__323 ?_
  refine w_sld C hS dL_law__324 hw (fun x1 hw => ?_)
  refine v_aload_n C dL_law__325 0 rfl rfl ?_
  refine v_iload C dL_law__326 4 rfl ?_
  refine v_iconst (v := 2) C dL_law__328 (by decide) ?_
  refine v_iadd C dL_law__329 ?_
  refine w_sld C hS dL_law__330 hw (fun x2 hw => ?_)
  refine v_aload_n C dL_law__331 0 rfl rfl ?_
  refine v_iload C dL_law__332 4 rfl ?_
  refine v_iconst (v := 3) C dL_law__334 (by decide) ?_
  refine v_iadd C dL_law__335 ?_
  refine w_sld C hS dL_law__336 hw (fun x3 hw => ?_)
  refine v_callHS (st := []) C (tb3 (List.mem_of_getElem? (i := 86) rfl)) (tb3 (List.mem_of_getElem? (i := 88) rfl)) rfl (tb1 (List.mem_of_getElem? (i := 0) rfl)) ⟨by decide, by decide⟩ (n := 4) (by decide +kernel) (tb3 (List.mem_of_getElem? (i := 87) rfl)) (s_L_ground hw) rfl dL_law__337 rfl (by first | decide | omega) (by first | decide | omega) (by first | decide | omega) (by first | decide | omega) (by first | decide | omega) (fun x4 h hw => ?_)
  refine v_istore (ls' := [(5, .int x4), (0, .ref v0), (1, .ref v1), (2, .ref v2), (3, .ref v3), (4, .int v4)]) C dL_law__340 (by decide) rfl ?_
  refine v_aload_n C dL_law__342 3 rfl rfl ?_
  refine v_aload_n C dL_law__343 1 rfl rfl ?_
  refine v_iload C dL_law__344 5 rfl ?_
  refine v_iconst (v := 1) C dL_law__346 (by decide) ?_
  refine v_iadd C dL_law__347 ?_
  refine w_sld C hS dL_law__348 hw (fun x5 hw => ?_)
  refine v_aload_n C dL_law__349 1 rfl rfl ?_
  refine v_iload C dL_law__350 5 rfl ?_
  refine v_iconst (v := 2) C dL_law__352 (by decide) ?_
  refine v_iadd C dL_law__353 ?_
  refine w_sld C hS dL_law__354 hw (fun x6 hw => ?_)
  refine v_aload_n C dL_law__355 1 rfl rfl ?_
  refine v_iload C dL_law__356 5 rfl ?_
  refine v_iconst (v := 3) C dL_law__358 (by decide) ?_
  refine v_iadd C dL_law__359 ?_
  refine w_sld C hS dL_law__360 hw (fun x7 hw => ?_)
  refine w_callVv (st := []) C cl_L_145 im_X12_ground se_X12_ground rfl hw.1 (s_X12_ground hw.2) rfl dL_law__361 rfl (by first | decide | omega) (by omega) (by first | decide | omega) (by first | decide | omega) (by first | decide | omega) (fun h hw => ?_)
  refine v_aload_n C dL_law__364 3 rfl rfl ?_
  refine w_callVi (st := []) C cl_L_146 im_X12_thrown se_X12_thrown rfl hw.1 (s_X12_thrown hw.2) rfl dL_law__365 rfl (by first | decide | omega) (by omega) (by first | decide | omega) (by first | decide | omega) (by first | decide | omega) (fun x8 h hw => ?_)
  refine v_iload C dL_law__368 0 rfl ?_
  refine v_icmp_eq (tgt := 375) C dL_law__370 (by decide) (fun c_370 => ?_) (fun c_370 => ?_)
  · have hw := hw.1 c_370
    refine v_goto (tgt := 2741) C dL_law__375 (by decide) ?_
    refine v_cells (kc' := kb + 33) (ks' := sb + 2669) (by first | decide | omega) (by first | decide | omega) ?_
    refine v_sub [1, 2, 3, 4, 5] rfl ?_
    exact s_L_law__2741 C hr hS hkb hsb hk _ _ hw
  · have hw := hw.2 c_370
    refine v_iconst (v := 0) C dL_law__373 (by decide) ?_
    exact (rt_MQ C _).2.1 _ _ _ _ _ _ _ hr rfl dL_law__374 (by first | decide | omega) (by first | decide | omega) ⟨_, rfl, hw⟩
set_option maxRecDepth 100000 in
set_option maxHeartbeats 4000000 in
theorem s_L_law__293 {p : Program} {l : Launch} {e : Env} {s : State} {m : MethodId} {args : Array Value} {below : List Frame} {meth : Method} {c : Code} {g : GG} {xs : Nat → Int32} {L kb sb : Nat} {v0 : Nat} {v1 : Nat} {v2 : Nat} {v3 : Nat} {Q : Int32 → AH → Prop} {k : Int32 → AH → Prop} (C : CXT p l s m args meth c RL cL_law_ 7 g) (hr : meth.sig.returnType = (some .boolean)) (hS : SX g v0 L xs s) (hkb : kb + 33 ≤ 400000) (hsb : sb + 2669 ≤ 5000000) (hk : ∀ (y4 : Int32) (h : AH), k y4 h → V p l e s m args below meth c g 1050 400000 5000000 7 (kb + 33) (sb + 2669) (MQ below (QCx g (QI Q)) args s 400000 5000000 (gA g)) 23 [(0, .ref v0), (1, .ref v1), (2, .ref v2), (3, .ref v3), (4, .int y4)] [] h) : ∀ (v4 : Int32) (h : AH), w_L_law__293 xs L k v0 v1 v2 v3 v4 h Q → V p l e s m args below meth c g 1050 400000 5000000 7 (kb + 0) (sb + 0) (MQ below (QCx g (QI Q)) args s 400000 5000000 (gA g)) 293 [(0, .ref v0), (1, .ref v1), (2, .ref v2), (3, .ref v3), (4, .int v4)] [] h := by
  intro v4 h hw
  refine v_aload_n C dL_law__293 1 rfl rfl ?_
  refine v_aload_n C dL_law__294 0 rfl rfl ?_
  refine v_iload C dL_law__295 4 rfl ?_
  refine v_iconst (v := 1) C dL_law__297 (by decide) ?_
  refine v_iadd C dL_law__298 ?_
  refine w_sld C hS dL_law__299 hw (fun x1 hw => ?_)
  refine w_callVi (st := []) C cl_L_136 im_X11_end se_X11_end rfl hw.1 (s_X11_end hw.2) rfl dL_law__300 rfl (by first | decide | omega) (by omega) (by first | decide | omega) (by first | decide | omega) (by first | decide | omega) (fun x2 h hw => ?_)
  refine v_aload_n C dL_law__303 2 rfl rfl ?_
  refine v_aload_n C dL_law__304 0 rfl rfl ?_
  refine v_iload C dL_law__305 4 rfl ?_
  refine v_iconst (v := 1) C dL_law__307 (by decide) ?_
  refine v_iadd C dL_law__308 ?_
  refine w_sld C hS dL_law__309 hw (fun x3 hw => ?_)
  refine w_callVi (st := [.int x2]) C cl_L_139 im_X12_end se_X12_end rfl hw.1 (s_X12_end hw.2) rfl dL_law__310 rfl (Nat.le_of_ble_eq_true rfl) (by omega) (by first | decide | omega) (by first | decide | omega) (by first | decide | omega) (fun x4 h hw => ?_)
  refine v_icmp_eq (tgt := 2741) C dL_law__313 (by decide) (fun c_313 => ?_) (fun c_313 => ?_)
  · have hw := hw.1 c_313
    refine v_cells (kc' := kb + 33) (ks' := sb + 2669) (by first | decide | omega) (by first | decide | omega) ?_
    exact s_L_law__2741 C hr hS hkb hsb hk _ _ hw
  · have hw := hw.2 c_313
    refine v_iconst (v := 0) C dL_law__316 (by decide) ?_
    exact (rt_MQ C _).2.1 _ _ _ _ _ _ _ hr rfl dL_law__317 (by first | decide | omega) (by first | decide | omega) ⟨_, rfl, hw⟩
set_option maxRecDepth 100000 in
set_option maxHeartbeats 4000000 in
theorem s_L_law__220 {p : Program} {l : Launch} {e : Env} {s : State} {m : MethodId} {args : Array Value} {below : List Frame} {meth : Method} {c : Code} {g : GG} {xs : Nat → Int32} {L kb sb : Nat} {v0 : Nat} {v1 : Nat} {v2 : Nat} {v3 : Nat} {Q : Int32 → AH → Prop} {k : Int32 → AH → Prop} (C : CXT p l s m args meth c RL cL_law_ 7 g) (hr : meth.sig.returnType = (some .boolean)) (hS : SX g v0 L xs s) (hkb : kb + 33 ≤ 400000) (hsb : sb + 2669 ≤ 5000000) (hk : ∀ (y4 : Int32) (h : AH), k y4 h → V p l e s m args below meth c g 1050 400000 5000000 7 (kb + 33) (sb + 2669) (MQ below (QCx g (QI Q)) args s 400000 5000000 (gA g)) 23 [(0, .ref v0), (1, .ref v1), (2, .ref v2), (3, .ref v3), (4, .int y4)] [] h) : ∀ (v4 : Int32) (h : AH), w_L_law__220 xs L k v0 v1 v2 v3 v4 h Q → V p l e s m args below meth c g 1050 400000 5000000 7 (kb + 0) (sb + 0) (MQ below (QCx g (QI Q)) args s 400000 5000000 (gA g)) 220 [(0, .ref v0), (1, .ref v1), (2, .ref v2), (3, .ref v3), (4, .int v4)] [] h := by
  intro v4 h hw
  refine v_aload_n C dL_law__220 1 rfl rfl ?_
  refine v_aload_n C dL_law__221 0 rfl rfl ?_
  refine v_iload C dL_law__222 4 rfl ?_
  refine v_iconst (v := 1) C dL_law__224 (by decide) ?_
  refine v_iadd C dL_law__225 ?_
  refine w_sld C hS dL_law__226 hw (fun x1 hw => ?_)
  refine v_aload_n C dL_law__227 0 rfl rfl ?_
  refine v_iload C dL_law__228 4 rfl ?_
  refine v_iconst (v := 2) C dL_law__230 (by decide) ?_
  refine v_iadd C dL_law__231 ?_
  refine w_sld C hS dL_law__232 hw (fun x2 hw => ?_)
  refine v_aload_n C dL_law__233 0 rfl rfl ?_
  refine v_iload C dL_law__234 4 rfl ?_
  refine v_iconst (v := 3) C dL_law__236 (by decide) ?_
  refine v_iadd C dL_law__237 ?_
  refine w_sld C hS dL_law__238 hw (fun x3 hw => ?_)
  refine v_aload_n C dL_law__239 0 rfl rfl ?_
  refine v_iload C dL_law__240 4 rfl ?_
  refine v_iconst (v := 4) C dL_law__242 (by decide) ?_
  refine v_iadd C dL_law__243 ?_
  refine w_sld C hS dL_law__244 hw (fun x4 hw => ?_)
  refine v_aload_n C dL_law__245 0 rfl rfl ?_
  refine v_iload C dL_law__246 4 rfl ?_
  refine v_iconst (v := 5) C dL_law__248 (by decide) ?_
  refine v_iadd C dL_law__249 ?_
  refine w_sld C hS dL_law__250 hw (fun x5 hw => ?_)
  refine w_callVi (st := []) C cl_L_131 im_X11_feed se_X11_feed rfl hw.1 (s_X11_feed hw.2) rfl dL_law__251 rfl (by first | decide | omega) (by omega) (by first | decide | omega) (by first | decide | omega) (by first | decide | omega) (fun x6 h hw => ?_)
  refine v_aload_n C dL_law__254 2 rfl rfl ?_
  refine v_aload_n C dL_law__255 0 rfl rfl ?_
  refine v_iload C dL_law__256 4 rfl ?_
  refine v_iconst (v := 1) C dL_law__258 (by decide) ?_
  refine v_iadd C dL_law__259 ?_
  refine w_sld C hS dL_law__260 hw (fun x7 hw => ?_)
  refine v_aload_n C dL_law__261 0 rfl rfl ?_
  refine v_iload C dL_law__262 4 rfl ?_
  refine v_iconst (v := 2) C dL_law__264 (by decide) ?_
  refine v_iadd C dL_law__265 ?_
  refine w_sld C hS dL_law__266 hw (fun x8 hw => ?_)
  refine v_aload_n C dL_law__267 0 rfl rfl ?_
  refine v_iload C dL_law__268 4 rfl ?_
  refine v_iconst (v := 3) C dL_law__270 (by decide) ?_
  refine v_iadd C dL_law__271 ?_
  refine w_sld C hS dL_law__272 hw (fun x9 hw => ?_)
  refine v_aload_n C dL_law__273 0 rfl rfl ?_
  refine v_iload C dL_law__274 4 rfl ?_
  refine v_iconst (v := 4) C dL_law__276 (by decide) ?_
  refine v_iadd C dL_law__277 ?_
  refine w_sld C hS dL_law__278 hw (fun x10 hw => ?_)
  refine v_aload_n C dL_law__279 0 rfl rfl ?_
  refine v_iload C dL_law__280 4 rfl ?_
  refine v_iconst (v := 5) C dL_law__282 (by decide) ?_
  refine v_iadd C dL_law__283 ?_
  refine w_sld C hS dL_law__284 hw (fun x11 hw => ?_)
  refine w_callVi (st := [.int x6]) C cl_L_135 im_X12_feed se_X12_feed rfl hw.1 (s_X12_feed hw.2) rfl dL_law__285 rfl (Nat.le_of_ble_eq_true rfl) (by omega) (by first | decide | omega) (by first | decide | omega) (by first | decide | omega) (fun x12 h hw => ?_)
  refine v_icmp_eq (tgt := 2741) C dL_law__288 (by decide) (fun c_288 => ?_) (fun c_288 => ?_)
  · have hw := hw.1 c_288
    refine v_cells (kc' := kb + 33) (ks' := sb + 2669) (by first | decide | omega) (by first | decide | omega) ?_
    exact s_L_law__2741 C hr hS hkb hsb hk _ _ hw
  · have hw := hw.2 c_288
    refine v_iconst (v := 0) C dL_law__291 (by decide) ?_
    exact (rt_MQ C _).2.1 _ _ _ _ _ _ _ hr rfl dL_law__292 (by first | decide | omega) (by first | decide | omega) ⟨_, rfl, hw⟩
set_option maxRecDepth 100000 in
set_option maxHeartbeats 4000000 in
theorem s_L_law__23 {p : Program} {l : Launch} {e : Env} {s : State} {m : MethodId} {args : Array Value} {below : List Frame} {meth : Method} {c : Code} {g : GG} {xs : Nat → Int32} {L kb sb : Nat} {v0 : Nat} {v1 : Nat} {v2 : Nat} {v3 : Nat} {Q : Int32 → AH → Prop} {k : Int32 → AH → Prop} (C : CXT p l s m args meth c RL cL_law_ 7 g) (hr : meth.sig.returnType = (some .boolean)) (hS : SX g v0 L xs s) (hkb : kb + 33 ≤ 400000) (hsb : sb + 2669 ≤ 5000000) (hk : ∀ (y4 : Int32) (h : AH), k y4 h → V p l e s m args below meth c g 1050 400000 5000000 7 (kb + 33) (sb + 2669) (MQ below (QCx g (QI Q)) args s 400000 5000000 (gA g)) 23 [(0, .ref v0), (1, .ref v1), (2, .ref v2), (3, .ref v3), (4, .int y4)] [] h) : ∀ (v4 : Int32) (h : AH), w_L_law__23 xs L k v0 v1 v2 v3 v4 h Q → V p l e s m args below meth c g 1050 400000 5000000 7 (kb + 0) (sb + 0) (MQ below (QCx g (QI Q)) args s 400000 5000000 (gA g)) 23 [(0, .ref v0), (1, .ref v1), (2, .ref v2), (3, .ref v3), (4, .int v4)] [] h := by
  intro v4 h hw
  refine v_iload C dL_law__23 4 rfl ?_
  refine v_aload_n C dL_law__25 0 rfl rfl ?_
  refine v_slen C hS dL_law__26 ?_
  refine v_bipush (v := 6) C dL_law__27 (by decide) ?_
  refine v_isub C dL_law__29 ?_
  refine v_icmp_gt (tgt := 2747) C dL_law__30 (by decide) (fun c_30 => ?_) (fun c_30 => ?_)
  · have hw := hw.1 c_30
    refine v_iconst (v := 1) C dL_law__2747 (by decide) ?_
    exact (rt_MQ C _).2.1 _ _ _ _ _ _ _ hr rfl dL_law__2748 (by first | decide | omega) (by first | decide | omega) ⟨_, rfl, hw⟩
  · have hw := hw.2 c_30
    refine v_aload_n C dL_law__33 0 rfl rfl ?_
    refine v_iload C dL_law__34 4 rfl ?_
    refine w_sld C hS dL_law__36 hw (fun x1 hw => ?_)
    refine v_bipush (v := 63) C dL_law__37 (by decide) ?_
    refine v_iand C dL_law__39 ?_
    refine v_tsw C (td := 2741) dL_law__40 (by decide) ?_ (fun c_40 => ?_)
    · intro i hi hx
      rcases (show i = 0 ∨ i = 1 ∨ i = 2 ∨ i = 3 ∨ i = 4 ∨ i = 5 ∨ i = 6 ∨ i = 7 ∨ i = 8 ∨ i = 9 ∨ i = 10 ∨ i = 11 ∨ i = 12 ∨ i = 13 ∨ i = 14 ∨ i = 15 ∨ i = 16 ∨ i = 17 ∨ i = 18 ∨ i = 19 ∨ i = 20 ∨ i = 21 ∨ i = 22 ∨ i = 23 ∨ i = 24 ∨ i = 25 ∨ i = 26 ∨ i = 27 ∨ i = 28 ∨ i = 29 ∨ i = 30 ∨ i = 31 ∨ i = 32 ∨ i = 33 ∨ i = 34 ∨ i = 35 ∨ i = 36 ∨ i = 37 ∨ i = 38 ∨ i = 39 ∨ i = 40 by omega) with rfl | rfl | rfl | rfl | rfl | rfl | rfl | rfl | rfl | rfl | rfl | rfl | rfl | rfl | rfl | rfl | rfl | rfl | rfl | rfl | rfl | rfl | rfl | rfl | rfl | rfl | rfl | rfl | rfl | rfl | rfl | rfl | rfl | rfl | rfl | rfl | rfl | rfl | rfl | rfl | rfl
      · refine ⟨_, 220, rfl, by decide, ?_⟩
        have hw := hw.1 (by rw [hx]; rfl)
        exact s_L_law__220 C hr hS hkb hsb hk _ _ hw
      · refine ⟨_, 293, rfl, by decide, ?_⟩
        have hw := hw.2 (by rw [hx]; decide)
        have hw := hw.1 (by rw [hx]; rfl)
        exact s_L_law__293 C hr hS hkb hsb hk _ _ hw
      · refine ⟨_, 318, rfl, by decide, ?_⟩
        have hw := hw.2 (by rw [hx]; decide)
        have hw := hw.2 (by rw [hx]; decide)
        have hw := hw.1 (by rw [hx]; rfl)
        exact s_L_law__318 C hr hS hkb hsb hk _ _ hw
      · refine ⟨_, 378, rfl, by decide, ?_⟩
        have hw := hw.2 (by rw [hx]; decide)
        have hw := hw.2 (by rw [hx]; decide)
        have hw := hw.2 (by rw [hx]; decide)
        have hw := hw.1 (by rw [hx]; rfl)
        exact s_L_law__378 C hr hS hkb hsb hk _ _ hw
      · refine ⟨_, 434, rfl, by decide, ?_⟩
        have hw := hw.2 (by rw [hx]; decide)
        have hw := hw.2 (by rw [hx]; decide)
        have hw := hw.2 (by rw [hx]; decide)
        have hw := hw.2 (by rw [hx]; decide)
        have hw := hw.1 (by rw [hx]; rfl)
        exact s_L_law__434 C hr hS hkb hsb hk _ _ hw
      · refine ⟨_, 509, rfl, by decide, ?_⟩
        have hw := hw.2 (by rw [hx]; decide)
        have hw := hw.2 (by rw [hx]; decide)
        have hw := hw.2 (by rw [hx]; decide)
        have hw := hw.2 (by rw [hx]; decide)
        have hw := hw.2 (by rw [hx]; decide)
        have hw := hw.1 (by rw [hx]; rfl)
        exact s_L_law__509 C hr hS hkb hsb hk _ _ hw
      · refine ⟨_, 601, rfl, by decide, ?_⟩
        have hw := hw.2 (by rw [hx]; decide)
        have hw := hw.2 (by rw [hx]; decide)
        have hw := hw.2 (by rw [hx]; decide)
        have hw := hw.2 (by rw [hx]; decide)
        have hw := hw.2 (by rw [hx]; decide)
        have hw := hw.2 (by rw [hx]; decide)
        have hw := hw.1 (by rw [hx]; rfl)
        exact s_L_law__601 C hr hS hkb hsb hk _ _ hw
      · refine ⟨_, 637, rfl, by decide, ?_⟩
        have hw := hw.2 (by rw [hx]; decide)
        have hw := hw.2 (by rw [hx]; decide)
        have hw := hw.2 (by rw [hx]; decide)
        have hw := hw.2 (by rw [hx]; decide)
        have hw := hw.2 (by rw [hx]; decide)
        have hw := hw.2 (by rw [hx]; decide)
        have hw := hw.2 (by rw [hx]; decide)
        have hw := hw.1 (by rw [hx]; rfl)
        exact s_L_law__637 C hr hS hkb hsb hk _ _ hw
      · refine ⟨_, 681, rfl, by decide, ?_⟩
        have hw := hw.2 (by rw [hx]; decide)
        have hw := hw.2 (by rw [hx]; decide)
        have hw := hw.2 (by rw [hx]; decide)
        have hw := hw.2 (by rw [hx]; decide)
        have hw := hw.2 (by rw [hx]; decide)
        have hw := hw.2 (by rw [hx]; decide)
        have hw := hw.2 (by rw [hx]; decide)
        have hw := hw.2 (by rw [hx]; decide)
        have hw := hw.1 (by rw [hx]; rfl)
        exact s_L_law__681 C hr hS hkb hsb hk _ _ hw
      · refine ⟨_, 694, rfl, by decide, ?_⟩
        have hw := hw.2 (by rw [hx]; decide)
        have hw := hw.2 (by rw [hx]; decide)
        have hw := hw.2 (by rw [hx]; decide)
        have hw := hw.2 (by rw [hx]; decide)
        have hw := hw.2 (by rw [hx]; decide)
        have hw := hw.2 (by rw [hx]; decide)
        have hw := hw.2 (by rw [hx]; decide)
        have hw := hw.2 (by rw [hx]; decide)
        have hw := hw.2 (by rw [hx]; decide)
        have hw := hw.1 (by rw [hx]; rfl)
        exact s_L_law__694 C hr hS hkb hsb hk _ _ hw
      · refine ⟨_, 786, rfl, by decide, ?_⟩
        have hw := hw.2 (by rw [hx]; decide)
        have hw := hw.2 (by rw [hx]; decide)
        have hw := hw.2 (by rw [hx]; decide)
        have hw := hw.2 (by rw [hx]; decide)
        have hw := hw.2 (by rw [hx]; decide)
        have hw := hw.2 (by rw [hx]; decide)
        have hw := hw.2 (by rw [hx]; decide)
        have hw := hw.2 (by rw [hx]; decide)
        have hw := hw.2 (by rw [hx]; decide)
        have hw := hw.2 (by rw [hx]; decide)
        have hw := hw.1 (by rw [hx]; rfl)
        exact s_L_law__786 C hr hS hkb hsb hk _ _ hw
      · refine ⟨_, 854, rfl, by decide, ?_⟩
        have hw := hw.2 (by rw [hx]; decide)
        have hw := hw.2 (by rw [hx]; decide)
        have hw := hw.2 (by rw [hx]; decide)
        have hw := hw.2 (by rw [hx]; decide)
        have hw := hw.2 (by rw [hx]; decide)
        have hw := hw.2 (by rw [hx]; decide)
        have hw := hw.2 (by rw [hx]; decide)
        have hw := hw.2 (by rw [hx]; decide)
        have hw := hw.2 (by rw [hx]; decide)
        have hw := hw.2 (by rw [hx]; decide)
        have hw := hw.2 (by rw [hx]; decide)
        have hw := hw.1 (by rw [hx]; rfl)
        exact s_L_law__854 C hr hS hkb hsb hk _ _ hw
      · refine ⟨_, 877, rfl, by decide, ?_⟩
        have hw := hw.2 (by rw [hx]; decide)
        have hw := hw.2 (by rw [hx]; decide)
        have hw := hw.2 (by rw [hx]; decide)
        have hw := hw.2 (by rw [hx]; decide)
        have hw := hw.2 (by rw [hx]; decide)
        have hw := hw.2 (by rw [hx]; decide)
        have hw := hw.2 (by rw [hx]; decide)
        have hw := hw.2 (by rw [hx]; decide)
        have hw := hw.2 (by rw [hx]; decide)
        have hw := hw.2 (by rw [hx]; decide)
        have hw := hw.2 (by rw [hx]; decide)
        have hw := hw.2 (by rw [hx]; decide)
        have hw := hw.1 (by rw [hx]; rfl)
        exact s_L_law__877 C hr hS hkb hsb hk _ _ hw
      · refine ⟨_, 933, rfl, by decide, ?_⟩
        have hw := hw.2 (by rw [hx]; decide)
        have hw := hw.2 (by rw [hx]; decide)
        have hw := hw.2 (by rw [hx]; decide)
        have hw := hw.2 (by rw [hx]; decide)
        have hw := hw.2 (by rw [hx]; decide)
        have hw := hw.2 (by rw [hx]; decide)
        have hw := hw.2 (by rw [hx]; decide)
        have hw := hw.2 (by rw [hx]; decide)
        have hw := hw.2 (by rw [hx]; decide)
        have hw := hw.2 (by rw [hx]; decide)
        have hw := hw.2 (by rw [hx]; decide)
        have hw := hw.2 (by rw [hx]; decide)
        have hw := hw.2 (by rw [hx]; decide)
        have hw := hw.1 (by rw [hx]; rfl)
        exact s_L_law__933 C hr hS hkb hsb hk _ _ hw
      · refine ⟨_, 1013, rfl, by decide, ?_⟩
        have hw := hw.2 (by rw [hx]; decide)
        have hw := hw.2 (by rw [hx]; decide)
        have hw := hw.2 (by rw [hx]; decide)
        have hw := hw.2 (by rw [hx]; decide)
        have hw := hw.2 (by rw [hx]; decide)
        have hw := hw.2 (by rw [hx]; decide)
        have hw := hw.2 (by rw [hx]; decide)
        have hw := hw.2 (by rw [hx]; decide)
        have hw := hw.2 (by rw [hx]; decide)
        have hw := hw.2 (by rw [hx]; decide)
        have hw := hw.2 (by rw [hx]; decide)
        have hw := hw.2 (by rw [hx]; decide)
        have hw := hw.2 (by rw [hx]; decide)
        have hw := hw.2 (by rw [hx]; decide)
        have hw := hw.1 (by rw [hx]; rfl)
        exact s_L_law__1013 C hr hS hkb hsb hk _ _ hw
      · refine ⟨_, 1105, rfl, by decide, ?_⟩
        have hw := hw.2 (by rw [hx]; decide)
        have hw := hw.2 (by rw [hx]; decide)
        have hw := hw.2 (by rw [hx]; decide)
        have hw := hw.2 (by rw [hx]; decide)
        have hw := hw.2 (by rw [hx]; decide)
        have hw := hw.2 (by rw [hx]; decide)
        have hw := hw.2 (by rw [hx]; decide)
        have hw := hw.2 (by rw [hx]; decide)
        have hw := hw.2 (by rw [hx]; decide)
        have hw := hw.2 (by rw [hx]; decide)
        have hw := hw.2 (by rw [hx]; decide)
        have hw := hw.2 (by rw [hx]; decide)
        have hw := hw.2 (by rw [hx]; decide)
        have hw := hw.2 (by rw [hx]; decide)
        have hw := hw.2 (by rw [hx]; decide)
        have hw := hw.1 (by rw [hx]; rfl)
        exact s_L_law__1105 C hr hS hkb hsb hk _ _ hw
      · refine ⟨_, 1173, rfl, by decide, ?_⟩
        have hw := hw.2 (by rw [hx]; decide)
        have hw := hw.2 (by rw [hx]; decide)
        have hw := hw.2 (by rw [hx]; decide)
        have hw := hw.2 (by rw [hx]; decide)
        have hw := hw.2 (by rw [hx]; decide)
        have hw := hw.2 (by rw [hx]; decide)
        have hw := hw.2 (by rw [hx]; decide)
        have hw := hw.2 (by rw [hx]; decide)
        have hw := hw.2 (by rw [hx]; decide)
        have hw := hw.2 (by rw [hx]; decide)
        have hw := hw.2 (by rw [hx]; decide)
        have hw := hw.2 (by rw [hx]; decide)
        have hw := hw.2 (by rw [hx]; decide)
        have hw := hw.2 (by rw [hx]; decide)
        have hw := hw.2 (by rw [hx]; decide)
        have hw := hw.2 (by rw [hx]; decide)
        have hw := hw.1 (by rw [hx]; rfl)
        exact s_L_law__1173 C hr hS hkb hsb hk _ _ hw
      · refine ⟨_, 1233, rfl, by decide, ?_⟩
        have hw := hw.2 (by rw [hx]; decide)
        have hw := hw.2 (by rw [hx]; decide)
        have hw := hw.2 (by rw [hx]; decide)
        have hw := hw.2 (by rw [hx]; decide)
        have hw := hw.2 (by rw [hx]; decide)
        have hw := hw.2 (by rw [hx]; decide)
        have hw := hw.2 (by rw [hx]; decide)
        have hw := hw.2 (by rw [hx]; decide)
        have hw := hw.2 (by rw [hx]; decide)
        have hw := hw.2 (by rw [hx]; decide)
        have hw := hw.2 (by rw [hx]; decide)
        have hw := hw.2 (by rw [hx]; decide)
        have hw := hw.2 (by rw [hx]; decide)
        have hw := hw.2 (by rw [hx]; decide)
        have hw := hw.2 (by rw [hx]; decide)
        have hw := hw.2 (by rw [hx]; decide)
        have hw := hw.2 (by rw [hx]; decide)
        have hw := hw.1 (by rw [hx]; rfl)
        exact s_L_law__1233 C hr hS hkb hsb hk _ _ hw
      · refine ⟨_, 1281, rfl, by decide, ?_⟩
        have hw := hw.2 (by rw [hx]; decide)
        have hw := hw.2 (by rw [hx]; decide)
        have hw := hw.2 (by rw [hx]; decide)
        have hw := hw.2 (by rw [hx]; decide)
        have hw := hw.2 (by rw [hx]; decide)
        have hw := hw.2 (by rw [hx]; decide)
        have hw := hw.2 (by rw [hx]; decide)
        have hw := hw.2 (by rw [hx]; decide)
        have hw := hw.2 (by rw [hx]; decide)
        have hw := hw.2 (by rw [hx]; decide)
        have hw := hw.2 (by rw [hx]; decide)
        have hw := hw.2 (by rw [hx]; decide)
        have hw := hw.2 (by rw [hx]; decide)
        have hw := hw.2 (by rw [hx]; decide)
        have hw := hw.2 (by rw [hx]; decide)
        have hw := hw.2 (by rw [hx]; decide)
        have hw := hw.2 (by rw [hx]; decide)
        have hw := hw.2 (by rw [hx]; decide)
        have hw := hw.1 (by rw [hx]; rfl)
        exact s_L_law__1281 C hr hS hkb hsb hk _ _ hw
      · refine ⟨_, 1337, rfl, by decide, ?_⟩
        have hw := hw.2 (by rw [hx]; decide)
        have hw := hw.2 (by rw [hx]; decide)
        have hw := hw.2 (by rw [hx]; decide)
        have hw := hw.2 (by rw [hx]; decide)
        have hw := hw.2 (by rw [hx]; decide)
        have hw := hw.2 (by rw [hx]; decide)
        have hw := hw.2 (by rw [hx]; decide)
        have hw := hw.2 (by rw [hx]; decide)
        have hw := hw.2 (by rw [hx]; decide)
        have hw := hw.2 (by rw [hx]; decide)
        have hw := hw.2 (by rw [hx]; decide)
        have hw := hw.2 (by rw [hx]; decide)
        have hw := hw.2 (by rw [hx]; decide)
        have hw := hw.2 (by rw [hx]; decide)
        have hw := hw.2 (by rw [hx]; decide)
        have hw := hw.2 (by rw [hx]; decide)
        have hw := hw.2 (by rw [hx]; decide)
        have hw := hw.2 (by rw [hx]; decide)
        have hw := hw.2 (by rw [hx]; decide)
        have hw := hw.1 (by rw [hx]; rfl)
        exact s_L_law__1337 C hr hS hkb hsb hk _ _ hw
      · refine ⟨_, 1350, rfl, by decide, ?_⟩
        have hw := hw.2 (by rw [hx]; decide)
        have hw := hw.2 (by rw [hx]; decide)
        have hw := hw.2 (by rw [hx]; decide)
        have hw := hw.2 (by rw [hx]; decide)
        have hw := hw.2 (by rw [hx]; decide)
        have hw := hw.2 (by rw [hx]; decide)
        have hw := hw.2 (by rw [hx]; decide)
        have hw := hw.2 (by rw [hx]; decide)
        have hw := hw.2 (by rw [hx]; decide)
        have hw := hw.2 (by rw [hx]; decide)
        have hw := hw.2 (by rw [hx]; decide)
        have hw := hw.2 (by rw [hx]; decide)
        have hw := hw.2 (by rw [hx]; decide)
        have hw := hw.2 (by rw [hx]; decide)
        have hw := hw.2 (by rw [hx]; decide)
        have hw := hw.2 (by rw [hx]; decide)
        have hw := hw.2 (by rw [hx]; decide)
        have hw := hw.2 (by rw [hx]; decide)
        have hw := hw.2 (by rw [hx]; decide)
        have hw := hw.2 (by rw [hx]; decide)
        have hw := hw.1 (by rw [hx]; rfl)
        exact s_L_law__1350 C hr hS hkb hsb hk _ _ hw
      · refine ⟨_, 1418, rfl, by decide, ?_⟩
        have hw := hw.2 (by rw [hx]; decide)
        have hw := hw.2 (by rw [hx]; decide)
        have hw := hw.2 (by rw [hx]; decide)
        have hw := hw.2 (by rw [hx]; decide)
        have hw := hw.2 (by rw [hx]; decide)
        have hw := hw.2 (by rw [hx]; decide)
        have hw := hw.2 (by rw [hx]; decide)
        have hw := hw.2 (by rw [hx]; decide)
        have hw := hw.2 (by rw [hx]; decide)
        have hw := hw.2 (by rw [hx]; decide)
        have hw := hw.2 (by rw [hx]; decide)
        have hw := hw.2 (by rw [hx]; decide)
        have hw := hw.2 (by rw [hx]; decide)
        have hw := hw.2 (by rw [hx]; decide)
        have hw := hw.2 (by rw [hx]; decide)
        have hw := hw.2 (by rw [hx]; decide)
        have hw := hw.2 (by rw [hx]; decide)
        have hw := hw.2 (by rw [hx]; decide)
        have hw := hw.2 (by rw [hx]; decide)
        have hw := hw.2 (by rw [hx]; decide)
        have hw := hw.2 (by rw [hx]; decide)
        have hw := hw.1 (by rw [hx]; rfl)
        exact s_L_law__1418 C hr hS hkb hsb hk _ _ hw
      · refine ⟨_, 1498, rfl, by decide, ?_⟩
        have hw := hw.2 (by rw [hx]; decide)
        have hw := hw.2 (by rw [hx]; decide)
        have hw := hw.2 (by rw [hx]; decide)
        have hw := hw.2 (by rw [hx]; decide)
        have hw := hw.2 (by rw [hx]; decide)
        have hw := hw.2 (by rw [hx]; decide)
        have hw := hw.2 (by rw [hx]; decide)
        have hw := hw.2 (by rw [hx]; decide)
        have hw := hw.2 (by rw [hx]; decide)
        have hw := hw.2 (by rw [hx]; decide)
        have hw := hw.2 (by rw [hx]; decide)
        have hw := hw.2 (by rw [hx]; decide)
        have hw := hw.2 (by rw [hx]; decide)
        have hw := hw.2 (by rw [hx]; decide)
        have hw := hw.2 (by rw [hx]; decide)
        have hw := hw.2 (by rw [hx]; decide)
        have hw := hw.2 (by rw [hx]; decide)
        have hw := hw.2 (by rw [hx]; decide)
        have hw := hw.2 (by rw [hx]; decide)
        have hw := hw.2 (by rw [hx]; decide)
        have hw := hw.2 (by rw [hx]; decide)
        have hw := hw.2 (by rw [hx]; decide)
        have hw := hw.1 (by rw [hx]; rfl)
        exact s_L_law__1498 C hr hS hkb hsb hk _ _ hw
      · refine ⟨_, 1554, rfl, by decide, ?_⟩
        have hw := hw.2 (by rw [hx]; decide)
        have hw := hw.2 (by rw [hx]; decide)
        have hw := hw.2 (by rw [hx]; decide)
        have hw := hw.2 (by rw [hx]; decide)
        have hw := hw.2 (by rw [hx]; decide)
        have hw := hw.2 (by rw [hx]; decide)
        have hw := hw.2 (by rw [hx]; decide)
        have hw := hw.2 (by rw [hx]; decide)
        have hw := hw.2 (by rw [hx]; decide)
        have hw := hw.2 (by rw [hx]; decide)
        have hw := hw.2 (by rw [hx]; decide)
        have hw := hw.2 (by rw [hx]; decide)
        have hw := hw.2 (by rw [hx]; decide)
        have hw := hw.2 (by rw [hx]; decide)
        have hw := hw.2 (by rw [hx]; decide)
        have hw := hw.2 (by rw [hx]; decide)
        have hw := hw.2 (by rw [hx]; decide)
        have hw := hw.2 (by rw [hx]; decide)
        have hw := hw.2 (by rw [hx]; decide)
        have hw := hw.2 (by rw [hx]; decide)
        have hw := hw.2 (by rw [hx]; decide)
        have hw := hw.2 (by rw [hx]; decide)
        have hw := hw.2 (by rw [hx]; decide)
        have hw := hw.1 (by rw [hx]; rfl)
        exact s_L_law__1554 C hr hS hkb hsb hk _ _ hw
      · refine ⟨_, 1622, rfl, by decide, ?_⟩
        have hw := hw.2 (by rw [hx]; decide)
        have hw := hw.2 (by rw [hx]; decide)
        have hw := hw.2 (by rw [hx]; decide)
        have hw := hw.2 (by rw [hx]; decide)
        have hw := hw.2 (by rw [hx]; decide)
        have hw := hw.2 (by rw [hx]; decide)
        have hw := hw.2 (by rw [hx]; decide)
        have hw := hw.2 (by rw [hx]; decide)
        have hw := hw.2 (by rw [hx]; decide)
        have hw := hw.2 (by rw [hx]; decide)
        have hw := hw.2 (by rw [hx]; decide)
        have hw := hw.2 (by rw [hx]; decide)
        have hw := hw.2 (by rw [hx]; decide)
        have hw := hw.2 (by rw [hx]; decide)
        have hw := hw.2 (by rw [hx]; decide)
        have hw := hw.2 (by rw [hx]; decide)
        have hw := hw.2 (by rw [hx]; decide)
        have hw := hw.2 (by rw [hx]; decide)
        have hw := hw.2 (by rw [hx]; decide)
        have hw := hw.2 (by rw [hx]; decide)
        have hw := hw.2 (by rw [hx]; decide)
        have hw := hw.2 (by rw [hx]; decide)
        have hw := hw.2 (by rw [hx]; decide)
        have hw := hw.2 (by rw [hx]; decide)
        have hw := hw.1 (by rw [hx]; rfl)
        exact s_L_law__1622 C hr hS hkb hsb hk _ _ hw
      · refine ⟨_, 1730, rfl, by decide, ?_⟩
        have hw := hw.2 (by rw [hx]; decide)
        have hw := hw.2 (by rw [hx]; decide)
        have hw := hw.2 (by rw [hx]; decide)
        have hw := hw.2 (by rw [hx]; decide)
        have hw := hw.2 (by rw [hx]; decide)
        have hw := hw.2 (by rw [hx]; decide)
        have hw := hw.2 (by rw [hx]; decide)
        have hw := hw.2 (by rw [hx]; decide)
        have hw := hw.2 (by rw [hx]; decide)
        have hw := hw.2 (by rw [hx]; decide)
        have hw := hw.2 (by rw [hx]; decide)
        have hw := hw.2 (by rw [hx]; decide)
        have hw := hw.2 (by rw [hx]; decide)
        have hw := hw.2 (by rw [hx]; decide)
        have hw := hw.2 (by rw [hx]; decide)
        have hw := hw.2 (by rw [hx]; decide)
        have hw := hw.2 (by rw [hx]; decide)
        have hw := hw.2 (by rw [hx]; decide)
        have hw := hw.2 (by rw [hx]; decide)
        have hw := hw.2 (by rw [hx]; decide)
        have hw := hw.2 (by rw [hx]; decide)
        have hw := hw.2 (by rw [hx]; decide)
        have hw := hw.2 (by rw [hx]; decide)
        have hw := hw.2 (by rw [hx]; decide)
        have hw := hw.2 (by rw [hx]; decide)
        have hw := hw.1 (by rw [hx]; rfl)
        exact s_L_law__1730 C hr hS hkb hsb hk _ _ hw
      · refine ⟨_, 1814, rfl, by decide, ?_⟩
        have hw := hw.2 (by rw [hx]; decide)
        have hw := hw.2 (by rw [hx]; decide)
        have hw := hw.2 (by rw [hx]; decide)
        have hw := hw.2 (by rw [hx]; decide)
        have hw := hw.2 (by rw [hx]; decide)
        have hw := hw.2 (by rw [hx]; decide)
        have hw := hw.2 (by rw [hx]; decide)
        have hw := hw.2 (by rw [hx]; decide)
        have hw := hw.2 (by rw [hx]; decide)
        have hw := hw.2 (by rw [hx]; decide)
        have hw := hw.2 (by rw [hx]; decide)
        have hw := hw.2 (by rw [hx]; decide)
        have hw := hw.2 (by rw [hx]; decide)
        have hw := hw.2 (by rw [hx]; decide)
        have hw := hw.2 (by rw [hx]; decide)
        have hw := hw.2 (by rw [hx]; decide)
        have hw := hw.2 (by rw [hx]; decide)
        have hw := hw.2 (by rw [hx]; decide)
        have hw := hw.2 (by rw [hx]; decide)
        have hw := hw.2 (by rw [hx]; decide)
        have hw := hw.2 (by rw [hx]; decide)
        have hw := hw.2 (by rw [hx]; decide)
        have hw := hw.2 (by rw [hx]; decide)
        have hw := hw.2 (by rw [hx]; decide)
        have hw := hw.2 (by rw [hx]; decide)
        have hw := hw.2 (by rw [hx]; decide)
        have hw := hw.1 (by rw [hx]; rfl)
        exact s_L_law__1814 C hr hS hkb hsb hk _ _ hw
      · refine ⟨_, 1922, rfl, by decide, ?_⟩
        have hw := hw.2 (by rw [hx]; decide)
        have hw := hw.2 (by rw [hx]; decide)
        have hw := hw.2 (by rw [hx]; decide)
        have hw := hw.2 (by rw [hx]; decide)
        have hw := hw.2 (by rw [hx]; decide)
        have hw := hw.2 (by rw [hx]; decide)
        have hw := hw.2 (by rw [hx]; decide)
        have hw := hw.2 (by rw [hx]; decide)
        have hw := hw.2 (by rw [hx]; decide)
        have hw := hw.2 (by rw [hx]; decide)
        have hw := hw.2 (by rw [hx]; decide)
        have hw := hw.2 (by rw [hx]; decide)
        have hw := hw.2 (by rw [hx]; decide)
        have hw := hw.2 (by rw [hx]; decide)
        have hw := hw.2 (by rw [hx]; decide)
        have hw := hw.2 (by rw [hx]; decide)
        have hw := hw.2 (by rw [hx]; decide)
        have hw := hw.2 (by rw [hx]; decide)
        have hw := hw.2 (by rw [hx]; decide)
        have hw := hw.2 (by rw [hx]; decide)
        have hw := hw.2 (by rw [hx]; decide)
        have hw := hw.2 (by rw [hx]; decide)
        have hw := hw.2 (by rw [hx]; decide)
        have hw := hw.2 (by rw [hx]; decide)
        have hw := hw.2 (by rw [hx]; decide)
        have hw := hw.2 (by rw [hx]; decide)
        have hw := hw.2 (by rw [hx]; decide)
        have hw := hw.1 (by rw [hx]; rfl)
        exact s_L_law__1922 C hr hS hkb hsb hk _ _ hw
      · refine ⟨_, 1990, rfl, by decide, ?_⟩
        have hw := hw.2 (by rw [hx]; decide)
        have hw := hw.2 (by rw [hx]; decide)
        have hw := hw.2 (by rw [hx]; decide)
        have hw := hw.2 (by rw [hx]; decide)
        have hw := hw.2 (by rw [hx]; decide)
        have hw := hw.2 (by rw [hx]; decide)
        have hw := hw.2 (by rw [hx]; decide)
        have hw := hw.2 (by rw [hx]; decide)
        have hw := hw.2 (by rw [hx]; decide)
        have hw := hw.2 (by rw [hx]; decide)
        have hw := hw.2 (by rw [hx]; decide)
        have hw := hw.2 (by rw [hx]; decide)
        have hw := hw.2 (by rw [hx]; decide)
        have hw := hw.2 (by rw [hx]; decide)
        have hw := hw.2 (by rw [hx]; decide)
        have hw := hw.2 (by rw [hx]; decide)
        have hw := hw.2 (by rw [hx]; decide)
        have hw := hw.2 (by rw [hx]; decide)
        have hw := hw.2 (by rw [hx]; decide)
        have hw := hw.2 (by rw [hx]; decide)
        have hw := hw.2 (by rw [hx]; decide)
        have hw := hw.2 (by rw [hx]; decide)
        have hw := hw.2 (by rw [hx]; decide)
        have hw := hw.2 (by rw [hx]; decide)
        have hw := hw.2 (by rw [hx]; decide)
        have hw := hw.2 (by rw [hx]; decide)
        have hw := hw.2 (by rw [hx]; decide)
        have hw := hw.2 (by rw [hx]; decide)
        have hw := hw.1 (by rw [hx]; rfl)
        exact s_L_law__1990 C hr hS hkb hsb hk _ _ hw
      · refine ⟨_, 2082, rfl, by decide, ?_⟩
        have hw := hw.2 (by rw [hx]; decide)
        have hw := hw.2 (by rw [hx]; decide)
        have hw := hw.2 (by rw [hx]; decide)
        have hw := hw.2 (by rw [hx]; decide)
        have hw := hw.2 (by rw [hx]; decide)
        have hw := hw.2 (by rw [hx]; decide)
        have hw := hw.2 (by rw [hx]; decide)
        have hw := hw.2 (by rw [hx]; decide)
        have hw := hw.2 (by rw [hx]; decide)
        have hw := hw.2 (by rw [hx]; decide)
        have hw := hw.2 (by rw [hx]; decide)
        have hw := hw.2 (by rw [hx]; decide)
        have hw := hw.2 (by rw [hx]; decide)
        have hw := hw.2 (by rw [hx]; decide)
        have hw := hw.2 (by rw [hx]; decide)
        have hw := hw.2 (by rw [hx]; decide)
        have hw := hw.2 (by rw [hx]; decide)
        have hw := hw.2 (by rw [hx]; decide)
        have hw := hw.2 (by rw [hx]; decide)
        have hw := hw.2 (by rw [hx]; decide)
        have hw := hw.2 (by rw [hx]; decide)
        have hw := hw.2 (by rw [hx]; decide)
        have hw := hw.2 (by rw [hx]; decide)
        have hw := hw.2 (by rw [hx]; decide)
        have hw := hw.2 (by rw [hx]; decide)
        have hw := hw.2 (by rw [hx]; decide)
        have hw := hw.2 (by rw [hx]; decide)
        have hw := hw.2 (by rw [hx]; decide)
        have hw := hw.2 (by rw [hx]; decide)
        have hw := hw.1 (by rw [hx]; rfl)
        exact s_L_law__2082 C hr hS hkb hsb hk _ _ hw
      · refine ⟨_, 2162, rfl, by decide, ?_⟩
        have hw := hw.2 (by rw [hx]; decide)
        have hw := hw.2 (by rw [hx]; decide)
        have hw := hw.2 (by rw [hx]; decide)
        have hw := hw.2 (by rw [hx]; decide)
        have hw := hw.2 (by rw [hx]; decide)
        have hw := hw.2 (by rw [hx]; decide)
        have hw := hw.2 (by rw [hx]; decide)
        have hw := hw.2 (by rw [hx]; decide)
        have hw := hw.2 (by rw [hx]; decide)
        have hw := hw.2 (by rw [hx]; decide)
        have hw := hw.2 (by rw [hx]; decide)
        have hw := hw.2 (by rw [hx]; decide)
        have hw := hw.2 (by rw [hx]; decide)
        have hw := hw.2 (by rw [hx]; decide)
        have hw := hw.2 (by rw [hx]; decide)
        have hw := hw.2 (by rw [hx]; decide)
        have hw := hw.2 (by rw [hx]; decide)
        have hw := hw.2 (by rw [hx]; decide)
        have hw := hw.2 (by rw [hx]; decide)
        have hw := hw.2 (by rw [hx]; decide)
        have hw := hw.2 (by rw [hx]; decide)
        have hw := hw.2 (by rw [hx]; decide)
        have hw := hw.2 (by rw [hx]; decide)
        have hw := hw.2 (by rw [hx]; decide)
        have hw := hw.2 (by rw [hx]; decide)
        have hw := hw.2 (by rw [hx]; decide)
        have hw := hw.2 (by rw [hx]; decide)
        have hw := hw.2 (by rw [hx]; decide)
        have hw := hw.2 (by rw [hx]; decide)
        have hw := hw.2 (by rw [hx]; decide)
        have hw := hw.1 (by rw [hx]; rfl)
        exact s_L_law__2162 C hr hS hkb hsb hk _ _ hw
      · refine ⟨_, 2253, rfl, by decide, ?_⟩
        have hw := hw.2 (by rw [hx]; decide)
        have hw := hw.2 (by rw [hx]; decide)
        have hw := hw.2 (by rw [hx]; decide)
        have hw := hw.2 (by rw [hx]; decide)
        have hw := hw.2 (by rw [hx]; decide)
        have hw := hw.2 (by rw [hx]; decide)
        have hw := hw.2 (by rw [hx]; decide)
        have hw := hw.2 (by rw [hx]; decide)
        have hw := hw.2 (by rw [hx]; decide)
        have hw := hw.2 (by rw [hx]; decide)
        have hw := hw.2 (by rw [hx]; decide)
        have hw := hw.2 (by rw [hx]; decide)
        have hw := hw.2 (by rw [hx]; decide)
        have hw := hw.2 (by rw [hx]; decide)
        have hw := hw.2 (by rw [hx]; decide)
        have hw := hw.2 (by rw [hx]; decide)
        have hw := hw.2 (by rw [hx]; decide)
        have hw := hw.2 (by rw [hx]; decide)
        have hw := hw.2 (by rw [hx]; decide)
        have hw := hw.2 (by rw [hx]; decide)
        have hw := hw.2 (by rw [hx]; decide)
        have hw := hw.2 (by rw [hx]; decide)
        have hw := hw.2 (by rw [hx]; decide)
        have hw := hw.2 (by rw [hx]; decide)
        have hw := hw.2 (by rw [hx]; decide)
        have hw := hw.2 (by rw [hx]; decide)
        have hw := hw.2 (by rw [hx]; decide)
        have hw := hw.2 (by rw [hx]; decide)
        have hw := hw.2 (by rw [hx]; decide)
        have hw := hw.2 (by rw [hx]; decide)
        have hw := hw.2 (by rw [hx]; decide)
        have hw := hw.1 (by rw [hx]; rfl)
        exact s_L_law__2253 C hr hS hkb hsb hk _ _ hw
      · refine ⟨_, 2328, rfl, by decide, ?_⟩
        have hw := hw.2 (by rw [hx]; decide)
        have hw := hw.2 (by rw [hx]; decide)
        have hw := hw.2 (by rw [hx]; decide)
        have hw := hw.2 (by rw [hx]; decide)
        have hw := hw.2 (by rw [hx]; decide)
        have hw := hw.2 (by rw [hx]; decide)
        have hw := hw.2 (by rw [hx]; decide)
        have hw := hw.2 (by rw [hx]; decide)
        have hw := hw.2 (by rw [hx]; decide)
        have hw := hw.2 (by rw [hx]; decide)
        have hw := hw.2 (by rw [hx]; decide)
        have hw := hw.2 (by rw [hx]; decide)
        have hw := hw.2 (by rw [hx]; decide)
        have hw := hw.2 (by rw [hx]; decide)
        have hw := hw.2 (by rw [hx]; decide)
        have hw := hw.2 (by rw [hx]; decide)
        have hw := hw.2 (by rw [hx]; decide)
        have hw := hw.2 (by rw [hx]; decide)
        have hw := hw.2 (by rw [hx]; decide)
        have hw := hw.2 (by rw [hx]; decide)
        have hw := hw.2 (by rw [hx]; decide)
        have hw := hw.2 (by rw [hx]; decide)
        have hw := hw.2 (by rw [hx]; decide)
        have hw := hw.2 (by rw [hx]; decide)
        have hw := hw.2 (by rw [hx]; decide)
        have hw := hw.2 (by rw [hx]; decide)
        have hw := hw.2 (by rw [hx]; decide)
        have hw := hw.2 (by rw [hx]; decide)
        have hw := hw.2 (by rw [hx]; decide)
        have hw := hw.2 (by rw [hx]; decide)
        have hw := hw.2 (by rw [hx]; decide)
        have hw := hw.2 (by rw [hx]; decide)
        have hw := hw.1 (by rw [hx]; rfl)
        exact s_L_law__2328 C hr hS hkb hsb hk _ _ hw
      · refine ⟨_, 2341, rfl, by decide, ?_⟩
        have hw := hw.2 (by rw [hx]; decide)
        have hw := hw.2 (by rw [hx]; decide)
        have hw := hw.2 (by rw [hx]; decide)
        have hw := hw.2 (by rw [hx]; decide)
        have hw := hw.2 (by rw [hx]; decide)
        have hw := hw.2 (by rw [hx]; decide)
        have hw := hw.2 (by rw [hx]; decide)
        have hw := hw.2 (by rw [hx]; decide)
        have hw := hw.2 (by rw [hx]; decide)
        have hw := hw.2 (by rw [hx]; decide)
        have hw := hw.2 (by rw [hx]; decide)
        have hw := hw.2 (by rw [hx]; decide)
        have hw := hw.2 (by rw [hx]; decide)
        have hw := hw.2 (by rw [hx]; decide)
        have hw := hw.2 (by rw [hx]; decide)
        have hw := hw.2 (by rw [hx]; decide)
        have hw := hw.2 (by rw [hx]; decide)
        have hw := hw.2 (by rw [hx]; decide)
        have hw := hw.2 (by rw [hx]; decide)
        have hw := hw.2 (by rw [hx]; decide)
        have hw := hw.2 (by rw [hx]; decide)
        have hw := hw.2 (by rw [hx]; decide)
        have hw := hw.2 (by rw [hx]; decide)
        have hw := hw.2 (by rw [hx]; decide)
        have hw := hw.2 (by rw [hx]; decide)
        have hw := hw.2 (by rw [hx]; decide)
        have hw := hw.2 (by rw [hx]; decide)
        have hw := hw.2 (by rw [hx]; decide)
        have hw := hw.2 (by rw [hx]; decide)
        have hw := hw.2 (by rw [hx]; decide)
        have hw := hw.2 (by rw [hx]; decide)
        have hw := hw.2 (by rw [hx]; decide)
        have hw := hw.2 (by rw [hx]; decide)
        have hw := hw.1 (by rw [hx]; rfl)
        exact s_L_law__2341 C hr hS hkb hsb hk _ _ hw
      · refine ⟨_, 2397, rfl, by decide, ?_⟩
        have hw := hw.2 (by rw [hx]; decide)
        have hw := hw.2 (by rw [hx]; decide)
        have hw := hw.2 (by rw [hx]; decide)
        have hw := hw.2 (by rw [hx]; decide)
        have hw := hw.2 (by rw [hx]; decide)
        have hw := hw.2 (by rw [hx]; decide)
        have hw := hw.2 (by rw [hx]; decide)
        have hw := hw.2 (by rw [hx]; decide)
        have hw := hw.2 (by rw [hx]; decide)
        have hw := hw.2 (by rw [hx]; decide)
        have hw := hw.2 (by rw [hx]; decide)
        have hw := hw.2 (by rw [hx]; decide)
        have hw := hw.2 (by rw [hx]; decide)
        have hw := hw.2 (by rw [hx]; decide)
        have hw := hw.2 (by rw [hx]; decide)
        have hw := hw.2 (by rw [hx]; decide)
        have hw := hw.2 (by rw [hx]; decide)
        have hw := hw.2 (by rw [hx]; decide)
        have hw := hw.2 (by rw [hx]; decide)
        have hw := hw.2 (by rw [hx]; decide)
        have hw := hw.2 (by rw [hx]; decide)
        have hw := hw.2 (by rw [hx]; decide)
        have hw := hw.2 (by rw [hx]; decide)
        have hw := hw.2 (by rw [hx]; decide)
        have hw := hw.2 (by rw [hx]; decide)
        have hw := hw.2 (by rw [hx]; decide)
        have hw := hw.2 (by rw [hx]; decide)
        have hw := hw.2 (by rw [hx]; decide)
        have hw := hw.2 (by rw [hx]; decide)
        have hw := hw.2 (by rw [hx]; decide)
        have hw := hw.2 (by rw [hx]; decide)
        have hw := hw.2 (by rw [hx]; decide)
        have hw := hw.2 (by rw [hx]; decide)
        have hw := hw.2 (by rw [hx]; decide)
        have hw := hw.1 (by rw [hx]; rfl)
        exact s_L_law__2397 C hr hS hkb hsb hk _ _ hw
      · refine ⟨_, 2517, rfl, by decide, ?_⟩
        have hw := hw.2 (by rw [hx]; decide)
        have hw := hw.2 (by rw [hx]; decide)
        have hw := hw.2 (by rw [hx]; decide)
        have hw := hw.2 (by rw [hx]; decide)
        have hw := hw.2 (by rw [hx]; decide)
        have hw := hw.2 (by rw [hx]; decide)
        have hw := hw.2 (by rw [hx]; decide)
        have hw := hw.2 (by rw [hx]; decide)
        have hw := hw.2 (by rw [hx]; decide)
        have hw := hw.2 (by rw [hx]; decide)
        have hw := hw.2 (by rw [hx]; decide)
        have hw := hw.2 (by rw [hx]; decide)
        have hw := hw.2 (by rw [hx]; decide)
        have hw := hw.2 (by rw [hx]; decide)
        have hw := hw.2 (by rw [hx]; decide)
        have hw := hw.2 (by rw [hx]; decide)
        have hw := hw.2 (by rw [hx]; decide)
        have hw := hw.2 (by rw [hx]; decide)
        have hw := hw.2 (by rw [hx]; decide)
        have hw := hw.2 (by rw [hx]; decide)
        have hw := hw.2 (by rw [hx]; decide)
        have hw := hw.2 (by rw [hx]; decide)
        have hw := hw.2 (by rw [hx]; decide)
        have hw := hw.2 (by rw [hx]; decide)
        have hw := hw.2 (by rw [hx]; decide)
        have hw := hw.2 (by rw [hx]; decide)
        have hw := hw.2 (by rw [hx]; decide)
        have hw := hw.2 (by rw [hx]; decide)
        have hw := hw.2 (by rw [hx]; decide)
        have hw := hw.2 (by rw [hx]; decide)
        have hw := hw.2 (by rw [hx]; decide)
        have hw := hw.2 (by rw [hx]; decide)
        have hw := hw.2 (by rw [hx]; decide)
        have hw := hw.2 (by rw [hx]; decide)
        have hw := hw.2 (by rw [hx]; decide)
        have hw := hw.1 (by rw [hx]; rfl)
        exact s_L_law__2517 C hr hS hkb hsb hk _ _ hw
      · refine ⟨_, 2573, rfl, by decide, ?_⟩
        have hw := hw.2 (by rw [hx]; decide)
        have hw := hw.2 (by rw [hx]; decide)
        have hw := hw.2 (by rw [hx]; decide)
        have hw := hw.2 (by rw [hx]; decide)
        have hw := hw.2 (by rw [hx]; decide)
        have hw := hw.2 (by rw [hx]; decide)
        have hw := hw.2 (by rw [hx]; decide)
        have hw := hw.2 (by rw [hx]; decide)
        have hw := hw.2 (by rw [hx]; decide)
        have hw := hw.2 (by rw [hx]; decide)
        have hw := hw.2 (by rw [hx]; decide)
        have hw := hw.2 (by rw [hx]; decide)
        have hw := hw.2 (by rw [hx]; decide)
        have hw := hw.2 (by rw [hx]; decide)
        have hw := hw.2 (by rw [hx]; decide)
        have hw := hw.2 (by rw [hx]; decide)
        have hw := hw.2 (by rw [hx]; decide)
        have hw := hw.2 (by rw [hx]; decide)
        have hw := hw.2 (by rw [hx]; decide)
        have hw := hw.2 (by rw [hx]; decide)
        have hw := hw.2 (by rw [hx]; decide)
        have hw := hw.2 (by rw [hx]; decide)
        have hw := hw.2 (by rw [hx]; decide)
        have hw := hw.2 (by rw [hx]; decide)
        have hw := hw.2 (by rw [hx]; decide)
        have hw := hw.2 (by rw [hx]; decide)
        have hw := hw.2 (by rw [hx]; decide)
        have hw := hw.2 (by rw [hx]; decide)
        have hw := hw.2 (by rw [hx]; decide)
        have hw := hw.2 (by rw [hx]; decide)
        have hw := hw.2 (by rw [hx]; decide)
        have hw := hw.2 (by rw [hx]; decide)
        have hw := hw.2 (by rw [hx]; decide)
        have hw := hw.2 (by rw [hx]; decide)
        have hw := hw.2 (by rw [hx]; decide)
        have hw := hw.2 (by rw [hx]; decide)
        have hw := hw.1 (by rw [hx]; rfl)
        exact s_L_law__2573 C hr hS hkb hsb hk _ _ hw
      · refine ⟨_, 2636, rfl, by decide, ?_⟩
        have hw := hw.2 (by rw [hx]; decide)
        have hw := hw.2 (by rw [hx]; decide)
        have hw := hw.2 (by rw [hx]; decide)
        have hw := hw.2 (by rw [hx]; decide)
        have hw := hw.2 (by rw [hx]; decide)
        have hw := hw.2 (by rw [hx]; decide)
        have hw := hw.2 (by rw [hx]; decide)
        have hw := hw.2 (by rw [hx]; decide)
        have hw := hw.2 (by rw [hx]; decide)
        have hw := hw.2 (by rw [hx]; decide)
        have hw := hw.2 (by rw [hx]; decide)
        have hw := hw.2 (by rw [hx]; decide)
        have hw := hw.2 (by rw [hx]; decide)
        have hw := hw.2 (by rw [hx]; decide)
        have hw := hw.2 (by rw [hx]; decide)
        have hw := hw.2 (by rw [hx]; decide)
        have hw := hw.2 (by rw [hx]; decide)
        have hw := hw.2 (by rw [hx]; decide)
        have hw := hw.2 (by rw [hx]; decide)
        have hw := hw.2 (by rw [hx]; decide)
        have hw := hw.2 (by rw [hx]; decide)
        have hw := hw.2 (by rw [hx]; decide)
        have hw := hw.2 (by rw [hx]; decide)
        have hw := hw.2 (by rw [hx]; decide)
        have hw := hw.2 (by rw [hx]; decide)
        have hw := hw.2 (by rw [hx]; decide)
        have hw := hw.2 (by rw [hx]; decide)
        have hw := hw.2 (by rw [hx]; decide)
        have hw := hw.2 (by rw [hx]; decide)
        have hw := hw.2 (by rw [hx]; decide)
        have hw := hw.2 (by rw [hx]; decide)
        have hw := hw.2 (by rw [hx]; decide)
        have hw := hw.2 (by rw [hx]; decide)
        have hw := hw.2 (by rw [hx]; decide)
        have hw := hw.2 (by rw [hx]; decide)
        have hw := hw.2 (by rw [hx]; decide)
        have hw := hw.2 (by rw [hx]; decide)
        have hw := hw.1 (by rw [hx]; rfl)
        exact s_L_law__2636 C hr hS hkb hsb hk _ _ hw
      · refine ⟨_, 2692, rfl, by decide, ?_⟩
        have hw := hw.2 (by rw [hx]; decide)
        have hw := hw.2 (by rw [hx]; decide)
        have hw := hw.2 (by rw [hx]; decide)
        have hw := hw.2 (by rw [hx]; decide)
        have hw := hw.2 (by rw [hx]; decide)
        have hw := hw.2 (by rw [hx]; decide)
        have hw := hw.2 (by rw [hx]; decide)
        have hw := hw.2 (by rw [hx]; decide)
        have hw := hw.2 (by rw [hx]; decide)
        have hw := hw.2 (by rw [hx]; decide)
        have hw := hw.2 (by rw [hx]; decide)
        have hw := hw.2 (by rw [hx]; decide)
        have hw := hw.2 (by rw [hx]; decide)
        have hw := hw.2 (by rw [hx]; decide)
        have hw := hw.2 (by rw [hx]; decide)
        have hw := hw.2 (by rw [hx]; decide)
        have hw := hw.2 (by rw [hx]; decide)
        have hw := hw.2 (by rw [hx]; decide)
        have hw := hw.2 (by rw [hx]; decide)
        have hw := hw.2 (by rw [hx]; decide)
        have hw := hw.2 (by rw [hx]; decide)
        have hw := hw.2 (by rw [hx]; decide)
        have hw := hw.2 (by rw [hx]; decide)
        have hw := hw.2 (by rw [hx]; decide)
        have hw := hw.2 (by rw [hx]; decide)
        have hw := hw.2 (by rw [hx]; decide)
        have hw := hw.2 (by rw [hx]; decide)
        have hw := hw.2 (by rw [hx]; decide)
        have hw := hw.2 (by rw [hx]; decide)
        have hw := hw.2 (by rw [hx]; decide)
        have hw := hw.2 (by rw [hx]; decide)
        have hw := hw.2 (by rw [hx]; decide)
        have hw := hw.2 (by rw [hx]; decide)
        have hw := hw.2 (by rw [hx]; decide)
        have hw := hw.2 (by rw [hx]; decide)
        have hw := hw.2 (by rw [hx]; decide)
        have hw := hw.2 (by rw [hx]; decide)
        have hw := hw.2 (by rw [hx]; decide)
        have hw := hw.1 (by rw [hx]; rfl)
        exact s_L_law__2692 C hr hS hkb hsb hk _ _ hw
      · refine ⟨_, 2703, rfl, by decide, ?_⟩
        have hw := hw.2 (by rw [hx]; decide)
        have hw := hw.2 (by rw [hx]; decide)
        have hw := hw.2 (by rw [hx]; decide)
        have hw := hw.2 (by rw [hx]; decide)
        have hw := hw.2 (by rw [hx]; decide)
        have hw := hw.2 (by rw [hx]; decide)
        have hw := hw.2 (by rw [hx]; decide)
        have hw := hw.2 (by rw [hx]; decide)
        have hw := hw.2 (by rw [hx]; decide)
        have hw := hw.2 (by rw [hx]; decide)
        have hw := hw.2 (by rw [hx]; decide)
        have hw := hw.2 (by rw [hx]; decide)
        have hw := hw.2 (by rw [hx]; decide)
        have hw := hw.2 (by rw [hx]; decide)
        have hw := hw.2 (by rw [hx]; decide)
        have hw := hw.2 (by rw [hx]; decide)
        have hw := hw.2 (by rw [hx]; decide)
        have hw := hw.2 (by rw [hx]; decide)
        have hw := hw.2 (by rw [hx]; decide)
        have hw := hw.2 (by rw [hx]; decide)
        have hw := hw.2 (by rw [hx]; decide)
        have hw := hw.2 (by rw [hx]; decide)
        have hw := hw.2 (by rw [hx]; decide)
        have hw := hw.2 (by rw [hx]; decide)
        have hw := hw.2 (by rw [hx]; decide)
        have hw := hw.2 (by rw [hx]; decide)
        have hw := hw.2 (by rw [hx]; decide)
        have hw := hw.2 (by rw [hx]; decide)
        have hw := hw.2 (by rw [hx]; decide)
        have hw := hw.2 (by rw [hx]; decide)
        have hw := hw.2 (by rw [hx]; decide)
        have hw := hw.2 (by rw [hx]; decide)
        have hw := hw.2 (by rw [hx]; decide)
        have hw := hw.2 (by rw [hx]; decide)
        have hw := hw.2 (by rw [hx]; decide)
        have hw := hw.2 (by rw [hx]; decide)
        have hw := hw.2 (by rw [hx]; decide)
        have hw := hw.2 (by rw [hx]; decide)
        have hw := hw.2 (by rw [hx]; decide)
        have hw := hw.1 (by rw [hx]; rfl)
        exact s_L_law__2703 C hr hS hkb hsb hk _ _ hw
      · refine ⟨_, 2716, rfl, by decide, ?_⟩
        have hw := hw.2 (by rw [hx]; decide)
        have hw := hw.2 (by rw [hx]; decide)
        have hw := hw.2 (by rw [hx]; decide)
        have hw := hw.2 (by rw [hx]; decide)
        have hw := hw.2 (by rw [hx]; decide)
        have hw := hw.2 (by rw [hx]; decide)
        have hw := hw.2 (by rw [hx]; decide)
        have hw := hw.2 (by rw [hx]; decide)
        have hw := hw.2 (by rw [hx]; decide)
        have hw := hw.2 (by rw [hx]; decide)
        have hw := hw.2 (by rw [hx]; decide)
        have hw := hw.2 (by rw [hx]; decide)
        have hw := hw.2 (by rw [hx]; decide)
        have hw := hw.2 (by rw [hx]; decide)
        have hw := hw.2 (by rw [hx]; decide)
        have hw := hw.2 (by rw [hx]; decide)
        have hw := hw.2 (by rw [hx]; decide)
        have hw := hw.2 (by rw [hx]; decide)
        have hw := hw.2 (by rw [hx]; decide)
        have hw := hw.2 (by rw [hx]; decide)
        have hw := hw.2 (by rw [hx]; decide)
        have hw := hw.2 (by rw [hx]; decide)
        have hw := hw.2 (by rw [hx]; decide)
        have hw := hw.2 (by rw [hx]; decide)
        have hw := hw.2 (by rw [hx]; decide)
        have hw := hw.2 (by rw [hx]; decide)
        have hw := hw.2 (by rw [hx]; decide)
        have hw := hw.2 (by rw [hx]; decide)
        have hw := hw.2 (by rw [hx]; decide)
        have hw := hw.2 (by rw [hx]; decide)
        have hw := hw.2 (by rw [hx]; decide)
        have hw := hw.2 (by rw [hx]; decide)
        have hw := hw.2 (by rw [hx]; decide)
        have hw := hw.2 (by rw [hx]; decide)
        have hw := hw.2 (by rw [hx]; decide)
        have hw := hw.2 (by rw [hx]; decide)
        have hw := hw.2 (by rw [hx]; decide)
        have hw := hw.2 (by rw [hx]; decide)
        have hw := hw.2 (by rw [hx]; decide)
        have hw := hw.2 (by rw [hx]; decide)
        have hw := hw.1 (by rw [hx]; rfl)
        exact s_L_law__2716 C hr hS hkb hsb hk _ _ hw
    · have hw := hw.2 (fun z => c_40 0 (by decide) (z.trans (by decide)))
      have hw := hw.2 (fun z => c_40 1 (by decide) (z.trans (by decide)))
      have hw := hw.2 (fun z => c_40 2 (by decide) (z.trans (by decide)))
      have hw := hw.2 (fun z => c_40 3 (by decide) (z.trans (by decide)))
      have hw := hw.2 (fun z => c_40 4 (by decide) (z.trans (by decide)))
      have hw := hw.2 (fun z => c_40 5 (by decide) (z.trans (by decide)))
      have hw := hw.2 (fun z => c_40 6 (by decide) (z.trans (by decide)))
      have hw := hw.2 (fun z => c_40 7 (by decide) (z.trans (by decide)))
      have hw := hw.2 (fun z => c_40 8 (by decide) (z.trans (by decide)))
      have hw := hw.2 (fun z => c_40 9 (by decide) (z.trans (by decide)))
      have hw := hw.2 (fun z => c_40 10 (by decide) (z.trans (by decide)))
      have hw := hw.2 (fun z => c_40 11 (by decide) (z.trans (by decide)))
      have hw := hw.2 (fun z => c_40 12 (by decide) (z.trans (by decide)))
      have hw := hw.2 (fun z => c_40 13 (by decide) (z.trans (by decide)))
      have hw := hw.2 (fun z => c_40 14 (by decide) (z.trans (by decide)))
      have hw := hw.2 (fun z => c_40 15 (by decide) (z.trans (by decide)))
      have hw := hw.2 (fun z => c_40 16 (by decide) (z.trans (by decide)))
      have hw := hw.2 (fun z => c_40 17 (by decide) (z.trans (by decide)))
      have hw := hw.2 (fun z => c_40 18 (by decide) (z.trans (by decide)))
      have hw := hw.2 (fun z => c_40 19 (by decide) (z.trans (by decide)))
      have hw := hw.2 (fun z => c_40 20 (by decide) (z.trans (by decide)))
      have hw := hw.2 (fun z => c_40 21 (by decide) (z.trans (by decide)))
      have hw := hw.2 (fun z => c_40 22 (by decide) (z.trans (by decide)))
      have hw := hw.2 (fun z => c_40 23 (by decide) (z.trans (by decide)))
      have hw := hw.2 (fun z => c_40 24 (by decide) (z.trans (by decide)))
      have hw := hw.2 (fun z => c_40 25 (by decide) (z.trans (by decide)))
      have hw := hw.2 (fun z => c_40 26 (by decide) (z.trans (by decide)))
      have hw := hw.2 (fun z => c_40 27 (by decide) (z.trans (by decide)))
      have hw := hw.2 (fun z => c_40 28 (by decide) (z.trans (by decide)))
      have hw := hw.2 (fun z => c_40 29 (by decide) (z.trans (by decide)))
      have hw := hw.2 (fun z => c_40 30 (by decide) (z.trans (by decide)))
      have hw := hw.2 (fun z => c_40 31 (by decide) (z.trans (by decide)))
      have hw := hw.2 (fun z => c_40 32 (by decide) (z.trans (by decide)))
      have hw := hw.2 (fun z => c_40 33 (by decide) (z.trans (by decide)))
      have hw := hw.2 (fun z => c_40 34 (by decide) (z.trans (by decide)))
      have hw := hw.2 (fun z => c_40 35 (by decide) (z.trans (by decide)))
      have hw := hw.2 (fun z => c_40 36 (by decide) (z.trans (by decide)))
      have hw := hw.2 (fun z => c_40 37 (by decide) (z.trans (by decide)))
      have hw := hw.2 (fun z => c_40 38 (by decide) (z.trans (by decide)))
      have hw := hw.2 (fun z => c_40 39 (by decide) (z.trans (by decide)))
      have hw := hw.2 (fun z => c_40 40 (by decide) (z.trans (by decide)))
      refine v_cells (kc' := kb + 33) (ks' := sb + 2669) (by first | decide | omega) (by first | decide | omega) ?_
      exact s_L_law__2741 C hr hS hkb hsb hk _ _ hw
set_option maxRecDepth 100000 in
set_option maxHeartbeats 4000000 in
theorem s_L_law_ {p : Program} {l : Launch} {e : Env} {s : State} {m : MethodId} {args : Array Value} {below : List Frame} {meth : Method} {c : Code} {g : GG} {xs : Nat → Int32} {L v0 : Nat} {h : AH} {Q : Int32 → AH → Prop} (C : CXT p l s m args meth c RL cL_law_ 7 g) (hr : meth.sig.returnType = (some .boolean)) (hS : SX g v0 L xs s) (hw : w_L_law_ xs L v0 h Q) : V p l e s m args below meth c g 1050 400000 5000000 7 0 0 (MQ below (QCx g (QI Q)) args s 400000 5000000 (gA g)) 0 [(0, .ref v0)] [] h := by
  refine v_new (r := (RX11, TX11, 6)) (N := 6) (ci := 11) C tyX11 rfl iw_X11 tyX11_ok df_X11 (tb1 (List.mem_of_getElem? (i := 30) rfl)) (tb1 (List.mem_of_getElem? (i := 31) rfl)) (tb1 (List.mem_of_getElem? (i := 1) rfl)) rfl dL_law__0 (by decide) (by decide) (fun a1 hn => ?_)
  have hw := hw a1 hn
  generalize nO h a1 11 = h at hw ⊢
  refine v_dup C dL_law__3 rfl ?_
  refine w_callIv (st := [.ref a1]) C cl_L_127 im_X11_init rfl (s_X11_init hw) rfl dL_law__4 rfl (Nat.le_of_ble_eq_true rfl) (by omega) (by decide) (by decide) (by decide) (fun h hw => ?_)
  refine v_astore_n (ls' := [(1, .ref a1), (0, .ref v0)]) C dL_law__7 rfl (by decide) rfl ?_
  refine v_new (r := (RX12, TX12, 28)) (N := 28) (ci := 12) C tyX12 rfl iw_X12 tyX12_ok df_X12 (tb7 (List.mem_of_getElem? (i := 90) rfl)) (tb7 (List.mem_of_getElem? (i := 91) rfl)) (tb1 (List.mem_of_getElem? (i := 11) rfl)) rfl dL_law__8 (by decide) (by decide) (fun a2 hn => ?_)
  have hw := hw a2 hn
  generalize nO h a2 12 = h at hw ⊢
  refine v_dup C dL_law__11 rfl ?_
  refine w_callIv (st := [.ref a2]) C cl_L_130 im_X12_init rfl (s_X12_init hw) rfl dL_law__12 rfl (Nat.le_of_ble_eq_true rfl) (by omega) (by decide) (by decide) (by decide) (fun h hw => ?_)
  refine v_astore_n (ls' := [(2, .ref a2), (1, .ref a1), (0, .ref v0)]) C dL_law__15 rfl (by decide) rfl ?_
  refine v_iconst (v := 1) C dL_law__16 (by decide) ?_
  refine v_newa (atype := .long) (j := 3) (N := 1) C rfl rfl (by decide) rfl rfl (tb9 (List.mem_of_getElem? (i := 210) rfl)) dL_law__17 (by decide) (by decide) (by decide) (by decide) (by decide) (fun a3 hn => ?_)
  have hw := hw a3 hn
  generalize nA h a3 3 1 = h at hw ⊢
  refine v_astore_n (ls' := [(3, .ref a3), (2, .ref a2), (1, .ref a1), (0, .ref v0)]) C dL_law__19 rfl (by decide) rfl ?_
  refine v_iconst (v := 0) C dL_law__20 (by decide) ?_
  refine v_istore (ls' := [(4, .int (0 : Int32)), (3, .ref a3), (2, .ref a2), (1, .ref a1), (0, .ref v0)]) C dL_law__21 (by decide) rfl ?_
  refine v_sub [4, 3, 2, 1, 0] rfl ?_
  refine it_walk (P := fun n (s' : Int32 × AH) => V p l e s m args below meth c g 1050 400000 5000000 7 (63 + 33 * (513 - n)) (25184 + 2669 * (513 - n)) (MQ below (QCx g (QI Q)) args s 400000 5000000 (gA g)) 23 [(0, .ref v0), (1, .ref a1), (2, .ref a2), (3, .ref a3), (4, .int (s'.1))] [] s'.2) 513 (fun n hn k2 hk2 s' hw => ?_) 513 (Nat.le_refl _) ((0 : Int32), h) hw
  refine s_L_law__23 (kb := (63 + 33 * (513 - (n + 1)))) (sb := (25184 + 2669 * (513 - (n + 1)))) C hr hS (by omega) (by omega) (fun y4 h hw => ?_) _ _ hw
  exact v_cells (kc' := (63 + 33 * (513 - n))) (ks' := (25184 + 2669 * (513 - n))) (by omega) (by omega) (hk2 (y4, h) hw)
