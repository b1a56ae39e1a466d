/-! ===== the law on one call ===== -/
theorem z_sldj {G : zG} {X : zX} {cc : ByteArray} {nL : Nat} {own : String} {ret : Option FieldType} {nm : String} {M : zM} {n k pc : Nat} {lv : List (Nat × Value)} {st : List Value} {b L : Nat} {xs : Nat → Int32} (j : Nat) (O : zOK G X cc nL own ret nm) (S : zS X b L xs) {i : Int32} (hd : decode cc pc = .ok (.iaload, 1)) (hin : vp_in i L) (hj : i.toNatClampNeg = j) (K : zW G X nL M n k (pc + 1) lv (.int (xs j) :: st)) : zW G X nL M n k pc lv (.int i :: .ref b :: st) := by
  subst hj
  exact z_sld O S hd hin K
theorem zL6 {L : Nat} (h : L ≤ 6) : (Int32.ofNat L - 6 : Int32) < 6 ∧ (¬ L = 6 → (Int32.ofNat L - 6 : Int32) < 0) := by
  have : L = 0 ∨ L = 1 ∨ L = 2 ∨ L = 3 ∨ L = 4 ∨ L = 5 ∨ L = 6 := by omega
  rcases this with rfl | rfl | rfl | rfl | rfl | rfl | rfl <;> decide
def zFr (M Nx Nm : zM) (x m o : Nat) : Prop := FX Nx x ∧ FM Nm m ∧ zSub Nx M ∧ zSub Nm M ∧ zDis Nm Nx ∧ M.1 o = 99 ∧ M.2.1 o = 1 ∧ Nx.1 o = 0 ∧ Nm.1 o = 0
set_option maxRecDepth 100000 in
set_option maxHeartbeats 4000000 in
theorem law_end {G : zG} {X : zX} (O : zOK G X cL_law 7 RL (some .boolean) "law") (hR : X.R = room_1) (hq : X.q = fun _ v => v = some (.int 1)) {b : Nat} {xs : Nat → Int32} {L : Nat} (S : zS X b L xs) (hL : L ≤ 6) {M : zM} {n k : Nat} : zW G X 7 M n k 1462 [(4, .int 0), (0, .ref b)] [] := by
  refine z_iinc (v := 6) (lv' := [(4, .int 6), (0, .ref b)]) O dL_law_1462 (q := 0) rfl rfl (by decide) rfl ?_
  refine z_goto O 23 dL_law_1465 (by decide) ?_
  refine z_iload O dL_law_23 0 rfl ?_
  refine z_aload_n O dL_law_25 rfl 1 rfl ?_
  refine z_slen O S dL_law_26 ?_
  refine z_bipush (v := 6) O dL_law_27 rfl ?_
  refine z_isub O dL_law_29 ?_
  refine z_icmp_gt O 1468 dL_law_30 (by decide) (fun c => ?_) (fun c => absurd (zL6 hL).1 c)
  refine z_iconst (v := 1) O dL_law_1468 rfl ?_
  exact z_zret O dL_law_1469 (Or.inr rfl) (by rw [hq])
set_option maxRecDepth 100000 in
set_option maxHeartbeats 4000000 in
theorem law_0 {G : zG} {X : zX} (O : zOK G X cL_law 7 RL (some .boolean) "law") (hR : X.R = room_1) (hq : X.q = fun _ v => v = some (.int 1)) {b : Nat} {xs : Nat → Int32} {M Nx Nm : zM} {x m o n k : Nat} (S : zS X b 6 xs) (F : zFr M Nx Nm x m o) (hn : n + 100 ≤ X.R.cells) (hk : k + 1000 ≤ X.R.slots) : zW G X 7 M n k 176 [(4, .int 0), (3, .ref o), (2, .ref m), (1, .ref x), (0, .ref b)] [] := by
  obtain ⟨sx, sm⟩ : zSub Nx M ∧ zSub Nm M := ⟨F.2.2.1, F.2.2.2.1⟩
  have kx : M.1 x = 11 := by rw [(zSub_at sx (by rw [F.1.k]; decide)).1]; exact F.1.k
  refine z_aload_n O dL_law_176 rfl 3 rfl ?_
  refine z_aload_n O dL_law_177 rfl 4 rfl ?_
  refine z_iload O dL_law_178 0 rfl ?_
  refine z_iconst (v := 1) O dL_law_180 rfl ?_
  refine z_iadd O dL_law_181 ?_
  refine z_sldj 1 O S dL_law_182 (by unfold vp_in; decide) (by decide) ?_
  refine z_callVk (mc := 20) (ms := 270) (As := [.int (xs 1)]) (st := []) O zc_L_24 (z_part sx (s_X11_line F.1)) kx rfl (zRm_of hR (by decide) (by decide)) (Nat.le_of_ble_eq_true rfl) dL_law_183 rfl rfl (by omega) (by omega) rfl (fun M1 v1 h1 => ?_)
  obtain ⟨N1, rfl, -, hN1⟩ := h1
  replace sm := (hN1 Nm sm F.2.2.2.2.1).1
  have km : M1.1 m = 15 := by rw [(zSub_at sm (by rw [F.2.1.k]; decide)).1]; exact F.2.1.k
  refine z_aload_n O dL_law_186 rfl 2 rfl ?_
  refine z_aload_n O dL_law_187 rfl 4 rfl ?_
  refine z_iload O dL_law_188 0 rfl ?_
  refine z_iconst (v := 1) O dL_law_190 rfl ?_
  refine z_iadd O dL_law_191 ?_
  refine z_sldj 1 O S dL_law_192 (by unfold vp_in; decide) (by decide) ?_
  refine z_callV0 (As := [.int (xs 1)]) (st := [.int (zLine ((xs 1)))]) O zc_L_27 (z_part sm (s_X15_line F.2.1)) km rfl (zRm_of hR (by decide) (by decide)) (Nat.le_of_ble_eq_true rfl) dL_law_193 rfl rfl rfl (fun M2 v2 h2 => ?_)
  obtain ⟨N2, rfl, -, hN2⟩ := h2
  refine z_icmp_eq O 1462 dL_law_196 (by decide) (fun _ => ?_) (fun c => absurd rfl c)
  exact z_to [0, 4] rfl (law_end O hR hq S (Nat.le_refl _))
set_option maxRecDepth 100000 in
set_option maxHeartbeats 4000000 in
theorem law_1 {G : zG} {X : zX} (O : zOK G X cL_law 7 RL (some .boolean) "law") (hR : X.R = room_1) (hq : X.q = fun _ v => v = some (.int 1)) {b : Nat} {xs : Nat → Int32} {M Nx Nm : zM} {x m o n k : Nat} (S : zS X b 6 xs) (F : zFr M Nx Nm x m o) (hn : n + 100 ≤ X.R.cells) (hk : k + 1000 ≤ X.R.slots) : zW G X 7 M n k 201 [(4, .int 0), (3, .ref o), (2, .ref m), (1, .ref x), (0, .ref b)] [] := by
  obtain ⟨sx, sm⟩ : zSub Nx M ∧ zSub Nm M := ⟨F.2.2.1, F.2.2.2.1⟩
  have kx : M.1 x = 11 := by rw [(zSub_at sx (by rw [F.1.k]; decide)).1]; exact F.1.k
  refine z_aload_n O dL_law_201 rfl 3 rfl ?_
  refine z_aload_n O dL_law_202 rfl 4 rfl ?_
  refine z_iload O dL_law_203 0 rfl ?_
  refine z_iconst (v := 1) O dL_law_205 rfl ?_
  refine z_iadd O dL_law_206 ?_
  refine z_sldj 1 O S dL_law_207 (by unfold vp_in; decide) (by decide) ?_
  refine z_aload_n O dL_law_208 rfl 4 rfl ?_
  refine z_iload O dL_law_209 0 rfl ?_
  refine z_iconst (v := 2) O dL_law_211 rfl ?_
  refine z_iadd O dL_law_212 ?_
  refine z_sldj 2 O S dL_law_213 (by unfold vp_in; decide) (by decide) ?_
  refine z_callV0 (As := [.int (xs 1), .int (xs 2)]) (st := []) O zc_L_28 (z_part sx (s_X11_device F.1)) kx rfl (zRm_of hR (by decide) (by decide)) (Nat.le_of_ble_eq_true rfl) dL_law_214 rfl rfl rfl (fun M1 v1 h1 => ?_)
  obtain ⟨N1, rfl, -, hN1⟩ := h1
  replace sm := (hN1 Nm sm F.2.2.2.2.1).1
  have km : M1.1 m = 15 := by rw [(zSub_at sm (by rw [F.2.1.k]; decide)).1]; exact F.2.1.k
  refine z_aload_n O dL_law_217 rfl 2 rfl ?_
  refine z_aload_n O dL_law_218 rfl 4 rfl ?_
  refine z_iload O dL_law_219 0 rfl ?_
  refine z_iconst (v := 1) O dL_law_221 rfl ?_
  refine z_iadd O dL_law_222 ?_
  refine z_sldj 1 O S dL_law_223 (by unfold vp_in; decide) (by decide) ?_
  refine z_aload_n O dL_law_224 rfl 4 rfl ?_
  refine z_iload O dL_law_225 0 rfl ?_
  refine z_iconst (v := 2) O dL_law_227 rfl ?_
  refine z_iadd O dL_law_228 ?_
  refine z_sldj 2 O S dL_law_229 (by unfold vp_in; decide) (by decide) ?_
  refine z_callV0 (As := [.int (xs 1), .int (xs 2)]) (st := [.int (-1)]) O zc_L_32 (z_part sm (s_X15_device F.2.1)) km rfl (zRm_of hR (by decide) (by decide)) (Nat.le_of_ble_eq_true rfl) dL_law_230 rfl rfl rfl (fun M2 v2 h2 => ?_)
  obtain ⟨N2, rfl, -, hN2⟩ := h2
  refine z_icmp_eq O 1462 dL_law_233 (by decide) (fun _ => ?_) (fun c => absurd rfl c)
  exact z_to [0, 4] rfl (law_end O hR hq S (Nat.le_refl _))
set_option maxRecDepth 100000 in
set_option maxHeartbeats 4000000 in
theorem law_2 {G : zG} {X : zX} (O : zOK G X cL_law 7 RL (some .boolean) "law") (hR : X.R = room_1) (hq : X.q = fun _ v => v = some (.int 1)) {b : Nat} {xs : Nat → Int32} {M Nx Nm : zM} {x m o n k : Nat} (S : zS X b 6 xs) (F : zFr M Nx Nm x m o) (hn : n + 100 ≤ X.R.cells) (hk : k + 1000 ≤ X.R.slots) : zW G X 7 M n k 238 [(4, .int 0), (3, .ref o), (2, .ref m), (1, .ref x), (0, .ref b)] [] := by
  obtain ⟨sx, sm⟩ : zSub Nx M ∧ zSub Nm M := ⟨F.2.2.1, F.2.2.2.1⟩
  have kx : M.1 x = 11 := by rw [(zSub_at sx (by rw [F.1.k]; decide)).1]; exact F.1.k
  refine z_aload_n O dL_law_238 rfl 3 rfl ?_
  refine z_aload_n O dL_law_239 rfl 4 rfl ?_
  refine z_iload O dL_law_240 0 rfl ?_
  refine z_iconst (v := 1) O dL_law_242 rfl ?_
  refine z_iadd O dL_law_243 ?_
  refine z_sldj 1 O S dL_law_244 (by unfold vp_in; decide) (by decide) ?_
  refine z_aload_n O dL_law_245 rfl 4 rfl ?_
  refine z_iload O dL_law_246 0 rfl ?_
  refine z_iconst (v := 2) O dL_law_248 rfl ?_
  refine z_iadd O dL_law_249 ?_
  refine z_sldj 2 O S dL_law_250 (by unfold vp_in; decide) (by decide) ?_
  refine z_callV0 (As := [.int (xs 1), .int (xs 2)]) (st := []) O zc_L_33 (z_part sx (s_X11_coupler F.1)) kx rfl (zRm_of hR (by decide) (by decide)) (Nat.le_of_ble_eq_true rfl) dL_law_251 rfl rfl rfl (fun M1 v1 h1 => ?_)
  obtain ⟨N1, rfl, -, hN1⟩ := h1
  replace sm := (hN1 Nm sm F.2.2.2.2.1).1
  have km : M1.1 m = 15 := by rw [(zSub_at sm (by rw [F.2.1.k]; decide)).1]; exact F.2.1.k
  refine z_aload_n O dL_law_254 rfl 2 rfl ?_
  refine z_aload_n O dL_law_255 rfl 4 rfl ?_
  refine z_iload O dL_law_256 0 rfl ?_
  refine z_iconst (v := 1) O dL_law_258 rfl ?_
  refine z_iadd O dL_law_259 ?_
  refine z_sldj 1 O S dL_law_260 (by unfold vp_in; decide) (by decide) ?_
  refine z_aload_n O dL_law_261 rfl 4 rfl ?_
  refine z_iload O dL_law_262 0 rfl ?_
  refine z_iconst (v := 2) O dL_law_264 rfl ?_
  refine z_iadd O dL_law_265 ?_
  refine z_sldj 2 O S dL_law_266 (by unfold vp_in; decide) (by decide) ?_
  refine z_callV0 (As := [.int (xs 1), .int (xs 2)]) (st := [.int (-1)]) O zc_L_36 (z_part sm (s_X15_coupler F.2.1)) km rfl (zRm_of hR (by decide) (by decide)) (Nat.le_of_ble_eq_true rfl) dL_law_267 rfl rfl rfl (fun M2 v2 h2 => ?_)
  obtain ⟨N2, rfl, -, hN2⟩ := h2
  refine z_icmp_eq O 1462 dL_law_270 (by decide) (fun _ => ?_) (fun c => absurd rfl c)
  exact z_to [0, 4] rfl (law_end O hR hq S (Nat.le_refl _))
set_option maxRecDepth 100000 in
set_option maxHeartbeats 4000000 in
theorem law_3 {G : zG} {X : zX} (O : zOK G X cL_law 7 RL (some .boolean) "law") (hR : X.R = room_1) (hq : X.q = fun _ v => v = some (.int 1)) {b : Nat} {xs : Nat → Int32} {M Nx Nm : zM} {x m o n k : Nat} (S : zS X b 6 xs) (F : zFr M Nx Nm x m o) (hn : n + 100 ≤ X.R.cells) (hk : k + 1000 ≤ X.R.slots) : zW G X 7 M n k 275 [(4, .int 0), (3, .ref o), (2, .ref m), (1, .ref x), (0, .ref b)] [] := by
  obtain ⟨sx, sm⟩ : zSub Nx M ∧ zSub Nm M := ⟨F.2.2.1, F.2.2.2.1⟩
  have kx : M.1 x = 11 := by rw [(zSub_at sx (by rw [F.1.k]; decide)).1]; exact F.1.k
  refine z_aload_n O dL_law_275 rfl 3 rfl ?_
  refine z_aload_n O dL_law_276 rfl 4 rfl ?_
  refine z_iload O dL_law_277 0 rfl ?_
  refine z_iconst (v := 1) O dL_law_279 rfl ?_
  refine z_iadd O dL_law_280 ?_
  refine z_sldj 1 O S dL_law_281 (by unfold vp_in; decide) (by decide) ?_
  refine z_aload_n O dL_law_282 rfl 4 rfl ?_
  refine z_iload O dL_law_283 0 rfl ?_
  refine z_iconst (v := 2) O dL_law_285 rfl ?_
  refine z_iadd O dL_law_286 ?_
  refine z_sldj 2 O S dL_law_287 (by unfold vp_in; decide) (by decide) ?_
  refine z_callV0 (As := [.int (xs 1), .int (xs 2)]) (st := []) O zc_L_37 (z_part sx (s_X11_mode F.1)) kx rfl (zRm_of hR (by decide) (by decide)) (Nat.le_of_ble_eq_true rfl) dL_law_288 rfl rfl rfl (fun M1 v1 h1 => ?_)
  obtain ⟨N1, rfl, -, hN1⟩ := h1
  replace sm := (hN1 Nm sm F.2.2.2.2.1).1
  have km : M1.1 m = 15 := by rw [(zSub_at sm (by rw [F.2.1.k]; decide)).1]; exact F.2.1.k
  refine z_aload_n O dL_law_291 rfl 2 rfl ?_
  refine z_aload_n O dL_law_292 rfl 4 rfl ?_
  refine z_iload O dL_law_293 0 rfl ?_
  refine z_iconst (v := 1) O dL_law_295 rfl ?_
  refine z_iadd O dL_law_296 ?_
  refine z_sldj 1 O S dL_law_297 (by unfold vp_in; decide) (by decide) ?_
  refine z_aload_n O dL_law_298 rfl 4 rfl ?_
  refine z_iload O dL_law_299 0 rfl ?_
  refine z_iconst (v := 2) O dL_law_301 rfl ?_
  refine z_iadd O dL_law_302 ?_
  refine z_sldj 2 O S dL_law_303 (by unfold vp_in; decide) (by decide) ?_
  refine z_callV0 (As := [.int (xs 1), .int (xs 2)]) (st := [.int 0]) O zc_L_41 (z_part sm (s_X15_mode F.2.1)) km rfl (zRm_of hR (by decide) (by decide)) (Nat.le_of_ble_eq_true rfl) dL_law_304 rfl rfl rfl (fun M2 v2 h2 => ?_)
  obtain ⟨N2, rfl, -, hN2⟩ := h2
  refine z_icmp_eq O 1462 dL_law_307 (by decide) (fun _ => ?_) (fun c => absurd rfl c)
  exact z_to [0, 4] rfl (law_end O hR hq S (Nat.le_refl _))
set_option maxRecDepth 100000 in
set_option maxHeartbeats 4000000 in
theorem law_4 {G : zG} {X : zX} (O : zOK G X cL_law 7 RL (some .boolean) "law") (hR : X.R = room_1) (hq : X.q = fun _ v => v = some (.int 1)) {b : Nat} {xs : Nat → Int32} {M Nx Nm : zM} {x m o n k : Nat} (S : zS X b 6 xs) (F : zFr M Nx Nm x m o) (hn : n + 100 ≤ X.R.cells) (hk : k + 1000 ≤ X.R.slots) : zW G X 7 M n k 312 [(4, .int 0), (3, .ref o), (2, .ref m), (1, .ref x), (0, .ref b)] [] := by
  obtain ⟨sx, sm⟩ : zSub Nx M ∧ zSub Nm M := ⟨F.2.2.1, F.2.2.2.1⟩
  have kx : M.1 x = 11 := by rw [(zSub_at sx (by rw [F.1.k]; decide)).1]; exact F.1.k
  refine z_aload_n O dL_law_312 rfl 3 rfl ?_
  refine z_aload_n O dL_law_313 rfl 4 rfl ?_
  refine z_iload O dL_law_314 0 rfl ?_
  refine z_iconst (v := 1) O dL_law_316 rfl ?_
  refine z_iadd O dL_law_317 ?_
  refine z_sldj 1 O S dL_law_318 (by unfold vp_in; decide) (by decide) ?_
  refine z_aload_n O dL_law_319 rfl 4 rfl ?_
  refine z_iload O dL_law_320 0 rfl ?_
  refine z_iconst (v := 2) O dL_law_322 rfl ?_
  refine z_iadd O dL_law_323 ?_
  refine z_sldj 2 O S dL_law_324 (by unfold vp_in; decide) (by decide) ?_
  refine z_aload_n O dL_law_325 rfl 4 rfl ?_
  refine z_iload O dL_law_326 0 rfl ?_
  refine z_iconst (v := 3) O dL_law_328 rfl ?_
  refine z_iadd O dL_law_329 ?_
  refine z_sldj 3 O S dL_law_330 (by unfold vp_in; decide) (by decide) ?_
  refine z_if_eq O 338 dL_law_331 (by decide) (fun _ => ?_) (fun _ => ?_)
  · refine z_iconst (v := 0) O dL_law_338 rfl ?_
    refine z_callV0 (As := [.int (xs 1), .int (xs 2), .int 0]) (st := []) O zc_L_42 (z_part sx (s_X11_filter F.1)) kx rfl (zRm_of hR (by decide) (by decide)) (Nat.le_of_ble_eq_true rfl) dL_law_339 rfl rfl rfl (fun M1 v1 h1 => ?_)
    obtain ⟨N1, rfl, -, hN1⟩ := h1
    replace sm := (hN1 Nm sm F.2.2.2.2.1).1
    have km : M1.1 m = 15 := by rw [(zSub_at sm (by rw [F.2.1.k]; decide)).1]; exact F.2.1.k
    refine z_aload_n O dL_law_342 rfl 2 rfl ?_
    refine z_aload_n O dL_law_343 rfl 4 rfl ?_
    refine z_iload O dL_law_344 0 rfl ?_
    refine z_iconst (v := 1) O dL_law_346 rfl ?_
    refine z_iadd O dL_law_347 ?_
    refine z_sldj 1 O S dL_law_348 (by unfold vp_in; decide) (by decide) ?_
    refine z_aload_n O dL_law_349 rfl 4 rfl ?_
    refine z_iload O dL_law_350 0 rfl ?_
    refine z_iconst (v := 2) O dL_law_352 rfl ?_
    refine z_iadd O dL_law_353 ?_
    refine z_sldj 2 O S dL_law_354 (by unfold vp_in; decide) (by decide) ?_
    refine z_aload_n O dL_law_355 rfl 4 rfl ?_
    refine z_iload O dL_law_356 0 rfl ?_
    refine z_iconst (v := 3) O dL_law_358 rfl ?_
    refine z_iadd O dL_law_359 ?_
    refine z_sldj 3 O S dL_law_360 (by unfold vp_in; decide) (by decide) ?_
    refine z_if_eq O 368 dL_law_361 (by decide) (fun _ => ?_) (fun _ => ?_)
    · refine z_iconst (v := 0) O dL_law_368 rfl ?_
      refine z_callV0 (As := [.int (xs 1), .int (xs 2), .int 0]) (st := [.int 0]) O zc_L_46 (z_part sm (s_X15_filter F.2.1)) km rfl (zRm_of hR (by decide) (by decide)) (Nat.le_of_ble_eq_true rfl) dL_law_369 rfl rfl rfl (fun M2 v2 h2 => ?_)
      obtain ⟨N2, rfl, -, hN2⟩ := h2
      refine z_icmp_eq O 1462 dL_law_372 (by decide) (fun _ => ?_) (fun c => absurd rfl c)
      exact z_to [0, 4] rfl (law_end O hR hq S (Nat.le_refl _))
    · refine z_iconst (v := 1) O dL_law_364 rfl ?_
      refine z_goto O 369 dL_law_365 (by decide) ?_
      refine z_callV0 (As := [.int (xs 1), .int (xs 2), .int 1]) (st := [.int 0]) O zc_L_46 (z_part sm (s_X15_filter F.2.1)) km rfl (zRm_of hR (by decide) (by decide)) (Nat.le_of_ble_eq_true rfl) dL_law_369 rfl rfl rfl (fun M2 v2 h2 => ?_)
      obtain ⟨N2, rfl, -, hN2⟩ := h2
      refine z_icmp_eq O 1462 dL_law_372 (by decide) (fun _ => ?_) (fun c => absurd rfl c)
      exact z_to [0, 4] rfl (law_end O hR hq S (Nat.le_refl _))
  · refine z_iconst (v := 1) O dL_law_334 rfl ?_
    refine z_goto O 339 dL_law_335 (by decide) ?_
    refine z_callV0 (As := [.int (xs 1), .int (xs 2), .int 1]) (st := []) O zc_L_42 (z_part sx (s_X11_filter F.1)) kx rfl (zRm_of hR (by decide) (by decide)) (Nat.le_of_ble_eq_true rfl) dL_law_339 rfl rfl rfl (fun M1 v1 h1 => ?_)
    obtain ⟨N1, rfl, -, hN1⟩ := h1
    replace sm := (hN1 Nm sm F.2.2.2.2.1).1
    have km : M1.1 m = 15 := by rw [(zSub_at sm (by rw [F.2.1.k]; decide)).1]; exact F.2.1.k
    refine z_aload_n O dL_law_342 rfl 2 rfl ?_
    refine z_aload_n O dL_law_343 rfl 4 rfl ?_
    refine z_iload O dL_law_344 0 rfl ?_
    refine z_iconst (v := 1) O dL_law_346 rfl ?_
    refine z_iadd O dL_law_347 ?_
    refine z_sldj 1 O S dL_law_348 (by unfold vp_in; decide) (by decide) ?_
    refine z_aload_n O dL_law_349 rfl 4 rfl ?_
    refine z_iload O dL_law_350 0 rfl ?_
    refine z_iconst (v := 2) O dL_law_352 rfl ?_
    refine z_iadd O dL_law_353 ?_
    refine z_sldj 2 O S dL_law_354 (by unfold vp_in; decide) (by decide) ?_
    refine z_aload_n O dL_law_355 rfl 4 rfl ?_
    refine z_iload O dL_law_356 0 rfl ?_
    refine z_iconst (v := 3) O dL_law_358 rfl ?_
    refine z_iadd O dL_law_359 ?_
    refine z_sldj 3 O S dL_law_360 (by unfold vp_in; decide) (by decide) ?_
    refine z_if_eq O 368 dL_law_361 (by decide) (fun _ => ?_) (fun _ => ?_)
    · refine z_iconst (v := 0) O dL_law_368 rfl ?_
      refine z_callV0 (As := [.int (xs 1), .int (xs 2), .int 0]) (st := [.int 0]) O zc_L_46 (z_part sm (s_X15_filter F.2.1)) km rfl (zRm_of hR (by decide) (by decide)) (Nat.le_of_ble_eq_true rfl) dL_law_369 rfl rfl rfl (fun M2 v2 h2 => ?_)
      obtain ⟨N2, rfl, -, hN2⟩ := h2
      refine z_icmp_eq O 1462 dL_law_372 (by decide) (fun _ => ?_) (fun c => absurd rfl c)
      exact z_to [0, 4] rfl (law_end O hR hq S (Nat.le_refl _))
    · refine z_iconst (v := 1) O dL_law_364 rfl ?_
      refine z_goto O 369 dL_law_365 (by decide) ?_
      refine z_callV0 (As := [.int (xs 1), .int (xs 2), .int 1]) (st := [.int 0]) O zc_L_46 (z_part sm (s_X15_filter F.2.1)) km rfl (zRm_of hR (by decide) (by decide)) (Nat.le_of_ble_eq_true rfl) dL_law_369 rfl rfl rfl (fun M2 v2 h2 => ?_)
      obtain ⟨N2, rfl, -, hN2⟩ := h2
      refine z_icmp_eq O 1462 dL_law_372 (by decide) (fun _ => ?_) (fun c => absurd rfl c)
      exact z_to [0, 4] rfl (law_end O hR hq S (Nat.le_refl _))
set_option maxRecDepth 100000 in
set_option maxHeartbeats 4000000 in
theorem law_5 {G : zG} {X : zX} (O : zOK G X cL_law 7 RL (some .boolean) "law") (hR : X.R = room_1) (hq : X.q = fun _ v => v = some (.int 1)) {b : Nat} {xs : Nat → Int32} {M Nx Nm : zM} {x m o n k : Nat} (S : zS X b 6 xs) (F : zFr M Nx Nm x m o) (hn : n + 100 ≤ X.R.cells) (hk : k + 1000 ≤ X.R.slots) : zW G X 7 M n k 377 [(4, .int 0), (3, .ref o), (2, .ref m), (1, .ref x), (0, .ref b)] [] := by
  obtain ⟨sx, sm⟩ : zSub Nx M ∧ zSub Nm M := ⟨F.2.2.1, F.2.2.2.1⟩
  have kx : M.1 x = 11 := by rw [(zSub_at sx (by rw [F.1.k]; decide)).1]; exact F.1.k
  refine z_aload_n O dL_law_377 rfl 3 rfl ?_
  refine z_aload_n O dL_law_378 rfl 4 rfl ?_
  refine z_iload O dL_law_379 0 rfl ?_
  refine z_iconst (v := 1) O dL_law_381 rfl ?_
  refine z_iadd O dL_law_382 ?_
  refine z_sldj 1 O S dL_law_383 (by unfold vp_in; decide) (by decide) ?_
  refine z_aload_n O dL_law_384 rfl 4 rfl ?_
  refine z_iload O dL_law_385 0 rfl ?_
  refine z_iconst (v := 2) O dL_law_387 rfl ?_
  refine z_iadd O dL_law_388 ?_
  refine z_sldj 2 O S dL_law_389 (by unfold vp_in; decide) (by decide) ?_
  refine z_aload_n O dL_law_390 rfl 4 rfl ?_
  refine z_iload O dL_law_391 0 rfl ?_
  refine z_iconst (v := 3) O dL_law_393 rfl ?_
  refine z_iadd O dL_law_394 ?_
  refine z_sldj 3 O S dL_law_395 (by unfold vp_in; decide) (by decide) ?_
  refine z_aload_n O dL_law_396 rfl 4 rfl ?_
  refine z_iload O dL_law_397 0 rfl ?_
  refine z_iconst (v := 4) O dL_law_399 rfl ?_
  refine z_iadd O dL_law_400 ?_
  refine z_sldj 4 O S dL_law_401 (by unfold vp_in; decide) (by decide) ?_
  refine z_callV0 (As := [.int (xs 1), .int (xs 2), .int (xs 3), .int (xs 4)]) (st := []) O zc_L_47 (z_part sx (s_X11_object F.1)) kx rfl (zRm_of hR (by decide) (by decide)) (Nat.le_of_ble_eq_true rfl) dL_law_402 rfl rfl rfl (fun M1 v1 h1 => ?_)
  obtain ⟨N1, rfl, -, hN1⟩ := h1
  replace sm := (hN1 Nm sm F.2.2.2.2.1).1
  have km : M1.1 m = 15 := by rw [(zSub_at sm (by rw [F.2.1.k]; decide)).1]; exact F.2.1.k
  refine z_aload_n O dL_law_405 rfl 2 rfl ?_
  refine z_aload_n O dL_law_406 rfl 4 rfl ?_
  refine z_iload O dL_law_407 0 rfl ?_
  refine z_iconst (v := 1) O dL_law_409 rfl ?_
  refine z_iadd O dL_law_410 ?_
  refine z_sldj 1 O S dL_law_411 (by unfold vp_in; decide) (by decide) ?_
  refine z_aload_n O dL_law_412 rfl 4 rfl ?_
  refine z_iload O dL_law_413 0 rfl ?_
  refine z_iconst (v := 2) O dL_law_415 rfl ?_
  refine z_iadd O dL_law_416 ?_
  refine z_sldj 2 O S dL_law_417 (by unfold vp_in; decide) (by decide) ?_
  refine z_aload_n O dL_law_418 rfl 4 rfl ?_
  refine z_iload O dL_law_419 0 rfl ?_
  refine z_iconst (v := 3) O dL_law_421 rfl ?_
  refine z_iadd O dL_law_422 ?_
  refine z_sldj 3 O S dL_law_423 (by unfold vp_in; decide) (by decide) ?_
  refine z_aload_n O dL_law_424 rfl 4 rfl ?_
  refine z_iload O dL_law_425 0 rfl ?_
  refine z_iconst (v := 4) O dL_law_427 rfl ?_
  refine z_iadd O dL_law_428 ?_
  refine z_sldj 4 O S dL_law_429 (by unfold vp_in; decide) (by decide) ?_
  refine z_callV0 (As := [.int (xs 1), .int (xs 2), .int (xs 3), .int (xs 4)]) (st := [.int (-1)]) O zc_L_51 (z_part sm (s_X15_object F.2.1)) km rfl (zRm_of hR (by decide) (by decide)) (Nat.le_of_ble_eq_true rfl) dL_law_430 rfl rfl rfl (fun M2 v2 h2 => ?_)
  obtain ⟨N2, rfl, -, hN2⟩ := h2
  refine z_icmp_eq O 1462 dL_law_433 (by decide) (fun _ => ?_) (fun c => absurd rfl c)
  exact z_to [0, 4] rfl (law_end O hR hq S (Nat.le_refl _))
set_option maxRecDepth 100000 in
set_option maxHeartbeats 4000000 in
theorem law_6 {G : zG} {X : zX} (O : zOK G X cL_law 7 RL (some .boolean) "law") (hR : X.R = room_1) (hq : X.q = fun _ v => v = some (.int 1)) {b : Nat} {xs : Nat → Int32} {M Nx Nm : zM} {x m o n k : Nat} (S : zS X b 6 xs) (F : zFr M Nx Nm x m o) (hn : n + 100 ≤ X.R.cells) (hk : k + 1000 ≤ X.R.slots) : zW G X 7 M n k 438 [(4, .int 0), (3, .ref o), (2, .ref m), (1, .ref x), (0, .ref b)] [] := by
  obtain ⟨sx, sm⟩ : zSub Nx M ∧ zSub Nm M := ⟨F.2.2.1, F.2.2.2.1⟩
  have kx : M.1 x = 11 := by rw [(zSub_at sx (by rw [F.1.k]; decide)).1]; exact F.1.k
  refine z_aload_n O dL_law_438 rfl 3 rfl ?_
  refine z_aload_n O dL_law_439 rfl 4 rfl ?_
  refine z_iload O dL_law_440 0 rfl ?_
  refine z_iconst (v := 1) O dL_law_442 rfl ?_
  refine z_iadd O dL_law_443 ?_
  refine z_sldj 1 O S dL_law_444 (by unfold vp_in; decide) (by decide) ?_
  refine z_aload_n O dL_law_445 rfl 4 rfl ?_
  refine z_iload O dL_law_446 0 rfl ?_
  refine z_iconst (v := 2) O dL_law_448 rfl ?_
  refine z_iadd O dL_law_449 ?_
  refine z_sldj 2 O S dL_law_450 (by unfold vp_in; decide) (by decide) ?_
  refine z_aload_n O dL_law_451 rfl 4 rfl ?_
  refine z_iload O dL_law_452 0 rfl ?_
  refine z_iconst (v := 3) O dL_law_454 rfl ?_
  refine z_iadd O dL_law_455 ?_
  refine z_sldj 3 O S dL_law_456 (by unfold vp_in; decide) (by decide) ?_
  refine z_callV0 (As := [.int (xs 1), .int (xs 2), .int (xs 3)]) (st := []) O zc_L_52 (z_part sx (s_X11_flags F.1)) kx rfl (zRm_of hR (by decide) (by decide)) (Nat.le_of_ble_eq_true rfl) dL_law_457 rfl rfl rfl (fun M1 v1 h1 => ?_)
  obtain ⟨N1, rfl, -, hN1⟩ := h1
  replace sm := (hN1 Nm sm F.2.2.2.2.1).1
  have km : M1.1 m = 15 := by rw [(zSub_at sm (by rw [F.2.1.k]; decide)).1]; exact F.2.1.k
  refine z_aload_n O dL_law_460 rfl 2 rfl ?_
  refine z_aload_n O dL_law_461 rfl 4 rfl ?_
  refine z_iload O dL_law_462 0 rfl ?_
  refine z_iconst (v := 1) O dL_law_464 rfl ?_
  refine z_iadd O dL_law_465 ?_
  refine z_sldj 1 O S dL_law_466 (by unfold vp_in; decide) (by decide) ?_
  refine z_aload_n O dL_law_467 rfl 4 rfl ?_
  refine z_iload O dL_law_468 0 rfl ?_
  refine z_iconst (v := 2) O dL_law_470 rfl ?_
  refine z_iadd O dL_law_471 ?_
  refine z_sldj 2 O S dL_law_472 (by unfold vp_in; decide) (by decide) ?_
  refine z_aload_n O dL_law_473 rfl 4 rfl ?_
  refine z_iload O dL_law_474 0 rfl ?_
  refine z_iconst (v := 3) O dL_law_476 rfl ?_
  refine z_iadd O dL_law_477 ?_
  refine z_sldj 3 O S dL_law_478 (by unfold vp_in; decide) (by decide) ?_
  refine z_callV0 (As := [.int (xs 1), .int (xs 2), .int (xs 3)]) (st := [.int 0]) O zc_L_56 (z_part sm (s_X15_flags F.2.1)) km rfl (zRm_of hR (by decide) (by decide)) (Nat.le_of_ble_eq_true rfl) dL_law_479 rfl rfl rfl (fun M2 v2 h2 => ?_)
  obtain ⟨N2, rfl, -, hN2⟩ := h2
  refine z_icmp_eq O 1462 dL_law_482 (by decide) (fun _ => ?_) (fun c => absurd rfl c)
  exact z_to [0, 4] rfl (law_end O hR hq S (Nat.le_refl _))
set_option maxRecDepth 100000 in
set_option maxHeartbeats 4000000 in
theorem law_7 {G : zG} {X : zX} (O : zOK G X cL_law 7 RL (some .boolean) "law") (hR : X.R = room_1) (hq : X.q = fun _ v => v = some (.int 1)) {b : Nat} {xs : Nat → Int32} {M Nx Nm : zM} {x m o n k : Nat} (S : zS X b 6 xs) (F : zFr M Nx Nm x m o) (hn : n + 100 ≤ X.R.cells) (hk : k + 1000 ≤ X.R.slots) : zW G X 7 M n k 487 [(4, .int 0), (3, .ref o), (2, .ref m), (1, .ref x), (0, .ref b)] [] := by
  obtain ⟨sx, sm⟩ : zSub Nx M ∧ zSub Nm M := ⟨F.2.2.1, F.2.2.2.1⟩
  have kx : M.1 x = 11 := by rw [(zSub_at sx (by rw [F.1.k]; decide)).1]; exact F.1.k
  refine z_aload_n O dL_law_487 rfl 3 rfl ?_
  refine z_aload_n O dL_law_488 rfl 4 rfl ?_
  refine z_iload O dL_law_489 0 rfl ?_
  refine z_iconst (v := 1) O dL_law_491 rfl ?_
  refine z_iadd O dL_law_492 ?_
  refine z_sldj 1 O S dL_law_493 (by unfold vp_in; decide) (by decide) ?_
  refine z_aload_n O dL_law_494 rfl 4 rfl ?_
  refine z_iload O dL_law_495 0 rfl ?_
  refine z_iconst (v := 2) O dL_law_497 rfl ?_
  refine z_iadd O dL_law_498 ?_
  refine z_sldj 2 O S dL_law_499 (by unfold vp_in; decide) (by decide) ?_
  refine z_aload_n O dL_law_500 rfl 4 rfl ?_
  refine z_iload O dL_law_501 0 rfl ?_
  refine z_iconst (v := 3) O dL_law_503 rfl ?_
  refine z_iadd O dL_law_504 ?_
  refine z_sldj 3 O S dL_law_505 (by unfold vp_in; decide) (by decide) ?_
  refine z_callV0 (As := [.int (xs 1), .int (xs 2), .int (xs 3)]) (st := []) O zc_L_57 (z_part sx (s_X11_link F.1)) kx rfl (zRm_of hR (by decide) (by decide)) (Nat.le_of_ble_eq_true rfl) dL_law_506 rfl rfl rfl (fun M1 v1 h1 => ?_)
  obtain ⟨N1, rfl, -, hN1⟩ := h1
  replace sm := (hN1 Nm sm F.2.2.2.2.1).1
  have km : M1.1 m = 15 := by rw [(zSub_at sm (by rw [F.2.1.k]; decide)).1]; exact F.2.1.k
  refine z_aload_n O dL_law_509 rfl 2 rfl ?_
  refine z_aload_n O dL_law_510 rfl 4 rfl ?_
  refine z_iload O dL_law_511 0 rfl ?_
  refine z_iconst (v := 1) O dL_law_513 rfl ?_
  refine z_iadd O dL_law_514 ?_
  refine z_sldj 1 O S dL_law_515 (by unfold vp_in; decide) (by decide) ?_
  refine z_aload_n O dL_law_516 rfl 4 rfl ?_
  refine z_iload O dL_law_517 0 rfl ?_
  refine z_iconst (v := 2) O dL_law_519 rfl ?_
  refine z_iadd O dL_law_520 ?_
  refine z_sldj 2 O S dL_law_521 (by unfold vp_in; decide) (by decide) ?_
  refine z_aload_n O dL_law_522 rfl 4 rfl ?_
  refine z_iload O dL_law_523 0 rfl ?_
  refine z_iconst (v := 3) O dL_law_525 rfl ?_
  refine z_iadd O dL_law_526 ?_
  refine z_sldj 3 O S dL_law_527 (by unfold vp_in; decide) (by decide) ?_
  refine z_callV0 (As := [.int (xs 1), .int (xs 2), .int (xs 3)]) (st := [.int 0]) O zc_L_60 (z_part sm (s_X15_link F.2.1)) km rfl (zRm_of hR (by decide) (by decide)) (Nat.le_of_ble_eq_true rfl) dL_law_528 rfl rfl rfl (fun M2 v2 h2 => ?_)
  obtain ⟨N2, rfl, -, hN2⟩ := h2
  refine z_icmp_eq O 1462 dL_law_531 (by decide) (fun _ => ?_) (fun c => absurd rfl c)
  exact z_to [0, 4] rfl (law_end O hR hq S (Nat.le_refl _))
set_option maxRecDepth 100000 in
set_option maxHeartbeats 4000000 in
theorem law_8 {G : zG} {X : zX} (O : zOK G X cL_law 7 RL (some .boolean) "law") (hR : X.R = room_1) (hq : X.q = fun _ v => v = some (.int 1)) {b : Nat} {xs : Nat → Int32} {M Nx Nm : zM} {x m o n k : Nat} (S : zS X b 6 xs) (F : zFr M Nx Nm x m o) (hn : n + 100 ≤ X.R.cells) (hk : k + 1000 ≤ X.R.slots) : zW G X 7 M n k 536 [(4, .int 0), (3, .ref o), (2, .ref m), (1, .ref x), (0, .ref b)] [] := by
  obtain ⟨sx, sm⟩ : zSub Nx M ∧ zSub Nm M := ⟨F.2.2.1, F.2.2.2.1⟩
  have kx : M.1 x = 11 := by rw [(zSub_at sx (by rw [F.1.k]; decide)).1]; exact F.1.k
  refine z_aload_n O dL_law_536 rfl 3 rfl ?_
  refine z_aload_n O dL_law_537 rfl 4 rfl ?_
  refine z_iload O dL_law_538 0 rfl ?_
  refine z_iconst (v := 1) O dL_law_540 rfl ?_
  refine z_iadd O dL_law_541 ?_
  refine z_sldj 1 O S dL_law_542 (by unfold vp_in; decide) (by decide) ?_
  refine z_aload_n O dL_law_543 rfl 4 rfl ?_
  refine z_iload O dL_law_544 0 rfl ?_
  refine z_iconst (v := 2) O dL_law_546 rfl ?_
  refine z_iadd O dL_law_547 ?_
  refine z_sldj 2 O S dL_law_548 (by unfold vp_in; decide) (by decide) ?_
  refine z_aload_n O dL_law_549 rfl 4 rfl ?_
  refine z_iload O dL_law_550 0 rfl ?_
  refine z_iconst (v := 3) O dL_law_552 rfl ?_
  refine z_iadd O dL_law_553 ?_
  refine z_sldj 3 O S dL_law_554 (by unfold vp_in; decide) (by decide) ?_
  refine z_callV0 (As := [.int (xs 1), .int (xs 2), .int (xs 3)]) (st := []) O zc_L_61 (z_part sx (s_X11_set F.1)) kx rfl (zRm_of hR (by decide) (by decide)) (Nat.le_of_ble_eq_true rfl) dL_law_555 rfl rfl rfl (fun M1 v1 h1 => ?_)
  obtain ⟨N1, rfl, -, hN1⟩ := h1
  replace sm := (hN1 Nm sm F.2.2.2.2.1).1
  have km : M1.1 m = 15 := by rw [(zSub_at sm (by rw [F.2.1.k]; decide)).1]; exact F.2.1.k
  refine z_aload_n O dL_law_558 rfl 2 rfl ?_
  refine z_aload_n O dL_law_559 rfl 4 rfl ?_
  refine z_iload O dL_law_560 0 rfl ?_
  refine z_iconst (v := 1) O dL_law_562 rfl ?_
  refine z_iadd O dL_law_563 ?_
  refine z_sldj 1 O S dL_law_564 (by unfold vp_in; decide) (by decide) ?_
  refine z_aload_n O dL_law_565 rfl 4 rfl ?_
  refine z_iload O dL_law_566 0 rfl ?_
  refine z_iconst (v := 2) O dL_law_568 rfl ?_
  refine z_iadd O dL_law_569 ?_
  refine z_sldj 2 O S dL_law_570 (by unfold vp_in; decide) (by decide) ?_
  refine z_aload_n O dL_law_571 rfl 4 rfl ?_
  refine z_iload O dL_law_572 0 rfl ?_
  refine z_iconst (v := 3) O dL_law_574 rfl ?_
  refine z_iadd O dL_law_575 ?_
  refine z_sldj 3 O S dL_law_576 (by unfold vp_in; decide) (by decide) ?_
  refine z_callV0 (As := [.int (xs 1), .int (xs 2), .int (xs 3)]) (st := [.int (-1)]) O zc_L_65 (z_part sm (s_X15_set F.2.1)) km rfl (zRm_of hR (by decide) (by decide)) (Nat.le_of_ble_eq_true rfl) dL_law_577 rfl rfl rfl (fun M2 v2 h2 => ?_)
  obtain ⟨N2, rfl, -, hN2⟩ := h2
  refine z_icmp_eq O 1462 dL_law_580 (by decide) (fun _ => ?_) (fun c => absurd rfl c)
  exact z_to [0, 4] rfl (law_end O hR hq S (Nat.le_refl _))
set_option maxRecDepth 100000 in
set_option maxHeartbeats 4000000 in
theorem law_9 {G : zG} {X : zX} (O : zOK G X cL_law 7 RL (some .boolean) "law") (hR : X.R = room_1) (hq : X.q = fun _ v => v = some (.int 1)) {b : Nat} {xs : Nat → Int32} {M Nx Nm : zM} {x m o n k : Nat} (S : zS X b 6 xs) (F : zFr M Nx Nm x m o) (hn : n + 100 ≤ X.R.cells) (hk : k + 1000 ≤ X.R.slots) : zW G X 7 M n k 585 [(4, .int 0), (3, .ref o), (2, .ref m), (1, .ref x), (0, .ref b)] [] := by
  obtain ⟨sx, sm⟩ : zSub Nx M ∧ zSub Nm M := ⟨F.2.2.1, F.2.2.2.1⟩
  have kx : M.1 x = 11 := by rw [(zSub_at sx (by rw [F.1.k]; decide)).1]; exact F.1.k
  refine z_aload_n O dL_law_585 rfl 3 rfl ?_
  refine z_aload_n O dL_law_586 rfl 4 rfl ?_
  refine z_iload O dL_law_587 0 rfl ?_
  refine z_iconst (v := 1) O dL_law_589 rfl ?_
  refine z_iadd O dL_law_590 ?_
  refine z_sldj 1 O S dL_law_591 (by unfold vp_in; decide) (by decide) ?_
  refine z_aload_n O dL_law_592 rfl 4 rfl ?_
  refine z_iload O dL_law_593 0 rfl ?_
  refine z_iconst (v := 2) O dL_law_595 rfl ?_
  refine z_iadd O dL_law_596 ?_
  refine z_sldj 2 O S dL_law_597 (by unfold vp_in; decide) (by decide) ?_
  refine z_callV0 (As := [.int (xs 1), .int (xs 2)]) (st := []) O zc_L_66 (z_part sx (s_X11_ask F.1)) kx rfl (zRm_of hR (by decide) (by decide)) (Nat.le_of_ble_eq_true rfl) dL_law_598 rfl rfl rfl (fun M1 v1 h1 => ?_)
  obtain ⟨N1, rfl, -, hN1⟩ := h1
  replace sm := (hN1 Nm sm F.2.2.2.2.1).1
  have km : M1.1 m = 15 := by rw [(zSub_at sm (by rw [F.2.1.k]; decide)).1]; exact F.2.1.k
  refine z_aload_n O dL_law_601 rfl 2 rfl ?_
  refine z_aload_n O dL_law_602 rfl 4 rfl ?_
  refine z_iload O dL_law_603 0 rfl ?_
  refine z_iconst (v := 1) O dL_law_605 rfl ?_
  refine z_iadd O dL_law_606 ?_
  refine z_sldj 1 O S dL_law_607 (by unfold vp_in; decide) (by decide) ?_
  refine z_aload_n O dL_law_608 rfl 4 rfl ?_
  refine z_iload O dL_law_609 0 rfl ?_
  refine z_iconst (v := 2) O dL_law_611 rfl ?_
  refine z_iadd O dL_law_612 ?_
  refine z_sldj 2 O S dL_law_613 (by unfold vp_in; decide) (by decide) ?_
  refine z_callV0 (As := [.int (xs 1), .int (xs 2)]) (st := [.int (-1)]) O zc_L_69 (z_part sm (s_X15_ask F.2.1)) km rfl (zRm_of hR (by decide) (by decide)) (Nat.le_of_ble_eq_true rfl) dL_law_614 rfl rfl rfl (fun M2 v2 h2 => ?_)
  obtain ⟨N2, rfl, -, hN2⟩ := h2
  refine z_icmp_eq O 1462 dL_law_617 (by decide) (fun _ => ?_) (fun c => absurd rfl c)
  exact z_to [0, 4] rfl (law_end O hR hq S (Nat.le_refl _))
set_option maxRecDepth 100000 in
set_option maxHeartbeats 4000000 in
theorem law_10 {G : zG} {X : zX} (O : zOK G X cL_law 7 RL (some .boolean) "law") (hR : X.R = room_1) (hq : X.q = fun _ v => v = some (.int 1)) {b : Nat} {xs : Nat → Int32} {M Nx Nm : zM} {x m o n k : Nat} (S : zS X b 6 xs) (F : zFr M Nx Nm x m o) (hn : n + 100 ≤ X.R.cells) (hk : k + 1000 ≤ X.R.slots) : zW G X 7 M n k 622 [(4, .int 0), (3, .ref o), (2, .ref m), (1, .ref x), (0, .ref b)] [] := by
  obtain ⟨sx, sm⟩ : zSub Nx M ∧ zSub Nm M := ⟨F.2.2.1, F.2.2.2.1⟩
  have kx : M.1 x = 11 := by rw [(zSub_at sx (by rw [F.1.k]; decide)).1]; exact F.1.k
  refine z_aload_n O dL_law_622 rfl 3 rfl ?_
  refine z_aload_n O dL_law_623 rfl 4 rfl ?_
  refine z_iload O dL_law_624 0 rfl ?_
  refine z_iconst (v := 1) O dL_law_626 rfl ?_
  refine z_iadd O dL_law_627 ?_
  refine z_sldj 1 O S dL_law_628 (by unfold vp_in; decide) (by decide) ?_
  refine z_aload_n O dL_law_629 rfl 4 rfl ?_
  refine z_iload O dL_law_630 0 rfl ?_
  refine z_iconst (v := 2) O dL_law_632 rfl ?_
  refine z_iadd O dL_law_633 ?_
  refine z_sldj 2 O S dL_law_634 (by unfold vp_in; decide) (by decide) ?_
  refine z_callV0 (As := [.int (xs 1), .int (xs 2)]) (st := []) O zc_L_70 (z_part sx (s_X11_value F.1)) kx rfl (zRm_of hR (by decide) (by decide)) (Nat.le_of_ble_eq_true rfl) dL_law_635 rfl rfl rfl (fun M1 v1 h1 => ?_)
  obtain ⟨N1, rfl, -, hN1⟩ := h1
  replace sm := (hN1 Nm sm F.2.2.2.2.1).1
  have km : M1.1 m = 15 := by rw [(zSub_at sm (by rw [F.2.1.k]; decide)).1]; exact F.2.1.k
  refine z_aload_n O dL_law_638 rfl 2 rfl ?_
  refine z_aload_n O dL_law_639 rfl 4 rfl ?_
  refine z_iload O dL_law_640 0 rfl ?_
  refine z_iconst (v := 1) O dL_law_642 rfl ?_
  refine z_iadd O dL_law_643 ?_
  refine z_sldj 1 O S dL_law_644 (by unfold vp_in; decide) (by decide) ?_
  refine z_aload_n O dL_law_645 rfl 4 rfl ?_
  refine z_iload O dL_law_646 0 rfl ?_
  refine z_iconst (v := 2) O dL_law_648 rfl ?_
  refine z_iadd O dL_law_649 ?_
  refine z_sldj 2 O S dL_law_650 (by unfold vp_in; decide) (by decide) ?_
  refine z_callV0 (As := [.int (xs 1), .int (xs 2)]) (st := [.long (-1)]) O zc_L_74 (z_part sm (s_X15_value F.2.1)) km rfl (zRm_of hR (by decide) (by decide)) (Nat.le_of_ble_eq_true rfl) dL_law_651 rfl rfl rfl (fun M2 v2 h2 => ?_)
  obtain ⟨N2, rfl, -, hN2⟩ := h2
  refine z_lcmp O dL_law_654 ?_
  refine z_if_eq O 1462 dL_law_655 (by decide) (fun _ => ?_) (fun c => absurd (by decide) c)
  exact z_to [0, 4] rfl (law_end O hR hq S (Nat.le_refl _))
set_option maxRecDepth 100000 in
set_option maxHeartbeats 4000000 in
theorem law_11 {G : zG} {X : zX} (O : zOK G X cL_law 7 RL (some .boolean) "law") (hR : X.R = room_1) (hq : X.q = fun _ v => v = some (.int 1)) {b : Nat} {xs : Nat → Int32} {M Nx Nm : zM} {x m o n k : Nat} (S : zS X b 6 xs) (F : zFr M Nx Nm x m o) (hn : n + 100 ≤ X.R.cells) (hk : k + 1000 ≤ X.R.slots) : zW G X 7 M n k 660 [(4, .int 0), (3, .ref o), (2, .ref m), (1, .ref x), (0, .ref b)] [] := by
  obtain ⟨sx, sm⟩ : zSub Nx M ∧ zSub Nm M := ⟨F.2.2.1, F.2.2.2.1⟩
  have kx : M.1 x = 11 := by rw [(zSub_at sx (by rw [F.1.k]; decide)).1]; exact F.1.k
  refine z_aload_n O dL_law_660 rfl 3 rfl ?_
  refine z_aload_n O dL_law_661 rfl 4 rfl ?_
  refine z_iload O dL_law_662 0 rfl ?_
  refine z_iconst (v := 1) O dL_law_664 rfl ?_
  refine z_iadd O dL_law_665 ?_
  refine z_sldj 1 O S dL_law_666 (by unfold vp_in; decide) (by decide) ?_
  refine z_aload_n O dL_law_667 rfl 4 rfl ?_
  refine z_iload O dL_law_668 0 rfl ?_
  refine z_iconst (v := 2) O dL_law_670 rfl ?_
  refine z_iadd O dL_law_671 ?_
  refine z_sldj 2 O S dL_law_672 (by unfold vp_in; decide) (by decide) ?_
  refine z_callV0 (As := [.int (xs 1), .int (xs 2)]) (st := []) O zc_L_75 (z_part sx (s_X11_updated F.1)) kx rfl (zRm_of hR (by decide) (by decide)) (Nat.le_of_ble_eq_true rfl) dL_law_673 rfl rfl rfl (fun M1 v1 h1 => ?_)
  obtain ⟨N1, rfl, -, hN1⟩ := h1
  replace sm := (hN1 Nm sm F.2.2.2.2.1).1
  have km : M1.1 m = 15 := by rw [(zSub_at sm (by rw [F.2.1.k]; decide)).1]; exact F.2.1.k
  refine z_aload_n O dL_law_676 rfl 2 rfl ?_
  refine z_aload_n O dL_law_677 rfl 4 rfl ?_
  refine z_iload O dL_law_678 0 rfl ?_
  refine z_iconst (v := 1) O dL_law_680 rfl ?_
  refine z_iadd O dL_law_681 ?_
  refine z_sldj 1 O S dL_law_682 (by unfold vp_in; decide) (by decide) ?_
  refine z_aload_n O dL_law_683 rfl 4 rfl ?_
  refine z_iload O dL_law_684 0 rfl ?_
  refine z_iconst (v := 2) O dL_law_686 rfl ?_
  refine z_iadd O dL_law_687 ?_
  refine z_sldj 2 O S dL_law_688 (by unfold vp_in; decide) (by decide) ?_
  refine z_callV0 (As := [.int (xs 1), .int (xs 2)]) (st := [.int (-1)]) O zc_L_78 (z_part sm (s_X15_updated F.2.1)) km rfl (zRm_of hR (by decide) (by decide)) (Nat.le_of_ble_eq_true rfl) dL_law_689 rfl rfl rfl (fun M2 v2 h2 => ?_)
  obtain ⟨N2, rfl, -, hN2⟩ := h2
  refine z_icmp_eq O 1462 dL_law_692 (by decide) (fun _ => ?_) (fun c => absurd rfl c)
  exact z_to [0, 4] rfl (law_end O hR hq S (Nat.le_refl _))
set_option maxRecDepth 100000 in
set_option maxHeartbeats 4000000 in
theorem law_12 {G : zG} {X : zX} (O : zOK G X cL_law 7 RL (some .boolean) "law") (hR : X.R = room_1) (hq : X.q = fun _ v => v = some (.int 1)) {b : Nat} {xs : Nat → Int32} {M Nx Nm : zM} {x m o n k : Nat} (S : zS X b 6 xs) (F : zFr M Nx Nm x m o) (hn : n + 100 ≤ X.R.cells) (hk : k + 1000 ≤ X.R.slots) : zW G X 7 M n k 697 [(4, .int 0), (3, .ref o), (2, .ref m), (1, .ref x), (0, .ref b)] [] := by
  obtain ⟨sx, sm⟩ : zSub Nx M ∧ zSub Nm M := ⟨F.2.2.1, F.2.2.2.1⟩
  have kx : M.1 x = 11 := by rw [(zSub_at sx (by rw [F.1.k]; decide)).1]; exact F.1.k
  refine z_aload_n O dL_law_697 rfl 3 rfl ?_
  refine z_aload_n O dL_law_698 rfl 4 rfl ?_
  refine z_iload O dL_law_699 0 rfl ?_
  refine z_iconst (v := 1) O dL_law_701 rfl ?_
  refine z_iadd O dL_law_702 ?_
  refine z_sldj 1 O S dL_law_703 (by unfold vp_in; decide) (by decide) ?_
  refine z_aload_n O dL_law_704 rfl 4 rfl ?_
  refine z_iload O dL_law_705 0 rfl ?_
  refine z_iconst (v := 2) O dL_law_707 rfl ?_
  refine z_iadd O dL_law_708 ?_
  refine z_sldj 2 O S dL_law_709 (by unfold vp_in; decide) (by decide) ?_
  refine z_callV0 (As := [.int (xs 1), .int (xs 2)]) (st := []) O zc_L_79 (z_part sx (s_X11_hundredths F.1)) kx rfl (zRm_of hR (by decide) (by decide)) (Nat.le_of_ble_eq_true rfl) dL_law_710 rfl rfl rfl (fun M1 v1 h1 => ?_)
  obtain ⟨N1, rfl, -, hN1⟩ := h1
  replace sm := (hN1 Nm sm F.2.2.2.2.1).1
  have km : M1.1 m = 15 := by rw [(zSub_at sm (by rw [F.2.1.k]; decide)).1]; exact F.2.1.k
  refine z_aload_n O dL_law_713 rfl 2 rfl ?_
  refine z_aload_n O dL_law_714 rfl 4 rfl ?_
  refine z_iload O dL_law_715 0 rfl ?_
  refine z_iconst (v := 1) O dL_law_717 rfl ?_
  refine z_iadd O dL_law_718 ?_
  refine z_sldj 1 O S dL_law_719 (by unfold vp_in; decide) (by decide) ?_
  refine z_aload_n O dL_law_720 rfl 4 rfl ?_
  refine z_iload O dL_law_721 0 rfl ?_
  refine z_iconst (v := 2) O dL_law_723 rfl ?_
  refine z_iadd O dL_law_724 ?_
  refine z_sldj 2 O S dL_law_725 (by unfold vp_in; decide) (by decide) ?_
  refine z_callV0 (As := [.int (xs 1), .int (xs 2)]) (st := [.long (-9223372036854775808)]) O zc_L_82 (z_part sm (s_X15_hundredths F.2.1)) km rfl (zRm_of hR (by decide) (by decide)) (Nat.le_of_ble_eq_true rfl) dL_law_726 rfl rfl rfl (fun M2 v2 h2 => ?_)
  obtain ⟨N2, rfl, -, hN2⟩ := h2
  refine z_lcmp O dL_law_729 ?_
  refine z_if_eq O 1462 dL_law_730 (by decide) (fun _ => ?_) (fun c => absurd (by decide) c)
  exact z_to [0, 4] rfl (law_end O hR hq S (Nat.le_refl _))
set_option maxRecDepth 100000 in
set_option maxHeartbeats 4000000 in
theorem law_13 {G : zG} {X : zX} (O : zOK G X cL_law 7 RL (some .boolean) "law") (hR : X.R = room_1) (hq : X.q = fun _ v => v = some (.int 1)) {b : Nat} {xs : Nat → Int32} {M Nx Nm : zM} {x m o n k : Nat} (S : zS X b 6 xs) (F : zFr M Nx Nm x m o) (hn : n + 100 ≤ X.R.cells) (hk : k + 1000 ≤ X.R.slots) : zW G X 7 M n k 735 [(4, .int 0), (3, .ref o), (2, .ref m), (1, .ref x), (0, .ref b)] [] := by
  obtain ⟨sx, sm⟩ : zSub Nx M ∧ zSub Nm M := ⟨F.2.2.1, F.2.2.2.1⟩
  have kx : M.1 x = 11 := by rw [(zSub_at sx (by rw [F.1.k]; decide)).1]; exact F.1.k
  refine z_aload_n O dL_law_735 rfl 3 rfl ?_
  refine z_aload_n O dL_law_736 rfl 4 rfl ?_
  refine z_iload O dL_law_737 0 rfl ?_
  refine z_iconst (v := 1) O dL_law_739 rfl ?_
  refine z_iadd O dL_law_740 ?_
  refine z_sldj 1 O S dL_law_741 (by unfold vp_in; decide) (by decide) ?_
  refine z_aload_n O dL_law_742 rfl 4 rfl ?_
  refine z_iload O dL_law_743 0 rfl ?_
  refine z_iconst (v := 2) O dL_law_745 rfl ?_
  refine z_iadd O dL_law_746 ?_
  refine z_sldj 2 O S dL_law_747 (by unfold vp_in; decide) (by decide) ?_
  refine z_aload_n O dL_law_748 rfl 4 rfl ?_
  refine z_iload O dL_law_749 0 rfl ?_
  refine z_iconst (v := 3) O dL_law_751 rfl ?_
  refine z_iadd O dL_law_752 ?_
  refine z_sldj 3 O S dL_law_753 (by unfold vp_in; decide) (by decide) ?_
  refine z_callV0 (As := [.int (xs 1), .int (xs 2), .int (xs 3)]) (st := []) O zc_L_83 (z_part sx (s_X11_point F.1)) kx rfl (zRm_of hR (by decide) (by decide)) (Nat.le_of_ble_eq_true rfl) dL_law_754 rfl rfl rfl (fun M1 v1 h1 => ?_)
  obtain ⟨N1, rfl, -, hN1⟩ := h1
  replace sm := (hN1 Nm sm F.2.2.2.2.1).1
  have km : M1.1 m = 15 := by rw [(zSub_at sm (by rw [F.2.1.k]; decide)).1]; exact F.2.1.k
  refine z_aload_n O dL_law_757 rfl 2 rfl ?_
  refine z_aload_n O dL_law_758 rfl 4 rfl ?_
  refine z_iload O dL_law_759 0 rfl ?_
  refine z_iconst (v := 1) O dL_law_761 rfl ?_
  refine z_iadd O dL_law_762 ?_
  refine z_sldj 1 O S dL_law_763 (by unfold vp_in; decide) (by decide) ?_
  refine z_aload_n O dL_law_764 rfl 4 rfl ?_
  refine z_iload O dL_law_765 0 rfl ?_
  refine z_iconst (v := 2) O dL_law_767 rfl ?_
  refine z_iadd O dL_law_768 ?_
  refine z_sldj 2 O S dL_law_769 (by unfold vp_in; decide) (by decide) ?_
  refine z_aload_n O dL_law_770 rfl 4 rfl ?_
  refine z_iload O dL_law_771 0 rfl ?_
  refine z_iconst (v := 3) O dL_law_773 rfl ?_
  refine z_iadd O dL_law_774 ?_
  refine z_sldj 3 O S dL_law_775 (by unfold vp_in; decide) (by decide) ?_
  refine z_callV0 (As := [.int (xs 1), .int (xs 2), .int (xs 3)]) (st := [.int (-1)]) O zc_L_86 (z_part sm (s_X15_point F.2.1)) km rfl (zRm_of hR (by decide) (by decide)) (Nat.le_of_ble_eq_true rfl) dL_law_776 rfl rfl rfl (fun M2 v2 h2 => ?_)
  obtain ⟨N2, rfl, -, hN2⟩ := h2
  refine z_icmp_eq O 1462 dL_law_779 (by decide) (fun _ => ?_) (fun c => absurd rfl c)
  exact z_to [0, 4] rfl (law_end O hR hq S (Nat.le_refl _))
set_option maxRecDepth 100000 in
set_option maxHeartbeats 4000000 in
theorem law_14 {G : zG} {X : zX} (O : zOK G X cL_law 7 RL (some .boolean) "law") (hR : X.R = room_1) (hq : X.q = fun _ v => v = some (.int 1)) {b : Nat} {xs : Nat → Int32} {M Nx Nm : zM} {x m o n k : Nat} (S : zS X b 6 xs) (F : zFr M Nx Nm x m o) (hn : n + 100 ≤ X.R.cells) (hk : k + 1000 ≤ X.R.slots) : zW G X 7 M n k 784 [(4, .int 0), (3, .ref o), (2, .ref m), (1, .ref x), (0, .ref b)] [] := by
  obtain ⟨sx, sm⟩ : zSub Nx M ∧ zSub Nm M := ⟨F.2.2.1, F.2.2.2.1⟩
  have kx : M.1 x = 11 := by rw [(zSub_at sx (by rw [F.1.k]; decide)).1]; exact F.1.k
  refine z_aload_n O dL_law_784 rfl 3 rfl ?_
  refine z_aload_n O dL_law_785 rfl 4 rfl ?_
  refine z_iload O dL_law_786 0 rfl ?_
  refine z_iconst (v := 1) O dL_law_788 rfl ?_
  refine z_iadd O dL_law_789 ?_
  refine z_sldj 1 O S dL_law_790 (by unfold vp_in; decide) (by decide) ?_
  refine z_aload_n O dL_law_791 rfl 4 rfl ?_
  refine z_iload O dL_law_792 0 rfl ?_
  refine z_iconst (v := 2) O dL_law_794 rfl ?_
  refine z_iadd O dL_law_795 ?_
  refine z_sldj 2 O S dL_law_796 (by unfold vp_in; decide) (by decide) ?_
  refine z_callV0 (As := [.int (xs 1), .int (xs 2)]) (st := []) O zc_L_87 (z_part sx (s_X11_connect F.1)) kx rfl (zRm_of hR (by decide) (by decide)) (Nat.le_of_ble_eq_true rfl) dL_law_797 rfl rfl rfl (fun M1 v1 h1 => ?_)
  obtain ⟨N1, rfl, -, hN1⟩ := h1
  replace sm := (hN1 Nm sm F.2.2.2.2.1).1
  have km : M1.1 m = 15 := by rw [(zSub_at sm (by rw [F.2.1.k]; decide)).1]; exact F.2.1.k
  refine z_aload_n O dL_law_800 rfl 2 rfl ?_
  refine z_aload_n O dL_law_801 rfl 4 rfl ?_
  refine z_iload O dL_law_802 0 rfl ?_
  refine z_iconst (v := 1) O dL_law_804 rfl ?_
  refine z_iadd O dL_law_805 ?_
  refine z_sldj 1 O S dL_law_806 (by unfold vp_in; decide) (by decide) ?_
  refine z_aload_n O dL_law_807 rfl 4 rfl ?_
  refine z_iload O dL_law_808 0 rfl ?_
  refine z_iconst (v := 2) O dL_law_810 rfl ?_
  refine z_iadd O dL_law_811 ?_
  refine z_sldj 2 O S dL_law_812 (by unfold vp_in; decide) (by decide) ?_
  refine z_callV0 (As := [.int (xs 1), .int (xs 2)]) (st := [.int 0]) O zc_L_90 (z_part sm (s_X15_connect F.2.1)) km rfl (zRm_of hR (by decide) (by decide)) (Nat.le_of_ble_eq_true rfl) dL_law_813 rfl rfl rfl (fun M2 v2 h2 => ?_)
  obtain ⟨N2, rfl, -, hN2⟩ := h2
  refine z_icmp_eq O 1462 dL_law_816 (by decide) (fun _ => ?_) (fun c => absurd rfl c)
  exact z_to [0, 4] rfl (law_end O hR hq S (Nat.le_refl _))
set_option maxRecDepth 100000 in
set_option maxHeartbeats 4000000 in
theorem law_15 {G : zG} {X : zX} (O : zOK G X cL_law 7 RL (some .boolean) "law") (hR : X.R = room_1) (hq : X.q = fun _ v => v = some (.int 1)) {b : Nat} {xs : Nat → Int32} {M Nx Nm : zM} {x m o n k : Nat} (S : zS X b 6 xs) (F : zFr M Nx Nm x m o) (hn : n + 100 ≤ X.R.cells) (hk : k + 1000 ≤ X.R.slots) : zW G X 7 M n k 821 [(4, .int 0), (3, .ref o), (2, .ref m), (1, .ref x), (0, .ref b)] [] := by
  obtain ⟨sx, sm⟩ : zSub Nx M ∧ zSub Nm M := ⟨F.2.2.1, F.2.2.2.1⟩
  have kx : M.1 x = 11 := by rw [(zSub_at sx (by rw [F.1.k]; decide)).1]; exact F.1.k
  refine z_aload_n O dL_law_821 rfl 3 rfl ?_
  refine z_aload_n O dL_law_822 rfl 4 rfl ?_
  refine z_iload O dL_law_823 0 rfl ?_
  refine z_iconst (v := 1) O dL_law_825 rfl ?_
  refine z_iadd O dL_law_826 ?_
  refine z_sldj 1 O S dL_law_827 (by unfold vp_in; decide) (by decide) ?_
  refine z_callV0 (As := [.int (xs 1)]) (st := []) O zc_L_91 (z_part sx (s_X11_disconnect F.1)) kx rfl (zRm_of hR (by decide) (by decide)) (Nat.le_of_ble_eq_true rfl) dL_law_828 rfl rfl rfl (fun M1 v1 h1 => ?_)
  obtain ⟨N1, rfl, -, hN1⟩ := h1
  replace sm := (hN1 Nm sm F.2.2.2.2.1).1
  have km : M1.1 m = 15 := by rw [(zSub_at sm (by rw [F.2.1.k]; decide)).1]; exact F.2.1.k
  refine z_aload_n O dL_law_831 rfl 2 rfl ?_
  refine z_aload_n O dL_law_832 rfl 4 rfl ?_
  refine z_iload O dL_law_833 0 rfl ?_
  refine z_iconst (v := 1) O dL_law_835 rfl ?_
  refine z_iadd O dL_law_836 ?_
  refine z_sldj 1 O S dL_law_837 (by unfold vp_in; decide) (by decide) ?_
  refine z_callV0 (As := [.int (xs 1)]) (st := [.int 0]) O zc_L_95 (z_part sm (s_X15_disconnect F.2.1)) km rfl (zRm_of hR (by decide) (by decide)) (Nat.le_of_ble_eq_true rfl) dL_law_838 rfl rfl rfl (fun M2 v2 h2 => ?_)
  obtain ⟨N2, rfl, -, hN2⟩ := h2
  refine z_icmp_eq O 1462 dL_law_841 (by decide) (fun _ => ?_) (fun c => absurd rfl c)
  exact z_to [0, 4] rfl (law_end O hR hq S (Nat.le_refl _))
set_option maxRecDepth 100000 in
set_option maxHeartbeats 4000000 in
theorem law_16 {G : zG} {X : zX} (O : zOK G X cL_law 7 RL (some .boolean) "law") (hR : X.R = room_1) (hq : X.q = fun _ v => v = some (.int 1)) {b : Nat} {xs : Nat → Int32} {M Nx Nm : zM} {x m o n k : Nat} (S : zS X b 6 xs) (F : zFr M Nx Nm x m o) (hn : n + 100 ≤ X.R.cells) (hk : k + 1000 ≤ X.R.slots) : zW G X 7 M n k 846 [(4, .int 0), (3, .ref o), (2, .ref m), (1, .ref x), (0, .ref b)] [] := by
  obtain ⟨sx, sm⟩ : zSub Nx M ∧ zSub Nm M := ⟨F.2.2.1, F.2.2.2.1⟩
  have kx : M.1 x = 11 := by rw [(zSub_at sx (by rw [F.1.k]; decide)).1]; exact F.1.k
  refine z_aload_n O dL_law_846 rfl 3 rfl ?_
  refine z_aload_n O dL_law_847 rfl 4 rfl ?_
  refine z_iload O dL_law_848 0 rfl ?_
  refine z_iconst (v := 1) O dL_law_850 rfl ?_
  refine z_iadd O dL_law_851 ?_
  refine z_sldj 1 O S dL_law_852 (by unfold vp_in; decide) (by decide) ?_
  refine z_aload_n O dL_law_853 rfl 4 rfl ?_
  refine z_iload O dL_law_854 0 rfl ?_
  refine z_iconst (v := 2) O dL_law_856 rfl ?_
  refine z_iadd O dL_law_857 ?_
  refine z_sldj 2 O S dL_law_858 (by unfold vp_in; decide) (by decide) ?_
  refine z_aload_n O dL_law_859 rfl 4 rfl ?_
  refine z_iload O dL_law_860 0 rfl ?_
  refine z_iconst (v := 3) O dL_law_862 rfl ?_
  refine z_iadd O dL_law_863 ?_
  refine z_sldj 3 O S dL_law_864 (by unfold vp_in; decide) (by decide) ?_
  refine z_callV0 (As := [.int (xs 1), .int (xs 2), .int (xs 3)]) (st := []) O zc_L_96 (z_part sx (s_X11_peek F.1)) kx rfl (zRm_of hR (by decide) (by decide)) (Nat.le_of_ble_eq_true rfl) dL_law_865 rfl rfl rfl (fun M1 v1 h1 => ?_)
  obtain ⟨N1, rfl, -, hN1⟩ := h1
  replace sm := (hN1 Nm sm F.2.2.2.2.1).1
  have km : M1.1 m = 15 := by rw [(zSub_at sm (by rw [F.2.1.k]; decide)).1]; exact F.2.1.k
  refine z_aload_n O dL_law_868 rfl 2 rfl ?_
  refine z_aload_n O dL_law_869 rfl 4 rfl ?_
  refine z_iload O dL_law_870 0 rfl ?_
  refine z_iconst (v := 1) O dL_law_872 rfl ?_
  refine z_iadd O dL_law_873 ?_
  refine z_sldj 1 O S dL_law_874 (by unfold vp_in; decide) (by decide) ?_
  refine z_aload_n O dL_law_875 rfl 4 rfl ?_
  refine z_iload O dL_law_876 0 rfl ?_
  refine z_iconst (v := 2) O dL_law_878 rfl ?_
  refine z_iadd O dL_law_879 ?_
  refine z_sldj 2 O S dL_law_880 (by unfold vp_in; decide) (by decide) ?_
  refine z_aload_n O dL_law_881 rfl 4 rfl ?_
  refine z_iload O dL_law_882 0 rfl ?_
  refine z_iconst (v := 3) O dL_law_884 rfl ?_
  refine z_iadd O dL_law_885 ?_
  refine z_sldj 3 O S dL_law_886 (by unfold vp_in; decide) (by decide) ?_
  refine z_callV0 (As := [.int (xs 1), .int (xs 2), .int (xs 3)]) (st := [.int 0]) O zc_L_99 (z_part sm (s_X15_peek F.2.1)) km rfl (zRm_of hR (by decide) (by decide)) (Nat.le_of_ble_eq_true rfl) dL_law_887 rfl rfl rfl (fun M2 v2 h2 => ?_)
  obtain ⟨N2, rfl, -, hN2⟩ := h2
  refine z_icmp_eq O 1462 dL_law_890 (by decide) (fun _ => ?_) (fun c => absurd rfl c)
  exact z_to [0, 4] rfl (law_end O hR hq S (Nat.le_refl _))
set_option maxRecDepth 100000 in
set_option maxHeartbeats 4000000 in
theorem law_17 {G : zG} {X : zX} (O : zOK G X cL_law 7 RL (some .boolean) "law") (hR : X.R = room_1) (hq : X.q = fun _ v => v = some (.int 1)) {b : Nat} {xs : Nat → Int32} {M Nx Nm : zM} {x m o n k : Nat} (S : zS X b 6 xs) (F : zFr M Nx Nm x m o) (hn : n + 100 ≤ X.R.cells) (hk : k + 1000 ≤ X.R.slots) : zW G X 7 M n k 895 [(4, .int 0), (3, .ref o), (2, .ref m), (1, .ref x), (0, .ref b)] [] := by
  obtain ⟨sx, sm⟩ : zSub Nx M ∧ zSub Nm M := ⟨F.2.2.1, F.2.2.2.1⟩
  have kx : M.1 x = 11 := by rw [(zSub_at sx (by rw [F.1.k]; decide)).1]; exact F.1.k
  refine z_aload_n O dL_law_895 rfl 3 rfl ?_
  refine z_aload_n O dL_law_896 rfl 4 rfl ?_
  refine z_iload O dL_law_897 0 rfl ?_
  refine z_iconst (v := 1) O dL_law_899 rfl ?_
  refine z_iadd O dL_law_900 ?_
  refine z_sldj 1 O S dL_law_901 (by unfold vp_in; decide) (by decide) ?_
  refine z_aload_n O dL_law_902 rfl 4 rfl ?_
  refine z_iload O dL_law_903 0 rfl ?_
  refine z_iconst (v := 2) O dL_law_905 rfl ?_
  refine z_iadd O dL_law_906 ?_
  refine z_sldj 2 O S dL_law_907 (by unfold vp_in; decide) (by decide) ?_
  refine z_aload_n O dL_law_908 rfl 4 rfl ?_
  refine z_iload O dL_law_909 0 rfl ?_
  refine z_iconst (v := 3) O dL_law_911 rfl ?_
  refine z_iadd O dL_law_912 ?_
  refine z_sldj 3 O S dL_law_913 (by unfold vp_in; decide) (by decide) ?_
  refine z_aload_n O dL_law_914 rfl 4 rfl ?_
  refine z_iload O dL_law_915 0 rfl ?_
  refine z_iconst (v := 4) O dL_law_917 rfl ?_
  refine z_iadd O dL_law_918 ?_
  refine z_sldj 4 O S dL_law_919 (by unfold vp_in; decide) (by decide) ?_
  refine z_callV0 (As := [.int (xs 1), .int (xs 2), .int (xs 3), .int (xs 4)]) (st := []) O zc_L_100 (z_part sx (s_X11_poke F.1)) kx rfl (zRm_of hR (by decide) (by decide)) (Nat.le_of_ble_eq_true rfl) dL_law_920 rfl rfl rfl (fun M1 v1 h1 => ?_)
  obtain ⟨N1, rfl, -, hN1⟩ := h1
  replace sm := (hN1 Nm sm F.2.2.2.2.1).1
  have km : M1.1 m = 15 := by rw [(zSub_at sm (by rw [F.2.1.k]; decide)).1]; exact F.2.1.k
  refine z_aload_n O dL_law_923 rfl 2 rfl ?_
  refine z_aload_n O dL_law_924 rfl 4 rfl ?_
  refine z_iload O dL_law_925 0 rfl ?_
  refine z_iconst (v := 1) O dL_law_927 rfl ?_
  refine z_iadd O dL_law_928 ?_
  refine z_sldj 1 O S dL_law_929 (by unfold vp_in; decide) (by decide) ?_
  refine z_aload_n O dL_law_930 rfl 4 rfl ?_
  refine z_iload O dL_law_931 0 rfl ?_
  refine z_iconst (v := 2) O dL_law_933 rfl ?_
  refine z_iadd O dL_law_934 ?_
  refine z_sldj 2 O S dL_law_935 (by unfold vp_in; decide) (by decide) ?_
  refine z_aload_n O dL_law_936 rfl 4 rfl ?_
  refine z_iload O dL_law_937 0 rfl ?_
  refine z_iconst (v := 3) O dL_law_939 rfl ?_
  refine z_iadd O dL_law_940 ?_
  refine z_sldj 3 O S dL_law_941 (by unfold vp_in; decide) (by decide) ?_
  refine z_aload_n O dL_law_942 rfl 4 rfl ?_
  refine z_iload O dL_law_943 0 rfl ?_
  refine z_iconst (v := 4) O dL_law_945 rfl ?_
  refine z_iadd O dL_law_946 ?_
  refine z_sldj 4 O S dL_law_947 (by unfold vp_in; decide) (by decide) ?_
  refine z_callV0 (As := [.int (xs 1), .int (xs 2), .int (xs 3), .int (xs 4)]) (st := [.int 0]) O zc_L_104 (z_part sm (s_X15_poke F.2.1)) km rfl (zRm_of hR (by decide) (by decide)) (Nat.le_of_ble_eq_true rfl) dL_law_948 rfl rfl rfl (fun M2 v2 h2 => ?_)
  obtain ⟨N2, rfl, -, hN2⟩ := h2
  refine z_icmp_eq O 1462 dL_law_951 (by decide) (fun _ => ?_) (fun c => absurd rfl c)
  exact z_to [0, 4] rfl (law_end O hR hq S (Nat.le_refl _))
set_option maxRecDepth 100000 in
set_option maxHeartbeats 4000000 in
theorem law_18 {G : zG} {X : zX} (O : zOK G X cL_law 7 RL (some .boolean) "law") (hR : X.R = room_1) (hq : X.q = fun _ v => v = some (.int 1)) {b : Nat} {xs : Nat → Int32} {M Nx Nm : zM} {x m o n k : Nat} (S : zS X b 6 xs) (F : zFr M Nx Nm x m o) (hn : n + 100 ≤ X.R.cells) (hk : k + 1000 ≤ X.R.slots) : zW G X 7 M n k 956 [(4, .int 0), (3, .ref o), (2, .ref m), (1, .ref x), (0, .ref b)] [] := by
  obtain ⟨sx, sm⟩ : zSub Nx M ∧ zSub Nm M := ⟨F.2.2.1, F.2.2.2.1⟩
  have kx : M.1 x = 11 := by rw [(zSub_at sx (by rw [F.1.k]; decide)).1]; exact F.1.k
  refine z_aload_n O dL_law_956 rfl 3 rfl ?_
  refine z_aload_n O dL_law_957 rfl 4 rfl ?_
  refine z_iload O dL_law_958 0 rfl ?_
  refine z_iconst (v := 1) O dL_law_960 rfl ?_
  refine z_iadd O dL_law_961 ?_
  refine z_sldj 1 O S dL_law_962 (by unfold vp_in; decide) (by decide) ?_
  refine z_aload_n O dL_law_963 rfl 4 rfl ?_
  refine z_iload O dL_law_964 0 rfl ?_
  refine z_iconst (v := 2) O dL_law_966 rfl ?_
  refine z_iadd O dL_law_967 ?_
  refine z_sldj 2 O S dL_law_968 (by unfold vp_in; decide) (by decide) ?_
  refine z_callV0 (As := [.int (xs 1), .int (xs 2)]) (st := []) O zc_L_105 (z_part sx (s_X11_memory F.1)) kx rfl (zRm_of hR (by decide) (by decide)) (Nat.le_of_ble_eq_true rfl) dL_law_969 rfl rfl rfl (fun M1 v1 h1 => ?_)
  obtain ⟨N1, rfl, -, hN1⟩ := h1
  replace sm := (hN1 Nm sm F.2.2.2.2.1).1
  have km : M1.1 m = 15 := by rw [(zSub_at sm (by rw [F.2.1.k]; decide)).1]; exact F.2.1.k
  refine z_aload_n O dL_law_972 rfl 2 rfl ?_
  refine z_aload_n O dL_law_973 rfl 4 rfl ?_
  refine z_iload O dL_law_974 0 rfl ?_
  refine z_iconst (v := 1) O dL_law_976 rfl ?_
  refine z_iadd O dL_law_977 ?_
  refine z_sldj 1 O S dL_law_978 (by unfold vp_in; decide) (by decide) ?_
  refine z_aload_n O dL_law_979 rfl 4 rfl ?_
  refine z_iload O dL_law_980 0 rfl ?_
  refine z_iconst (v := 2) O dL_law_982 rfl ?_
  refine z_iadd O dL_law_983 ?_
  refine z_sldj 2 O S dL_law_984 (by unfold vp_in; decide) (by decide) ?_
  refine z_callV0 (As := [.int (xs 1), .int (xs 2)]) (st := [.int (-1)]) O zc_L_108 (z_part sm (s_X15_memory F.2.1)) km rfl (zRm_of hR (by decide) (by decide)) (Nat.le_of_ble_eq_true rfl) dL_law_985 rfl rfl rfl (fun M2 v2 h2 => ?_)
  obtain ⟨N2, rfl, -, hN2⟩ := h2
  refine z_icmp_eq O 1462 dL_law_988 (by decide) (fun _ => ?_) (fun c => absurd rfl c)
  exact z_to [0, 4] rfl (law_end O hR hq S (Nat.le_refl _))
set_option maxRecDepth 100000 in
set_option maxHeartbeats 4000000 in
theorem law_19 {G : zG} {X : zX} (O : zOK G X cL_law 7 RL (some .boolean) "law") (hR : X.R = room_1) (hq : X.q = fun _ v => v = some (.int 1)) {b : Nat} {xs : Nat → Int32} {M Nx Nm : zM} {x m o n k : Nat} (S : zS X b 6 xs) (F : zFr M Nx Nm x m o) (hn : n + 100 ≤ X.R.cells) (hk : k + 1000 ≤ X.R.slots) : zW G X 7 M n k 993 [(4, .int 0), (3, .ref o), (2, .ref m), (1, .ref x), (0, .ref b)] [] := by
  obtain ⟨sx, sm⟩ : zSub Nx M ∧ zSub Nm M := ⟨F.2.2.1, F.2.2.2.1⟩
  have kx : M.1 x = 11 := by rw [(zSub_at sx (by rw [F.1.k]; decide)).1]; exact F.1.k
  refine z_aload_n O dL_law_993 rfl 3 rfl ?_
  refine z_aload_n O dL_law_994 rfl 4 rfl ?_
  refine z_iload O dL_law_995 0 rfl ?_
  refine z_iconst (v := 1) O dL_law_997 rfl ?_
  refine z_iadd O dL_law_998 ?_
  refine z_sldj 1 O S dL_law_999 (by unfold vp_in; decide) (by decide) ?_
  refine z_aload_n O dL_law_1000 rfl 4 rfl ?_
  refine z_iload O dL_law_1001 0 rfl ?_
  refine z_iconst (v := 2) O dL_law_1003 rfl ?_
  refine z_iadd O dL_law_1004 ?_
  refine z_sldj 2 O S dL_law_1005 (by unfold vp_in; decide) (by decide) ?_
  refine z_aload_n O dL_law_1006 rfl 4 rfl ?_
  refine z_iload O dL_law_1007 0 rfl ?_
  refine z_iconst (v := 3) O dL_law_1009 rfl ?_
  refine z_iadd O dL_law_1010 ?_
  refine z_sldj 3 O S dL_law_1011 (by unfold vp_in; decide) (by decide) ?_
  refine z_callV0 (As := [.int (xs 1), .int (xs 2), .int (xs 3)]) (st := []) O zc_L_109 (z_part sx (s_X11_store F.1)) kx rfl (zRm_of hR (by decide) (by decide)) (Nat.le_of_ble_eq_true rfl) dL_law_1012 rfl rfl rfl (fun M1 v1 h1 => ?_)
  obtain ⟨N1, rfl, -, hN1⟩ := h1
  replace sm := (hN1 Nm sm F.2.2.2.2.1).1
  have km : M1.1 m = 15 := by rw [(zSub_at sm (by rw [F.2.1.k]; decide)).1]; exact F.2.1.k
  refine z_aload_n O dL_law_1015 rfl 2 rfl ?_
  refine z_aload_n O dL_law_1016 rfl 4 rfl ?_
  refine z_iload O dL_law_1017 0 rfl ?_
  refine z_iconst (v := 1) O dL_law_1019 rfl ?_
  refine z_iadd O dL_law_1020 ?_
  refine z_sldj 1 O S dL_law_1021 (by unfold vp_in; decide) (by decide) ?_
  refine z_aload_n O dL_law_1022 rfl 4 rfl ?_
  refine z_iload O dL_law_1023 0 rfl ?_
  refine z_iconst (v := 2) O dL_law_1025 rfl ?_
  refine z_iadd O dL_law_1026 ?_
  refine z_sldj 2 O S dL_law_1027 (by unfold vp_in; decide) (by decide) ?_
  refine z_aload_n O dL_law_1028 rfl 4 rfl ?_
  refine z_iload O dL_law_1029 0 rfl ?_
  refine z_iconst (v := 3) O dL_law_1031 rfl ?_
  refine z_iadd O dL_law_1032 ?_
  refine z_sldj 3 O S dL_law_1033 (by unfold vp_in; decide) (by decide) ?_
  refine z_callV0 (As := [.int (xs 1), .int (xs 2), .int (xs 3)]) (st := [.int 0]) O zc_L_112 (z_part sm (s_X15_store F.2.1)) km rfl (zRm_of hR (by decide) (by decide)) (Nat.le_of_ble_eq_true rfl) dL_law_1034 rfl rfl rfl (fun M2 v2 h2 => ?_)
  obtain ⟨N2, rfl, -, hN2⟩ := h2
  refine z_icmp_eq O 1462 dL_law_1037 (by decide) (fun _ => ?_) (fun c => absurd rfl c)
  exact z_to [0, 4] rfl (law_end O hR hq S (Nat.le_refl _))
set_option maxRecDepth 100000 in
set_option maxHeartbeats 4000000 in
theorem law_20 {G : zG} {X : zX} (O : zOK G X cL_law 7 RL (some .boolean) "law") (hR : X.R = room_1) (hq : X.q = fun _ v => v = some (.int 1)) {b : Nat} {xs : Nat → Int32} {M Nx Nm : zM} {x m o n k : Nat} (S : zS X b 6 xs) (F : zFr M Nx Nm x m o) (hn : n + 100 ≤ X.R.cells) (hk : k + 1000 ≤ X.R.slots) : zW G X 7 M n k 1042 [(4, .int 0), (3, .ref o), (2, .ref m), (1, .ref x), (0, .ref b)] [] := by
  obtain ⟨sx, sm⟩ : zSub Nx M ∧ zSub Nm M := ⟨F.2.2.1, F.2.2.2.1⟩
  have kx : M.1 x = 11 := by rw [(zSub_at sx (by rw [F.1.k]; decide)).1]; exact F.1.k
  refine z_aload_n O dL_law_1042 rfl 3 rfl ?_
  refine z_aload_n O dL_law_1043 rfl 4 rfl ?_
  refine z_iload O dL_law_1044 0 rfl ?_
  refine z_iconst (v := 1) O dL_law_1046 rfl ?_
  refine z_iadd O dL_law_1047 ?_
  refine z_sldj 1 O S dL_law_1048 (by unfold vp_in; decide) (by decide) ?_
  refine z_aload_n O dL_law_1049 rfl 4 rfl ?_
  refine z_iload O dL_law_1050 0 rfl ?_
  refine z_iconst (v := 2) O dL_law_1052 rfl ?_
  refine z_iadd O dL_law_1053 ?_
  refine z_sldj 2 O S dL_law_1054 (by unfold vp_in; decide) (by decide) ?_
  refine z_callV0 (As := [.int (xs 1), .int (xs 2)]) (st := []) O zc_L_113 (z_part sx (s_X11_reply F.1)) kx rfl (zRm_of hR (by decide) (by decide)) (Nat.le_of_ble_eq_true rfl) dL_law_1055 rfl rfl rfl (fun M1 v1 h1 => ?_)
  obtain ⟨N1, rfl, -, hN1⟩ := h1
  replace sm := (hN1 Nm sm F.2.2.2.2.1).1
  have km : M1.1 m = 15 := by rw [(zSub_at sm (by rw [F.2.1.k]; decide)).1]; exact F.2.1.k
  refine z_aload_n O dL_law_1058 rfl 2 rfl ?_
  refine z_aload_n O dL_law_1059 rfl 4 rfl ?_
  refine z_iload O dL_law_1060 0 rfl ?_
  refine z_iconst (v := 1) O dL_law_1062 rfl ?_
  refine z_iadd O dL_law_1063 ?_
  refine z_sldj 1 O S dL_law_1064 (by unfold vp_in; decide) (by decide) ?_
  refine z_aload_n O dL_law_1065 rfl 4 rfl ?_
  refine z_iload O dL_law_1066 0 rfl ?_
  refine z_iconst (v := 2) O dL_law_1068 rfl ?_
  refine z_iadd O dL_law_1069 ?_
  refine z_sldj 2 O S dL_law_1070 (by unfold vp_in; decide) (by decide) ?_
  refine z_callV0 (As := [.int (xs 1), .int (xs 2)]) (st := [.int (-1)]) O zc_L_116 (z_part sm (s_X15_reply F.2.1)) km rfl (zRm_of hR (by decide) (by decide)) (Nat.le_of_ble_eq_true rfl) dL_law_1071 rfl rfl rfl (fun M2 v2 h2 => ?_)
  obtain ⟨N2, rfl, -, hN2⟩ := h2
  refine z_icmp_eq O 1462 dL_law_1074 (by decide) (fun _ => ?_) (fun c => absurd rfl c)
  exact z_to [0, 4] rfl (law_end O hR hq S (Nat.le_refl _))
set_option maxRecDepth 100000 in
set_option maxHeartbeats 4000000 in
theorem law_21 {G : zG} {X : zX} (O : zOK G X cL_law 7 RL (some .boolean) "law") (hR : X.R = room_1) (hq : X.q = fun _ v => v = some (.int 1)) {b : Nat} {xs : Nat → Int32} {M Nx Nm : zM} {x m o n k : Nat} (S : zS X b 6 xs) (F : zFr M Nx Nm x m o) (hn : n + 100 ≤ X.R.cells) (hk : k + 1000 ≤ X.R.slots) : zW G X 7 M n k 1079 [(4, .int 0), (3, .ref o), (2, .ref m), (1, .ref x), (0, .ref b)] [] := by
  obtain ⟨sx, sm⟩ : zSub Nx M ∧ zSub Nm M := ⟨F.2.2.1, F.2.2.2.1⟩
  have kx : M.1 x = 11 := by rw [(zSub_at sx (by rw [F.1.k]; decide)).1]; exact F.1.k
  refine z_aload_n O dL_law_1079 rfl 3 rfl ?_
  refine z_aload_n O dL_law_1080 rfl 4 rfl ?_
  refine z_iload O dL_law_1081 0 rfl ?_
  refine z_iconst (v := 1) O dL_law_1083 rfl ?_
  refine z_iadd O dL_law_1084 ?_
  refine z_sldj 1 O S dL_law_1085 (by unfold vp_in; decide) (by decide) ?_
  refine z_aload_n O dL_law_1086 rfl 4 rfl ?_
  refine z_iload O dL_law_1087 0 rfl ?_
  refine z_iconst (v := 2) O dL_law_1089 rfl ?_
  refine z_iadd O dL_law_1090 ?_
  refine z_sldj 2 O S dL_law_1091 (by unfold vp_in; decide) (by decide) ?_
  refine z_callV0 (As := [.int (xs 1), .int (xs 2)]) (st := []) O zc_L_117 (z_part sx (s_X11_connection F.1)) kx rfl (zRm_of hR (by decide) (by decide)) (Nat.le_of_ble_eq_true rfl) dL_law_1092 rfl rfl rfl (fun M1 v1 h1 => ?_)
  obtain ⟨N1, rfl, -, hN1⟩ := h1
  replace sm := (hN1 Nm sm F.2.2.2.2.1).1
  have km : M1.1 m = 15 := by rw [(zSub_at sm (by rw [F.2.1.k]; decide)).1]; exact F.2.1.k
  refine z_aload_n O dL_law_1095 rfl 2 rfl ?_
  refine z_aload_n O dL_law_1096 rfl 4 rfl ?_
  refine z_iload O dL_law_1097 0 rfl ?_
  refine z_iconst (v := 1) O dL_law_1099 rfl ?_
  refine z_iadd O dL_law_1100 ?_
  refine z_sldj 1 O S dL_law_1101 (by unfold vp_in; decide) (by decide) ?_
  refine z_aload_n O dL_law_1102 rfl 4 rfl ?_
  refine z_iload O dL_law_1103 0 rfl ?_
  refine z_iconst (v := 2) O dL_law_1105 rfl ?_
  refine z_iadd O dL_law_1106 ?_
  refine z_sldj 2 O S dL_law_1107 (by unfold vp_in; decide) (by decide) ?_
  refine z_callV0 (As := [.int (xs 1), .int (xs 2)]) (st := [.int (-1)]) O zc_L_120 (z_part sm (s_X15_connection F.2.1)) km rfl (zRm_of hR (by decide) (by decide)) (Nat.le_of_ble_eq_true rfl) dL_law_1108 rfl rfl rfl (fun M2 v2 h2 => ?_)
  obtain ⟨N2, rfl, -, hN2⟩ := h2
  refine z_icmp_eq O 1462 dL_law_1111 (by decide) (fun _ => ?_) (fun c => absurd rfl c)
  exact z_to [0, 4] rfl (law_end O hR hq S (Nat.le_refl _))
set_option maxRecDepth 100000 in
set_option maxHeartbeats 4000000 in
theorem law_22 {G : zG} {X : zX} (O : zOK G X cL_law 7 RL (some .boolean) "law") (hR : X.R = room_1) (hq : X.q = fun _ v => v = some (.int 1)) {b : Nat} {xs : Nat → Int32} {M Nx Nm : zM} {x m o n k : Nat} (S : zS X b 6 xs) (F : zFr M Nx Nm x m o) (hn : n + 100 ≤ X.R.cells) (hk : k + 1000 ≤ X.R.slots) : zW G X 7 M n k 1116 [(4, .int 0), (3, .ref o), (2, .ref m), (1, .ref x), (0, .ref b)] [] := by
  obtain ⟨sx, sm⟩ : zSub Nx M ∧ zSub Nm M := ⟨F.2.2.1, F.2.2.2.1⟩
  have kx : M.1 x = 11 := by rw [(zSub_at sx (by rw [F.1.k]; decide)).1]; exact F.1.k
  refine z_aload_n O dL_law_1116 rfl 3 rfl ?_
  refine z_aload_n O dL_law_1117 rfl 4 rfl ?_
  refine z_iload O dL_law_1118 0 rfl ?_
  refine z_iconst (v := 1) O dL_law_1120 rfl ?_
  refine z_iadd O dL_law_1121 ?_
  refine z_sldj 1 O S dL_law_1122 (by unfold vp_in; decide) (by decide) ?_
  refine z_aload_n O dL_law_1123 rfl 4 rfl ?_
  refine z_iload O dL_law_1124 0 rfl ?_
  refine z_iconst (v := 2) O dL_law_1126 rfl ?_
  refine z_iadd O dL_law_1127 ?_
  refine z_sldj 2 O S dL_law_1128 (by unfold vp_in; decide) (by decide) ?_
  refine z_callV0 (As := [.int (xs 1), .int (xs 2)]) (st := []) O zc_L_121 (z_part sx (s_X11_busy F.1)) kx rfl (zRm_of hR (by decide) (by decide)) (Nat.le_of_ble_eq_true rfl) dL_law_1129 rfl rfl rfl (fun M1 v1 h1 => ?_)
  obtain ⟨N1, rfl, -, hN1⟩ := h1
  replace sm := (hN1 Nm sm F.2.2.2.2.1).1
  have km : M1.1 m = 15 := by rw [(zSub_at sm (by rw [F.2.1.k]; decide)).1]; exact F.2.1.k
  refine z_aload_n O dL_law_1132 rfl 2 rfl ?_
  refine z_aload_n O dL_law_1133 rfl 4 rfl ?_
  refine z_iload O dL_law_1134 0 rfl ?_
  refine z_iconst (v := 1) O dL_law_1136 rfl ?_
  refine z_iadd O dL_law_1137 ?_
  refine z_sldj 1 O S dL_law_1138 (by unfold vp_in; decide) (by decide) ?_
  refine z_aload_n O dL_law_1139 rfl 4 rfl ?_
  refine z_iload O dL_law_1140 0 rfl ?_
  refine z_iconst (v := 2) O dL_law_1142 rfl ?_
  refine z_iadd O dL_law_1143 ?_
  refine z_sldj 2 O S dL_law_1144 (by unfold vp_in; decide) (by decide) ?_
  refine z_callV0 (As := [.int (xs 1), .int (xs 2)]) (st := [.int 0]) O zc_L_124 (z_part sm (s_X15_busy F.2.1)) km rfl (zRm_of hR (by decide) (by decide)) (Nat.le_of_ble_eq_true rfl) dL_law_1145 rfl rfl rfl (fun M2 v2 h2 => ?_)
  obtain ⟨N2, rfl, -, hN2⟩ := h2
  refine z_icmp_eq O 1462 dL_law_1148 (by decide) (fun _ => ?_) (fun c => absurd rfl c)
  exact z_to [0, 4] rfl (law_end O hR hq S (Nat.le_refl _))
set_option maxRecDepth 100000 in
set_option maxHeartbeats 4000000 in
theorem law_23 {G : zG} {X : zX} (O : zOK G X cL_law 7 RL (some .boolean) "law") (hR : X.R = room_1) (hq : X.q = fun _ v => v = some (.int 1)) {b : Nat} {xs : Nat → Int32} {M Nx Nm : zM} {x m o n k : Nat} (S : zS X b 6 xs) (F : zFr M Nx Nm x m o) (hn : n + 100 ≤ X.R.cells) (hk : k + 1000 ≤ X.R.slots) : zW G X 7 M n k 1153 [(4, .int 0), (3, .ref o), (2, .ref m), (1, .ref x), (0, .ref b)] [] := by
  obtain ⟨sx, sm⟩ : zSub Nx M ∧ zSub Nm M := ⟨F.2.2.1, F.2.2.2.1⟩
  have kx : M.1 x = 11 := by rw [(zSub_at sx (by rw [F.1.k]; decide)).1]; exact F.1.k
  refine z_aload_n O dL_law_1153 rfl 3 rfl ?_
  refine z_aload_n O dL_law_1154 rfl 4 rfl ?_
  refine z_iload O dL_law_1155 0 rfl ?_
  refine z_iconst (v := 1) O dL_law_1157 rfl ?_
  refine z_iadd O dL_law_1158 ?_
  refine z_sldj 1 O S dL_law_1159 (by unfold vp_in; decide) (by decide) ?_
  refine z_aload_n O dL_law_1160 rfl 4 rfl ?_
  refine z_iload O dL_law_1161 0 rfl ?_
  refine z_iconst (v := 2) O dL_law_1163 rfl ?_
  refine z_iadd O dL_law_1164 ?_
  refine z_sldj 2 O S dL_law_1165 (by unfold vp_in; decide) (by decide) ?_
  refine z_aload_n O dL_law_1166 rfl 4 rfl ?_
  refine z_iload O dL_law_1167 0 rfl ?_
  refine z_iconst (v := 3) O dL_law_1169 rfl ?_
  refine z_iadd O dL_law_1170 ?_
  refine z_sldj 3 O S dL_law_1171 (by unfold vp_in; decide) (by decide) ?_
  refine z_aload_n O dL_law_1172 rfl 4 rfl ?_
  refine z_iload O dL_law_1173 0 rfl ?_
  refine z_iconst (v := 4) O dL_law_1175 rfl ?_
  refine z_iadd O dL_law_1176 ?_
  refine z_sldj 4 O S dL_law_1177 (by unfold vp_in; decide) (by decide) ?_
  refine z_aload_n O dL_law_1178 rfl 4 rfl ?_
  refine z_iload O dL_law_1179 0 rfl ?_
  refine z_iconst (v := 5) O dL_law_1181 rfl ?_
  refine z_iadd O dL_law_1182 ?_
  refine z_sldj 5 O S dL_law_1183 (by unfold vp_in; decide) (by decide) ?_
  refine z_callV0 (As := [.int (xs 1), .int (xs 2), .int (xs 3), .int (xs 4), .int (xs 5)]) (st := []) O zc_L_125 (z_part sx (s_X11_feed F.1)) kx rfl (zRm_of hR (by decide) (by decide)) (Nat.le_of_ble_eq_true rfl) dL_law_1184 rfl rfl rfl (fun M1 v1 h1 => ?_)
  obtain ⟨N1, rfl, -, hN1⟩ := h1
  replace sm := (hN1 Nm sm F.2.2.2.2.1).1
  have km : M1.1 m = 15 := by rw [(zSub_at sm (by rw [F.2.1.k]; decide)).1]; exact F.2.1.k
  refine z_aload_n O dL_law_1187 rfl 2 rfl ?_
  refine z_aload_n O dL_law_1188 rfl 4 rfl ?_
  refine z_iload O dL_law_1189 0 rfl ?_
  refine z_iconst (v := 1) O dL_law_1191 rfl ?_
  refine z_iadd O dL_law_1192 ?_
  refine z_sldj 1 O S dL_law_1193 (by unfold vp_in; decide) (by decide) ?_
  refine z_aload_n O dL_law_1194 rfl 4 rfl ?_
  refine z_iload O dL_law_1195 0 rfl ?_
  refine z_iconst (v := 2) O dL_law_1197 rfl ?_
  refine z_iadd O dL_law_1198 ?_
  refine z_sldj 2 O S dL_law_1199 (by unfold vp_in; decide) (by decide) ?_
  refine z_aload_n O dL_law_1200 rfl 4 rfl ?_
  refine z_iload O dL_law_1201 0 rfl ?_
  refine z_iconst (v := 3) O dL_law_1203 rfl ?_
  refine z_iadd O dL_law_1204 ?_
  refine z_sldj 3 O S dL_law_1205 (by unfold vp_in; decide) (by decide) ?_
  refine z_aload_n O dL_law_1206 rfl 4 rfl ?_
  refine z_iload O dL_law_1207 0 rfl ?_
  refine z_iconst (v := 4) O dL_law_1209 rfl ?_
  refine z_iadd O dL_law_1210 ?_
  refine z_sldj 4 O S dL_law_1211 (by unfold vp_in; decide) (by decide) ?_
  refine z_aload_n O dL_law_1212 rfl 4 rfl ?_
  refine z_iload O dL_law_1213 0 rfl ?_
  refine z_iconst (v := 5) O dL_law_1215 rfl ?_
  refine z_iadd O dL_law_1216 ?_
  refine z_sldj 5 O S dL_law_1217 (by unfold vp_in; decide) (by decide) ?_
  refine z_callV0 (As := [.int (xs 1), .int (xs 2), .int (xs 3), .int (xs 4), .int (xs 5)]) (st := [.int 20]) O zc_L_129 (z_part sm (s_X15_feed F.2.1)) km rfl (zRm_of hR (by decide) (by decide)) (Nat.le_of_ble_eq_true rfl) dL_law_1218 rfl rfl rfl (fun M2 v2 h2 => ?_)
  obtain ⟨N2, rfl, -, hN2⟩ := h2
  refine z_icmp_eq O 1462 dL_law_1221 (by decide) (fun _ => ?_) (fun c => absurd rfl c)
  exact z_to [0, 4] rfl (law_end O hR hq S (Nat.le_refl _))
set_option maxRecDepth 100000 in
set_option maxHeartbeats 4000000 in
theorem law_24 {G : zG} {X : zX} (O : zOK G X cL_law 7 RL (some .boolean) "law") (hR : X.R = room_1) (hq : X.q = fun _ v => v = some (.int 1)) {b : Nat} {xs : Nat → Int32} {M Nx Nm : zM} {x m o n k : Nat} (S : zS X b 6 xs) (F : zFr M Nx Nm x m o) (hn : n + 100 ≤ X.R.cells) (hk : k + 1000 ≤ X.R.slots) : zW G X 7 M n k 1226 [(4, .int 0), (3, .ref o), (2, .ref m), (1, .ref x), (0, .ref b)] [] := by
  obtain ⟨sx, sm⟩ : zSub Nx M ∧ zSub Nm M := ⟨F.2.2.1, F.2.2.2.1⟩
  have kx : M.1 x = 11 := by rw [(zSub_at sx (by rw [F.1.k]; decide)).1]; exact F.1.k
  refine z_aload_n O dL_law_1226 rfl 3 rfl ?_
  refine z_aload_n O dL_law_1227 rfl 4 rfl ?_
  refine z_iload O dL_law_1228 0 rfl ?_
  refine z_iconst (v := 1) O dL_law_1230 rfl ?_
  refine z_iadd O dL_law_1231 ?_
  refine z_sldj 1 O S dL_law_1232 (by unfold vp_in; decide) (by decide) ?_
  refine z_callV0 (As := [.int (xs 1)]) (st := []) O zc_L_130 (z_part sx (s_X11_end F.1)) kx rfl (zRm_of hR (by decide) (by decide)) (Nat.le_of_ble_eq_true rfl) dL_law_1233 rfl rfl rfl (fun M1 v1 h1 => ?_)
  obtain ⟨N1, rfl, -, hN1⟩ := h1
  replace sm := (hN1 Nm sm F.2.2.2.2.1).1
  have km : M1.1 m = 15 := by rw [(zSub_at sm (by rw [F.2.1.k]; decide)).1]; exact F.2.1.k
  refine z_aload_n O dL_law_1236 rfl 2 rfl ?_
  refine z_aload_n O dL_law_1237 rfl 4 rfl ?_
  refine z_iload O dL_law_1238 0 rfl ?_
  refine z_iconst (v := 1) O dL_law_1240 rfl ?_
  refine z_iadd O dL_law_1241 ?_
  refine z_sldj 1 O S dL_law_1242 (by unfold vp_in; decide) (by decide) ?_
  refine z_callV0 (As := [.int (xs 1)]) (st := [.int (zEnd ((xs 1)))]) O zc_L_133 (z_part sm (s_X15_end F.2.1)) km rfl (zRm_of hR (by decide) (by decide)) (Nat.le_of_ble_eq_true rfl) dL_law_1243 rfl rfl rfl (fun M2 v2 h2 => ?_)
  obtain ⟨N2, rfl, -, hN2⟩ := h2
  refine z_icmp_eq O 1462 dL_law_1246 (by decide) (fun _ => ?_) (fun c => absurd rfl c)
  exact z_to [0, 4] rfl (law_end O hR hq S (Nat.le_refl _))
set_option maxRecDepth 100000 in
set_option maxHeartbeats 4000000 in
theorem law_25 {G : zG} {X : zX} (O : zOK G X cL_law 7 RL (some .boolean) "law") (hR : X.R = room_1) (hq : X.q = fun _ v => v = some (.int 1)) {b : Nat} {xs : Nat → Int32} {M Nx Nm : zM} {x m o n k : Nat} (S : zS X b 6 xs) (F : zFr M Nx Nm x m o) (hn : n + 100 ≤ X.R.cells) (hk : k + 1000 ≤ X.R.slots) : zW G X 7 M n k 1251 [(4, .int 0), (3, .ref o), (2, .ref m), (1, .ref x), (0, .ref b)] [] := by
  obtain ⟨sx, sm⟩ : zSub Nx M ∧ zSub Nm M := ⟨F.2.2.1, F.2.2.2.1⟩
  have kx : M.1 x = 11 := by rw [(zSub_at sx (by rw [F.1.k]; decide)).1]; exact F.1.k
  refine z_aload_n O dL_law_1251 rfl 3 rfl ?_
  refine z_aload_n O dL_law_1252 rfl 4 rfl ?_
  refine z_iload O dL_law_1253 0 rfl ?_
  refine z_iconst (v := 1) O dL_law_1255 rfl ?_
  refine z_iadd O dL_law_1256 ?_
  refine z_sldj 1 O S dL_law_1257 (by unfold vp_in; decide) (by decide) ?_
  refine z_callV0 (As := [.int (xs 1)]) (st := []) O zc_L_134 (z_part sx (s_X11_raw F.1)) kx rfl (zRm_of hR (by decide) (by decide)) (Nat.le_of_ble_eq_true rfl) dL_law_1258 rfl rfl rfl (fun M1 v1 h1 => ?_)
  obtain ⟨N1, rfl, -, hN1⟩ := h1
  replace sm := (hN1 Nm sm F.2.2.2.2.1).1
  have km : M1.1 m = 15 := by rw [(zSub_at sm (by rw [F.2.1.k]; decide)).1]; exact F.2.1.k
  refine z_aload_n O dL_law_1261 rfl 2 rfl ?_
  refine z_aload_n O dL_law_1262 rfl 4 rfl ?_
  refine z_iload O dL_law_1263 0 rfl ?_
  refine z_iconst (v := 1) O dL_law_1265 rfl ?_
  refine z_iadd O dL_law_1266 ?_
  refine z_sldj 1 O S dL_law_1267 (by unfold vp_in; decide) (by decide) ?_
  refine z_callV0 (As := [.int (xs 1)]) (st := [.int (-1)]) O zc_L_137 (z_part sm (s_X15_raw F.2.1)) km rfl (zRm_of hR (by decide) (by decide)) (Nat.le_of_ble_eq_true rfl) dL_law_1268 rfl rfl rfl (fun M2 v2 h2 => ?_)
  obtain ⟨N2, rfl, -, hN2⟩ := h2
  refine z_icmp_eq O 1462 dL_law_1271 (by decide) (fun _ => ?_) (fun c => absurd rfl c)
  exact z_to [0, 4] rfl (law_end O hR hq S (Nat.le_refl _))
set_option maxRecDepth 100000 in
set_option maxHeartbeats 4000000 in
theorem law_26 {G : zG} {X : zX} (O : zOK G X cL_law 7 RL (some .boolean) "law") (hR : X.R = room_1) (hq : X.q = fun _ v => v = some (.int 1)) {b : Nat} {xs : Nat → Int32} {M Nx Nm : zM} {x m o n k : Nat} (S : zS X b 6 xs) (F : zFr M Nx Nm x m o) (hn : n + 100 ≤ X.R.cells) (hk : k + 1000 ≤ X.R.slots) : zW G X 7 M n k 1276 [(4, .int 0), (3, .ref o), (2, .ref m), (1, .ref x), (0, .ref b)] [] := by
  obtain ⟨sx, sm⟩ : zSub Nx M ∧ zSub Nm M := ⟨F.2.2.1, F.2.2.2.1⟩
  have kx : M.1 x = 11 := by rw [(zSub_at sx (by rw [F.1.k]; decide)).1]; exact F.1.k
  refine z_aload_n O dL_law_1276 rfl 3 rfl ?_
  refine z_aload_n O dL_law_1277 rfl 4 rfl ?_
  refine z_iload O dL_law_1278 0 rfl ?_
  refine z_iconst (v := 1) O dL_law_1280 rfl ?_
  refine z_iadd O dL_law_1281 ?_
  refine z_sldj 1 O S dL_law_1282 (by unfold vp_in; decide) (by decide) ?_
  refine z_aload_n O dL_law_1283 rfl 4 rfl ?_
  refine z_iload O dL_law_1284 0 rfl ?_
  refine z_iconst (v := 2) O dL_law_1286 rfl ?_
  refine z_iadd O dL_law_1287 ?_
  refine z_sldj 2 O S dL_law_1288 (by unfold vp_in; decide) (by decide) ?_
  refine z_aload_n O dL_law_1289 rfl 4 rfl ?_
  refine z_iload O dL_law_1290 0 rfl ?_
  refine z_iconst (v := 3) O dL_law_1292 rfl ?_
  refine z_iadd O dL_law_1293 ?_
  refine z_sldj 3 O S dL_law_1294 (by unfold vp_in; decide) (by decide) ?_
  refine z_callV0 (As := [.int (xs 1), .int (xs 2), .int (xs 3)]) (st := []) O zc_L_138 (z_part sx (s_X11_harm F.1)) kx rfl (zRm_of hR (by decide) (by decide)) (Nat.le_of_ble_eq_true rfl) dL_law_1295 rfl rfl rfl (fun M1 v1 h1 => ?_)
  obtain ⟨N1, rfl, -, hN1⟩ := h1
  replace sm := (hN1 Nm sm F.2.2.2.2.1).1
  have km : M1.1 m = 15 := by rw [(zSub_at sm (by rw [F.2.1.k]; decide)).1]; exact F.2.1.k
  refine z_aload_n O dL_law_1298 rfl 2 rfl ?_
  refine z_aload_n O dL_law_1299 rfl 4 rfl ?_
  refine z_iload O dL_law_1300 0 rfl ?_
  refine z_iconst (v := 1) O dL_law_1302 rfl ?_
  refine z_iadd O dL_law_1303 ?_
  refine z_sldj 1 O S dL_law_1304 (by unfold vp_in; decide) (by decide) ?_
  refine z_aload_n O dL_law_1305 rfl 4 rfl ?_
  refine z_iload O dL_law_1306 0 rfl ?_
  refine z_iconst (v := 2) O dL_law_1308 rfl ?_
  refine z_iadd O dL_law_1309 ?_
  refine z_sldj 2 O S dL_law_1310 (by unfold vp_in; decide) (by decide) ?_
  refine z_aload_n O dL_law_1311 rfl 4 rfl ?_
  refine z_iload O dL_law_1312 0 rfl ?_
  refine z_iconst (v := 3) O dL_law_1314 rfl ?_
  refine z_iadd O dL_law_1315 ?_
  refine z_sldj 3 O S dL_law_1316 (by unfold vp_in; decide) (by decide) ?_
  refine z_callV0 (As := [.int (xs 1), .int (xs 2), .int (xs 3)]) (st := [.int (zHarm ((xs 1)) ((xs 2)) ((xs 3)))]) O zc_L_141 (z_part sm (s_X15_harm F.2.1)) km rfl (zRm_of hR (by decide) (by decide)) (Nat.le_of_ble_eq_true rfl) dL_law_1317 rfl rfl rfl (fun M2 v2 h2 => ?_)
  obtain ⟨N2, rfl, -, hN2⟩ := h2
  refine z_icmp_eq O 1462 dL_law_1320 (by decide) (fun _ => ?_) (fun c => absurd rfl c)
  exact z_to [0, 4] rfl (law_end O hR hq S (Nat.le_refl _))
set_option maxRecDepth 100000 in
set_option maxHeartbeats 4000000 in
theorem law_29 {G : zG} {X : zX} (O : zOK G X cL_law 7 RL (some .boolean) "law") (hR : X.R = room_1) (hq : X.q = fun _ v => v = some (.int 1)) {b : Nat} {xs : Nat → Int32} {M Nx Nm : zM} {x m o n k : Nat} (S : zS X b 6 xs) (F : zFr M Nx Nm x m o) (hn : n + 100 ≤ X.R.cells) (hk : k + 1000 ≤ X.R.slots) : zW G X 7 M n k 1437 [(4, .int 0), (3, .ref o), (2, .ref m), (1, .ref x), (0, .ref b)] [] := by
  obtain ⟨sx, sm⟩ : zSub Nx M ∧ zSub Nm M := ⟨F.2.2.1, F.2.2.2.1⟩
  have kx : M.1 x = 11 := by rw [(zSub_at sx (by rw [F.1.k]; decide)).1]; exact F.1.k
  refine z_aload_n O dL_law_1437 rfl 3 rfl ?_
  refine z_aload_n O dL_law_1438 rfl 4 rfl ?_
  refine z_iload O dL_law_1439 0 rfl ?_
  refine z_iconst (v := 1) O dL_law_1441 rfl ?_
  refine z_iadd O dL_law_1442 ?_
  refine z_sldj 1 O S dL_law_1443 (by unfold vp_in; decide) (by decide) ?_
  refine z_callV0 (As := [.int (xs 1)]) (st := []) O zc_L_155 (z_part sx (s_X11_count F.1)) kx rfl (zRm_of hR (by decide) (by decide)) (Nat.le_of_ble_eq_true rfl) dL_law_1444 rfl rfl rfl (fun M1 v1 h1 => ?_)
  obtain ⟨N1, rfl, -, hN1⟩ := h1
  replace sm := (hN1 Nm sm F.2.2.2.2.1).1
  have km : M1.1 m = 15 := by rw [(zSub_at sm (by rw [F.2.1.k]; decide)).1]; exact F.2.1.k
  refine z_aload_n O dL_law_1447 rfl 2 rfl ?_
  refine z_aload_n O dL_law_1448 rfl 4 rfl ?_
  refine z_iload O dL_law_1449 0 rfl ?_
  refine z_iconst (v := 1) O dL_law_1451 rfl ?_
  refine z_iadd O dL_law_1452 ?_
  refine z_sldj 1 O S dL_law_1453 (by unfold vp_in; decide) (by decide) ?_
  refine z_callV0 (As := [.int (xs 1)]) (st := [.int (zCnt ((xs 1)))]) O zc_L_158 (z_part sm (s_X15_count F.2.1)) km rfl (zRm_of hR (by decide) (by decide)) (Nat.le_of_ble_eq_true rfl) dL_law_1454 rfl rfl rfl (fun M2 v2 h2 => ?_)
  obtain ⟨N2, rfl, -, hN2⟩ := h2
  refine z_icmp_eq O 1462 dL_law_1457 (by decide) (fun _ => ?_) (fun c => absurd rfl c)
  exact z_to [0, 4] rfl (law_end O hR hq S (Nat.le_refl _))
set_option maxRecDepth 100000 in
set_option maxHeartbeats 4000000 in
theorem law_27 {G : zG} {X : zX} (O : zOK G X cL_law 7 RL (some .boolean) "law") (hR : X.R = room_1) (hq : X.q = fun _ v => v = some (.int 1)) {b : Nat} {xs : Nat → Int32} (hE : zEx G X.A X.s) {M Nx Nm : zM} {x m o n k : Nat} (S : zS X b 6 xs) (F : zFr M Nx Nm x m o) (hn : n + 100 ≤ X.R.cells) (hk : k + 1000 ≤ X.R.slots) : zW G X 7 M n k 1325 [(4, .int 0), (3, .ref o), (2, .ref m), (1, .ref x), (0, .ref b)] [] := by
  obtain ⟨hF, hG, sx, sm, hd, ho⟩ := F
  refine z_aload_n O dL_law_1325 rfl 3 rfl ?_
  refine z_aload_n O dL_law_1326 rfl 4 rfl ?_
  refine z_iload O dL_law_1327 0 rfl ?_
  refine z_iconst (v := 1) O dL_law_1329 rfl ?_
  refine z_iadd O dL_law_1330 ?_
  refine z_sldj 1 O S dL_law_1331 (by unfold vp_in; decide) (by decide) ?_
  refine z_aload_n O dL_law_1332 rfl 1 rfl ?_
  refine z_callSW (np := 3) (As := [.ref x, .int (xs 1), .ref o]) (st := []) (mc := 1) (ms := 6) O zcw_L_142 ⟨by decide +kernel, by decide +kernel, by decide +kernel⟩ (s_L_step hF sx ⟨ho.1, ho.2.1, ho.2.2.1⟩) hE rfl (zRm_of hR (by decide) (by decide)) (Nat.le_of_ble_eq_true rfl) dL_law_1333 rfl rfl (by omega) (by omega) rfl (fun M1 v1 h1 => ?_)
  obtain ⟨rfl, ho1, hN1⟩ := h1
  replace sm := hN1 Nm sm hd ho.2.2.2
  have km : M1.1 m = 15 := by rw [(zSub_at sm (by rw [hG.k]; decide)).1]; exact hG.k
  refine z_istore (lv' := [(5, .int (zThr (xs 1))), (4, .int 0), (3, .ref o), (2, .ref m), (1, .ref x), (0, .ref b)]) O dL_law_1336 (by decide) rfl ?_
  refine z_aload_n O dL_law_1338 rfl 3 rfl ?_
  refine z_aload_n O dL_law_1339 rfl 5 rfl ?_
  refine z_iload O dL_law_1340 1 rfl ?_
  refine z_iconst (v := 1) O dL_law_1342 rfl ?_
  refine z_iadd O dL_law_1343 ?_
  refine z_sldj 1 O S dL_law_1344 (by unfold vp_in; decide) (by decide) ?_
  refine z_callV0 (As := [.int (xs 1)]) (st := []) O zc_L_147 (z_part sm (s_X15_step hG)) km rfl (zRm_of hR (by decide) (by decide)) (Nat.le_of_ble_eq_true rfl) dL_law_1345 rfl rfl rfl (fun M2 v2 h2 => ?_)
  obtain ⟨N2, ⟨rfl, k2, t2⟩, hs2, hN2⟩ := h2
  have hz := zSub_at hs2 (a := m) (by rw [k2]; decide)
  have km2 : M2.1 m = 15 := hz.1.trans k2
  have e2 : M2.2.2.1 m 0 = zThr (xs 1) := by rw [hz.2.2.1]; exact t2
  refine z_istore (lv' := [(6, .int 0), (5, .int (zThr (xs 1))), (4, .int 0), (3, .ref o), (2, .ref m), (1, .ref x), (0, .ref b)]) O dL_law_1348 (by decide) rfl ?_
  refine z_aload_n O dL_law_1350 rfl 4 rfl ?_
  refine z_callV0 (As := []) (st := []) O zc_L_148 (s_X15_thrown km2) km2 rfl (zRm_of hR (by decide) (by decide)) (Nat.le_of_ble_eq_true rfl) dL_law_1351 rfl rfl rfl (fun M3 v3 h3 => ?_)
  obtain ⟨rfl, rfl⟩ := h3
  rw [e2]
  refine z_iload O dL_law_1354 1 rfl ?_
  refine z_icmp_eq O 1361 dL_law_1356 (by decide) (fun _ => ?_) (fun c => absurd rfl c)
  refine z_iload O dL_law_1361 1 rfl ?_
  refine z_if_ne O 1378 dL_law_1363 (by decide) (fun _ => ?_) (fun c => ?_)
  · refine z_goto O 1462 dL_law_1378 (by decide) ?_
    exact z_to [2, 6] rfl (law_end O hR hq S (Nat.le_refl _))
  · obtain ⟨q1, q2, q3⟩ := ho1 c
    obtain ⟨w1, w2, w3, -⟩ := zSub_at (hN2 (zOne M1 o) zOne_sub (zOne_dis ho.2.2.2)).1 (a := o) (by simp [zOne, q1])
    have w1' : M3.1 o = 99 := w1.trans (by simp [zOne, q1])
    have w2' : M3.2.1 o = 1 := w2.trans q2
    have w3' : M3.2.2.1 o (Int32.toNatClampNeg 0) = 0 := by rw [w3]; exact q3
    refine z_aload_n O dL_law_1366 rfl 3 rfl ?_
    refine z_iconst (v := 0) O dL_law_1367 rfl ?_
    refine z_lald O dL_law_1368 w1' (by rw [w2']; unfold vp_in; decide) ?_
    rw [w3']
    refine z_iload O dL_law_1369 0 rfl ?_
    refine z_i2l O dL_law_1371 ?_
    refine z_lcmp O dL_law_1372 ?_
    refine z_if_eq O 1378 dL_law_1373 (by decide) (fun _ => ?_) (fun c => absurd (by decide) c)
    refine z_goto O 1462 dL_law_1378 (by decide) ?_
    exact z_to [2, 6] rfl (law_end O hR hq S (Nat.le_refl _))
set_option maxRecDepth 100000 in
set_option maxHeartbeats 4000000 in
theorem law_28 {G : zG} {X : zX} (O : zOK G X cL_law 7 RL (some .boolean) "law") (hR : X.R = room_1) (hq : X.q = fun _ v => v = some (.int 1)) {b : Nat} {xs : Nat → Int32} (hE : zEx G X.A X.s) {M Nx Nm : zM} {x m o n k : Nat} (S : zS X b 6 xs) (F : zFr M Nx Nm x m o) (hn : n + 100 ≤ X.R.cells) (hk : k + 1000 ≤ X.R.slots) : zW G X 7 M n k 1381 [(4, .int 0), (3, .ref o), (2, .ref m), (1, .ref x), (0, .ref b)] [] := by
  obtain ⟨hF, hG, sx, sm, hd, ho⟩ := F
  refine z_aload_n O dL_law_1381 rfl 3 rfl ?_
  refine z_aload_n O dL_law_1382 rfl 4 rfl ?_
  refine z_iload O dL_law_1383 0 rfl ?_
  refine z_iconst (v := 1) O dL_law_1385 rfl ?_
  refine z_iadd O dL_law_1386 ?_
  refine z_sldj 1 O S dL_law_1387 (by unfold vp_in; decide) (by decide) ?_
  refine z_aload_n O dL_law_1388 rfl 1 rfl ?_
  refine z_callSW (np := 3) (As := [.ref x, .int (xs 1), .ref o]) (st := []) (mc := 1) (ms := 6) O zcw_L_152 ⟨by decide +kernel, by decide +kernel, by decide +kernel⟩ (s_L_sent hF sx) hE rfl (zRm_of hR (by decide) (by decide)) (Nat.le_of_ble_eq_true rfl) dL_law_1389 rfl rfl (by omega) (by omega) rfl (fun M1 v1 h1 => ?_)
  obtain ⟨rfl, rfl⟩ := h1
  have km : M1.1 m = 15 := by rw [(zSub_at sm (by rw [hG.k]; decide)).1]; exact hG.k
  refine z_istore (lv' := [(5, .int 1), (4, .int 0), (3, .ref o), (2, .ref m), (1, .ref x), (0, .ref b)]) O dL_law_1392 (by decide) rfl ?_
  refine z_aload_n O dL_law_1394 rfl 3 rfl ?_
  refine z_aload_n O dL_law_1395 rfl 5 rfl ?_
  refine z_iload O dL_law_1396 1 rfl ?_
  refine z_iconst (v := 1) O dL_law_1398 rfl ?_
  refine z_iadd O dL_law_1399 ?_
  refine z_sldj 1 O S dL_law_1400 (by unfold vp_in; decide) (by decide) ?_
  refine z_callV0 (As := [.int (xs 1)]) (st := []) O zc_L_154 (z_part sm (s_X15_sent hG)) km rfl (zRm_of hR (by decide) (by decide)) (Nat.le_of_ble_eq_true rfl) dL_law_1401 rfl rfl rfl (fun M2 v2 h2 => ?_)
  obtain ⟨N2, ⟨rfl, k2, t2⟩, hs2, hN2⟩ := h2
  have hz := zSub_at hs2 (a := m) (by rw [k2]; decide)
  have km2 : M2.1 m = 15 := hz.1.trans k2
  have e2 : M2.2.2.1 m 0 = 1 := by rw [hz.2.2.1]; exact t2
  refine z_istore (lv' := [(6, .int 0), (5, .int 1), (4, .int 0), (3, .ref o), (2, .ref m), (1, .ref x), (0, .ref b)]) O dL_law_1404 (by decide) rfl ?_
  refine z_aload_n O dL_law_1406 rfl 4 rfl ?_
  refine z_callV0 (As := []) (st := []) O zc_L_148 (s_X15_thrown km2) km2 rfl (zRm_of hR (by decide) (by decide)) (Nat.le_of_ble_eq_true rfl) dL_law_1407 rfl rfl rfl (fun M3 v3 h3 => ?_)
  obtain ⟨rfl, rfl⟩ := h3
  rw [e2]
  refine z_iload O dL_law_1410 1 rfl ?_
  refine z_icmp_eq O 1417 dL_law_1412 (by decide) (fun _ => ?_) (fun c => absurd rfl c)
  refine z_iload O dL_law_1417 1 rfl ?_
  refine z_if_ne O 1434 dL_law_1419 (by decide) (fun _ => ?_) (fun c => absurd c (by decide))
  refine z_goto O 1462 dL_law_1434 (by decide) ?_
  exact z_to [2, 6] rfl (law_end O hR hq S (Nat.le_refl _))
set_option maxRecDepth 100000 in
set_option maxHeartbeats 4000000 in
theorem law_head {G : zG} {X : zX} (O : zOK G X cL_law 7 RL (some .boolean) "law") (hR : X.R = room_1) (hq : X.q = fun _ v => v = some (.int 1)) {b : Nat} {xs : Nat → Int32} (hE : zEx G X.A X.s) {L : Nat} {M Nx Nm : zM} {x m o n k : Nat} (S : zS X b L xs) (hL : L ≤ 6) (F : zFr M Nx Nm x m o) (hn : n + 100 ≤ X.R.cells) (hk : k + 1000 ≤ X.R.slots) : zW G X 7 M n k 23 [(4, .int 0), (3, .ref o), (2, .ref m), (1, .ref x), (0, .ref b)] [] := by
  refine z_iload O dL_law_23 0 rfl ?_
  refine z_aload_n O dL_law_25 rfl 4 rfl ?_
  refine z_slen O S dL_law_26 ?_
  refine z_bipush (v := 6) O dL_law_27 rfl ?_
  refine z_isub O dL_law_29 ?_
  refine z_icmp_gt O 1468 dL_law_30 (by decide) (fun c => ?_) (fun c => ?_)
  · refine z_iconst (v := 1) O dL_law_1468 rfl ?_
    exact z_zret O dL_law_1469 (Or.inr rfl) (by rw [hq])
  have h6 : L = 6 := Decidable.byContradiction (fun z => c ((zL6 hL).2 z))
  subst h6
  refine z_aload_n O dL_law_33 rfl 4 rfl ?_
  refine z_iload O dL_law_34 0 rfl ?_
  refine z_sldj 0 O S dL_law_36 (by unfold vp_in; decide) (by decide) ?_
  refine z_bipush (v := 31) O dL_law_37 rfl ?_
  refine z_iand O dL_law_39 ?_
  rcases zsw (xs 0 &&& 31) 0 29 (by decide) with c | ⟨j, hj, c⟩
  · refine z_tsOut O 1462 dL_law_40 c (by decide) ?_
    exact z_to [0, 4] rfl (law_end O hR hq S (Nat.le_refl _))
  · rcases zcas j 0 with hz | hz
    · subst hz
      refine z_tsIn (off := 136) O 176 dL_law_40 (by rw [c]; decide) (by rw [c]; decide) (by rw [c]; rfl) (by decide) ?_
      exact law_0 O hR hq S F hn hk
    rcases zcas j 1 with hz | hz
    · subst hz
      refine z_tsIn (off := 161) O 201 dL_law_40 (by rw [c]; decide) (by rw [c]; decide) (by rw [c]; rfl) (by decide) ?_
      exact law_1 O hR hq S F hn hk
    rcases zcas j 2 with hz | hz
    · subst hz
      refine z_tsIn (off := 198) O 238 dL_law_40 (by rw [c]; decide) (by rw [c]; decide) (by rw [c]; rfl) (by decide) ?_
      exact law_2 O hR hq S F hn hk
    rcases zcas j 3 with hz | hz
    · subst hz
      refine z_tsIn (off := 235) O 275 dL_law_40 (by rw [c]; decide) (by rw [c]; decide) (by rw [c]; rfl) (by decide) ?_
      exact law_3 O hR hq S F hn hk
    rcases zcas j 4 with hz | hz
    · subst hz
      refine z_tsIn (off := 272) O 312 dL_law_40 (by rw [c]; decide) (by rw [c]; decide) (by rw [c]; rfl) (by decide) ?_
      exact law_4 O hR hq S F hn hk
    rcases zcas j 5 with hz | hz
    · subst hz
      refine z_tsIn (off := 337) O 377 dL_law_40 (by rw [c]; decide) (by rw [c]; decide) (by rw [c]; rfl) (by decide) ?_
      exact law_5 O hR hq S F hn hk
    rcases zcas j 6 with hz | hz
    · subst hz
      refine z_tsIn (off := 398) O 438 dL_law_40 (by rw [c]; decide) (by rw [c]; decide) (by rw [c]; rfl) (by decide) ?_
      exact law_6 O hR hq S F hn hk
    rcases zcas j 7 with hz | hz
    · subst hz
      refine z_tsIn (off := 447) O 487 dL_law_40 (by rw [c]; decide) (by rw [c]; decide) (by rw [c]; rfl) (by decide) ?_
      exact law_7 O hR hq S F hn hk
    rcases zcas j 8 with hz | hz
    · subst hz
      refine z_tsIn (off := 496) O 536 dL_law_40 (by rw [c]; decide) (by rw [c]; decide) (by rw [c]; rfl) (by decide) ?_
      exact law_8 O hR hq S F hn hk
    rcases zcas j 9 with hz | hz
    · subst hz
      refine z_tsIn (off := 545) O 585 dL_law_40 (by rw [c]; decide) (by rw [c]; decide) (by rw [c]; rfl) (by decide) ?_
      exact law_9 O hR hq S F hn hk
    rcases zcas j 10 with hz | hz
    · subst hz
      refine z_tsIn (off := 582) O 622 dL_law_40 (by rw [c]; decide) (by rw [c]; decide) (by rw [c]; rfl) (by decide) ?_
      exact law_10 O hR hq S F hn hk
    rcases zcas j 11 with hz | hz
    · subst hz
      refine z_tsIn (off := 620) O 660 dL_law_40 (by rw [c]; decide) (by rw [c]; decide) (by rw [c]; rfl) (by decide) ?_
      exact law_11 O hR hq S F hn hk
    rcases zcas j 12 with hz | hz
    · subst hz
      refine z_tsIn (off := 657) O 697 dL_law_40 (by rw [c]; decide) (by rw [c]; decide) (by rw [c]; rfl) (by decide) ?_
      exact law_12 O hR hq S F hn hk
    rcases zcas j 13 with hz | hz
    · subst hz
      refine z_tsIn (off := 695) O 735 dL_law_40 (by rw [c]; decide) (by rw [c]; decide) (by rw [c]; rfl) (by decide) ?_
      exact law_13 O hR hq S F hn hk
    rcases zcas j 14 with hz | hz
    · subst hz
      refine z_tsIn (off := 744) O 784 dL_law_40 (by rw [c]; decide) (by rw [c]; decide) (by rw [c]; rfl) (by decide) ?_
      exact law_14 O hR hq S F hn hk
    rcases zcas j 15 with hz | hz
    · subst hz
      refine z_tsIn (off := 781) O 821 dL_law_40 (by rw [c]; decide) (by rw [c]; decide) (by rw [c]; rfl) (by decide) ?_
      exact law_15 O hR hq S F hn hk
    rcases zcas j 16 with hz | hz
    · subst hz
      refine z_tsIn (off := 806) O 846 dL_law_40 (by rw [c]; decide) (by rw [c]; decide) (by rw [c]; rfl) (by decide) ?_
      exact law_16 O hR hq S F hn hk
    rcases zcas j 17 with hz | hz
    · subst hz
      refine z_tsIn (off := 855) O 895 dL_law_40 (by rw [c]; decide) (by rw [c]; decide) (by rw [c]; rfl) (by decide) ?_
      exact law_17 O hR hq S F hn hk
    rcases zcas j 18 with hz | hz
    · subst hz
      refine z_tsIn (off := 916) O 956 dL_law_40 (by rw [c]; decide) (by rw [c]; decide) (by rw [c]; rfl) (by decide) ?_
      exact law_18 O hR hq S F hn hk
    rcases zcas j 19 with hz | hz
    · subst hz
      refine z_tsIn (off := 953) O 993 dL_law_40 (by rw [c]; decide) (by rw [c]; decide) (by rw [c]; rfl) (by decide) ?_
      exact law_19 O hR hq S F hn hk
    rcases zcas j 20 with hz | hz
    · subst hz
      refine z_tsIn (off := 1002) O 1042 dL_law_40 (by rw [c]; decide) (by rw [c]; decide) (by rw [c]; rfl) (by decide) ?_
      exact law_20 O hR hq S F hn hk
    rcases zcas j 21 with hz | hz
    · subst hz
      refine z_tsIn (off := 1039) O 1079 dL_law_40 (by rw [c]; decide) (by rw [c]; decide) (by rw [c]; rfl) (by decide) ?_
      exact law_21 O hR hq S F hn hk
    rcases zcas j 22 with hz | hz
    · subst hz
      refine z_tsIn (off := 1076) O 1116 dL_law_40 (by rw [c]; decide) (by rw [c]; decide) (by rw [c]; rfl) (by decide) ?_
      exact law_22 O hR hq S F hn hk
    rcases zcas j 23 with hz | hz
    · subst hz
      refine z_tsIn (off := 1113) O 1153 dL_law_40 (by rw [c]; decide) (by rw [c]; decide) (by rw [c]; rfl) (by decide) ?_
      exact law_23 O hR hq S F hn hk
    rcases zcas j 24 with hz | hz
    · subst hz
      refine z_tsIn (off := 1186) O 1226 dL_law_40 (by rw [c]; decide) (by rw [c]; decide) (by rw [c]; rfl) (by decide) ?_
      exact law_24 O hR hq S F hn hk
    rcases zcas j 25 with hz | hz
    · subst hz
      refine z_tsIn (off := 1211) O 1251 dL_law_40 (by rw [c]; decide) (by rw [c]; decide) (by rw [c]; rfl) (by decide) ?_
      exact law_25 O hR hq S F hn hk
    rcases zcas j 26 with hz | hz
    · subst hz
      refine z_tsIn (off := 1236) O 1276 dL_law_40 (by rw [c]; decide) (by rw [c]; decide) (by rw [c]; rfl) (by decide) ?_
      exact law_26 O hR hq S F hn hk
    rcases zcas j 27 with hz | hz
    · subst hz
      refine z_tsIn (off := 1285) O 1325 dL_law_40 (by rw [c]; decide) (by rw [c]; decide) (by rw [c]; rfl) (by decide) ?_
      exact law_27 O hR hq hE S F hn hk
    rcases zcas j 28 with hz | hz
    · subst hz
      refine z_tsIn (off := 1341) O 1381 dL_law_40 (by rw [c]; decide) (by rw [c]; decide) (by rw [c]; rfl) (by decide) ?_
      exact law_28 O hR hq hE S F hn hk
    have hz : j = 29 := by omega
    subst hz
    refine z_tsIn (off := 1397) O 1437 dL_law_40 (by rw [c]; decide) (by rw [c]; decide) (by rw [c]; rfl) (by decide) ?_
    exact law_29 O hR hq S F hn hk
def zM0 : zM := (fun _ => 0, fun _ => 0, fun _ _ => 0, fun _ _ => none)
set_option maxRecDepth 100000 in
set_option maxHeartbeats 4000000 in
theorem law_start {G : zG} {X : zX} (O : zOK G X cL_law 7 RL (some .boolean) "law") (hR : X.R = room_1) (hq : X.q = fun _ v => v = some (.int 1)) {b : Nat} {xs : Nat → Int32} (hE : zEx G X.A X.s) {L : Nat} (S : zS X b L xs) (hL : L ≤ 6) : zW G X 7 zM0 0 0 0 [(0, .ref b)] [] := by
  refine z_new O zn_L_8 dL_law_0 (by rw [hR]; decide) (by rw [hR]; decide) (fun x fx => ?_)
  refine z_dup O dL_law_3 rfl ?_
  refine z_callIk (As := []) (st := [.ref x]) (mc := 14) (ms := 364) O zc_L_20 (s_X11_init (zob.new rfl (by decide))) rfl (zRm_of hR (by decide) (by decide)) (Nat.le_of_ble_eq_true rfl) dL_law_4 rfl rfl (by rw [hR]; decide) (by rw [hR]; decide) rfl (fun M2 v2 h2 => ?_)
  obtain ⟨rfl, hF⟩ := h2
  refine z_astore_n (lv' := [(1, .ref x), (0, .ref b)]) O dL_law_7 rfl (by decide) rfl ?_
  refine z_new O zn_L_21 dL_law_8 (by rw [hR]; decide) (by rw [hR]; decide) (fun m fm => ?_)
  refine z_dup O dL_law_11 rfl ?_
  have hs0 : zSub (zn zM0 m 15 0) (zn M2 m 15 0) := zSub_mk (fun a ha => by
    by_cases h : a = m
    · subst h
      simp [zn]
    · simp [zn, h, zM0] at ha)
  refine z_callIk (As := []) (st := [.ref m]) (mc := 910) (ms := 16421) O zc_L_23 (z_part hs0 (s_X15_init (zob.new rfl (by decide)))) rfl (zRm_of hR (by decide) (by decide)) (Nat.le_of_ble_eq_true rfl) dL_law_12 rfl rfl (by rw [hR]; decide) (by rw [hR]; decide) rfl (fun M4 v4 h4 => ?_)
  obtain ⟨Nm, ⟨rfl, hG⟩, sm, hN⟩ := h4
  obtain ⟨sx, hd⟩ := hN M2 (zle.mkn rfl fm) (fun a => by
    by_cases h : a = m
    · exact Or.inl (by rw [h]; exact fm)
    · exact Or.inr (by simp [zn, h, zM0]))
  refine z_astore_n (lv' := [(2, .ref m), (1, .ref x), (0, .ref b)]) O dL_law_15 rfl (by decide) rfl ?_
  refine z_iconst (v := 1) O dL_law_16 rfl ?_
  refine z_newl (N := 1) O zac_long dL_law_17 (by decide) (by decide) (by decide) (by rw [hR]; decide) (by rw [hR]; decide) (fun o fo => ?_)
  refine z_astore_n (lv' := [(3, .ref o), (2, .ref m), (1, .ref x), (0, .ref b)]) O dL_law_19 rfl (by decide) rfl ?_
  refine z_iconst (v := 0) O dL_law_20 rfl ?_
  refine z_istore (lv' := [(4, .int 0), (3, .ref o), (2, .ref m), (1, .ref x), (0, .ref b)]) O dL_law_21 (by decide) rfl ?_
  have zero : ∀ N : zM, zSub N M4 → N.1 o = 0 := fun N h => by
    by_cases h0 : N.1 o = 0
    · exact h0
    · exact absurd ((h.1 o h0).1.symm.trans fo) h0
  refine law_head O hR hq hE S hL ⟨hF, hG, zle.trans sx (zle.mkn rfl fo), zle.trans sm (zle.mkn rfl fo), fun a => (hd a).symm, by simp [zn], by simp [zn], zero M2 sx, zero Nm sm⟩ (by rw [hR]; decide) (by rw [hR]; decide)
