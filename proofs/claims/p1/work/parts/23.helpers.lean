/-! ===== the law's two helpers ===== -/
def rm_L_step : Room := { frames := 11, cells := 1, slots := 6, locals := 218 }
def rm_L_sent : Room := { frames := 7, cells := 1, slots := 6, locals := 111 }
def zCW (G : zG) (y : MethodName) (cy : ByteArray) (maxL : Nat) (ry : Option FieldType) (hh : List (Nat × Nat × Nat × Nat)) (rm : Room) (M : zM) (av : List Value) (post : zM → Option Value → Prop) : Prop :=
  ∀ sz : Nat, Met G.1 y (.codeWith y cy maxL ry hh :: zT) rm (va_Pc av (fun U => zP G M sz U ∧ zEx G (zA M sz) U)) (zQ G (zA M sz) post) rm.cells rm.slots (zA M sz)
theorem zw_intro {G : zG} {y : MethodName} {cy : ByteArray} {maxL : Nat} {ry : Option FieldType} {hh : List (Nat × Nat × Nat × Nat)} {rm : Room} {M : zM} {av : List Value} {post : zM → Option Value → Prop} (hy : plainName y.cls = true) (hav : (lg_sl av).length ≤ maxL)
    (body : ∀ X : zX, zOK G X cy maxL y.cls ry y.name → X.R = rm → X.q = post → X.c.exceptionTable.toList = tableOf hh → zEx G X.A X.s → zW G X maxL M 0 0 0 (lv_args 0 av) []) : zCW G y cy maxL ry hh rm M av post := by
  intro sz
  refine va_MetW (cc := cy) (maxL := maxL) (ret := ry) (hh := hh) hy rfl ?_
  intro p e s m args below meth c s₁ B hml hv
  obtain ⟨rfl, ⟨hsz, hV, ws, hr, hP, hD⟩, hE⟩ := hv
  have hts := atoms_spec B.pre
  have htab := vx_table (x := y) B (hts _ List.mem_cons_self)
  subst hsz
  rw [lg_entry_eq]
  have hA : ∀ q : Nat, s.heap.size ≤ q → zA M s.heap.size q := fun q h => Or.inr h
  exact body (p, e, rm, s, m, av.toArray, below, meth, c, zA M s.heap.size, post, MQ below (zQ G (zA M s.heap.size) post) av.toArray s rm.cells rm.slots (zA M s.heap.size)) ⟨B.exec, B.bytes, B.returns, hml, findClass_of_methodNamed B.named, fun w hw => hts w (List.mem_cons_of_mem _ hw), hV, B.notSynchronized, (name_of_methodNamed B.named B.method).1, hA, fun _ h => h⟩ rfl rfl htab hE s.heap [] ws _ hr hP ⟨hD.1, fun j q hq => Or.inl (hr.2 j q hq).1⟩ va_S.rf (lv_entry av hav) (Nat.zero_le _) (Nat.zero_le _)
section ZHELP
variable {G : zG} {X : zX} {cc : ByteArray} {nL : Nat} {own : String} {ret : Option FieldType} {nm : String} {M : zM} {n k pc : Nat} {lv : List (Nat × Value)} {st : List Value}
variable {index np maxL ci b : Nat} {y : MethodName} {cy : ByteArray} {ry : Option FieldType} {rm : Room} {As : List Value} {post : zM → Option Value → Prop} {E0 : String} {hh : List (Nat × Nat × Nat × Nat)}
/-- a virtual call that throws, caught here -/
theorem z_callVX (O : zOK G X cc nL own ret nm) (L : zCV own index ci y cy maxL ry np) (hM : zCx G y cy maxL ry rm M (.ref b :: As) E0) (hk : M.1 b = ci + 1) (hn : As.length = np) (hR : zRm X rm maxL) (hst : (st.map fun v => v.category).sum ≤ 8) (hd : decode cc pc = .ok (.invokevirtual index, 3)) (g1 : n + rm.cells ≤ X.R.cells) (g2 : k + rm.slots ≤ X.R.slots) {st0 : List Value} (hs : st0 = As.reverse ++ .ref b :: st) (hE : zEx G X.A X.s)
    (x : ExceptionTableEntry) (htab : X.c.exceptionTable.toList = [x]) (hx : covers x pc = true) (h0 : x.catchType ≠ 0) (hlink : Cond.classLink own x.catchType E0 ∈ zT) (hcast : Cond.castable E0 E0 ∈ zEW)
    (K : ∀ q : Nat, zW G X nL M (n + rm.cells) (k + rm.slots) x.handlerPc lv [.ref q]) : zW G X nL M n k pc lv st0 := by
  intro H locs ws ls h1 h2 h3 h4 h5 h6 h7
  obtain ⟨C, T, N, c1, c2, c3, c4, c5, c6, c7, c8, c9, c10, c11⟩ := L
  obtain ⟨q, hq⟩ := h1.1 b (by rw [hk]; omega)
  rw [zE_obj hk c7] at hq
  have hts := O.2.2.2.2.2.1
  have hA := zA_in h1 h3 h4 O.2.2.2.2.2.2.2.2.2.1
  have hr := vx_runV (g := F0 X.m pc ls st0) (rest := st) (locs := locs) (cells := n) (slots := k) (e := X.e) (below := X.b) (meth := X.h) (R := X.R) (Ts := zT) (own := own) (n := np) ⟨O.1, O.2.1, O.2.2.2.1, O.2.2.2.2.1, hts⟩ (hM H.size) (C := C) (maxL := maxL) (bytes := cy) (ret := ry) ⟨callB_of np hts (zT_good (fun _ h => h) c6) rfl rfl rfl (by rw [c8]; exact hts _ c5) (hts _ c2) ⟨c9, c10, c11⟩ hR, hts _ c3, hts _ c4⟩ ⟨zPx_blind, va_recv O.2.2.2.2.2.2.1.1 h2 c1 hq, fun U hU hW => ⟨rfl, ⟨by rw [hU], O.2.2.2.2.2.2.1.moved hW, ws, h1, by rw [hU]; exact h2, h3.weaken (fun _ _ _ _ => trivial)⟩, zEx.moved hW (fun a z1 z2 => by rw [hU]; exact h4.2.1 a z1 z2) hA hE⟩⟩ rfl hn h5.1 hs (lv_room hst) hd ⟨g1, g2⟩
  intro T1 hT1 Xs
  rcases hr T1 hT1 Xs with ⟨v, st₀, t, T2, L, h0', X', hL, e1, e2, hF, -⟩ | ⟨q9, st₀, t, T2, L, E, ce, h0', X', hL, e1, e2, ⟨rfl, ⟨ws', r1, r2, r3⟩, rF⟩, hce, hcv, hcl, stp⟩
  · exact hF.elim
  · obtain ⟨t2, a1, b1⟩ := zx_catch (rest := st) (pc := pc) (own := own) (E := E) (name := E) O.2.2.2.2.1 x htab hx h0 (hts _ hlink) (va_Nw.use rfl (hE.2.2.2.2.2 _ hcast)) (H := T2.heap) (by rw [e1]; exact hce) hcv hcl (K q9 T2.heap (locs ++ L) ws' ls r1 (by rw [e1]; exact r2) (r3.weaken (fun _ q _ h => hA q.1 h)) ⟨Nat.le_trans h4.1 (by rw [e1, ← h0']; exact rF.1), fun q z1 z2 => by rw [e1, rF.2 q (by rw [h0']; exact Nat.lt_of_lt_of_le z1 h4.1) (fun z => z2 (hA q z)), h0']; exact h4.2.1 q z1 z2, fun q hq => by
        rcases List.mem_append.mp hq with h | h
        · exact h4.2.2 q h
        · exact hA _ (hL q h)⟩ h5 g1 g2) T2 rfl X'
    exact ⟨t2, stp.trans a1, b1⟩
/-- a static call of a method with an exception table -/
theorem z_callSW (O : zOK G X cc nL own ret nm) (L : ∀ w ∈ va_wsS own index y (.codeWith y cy maxL ry hh :: zT), w ∈ zT) (hd3 : y.cls ≠ "java/lang/invoke/MethodHandle" ∧ y.cls ≠ "java/lang/invoke/VarHandle" ∧ (parseMethodDescriptor y.desc).map (fun d => d.parameters.length) = some np) (hM : zCW G y cy maxL ry hh rm M As post) (hE : zEx G X.A X.s) (hn : As.length = np) (hR : zRm X rm maxL) (hst : (st.map fun v => v.category).sum ≤ 8) (hd : decode cc pc = .ok (.invokestatic index, 3)) {mc ms : Nat} (hc : rm.cells = mc) (hs : rm.slots = ms) (g1 : n + mc ≤ X.R.cells) (g2 : k + ms ≤ X.R.slots) {st0 : List Value} (hs0 : st0 = As.reverse ++ st)
    (K : ∀ (M' : zM) (v : Option Value), post M' v → zW G X nL M' (n + mc) (k + ms) (pc + 3) lv (v.toList ++ st)) : zW G X nL M n k pc lv st0 := by
  subst hc
  subst hs
  intro H locs ws ls h1 h2 h3 h4 h5 h6 h7
  have hts := O.2.2.2.2.2.1
  have hA := zA_in h1 h3 h4 O.2.2.2.2.2.2.2.2.2.1
  exact z_back O h1 h3 h4 h5 (vx_runSW (Ts := zT) (own := own) (n := np) ⟨O.1, O.2.1, O.2.2.2.1, O.2.2.2.2.1, hts⟩ (hM H.size) (vx_cwSW (bytes := cy) (maxL := maxL) (ret := ry) (hh := hh) np hts (fun w hw => ⟨L w hw, good_of_word (List.mem_filter.mp (L w hw)).2⟩) rfl rfl rfl hd3 hR) ⟨zPx_blind, fun U hU hW => ⟨rfl, ⟨by rw [hU], O.2.2.2.2.2.2.1.moved hW, ws, h1, by rw [hU]; exact h2, h3.weaken (fun _ _ _ _ => trivial)⟩, zEx.moved hW (fun a z1 z2 => by rw [hU]; exact h4.2.1 a z1 z2) hA hE⟩⟩ rfl hn h5.1 hs0 (lv_room hst) hd ⟨g1, g2⟩) g1 g2 K
end ZHELP
/-- one cell of a memory -/
def zOne (M : zM) (o : Nat) : zM := (fun a => if a = o then M.1 a else 0, M.2.1, M.2.2.1, M.2.2.2)
theorem zOne_sub {M : zM} {o : Nat} : zSub (zOne M o) M := zSub_mk (fun a ha => by
  by_cases h : a = o
  · subst h
    simp [zOne]
  · simp [zOne, h] at ha)
theorem zOne_dis {M N : zM} {o : Nat} (h : N.1 o = 0) : zDis (zOne M o) N := fun a => by
  by_cases h1 : a = o
  · subst h1
    exact Or.inr h
  · exact Or.inl (by simp [zOne, h1])
theorem zSub_i {N M : zM} {o j : Nat} {v : Int32} (h : zSub N M) (ho : N.1 o = 0) : zSub N (zi M o j v) := zSub_mk (fun a ha => by
  obtain ⟨a1, a2, a3, a4⟩ := zSub_at h ha
  have hne : a ≠ o := fun z => ha (by rw [z]; exact ho)
  refine ⟨a1, a2, ?_, a4⟩
  funext i
  simp [zi, hne, a3])
set_option maxRecDepth 100000 in
set_option maxHeartbeats 4000000 in
theorem s_L_step {G : zG} {M Nx : zM} {x o : Nat} {p0 : Int32} (hF : FX Nx x) (hs : zSub Nx M) (ho : M.1 o = 99 ∧ M.2.1 o = 1 ∧ Nx.1 o = 0) : zCW G yL_step cL_step 4 (some .int) [(0, 9, 12, 13)] rm_L_step M [.ref x, .int p0, .ref o] (fun M' v => v = some (.int (zThr p0)) ∧ (zThr p0 = 0 → M'.1 o = 99 ∧ M'.2.1 o = 1 ∧ M'.2.2.1 o 0 = 0) ∧ ∀ N, zSub N M → zDis N Nx → N.1 o = 0 → zSub N M') := by
  refine zw_intro (by decide +kernel) (Nat.le_of_ble_eq_true rfl) (fun X O hR hq htab hE => ?_)
  have hkx : M.1 x = 11 := (hF.sub hs).k
  refine z_aload_n O dL_step_0 rfl 2 rfl ?_
  refine z_iconst (v := 0) O dL_step_1 rfl ?_
  refine z_aload_n O dL_step_2 rfl 0 rfl ?_
  refine z_iload_n O dL_step_3 rfl 1 rfl ?_
  by_cases hp : zw01 p0 1 200 = 0
  · refine z_callVX (As := [.int p0]) (st := [.int 0, .ref o]) O zc_L_7 (t_X11_step hp) hkx rfl (zRm_of hR (by decide) (by decide)) (Nat.le_of_ble_eq_true rfl) dL_step_4 (by rw [hR]; decide) (by rw [hR]; decide) rfl hE ⟨0, 9, 12, 13⟩ htab (by decide) (by decide) (zT_tab 709 (by decide +kernel) rfl) (by decide +kernel) (fun q => ?_)
    refine z_astore_n (lv' := [(3, .ref q), (0, .ref x), (1, .int p0), (2, .ref o)]) O dL_step_12 rfl (by decide) rfl ?_
    refine z_iconst (v := 1) O dL_step_13 rfl ?_
    refine z_iret O dL_step_14 ?_
    rw [hq]
    exact ⟨by rw [zThr, if_pos hp], fun c => absurd c (by rw [zThr, if_pos hp]; decide), fun N hN _ _ => hN⟩
  · refine z_callVk (As := [.int p0]) (mc := 1) (ms := 6) (st := [.int 0, .ref o]) O zc_L_7 (z_part hs (s_X11_step hF hp)) hkx rfl (zRm_of hR (by decide) (by decide)) (Nat.le_of_ble_eq_true rfl) dL_step_4 rfl rfl (by rw [hR]; decide) (by rw [hR]; decide) rfl (fun M' v hv => ?_)
    obtain ⟨M1', rfl, hs1, hN⟩ := hv
    have hz := zSub_at (hN (zOne M o) zOne_sub (zOne_dis ho.2.2)).1 (a := o) (by simp [zOne, ho.1])
    have k1 : M'.1 o = 99 := hz.1.trans (by simp [zOne, ho.1])
    have k2 : M'.2.1 o = 1 := hz.2.1.trans ho.2.1
    refine z_i2l O dL_step_7 ?_
    refine z_last O dL_step_8 k1 (by rw [k2]; unfold vp_in; decide) ?_
    refine z_goto O 15 dL_step_9 (by decide) ?_
    refine z_iconst (v := 0) O dL_step_15 rfl ?_
    refine z_iret O dL_step_16 ?_
    rw [hq]
    exact ⟨by rw [zThr, if_neg hp], fun _ => ⟨k1, k2, by simp [zi]⟩, fun N hN' hd ho' => zSub_i (hN N hN' hd).1 ho'⟩
set_option maxRecDepth 100000 in
set_option maxHeartbeats 4000000 in
theorem s_L_sent {G : zG} {M Nx : zM} {x o : Nat} {p0 : Int32} (hF : FX Nx x) (hs : zSub Nx M) : zCW G yL_sent cL_sent 4 (some .int) [(0, 9, 12, 18)] rm_L_sent M [.ref x, .int p0, .ref o] (fun M' v => v = some (.int 1) ∧ M' = M) := by
  refine zw_intro (by decide +kernel) (Nat.le_of_ble_eq_true rfl) (fun X O hR hq htab hE => ?_)
  have hF1 := hF.sub hs
  refine z_aload_n O dL_sent_0 rfl 2 rfl ?_
  refine z_iconst (v := 0) O dL_sent_1 rfl ?_
  refine z_aload_n O dL_sent_2 rfl 0 rfl ?_
  refine z_iload_n O dL_sent_3 rfl 1 rfl ?_
  refine z_callVX (As := [.int p0]) (st := [.int 0, .ref o]) O zc_L_15 (t_X11_sent hF1) hF1.k rfl (zRm_of hR (by decide) (by decide)) (Nat.le_of_ble_eq_true rfl) dL_sent_4 (by rw [hR]; decide) (by rw [hR]; decide) rfl hE ⟨0, 9, 12, 18⟩ htab (by decide) (by decide) (zT_tab 976 (by decide +kernel) rfl) (by decide +kernel) (fun q => ?_)
  refine z_astore_n (lv' := [(3, .ref q), (0, .ref x), (1, .int p0), (2, .ref o)]) O dL_sent_12 rfl (by decide) rfl ?_
  refine z_iconst (v := 1) O dL_sent_13 rfl ?_
  refine z_iret O dL_sent_14 ?_
  rw [hq]
  exact ⟨rfl, rfl⟩
