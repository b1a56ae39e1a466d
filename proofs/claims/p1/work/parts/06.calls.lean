/-! ===== calls, returns, contracts ===== -/
section ZCALL
variable {G : zG} {X : zX} {cc : ByteArray} {nL : Nat} {own : String} {ret : Option FieldType} {nm : String} {M : zM} {n k pc : Nat} {lv : List (Nat × Value)} {st : List Value}
theorem zW_mono {p : Program} {l : Launch} {e : Env} {R : Room} {s : State} {m : MethodId} {args : Array Value} {below : List Frame} {meth : Method} {c : Code} {H : Heap} {locs : List Loc} {cells slots : Nat} {Q Q' : State → Prop} {g : JFrame} (h : ∀ t, Q t → Q' t) (k : W p l e R s m args below meth c H locs cells slots Q g) : W p l e R s m args below meth c H locs cells slots Q' g := by
  intro T hT X
  obtain ⟨t, a, b⟩ := k T hT X
  exact ⟨t, a, h t b⟩
theorem zA_in {A : Nat → Prop} {cA : Nat → ClassId} {ws : va_W} {H0 H : Heap} {locs : List Loc} (h1 : zRep cA M ws) (h3 : va_D A ws) (h4 : va_S A H0 H locs) (hA : ∀ q : Nat, H0.size ≤ q → A q) : ∀ q, zA M H.size q → A q := by
  intro q h
  rcases h with h | h
  · obtain ⟨j, hj⟩ := h1.1 q h
    exact h3.2 j _ hj
  · exact hA q (Nat.le_trans h4.1 h)
/-- behind a call -/
theorem z_back (O : zOK G X cc nL own ret nm) {mc ms : Nat} {a : Array Value} {st0 : List Value} {post : zM → Option Value → Prop} {H : Heap} {locs : List Loc} {ws : va_W} {ls : Array Slot} (h1 : zRep G.2.2 M ws) (h3 : va_D X.A ws) (h4 : va_S X.A X.s.heap H locs) (h5 : lv_has ls nL lv)
    (hr : va_Run X.p G.1 X.e X.R X.s X.m X.a X.b X.h X.c H locs n k mc ms (F0 X.m pc ls st0) st (zQ G (zA M H.size) post a) (zA M H.size)) (hn : n + mc ≤ X.R.cells) (hk : k + ms ≤ X.R.slots)
    (K : ∀ (M' : zM) (v : Option Value), post M' v → zW G X nL M' (n + mc) (k + ms) (pc + 3) lv (v.toList ++ st)) : W X.p G.1 X.e X.R X.s X.m X.a X.b X.h X.c H locs n k X.Q (F0 X.m pc ls st0) := by
  have hA := zA_in h1 h3 h4 O.2.2.2.2.2.2.2.2.2.1
  intro T hT Xs
  obtain ⟨v, st₀, t, T', L, h0, X', hL, e1, e2, ⟨⟨M', v', ws', hv, hp, hr', hP', hV', hD'⟩, hz, hkk⟩, stp⟩ := hr T hT Xs
  cases hv
  rw [h0] at hz hkk
  obtain ⟨t2, a1, b1⟩ := K M' v hp T'.heap (locs ++ L) ws' ls hr' (by rw [e1]; exact hP') (hD'.weaken (fun _ q _ h => hA q.1 h))
    ⟨Nat.le_trans h4.1 (by rw [e1]; exact hz), fun q g1 g2 => by rw [e1, hkk q (Nat.lt_of_lt_of_le g1 h4.1) (fun z => g2 (hA q z))]; exact h4.2.1 q g1 g2, fun q hq => by
      rcases List.mem_append.mp hq with h | h
      · exact h4.2.2 q h
      · exact hA _ (hL q h)⟩ h5 hn hk T' rfl X'
  exact ⟨t2, stp t2 a1, b1⟩
/-- what the tables say of a call of y by the pool's entry index of class own -/
def zCV (own : String) (index ci : Nat) (y : MethodName) (cy : ByteArray) (maxL : Nat) (ry : Option FieldType) (np : Nat) : Prop := ∃ (C : String) (T : u_T) (N : Nat), vwCl[ci]? = some (C, T, N) ∧ Cond.methodLink own index y ∈ zT ∧ Cond.instanceMethod y ∈ zT ∧ Cond.selects C y y ∈ zT ∧ Cond.initialized C ∈ zT ∧ Cond.code y cy maxL ry ∈ zT ∧ ci + 1 < 99 ∧ y.cls = C ∧ y.cls ≠ "java/lang/invoke/MethodHandle" ∧ y.cls ≠ "java/lang/invoke/VarHandle" ∧ (parseMethodDescriptor y.desc).map (fun d => d.parameters.length) = some np
def zCS (own : String) (index : Nat) (y : MethodName) (cy : ByteArray) (maxL : Nat) (ry : Option FieldType) (np : Nat) : Prop := Cond.methodLink own index y ∈ zT ∧ Cond.static y ∈ zT ∧ Cond.initialized y.cls ∈ zT ∧ Cond.code y cy maxL ry ∈ zT ∧ y.cls ≠ "java/lang/invoke/MethodHandle" ∧ y.cls ≠ "java/lang/invoke/VarHandle" ∧ (parseMethodDescriptor y.desc).map (fun d => d.parameters.length) = some np
def zCSN (own : String) (index : Nat) (y : MethodName) (cy : ByteArray) (maxL : Nat) (ry : Option FieldType) (np : Nat) : Prop := (∃ host : String, Cond.methodLinkNest own index y host ∈ zNW) ∧ Cond.static y ∈ zT ∧ Cond.initialized y.cls ∈ zT ∧ Cond.code y cy maxL ry ∈ zT ∧ y.cls ≠ "java/lang/invoke/MethodHandle" ∧ y.cls ≠ "java/lang/invoke/VarHandle" ∧ (parseMethodDescriptor y.desc).map (fun d => d.parameters.length) = some np
def zCI (own : String) (index : Nat) (y : MethodName) (cy : ByteArray) (maxL np : Nat) : Prop := Cond.methodLink own index y ∈ zT ∧ Cond.instanceMethod y ∈ zT ∧ Cond.initialized y.cls ∈ zT ∧ Cond.code y cy maxL none ∈ zT ∧ y.name = "<init>" ∧ y.cls ≠ "java/lang/invoke/MethodHandle" ∧ y.cls ≠ "java/lang/invoke/VarHandle" ∧ (parseMethodDescriptor y.desc).map (fun d => d.parameters.length) = some np
def zCIN (own : String) (index : Nat) (y : MethodName) (cy : ByteArray) (maxL np : Nat) : Prop := (∃ host : String, Cond.methodLinkNest own index y host ∈ zNW) ∧ Cond.instanceMethod y ∈ zT ∧ Cond.initialized y.cls ∈ zT ∧ Cond.code y cy maxL none ∈ zT ∧ y.name = "<init>" ∧ y.cls ≠ "java/lang/invoke/MethodHandle" ∧ y.cls ≠ "java/lang/invoke/VarHandle" ∧ (parseMethodDescriptor y.desc).map (fun d => d.parameters.length) = some np
variable {index np maxL ci b : Nat} {y : MethodName} {cy : ByteArray} {ry : Option FieldType} {rm : Room} {As : List Value} {post : zM → Option Value → Prop}
/-- room for the callee -/
def zRm (X : zX) (rm : Room) (maxL : Nat) : Prop := rm.frames + 1 ≤ X.R.frames ∧ 8 + (maxL + 11) + rm.locals ≤ X.R.locals
theorem z_callV (O : zOK G X cc nL own ret nm) (L : zCV own index ci y cy maxL ry np) (hM : zC G y cy maxL ry rm M (.ref b :: As) post) (hk : M.1 b = ci + 1) (hn : As.length = np) (hR : zRm X rm maxL) (hst : (st.map fun v => v.category).sum ≤ 8) (hd : decode cc pc = .ok (.invokevirtual index, 3)) (g1 : n + rm.cells ≤ X.R.cells) (g2 : k + rm.slots ≤ X.R.slots) {st0 : List Value} (hs : st0 = As.reverse ++ .ref b :: st)
    (K : ∀ (M' : zM) (v : Option Value), post M' v → zW G X nL M' (n + rm.cells) (k + rm.slots) (pc + 3) lv (v.toList ++ st)) : zW G X nL M n k pc lv st0 := by
  intro H locs ws ls h1 h2 h3 h4 h5 h6 h7
  obtain ⟨C, T, N, c1, c2, c3, c4, c5, c6, c7, c8, c9, c10, c11⟩ := L
  obtain ⟨q, hq⟩ := h1.1 b (by rw [hk]; omega)
  rw [zE_obj hk c7] at hq
  have hts := O.2.2.2.2.2.1
  refine z_back O h1 h3 h4 h5 (va_runV (Ts := zT) (own := own) (n := np) ⟨O.1, O.2.1, O.2.2.2.1, O.2.2.2.2.1, hts⟩ (hM H.size) (C := C) (maxL := maxL) (bytes := cy) (ret := ry) ⟨callB_of np hts (zT_good (fun _ h => h) c6) rfl rfl rfl (by rw [c8]; exact hts _ c5) (hts _ c2) ⟨c9, c10, c11⟩ hR, hts _ c3, hts _ c4⟩ ⟨zP_blind, va_recv O.2.2.2.2.2.2.1.1 h2 c1 hq, fun U hU hW => ⟨rfl, by rw [hU], O.2.2.2.2.2.2.1.moved hW, ws, h1, by rw [hU]; exact h2, h3.weaken (fun _ _ _ _ => trivial)⟩⟩ rfl hn h5.1 hs (lv_room hst) hd ⟨g1, g2⟩) g1 g2 K
theorem z_callS (O : zOK G X cc nL own ret nm) (L : zCS own index y cy maxL ry np) (hM : zC G y cy maxL ry rm M As post) (hn : As.length = np) (hR : zRm X rm maxL) (hst : (st.map fun v => v.category).sum ≤ 8) (hd : decode cc pc = .ok (.invokestatic index, 3)) (g1 : n + rm.cells ≤ X.R.cells) (g2 : k + rm.slots ≤ X.R.slots) {st0 : List Value} (hs : st0 = As.reverse ++ st)
    (K : ∀ (M' : zM) (v : Option Value), post M' v → zW G X nL M' (n + rm.cells) (k + rm.slots) (pc + 3) lv (v.toList ++ st)) : zW G X nL M n k pc lv st0 := by
  intro H locs ws ls h1 h2 h3 h4 h5 h6 h7
  obtain ⟨c2, c3, c5, c6, c9, c10, c11⟩ := L
  have hts := O.2.2.2.2.2.1
  refine z_back O h1 h3 h4 h5 (va_runS (Ts := zT) (own := own) (n := np) ⟨O.1, O.2.1, O.2.2.2.1, O.2.2.2.2.1, hts⟩ (hM H.size) (maxL := maxL) (bytes := cy) (ret := ry) ⟨callB_of np hts (zT_good (fun _ h => h) c6) rfl rfl rfl (hts _ c5) (hts _ c2) ⟨c9, c10, c11⟩ hR, hts _ c3⟩ ⟨zP_blind, fun U hU hW => ⟨rfl, by rw [hU], O.2.2.2.2.2.2.1.moved hW, ws, h1, by rw [hU]; exact h2, h3.weaken (fun _ _ _ _ => trivial)⟩⟩ rfl hn h5.1 hs (lv_room hst) hd ⟨g1, g2⟩) g1 g2 K
theorem z_callSN (O : zOK G X cc nL own ret nm) (L : zCSN own index y cy maxL ry np) (hM : zC G y cy maxL ry rm M As post) (hn : As.length = np) (hR : zRm X rm maxL) (hst : (st.map fun v => v.category).sum ≤ 8) (hd : decode cc pc = .ok (.invokestatic index, 3)) (g1 : n + rm.cells ≤ X.R.cells) (g2 : k + rm.slots ≤ X.R.slots) {st0 : List Value} (hs : st0 = As.reverse ++ st)
    (K : ∀ (M' : zM) (v : Option Value), post M' v → zW G X nL M' (n + rm.cells) (k + rm.slots) (pc + 3) lv (v.toList ++ st)) : zW G X nL M n k pc lv st0 := by
  intro H locs ws ls h1 h2 h3 h4 h5 h6 h7
  obtain ⟨⟨host, c2⟩, c3, c5, c6, c9, c10, c11⟩ := L
  have hts := O.2.2.2.2.2.1
  refine z_back O h1 h3 h4 h5 (va_runSN (Ts := zT) (own := own) (n := np) ⟨O.1, O.2.1, O.2.2.2.1, O.2.2.2.2.1, hts⟩ (hM H.size) (maxL := maxL) (bytes := cy) (ret := ry) (host := host) ⟨va_cnB np hts (zT_good (fun _ h => h) c6) rfl rfl rfl (O.2.2.2.2.2.2.1.2.2.1 _ c2) (hts _ c5) ⟨c9, c10, c11⟩ hR, hts _ c3, trivial⟩ ⟨zP_blind, fun U hU hW => ⟨rfl, by rw [hU], O.2.2.2.2.2.2.1.moved hW, ws, h1, by rw [hU]; exact h2, h3.weaken (fun _ _ _ _ => trivial)⟩⟩ rfl hn h5.1 hs (lv_room hst) hd ⟨g1, g2⟩) g1 g2 K
theorem z_callI (O : zOK G X cc nL own ret nm) (L : zCI own index y cy maxL np) (hM : zC G y cy maxL none rm M (.ref b :: As) post) (hn : As.length = np) (hR : zRm X rm maxL) (hst : (st.map fun v => v.category).sum ≤ 8) (hd : decode cc pc = .ok (.invokespecial index, 3)) (g1 : n + rm.cells ≤ X.R.cells) (g2 : k + rm.slots ≤ X.R.slots) {st0 : List Value} (hs : st0 = As.reverse ++ .ref b :: st)
    (K : ∀ (M' : zM) (v : Option Value), post M' v → zW G X nL M' (n + rm.cells) (k + rm.slots) (pc + 3) lv (v.toList ++ st)) : zW G X nL M n k pc lv st0 := by
  intro H locs ws ls h1 h2 h3 h4 h5 h6 h7
  obtain ⟨c2, c3, c5, c6, c8, c9, c10, c11⟩ := L
  have hts := O.2.2.2.2.2.1
  refine z_back O h1 h3 h4 h5 (va_runI (Ts := zT) (own := own) (n := np) ⟨O.1, O.2.1, O.2.2.2.1, O.2.2.2.2.1, hts⟩ (hM H.size) (maxL := maxL) (bytes := cy) ⟨callB_of np hts (zT_good (fun _ h => h) c6) rfl rfl rfl (hts _ c5) (hts _ c2) ⟨c9, c10, c11⟩ hR, c8, hts _ c3⟩ ⟨zP_blind, fun U hU hW => ⟨rfl, by rw [hU], O.2.2.2.2.2.2.1.moved hW, ws, h1, by rw [hU]; exact h2, h3.weaken (fun _ _ _ _ => trivial)⟩⟩ rfl hn h5.1 hs (lv_room hst) hd ⟨g1, g2⟩) g1 g2 K
theorem z_callIN (O : zOK G X cc nL own ret nm) (L : zCIN own index y cy maxL np) (hM : zC G y cy maxL none rm M (.ref b :: As) post) (hn : As.length = np) (hR : zRm X rm maxL) (hst : (st.map fun v => v.category).sum ≤ 8) (hd : decode cc pc = .ok (.invokespecial index, 3)) (g1 : n + rm.cells ≤ X.R.cells) (g2 : k + rm.slots ≤ X.R.slots) {st0 : List Value} (hs : st0 = As.reverse ++ .ref b :: st)
    (K : ∀ (M' : zM) (v : Option Value), post M' v → zW G X nL M' (n + rm.cells) (k + rm.slots) (pc + 3) lv (v.toList ++ st)) : zW G X nL M n k pc lv st0 := by
  intro H locs ws ls h1 h2 h3 h4 h5 h6 h7
  obtain ⟨⟨host, c2⟩, c3, c5, c6, c8, c9, c10, c11⟩ := L
  have hts := O.2.2.2.2.2.1
  refine z_back O h1 h3 h4 h5 (va_runIN (Ts := zT) (own := own) (n := np) ⟨O.1, O.2.1, O.2.2.2.1, O.2.2.2.2.1, hts⟩ (hM H.size) (maxL := maxL) (bytes := cy) (host := host) ⟨va_cnB np hts (zT_good (fun _ h => h) c6) rfl rfl rfl (O.2.2.2.2.2.2.1.2.2.1 _ c2) (hts _ c5) ⟨c9, c10, c11⟩ hR, c8, hts _ c3⟩ ⟨zP_blind, fun U hU hW => ⟨rfl, by rw [hU], O.2.2.2.2.2.2.1.moved hW, ws, h1, by rw [hU]; exact h2, h3.weaken (fun _ _ _ _ => trivial)⟩⟩ rfl hn h5.1 hs (lv_room hst) hd ⟨g1, g2⟩) g1 g2 K
/-- Object's own constructor -/
theorem z_obj (O : zOK G X cc nL own ret nm) {a : Nat} (h1w : Cond.methodLink own index objectInit ∈ zT) (h2w : Cond.instanceMethod objectInit ∈ zT) (h3w : Cond.code objectInit ⟨#[0xb1]⟩ 1 none ∈ zT) (hd : decode cc pc = .ok (.invokespecial index, 3)) (hf : 1 ≤ X.R.frames) (hl : (st.map fun v => v.category).sum + 12 ≤ X.R.locals) (K : zW G X nL M n k (pc + 3) lv st) : zW G X nL M n k pc lv (.ref a :: st) := by
  intro H locs ws ls h1 h2 h3 h4 h5 h6 h7
  have hts := O.2.2.2.2.2.1
  exact W.objInit O.1 O.2.1 O.2.2.2.2.1 (hts _ h1w) (hts _ h2w) (hts _ h3w) rfl (h5.1.trans O.2.2.2.1.symm) rfl hd hf (by show 2 * 0 + _ + 12 ≤ _; omega) (K H locs ws ls h1 h2 h3 h4 h5 h6 h7)
theorem z_end (O : zOK G X cc nL own ret nm) {H : Heap} {locs : List Loc} {ws : va_W} (v : Option Value) (h1 : zRep G.2.2 M ws) (h2 : va_P G.2.1 vwCl ws H) (h3 : va_D X.A ws) (h4 : va_S X.A X.s.heap H locs) (hq : X.q M v) (t : State) (ht : t.heap = H) (hW : X.s.WarmedH t.vm) : zQ G X.A X.q X.a X.s (.returned v) t := ⟨⟨M, v, ws, rfl, hq, h1, by rw [ht]; exact h2, O.2.2.2.2.2.2.1.moved hW, h3⟩, h4.F ht⟩
theorem z_iret (O : zOK G X cc nL own (some .int) nm) {v : Int32} (hd : decode cc pc = .ok (.ireturn, 1)) (hq : X.q M (some (.int v))) : zW G X nL M n k pc lv [.int v] := fun H locs ws ls h1 h2 h3 h4 h5 h6 h7 => zW_mono O.2.2.2.2.2.2.2.2.2.2 (W.widen h6 h7 (W.iret O.1 O.2.1 O.2.2.1 (fun t ht hW => z_end O _ h1 h2 h3 h4 hq t ht hW) h4.2.2 hd (hlocks := O.2.2.2.2.2.2.2.1)))
theorem z_zret (O : zOK G X cc nL own (some .boolean) nm) {v : Int32} (hd : decode cc pc = .ok (.ireturn, 1)) (hv : v = 0 ∨ v = 1) (hq : X.q M (some (.int v))) : zW G X nL M n k pc lv [.int v] := fun H locs ws ls h1 h2 h3 h4 h5 h6 h7 => zW_mono O.2.2.2.2.2.2.2.2.2.2 (W.widen h6 h7 (W.zret O.1 O.2.1 O.2.2.1 (by rcases hv with rfl | rfl <;> rfl) (fun t ht hW => z_end O _ h1 h2 h3 h4 hq t ht hW) h4.2.2 hd (hlocks := O.2.2.2.2.2.2.2.1)))
theorem z_lret (O : zOK G X cc nL own (some .long) nm) {v : Int64} (hd : decode cc pc = .ok (.lreturn, 1)) (hq : X.q M (some (.long v))) : zW G X nL M n k pc lv [.long v] := fun H locs ws ls h1 h2 h3 h4 h5 h6 h7 => zW_mono O.2.2.2.2.2.2.2.2.2.2 (W.widen h6 h7 (W.lret O.1 O.2.1 O.2.2.1 (fun t ht hW => z_end O _ h1 h2 h3 h4 hq t ht hW) h4.2.2 hd (hlocks := O.2.2.2.2.2.2.2.1)))
theorem z_vret (O : zOK G X cc nL own none nm) (hd : decode cc pc = .ok (.return_, 1)) (hq : X.q M none) : zW G X nL M n k pc lv [] := fun H locs ws ls h1 h2 h3 h4 h5 h6 h7 => zW_mono O.2.2.2.2.2.2.2.2.2.2 (W.widen h6 h7 (W.vret O.1 O.2.1 O.2.2.1 (fun t ht hW => z_end O _ h1 h2 h3 h4 hq t ht hW) h4.2.2 hd (hlocks := O.2.2.2.2.2.2.2.1)))
theorem zrf_or (r : Option Nat) : va_rf r = .null ∨ ∃ a, va_rf r = .ref a := by
  cases r with
  | none => exact Or.inl rfl
  | some a => exact Or.inr ⟨a, rfl⟩
theorem z_aretO {C : String} (O : zOK G X cc nL own (some (.object C)) nm) (r : Option Nat) (hd : decode cc pc = .ok (.areturn, 1)) (hq : X.q M (some (va_rf r))) : zW G X nL M n k pc lv [va_rf r] := fun H locs ws ls h1 h2 h3 h4 h5 h6 h7 => zW_mono O.2.2.2.2.2.2.2.2.2.2 (W.widen h6 h7 (W.aret O.1 O.2.1 O.2.2.1 (Or.inl ⟨_, rfl⟩) (zrf_or r) (fun t ht hW => z_end O _ h1 h2 h3 h4 hq t ht hW) h4.2.2 hd (hlocks := O.2.2.2.2.2.2.2.1)))
theorem z_aret {C : String} (O : zOK G X cc nL own (some (.object C)) nm) {a : Nat} (hd : decode cc pc = .ok (.areturn, 1)) (hq : X.q M (some (.ref a))) : zW G X nL M n k pc lv [.ref a] := z_aretO O (some a) hd hq
theorem z_aretN {C : String} (O : zOK G X cc nL own (some (.object C)) nm) (hd : decode cc pc = .ok (.areturn, 1)) (hq : X.q M (some .null)) : zW G X nL M n k pc lv [.null] := z_aretO O none hd hq
/-- a contract out of the walk from the method's entry -/
theorem z_intro {av : List Value} (hy : plainName y.cls = true) (hav : (lg_sl av).length ≤ maxL) (body : ∀ X : zX, zOK G X cy maxL y.cls ry y.name → X.R = rm → X.q = post → zW G X maxL M 0 0 0 (lv_args 0 av) []) : zC G y cy maxL ry rm M av post := by
  intro sz
  refine Met.ofW (cc := cy) (maxL := maxL) (ret := ry) hy rfl ?_
  intro p e s m args below meth c s₁ B hml hv
  obtain ⟨rfl, hsz, hV, ws, hr, hP, hD⟩ := hv
  have hts := atoms_spec B.pre
  subst hsz
  rw [lg_entry_eq]
  have hA : ∀ q : Nat, s.heap.size ≤ q → zA M s.heap.size q := fun q h => Or.inr h
  refine body (p, e, rm, s, m, av.toArray, below, meth, c, zA M s.heap.size, post, MQ below (zQ G (zA M s.heap.size) post) av.toArray s rm.cells rm.slots (zA M s.heap.size)) ⟨B.exec, B.bytes, B.returns, hml, findClass_of_methodNamed B.named, fun w hw => hts w (List.mem_cons_of_mem _ hw), hV, B.notSynchronized, (name_of_methodNamed B.named B.method).1, hA, fun _ h => h⟩ rfl rfl s.heap [] ws _ hr hP ⟨hD.1, fun j q hq => Or.inl (hr.2 j q hq).1⟩ va_S.rf (lv_entry av hav) (Nat.zero_le _) (Nat.zero_le _)
/-- a contract may promise less -/
theorem zC.weak {av : List Value} {post' : zM → Option Value → Prop} (h : zC G y cy maxL ry rm M av post) (hp : ∀ M' v, post M' v → post' M' v) : zC G y cy maxL ry rm M av post' := by
  intro sz
  have h1 := h sz
  intro p e ha hc hk s m args below hf happ hP hK
  obtain ⟨j, o, g1, g2, g3, ⟨⟨⟨M', v, ws, q1, q2, q3⟩, q4⟩, g5⟩⟩ := h1 p e ha hc hk s m args below hf happ hP hK
  exact ⟨j, o, g1, g2, g3, ⟨⟨M', v, ws, q1, hp _ _ q2, q3⟩, q4⟩, g5⟩
end ZCALL
