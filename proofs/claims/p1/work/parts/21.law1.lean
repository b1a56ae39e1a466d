/-! ===== parts of a memory, the script, exceptions ===== -/
abbrev zSub (N M : zM) : Prop := zle (fun _ => False) N M
theorem zSub_at {N M : zM} (h : zSub N M) {a : Nat} (ha : N.1 a ≠ 0) : M.1 a = N.1 a ∧ M.2.1 a = N.2.1 a ∧ M.2.2.1 a = N.2.2.1 a ∧ M.2.2.2 a = N.2.2.2 a := ⟨(h.1 a ha).1, (h.1 a ha).2, (h.2 a ha id).1, (h.2 a ha id).2⟩
theorem zSub_mk {N M : zM} (h : ∀ a, N.1 a ≠ 0 → M.1 a = N.1 a ∧ M.2.1 a = N.2.1 a ∧ M.2.2.1 a = N.2.2.1 a ∧ M.2.2.2 a = N.2.2.2 a) : zSub N M := ⟨fun a ha => ⟨(h a ha).1, (h a ha).2.1⟩, fun a ha _ => ⟨(h a ha).2.2.1, (h a ha).2.2.2⟩⟩
def zCo (M1 M : zM) : zM := (fun x => if M1.1 x = 0 then M.1 x else 0, M.2.1, M.2.2.1, M.2.2.2)
theorem zCo_eq {M1 M : zM} (h : zSub M1 M) : zU M1 (zCo M1 M) = M := by
  refine Prod.ext (funext fun x => ?_) (Prod.ext (funext fun x => ?_) (Prod.ext (funext fun x => funext fun j => ?_) (funext fun x => funext fun j => ?_)))
  all_goals
    by_cases h0 : M1.1 x = 0
    · simp [zU, zCo, h0]
    · obtain ⟨a1, a2, a3, a4⟩ := zSub_at h h0
      simp [zU, zCo, h0, a1, a2, a3, a4]
theorem z_part {G : zG} {y : MethodName} {cy : ByteArray} {maxL : Nat} {ry : Option FieldType} {rm : Room} {M1 M : zM} {av : List Value} {post : zM → Option Value → Prop} (hs : zSub M1 M) (h : zC G y cy maxL ry rm M1 av post) : zC G y cy maxL ry rm M av (fun M' v => ∃ M1' : zM, post M1' v ∧ zSub M1' M' ∧ ∀ N, zSub N M → zDis N M1 → zSub N M' ∧ zDis N M1') := by
  have hd : zDis M1 (zCo M1 M) := fun x => by
    by_cases h0 : M1.1 x = 0
    · exact Or.inl h0
    · exact Or.inr (by simp [zCo, h0])
  have h1 := z_frame hd h
  rw [zCo_eq hs] at h1
  refine h1.weak ?_
  rintro M' v ⟨M1', hp, hd', rfl⟩
  refine ⟨M1', hp, zSub_mk (fun a ha => ?_), fun N hN hNd => ?_⟩
  · simp [zU, ha]
  · have key : ∀ a, N.1 a ≠ 0 → M1'.1 a = 0 ∧ M1.1 a = 0 := fun a ha => by
      have h2 := (hNd a).resolve_left ha
      have h3 : (zCo M1 M).1 a = M.1 a := by simp [zCo, h2]
      have h4 : (zCo M1 M).1 a ≠ 0 := by rw [h3, (zSub_at hN ha).1]; exact ha
      exact ⟨(hd' a).resolve_right h4, h2⟩
    refine ⟨zSub_mk (fun a ha => ?_), fun a => ?_⟩
    · obtain ⟨k1, k2⟩ := key a ha
      obtain ⟨a1, a2, a3, a4⟩ := zSub_at hN ha
      refine ⟨?_, ?_, ?_, ?_⟩ <;> simp [zU, zCo, k1, k2, a1, a2, a3, a4]
    · by_cases ha : N.1 a = 0
      · exact Or.inl ha
      · exact Or.inr (key a ha).1
theorem FX.sub {M M' : zM} {x : Nat} (h : FX M x) (l : zSub M M') : FX M' x := by
  obtain ⟨f, r, rt, rh, rl, t, l1, h1, tp, la, hb, hc, hd, ob, hf, hr, ot, kl, oh, hrh, kb, kc, kd, kt, ol⟩ := h
  exact ⟨f, r, rt, rh, rl, t, l1, h1, tp, la, hb, hc, hd, ob.le l id, hf, hr, ot.le l id, kl.le l, oh.le l id, hrh, kb.le l, kc.le l, kd.le l, kt.le l, ol.le l id⟩
/-- the script: an array of L ints that the law may not write -/
def zS (X : zX) (b L : Nat) (xs : Nat → Int32) : Prop := va_X b L xs X.s X.s.heap ∧ b < X.s.heap.size ∧ ¬ X.A b
section ZSCR
variable {G : zG} {X : zX} {cc : ByteArray} {nL : Nat} {own : String} {ret : Option FieldType} {nm : String} {M : zM} {n k pc : Nat} {lv : List (Nat × Value)} {st : List Value} {b L : Nat} {xs : Nat → Int32}
theorem z_sld (O : zOK G X cc nL own ret nm) (S : zS X b L xs) {i : Int32} (hd : decode cc pc = .ok (.iaload, 1)) (hin : vp_in i L) (K : zW G X nL M n k (pc + 1) lv (.int (xs i.toNatClampNeg) :: st)) : zW G X nL M n k pc lv (.int i :: .ref b :: st) := fun H locs ws ls h1 h2 h3 h4 h5 h6 h7 => va_sld O.1 O.2.1 S.1 S.2.1 S.2.2 h4 hin hd (K H locs ws ls h1 h2 h3 h4 h5 h6 h7)
theorem z_slen (O : zOK G X cc nL own ret nm) (S : zS X b L xs) (hd : decode cc pc = .ok (.arraylength, 1)) (K : zW G X nL M n k (pc + 1) lv (.int (Int32.ofNat L) :: st)) : zW G X nL M n k pc lv (.ref b :: st) := fun H locs ws ls h1 h2 h3 h4 h5 h6 h7 => va_slen O.1 O.2.1 S.1 S.2.1 S.2.2 h4 hd (K H locs ws ls h1 h2 h3 h4 h5 h6 h7)
end ZSCR
/-- what a throw needs of the start -/
def zIA : String := "java/lang/IllegalArgumentException"
def zNE : String := "java/util/NoSuchElementException"
def zEW : List Cond := [.castable "java/lang/IllegalArgumentException" "java/lang/IllegalArgumentException", .castable "java/util/NoSuchElementException" "java/util/NoSuchElementException", .declares ⟨"java/lang/RuntimeException", "<init>", "(Ljava/lang/String;)V"⟩, .declares ⟨"java/lang/Exception", "<init>", "(Ljava/lang/String;)V"⟩, .declares ⟨"java/lang/Throwable", "<init>", "(Ljava/lang/String;)V"⟩]
def zEx (G : zG) (A : Nat → Prop) (U : State) : Prop := G.1.stackTraces = false ∧ vx_Zq Bundle.tN "UNASSIGNED_STACK" Bundle.steD A U U.heap ∧ vx_Zq Bundle.tN "SUPPRESSED_SENTINEL" Bundle.listD A U U.heap ∧ (∃ sa, vk_R RX11 287 "1 to 200 steps" sa U) ∧ (∃ sa, vk_R RX11 311 "no such byte was sent" sa U) ∧ ∀ w ∈ zEW, va_Nw w U
theorem zEW_form : ∀ w ∈ zEW, (∃ a b : String, w = .castable a b) ∨ ∃ y : MethodName, w = .declares y := by
  intro w hw
  simp only [zEW, List.mem_cons, List.not_mem_nil, or_false] at hw
  rcases hw with rfl | rfl | rfl | rfl | rfl <;> first | exact Or.inl ⟨_, _, rfl⟩ | exact Or.inr ⟨_, rfl⟩
theorem zEx.moved {G : zG} {A B : Nat → Prop} {s U : State} (hW : s.WarmedH U.vm) (hq : ∀ a : Nat, a < s.heap.size → ¬ A a → U.heap[a]? = s.heap[a]?) (hAB : ∀ q, B q → A q) (h : zEx G A s) : zEx G B U := by
  obtain ⟨h1, h2, h3, ⟨sa, h4⟩, ⟨sb, h5⟩, h6⟩ := h
  refine ⟨h1, ((vx_Zq.moved hW.alike h2).kept hq).narrow hAB, ((vx_Zq.moved hW.alike h3).kept hq).narrow hAB, ⟨sa, vk_R.warm hW h4⟩, ⟨sb, vk_R.warm hW h5⟩, fun w hw => ?_⟩
  rcases zEW_form w hw with ⟨a, b, rfl⟩ | ⟨y, rfl⟩
  · exact va_Nw.warmC hW (h6 _ hw)
  · exact va_Nw.warmD hW (h6 _ hw)
theorem zPx_blind {G : zG} {M : zM} {sz : Nat} {av : List Value} : FrameBlind (va_Pc av (fun U => zP G M sz U ∧ zEx G (zA M sz) U)) := fun a U g mk h => ⟨h.1, ⟨h.2.1.1, zV.same (u := U) (U := U.calling g mk a) rfl h.2.1.2.1, h.2.1.2.2⟩, zEx.moved (s := U) (U := U.calling g mk a) (State.WarmedH.refl U) (fun _ _ _ => rfl) (fun _ h => h) h.2.2⟩
/-- a contract of a method that throws E -/
def zXC (G : zG) (M : zM) (A : Nat → Prop) (E0 : String) : String → State → State → Prop := fun E st t => E = E0 ∧ (∃ ws : va_W, zRep G.2.2 M ws ∧ va_P G.2.1 vwCl ws t.heap ∧ va_D A ws) ∧ va_F A st t
def zCx (G : zG) (y : MethodName) (cy : ByteArray) (maxL : Nat) (ry : Option FieldType) (rm : Room) (M : zM) (av : List Value) (E0 : String) : Prop :=
  ∀ sz : Nat, vx_Met G.1 y (.code y cy maxL ry :: zT) rm (va_Pc av (fun U => zP G M sz U ∧ zEx G (zA M sz) U)) (fun _ _ _ _ => False) (zXC G M (zA M sz) E0) rm.cells rm.slots (zA M sz)
theorem zx_intro {G : zG} {y : MethodName} {cy : ByteArray} {maxL : Nat} {ry : Option FieldType} {rm : Room} {M : zM} {av : List Value} {E0 : String} (hy : plainName y.cls = true) (hav : (lg_sl av).length ≤ maxL)
    (body : ∀ X : zX, zOK G X cy maxL y.cls ry y.name → X.R = rm → (∀ x ∈ X.c.exceptionTable.toList, False) → zEx G X.A X.s → X.Q = vx_MQ X.b (fun _ _ _ _ => False) (zXC G M X.A E0) X.a X.s rm.cells rm.slots X.A → zW G X maxL M 0 0 0 (lv_args 0 av) []) : zCx G y cy maxL ry rm M av E0 := by
  intro sz
  refine vx_ofW (cc := cy) (maxL := maxL) (ret := ry) hy rfl ?_
  intro p e s m args below meth c s₁ B hml htab hv
  obtain ⟨rfl, ⟨hsz, hV, ws, hr, hP, hD⟩, hE⟩ := hv
  have hts := atoms_spec B.pre
  subst hsz
  rw [lg_entry_eq]
  have hA : ∀ q : Nat, s.heap.size ≤ q → zA M s.heap.size q := fun q h => Or.inr h
  refine body (p, e, rm, s, m, av.toArray, below, meth, c, zA M s.heap.size, (fun _ _ => False), vx_MQ below (fun _ _ _ _ => False) (zXC G M (zA M s.heap.size) E0) av.toArray s rm.cells rm.slots (zA M s.heap.size)) ⟨B.exec, B.bytes, B.returns, hml, findClass_of_methodNamed B.named, fun w hw => hts w (List.mem_cons_of_mem _ hw), hV, B.notSynchronized, (name_of_methodNamed B.named B.method).1, hA, fun t h => ?_⟩ rfl htab hE rfl s.heap [] ws _ hr hP ⟨hD.1, fun j q hq => Or.inl (hr.2 j q hq).1⟩ va_S.rf (lv_entry av hav) (Nat.zero_le _) (Nat.zero_le _)
  obtain ⟨o, -, -, ⟨⟨M9, v9, ws9, -, hF, -⟩, -⟩, -⟩ := h
  exact hF.elim
def zNm : List String := ["java/lang/RuntimeException", "java/lang/Exception"]
def zNm1 : List String := ["java/lang/Exception"]
/-- 'throw new E(text)' in our layer -/
theorem z_throw {G : zG} {X : zX} {cc : ByteArray} {nL : Nat} {own : String} {ret : Option FieldType} {nm : String} {M : zM} {n k pc : Nat} {lv : List (Nat × Value)} {rm : Room} {cls text : String} {ik is ic : Nat} (O : zOK G X cc nL own ret nm) (hR : X.R = rm) (htab : ∀ x ∈ X.c.exceptionTable.toList, False) (hE : zEx G X.A X.s) (hQ : X.Q = vx_MQ X.b (fun _ _ _ _ => False) (zXC G M X.A cls) X.a X.s rm.cells rm.slots X.A)
    (hcls : Bundle.fit cls = true) (hk : Cond.classLink own ik cls ∈ zT) (hini : Cond.initialized cls ∈ zT) (hstr : ∃ sa, vk_R own is text sa X.s) (h1 : ∀ w ∈ (vx_atS own ic cls zNm).filter goodWord, w ∈ zT) (h2 : ∀ w ∈ (vx_atS own ic cls zNm).filter (fun w => !goodWord w), w ∈ zEW)
    (hgood : ∀ w ∈ Cond.classLink own ik cls :: Cond.initialized cls :: vx_atS own ic cls zNm, vx_ot w = true)
    (d0 : decode cc pc = .ok (.new ik, 3)) (d3 : decode cc (pc + 3) = .ok (.dup, 1)) (d4 : decode cc (pc + 4) = .ok (.ldc_w is, 3)) (d7 : decode cc (pc + 7) = .ok (.invokespecial ic, 3)) (d10 : decode cc (pc + 10) = .ok (.athrow, 1))
    (g1 : 6 ≤ X.R.frames) (g2 : 82 ≤ X.R.locals) (g3 : n + 1 ≤ X.R.cells) (g4 : k + 6 ≤ X.R.slots) : zW G X nL M n k pc lv [] := by
  intro H locs ws ls r1 r2 r3 r4 r5 r6 r7
  obtain ⟨sa, hsa⟩ := hstr
  have hts := O.2.2.2.2.2.1
  rw [hQ]
  refine vx_throwSW (names := zNm) (cls := cls) (text := text) (ik := ik) (is := is) (ic := ic) (sa := sa) (A := X.A) O.1 O.2.1 hE.1 O.2.2.2.2.1 hcls (by decide +kernel) (hts _ hk) (hts _ hini) hsa (vx_hat (B := zEW) (fun w hw => hts w (h1 w hw)) h2 (fun w hw => ?_)) hgood hE.2.1 hE.2.2.1 r4 (r5.1.trans O.2.2.2.1.symm) d0 d3 d4 d7 d10 (fun x hx => (htab x hx).elim) ?_ ?_ g3 g4 O.2.2.2.2.2.2.2.1 (fun t ht hs hk => ⟨rfl, ⟨ws, r1, fun j q hq => ?_, r3⟩, ?_⟩) r4.2.2 (by rw [← hR]; exact g3) (by rw [← hR]; exact g4)
  · rcases zEW_form w hw with ⟨a, b, rfl⟩ | ⟨y, rfl⟩ <;> exact va_Nw.use rfl (hE.2.2.2.2.2 _ hw)
  · show 2 + 3 < X.R.frames
    omega
  · show 0 + (13 * 3 + 43) ≤ X.R.locals
    omega
  · exact (r2 j q hq).kept (hk q.1 (r2 j q hq).lt)
  · exact ⟨Nat.le_trans r4.1 hs, fun q z1 z2 => by rw [hk q (Nat.lt_of_lt_of_le z1 r4.1)]; exact r4.2.1 q z1 z2⟩
/-- the same, the class's own constructor by another entry -/
theorem z_throwN {G : zG} {X : zX} {cc : ByteArray} {nL : Nat} {own : String} {ret : Option FieldType} {nm : String} {M : zM} {n k pc : Nat} {lv : List (Nat × Value)} {rm : Room} {cls text Y1 : String} {i1 : Nat} {b1 : ByteArray} {ik is ic : Nat} (O : zOK G X cc nL own ret nm) (hR : X.R = rm) (htab : ∀ x ∈ X.c.exceptionTable.toList, False) (hE : zEx G X.A X.s) (hQ : X.Q = vx_MQ X.b (fun _ _ _ _ => False) (zXC G M X.A cls) X.a X.s rm.cells rm.slots X.A)
    (hcls : Bundle.fit cls = true) (hY1 : Bundle.fit Y1 = true) (e0 : decode b1 0 = .ok (.aload_n 0, 1)) (e1 : decode b1 1 = .ok (.aload_n 1, 1)) (e2 : decode b1 2 = .ok (.invokespecial i1, 3)) (e5 : decode b1 5 = .ok (.return_, 1)) (hk : Cond.classLink own ik cls ∈ zT) (hini : Cond.initialized cls ∈ zT) (hstr : ∃ sa, vk_R own is text sa X.s) (h1 : ∀ w ∈ (zAtN own ic cls i1 b1 Y1 zNm1).filter goodWord, w ∈ zT) (h2 : ∀ w ∈ (zAtN own ic cls i1 b1 Y1 zNm1).filter (fun w => !goodWord w), w ∈ zEW)
    (hgood : ∀ w ∈ Cond.classLink own ik cls :: Cond.initialized cls :: zAtN own ic cls i1 b1 Y1 zNm1, vx_ot w = true)
    (d0 : decode cc pc = .ok (.new ik, 3)) (d3 : decode cc (pc + 3) = .ok (.dup, 1)) (d4 : decode cc (pc + 4) = .ok (.ldc_w is, 3)) (d7 : decode cc (pc + 7) = .ok (.invokespecial ic, 3)) (d10 : decode cc (pc + 10) = .ok (.athrow, 1))
    (g1 : 6 ≤ X.R.frames) (g2 : 82 ≤ X.R.locals) (g3 : n + 1 ≤ X.R.cells) (g4 : k + 6 ≤ X.R.slots) : zW G X nL M n k pc lv [] := by
  intro H locs ws ls r1 r2 r3 r4 r5 r6 r7
  obtain ⟨sa, hsa⟩ := hstr
  have hts := O.2.2.2.2.2.1
  rw [hQ]
  refine zx_throwSW (names := zNm1) (Y1 := Y1) (i1 := i1) (b1 := b1) (cls := cls) (text := text) (ik := ik) (is := is) (ic := ic) (sa := sa) (A := X.A) O.1 O.2.1 hE.1 O.2.2.2.2.1 hcls hY1 (by decide +kernel) e0 e1 e2 e5 (hts _ hk) (hts _ hini) hsa (vx_hat (B := zEW) (fun w hw => hts w (h1 w hw)) h2 (fun w hw => ?_)) hgood hE.2.1 hE.2.2.1 r4 (r5.1.trans O.2.2.2.1.symm) d0 d3 d4 d7 d10 (fun x hx => (htab x hx).elim) ?_ ?_ g3 g4 O.2.2.2.2.2.2.2.1 (fun t ht hs hk => ⟨rfl, ⟨ws, r1, fun j q hq => ?_, r3⟩, ?_⟩) r4.2.2 (by rw [← hR]; exact g3) (by rw [← hR]; exact g4)
  · rcases zEW_form w hw with ⟨a, b, rfl⟩ | ⟨y, rfl⟩ <;> exact va_Nw.use rfl (hE.2.2.2.2.2 _ hw)
  · show 1 + 4 < X.R.frames
    omega
  · show 0 + (13 * 3 + 43) ≤ X.R.locals
    omega
  · exact (r2 j q hq).kept (hk q.1 (r2 j q hq).lt)
  · exact ⟨Nat.le_trans r4.1 hs, fun q z1 z2 => by rw [hk q (Nat.lt_of_lt_of_le z1 r4.1)]; exact r4.2.1 q z1 z2⟩
set_option maxRecDepth 100000 in
set_option maxHeartbeats 4000000 in
theorem t_X11_step {G : zG} {M : zM} {x : Nat} {p0 : Int32} (hp : zw01 p0 1 200 = 0) : zCx G yX11_step cX11_step 6 (some .int) rm_X11_step M [.ref x, .int p0] "java/lang/IllegalArgumentException" := by
  refine zx_intro (by decide +kernel) (Nat.le_of_ble_eq_true rfl) (fun X O hR htab hE hQ => ?_)
  refine z_iload_n O dX11_step_0 rfl 1 rfl ?_
  refine z_iconst (v := 1) O dX11_step_1 rfl ?_
  refine z_sipush (v := 200) O dX11_step_2 rfl ?_
  refine z_callS0 (As := [.int p0, .int 1, .int 200]) O zc_X11_71 s_X11_isWithin rfl (zRm_of hR (by decide) (by decide)) (Nat.le_of_ble_eq_true rfl) dX11_step_5 rfl rfl rfl (fun M1 v h => ?_)
  obtain ⟨rfl, rfl⟩ := h
  refine z_if_ne O 22 dX11_step_8 (by decide) (fun c => absurd hp c) (fun c => ?_)
  exact z_throw (text := "1 to 200 steps") O hR htab hE hQ (by decide +kernel) (zT_tab 714 (by decide +kernel) rfl) (zT_tab 21 (by decide +kernel) rfl) hE.2.2.2.1 (by decide +kernel) (by decide +kernel) (by decide +kernel) dX11_step_11 dX11_step_14 dX11_step_15 dX11_step_18 dX11_step_21 (by rw [hR]; decide) (by rw [hR]; decide) (by rw [hR]; decide) (by rw [hR]; decide)
set_option maxRecDepth 100000 in
set_option maxHeartbeats 4000000 in
theorem t_X11_sent {G : zG} {M : zM} {x : Nat} {p0 : Int32} (hF : FX M x) : zCx G yX11_sent cX11_sent 2 (some .int) rm_X11_sent M [.ref x, .int p0] "java/util/NoSuchElementException" := by
  refine zx_intro (by decide +kernel) (Nat.le_of_ble_eq_true rfl) (fun X O hR htab hE hQ => ?_)
  obtain ⟨f, r, rt, rh, rl, t, l, h, tp, la, hb, hc, hd, ob, -, ⟨r0, r1, r5, r6, r7⟩, ot, kl, oh, hrh, kb, kc, kd, kt, ol⟩ := hF
  have e0 : M.2.2.2 x 0 = some t := by rw [ob.2.2.2]; exact r0
  have e7 : M.2.2.2 x 7 = some la := by rw [ob.2.2.2]; exact r7
  have e1 : M.2.2.1 t 1 = 0 := by rw [ot.2.2.1]
  have e2 : M.2.2.1 la 1 = 0 := by rw [ol.2.2.1]
  refine b_X11_sent_0 O hR ⟨ob.1, t, e0, ot.1, fun _ => ?_, fun c => absurd (by rw [e1]; decide) c⟩
  refine z_iload_n O dX11_sent_23 rfl 1 rfl ?_
  refine z_iconst (v := 0) O dX11_sent_24 rfl ?_
  refine z_aload_n O dX11_sent_25 rfl 0 rfl ?_
  refine z_getr O zf_X11_54_10 dX11_sent_26 ob.1 e7 ?_
  refine z_geti O zf_X11_273_9 dX11_sent_29 ol.1 ?_
  refine z_iconst (v := 1) O dX11_sent_32 rfl ?_
  refine z_isub O dX11_sent_33 ?_
  rw [e2]
  refine z_callS0 (As := [.int p0, .int 0, .int (0 - 1)]) O zc_X11_71 s_X11_isWithin rfl (zRm_of hR (by decide) (by decide)) (Nat.le_of_ble_eq_true rfl) dX11_sent_34 rfl rfl rfl (fun M1 v h => ?_)
  obtain ⟨rfl, rfl⟩ := h
  refine z_if_ne O 51 dX11_sent_37 (by decide) (fun c => absurd (zw01_neg _) c) (fun c => ?_)
  exact z_throwN (text := "no such byte was sent") (Y1 := "java/lang/RuntimeException") (i1 := 13) (b1 := prog_25_method_4_code) O hR htab hE hQ (by decide +kernel) (by decide +kernel) (by decide +kernel) (by decide +kernel) (by decide +kernel) (by decide +kernel) (zT_tab 981 (by decide +kernel) rfl) (zT_tab 23 (by decide +kernel) rfl) hE.2.2.2.2.1 (by decide +kernel) (by decide +kernel) (by decide +kernel) dX11_sent_40 dX11_sent_43 dX11_sent_44 dX11_sent_47 dX11_sent_50 (by rw [hR]; decide) (by rw [hR]; decide) (by rw [hR]; decide) (by rw [hR]; decide)
