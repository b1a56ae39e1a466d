/-! ===== the law's start ===== -/
theorem zOverA {args : Array Value} {s : State} (h : (Cond.arrayOver (.array .int)).before args s = true) : ∃ (comp c : ClassId) (k : Class), s.vm.findClass (FieldType.array .int).toString = some comp ∧ s.vm.classes[c]? = some k ∧ k.kind = .array comp (.array .int) ∧ s.vm.findClass ("[" ++ (FieldType.array .int).toString) = some c := by
  simp only [Cond.before, Cond.holds, Cond.value, beq_iff_eq] at h
  cases hc : s.vm.findClass (FieldType.array .int).toString with
  | none => simp [hc] at h
  | some comp =>
    simp only [hc, Option.bind_some, Option.bind_eq_some_iff, Option.map_eq_some_iff] at h
    obtain ⟨c, hi, k, hk, hb⟩ := h
    obtain ⟨hlt, hp, -⟩ := Array.findIdx?_eq_some_iff_getElem.mp hi
    have hkk : s.vm.classes[c] = k := (Array.getElem?_eq_some_iff.mp hk).2
    rw [hkk] at hp
    cases hkind : k.kind with
    | array component ty =>
      rw [hkind] at hb hp
      simp at hb hp
      exact ⟨comp, c, k, rfl, hk, by rw [hkind, hp, hb.1], hb.2⟩
    | _ => rw [hkind] at hb; simp at hb
theorem zArrP {args : Array Value} {s : State} {ty : FieldType} (hty : ∀ C, ty ≠ .object C) (h : (Cond.arrayClass ty).before args s = true) : ∃ c : ClassId, (ArrOfT s c ty ∧ va_RA s c ty) ∧ s.vm.findClass ("[" ++ ty.toString) = some c := by
  obtain ⟨c, k, comp, h1, h2, h3⟩ := Cond.arrayClass_spec h
  refine ⟨c, ⟨fun n z => ⟨fun q hq => (by cases hq), k, h2, comp, h3⟩, ?_⟩, h1⟩
  cases ty <;> first | exact absurd rfl (hty _) | exact h1
theorem zArrO {args : Array Value} {s : State} {C : String} (h : (Cond.arrayOver (.object C)).before args s = true) : ∃ c : ClassId, ArrOfT s c (.object C) ∧ va_RA s c (.object C) := by
  obtain ⟨comp, c, k, h1, -, h3, h4, h5⟩ := Cond.arrayOver_spec h
  exact ⟨c, fun n z => ⟨fun q hq => (by cases hq), k, h3, comp, h4⟩, k, comp, h3, h4, h1, h5⟩
theorem zpick {α : Type} {P : Nat → α → Prop} (d : α) : ∀ (l : List α) (k : Nat), (∀ j v, l[j]? = some v → P (k + j) v) → ∀ j, j < l.length → P (k + j) (l.getD j d) := by
  intro l k h j hj
  exact h j _ (by rw [List.getD_eq_getElem?_getD, List.getElem?_eq_getElem hj]; rfl)
theorem zAO_in : ∀ C ∈ zAO, Cond.arrayOver (.object C) ∈ lw_tbl := by decide +kernel
theorem zNW_in : ∀ w ∈ zNW, w ∈ lw_tbl := by decide +kernel
theorem zEW_in : ∀ w ∈ zEW, w ∈ lw_tbl := by decide +kernel
set_option maxRecDepth 100000 in
set_option maxHeartbeats 4000000 in
theorem zStart {s : State} {args : Array Value} (hl : ∀ w ∈ lw_tbl, w.before args s = true) (l : Launch) : ∃ G : zG, G.1 = l ∧ zV G s := by
  have hts : ∀ w ∈ zT, w.before args s = true := fun w hw => hl w (List.mem_filter.mp hw).1
  obtain ⟨c0, i0, k0⟩ := u_known (C := RX0) (T := TX0) (N := 15) (n := 15) hts zin_X0 (hts _ (zT_tab 255 (by decide +kernel) rfl))
  obtain ⟨c1, i1, k1⟩ := u_known (C := RX1) (T := TX1) (N := 11) (n := 11) hts zin_X1 (hts _ (zT_tab 253 (by decide +kernel) rfl))
  obtain ⟨c2, i2, k2⟩ := u_known (C := RX2) (T := TX2) (N := 3) (n := 3) hts zin_X2 (hts _ (zT_tab 383 (by decide +kernel) rfl))
  obtain ⟨c3, i3, k3⟩ := u_known (C := RX3) (T := TX3) (N := 5) (n := 5) hts zin_X3 (hts _ (zT_tab 467 (by decide +kernel) rfl))
  obtain ⟨c4, i4, k4⟩ := u_known (C := RX4) (T := TX4) (N := 4) (n := 4) hts zin_X4 (hts _ (zT_tab 73 (by decide +kernel) rfl))
  obtain ⟨c5, i5, k5⟩ := u_known (C := RX5) (T := TX5) (N := 6) (n := 6) hts zin_X5 (hts _ (zT_tab 185 (by decide +kernel) rfl))
  obtain ⟨c6, i6, k6⟩ := u_known (C := RX6) (T := TX6) (N := 5) (n := 5) hts zin_X6 (hts _ (zT_tab 399 (by decide +kernel) rfl))
  obtain ⟨c7, i7, k7⟩ := u_known (C := RX7) (T := TX7) (N := 3) (n := 3) hts zin_X7 (hts _ (zT_tab 191 (by decide +kernel) rfl))
  obtain ⟨c8, i8, k8⟩ := u_known (C := RX9) (T := TX9) (N := 7) (n := 7) hts zin_X9 (hts _ (zT_tab 33 (by decide +kernel) rfl))
  obtain ⟨c9, i9, k9⟩ := u_known (C := RX10) (T := TX10) (N := 5) (n := 5) hts zin_X10 (hts _ (zT_tab 94 (by decide +kernel) rfl))
  obtain ⟨c10, i10, k10⟩ := u_known (C := RX11) (T := TX11) (N := 15) (n := 15) hts zin_X11 (hts _ (zT_tab 25 (by decide +kernel) rfl))
  obtain ⟨c11, i11, k11⟩ := u_known (C := RX12) (T := TX12) (N := 7) (n := 7) hts zin_X12 (hts _ (zT_tab 1146 (by decide +kernel) rfl))
  obtain ⟨c12, i12, k12⟩ := u_known (C := RX13) (T := TX13) (N := 28) (n := 28) hts zin_X13 (hts _ (zT_tab 1009 (by decide +kernel) rfl))
  obtain ⟨c13, i13, k13⟩ := u_known (C := RX14) (T := TX14) (N := 6) (n := 6) hts zin_X14 (hts _ (zT_tab 1015 (by decide +kernel) rfl))
  obtain ⟨c14, i14, k14⟩ := u_known (C := RX15) (T := TX15) (N := 40) (n := 40) hts zin_X15 (hts _ (zT_tab 998 (by decide +kernel) rfl))
  obtain ⟨a0, q0, f0⟩ := zArrP (ty := .int) (fun _ h => nomatch h) (hts _ (zT_tab 92 (by decide +kernel) rfl))
  obtain ⟨a1, q1, -⟩ := zArrP (ty := .boolean) (fun _ h => nomatch h) (hts _ (zT_tab 1047 (by decide +kernel) rfl))
  obtain ⟨a2, q2⟩ := zArrO (C := "HouseWires$Line") (hl _ (List.mem_append_right _ (List.mem_of_getElem? (i := 65) (by decide +kernel))))
  obtain ⟨a3, q3⟩ := zArrO (C := "HouseWires$Device") (hl _ (List.mem_append_right _ (List.mem_of_getElem? (i := 67) (by decide +kernel))))
  obtain ⟨a4, q4⟩ := zArrO (C := "HouseWires$Filter") (hl _ (List.mem_append_right _ (List.mem_of_getElem? (i := 69) (by decide +kernel))))
  obtain ⟨a5, q5⟩ := zArrO (C := "HouseWires$Port") (hl _ (List.mem_append_right _ (List.mem_of_getElem? (i := 71) (by decide +kernel))))
  obtain ⟨a6, q6⟩ := zArrO (C := "HouseWires$Telegram") (hl _ (List.mem_append_right _ (List.mem_of_getElem? (i := 197) (by decide +kernel))))
  obtain ⟨a7, q7⟩ := zArrO (C := "HouseWires$Station") (hl _ (List.mem_append_right _ (List.mem_of_getElem? (i := 214) (by decide +kernel))))
  obtain ⟨a8, q8⟩ := zArrO (C := "HouseWires$GroupObject") (hl _ (List.mem_append_right _ (List.mem_of_getElem? (i := 322) (by decide +kernel))))
  obtain ⟨a9, q9⟩ := zArrO (C := "HouseWiresModel$Out") (hl _ (List.mem_append_right _ (List.mem_of_getElem? (i := 1004) (by decide +kernel))))
  obtain ⟨a10, q10⟩ := zArrO (C := "HouseWiresModel$Device") (hl _ (List.mem_append_right _ (List.mem_of_getElem? (i := 1006) (by decide +kernel))))
  obtain ⟨a11, q11⟩ := zArrO (C := "HouseWiresModel$Coupler") (hl _ (List.mem_append_right _ (List.mem_of_getElem? (i := 1008) (by decide +kernel))))
  obtain ⟨cm, a12, kA, g1, g2, g3, g4⟩ := zOverA (hl _ (List.mem_append_right _ (List.mem_of_getElem? (i := 1021) (by decide +kernel))))
  obtain ⟨a13, q13, -⟩ := zArrP (ty := .long) (fun _ h => nomatch h) (hts _ (zT_tab 1605 (by decide +kernel) rfl))
  have ecm : cm = a0 := Option.some.inj (g1.symm.trans f0)
  subst ecm
  have q12 : ArrOfT s a12 (.array .int) ∧ va_RA s a12 (.array .int) := ⟨fun n z => ⟨fun q hq => (by cases hq), kA, g2, cm, g3⟩, g4⟩
  refine ⟨(l, (fun j => [c0, c1, c2, c3, c4, c5, c6, c7, c8, c9, c10, c11, c12, c13, c14].getD j 0, fun j => [i0, i1, i2, i3, i4, i5, i6, i7, i8, i9, i10, i11, i12, i13, i14].getD j (fun _ => 0)), fun j => [cm, a1, a2, a3, a4, a5, a6, a7, a8, a9, a10, a11, a12, a13].getD j 0), rfl, ⟨fun c q hq => ?_, fun k q hq => ?_⟩, fun C hC => va_AO.of (hl _ (zAO_in C hC)), fun w hw => ?_, ⟨kA, g2, g3⟩⟩
  · match c, hq with
    | 0, hq => cases (Option.some.inj hq); exact k0
    | 1, hq => cases (Option.some.inj hq); exact k1
    | 2, hq => cases (Option.some.inj hq); exact k2
    | 3, hq => cases (Option.some.inj hq); exact k3
    | 4, hq => cases (Option.some.inj hq); exact k4
    | 5, hq => cases (Option.some.inj hq); exact k5
    | 6, hq => cases (Option.some.inj hq); exact k6
    | 7, hq => cases (Option.some.inj hq); exact k7
    | 8, hq => cases (Option.some.inj hq); exact k8
    | 9, hq => cases (Option.some.inj hq); exact k9
    | 10, hq => cases (Option.some.inj hq); exact k10
    | 11, hq => cases (Option.some.inj hq); exact k11
    | 12, hq => cases (Option.some.inj hq); exact k12
    | 13, hq => cases (Option.some.inj hq); exact k13
    | 14, hq => cases (Option.some.inj hq); exact k14
    | n + 15, hq => exact absurd hq (by simp)
  · match k, hq with
    | 0, hq => cases (Option.some.inj hq); exact q0
    | 1, hq => cases (Option.some.inj hq); exact q1
    | 2, hq => cases (Option.some.inj hq); exact q2
    | 3, hq => cases (Option.some.inj hq); exact q3
    | 4, hq => cases (Option.some.inj hq); exact q4
    | 5, hq => cases (Option.some.inj hq); exact q5
    | 6, hq => cases (Option.some.inj hq); exact q6
    | 7, hq => cases (Option.some.inj hq); exact q7
    | 8, hq => cases (Option.some.inj hq); exact q8
    | 9, hq => cases (Option.some.inj hq); exact q9
    | 10, hq => cases (Option.some.inj hq); exact q10
    | 11, hq => cases (Option.some.inj hq); exact q11
    | 12, hq => cases (Option.some.inj hq); exact q12
    | 13, hq => cases (Option.some.inj hq); exact q13
    | n + 14, hq => exact absurd hq (by simp [ztys])
  · obtain ⟨a, i, x, h, rfl⟩ := zNW_form w hw
    exact va_Nw.of rfl (hl _ (zNW_in _ hw))
theorem zStartE {s : State} {args : Array Value} {G : zG} (hl : ∀ w ∈ lw_tbl, w.before args s = true) (hg : (Jvm.Cond.and given_1 narrow_1).before args s = true) (hs : G.1.stackTraces = false) : zEx G (fun q => s.heap.size ≤ q) s := by
  have hf := flat_of_before _ hg
  have hA : ∀ a : Nat, a < s.heap.size → ¬ (fun q => s.heap.size ≤ q) a := fun a h1 h2 => Nat.not_lt.mpr h2 h1
  have e1 : (Cond.exactly (.string "HouseWires" 287) "java/lang/String").before args s = true := hf _ (by decide +kernel)
  have e2 : (Cond.exactly (.string "HouseWires" 311) "java/lang/String").before args s = true := hf _ (by decide +kernel)
  obtain ⟨sa, -, -, -, z1, -⟩ := Cond.exactly_spec e1
  obtain ⟨sb, -, -, -, z2, -⟩ := Cond.exactly_spec e2
  refine ⟨hs, vx_Zqof (hl _ (List.mem_append_right _ (List.mem_of_getElem? (i := 741) (by decide +kernel)))) (hl _ (List.mem_append_right _ (List.mem_of_getElem? (i := 18) (by decide +kernel)))) (hf _ (by decide +kernel)) hA, vx_Zqof (hl _ (List.mem_append_right _ (List.mem_of_getElem? (i := 743) (by decide +kernel)))) (hl _ (List.mem_append_right _ (List.mem_of_getElem? (i := 18) (by decide +kernel)))) (hf _ (by decide +kernel)) hA, ⟨sa, vk_R.of (A := args) (hl _ (List.mem_append_right _ (List.mem_of_getElem? (i := 754) (by decide +kernel)))) z1⟩, ⟨sb, vk_R.of (A := args) (hl _ (List.mem_append_right _ (List.mem_of_getElem? (i := 990) (by decide +kernel)))) z2⟩, fun w hw => ?_⟩
  rcases zEW_form w hw with ⟨a, b, rfl⟩ | ⟨y, rfl⟩ <;> exact va_Nw.of rfl (hl _ (zEW_in _ hw))
/-! THE CLAIM OUT OF ONE WALK OF THE LAW'S BODY. Your part is whole_start (and what it stands on); all else here is the same for every law, but numbers. -/
def R_law : String := "HouseWiresLaw"
def lw_P (b : Addr) (xs : List Int32) (args : Array Value) (s : State) : Prop := args = #[.ref b] ∧ s.IntsAt b xs ∧ xs.length ≤ 6 ∧ (Jvm.Cond.and given_1 narrow_1).before args s = true
def lw_Q (_ : Array Value) (s : State) (o : Outcome) (t : State) : Prop := o = .returned (some (.int 1)) ∧ Framed s o t [] 600002 7302232
def lw_Z (below : List Frame) (a : Array Value) (s : State) : State → Prop := fun t => ∃ o, t.status = .running ∧ Ended t below o ∧ lw_Q a s o t
/-- the law's own end, with 1 on the stack, nothing written that was there before, its room as the claim has it -/
theorem lw_ret {p : Program} {l : Launch} {e : Env} {s : State} {m : MethodId} {below : List Frame} {meth : Method} {c : Code} {b : Nat} (hx : p.tables.exec = Jvm.exec) (hb : c.code = code) (hr : meth.sig.returnType = ret) (hlocks : meth.locks = false) {pc : Nat} {H : Heap} {ls : Array Slot} (hdg : decode code pc = .ok (.ireturn, 1)) : W p l e room_1 s m #[Value.ref b] below meth c H [] 600002 7302232 (lw_Z below #[Value.ref b] s) (F0 m pc ls [.int 1]) := by
  intro T hT X
  obtain ⟨fs, hret, hrun, hended, hW, hframe⟩ := X.leave (v := some (.int 1)) (hlocks := hlocks) (fun h => by rw [hr] at h; cases h)
  have hmeth' : T.vm.method? m = some meth := X.method'
  refine ⟨T.setFrames fs, ?_, .returned (some (.int 1)), hrun, hended, rfl, ⟨_, rfl⟩, hW, hframe⟩
  jvm_step X.here [X.here.top, hx, hb, hdg, hmeth', hr, ret, narrow_b1]
  (try refine ⟨rfl, ?_⟩); (try refine ⟨rfl, ?_⟩)
  first | (intro acts; rw [hret _ acts rfl rfl rfl]) | rw [hret _ _ rfl rfl rfl]
  exact Steps.refl _
/-- what holds at the law's entry: the machine, the code, the tables' words (any of lw_tbl by 'hts w (by decide +kernel)'), the script of L ints xs at the cell b, what the Statement gives of the start (any of its parts by flat_of_before) -/
def lw_At (p : Program) (s : State) (m : MethodId) (meth : Method) (c : Code) (b L : Nat) (xs : Nat → Int32) : Prop :=
  p.tables.exec = Jvm.exec ∧ c.code = code ∧ meth.sig.returnType = ret ∧ c.maxLocals = 7 ∧ s.vm.findClass R_law = some m.cls ∧ (∀ w ∈ lw_tbl, w.before #[Value.ref b] s = true) ∧ va_X b L xs s s.heap ∧ b < s.heap.size ∧ meth.locks = false ∧ (Jvm.Cond.and given_1 narrow_1).before #[Value.ref b] s = true
/-- from the entry, for every script of at most 6 ints, the law comes to its end with true -/
theorem whole_start {p : Program} {e : Env} {s : State} {m : MethodId} {below : List Frame} {meth : Method} {c : Code} (l : Launch) (hst : l.stackTraces = false) (hnm : meth.name = "law") {b L : Nat} {xs : Nat → Int32} (hL : L ≤ 6) (C0 : lw_At p s m meth c b L xs) : W p l e room_1 s m #[Value.ref b] below meth c s.heap [] 0 0 (lw_Z below #[Value.ref b] s) (entryFrame m ([Value.ref b] : List Value).toArray 7) := by
  obtain ⟨hx, hc, hr, hml, hown, hts, hX, hbl, hlk, hg⟩ := C0
  obtain ⟨G, rfl, hV⟩ := zStart hts l
  have hE := zStartE (G := G) hts hg hst
  rw [lg_entry_eq]
  have hOK : zOK G (p, e, room_1, s, m, #[Value.ref b], below, meth, c, fun q => s.heap.size ≤ q, fun _ v => v = some (.int 1), lw_Z below #[Value.ref b] s) cL_law 7 RL (some .boolean) "law" := by
    refine ⟨hx, hc, hr, hml, hown, fun w hw => hts w (List.mem_filter.mp hw).1, hV, hlk, hnm, fun q h => h, fun t ht => ?_⟩
    obtain ⟨o, h1, h2, ⟨⟨M', v, ws, rfl, rfl, -⟩, -⟩, LL, ⟨⟨v', hv'⟩, h5, h6⟩, h7⟩ := ht
    exact ⟨_, h1, h2, rfl, ⟨v', hv'⟩, h5, h6.weaken (fun y hy hlt => absurd (h7 y hy) (Nat.not_le.mpr hlt)) (Nat.le_refl _) (Nat.le_refl _)⟩
  exact law_start hOK rfl rfl hE ⟨hX, hbl, Nat.not_le.mpr hbl⟩ hL s.heap [] [] _ ⟨fun a h => absurd rfl h, fun j q h => (by simp at h)⟩ (fun k q h => (by simp at h)) ⟨fun i j p q h => (by simp at h), fun k q h => (by simp at h)⟩ va_S.rf (lv_entry [Value.ref b] (Nat.le_of_ble_eq_true rfl)) (Nat.zero_le _) (Nat.zero_le _)
set_option maxHeartbeats 4000000 in
theorem lw_walk (l : Launch) (hst : l.stackTraces = false) (b : Addr) (xs : List Int32) : MetFree l x (headSpec (Jvm.Cond.code x code maxLocals ret :: tables_1) room_1) (lw_P b xs) (fun _ _ _ _ _ => True) lw_Q := by
  refine MetFree.of_bodyS (code := code) (maxLocals := maxLocals) (ret := ret) (by decide) ?_ ?_
  · intro args s m h hn
    obtain ⟨meth, c, h1, h2, h3, h4, h5, h6, -, -⟩ := Cond.code_spec hn (atoms_spec (ws := Jvm.Cond.code x code maxLocals ret :: tables_1) h _ List.mem_cons_self)
    exact ⟨meth, c, h1, h2, h3, h4, h5, h6⟩
  · intro p e s m args below meth c s₁ B hml0 hP _
    obtain ⟨rfl, hx, hbd, hgv⟩ := hP
    obtain ⟨scr, harrAt, hlist, hof, hsmall⟩ := hx
    obtain ⟨hcb, hkn, -, -⟩ := State.arrayAt?_spec harrAt
    have hown : s.vm.findClass R_law = some m.cls := findClass_of_methodNamed B.named
    have hts0 : ∀ c ∈ (Jvm.Cond.code x code maxLocals ret :: tables_1), c.before #[Value.ref b] s = true := atoms_spec (ws := Jvm.Cond.code x code maxLocals ret :: tables_1) B.pre
    have hts : ∀ w ∈ lw_tbl, w.before #[Value.ref b] s = true := k2_hts_sels lw_privs (fun w hw => hts0 w (List.mem_cons_of_mem _ hw)) lw_privs_ok
    have hml : c.maxLocals = 7 := B.maxLocals_eq (hts0 _ List.mem_cons_self)
    have X₀ : Stand p l e room_1 s m #[Value.ref b] below meth c s₁ [] 0 0 := Stand.of_body B
    have hh0 : s₁.heap = s.heap := by rw [B.state]; rfl
    have hsz : scr.slots.size = xs.length := by rw [← Array.length_toList, hlist, List.length_map]
    have hval : ∀ j : Nat, j < xs.length → scr.slots[j]? = some (.int (xs.getD j 0)) := fun j hj => by
      rw [← Array.getElem?_toList, hlist]
      simp [hj]
    have hbl : b < s.heap.size := (Array.getElem?_eq_some_iff.mp hcb).1
    have hX : va_X b xs.length (fun j => xs.getD j 0) s s.heap := ⟨scr, hcb, hof, hkn, hsz, hval⟩
    have K : W p l e room_1 s m #[Value.ref b] below meth c s₁.heap [] 0 0 (lw_Z below #[Value.ref b] s) (entryFrame m ([Value.ref b] : List Value).toArray 7) := by
      rw [hh0]
      exact whole_start l hst (name_of_methodNamed B.named B.method).1 hbd ⟨B.exec, B.bytes, B.returns, hml, hown, hts, hX, hbl, B.notSynchronized, hgv⟩
    obtain ⟨t, a1, o, b1, b2, b3⟩ := K s₁ rfl X₀
    exact ⟨t, o, a1, b1, b2, b3⟩
theorem lw_pre_spec {args : Array Value} {s : State} (h : (Jvm.Cond.and given_1 narrow_1).before args s = true) (hr : rest_1_c.before args s = true) : ∃ (b : Addr) (xs : List Int32), lw_P b xs args s := by
  have hs := flat_of_before _ h
  have hq := flat_of_before _ hr
  have hc : (Cond.count 1).before args s = true := hs _ (by decide +kernel)
  have harr : (Cond.arrayOf (.arg 0) .int).before args s = true := hs _ (by decide +kernel)
  have hle : (Cond.le (.length (.arg 0)) (.int 6)).before args s = true := hs _ (by decide +kernel)
  have hlen : (Cond.isInt (.length (.arg 0))).before args s = true := hq _ (by decide +kernel)
  have hall : (Cond.all (.arg 0) (.isInt (.elem (.arg 0) (.index 0)))).before args s = true := hq _ (by decide +kernel)
  obtain ⟨b, xs, hb, hx⟩ := State.ints_of_pre rfl harr hlen hall
  have hsm : xs.length < 2 ^ 31 := hx.choose_spec.2.2.2
  have hev : (Term.length (.arg 0)).eval args s none [] s = some (.int xs.length.toInt32) := hx.length_eval hb
  have hv := Cond.le_ints hev (show (Term.int 6).eval args s none [] s = some (.int 6) from rfl)
  have hd : xs.length.toInt32 ≤ 6 := by
    simpa [Cond.before, Cond.holds, hv] using hle
  have hN : xs.length ≤ 6 := (Int32.ofNat_le_ofNat hsm (by decide)).mp (show Int32.ofNat xs.length ≤ Int32.ofNat 6 from hd)
  exact ⟨b, xs, Cond.one_arg hc (show args[0]? = some (.ref b) from hb), hx, hN, h⟩
theorem lw_comes (l : Launch) (hst : l.stackTraces = false) : Comes l x (Jvm.Cond.code x code maxLocals ret :: tables_1) room_1 (fun tb e args s => Calls_1 tb e args s ∧ rest_1 tb e args s ∧ Pre_1 tb e args s)
    (fun _ _ args s o t => lw_Q args s o t) := by
  intro p e ha hc hk s m args below hf hfit hheap happ hpre
  obtain ⟨b, xs, hP⟩ := lw_pre_spec hpre.2.2 hpre.2.1
  obtain ⟨k, o, h1, h2, h3, hQ⟩ := lw_walk l hst b xs p e ha hc hk s m args below hf ((Spec.applies_iff_loose hf).mp happ).1 hP trivial
  exact ⟨k, o, h1, h2, h3, hQ⟩
theorem lw_frame {s t : State} {o : Outcome} {args : Array Value} (h : Framed s o t [] 600002 7302232) :
    Framed s o t (fieldLocs frame_1_writes args s ++ arrayLocs frame_1_arrays args s ++ staticLocs frame_1_statics s) 600002 7302232 := h
theorem lw_limb (L : Cond) (hL : ∀ (args : Array Value) (s t : State), L.after args s (.returned (some (.int 1))) t = true) :
    ArmFor flags0 classFile x code maxLocals ret World_1 tables_1 room_1 Calls_1 rest_1 Pre_1
      (fun tb e a s o t => postC L tb e a s o t ∧ Framed s o t (fieldLocs frame_1_writes a s ++ arrayLocs frame_1_arrays a s ++ staticLocs frame_1_statics s) 600002 7302232) := by
  intro l hfl _ _ p e ha hc hk s m args below hf hfit hheap happ hpre
  obtain ⟨k, o, h1, h2, h3, rfl, hF⟩ := lw_comes l (by unfold Launch.stackTraces; rw [hfl]; decide +kernel) p e ha hc hk s m args below hf hfit hheap happ hpre
  exact ⟨k, _, h1, h2, h3, hL args s _, lw_frame hF⟩
theorem i_vc : Claimed_1_1 ∧ Claimed_1_2 := ⟨lw_limb limb_1_1 (fun args s t => by simp [limb_1_1, Cond.after, Cond.holds, Cond.value]), lw_limb limb_1_2 (fun args s t => Cond.after_iff.mpr (by
  first | (rw [show limb_1_2 = Cond.eq .result (.int 1) from rfl, Cond.eq_ints (x := 1) (y := 1) rfl rfl]; simp; done) | (simp [limb_1_2, Cond.value, Term.eval]; done)))⟩
