/-! ===== new int[N][K] ===== -/
/-- the outer row when i of its places are filled -/
def zo (cA : ClassId) (N h i : Nat) : Cell := arrV cA N (fun j => va_rf (if j < i then some (h + 1 + j) else none))
theorem zo_next (cA : ClassId) (N h i : Nat) : (zo cA N h i).setSlot i (.ref (h + 1 + i)) = zo cA N h (i + 1) := by
  unfold zo
  rw [arrV_store]
  refine congrArg (arrV cA N) (funext fun j => ?_)
  by_cases e : j = i
  · subst e
    simp [updV, va_rf]
  · by_cases hj : j < i
    · simp [updV, e, hj, show j < i + 1 by omega]
    · simp [updV, e, hj, show ¬ j < i + 1 by omega]
/-- the state when i inner rows are made -/
def zfl (cA comp : ClassId) (N K : Nat) (U : State) : Nat → State
  | 0 => U.pushCell (zo cA N U.heap.size 0)
  | i + 1 => ((zfl cA comp N K U i).pushCell (arrV comp K (fun _ => .int 0))).setCell U.heap.size (zo cA N U.heap.size (i + 1))
theorem zfl_facts (cA comp : ClassId) (N K : Nat) (U : State) : ∀ i : Nat, (zfl cA comp N K U i).heap.size = U.heap.size + 1 + i ∧ (zfl cA comp N K U i).heap[U.heap.size]? = some (zo cA N U.heap.size i) ∧ (zfl cA comp N K U i).vm = U.vm ∧ (zfl cA comp N K U i).slotsUsed = U.slotsUsed + N + i * K ∧ (∀ q : Nat, q < U.heap.size → (zfl cA comp N K U i).heap[q]? = U.heap[q]?) ∧ ∀ j : Nat, j < i → (zfl cA comp N K U i).heap[U.heap.size + 1 + j]? = some (arrV comp K (fun _ => .int 0))
  | 0 => by
    refine ⟨by simp [zfl, State.pushCell], by simp [zfl, State.pushCell], rfl, by simp [zfl, zo, arrV, State.pushCell], fun q hq => State.heap_pushCell_of_lt _ _ hq, fun j hj => absurd hj (Nat.not_lt_zero _)⟩
  | i + 1 => by
    obtain ⟨f1, f2, f3, f4, f5, f6⟩ := zfl_facts cA comp N K U i
    have hlt : U.heap.size < (zfl cA comp N K U i).heap.size := by omega
    have hb : ((zfl cA comp N K U i).pushCell (arrV comp K (fun _ => .int 0))).heap[U.heap.size]? = some (zo cA N U.heap.size i) := by rw [State.heap_pushCell_of_lt (h := hlt)]; exact f2
    refine ⟨?_, State.heap_setCell_self hb, f3, ?_, fun q hq => ?_, fun j hj => ?_⟩
    · simp [zfl, State.setCell, State.pushCell, f1]; omega
    · have e : (zfl cA comp N K U (i + 1)).slotsUsed = (zfl cA comp N K U i).slotsUsed + K := by simp [zfl, State.setCell, State.pushCell, arrV]
      rw [e, f4, Nat.succ_mul]; omega
    · show (((zfl cA comp N K U i).pushCell _).setCell U.heap.size _).heap[q]? = _
      have hq2 : q < (zfl cA comp N K U i).heap.size := by omega
      rw [State.heap_setCell_other (show U.heap.size ≠ q by omega), State.heap_pushCell_of_lt (h := hq2)]
      exact f5 q hq
    · show (((zfl cA comp N K U i).pushCell _).setCell U.heap.size _).heap[U.heap.size + 1 + j]? = _
      rw [State.heap_setCell_other (show U.heap.size ≠ U.heap.size + 1 + j by omega)]
      rcases Nat.lt_or_ge j i with hj2 | hj2
      · have hq2 : U.heap.size + 1 + j < (zfl cA comp N K U i).heap.size := by omega
        rw [State.heap_pushCell_of_lt (h := hq2)]
        exact f6 j hj2
      · have e : U.heap.size + 1 + j = (zfl cA comp N K U i).heap.size := by omega
        rw [e]
        exact State.heap_pushCell_size _ _
theorem zfl_top (cA comp : ClassId) (N K : Nat) (U : State) (f : JFrame) : ∀ i : Nat, zfl cA comp N K (U.setTop f) i = (zfl cA comp N K U i).setTop f
  | 0 => rfl
  | i + 1 => by simp only [zfl, zfl_top cA comp N K U f i, State.heap_setTop, State.pushCell_setTop, State.setCell_setTop]
section ZMULTI
variable {p : Program} {l : Launch} {e : Env} {R : Room} {s : State} {m : MethodId} {args : Array Value} {below : List Frame} {meth : Method} {c : Code} {T : State} {locs : List Loc} {cells slots : Nat}
theorem zfl_stand (X : Stand p l e R s m args below meth c T locs cells slots) (cA comp : ClassId) (N K : Nat) : ∀ i : Nat, Stand p l e R s m args below meth c (zfl cA comp N K T i) (locs ++ (List.range i).map fun j => (⟨T.heap.size, j⟩ : Loc)) (cells + 1 + i) (slots + N + i * K)
  | 0 => by
    have h := X.pushed (zo cA N T.heap.size 0)
    have e1 : (zo cA N T.heap.size 0).slots.size = N := by simp [zo, arrV]
    rw [e1] at h
    simpa [zfl] using h
  | i + 1 => by
    have Xi := zfl_stand X cA comp N K i
    obtain ⟨f1, f2, -⟩ := zfl_facts cA comp N K T i
    have hq2 : T.heap.size < (zfl cA comp N K T i).heap.size := by omega
    have hb : ((zfl cA comp N K T i).pushCell (arrV comp K (fun _ => .int 0))).heap[T.heap.size]? = some (zo cA N T.heap.size i) := by rw [State.heap_pushCell_of_lt (h := hq2)]; exact f2
    have h := (Xi.pushed (arrV comp K (fun _ => .int 0))).stored hb i (.ref (T.heap.size + 1 + i))
    have e1 : (arrV comp K (fun _ => Value.int 0)).slots.size = K := by simp [arrV]
    rw [e1, zo_next] at h
    have e2 : (locs ++ (List.range (i + 1)).map fun j => (⟨T.heap.size, j⟩ : Loc)) = (locs ++ (List.range i).map fun j => (⟨T.heap.size, j⟩ : Loc)) ++ [⟨T.heap.size, i⟩] := by simp [List.range_succ]
    have e3 : slots + N + (i + 1) * K = slots + N + i * K + K := by rw [Nat.succ_mul]; omega
    rw [e2, e3]
    exact h
end ZMULTI
theorem zrep_arr (c : ClassId) (N : Nat) (v : Value) : ({ cls := c, slots := Array.replicate N v } : Cell) = arrV c N (fun _ => v) := by rw [← arrV_new]
section ZMAKE
variable {E : CtlPost} {e : Env} {d : Bool} {acts : List Action} {s : State}
/-- what 'make' does: N rows of K ints -/
theorem zmake {cA comp cc : ClassId} {kA kC : Class} {n k : Int32} {N K : Nat} (hA : s.vm.classes[cA]? = some kA) (hkA : kA.kind = .array comp (.array .int)) (hC : s.vm.classes[comp]? = some kC) (hkC : kC.kind = .array cc .int) (hn : ¬ n < 0) (hk : ¬ k < 0) (hN : n.toNatClampNeg = N) (hK : k.toNatClampNeg = K)
    (l1 : ¬ N > e.platform.arrayLengthLimit) (l2 : ¬ N * 4 > e.platform.maxHeapBytes) (l3 : ¬ K > e.platform.arrayLengthLimit) (l4 : ¬ K * 4 > e.platform.maxHeapBytes) (r1 : s.heap.size + 1 + N ≤ e.platform.maxCells) (r2 : s.slotsUsed + N + N * K ≤ e.platform.maxSlots)
    {Q : Addr → Pre} (hq : ∀ d' acts', Q s.heap.size d' acts' (zfl cA comp N K s N)) : wp (Op.multianewarray.make cA [n, k]) Q E e d acts s := by
  subst hN
  subst hK
  have hfind : ([k].find? (· < 0)) = none := by simp [hk]
  rw [Op.multianewarray.make]
  simp only [wp_bind', W.ite, hn, if_false, wp_pure', W.theClass, hA, hkA, Option.some.injEq, exists_eq_left']
  refine W.newArray_of hA hkA l1 l2 (by omega) (by have := Nat.zero_le (n.toNatClampNeg * k.toNatClampNeg); omega) rfl (fun acts' => ?_)
  simp only [hfind]
  rw [ite_self, wp_bind', Std.Legacy.Range.forIn_eq_forIn_range']
  have hsz : ([:n.toNatClampNeg] : Std.Legacy.Range).size = n.toNatClampNeg := by simp [Std.Legacy.Range.size]
  rw [hsz]
  show wp (forIn (List.range' 0 n.toNatClampNeg 1) PUnit.unit _) _ E e d acts' _
  refine wp_forIn_inv (fun rest u => ∃ i, i + rest.length = n.toNatClampNeg ∧ rest = List.range' i rest.length ∧ u = zfl cA comp n.toNatClampNeg k.toNatClampNeg s i) _ _ ⟨0, by simp, by simp, ?_⟩ ?_ ?_
  · show s.pushCell _ = s.pushCell _
    rw [zrep_arr]
    simp [zo, va_rf]
  · rintro x rest u d' acts' Q' ⟨i, hi, hl, rfl⟩ hnext
    simp only [List.length_cons] at hi hl
    rw [List.range'_succ] at hl
    obtain ⟨rfl, hrest⟩ : x = i ∧ rest = List.range' (i + 1) rest.length := ⟨(List.cons.inj hl).1, (List.cons.inj hl).2⟩
    obtain ⟨f1, f2, f3, f4, -, -⟩ := zfl_facts cA comp n.toNatClampNeg k.toNatClampNeg s x
    have hmul : x * k.toNatClampNeg + k.toNatClampNeg ≤ n.toNatClampNeg * k.toNatClampNeg := by
      have := Nat.mul_le_mul_right k.toNatClampNeg (show x + 1 ≤ n.toNatClampNeg by omega)
      rw [Nat.succ_mul] at this
      exact this
    simp only [wp_bind']
    rw [Op.multianewarray.make]
    simp only [wp_bind', W.ite, hk, if_false, wp_pure', W.theClass, f3, hC, hkC, Option.some.injEq, exists_eq_left']
    refine W.newArray_of (by rw [f3]; exact hC) hkC l3 l4 (by omega) (by rw [f4]; omega) rfl (fun acts2 => ?_)
    simp only [wp_bind', W.writeLoc, wp_pure']
    have hq2 : s.heap.size < (zfl cA comp n.toNatClampNeg k.toNatClampNeg s x).heap.size := by omega
    have hb : ((zfl cA comp n.toNatClampNeg k.toNatClampNeg s x).pushCell ({ cls := comp, slots := Array.replicate k.toNatClampNeg (defaultValue .int) } : Cell)).heap[s.heap.size]? = some (zo cA n.toNatClampNeg s.heap.size x) := by rw [State.heap_pushCell_of_lt (h := hq2)]; exact f2
    refine ⟨zo cA n.toNatClampNeg s.heap.size x, hb, by simp [zo, arrV], by simp [zo, arrV]; omega, ?_, hnext _ _ _ ⟨x + 1, by omega, hrest, ?_⟩⟩
    · simp [zo, arrV, State.fitsSlot, State.slotType?, f3, hA, hkA, fits]
    · rw [f1, zo_next, zrep_arr]
      rfl
  · rintro u d' acts' ⟨i, hi, -, rfl⟩
    simp only [List.length_nil, Nat.add_zero] at hi
    subst hi
    simp only [wp_pure']
    exact hq _ _
end ZMAKE
section ZMULTIW
variable {p : Program} {l : Launch} {e : Env} {R : Room} {s : State} {m : MethodId} {args : Array Value} {below : List Frame} {meth : Method} {c : Code} {H : Heap} {locs : List Loc} {cells slots : Nat} {Q : State → Prop}
theorem zWmulti {cc : ByteArray} (hexec : p.tables.exec = Jvm.exec) (hb : c.code = cc) {own : String} {index : Nat} (hown : s.vm.findClass own = some m.cls) (hclink : (Cond.classLink own index "[[I").before args s = true) {cA comp cy : ClassId} {kA kC : Class} (hA : s.vm.classes[cA]? = some kA) (hkA : kA.kind = .array comp (.array .int)) (hfA : s.vm.findClass "[[I" = some cA) (hC : s.vm.classes[comp]? = some kC) (hkC : kC.kind = .array cy .int)
    {pc N K : Nat} {ls : Array Slot} {n k : Int32} {rest : List Value} (hdg : decode cc pc = .ok (.multianewarray index 2, 4)) (hn : ¬ n < 0) (hk : ¬ k < 0) (hN : n.toNatClampNeg = N) (hK : k.toNatClampNeg = K) (bN : N ≤ 100000000) (bK : K ≤ 100000000) (hcells : cells + (1 + N) ≤ R.cells) (hslots : slots + (N + N * K) ≤ R.slots)
    (kk : ∀ H' : Heap, H'.size = H.size + 1 + N → H'[H.size]? = some (zo cA N H.size N) → (∀ j : Nat, j < N → H'[H.size + 1 + j]? = some (arrV comp K (fun _ => .int 0))) → (∀ q : Nat, q < H.size → H'[q]? = H[q]?) →
      W p l e R s m args below meth c H' (locs ++ (List.range N).map fun j => (⟨H.size, j⟩ : Loc)) (cells + 1 + N) (slots + N + N * K) Q (F0 m (pc + 4) ls (.ref H.size :: rest))) : W p l e R s m args below meth c H locs cells slots Q (F0 m pc ls (.int k :: .int n :: rest)) := by
  intro T hT X
  subst hT
  subst hb
  have hpl : e.platform.magicAccessors = ({} : Platform).magicAccessors := by rw [X.admits.platform]
  obtain ⟨c0, hf0, hcl⟩ := Cond.classLink_spec hown hclink e.platform hpl
  cases hfA.symm.trans hf0
  obtain ⟨hg₁, hwarm₁, hready₁⟩ := State.classEntry (e := e) X.warmed hcl
  generalize T.vm.noted m.cls index (.cls cA) = vm₁ at hg₁ hwarm₁ hready₁
  have hal : s.vm.Alike vm₁ := hwarm₁.alike
  obtain ⟨kA₁, hA₁, eA⟩ := hal.2.2 _ _ hA
  obtain ⟨kC₁, hC₁, eC⟩ := hal.2.2 _ _ hC
  have X₁ := X.noted hwarm₁
  have XF := zfl_stand X₁ cA comp N K N
  obtain ⟨f1, f2, f3, f4, f5, f6⟩ := zfl_facts cA comp N K (T.setVm vm₁) N
  obtain ⟨r1, r2⟩ := X.roomAbove hcells hslots
  obtain ⟨t, a1, b1⟩ := kk (zfl cA comp N K (T.setVm vm₁) N).heap f1 f2 f6 f5 (zfl cA comp N K (T.setVm vm₁) N) rfl XF
  refine ⟨t, ?_, b1⟩
  jvm_step X.here [hexec, hdg]
  simp only [Op.multianewarray.sem, wp_bind', W.resolveClassAt_links (State.method?_setTop (F0 m pc ls (.int k :: .int n :: rest)) X.here.top) hg₁]
  rw [W.popN, if_neg (by decide)]
  refine ⟨F0 m pc ls (.int k :: .int n :: rest), State.topJava?_setTop' (s := T.setVm vm₁) _ X.here.top, [.int n, .int k], rest, rfl, rfl, ?_⟩
  simp only [List.mapM_cons, List.mapM_nil, wp_bind', wp_pure']
  have eS : ((T.setTop (F0 m pc ls (.int k :: .int n :: rest))).setVm vm₁).setTop (F0 m pc ls rest) = (T.setVm vm₁).setTop (F0 m pc ls rest) := by
    show ((T.setVm vm₁).setTop _).setTop _ = _
    rw [State.setTop_setTop]
  refine zmake (kA := kA₁) (kC := kC₁) (comp := comp) (cc := cy) (N := N) (K := K) hA₁ (by rw [eA]; exact hkA) hC₁ (by rw [eC]; exact hkC) hn hk hN hK (by rw [Launch.admits_arrayLengthLimit X.admits]; omega) (by rw [Launch.admits_maxHeapBytes X.admits]; omega) (by rw [Launch.admits_arrayLengthLimit X.admits]; omega) (by rw [Launch.admits_maxHeapBytes X.admits]; omega) (by show T.heap.size + 1 + _ ≤ _; omega) (by show T.slotsUsed + _ + _ ≤ _; omega) (fun d' acts' => ?_)
  rw [eS, zfl_top]
  simp only [wp_bind', W.mark, W.pushRef, State.topJava?_setTop' _ XF.here.top, Option.some.injEq, exists_eq_left', State.setTop_setTop, State.heap_setTop]
  intro acts
  simp [jvm, XF.here.top]
  exact a1
end ZMULTIW
