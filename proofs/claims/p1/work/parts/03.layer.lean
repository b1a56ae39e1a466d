/-! ===== our own layer over the kit: the memory of one side as functions of the address ===== -/
/-- kind of the cell at an address (0: none; 1 + i: an object of class i; 100 + t: an array of type t), its length, its ints, its references -/
abbrev zM : Type := (Nat → Nat) × (Nat → Nat) × (Nat → Nat → Int32) × (Nat → Nat → Option Nat)
/-- an object's fields by its layout: true where a field is a reference -/
def zF : List Bool → Nat → (Nat → Int32) → (Nat → Option Nat) → List Value
  | [], _, _, _ => []
  | b :: l, k, i, r => (if b then va_rf (r k) else Value.int (i k)) :: zF l (k + 1) i r
theorem zF_get : ∀ (l : List Bool) (k j : Nat) (i : Nat → Int32) (r : Nat → Option Nat) (b : Bool), l[j]? = some b → (zF l k i r)[j]? = some (if b then va_rf (r (k + j)) else Value.int (i (k + j)))
  | [], _, _, _, _, _, h => by simp at h
  | c :: l, k, 0, i, r, b, h => by
    simp at h
    subst h
    simp [zF]
  | c :: l, k, j + 1, i, r, b, h => by
    rw [List.getElem?_cons_succ] at h
    have h1 := zF_get l (k + 1) j i r b h
    rw [zF, List.getElem?_cons_succ, h1]
    rw [show k + 1 + j = k + (j + 1) by omega]
theorem zF_len : ∀ (l : List Bool) (k : Nat) (i : Nat → Int32) (r : Nat → Option Nat), (zF l k i r).length = l.length
  | [], _, _, _ => rfl
  | c :: l, k, i, r => by
    rw [zF, List.length_cons, List.length_cons, zF_len l]
/-- one int field is set -/
theorem zF_seti (l : List Bool) (k j : Nat) (i : Nat → Int32) (r : Nat → Option Nat) (v : Int32) (h : l[j]? = some false) : (zF l k i r).set j (.int v) = zF l k (fun x => if x = k + j then v else i x) r := by
  apply List.ext_getElem?
  intro n
  by_cases hn : n = j
  · subst hn
    have hl : n < (zF l k i r).length := by rw [zF_len]; exact (List.getElem?_eq_some_iff.mp h).1
    rw [List.getElem?_set_self hl, zF_get l k n _ _ false h]
    simp
  · rw [List.getElem?_set_ne (Ne.symm hn)]
    cases hb : l[n]? with
    | none =>
      have h1 : l.length ≤ n := by simpa using hb
      rw [List.getElem?_eq_none (by rw [zF_len]; exact h1), List.getElem?_eq_none (by rw [zF_len]; exact h1)]
    | some b =>
      rw [zF_get l k n _ _ b hb, zF_get l k n _ _ b hb]
      rw [if_neg (show ¬ k + n = k + j by omega)]
theorem zF_setr (l : List Bool) (k j : Nat) (i : Nat → Int32) (r : Nat → Option Nat) (v : Option Nat) (h : l[j]? = some true) : (zF l k i r).set j (va_rf v) = zF l k i (fun x => if x = k + j then v else r x) := by
  apply List.ext_getElem?
  intro n
  by_cases hn : n = j
  · subst hn
    have hl : n < (zF l k i r).length := by rw [zF_len]; exact (List.getElem?_eq_some_iff.mp h).1
    rw [List.getElem?_set_self hl, zF_get l k n _ _ true h]
    simp
  · rw [List.getElem?_set_ne (Ne.symm hn)]
    cases hb : l[n]? with
    | none =>
      have h1 : l.length ≤ n := by simpa using hb
      rw [List.getElem?_eq_none (by rw [zF_len]; exact h1), List.getElem?_eq_none (by rw [zF_len]; exact h1)]
    | some b =>
      rw [zF_get l k n _ _ b hb, zF_get l k n _ _ b hb]
      rw [if_neg (show ¬ k + n = k + j by omega)]
/-- which fields of a class are references -/
def zlay : Nat → List Bool
  | 0 => [false, true, true, true, true, true, false, false, false, false, false, false, false, false, false]
  | 1 => [true, true, false, true, true, true, true, true, false, false, false]
  | 2 => [true, false, false]
  | 3 => [false, false, false, false, false]
  | 4 => [true, true, true, false]
  | 5 => [false, true, true, false, false, false]
  | 6 => [true, true, true, true, false]
  | 7 => [true, true, false]
  | 8 => [false, false, false, false, false, false, false]
  | 9 => [true, false, false, false, false]
  | 10 => [true, true, true, true, true, true, true, true, true, false, false, false, false, false, false]
  | 11 => [true, false, true, false, true, true, true]
  | 12 => [false, false, true, false, true, false, false, true, true, true, true, true, false, true, true, true, true, false, false, false, false, false, false, false, false, false, true, false]
  | 13 => [true, true, true, true, true, false]
  | 14 => [false, false, false, false, false, true, true, false, true, false, true, true, true, true, true, false, false, false, false, false, false, true, false, true, true, true, false, true, true, true, false, true, false, true, true, true, true, true, true, false]
  | _ => []
/-- the component types of our arrays -/
def ztys (cA : Nat → ClassId) : List (ClassId × FieldType) := [(cA 0, .int), (cA 1, .boolean), (cA 2, .object "HouseWires$Line"), (cA 3, .object "HouseWires$Device"), (cA 4, .object "HouseWires$Filter"), (cA 5, .object "HouseWires$Port"), (cA 6, .object "HouseWires$Telegram"), (cA 7, .object "HouseWires$Station"), (cA 8, .object "HouseWires$GroupObject"), (cA 9, .object "HouseWiresModel$Out"), (cA 10, .object "HouseWiresModel$Device"), (cA 11, .object "HouseWiresModel$Coupler"), (cA 12, .array .int), (cA 13, .long)]
def zAO : List String := ["HouseWires$Line", "HouseWires$Device", "HouseWires$Filter", "HouseWires$Port", "HouseWires$Telegram", "HouseWires$Station", "HouseWires$GroupObject", "HouseWiresModel$Out", "HouseWiresModel$Device", "HouseWiresModel$Coupler"]
def zNW : List Cond := [.methodLinkNest "HouseWires" 9 ⟨"HouseWires$Tally", "<init>", "()V"⟩ "HouseWires", .methodLinkNest "HouseWires" 42 ⟨"HouseWires$Harms", "<init>", "()V"⟩ "HouseWires", .methodLinkNest "HouseWires" 53 ⟨"HouseWires$Telegram", "<init>", "()V"⟩ "HouseWires", .methodLinkNest "HouseWires$Row" 21 ⟨"HouseWires$Telegram", "<init>", "()V"⟩ "HouseWires", .methodLinkNest "HouseWires$Connection" 28 ⟨"HouseWires$Telegram", "<init>", "()V"⟩ "HouseWires", .methodLinkNest "HouseWires$Station" 15 ⟨"HouseWires$Telegram", "<init>", "()V"⟩ "HouseWires", .methodLinkNest "HouseWires" 119 ⟨"HouseWires$Filter", "<init>", "()V"⟩ "HouseWires", .methodLinkNest "HouseWires$Device" 39 ⟨"HouseWires", "isWithin", "(III)Z"⟩ "HouseWires", .methodLinkNest "HouseWires$Telegram" 36 ⟨"HouseWires", "isWithin", "(III)Z"⟩ "HouseWires", .methodLinkNest "HouseWiresModel" 90 ⟨"HouseWiresModel$Device", "<init>", "()V"⟩ "HouseWiresModel", .methodLinkNest "HouseWiresModel$Device" 11 ⟨"HouseWiresModel$Out", "<init>", "()V"⟩ "HouseWiresModel", .methodLinkNest "HouseWiresModel" 91 ⟨"HouseWiresModel$Coupler", "<init>", "()V"⟩ "HouseWiresModel", .methodLinkNest "HouseWiresModel$Coupler" 20 ⟨"HouseWiresModel$Out", "<init>", "()V"⟩ "HouseWiresModel", .methodLinkNest "HouseWiresModel" 92 ⟨"HouseWiresModel$Out", "<init>", "()V"⟩ "HouseWiresModel"]
theorem zNW_form : ∀ w ∈ zNW, ∃ (a : String) (i : Nat) (x : MethodName) (h : String), w = .methodLinkNest a i x h := by
  intro w hw
  simp only [zNW, List.mem_cons, List.not_mem_nil, or_false] at hw
  rcases hw with rfl | rfl | rfl | rfl | rfl | rfl | rfl | rfl | rfl | rfl | rfl | rfl | rfl | rfl <;> exact ⟨_, _, _, _, rfl⟩
/-- what the cell of kind k with length n, ints i, references r is for the kit -/
def zE (cA : Nat → ClassId) (k n : Nat) (i : Nat → Int32) (r : Nat → Option Nat) : va_E :=
  if k < 99 then .inr (k - 1, zF (zlay (k - 1)) 0 i r) else if k = 99 then .inl (cA 13, n, .inr (.inl (fun j => Int32.toInt64 (i j)))) else if k < 102 then .inl (cA (k - 100), n, .inl i) else .inl (cA (k - 100), n, .inr (.inr (.inr (.inr r))))
abbrev zE' (cA : Nat → ClassId) (M : zM) (a : Nat) : va_E := zE cA (M.1 a) (M.2.1 a) (M.2.2.1 a) (M.2.2.2 a)
/-- a list world holds just the memory's cells -/
def zRep (cA : Nat → ClassId) (M : zM) (ws : va_W) : Prop := (∀ a, M.1 a ≠ 0 → ∃ j : Nat, ws[j]? = some (a, zE' cA M a)) ∧ ∀ (j : Nat) (q : Nat × va_E), ws[j]? = some q → M.1 q.1 ≠ 0 ∧ q.2 = zE' cA M q.1
/-- an int is written, a reference is written, a new cell -/
def zi (M : zM) (a k : Nat) (v : Int32) : zM := (M.1, M.2.1, fun x j => if x = a ∧ j = k then v else M.2.2.1 x j, M.2.2.2)
def zr (M : zM) (a k : Nat) (v : Option Nat) : zM := (M.1, M.2.1, M.2.2.1, fun x j => if x = a ∧ j = k then v else M.2.2.2 x j)
def zn (M : zM) (a k n : Nat) : zM := (fun x => if x = a then k else M.1 x, fun x => if x = a then n else M.2.1 x, fun x j => if x = a then 0 else M.2.2.1 x j, fun x j => if x = a then none else M.2.2.2 x j)
theorem zRep.set {cA : Nat → ClassId} {M M' : zM} {ws : va_W} {A : Nat → Prop} {a q0 : Nat} {e0 e : va_E} (h : zRep cA M ws) (hD : va_D A ws) (hq : ws[q0]? = some (a, e0)) (ho : ∀ x, x ≠ a → M'.1 x = M.1 x ∧ zE' cA M' x = zE' cA M x) (hk : M'.1 a ≠ 0) (he : e = zE' cA M' a) : zRep cA M' (ws.set q0 (a, e)) := by
  have hl := (List.getElem?_eq_some_iff.mp hq).1
  refine ⟨fun x hx => ?_, fun j q hj => ?_⟩
  · by_cases hxa : x = a
    · subst hxa
      exact ⟨q0, by rw [List.getElem?_set_self hl, he]⟩
    · obtain ⟨h1, h2⟩ := ho x hxa
      obtain ⟨j, hj⟩ := h.1 x (by rw [← h1]; exact hx)
      refine ⟨j, ?_⟩
      rw [List.getElem?_set_ne, hj, h2]
      intro hjq
      subst hjq
      rw [hq] at hj
      cases hj
      exact hxa rfl
  · by_cases hjq : j = q0
    · subst hjq
      rw [List.getElem?_set_self hl] at hj
      cases hj
      exact ⟨hk, he⟩
    · rw [List.getElem?_set_ne (Ne.symm hjq)] at hj
      have hqa : q.1 ≠ a := fun z => hjq (hD.1 j q0 q (a, e0) hj hq z)
      obtain ⟨h1, h2⟩ := ho q.1 hqa
      obtain ⟨h3, h4⟩ := h.2 j q hj
      exact ⟨by rw [h1]; exact h3, by rw [h2]; exact h4⟩
theorem zRep.fresh {cA : Nat → ClassId} {M : zM} {ws : va_W} {A : Nat → Prop} {a : Nat} {e : va_E} (h : zRep cA M ws) (hD : va_D A (ws ++ [(a, e)])) : M.1 a = 0 := by
  rcases Nat.eq_zero_or_pos (M.1 a) with h0 | h0
  · exact h0
  · obtain ⟨j, hj⟩ := h.1 a (by omega)
    have hl := (List.getElem?_eq_some_iff.mp hj).1
    have h1 : (ws ++ [(a, e)])[j]? = some (a, zE' cA M a) := by rw [List.getElem?_append_left hl]; exact hj
    have h2 : (ws ++ [(a, e)])[ws.length]? = some (a, e) := by rw [List.getElem?_append_right (Nat.le_refl _)]; simp
    have h3 := hD.1 j ws.length _ _ h1 h2 rfl
    omega
theorem zRep.push {cA : Nat → ClassId} {M M' : zM} {ws : va_W} {a : Nat} {e : va_E} (h : zRep cA M ws) (hf : M.1 a = 0) (ho : ∀ x, x ≠ a → M'.1 x = M.1 x ∧ zE' cA M' x = zE' cA M x) (hk : M'.1 a ≠ 0) (he : e = zE' cA M' a) : zRep cA M' (ws ++ [(a, e)]) := by
  refine ⟨fun x hx => ?_, fun j q hj => ?_⟩
  · by_cases hxa : x = a
    · subst hxa
      exact ⟨ws.length, by rw [List.getElem?_append_right (Nat.le_refl _), he]; simp⟩
    · obtain ⟨h1, h2⟩ := ho x hxa
      obtain ⟨j, hj⟩ := h.1 x (by rw [← h1]; exact hx)
      exact ⟨j, by rw [List.getElem?_append_left (List.getElem?_eq_some_iff.mp hj).1, hj, h2]⟩
  · by_cases hl : j < ws.length
    · rw [List.getElem?_append_left hl] at hj
      obtain ⟨h3, h4⟩ := h.2 j q hj
      have hqa : q.1 ≠ a := fun z => by rw [z] at h3; exact h3 hf
      obtain ⟨h1, h2⟩ := ho q.1 hqa
      exact ⟨by rw [h1]; exact h3, by rw [h2]; exact h4⟩
    · rw [List.getElem?_append_right (by omega)] at hj
      have hz : j - ws.length < 1 := (List.getElem?_eq_some_iff.mp hj).1
      rw [show j - ws.length = 0 by omega] at hj
      cases hj
      exact ⟨hk, he⟩
theorem zi_ne {cA : Nat → ClassId} (M : zM) (a k : Nat) (v : Int32) : ∀ x, x ≠ a → (zi M a k v).1 x = M.1 x ∧ zE' cA (zi M a k v) x = zE' cA M x := fun x hx => ⟨rfl, by simp [zi, zE', hx]⟩
theorem zr_ne {cA : Nat → ClassId} (M : zM) (a k : Nat) (v : Option Nat) : ∀ x, x ≠ a → (zr M a k v).1 x = M.1 x ∧ zE' cA (zr M a k v) x = zE' cA M x := fun x hx => ⟨rfl, by simp [zr, zE', hx]⟩
theorem zn_ne {cA : Nat → ClassId} (M : zM) (a k n : Nat) : ∀ x, x ≠ a → (zn M a k n).1 x = M.1 x ∧ zE' cA (zn M a k n) x = zE' cA M x := fun x hx => ⟨by simp [zn, hx], by simp [zn, zE', hx]⟩
/-- the words that every contract of ours has: those of the tables that stay -/
def zT : List Cond := lw_tbl.filter goodWord
theorem zT_tab {w : Cond} (j : Nat) (h : tables_1[j]? = some w) (g : goodWord w = true) : w ∈ zT := List.mem_filter.mpr ⟨List.mem_append_right _ (List.mem_of_getElem? h), g⟩
theorem zT_prv {w : Cond} (j : Nat) (h : (k2_sels lw_privs)[j]? = some w) (g : goodWord w = true) : w ∈ zT := List.mem_filter.mpr ⟨List.mem_append_left _ (List.mem_of_getElem? h), g⟩
theorem zT_good {y : MethodName} {b : ByteArray} {n : Nat} {r : Option FieldType} {big : List Cond} (hb : ∀ w ∈ zT, w ∈ big) (h : Cond.code y b n r ∈ zT) : GoodIn big (.code y b n r :: zT) := by
  intro w hw
  rcases List.mem_cons.mp hw with e | hw
  · subst e
    exact ⟨hb _ h, good_of_word (List.mem_filter.mp h).2⟩
  · exact ⟨hb _ hw, good_of_word (List.mem_filter.mp hw).2⟩
/-- launch, classes and slots, array classes -/
abbrev zG : Type := Launch × va_G × (Nat → ClassId)
/-- int[][] is an array of int[] -/
def zO2 (G : zG) (U : State) : Prop := ∃ kA : Class, U.vm.classes[G.2.2 12]? = some kA ∧ kA.kind = .array (G.2.2 0) (.array .int)
theorem zO2.moved {G : zG} {u U : State} (hvm : u.vm.Alike U.vm) (h : zO2 G u) : zO2 G U := by
  obtain ⟨kA, h1, h2⟩ := h
  obtain ⟨k', hk', he⟩ := hvm.2.2 _ _ h1
  exact ⟨k', hk', by rw [he]; exact h2⟩
/-- what the tables say at a state, and keeps -/
def zV (G : zG) (U : State) : Prop := va_K G.2.1 vwCl (ztys G.2.2) U ∧ (∀ C ∈ zAO, va_AO C U) ∧ (∀ w ∈ zNW, va_Nw w U) ∧ zO2 G U
/-- which cells a method may write -/
def zA (M : zM) (sz : Nat) : Nat → Prop := fun q => M.1 q ≠ 0 ∨ sz ≤ q
def zQ (G : zG) (A : Nat → Prop) (post : zM → Option Value → Prop) : Array Value → State → Outcome → State → Prop := fun _ st oc t => (∃ (M : zM) (v : Option Value) (ws : va_W), oc = .returned v ∧ post M v ∧ zRep G.2.2 M ws ∧ va_P G.2.1 vwCl ws t.heap ∧ zV G t ∧ va_D A ws) ∧ va_F A st t
/-- where a method begins: memory M -/
def zP (G : zG) (M : zM) (sz : Nat) (U : State) : Prop := U.heap.size = sz ∧ zV G U ∧ ∃ ws : va_W, zRep G.2.2 M ws ∧ va_P G.2.1 vwCl ws U.heap ∧ va_D (fun _ => True) ws
/-- a method's contract at memory M and arguments av: it returns, and post holds -/
def zC (G : zG) (y : MethodName) (cc : ByteArray) (maxL : Nat) (ret : Option FieldType) (rm : Room) (M : zM) (av : List Value) (post : zM → Option Value → Prop) : Prop :=
  ∀ sz : Nat, Met G.1 y (.code y cc maxL ret :: zT) rm (va_Pc av (zP G M sz)) (zQ G (zA M sz) post) rm.cells rm.slots (zA M sz)
/-- an activation: machine, start, frame, cells it may write, what is owed at its end -/
abbrev zX : Type := Program × Env × Room × State × MethodId × Array Value × List Frame × Method × Code × (Nat → Prop) × (zM → Option Value → Prop) × (State → Prop)
abbrev zX.p (X : zX) : Program := X.1
abbrev zX.e (X : zX) : Env := X.2.1
abbrev zX.R (X : zX) : Room := X.2.2.1
abbrev zX.s (X : zX) : State := X.2.2.2.1
abbrev zX.m (X : zX) : MethodId := X.2.2.2.2.1
abbrev zX.a (X : zX) : Array Value := X.2.2.2.2.2.1
abbrev zX.b (X : zX) : List Frame := X.2.2.2.2.2.2.1
abbrev zX.h (X : zX) : Method := X.2.2.2.2.2.2.2.1
abbrev zX.c (X : zX) : Code := X.2.2.2.2.2.2.2.2.1
abbrev zX.A (X : zX) : Nat → Prop := X.2.2.2.2.2.2.2.2.2.1
abbrev zX.q (X : zX) : zM → Option Value → Prop := X.2.2.2.2.2.2.2.2.2.2.1
abbrev zX.Q (X : zX) : State → Prop := X.2.2.2.2.2.2.2.2.2.2.2
/-- what holds of an activation all the while -/
def zOK (G : zG) (X : zX) (cc : ByteArray) (nL : Nat) (own : String) (ret : Option FieldType) (nm : String) : Prop :=
  X.p.tables.exec = Jvm.exec ∧ X.c.code = cc ∧ X.h.sig.returnType = ret ∧ X.c.maxLocals = nL ∧ X.s.vm.findClass own = some X.m.cls ∧ (∀ w ∈ zT, w.before X.a X.s = true) ∧ zV G X.s ∧ X.h.locks = false ∧ X.h.name = nm ∧ (∀ q : Nat, X.s.heap.size ≤ q → X.A q) ∧ ∀ t : State, MQ X.b (zQ G X.A X.q) X.a X.s X.R.cells X.R.slots X.A t → X.Q t
/-- the walk from pc with memory M, n cells and k slots made, locals lv, stack st -/
def zW (G : zG) (X : zX) (nL : Nat) (M : zM) (n k pc : Nat) (lv : List (Nat × Value)) (st : List Value) : Prop :=
  ∀ (H : Heap) (locs : List Loc) (ws : va_W) (ls : Array Slot), zRep G.2.2 M ws → va_P G.2.1 vwCl ws H → va_D X.A ws → va_S X.A X.s.heap H locs → lv_has ls nL lv → n ≤ X.R.cells → k ≤ X.R.slots →
    W X.p G.1 X.e X.R X.s X.m X.a X.b X.h X.c H locs n k X.Q (F0 X.m pc ls st)
theorem zV.moved {G : zG} {u U : State} (hW : u.WarmedH U.vm) (h : zV G u) : zV G U := by
  obtain ⟨h1, h2, h3, h4⟩ := h
  refine ⟨va_K.moved hW.alike h1, fun C hC => va_AO.moved hW.alike (h2 C hC), fun w hw => ?_, ?_⟩
  · obtain ⟨a, i, x, h, rfl⟩ := zNW_form w hw
    exact va_Nw.warmM hW (h3 _ hw)
  · exact zO2.moved hW.alike h4
theorem zV.same {G : zG} {u U : State} (hv : u.vm = U.vm) (h : zV G u) : zV G U := by
  obtain ⟨h1, h2, h3, h4⟩ := h
  have hal : u.vm.Alike U.vm := by rw [hv]; exact Vm.Alike.refl _
  refine ⟨va_K.moved hal h1, fun C hC => va_AO.moved hal (h2 C hC), fun w hw => ?_, ?_⟩
  · obtain ⟨a, i, x, h, rfl⟩ := zNW_form w hw
    exact va_Nw.same rfl hv (h3 _ hw)
  · exact zO2.moved hal h4
theorem zP_blind {G : zG} {M : zM} {sz : Nat} {av : List Value} : FrameBlind (va_Pc av (zP G M sz)) := fun a U g mk h => ⟨h.1, h.2.1, zV.same (u := U) (U := U.calling g mk a) rfl h.2.2.1, h.2.2.2⟩
