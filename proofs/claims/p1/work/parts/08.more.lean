/-! ===== rows that the printed blocks use besides ===== -/
theorem zT_lay {C : String} {T : u_T} {N : Nat} (ps : List Nat) (h : (List.range N).map (u_lay C T) = ps.filterMap (fun i => tables_1[i]?)) (g : ((List.range N).map (u_lay C T)).all goodWord = true) : ∀ w ∈ u_ws C T N, w ∈ zT := by
  intro w hw
  have hg := List.all_eq_true.mp g w hw
  have hw2 : w ∈ ps.filterMap (fun i => tables_1[i]?) := by rw [← h]; exact hw
  obtain ⟨i, -, hi⟩ := List.mem_filterMap.mp hw2
  exact zT_tab i hi hg
theorem zsw (x : Int32) (lo hi : Int) (h0 : 0 ≤ lo) : (x.toInt < lo ∨ hi < x.toInt) ∨ ∃ j : Nat, (j : Int) ≤ hi - lo ∧ x.toInt = lo + (j : Int) := by
  by_cases h1 : x.toInt < lo
  · exact Or.inl (Or.inl h1)
  · by_cases h2 : hi < x.toInt
    · exact Or.inl (Or.inr h2)
    · exact Or.inr ⟨(x.toInt - lo).toNat, by omega, by omega⟩
theorem zcas (j q : Nat) : j = q ∨ j ≠ q := by omega
section ZMORE
variable {G : zG} {X : zX} {cc : ByteArray} {nL : Nat} {own : String} {ret : Option FieldType} {nm : String} {M : zM} {n k pc : Nat} {lv : List (Nat × Value)} {st : List Value}
theorem z_topi {x : Int32} (K : ∀ y : Int32, y = x → zW G X nL M n k pc lv (.int y :: st)) : zW G X nL M n k pc lv (.int x :: st) := K x rfl
theorem z_topl {x : Int64} (K : ∀ y : Int64, y = x → zW G X nL M n k pc lv (.long y :: st)) : zW G X nL M n k pc lv (.long x :: st) := K x rfl
theorem zRm_of {rm R0 : Room} {maxL : Nat} (h : X.R = R0) (h1 : rm.frames + 1 ≤ R0.frames) (h2 : 8 + (maxL + 11) + rm.locals ≤ R0.locals) : zRm X rm maxL := by
  unfold zRm
  rw [h]
  exact ⟨h1, h2⟩
theorem z_have (K : n ≤ X.R.cells → k ≤ X.R.slots → zW G X nL M n k pc lv st) : zW G X nL M n k pc lv st := fun H locs ws ls h1 h2 h3 h4 h5 h6 h7 => K h6 h7 H locs ws ls h1 h2 h3 h4 h5 h6 h7
variable {index np maxL ci b : Nat} {y : MethodName} {cy : ByteArray} {ry : Option FieldType} {rm : Room} {As : List Value} {post : zM → Option Value → Prop}
theorem z_callV0 (O : zOK G X cc nL own ret nm) (L : zCV own index ci y cy maxL ry np) (hM : zC G y cy maxL ry rm M (.ref b :: As) post) (hk : M.1 b = ci + 1) (hn : As.length = np) (hR : zRm X rm maxL) (hst : (st.map fun v => v.category).sum ≤ 8) (hd : decode cc pc = .ok (.invokevirtual index, 3)) (hc : rm.cells = 0) (hs : rm.slots = 0) {st0 : List Value} (hs0 : st0 = As.reverse ++ .ref b :: st) (K : ∀ (M' : zM) (v : Option Value), post M' v → zW G X nL M' n k (pc + 3) lv (v.toList ++ st)) : zW G X nL M n k pc lv st0 := z_have fun h6 h7 => z_callV O L hM hk hn hR hst hd (by rw [hc]; exact h6) (by rw [hs]; exact h7) hs0 (fun M' v h => by rw [hc, hs]; exact K M' v h)
theorem z_callVk (O : zOK G X cc nL own ret nm) (L : zCV own index ci y cy maxL ry np) (hM : zC G y cy maxL ry rm M (.ref b :: As) post) (hk : M.1 b = ci + 1) (hn : As.length = np) (hR : zRm X rm maxL) (hst : (st.map fun v => v.category).sum ≤ 8) (hd : decode cc pc = .ok (.invokevirtual index, 3)) {mc ms : Nat} (hc : rm.cells = mc) (hs : rm.slots = ms) (g1 : n + mc ≤ X.R.cells) (g2 : k + ms ≤ X.R.slots) {st0 : List Value} (hs0 : st0 = As.reverse ++ .ref b :: st) (K : ∀ (M' : zM) (v : Option Value), post M' v → zW G X nL M' (n + mc) (k + ms) (pc + 3) lv (v.toList ++ st)) : zW G X nL M n k pc lv st0 := by
  subst hc
  subst hs
  exact z_callV O L hM hk hn hR hst hd g1 g2 hs0 K
theorem z_callS0 (O : zOK G X cc nL own ret nm) (L : zCS own index y cy maxL ry np) (hM : zC G y cy maxL ry rm M As post) (hn : As.length = np) (hR : zRm X rm maxL) (hst : (st.map fun v => v.category).sum ≤ 8) (hd : decode cc pc = .ok (.invokestatic index, 3)) (hc : rm.cells = 0) (hs : rm.slots = 0) {st0 : List Value} (hs0 : st0 = As.reverse ++ st) (K : ∀ (M' : zM) (v : Option Value), post M' v → zW G X nL M' n k (pc + 3) lv (v.toList ++ st)) : zW G X nL M n k pc lv st0 := z_have fun h6 h7 => z_callS O L hM hn hR hst hd (by rw [hc]; exact h6) (by rw [hs]; exact h7) hs0 (fun M' v h => by rw [hc, hs]; exact K M' v h)
theorem z_callSk (O : zOK G X cc nL own ret nm) (L : zCS own index y cy maxL ry np) (hM : zC G y cy maxL ry rm M As post) (hn : As.length = np) (hR : zRm X rm maxL) (hst : (st.map fun v => v.category).sum ≤ 8) (hd : decode cc pc = .ok (.invokestatic index, 3)) {mc ms : Nat} (hc : rm.cells = mc) (hs : rm.slots = ms) (g1 : n + mc ≤ X.R.cells) (g2 : k + ms ≤ X.R.slots) {st0 : List Value} (hs0 : st0 = As.reverse ++ st) (K : ∀ (M' : zM) (v : Option Value), post M' v → zW G X nL M' (n + mc) (k + ms) (pc + 3) lv (v.toList ++ st)) : zW G X nL M n k pc lv st0 := by
  subst hc
  subst hs
  exact z_callS O L hM hn hR hst hd g1 g2 hs0 K
theorem z_callSN0 (O : zOK G X cc nL own ret nm) (L : zCSN own index y cy maxL ry np) (hM : zC G y cy maxL ry rm M As post) (hn : As.length = np) (hR : zRm X rm maxL) (hst : (st.map fun v => v.category).sum ≤ 8) (hd : decode cc pc = .ok (.invokestatic index, 3)) (hc : rm.cells = 0) (hs : rm.slots = 0) {st0 : List Value} (hs0 : st0 = As.reverse ++ st) (K : ∀ (M' : zM) (v : Option Value), post M' v → zW G X nL M' n k (pc + 3) lv (v.toList ++ st)) : zW G X nL M n k pc lv st0 := z_have fun h6 h7 => z_callSN O L hM hn hR hst hd (by rw [hc]; exact h6) (by rw [hs]; exact h7) hs0 (fun M' v h => by rw [hc, hs]; exact K M' v h)
theorem z_callSNk (O : zOK G X cc nL own ret nm) (L : zCSN own index y cy maxL ry np) (hM : zC G y cy maxL ry rm M As post) (hn : As.length = np) (hR : zRm X rm maxL) (hst : (st.map fun v => v.category).sum ≤ 8) (hd : decode cc pc = .ok (.invokestatic index, 3)) {mc ms : Nat} (hc : rm.cells = mc) (hs : rm.slots = ms) (g1 : n + mc ≤ X.R.cells) (g2 : k + ms ≤ X.R.slots) {st0 : List Value} (hs0 : st0 = As.reverse ++ st) (K : ∀ (M' : zM) (v : Option Value), post M' v → zW G X nL M' (n + mc) (k + ms) (pc + 3) lv (v.toList ++ st)) : zW G X nL M n k pc lv st0 := by
  subst hc
  subst hs
  exact z_callSN O L hM hn hR hst hd g1 g2 hs0 K
theorem z_callI0 (O : zOK G X cc nL own ret nm) (L : zCI own index y cy maxL np) (hM : zC G y cy maxL none rm M (.ref b :: As) post) (hn : As.length = np) (hR : zRm X rm maxL) (hst : (st.map fun v => v.category).sum ≤ 8) (hd : decode cc pc = .ok (.invokespecial index, 3)) (hc : rm.cells = 0) (hs : rm.slots = 0) {st0 : List Value} (hs0 : st0 = As.reverse ++ .ref b :: st) (K : ∀ (M' : zM) (v : Option Value), post M' v → zW G X nL M' n k (pc + 3) lv (v.toList ++ st)) : zW G X nL M n k pc lv st0 := z_have fun h6 h7 => z_callI O L hM hn hR hst hd (by rw [hc]; exact h6) (by rw [hs]; exact h7) hs0 (fun M' v h => by rw [hc, hs]; exact K M' v h)
theorem z_callIk (O : zOK G X cc nL own ret nm) (L : zCI own index y cy maxL np) (hM : zC G y cy maxL none rm M (.ref b :: As) post) (hn : As.length = np) (hR : zRm X rm maxL) (hst : (st.map fun v => v.category).sum ≤ 8) (hd : decode cc pc = .ok (.invokespecial index, 3)) {mc ms : Nat} (hc : rm.cells = mc) (hs : rm.slots = ms) (g1 : n + mc ≤ X.R.cells) (g2 : k + ms ≤ X.R.slots) {st0 : List Value} (hs0 : st0 = As.reverse ++ .ref b :: st) (K : ∀ (M' : zM) (v : Option Value), post M' v → zW G X nL M' (n + mc) (k + ms) (pc + 3) lv (v.toList ++ st)) : zW G X nL M n k pc lv st0 := by
  subst hc
  subst hs
  exact z_callI O L hM hn hR hst hd g1 g2 hs0 K
theorem z_callIN0 (O : zOK G X cc nL own ret nm) (L : zCIN own index y cy maxL np) (hM : zC G y cy maxL none rm M (.ref b :: As) post) (hn : As.length = np) (hR : zRm X rm maxL) (hst : (st.map fun v => v.category).sum ≤ 8) (hd : decode cc pc = .ok (.invokespecial index, 3)) (hc : rm.cells = 0) (hs : rm.slots = 0) {st0 : List Value} (hs0 : st0 = As.reverse ++ .ref b :: st) (K : ∀ (M' : zM) (v : Option Value), post M' v → zW G X nL M' n k (pc + 3) lv (v.toList ++ st)) : zW G X nL M n k pc lv st0 := z_have fun h6 h7 => z_callIN O L hM hn hR hst hd (by rw [hc]; exact h6) (by rw [hs]; exact h7) hs0 (fun M' v h => by rw [hc, hs]; exact K M' v h)
theorem z_callINk (O : zOK G X cc nL own ret nm) (L : zCIN own index y cy maxL np) (hM : zC G y cy maxL none rm M (.ref b :: As) post) (hn : As.length = np) (hR : zRm X rm maxL) (hst : (st.map fun v => v.category).sum ≤ 8) (hd : decode cc pc = .ok (.invokespecial index, 3)) {mc ms : Nat} (hc : rm.cells = mc) (hs : rm.slots = ms) (g1 : n + mc ≤ X.R.cells) (g2 : k + ms ≤ X.R.slots) {st0 : List Value} (hs0 : st0 = As.reverse ++ .ref b :: st) (K : ∀ (M' : zM) (v : Option Value), post M' v → zW G X nL M' (n + mc) (k + ms) (pc + 3) lv (v.toList ++ st)) : zW G X nL M n k pc lv st0 := by
  subst hc
  subst hs
  exact z_callIN O L hM hn hR hst hd g1 g2 hs0 K
/-- int[N][K]: the row of rows at q, the rows behind it -/
def znn (M : zM) (q N K : Nat) : zM := (fun x => if x = q then 112 else if q < x ∧ x ≤ q + N then 100 else M.1 x, fun x => if x = q then N else if q < x ∧ x ≤ q + N then K else M.2.1 x, fun x j => if q ≤ x ∧ x ≤ q + N then 0 else M.2.2.1 x j, fun x j => if x = q then (if j < N then some (q + 1 + j) else none) else if q < x ∧ x ≤ q + N then none else M.2.2.2 x j)
theorem znn_out {cA : Nat → ClassId} {q N K x : Nat} (h : ¬ (q ≤ x ∧ x ≤ q + N)) : (znn M q N K).1 x = M.1 x ∧ zE' cA (znn M q N K) x = zE' cA M x := by
  have h1 : ¬ x = q := by omega
  have h2 : ¬ (q < x ∧ x ≤ q + N) := by omega
  simp only [znn, zE', h, h1, h2, if_false, and_self]
theorem z_multi (O : zOK G X cc nL own ret nm) {i0 i1 : Int32} {N K : Nat} (hw : Cond.classLink own index "[[I" ∈ zT) (hd : decode cc pc = .ok (.multianewarray index 2, 4)) (hn : ¬ i0 < 0) (hk : ¬ i1 < 0) (hN : i0.toNatClampNeg = N) (hK : i1.toNatClampNeg = K) (bN : N ≤ 100000000) (bK : K ≤ 100000000) {c1 c2 : Nat} (g1 : n + c1 ≤ X.R.cells) (g2 : k + c2 ≤ X.R.slots) (e1 : c1 = 1 + N) (e2 : c2 = N + N * K)
    (KK : ∀ q : Nat, (∀ j, j ≤ N → M.1 (q + j) = 0) → zW G X nL (znn M q N K) (n + c1) (k + c2) (pc + 4) lv (.ref q :: st)) : zW G X nL M n k pc lv (.int i1 :: .int i0 :: st) := by
  subst e1
  subst e2
  intro H locs ws ls h1 h2 h3 h4 h5 h6 h7
  have hV := O.2.2.2.2.2.2.1
  obtain ⟨kA, hA, hkA⟩ := hV.2.2.2
  have hfA : X.s.vm.findClass "[[I" = some (G.2.2 12) := (hV.1.2 12 (G.2.2 12, .array .int) rfl).2
  obtain ⟨-, kC, hC, cy, hkC⟩ := (hV.1.2 0 (G.2.2 0, .int) rfl).1 0 (fun _ => .int 0)
  refine zWmulti O.1 O.2.1 O.2.2.2.2.1 (O.2.2.2.2.2.1 _ hw) hA hkA hfA hC hkC hd hn hk hN hK bN bK g1 g2 (fun H' s1 s2 s3 s4 => ?_)
  have hlt : ∀ (j : Nat) (q : Nat × va_E), ws[j]? = some q → q.1 < H.size := fun j q hq => (h2 j q hq).lt
  have hfr : ∀ x, H.size ≤ x → M.1 x = 0 := fun x hx => by
    rcases Nat.eq_zero_or_pos (M.1 x) with h0 | h0
    · exact h0
    · obtain ⟨j, hj⟩ := h1.1 x (by omega)
      have := hlt j _ hj
      simp only at this
      omega
  have hin : ∀ x, M.1 x ≠ 0 → x < H.size := fun x hx => by
    rcases Nat.lt_or_ge x H.size with h | h
    · exact h
    · exact absurd (hfr x h) hx
  have key := KK H.size (fun j _ => hfr _ (by omega)) H' (locs ++ (List.range N).map fun j => (⟨H.size, j⟩ : Loc)) (ws ++ ((H.size, zE' G.2.2 (znn M H.size N K) H.size) :: (List.range N).map (fun j => (H.size + 1 + j, zE' G.2.2 (znn M H.size N K) (H.size + 1 + j))))) ls
  have hget : ∀ (j : Nat) (q : Nat × va_E), (ws ++ ((H.size, zE' G.2.2 (znn M H.size N K) H.size) :: (List.range N).map (fun j => (H.size + 1 + j, zE' G.2.2 (znn M H.size N K) (H.size + 1 + j)))))[j]? = some q → (j < ws.length ∧ ws[j]? = some q) ∨ (ws.length ≤ j ∧ j ≤ ws.length + N ∧ q.1 = H.size + (j - ws.length) ∧ q.2 = zE' G.2.2 (znn M H.size N K) q.1) := by
    intro j q hj
    by_cases hl : j < ws.length
    · rw [List.getElem?_append_left hl] at hj
      exact Or.inl ⟨hl, hj⟩
    · rw [List.getElem?_append_right (by omega)] at hj
      right
      cases hz : j - ws.length with
      | zero =>
        rw [hz] at hj
        cases hj
        exact ⟨by omega, by omega, by omega, rfl⟩
      | succ z =>
        rw [hz, List.getElem?_cons_succ, List.getElem?_map] at hj
        by_cases hzN : z < N
        · rw [List.getElem?_range hzN] at hj
          cases hj
          exact ⟨by omega, by omega, by show H.size + 1 + z = _; omega, rfl⟩
        · rw [List.getElem?_eq_none (by rw [List.length_range]; omega)] at hj
          cases hj
  have hrep : zRep G.2.2 (znn M H.size N K) (ws ++ ((H.size, zE' G.2.2 (znn M H.size N K) H.size) :: (List.range N).map (fun j => (H.size + 1 + j, zE' G.2.2 (znn M H.size N K) (H.size + 1 + j))))) := by
    refine ⟨fun x hx => ?_, fun j q hj => ?_⟩
    · by_cases hr : H.size ≤ x ∧ x ≤ H.size + N
      · refine ⟨ws.length + (x - H.size), ?_⟩
        rw [List.getElem?_append_right (by omega), show ws.length + (x - H.size) - ws.length = x - H.size by omega]
        cases hz : x - H.size with
        | zero => rw [show x = H.size by omega]; rfl
        | succ z =>
          rw [List.getElem?_cons_succ, List.getElem?_map, List.getElem?_range (by omega), show x = H.size + 1 + z by omega]
          rfl
      · obtain ⟨g1, g2⟩ := znn_out (M := M) (cA := G.2.2) (K := K) hr
        obtain ⟨j, hj⟩ := h1.1 x (by rw [← g1]; exact hx)
        exact ⟨j, by rw [List.getElem?_append_left (List.getElem?_eq_some_iff.mp hj).1, hj, g2]⟩
    · rcases hget j q hj with ⟨-, hj⟩ | ⟨a1, a2, a3, a4⟩
      · have := hlt j q hj
        obtain ⟨g1, g2⟩ := znn_out (M := M) (cA := G.2.2) (K := K) (x := q.1) (q := H.size) (N := N) (by omega)
        obtain ⟨g3, g4⟩ := h1.2 j q hj
        exact ⟨by rw [g1]; exact g3, by rw [g2]; exact g4⟩
      · refine ⟨?_, a4⟩
        by_cases hq : q.1 = H.size
        · simp [znn, hq]
        · have : H.size < q.1 ∧ q.1 ≤ H.size + N := by omega
          simp [znn, hq, this]
  rw [show n + 1 + N = n + (1 + N) by omega, show k + N + N * K = k + (N + N * K) by omega]
  refine key hrep ?_ ?_ ?_ h5 (by omega) (by omega)
  · intro j q hj
    rcases hget j q hj with ⟨-, hj⟩ | ⟨a1, a2, a3, a4⟩
    · exact (h2 j q hj).kept (s4 q.1 (hlt j q hj))
    · obtain ⟨qa, qe⟩ := q
      simp only at a3 a4
      subst a4
      by_cases hq : qa = H.size
      · subst hq
        rw [zE_ref (M := znn M H.size N K) (t := 10) (by simp [znn])]
        show H'[H.size]? = some (vp_cell _ _)
        rw [vp_cell_q, s2]
        simp [zo, znn]
      · have hr : H.size < qa ∧ qa ≤ H.size + N := by omega
        rw [zE_int (M := znn M H.size N K) (by simp [znn, hq, hr])]
        show H'[qa]? = some (vp_cell _ _)
        have := s3 (qa - H.size - 1) (by omega)
        rw [show H.size + 1 + (qa - H.size - 1) = qa by omega] at this
        rw [vp_cell_i, this]
        have hr2 : H.size ≤ qa := by omega
        simp [znn, hq, hr, hr2]
  · refine ⟨fun i j a b hi hj hab => ?_, fun j q hj => ?_⟩
    · rcases hget i a hi with ⟨-, hi⟩ | ⟨a1, a2, a3, -⟩ <;> rcases hget j b hj with ⟨-, hj⟩ | ⟨b1, b2, b3, -⟩
      · exact h3.1 i j a b hi hj hab
      · have := hlt i a hi; omega
      · have := hlt j b hj; omega
      · omega
    · rcases hget j q hj with ⟨-, hj⟩ | ⟨a1, a2, a3, -⟩
      · exact h3.2 j q hj
      · exact O.2.2.2.2.2.2.2.2.2.1 _ (by have := h4.1; omega)
  · refine ⟨by have := h4.1; omega, fun q g1 g2 => by rw [s4 q (by have := h4.1; omega)]; exact h4.2.1 q g1 g2, fun q hq => ?_⟩
    rcases List.mem_append.mp hq with h | h
    · exact h4.2.2 q h
    · obtain ⟨z, -, hz⟩ := List.mem_map.mp h
      rw [← hz]
      exact O.2.2.2.2.2.2.2.2.2.1 _ h4.1
/-- a row out of int[][] -/
theorem z_aldA (O : zOK G X cc nL own ret nm) {a b : Nat} {i : Int32} (hd : decode cc pc = .ok (.aaload, 1)) (hk : M.1 a = 112) (hi : vp_in i (M.2.1 a)) (hv : M.2.2.2 a i.toNatClampNeg = some b) (K : zW G X nL M n k (pc + 1) lv (.ref b :: st)) : zW G X nL M n k pc lv (.int i :: .ref a :: st) := by
  intro H locs ws ls h1 h2 h3 h4 h5 h6 h7
  obtain ⟨q, hq⟩ := h1.1 a (by rw [hk]; omega)
  rw [zE_ref (t := 10) hk] at hq
  have hlt : i.toNatClampNeg < M.2.1 a := Nat.not_le.mp fun q => hi (Or.inr q)
  exact W.aald (v := .ref b) (ty := .array .int) O.1 O.2.1 (h2 q _ hq) ((O.2.2.2.2.2.2.1.1.2 12 (G.2.2 12, .array .int) rfl).1 (M.2.1 a) (fun j => va_rf (M.2.2.2 a j))) rfl (fun q => by cases q) (by show ¬ (i < 0 ∨ (arrV _ _ _).slots.size ≤ _); rw [arrV_size]; exact hi) (by show (arrV _ _ _).slots[_]? = _; rw [arrV_read _ _ hlt, hv]; rfl) rfl rfl hd (K H locs ws ls h1 h2 h3 h4 h5 h6 h7)
end ZMORE
