/-! ===== rows that read and write the memory ===== -/
/-- the pool's entry index of class own is field j of class ci -/
def zFld (own : String) (index ci j : Nat) (r : Bool) : Prop := ∃ (C : String) (T : u_T) (N : Nat) (ref : String), vwCl[ci]? = some (C, T, N) ∧ j < N ∧ (∀ w ∈ u_ws C T N, w ∈ zT) ∧ Cond.fieldLink own index ref (T j).2.1 (T j).2.2.1 ∈ zT ∧ ((T j).1 = ref ∨ Cond.sameField ref (T j).1 (T j).2.1 (T j).2.2.1 ∈ zT) ∧ (zlay ci)[j]? = some r ∧ ci + 1 < 99
def zFldP (own : String) (index ci j : Nat) (r fin : Bool) : Prop := ∃ (C : String) (T : u_T) (N : Nat) (ref : String) (ty : Nat → FieldType), vwCl[ci]? = some (C, T, N) ∧ j < N ∧ (∀ w ∈ u_ws C T N, w ∈ zT) ∧ Cond.fieldLink own index ref (T j).2.1 (T j).2.2.1 ∈ zT ∧ ((T j).1 = ref ∨ Cond.sameField ref (T j).1 (T j).2.1 (T j).2.2.1 ∈ zT) ∧ (zlay ci)[j]? = some r ∧ ci + 1 < 99 ∧
  (∀ i, i < N → parseFieldDescriptor (T i).2.2.1 = some (ty i)) ∧ (∀ a, a < N → ∀ b, b < N → a ≠ b → (T a).2.1 ≠ (T b).2.1) ∧ (T j).2.2.2 = fin ∧ (fin = true → (T j).1 = own) ∧ (r = false → ty j = .int) ∧ (r = true → (ty j).isReference = true)
theorem zrf_narrow {t : FieldType} (h : t.isReference = true) (v : Option Nat) : narrow t (va_rf v) = va_rf v ∧ fits t (va_rf v) = true := by
  cases v <;> cases t <;> simp [FieldType.isReference] at h <;> exact ⟨rfl, rfl⟩
section ZMEM
variable {G : zG} {X : zX} {cc : ByteArray} {nL : Nat} {own : String} {ret : Option FieldType} {nm : String} {M : zM} {n k pc : Nat} {lv : List (Nat × Value)} {st : List Value}
theorem zE_obj {cA : Nat → ClassId} {a ci : Nat} (hk : M.1 a = ci + 1) (h : ci + 1 < 99) : zE' cA M a = .inr (ci, zF (zlay ci) 0 (M.2.2.1 a) (M.2.2.2 a)) := by
  simp only [zE', zE, hk]
  rw [if_pos h]
  rfl
theorem zE_int {cA : Nat → ClassId} {a : Nat} (hk : M.1 a = 100) : zE' cA M a = .inl (cA 0, M.2.1 a, .inl (M.2.2.1 a)) := by
  simp [zE', zE, hk]
theorem zE_bool {cA : Nat → ClassId} {a : Nat} (hk : M.1 a = 101) : zE' cA M a = .inl (cA 1, M.2.1 a, .inl (M.2.2.1 a)) := by
  simp [zE', zE, hk]
theorem zE_ref {cA : Nat → ClassId} {a t : Nat} (hk : M.1 a = 102 + t) : zE' cA M a = .inl (cA (2 + t), M.2.1 a, .inr (.inr (.inr (.inr (M.2.2.2 a))))) := by
  simp only [zE', zE, hk]
  rw [if_neg (by omega), if_neg (by omega), if_neg (by omega), show 102 + t - 100 = 2 + t by omega]
theorem z_get (O : zOK G X cc nL own ret nm) {index ci j a : Nat} {r : Bool} {v : Value} (F : zFld own index ci j r) (hd : decode cc pc = .ok (.getfield index, 3)) (hk : M.1 a = ci + 1) (hv : (if r then va_rf (M.2.2.2 a j) else Value.int (M.2.2.1 a j)) = v) (K : zW G X nL M n k (pc + 3) lv (v :: st)) : zW G X nL M n k pc lv (.ref a :: st) := by
  intro H locs ws ls h1 h2 h3 h4 h5 h6 h7
  obtain ⟨C, T, N, ref, c1, c2, c3, c4, c5, c6, c7⟩ := F
  obtain ⟨q, hq⟩ := h1.1 a (by rw [hk]; omega)
  rw [zE_obj hk c7] at hq
  refine va_get O.1 O.2.1 O.2.2.2.2.2.1 c3 O.2.2.2.2.1 O.2.2.2.2.2.2.1.1 h2 q hq c1 j c2 (O.2.2.2.2.2.1 _ c4) ?_ (v := v) ?_ hd (K H locs ws ls h1 h2 h3 h4 h5 h6 h7)
  · intro x hx
    rcases c5 with e | e
    · rw [← e]; exact hx
    · exact u_same (O.2.2.2.2.2.1 _ e) x hx
  · rw [zF_get _ _ _ _ _ _ c6, Nat.zero_add, hv]
theorem z_geti (O : zOK G X cc nL own ret nm) {index ci j a : Nat} (F : zFld own index ci j false) (hd : decode cc pc = .ok (.getfield index, 3)) (hk : M.1 a = ci + 1) (K : zW G X nL M n k (pc + 3) lv (.int (M.2.2.1 a j) :: st)) : zW G X nL M n k pc lv (.ref a :: st) := z_get O F hd hk rfl K
theorem z_getr (O : zOK G X cc nL own ret nm) {index ci j a b : Nat} (F : zFld own index ci j true) (hd : decode cc pc = .ok (.getfield index, 3)) (hk : M.1 a = ci + 1) (hr : M.2.2.2 a j = some b) (K : zW G X nL M n k (pc + 3) lv (.ref b :: st)) : zW G X nL M n k pc lv (.ref a :: st) := z_get O F hd hk (by rw [hr]; rfl) K
theorem z_getN (O : zOK G X cc nL own ret nm) {index ci j a : Nat} (F : zFld own index ci j true) (hd : decode cc pc = .ok (.getfield index, 3)) (hk : M.1 a = ci + 1) (hr : M.2.2.2 a j = none) (K : zW G X nL M n k (pc + 3) lv (.null :: st)) : zW G X nL M n k pc lv (.ref a :: st) := z_get O F hd hk (by rw [hr]; rfl) K
/-- a field is written: what the new memory is -/
theorem zPut_i (M : zM) (a j : Nat) (v : Int32) {cA : Nat → ClassId} {ci : Nat} (hk : M.1 a = ci + 1) (hc : ci + 1 < 99) (hl : (zlay ci)[j]? = some false) : (Sum.inr (ci, (zF (zlay ci) 0 (M.2.2.1 a) (M.2.2.2 a)).set j (.int v)) : va_E) = zE' cA (zi M a j v) a := by
  rw [zE_obj (M := zi M a j v) (show (zi M a j v).1 a = ci + 1 from hk) hc, zF_seti _ _ _ _ _ _ hl]
  simp only [zi, Nat.zero_add, true_and]
theorem zPut_r (M : zM) (a j : Nat) (v : Option Nat) {cA : Nat → ClassId} {ci : Nat} (hk : M.1 a = ci + 1) (hc : ci + 1 < 99) (hl : (zlay ci)[j]? = some true) : (Sum.inr (ci, (zF (zlay ci) 0 (M.2.2.1 a) (M.2.2.2 a)).set j (va_rf v)) : va_E) = zE' cA (zr M a j v) a := by
  rw [zE_obj (M := zr M a j v) (show (zr M a j v).1 a = ci + 1 from hk) hc, zF_setr _ _ _ _ _ _ hl]
  simp only [zr, Nat.zero_add, true_and]
theorem zlay_lt {ci j : Nat} {r : Bool} {i : Nat → Int32} {f : Nat → Option Nat} (h : (zlay ci)[j]? = some r) : j < (zF (zlay ci) 0 i f).length := by
  rw [zF_len]
  exact (List.getElem?_eq_some_iff.mp h).1
theorem z_puti (O : zOK G X cc nL own ret nm) {index ci j a : Nat} {v : Int32} (F : zFldP own index ci j false false) (hd : decode cc pc = .ok (.putfield index, 3)) (hk : M.1 a = ci + 1) (K : zW G X nL (zi M a j v) n k (pc + 3) lv st) : zW G X nL M n k pc lv (.int v :: .ref a :: st) := by
  intro H locs ws ls h1 h2 h3 h4 h5 h6 h7
  obtain ⟨C, T, N, ref, ty, c1, c2, c3, c4, c5, c6, c7, c8, c9, c10, c11, c12, c13⟩ := F
  obtain ⟨q, hq⟩ := h1.1 a (by rw [hk]; omega)
  rw [zE_obj hk c7] at hq
  refine va_put O.1 O.2.1 O.2.2.2.2.2.1 c3 ty c8 c9 O.2.2.2.2.1 O.2.2.2.2.2.2.1.1 h2 h3 h4 q hq c1 j c2 (O.2.2.2.2.2.1 _ c4) ?_ c10 (ty := .int) (by rw [c8 j c2, c12 rfl]) rfl rfl (zlay_lt c6) hd (fun H1 locs1 g1 g2 g3 => ?_)
  · intro x hx
    rcases c5 with e | e
    · rw [← e]; exact hx
    · exact u_same (O.2.2.2.2.2.1 _ e) x hx
  · exact K H1 locs1 _ ls (h1.set h3 hq (zi_ne M a j v) (by show M.1 a ≠ 0; rw [hk]; omega) (zPut_i M a j v hk c7 c6)) g1 g2 g3 h5 h6 h7
theorem z_putiF (O : zOK G X cc nL own ret "<init>") {index ci j a : Nat} {v : Int32} (F : zFldP own index ci j false true) (hd : decode cc pc = .ok (.putfield index, 3)) (hk : M.1 a = ci + 1) (K : zW G X nL (zi M a j v) n k (pc + 3) lv st) : zW G X nL M n k pc lv (.int v :: .ref a :: st) := by
  intro H locs ws ls h1 h2 h3 h4 h5 h6 h7
  obtain ⟨C, T, N, ref, ty, c1, c2, c3, c4, c5, c6, c7, c8, c9, c10, c11, c12, c13⟩ := F
  obtain ⟨q, hq⟩ := h1.1 a (by rw [hk]; omega)
  rw [zE_obj hk c7] at hq
  refine va_putF O.1 O.2.1 O.2.2.2.2.2.1 c3 ty c8 c9 O.2.2.2.2.1 O.2.2.2.2.2.2.1.1 h2 h3 h4 q hq c1 j c2 (O.2.2.2.2.2.1 _ c4) ?_ c10 O.2.2.2.2.2.2.2.2.1 (c11 rfl) (ty := .int) (by rw [c8 j c2, c12 rfl]) rfl rfl (zlay_lt c6) hd (fun H1 locs1 g1 g2 g3 => ?_)
  · intro x hx
    rcases c5 with e | e
    · rw [← e]; exact hx
    · exact u_same (O.2.2.2.2.2.1 _ e) x hx
  · exact K H1 locs1 _ ls (h1.set h3 hq (zi_ne M a j v) (by show M.1 a ≠ 0; rw [hk]; omega) (zPut_i M a j v hk c7 c6)) g1 g2 g3 h5 h6 h7
theorem z_putO (O : zOK G X cc nL own ret nm) {index ci j a : Nat} {v : Option Nat} (F : zFldP own index ci j true false) (hd : decode cc pc = .ok (.putfield index, 3)) (hk : M.1 a = ci + 1) (K : zW G X nL (zr M a j v) n k (pc + 3) lv st) : zW G X nL M n k pc lv (va_rf v :: .ref a :: st) := by
  intro H locs ws ls h1 h2 h3 h4 h5 h6 h7
  obtain ⟨C, T, N, ref, ty, c1, c2, c3, c4, c5, c6, c7, c8, c9, c10, c11, c12, c13⟩ := F
  obtain ⟨q, hq⟩ := h1.1 a (by rw [hk]; omega)
  rw [zE_obj hk c7] at hq
  refine va_put O.1 O.2.1 O.2.2.2.2.2.1 c3 ty c8 c9 O.2.2.2.2.1 O.2.2.2.2.2.2.1.1 h2 h3 h4 q hq c1 j c2 (O.2.2.2.2.2.1 _ c4) ?_ c10 (ty := ty j) (c8 j c2) (zrf_narrow (c13 rfl) v).1 (zrf_narrow (c13 rfl) v).2 (zlay_lt c6) hd (fun H1 locs1 g1 g2 g3 => ?_)
  · intro x hx
    rcases c5 with e | e
    · rw [← e]; exact hx
    · exact u_same (O.2.2.2.2.2.1 _ e) x hx
  · exact K H1 locs1 _ ls (h1.set h3 hq (zr_ne M a j v) (by show M.1 a ≠ 0; rw [hk]; omega) (zPut_r M a j v hk c7 c6)) g1 g2 g3 h5 h6 h7
theorem z_putOF (O : zOK G X cc nL own ret "<init>") {index ci j a : Nat} {v : Option Nat} (F : zFldP own index ci j true true) (hd : decode cc pc = .ok (.putfield index, 3)) (hk : M.1 a = ci + 1) (K : zW G X nL (zr M a j v) n k (pc + 3) lv st) : zW G X nL M n k pc lv (va_rf v :: .ref a :: st) := by
  intro H locs ws ls h1 h2 h3 h4 h5 h6 h7
  obtain ⟨C, T, N, ref, ty, c1, c2, c3, c4, c5, c6, c7, c8, c9, c10, c11, c12, c13⟩ := F
  obtain ⟨q, hq⟩ := h1.1 a (by rw [hk]; omega)
  rw [zE_obj hk c7] at hq
  refine va_putF O.1 O.2.1 O.2.2.2.2.2.1 c3 ty c8 c9 O.2.2.2.2.1 O.2.2.2.2.2.2.1.1 h2 h3 h4 q hq c1 j c2 (O.2.2.2.2.2.1 _ c4) ?_ c10 O.2.2.2.2.2.2.2.2.1 (c11 rfl) (ty := ty j) (c8 j c2) (zrf_narrow (c13 rfl) v).1 (zrf_narrow (c13 rfl) v).2 (zlay_lt c6) hd (fun H1 locs1 g1 g2 g3 => ?_)
  · intro x hx
    rcases c5 with e | e
    · rw [← e]; exact hx
    · exact u_same (O.2.2.2.2.2.1 _ e) x hx
  · exact K H1 locs1 _ ls (h1.set h3 hq (zr_ne M a j v) (by show M.1 a ≠ 0; rw [hk]; omega) (zPut_r M a j v hk c7 c6)) g1 g2 g3 h5 h6 h7
theorem z_putr (O : zOK G X cc nL own ret nm) {index ci j a v : Nat} (F : zFldP own index ci j true false) (hd : decode cc pc = .ok (.putfield index, 3)) (hk : M.1 a = ci + 1) (K : zW G X nL (zr M a j (some v)) n k (pc + 3) lv st) : zW G X nL M n k pc lv (.ref v :: .ref a :: st) := z_putO (v := some v) O F hd hk K
theorem z_putrF (O : zOK G X cc nL own ret "<init>") {index ci j a v : Nat} (F : zFldP own index ci j true true) (hd : decode cc pc = .ok (.putfield index, 3)) (hk : M.1 a = ci + 1) (K : zW G X nL (zr M a j (some v)) n k (pc + 3) lv st) : zW G X nL M n k pc lv (.ref v :: .ref a :: st) := z_putOF (v := some v) O F hd hk K
theorem z_iald (O : zOK G X cc nL own ret nm) {a : Nat} {i : Int32} (hd : decode cc pc = .ok (.iaload, 1)) (hk : M.1 a = 100) (hi : vp_in i (M.2.1 a)) (K : zW G X nL M n k (pc + 1) lv (.int (M.2.2.1 a i.toNatClampNeg) :: st)) : zW G X nL M n k pc lv (.int i :: .ref a :: st) := by
  intro H locs ws ls h1 h2 h3 h4 h5 h6 h7
  obtain ⟨q, hq⟩ := h1.1 a (by rw [hk]; omega)
  rw [zE_int hk] at hq
  exact va_iald O.1 O.2.1 O.2.2.2.2.2.2.1.1 h2 q 0 hq rfl hi hd (K H locs ws ls h1 h2 h3 h4 h5 h6 h7)
theorem z_zald (O : zOK G X cc nL own ret nm) {a : Nat} {i : Int32} (hd : decode cc pc = .ok (.baload, 1)) (hk : M.1 a = 101) (hi : vp_in i (M.2.1 a)) (K : zW G X nL M n k (pc + 1) lv (.int (M.2.2.1 a i.toNatClampNeg) :: st)) : zW G X nL M n k pc lv (.int i :: .ref a :: st) := by
  intro H locs ws ls h1 h2 h3 h4 h5 h6 h7
  obtain ⟨q, hq⟩ := h1.1 a (by rw [hk]; omega)
  rw [zE_bool hk] at hq
  exact va_zald O.1 O.2.1 O.2.2.2.2.2.2.1.1 h2 q 1 hq rfl hi hd (K H locs ws ls h1 h2 h3 h4 h5 h6 h7)
theorem zUpd_i (M : zM) (a j : Nat) (v : Int32) : (zi M a j v).2.2.1 a = upd (M.2.2.1 a) j v := by
  funext x
  simp [zi, upd]
theorem zUpd_r (M : zM) (a j : Nat) (v : Option Nat) : (zr M a j v).2.2.2 a = va_up (M.2.2.2 a) j v := by
  funext x
  simp [zr, va_up]
theorem z_iast (O : zOK G X cc nL own ret nm) {a : Nat} {i v : Int32} (hd : decode cc pc = .ok (.iastore, 1)) (hk : M.1 a = 100) (hi : vp_in i (M.2.1 a)) (K : zW G X nL (zi M a i.toNatClampNeg v) n k (pc + 1) lv st) : zW G X nL M n k pc lv (.int v :: .int i :: .ref a :: st) := by
  intro H locs ws ls h1 h2 h3 h4 h5 h6 h7
  obtain ⟨q, hq⟩ := h1.1 a (by rw [hk]; omega)
  rw [zE_int hk] at hq
  refine va_iast O.1 O.2.1 O.2.2.2.2.2.2.1.1 h2 h3 h4 q 0 hq rfl hi hd (fun H1 locs1 g1 g2 g3 => ?_)
  exact K H1 locs1 _ ls (h1.set h3 hq (zi_ne M a _ v) (by show M.1 a ≠ 0; rw [hk]; omega) (by rw [zE_int (M := zi M a i.toNatClampNeg v) hk, zUpd_i]; rfl)) g1 g2 g3 h5 h6 h7
theorem z_zast (O : zOK G X cc nL own ret nm) {a : Nat} {i v : Int32} (hd : decode cc pc = .ok (.bastore, 1)) (hk : M.1 a = 101) (hi : vp_in i (M.2.1 a)) (K : zW G X nL (zi M a i.toNatClampNeg (vp_nar .boolean v)) n k (pc + 1) lv st) : zW G X nL M n k pc lv (.int v :: .int i :: .ref a :: st) := by
  intro H locs ws ls h1 h2 h3 h4 h5 h6 h7
  obtain ⟨q, hq⟩ := h1.1 a (by rw [hk]; omega)
  rw [zE_bool hk] at hq
  refine va_zast O.1 O.2.1 O.2.2.2.2.2.2.1.1 h2 h3 h4 q 1 hq rfl hi hd (fun H1 locs1 g1 g2 g3 => ?_)
  exact K H1 locs1 _ ls (h1.set h3 hq (zi_ne M a _ _) (by show M.1 a ≠ 0; rw [hk]; omega) (by rw [zE_bool (M := zi M a i.toNatClampNeg (vp_nar .boolean v)) hk, zUpd_i]; rfl)) g1 g2 g3 h5 h6 h7
theorem z_aldO (O : zOK G X cc nL own ret nm) {a t : Nat} {C : String} {i : Int32} {v : Value} (ht : (ztys G.2.2)[2 + t]? = some (G.2.2 (2 + t), .object C)) (hd : decode cc pc = .ok (.aaload, 1)) (hk : M.1 a = 102 + t) (hi : vp_in i (M.2.1 a)) (hv : va_rf (M.2.2.2 a i.toNatClampNeg) = v) (K : zW G X nL M n k (pc + 1) lv (v :: st)) : zW G X nL M n k pc lv (.int i :: .ref a :: st) := by
  intro H locs ws ls h1 h2 h3 h4 h5 h6 h7
  obtain ⟨q, hq⟩ := h1.1 a (by rw [hk]; omega)
  rw [zE_ref hk] at hq
  subst hv
  exact va_aldq O.1 O.2.1 O.2.2.2.2.2.2.1.1 h2 q (2 + t) hq ht hi hd (K H locs ws ls h1 h2 h3 h4 h5 h6 h7)
theorem z_ald (O : zOK G X cc nL own ret nm) {a t b : Nat} {C : String} {i : Int32} (ht : (ztys G.2.2)[2 + t]? = some (G.2.2 (2 + t), .object C)) (hd : decode cc pc = .ok (.aaload, 1)) (hk : M.1 a = 102 + t) (hi : vp_in i (M.2.1 a)) (hv : M.2.2.2 a i.toNatClampNeg = some b) (K : zW G X nL M n k (pc + 1) lv (.ref b :: st)) : zW G X nL M n k pc lv (.int i :: .ref a :: st) := z_aldO O ht hd hk hi (by rw [hv]; rfl) K
theorem z_ast (O : zOK G X cc nL own ret nm) {a t v ci N : Nat} {C : String} {T : u_T} {i : Int32} (ht : (ztys G.2.2)[2 + t]? = some (G.2.2 (2 + t), .object C)) (hc : vwCl[ci]? = some (C, T, N)) (hci : ci + 1 < 99) (hd : decode cc pc = .ok (.aastore, 1)) (hk : M.1 a = 102 + t) (hkv : M.1 v = ci + 1) (hi : vp_in i (M.2.1 a)) (K : zW G X nL (zr M a i.toNatClampNeg (some v)) n k (pc + 1) lv st) : zW G X nL M n k pc lv (.ref v :: .int i :: .ref a :: st) := by
  intro H locs ws ls h1 h2 h3 h4 h5 h6 h7
  obtain ⟨q, hq⟩ := h1.1 a (by rw [hk]; omega)
  obtain ⟨qv, hqv⟩ := h1.1 v (by rw [hkv]; omega)
  rw [zE_ref hk] at hq
  rw [zE_obj hkv hci] at hqv
  refine va_astq O.1 O.2.1 O.2.2.2.2.2.2.1.1 h2 h3 h4 q (2 + t) qv ci hq ht hqv hc hi hd (fun H1 locs1 g1 g2 g3 => ?_)
  exact K H1 locs1 _ ls (h1.set h3 hq (zr_ne M a _ _) (by show M.1 a ≠ 0; rw [hk]; omega) (by rw [zE_ref (M := zr M a i.toNatClampNeg (some v)) hk, zUpd_r]; rfl)) g1 g2 g3 h5 h6 h7
theorem z_aleni (O : zOK G X cc nL own ret nm) {a : Nat} (hd : decode cc pc = .ok (.arraylength, 1)) (hk : M.1 a = 100) (K : zW G X nL M n k (pc + 1) lv (.int (Int32.ofNat (M.2.1 a)) :: st)) : zW G X nL M n k pc lv (.ref a :: st) := by
  intro H locs ws ls h1 h2 h3 h4 h5 h6 h7
  obtain ⟨q, hq⟩ := h1.1 a (by rw [hk]; omega)
  rw [zE_int hk] at hq
  exact va_alen O.1 O.2.1 O.2.2.2.2.2.2.1.1 h2 q 0 hq rfl rfl hd (K H locs ws ls h1 h2 h3 h4 h5 h6 h7)
theorem z_alenr (O : zOK G X cc nL own ret nm) {a t : Nat} {C : String} (ht : (ztys G.2.2)[2 + t]? = some (G.2.2 (2 + t), .object C)) (hd : decode cc pc = .ok (.arraylength, 1)) (hk : M.1 a = 102 + t) (K : zW G X nL M n k (pc + 1) lv (.int (Int32.ofNat (M.2.1 a)) :: st)) : zW G X nL M n k pc lv (.ref a :: st) := by
  intro H locs ws ls h1 h2 h3 h4 h5 h6 h7
  obtain ⟨q, hq⟩ := h1.1 a (by rw [hk]; omega)
  rw [zE_ref hk] at hq
  exact va_alen O.1 O.2.1 O.2.2.2.2.2.2.1.1 h2 q (2 + t) hq ht rfl hd (K H locs ws ls h1 h2 h3 h4 h5 h6 h7)
/-- a new object -/
def zNew (own : String) (index ci N : Nat) : Prop := ∃ (C : String) (T : u_T) (ty : Nat → FieldType), vwCl[ci]? = some (C, T, N) ∧ (∀ w ∈ u_ws C T N, w ∈ zT) ∧ (∀ i, i < N → parseFieldDescriptor (T i).2.2.1 = some (ty i)) ∧ Cond.classLink own index C ∈ zT ∧ Cond.instantiable C N ∈ zT ∧ Cond.initialized C ∈ zT ∧ (∀ j, j < N → defaultValue (ty j) = vp_V (zF (zlay ci) 0 (fun _ => 0) (fun _ => none)) j) ∧ ci + 1 < 99
theorem z_new (O : zOK G X cc nL own ret nm) {index ci N : Nat} (F : zNew own index ci N) (hd : decode cc pc = .ok (.new index, 3)) (hn : n + 1 ≤ X.R.cells) (hk : k + N ≤ X.R.slots) (K : ∀ q : Nat, M.1 q = 0 → zW G X nL (zn M q (ci + 1) 0) (n + 1) (k + N) (pc + 3) lv (.ref q :: st)) : zW G X nL M n k pc lv st := by
  intro H locs ws ls h1 h2 h3 h4 h5 h6 h7
  obtain ⟨C, T, ty, c1, c2, c3, c4, c5, c6, c7, c8⟩ := F
  refine va_new O.1 O.2.1 O.2.2.2.2.2.1 c2 ty c3 O.2.2.2.2.1 (O.2.2.2.2.2.1 _ c4) (O.2.2.2.2.2.1 _ c5) (O.2.2.2.2.2.1 _ c6) O.2.2.2.2.2.2.1.1 h2 h3 h4 O.2.2.2.2.2.2.2.2.2.1 c1 c7 hn hk hd (fun q H1 g1 g2 g3 => ?_)
  have hf := h1.fresh g2
  exact K q hf H1 locs _ ls (h1.push hf (zn_ne M q _ _) (by simp [zn]) (by rw [zE_obj (M := zn M q (ci + 1) 0) (by simp [zn]) c8]; simp [zn])) g1 g2 g3 h5 hn hk
/-- a new array of ints, of booleans, of references -/
theorem z_newi (O : zOK G X cc nL own ret nm) {i : Int32} {N : Nat} (hw : Cond.arrayClass .int ∈ zT) (hd : decode cc pc = .ok (.newarray .int, 2)) (hi : ¬ i < 0) (hN : i.toNatClampNeg = N) (hb : N ≤ 100000000) (hn : n + 1 ≤ X.R.cells) (hk : k + N ≤ X.R.slots) (K : ∀ q : Nat, M.1 q = 0 → zW G X nL (zn M q 100 N) (n + 1) (k + N) (pc + 2) lv (.ref q :: st)) : zW G X nL M n k pc lv (.int i :: st) := by
  intro H locs ws ls h1 h2 h3 h4 h5 h6 h7
  refine va_newa (atype := .int) (ty := .int) (a0 := (N, .inl (fun _ => 0))) O.1 O.2.1 (O.2.2.2.2.2.1 _ hw) rfl O.2.2.2.2.2.2.1.1 h2 h3 h4 O.2.2.2.2.2.2.2.2.2.1 (fun cA => vp_cell_i ..) hi hN (by show N * 4 ≤ _; omega) hn hk hd (fun q cA H1 g0 g1 g2 g3 => ?_)
  have e : cA = G.2.2 0 := by
    have e1 := (g0.2 14 (cA, .int) rfl).2
    have e2 := (O.2.2.2.2.2.2.1.1.2 0 (G.2.2 0, .int) rfl).2
    exact Option.some.inj (Eq.trans (Eq.symm e1) e2)
  subst e
  have hf := h1.fresh g2
  exact K q hf H1 locs _ ls (h1.push hf (zn_ne M q _ _) (by simp [zn]) (by rw [zE_int (M := zn M q 100 N) (by simp [zn])]; simp [zn])) g1 g2 g3 h5 hn hk
theorem z_newz (O : zOK G X cc nL own ret nm) {i : Int32} {N : Nat} (hw : Cond.arrayClass .boolean ∈ zT) (hd : decode cc pc = .ok (.newarray .boolean, 2)) (hi : ¬ i < 0) (hN : i.toNatClampNeg = N) (hb : N ≤ 100000000) (hn : n + 1 ≤ X.R.cells) (hk : k + N ≤ X.R.slots) (K : ∀ q : Nat, M.1 q = 0 → zW G X nL (zn M q 101 N) (n + 1) (k + N) (pc + 2) lv (.ref q :: st)) : zW G X nL M n k pc lv (.int i :: st) := by
  intro H locs ws ls h1 h2 h3 h4 h5 h6 h7
  refine va_newa (atype := .boolean) (ty := .boolean) (a0 := (N, .inl (fun _ => 0))) O.1 O.2.1 (O.2.2.2.2.2.1 _ hw) rfl O.2.2.2.2.2.2.1.1 h2 h3 h4 O.2.2.2.2.2.2.2.2.2.1 (fun cA => vp_cell_i ..) hi hN (by show N * 1 ≤ _; omega) hn hk hd (fun q cA H1 g0 g1 g2 g3 => ?_)
  have e : cA = G.2.2 1 := by
    have e1 := (g0.2 14 (cA, .boolean) rfl).2
    have e2 := (O.2.2.2.2.2.2.1.1.2 1 (G.2.2 1, .boolean) rfl).2
    exact Option.some.inj (Eq.trans (Eq.symm e1) e2)
  subst e
  have hf := h1.fresh g2
  exact K q hf H1 locs _ ls (h1.push hf (zn_ne M q _ _) (by simp [zn]) (by rw [zE_bool (M := zn M q 101 N) (by simp [zn])]; simp [zn])) g1 g2 g3 h5 hn hk
theorem z_newr (O : zOK G X cc nL own ret nm) {index t N : Nat} {i : Int32} {C : String} (ht : (ztys G.2.2)[2 + t]? = some (G.2.2 (2 + t), .object C)) (hw : Cond.classLink own index C ∈ zT) (ho : C ∈ zAO) (hd : decode cc pc = .ok (.anewarray index, 3)) (hi : ¬ i < 0) (hN : i.toNatClampNeg = N) (hb : N ≤ 100000000) (hn : n + 1 ≤ X.R.cells) (hk : k + N ≤ X.R.slots) (K : ∀ q : Nat, M.1 q = 0 → zW G X nL (zn M q (102 + t) N) (n + 1) (k + N) (pc + 3) lv (.ref q :: st)) : zW G X nL M n k pc lv (.int i :: st) := by
  intro H locs ws ls h1 h2 h3 h4 h5 h6 h7
  refine va_newq O.1 O.2.1 O.2.2.2.2.1 (O.2.2.2.2.2.1 _ hw) (O.2.2.2.2.2.2.1.2.1 C ho) O.2.2.2.2.2.2.1.1 h2 h3 h4 O.2.2.2.2.2.2.2.2.2.1 hi hN (by omega) hn hk hd (fun q cA H1 g0 g1 g2 g3 => ?_)
  have e : cA = G.2.2 (2 + t) := by
    obtain ⟨_, _, _, _, _, e1⟩ := (g0.2 14 (cA, .object C) rfl).2
    obtain ⟨_, _, _, _, _, e2⟩ := (O.2.2.2.2.2.2.1.1.2 (2 + t) (G.2.2 (2 + t), .object C) ht).2
    exact Option.some.inj (Eq.trans (Eq.symm e1) e2)
  subst e
  have hf := h1.fresh g2
  exact K q hf H1 locs _ ls (h1.push hf (zn_ne M q _ _) (by simp [zn]) (by rw [zE_ref (M := zn M q (102 + t) N) (t := t) (by simp [zn])]; simp [zn])) g1 g2 g3 h5 hn hk
/-- arrays of longs that hold ints -/
theorem zE_long {cA : Nat → ClassId} {a : Nat} (hk : M.1 a = 99) : zE' cA M a = .inl (cA 13, M.2.1 a, .inr (.inl (fun j => Int32.toInt64 (M.2.2.1 a j)))) := by
  simp [zE', zE, hk]
theorem z_newl (O : zOK G X cc nL own ret nm) {i : Int32} {N : Nat} (hw : Cond.arrayClass .long ∈ zT) (hd : decode cc pc = .ok (.newarray .long, 2)) (hi : ¬ i < 0) (hN : i.toNatClampNeg = N) (hb : N ≤ 10000000) (hn : n + 1 ≤ X.R.cells) (hk : k + N ≤ X.R.slots) (K : ∀ q : Nat, M.1 q = 0 → zW G X nL (zn M q 99 N) (n + 1) (k + N) (pc + 2) lv (.ref q :: st)) : zW G X nL M n k pc lv (.int i :: st) := by
  intro H locs ws ls h1 h2 h3 h4 h5 h6 h7
  refine va_newa (atype := .long) (ty := .long) (a0 := (N, .inr (.inl (fun _ => 0)))) O.1 O.2.1 (O.2.2.2.2.2.1 _ hw) rfl O.2.2.2.2.2.2.1.1 h2 h3 h4 O.2.2.2.2.2.2.2.2.2.1 (fun cA => vp_cell_l ..) hi hN (by show N * 8 ≤ _; omega) hn hk hd (fun q cA H1 g0 g1 g2 g3 => ?_)
  have e : cA = G.2.2 13 := by
    have e1 := (g0.2 14 (cA, .long) rfl).2
    have e2 := (O.2.2.2.2.2.2.1.1.2 13 (G.2.2 13, .long) rfl).2
    exact Option.some.inj (Eq.trans (Eq.symm e1) e2)
  subst e
  have hf := h1.fresh g2
  exact K q hf H1 locs _ ls (h1.push hf (zn_ne M q _ _) (by simp [zn]) (by rw [zE_long (M := zn M q 99 N) (by simp [zn])]; simp [zn])) g1 g2 g3 h5 hn hk
theorem z_lald (O : zOK G X cc nL own ret nm) {a : Nat} {i : Int32} (hd : decode cc pc = .ok (.laload, 1)) (hk : M.1 a = 99) (hi : vp_in i (M.2.1 a)) (K : zW G X nL M n k (pc + 1) lv (.long (Int32.toInt64 (M.2.2.1 a i.toNatClampNeg)) :: st)) : zW G X nL M n k pc lv (.int i :: .ref a :: st) := by
  intro H locs ws ls h1 h2 h3 h4 h5 h6 h7
  obtain ⟨q, hq⟩ := h1.1 a (by rw [hk]; omega)
  rw [zE_long hk] at hq
  exact va_lald O.1 O.2.1 O.2.2.2.2.2.2.1.1 h2 q 13 hq rfl hi hd (K H locs ws ls h1 h2 h3 h4 h5 h6 h7)
theorem z_last (O : zOK G X cc nL own ret nm) {a : Nat} {i v : Int32} (hd : decode cc pc = .ok (.lastore, 1)) (hk : M.1 a = 99) (hi : vp_in i (M.2.1 a)) (K : zW G X nL (zi M a i.toNatClampNeg v) n k (pc + 1) lv st) : zW G X nL M n k pc lv (.long (Int32.toInt64 v) :: .int i :: .ref a :: st) := by
  intro H locs ws ls h1 h2 h3 h4 h5 h6 h7
  obtain ⟨q, hq⟩ := h1.1 a (by rw [hk]; omega)
  rw [zE_long hk] at hq
  refine va_last O.1 O.2.1 O.2.2.2.2.2.2.1.1 h2 h3 h4 q 13 hq rfl hi hd (fun H1 locs1 g1 g2 g3 => ?_)
  refine K H1 locs1 _ ls (h1.set h3 hq (zi_ne M a _ _) (by show M.1 a ≠ 0; rw [hk]; omega) ?_) g1 g2 g3 h5 h6 h7
  rw [zE_long (M := zi M a i.toNatClampNeg v) hk, zUpd_i]
  refine congrArg (fun f => (Sum.inl (G.2.2 13, M.2.1 a, Sum.inr (Sum.inl f)) : va_E)) (funext fun j => ?_)
  by_cases e : j = i.toNatClampNeg
  · simp [vp_updL, upd, e]
  · simp [vp_updL, upd, e]
end ZMEM
