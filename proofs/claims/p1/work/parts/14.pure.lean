/-! ===== pure rows about memories ===== -/
/-- from M to M' no old cell changes its kind or length, nor, outside E, what it holds -/
def zle (E : Nat → Prop) (M M' : zM) : Prop := (∀ a, M.1 a ≠ 0 → M'.1 a = M.1 a ∧ M'.2.1 a = M.2.1 a) ∧ ∀ a, M.1 a ≠ 0 → ¬ E a → M'.2.2.1 a = M.2.2.1 a ∧ M'.2.2.2 a = M.2.2.2 a
theorem zle.refl {E : Nat → Prop} (M : zM) : zle E M M := ⟨fun _ _ => ⟨rfl, rfl⟩, fun _ _ _ => ⟨rfl, rfl⟩⟩
theorem zle.trans {E : Nat → Prop} {M1 M2 M3 : zM} (h : zle E M1 M2) (g : zle E M2 M3) : zle E M1 M3 := by
  refine ⟨fun a ha => ?_, fun a ha he => ?_⟩
  · obtain ⟨a1, a2⟩ := h.1 a ha
    obtain ⟨b1, b2⟩ := g.1 a (by rw [a1]; exact ha)
    exact ⟨b1.trans a1, b2.trans a2⟩
  · obtain ⟨a1, -⟩ := h.1 a ha
    obtain ⟨c1, c2⟩ := h.2 a ha he
    obtain ⟨d1, d2⟩ := g.2 a (by rw [a1]; exact ha) he
    exact ⟨d1.trans c1, d2.trans c2⟩
theorem zle.mono {E F : Nat → Prop} {M M' : zM} (h : zle E M M') (hEF : ∀ a, M.1 a ≠ 0 → E a → F a) : zle F M M' := ⟨h.1, fun a ha hf => h.2 a ha (fun he => hf (hEF a ha he))⟩
theorem zle.mkn {E : Nat → Prop} {M M' : zM} {q k n : Nat} (e : M' = zn M q k n) (hq : M.1 q = 0) : zle E M M' := by
  subst e
  refine ⟨fun a ha => ?_, fun a ha _ => ?_⟩
  · have : a ≠ q := fun z => ha (by rw [z]; exact hq)
    simp [zn, this]
  · have : a ≠ q := fun z => ha (by rw [z]; exact hq)
    simp [zn, this]
theorem zle.mkr {E : Nat → Prop} {M M' : zM} {x j : Nat} {v : Option Nat} (e : M' = zr M x j v) (hE : E x) : zle E M M' := by
  subst e
  refine ⟨fun a _ => ⟨rfl, rfl⟩, fun a ha he => ⟨rfl, ?_⟩⟩
  funext i
  have : a ≠ x := fun z => he (by rw [z]; exact hE)
  simp [zr, this]
theorem zle.mki {E : Nat → Prop} {M M' : zM} {x j : Nat} {v : Int32} (e : M' = zi M x j v) (hE : E x) : zle E M M' := by
  subst e
  refine ⟨fun a _ => ⟨rfl, rfl⟩, fun a ha he => ⟨?_, rfl⟩⟩
  funext i
  have : a ≠ x := fun z => he (by rw [z]; exact hE)
  simp [zi, this]
theorem zle.mknn {E : Nat → Prop} {M M' : zM} {q N K : Nat} (e : M' = znn M q N K) (hq : ∀ j, j ≤ N → M.1 (q + j) = 0) : zle E M M' := by
  subst e
  have key : ∀ a, M.1 a ≠ 0 → ¬ (q ≤ a ∧ a ≤ q + N) := fun a ha hz => ha (by
    have := hq (a - q) (by omega)
    rwa [show q + (a - q) = a by omega] at this)
  refine ⟨fun a ha => ?_, fun a ha _ => ?_⟩
  · have h1 := key a ha
    have h2 : ¬ a = q := by omega
    have h3 : ¬ (q < a ∧ a ≤ q + N) := by omega
    simp [znn, h2, h3]
  · have h1 := key a ha
    have h2 : ¬ a = q := by omega
    have h3 : ¬ (q < a ∧ a ≤ q + N) := by omega
    simp [znn, h1, h2, h3]
/-- a cell of a kind and a length -/
def zkd (M : zM) (a k n : Nat) : Prop := M.1 a = k ∧ M.2.1 a = n ∧ k ≠ 0
theorem zkd.le {E : Nat → Prop} {M M' : zM} {a k n : Nat} (h : zkd M a k n) (l : zle E M M') : zkd M' a k n := by
  obtain ⟨h1, h2, h3⟩ := h
  obtain ⟨g1, g2⟩ := l.1 a (by rw [h1]; exact h3)
  exact ⟨g1.trans h1, g2.trans h2, h3⟩
theorem zkd.new {M M' : zM} {q k n : Nat} (e : M' = zn M q k n) (hk : k ≠ 0) : zkd M' q k n := by
  subst e
  exact ⟨by simp [zn], by simp [zn], hk⟩
/-- an object of a kind, its ints and its references -/
def zob (M : zM) (a k : Nat) (f : Nat → Int32) (r : Nat → Option Nat) : Prop := M.1 a = k ∧ k ≠ 0 ∧ M.2.2.1 a = f ∧ M.2.2.2 a = r
theorem zob.le {E : Nat → Prop} {M M' : zM} {a k : Nat} {f : Nat → Int32} {r : Nat → Option Nat} (h : zob M a k f r) (l : zle E M M') (he : ¬ E a) : zob M' a k f r := by
  obtain ⟨h1, h2, h3, h4⟩ := h
  have ha : M.1 a ≠ 0 := by rw [h1]; exact h2
  obtain ⟨g1, -⟩ := l.1 a ha
  obtain ⟨g3, g4⟩ := l.2 a ha he
  exact ⟨g1.trans h1, h2, g3.trans h3, g4.trans h4⟩
theorem zob.new {M M' : zM} {q k n : Nat} (e : M' = zn M q k n) (hk : k ≠ 0) : zob M' q k (fun _ => 0) (fun _ => none) := by
  subst e
  exact ⟨by simp [zn], hk, by funext j; simp [zn], by funext j; simp [zn]⟩
theorem zob.mkr {M M' : zM} {a k j : Nat} {v : Option Nat} {f : Nat → Int32} {r : Nat → Option Nat} (h : zob M a k f r) (e : M' = zr M a j v) : zob M' a k f (va_up r j v) := by
  subst e
  obtain ⟨h1, h2, h3, h4⟩ := h
  exact ⟨h1, h2, h3, by rw [zUpd_r, h4]⟩
theorem zob.mki {M M' : zM} {a k j : Nat} {v : Int32} {f : Nat → Int32} {r : Nat → Option Nat} (h : zob M a k f r) (e : M' = zi M a j v) : zob M' a k (upd f j v) r := by
  subst e
  obtain ⟨h1, h2, h3, h4⟩ := h
  exact ⟨h1, h2, by rw [zUpd_i, h3], h4⟩
theorem zob.ne {M : zM} {a b k l : Nat} {f : Nat → Int32} {r : Nat → Option Nat} (h : zob M a k f r) (g : M.1 b = l) (hkl : k ≠ l) : a ≠ b := fun e => hkl (by rw [← h.1, e, g])
theorem zob.ne0 {M : zM} {a k q : Nat} {f : Nat → Int32} {r : Nat → Option Nat} (h : zob M a k f r) (g : M.1 q = 0) : a ≠ q := fun e => h.2.1 (by rw [← h.1, e, g])
