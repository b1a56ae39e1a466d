/-! ===== the frame: a contract over a part of the memory ===== -/
/-- two memories side by side -/
def zU (M1 M2 : zM) : zM := (fun x => if M1.1 x = 0 then M2.1 x else M1.1 x, fun x => if M1.1 x = 0 then M2.2.1 x else M1.2.1 x, fun x j => if M1.1 x = 0 then M2.2.2.1 x j else M1.2.2.1 x j, fun x j => if M1.1 x = 0 then M2.2.2.2 x j else M1.2.2.2 x j)
def zDis (M1 M2 : zM) : Prop := ∀ x, M1.1 x = 0 ∨ M2.1 x = 0
theorem zU_l {cA : Nat → ClassId} {M1 M2 : zM} {x : Nat} (h : ¬ M1.1 x = 0) : (zU M1 M2).1 x = M1.1 x ∧ zE' cA (zU M1 M2) x = zE' cA M1 x := by simp only [zU, zE', h, if_false, and_self]
theorem zU_r {cA : Nat → ClassId} {M1 M2 : zM} {x : Nat} (h : M1.1 x = 0) : (zU M1 M2).1 x = M2.1 x ∧ zE' cA (zU M1 M2) x = zE' cA M2 x := by simp only [zU, zE', h, if_true, and_self]
/-- a part of a list world, by a test of the address -/
theorem zfil {ws : va_W} {A : Nat → Prop} (f : Nat → Bool) (hD : va_D A ws) : va_D A (ws.filter (fun q => f q.1)) := by
  have key : ∀ (l : va_W) (i : Nat) (q : Nat × va_E), (l.filter (fun q => f q.1))[i]? = some q → ∃ j, l[j]? = some q := fun l i q h => List.getElem?_of_mem (List.mem_filter.mp (List.mem_of_getElem? h)).1
  refine ⟨?_, fun i q h => ?_⟩
  · have : ∀ l : va_W, (∀ (i j : Nat) (p q : Nat × va_E), l[i]? = some p → l[j]? = some q → p.1 = q.1 → i = j) → ∀ (i j : Nat) (p q : Nat × va_E), (l.filter (fun q => f q.1))[i]? = some p → (l.filter (fun q => f q.1))[j]? = some q → p.1 = q.1 → i = j := by
      intro l
      induction l with
      | nil => intro _ i j p q h; simp at h
      | cons a l ih =>
        intro hl i j p q hi hj hpq
        have hl2 : ∀ (i j : Nat) (p q : Nat × va_E), l[i]? = some p → l[j]? = some q → p.1 = q.1 → i = j := fun i j p q h1 h2 h3 => by
          have := hl (i + 1) (j + 1) p q (by simpa using h1) (by simpa using h2) h3
          omega
        have hno : ∀ (j : Nat) (q : Nat × va_E), (l.filter (fun q => f q.1))[j]? = some q → a.1 ≠ q.1 := fun j q h e => by
          obtain ⟨j', hj'⟩ := key l j q h
          have := hl 0 (j' + 1) a q (by simp) (by simpa using hj') e
          omega
        by_cases ha : f a.1 = true
        · rw [List.filter_cons_of_pos (by simpa using ha)] at hi hj
          cases i with
          | zero =>
            cases j with
            | zero => rfl
            | succ j =>
              simp at hi
              subst hi
              exact absurd hpq (hno j q (by simpa using hj))
          | succ i =>
            cases j with
            | zero =>
              simp at hj
              subst hj
              exact absurd hpq.symm (hno i p (by simpa using hi))
            | succ j =>
              rw [ih hl2 i j p q (by simpa using hi) (by simpa using hj) hpq]
        · rw [List.filter_cons_of_neg (by simpa using ha)] at hi hj
          exact ih hl2 i j p q hi hj hpq
    exact this ws hD.1
  · obtain ⟨j, hj⟩ := key ws i q h
    exact hD.2 j q hj
section ZFRAME
variable {G : zG} {y : MethodName} {cy : ByteArray} {maxL : Nat} {ry : Option FieldType} {rm : Room} {M1 M2 : zM} {av : List Value} {post : zM → Option Value → Prop}
theorem z_frame (hdis : zDis M1 M2) (h : zC G y cy maxL ry rm M1 av post) : zC G y cy maxL ry rm (zU M1 M2) av (fun M' v => ∃ M1' : zM, post M1' v ∧ zDis M1' M2 ∧ M' = zU M1' M2) := by
  intro sz
  have h1 := h sz
  intro p e ha hc hk s m args below hf happ hP hK
  obtain ⟨hav, hsz, hV, ws, hr, hPw, hDw⟩ := hP
  have hget : ∀ (f : Nat → Bool) (i : Nat) (q : Nat × va_E), (ws.filter (fun q => f q.1))[i]? = some q → (∃ j, ws[j]? = some q) ∧ f q.1 = true := fun f i q h => by
    have := List.mem_filter.mp (List.mem_of_getElem? h)
    exact ⟨List.getElem?_of_mem this.1, this.2⟩
  have hput : ∀ (f : Nat → Bool) (j : Nat) (q : Nat × va_E), ws[j]? = some q → f q.1 = true → ∃ i, (ws.filter (fun q => f q.1))[i]? = some q := fun f j q h1 h2 => List.getElem?_of_mem (List.mem_filter.mpr ⟨List.mem_of_getElem? h1, h2⟩)
  have hrep1 : zRep G.2.2 M1 (ws.filter (fun q => decide (¬ M1.1 q.1 = 0))) := by
    refine ⟨fun a hx => ?_, fun j q hj => ?_⟩
    · obtain ⟨g1, g2⟩ := zU_l (cA := G.2.2) (M2 := M2) hx
      obtain ⟨j, hj⟩ := hr.1 a (by rw [g1]; exact hx)
      rw [g2] at hj
      exact hput (fun a => decide (¬ M1.1 a = 0)) j _ hj (by simpa using hx)
    · obtain ⟨⟨j', hj'⟩, hq⟩ := hget (fun a => decide (¬ M1.1 a = 0)) j q hj
      have hq : ¬ M1.1 q.1 = 0 := by simpa using hq
      obtain ⟨g1, g2⟩ := zU_l (cA := G.2.2) (M2 := M2) hq
      exact ⟨hq, by rw [(hr.2 j' q hj').2, g2]⟩
  have hw2 : ∀ (i : Nat) (q : Nat × va_E), (ws.filter (fun q => decide (M1.1 q.1 = 0)))[i]? = some q → (∃ j, ws[j]? = some q) ∧ M1.1 q.1 = 0 ∧ M2.1 q.1 ≠ 0 ∧ q.2 = zE' G.2.2 M2 q.1 ∧ q.1 < sz := fun i q hi => by
    obtain ⟨⟨j', hj'⟩, hq⟩ := hget (fun a => decide (M1.1 a = 0)) i q hi
    have hq : M1.1 q.1 = 0 := by simpa using hq
    obtain ⟨g1, g2⟩ := zU_r (cA := G.2.2) (M2 := M2) hq
    obtain ⟨g3, g4⟩ := hr.2 j' q hj'
    exact ⟨⟨j', hj'⟩, hq, by rw [← g1]; exact g3, by rw [g4, g2], by rw [← hsz]; exact (hPw j' q hj').lt⟩
  have hsub : ∀ q, zA M1 sz q → zA (zU M1 M2) sz q := fun q hq => by
    rcases hq with hq | hq
    · exact Or.inl (by rw [(zU_l (cA := G.2.2) (M2 := M2) hq).1]; exact hq)
    · exact Or.inr hq
  obtain ⟨j, o, g1, g2, g3, ⟨⟨⟨M', v, ws', q1, q2, q3, q4, q5, q6⟩, q7⟩, L, g5, g6⟩⟩ := h1 p e ha hc hk s m args below hf happ ⟨hav, hsz, hV, ws.filter (fun q => decide (¬ M1.1 q.1 = 0)), hrep1, fun i q hi => by
    obtain ⟨⟨j', hj'⟩, -⟩ := hget (fun a => decide (¬ M1.1 a = 0)) i q hi
    exact hPw j' q hj', zfil (fun a => decide (¬ M1.1 a = 0)) hDw⟩ hK
  have hkeep : ∀ (i : Nat) (q : Nat × va_E), (ws.filter (fun q => decide (M1.1 q.1 = 0)))[i]? = some q → ¬ zA M1 sz q.1 := fun i q hi hz => by
    obtain ⟨-, a1, a2, -, a4⟩ := hw2 i q hi
    rcases hz with hz | hz
    · exact hz a1
    · omega
  have hd' : zDis M' M2 := fun x => by
    rcases Nat.eq_zero_or_pos (M'.1 x) with h0 | h0
    · exact Or.inl h0
    · right
      obtain ⟨i, hi⟩ := q3.1 x (by omega)
      rcases q6.2 i _ hi with hz | hz
      · exact (hdis x).resolve_left hz
      · rcases Nat.eq_zero_or_pos (M2.1 x) with h2 | h2
        · exact h2
        · have hne : (zU M1 M2).1 x ≠ 0 := by
            by_cases hm : M1.1 x = 0
            · rw [(zU_r (cA := G.2.2) (M2 := M2) hm).1]; omega
            · rw [(zU_l (cA := G.2.2) (M2 := M2) hm).1]; exact hm
          obtain ⟨i2, hi2⟩ := hr.1 x hne
          have := (hPw i2 _ hi2).lt
          simp only at this hz
          omega
  refine ⟨j, o, g1, g2, g3, ⟨⟨zU M' M2, v, ws' ++ ws.filter (fun q => decide (M1.1 q.1 = 0)), q1, ⟨M', q2, hd', rfl⟩, ?_, ?_, q5, ?_⟩, q7.1, fun q z1 z2 => q7.2 q z1 (fun z => z2 (hsub q z))⟩, L, g5, fun q hq => hsub _ (g6 q hq)⟩
  · refine ⟨fun a hx => ?_, fun i q hi => ?_⟩
    · by_cases hm : M'.1 a = 0
      · obtain ⟨b1, b2⟩ := zU_r (cA := G.2.2) (M2 := M2) hm
        have hm2 : M2.1 a ≠ 0 := by rw [← b1]; exact hx
        have hm1 : M1.1 a = 0 := (hdis a).resolve_right hm2
        obtain ⟨c1, c2⟩ := zU_r (cA := G.2.2) (M2 := M2) hm1
        obtain ⟨i, hi⟩ := hr.1 a (by rw [c1]; exact hm2)
        obtain ⟨i2, hi2⟩ := hput (fun a => decide (M1.1 a = 0)) i _ hi (by simpa using hm1)
        exact ⟨ws'.length + i2, by rw [List.getElem?_append_right (by omega), show ws'.length + i2 - ws'.length = i2 by omega, hi2, c2, b2]⟩
      · obtain ⟨b1, b2⟩ := zU_l (cA := G.2.2) (M2 := M2) hm
        obtain ⟨i, hi⟩ := q3.1 a hm
        exact ⟨i, by rw [List.getElem?_append_left (List.getElem?_eq_some_iff.mp hi).1, hi, b2]⟩
    · by_cases hl : i < ws'.length
      · rw [List.getElem?_append_left hl] at hi
        obtain ⟨b3, b4⟩ := q3.2 i q hi
        obtain ⟨b1, b2⟩ := zU_l (cA := G.2.2) (M2 := M2) b3
        exact ⟨by rw [b1]; exact b3, by rw [b2]; exact b4⟩
      · rw [List.getElem?_append_right (by omega)] at hi
        obtain ⟨-, a1, a2, a3, a4⟩ := hw2 _ q hi
        have hm : M'.1 q.1 = 0 := (hd' q.1).resolve_right a2
        obtain ⟨b1, b2⟩ := zU_r (cA := G.2.2) (M2 := M2) hm
        exact ⟨by rw [b1]; exact a2, by rw [b2]; exact a3⟩
  · refine va_P.app q4 (fun i q hi => ?_)
    obtain ⟨⟨j', hj'⟩, a1, a2, a3, a4⟩ := hw2 i q hi
    exact (hPw j' q hj').kept (q7.2 q.1 (by rw [hsz]; exact a4) (hkeep i q hi))
  · refine va_D.app (q6.weaken (fun _ q _ hz => hsub q.1 hz)) ((zfil (fun a => decide (M1.1 a = 0)) hDw).weaken (fun i q hi _ => ?_)) (fun i i2 x z hx hz e => ?_)
    · obtain ⟨-, a1, a2, -⟩ := hw2 i q hi
      exact Or.inl (by rw [(zU_r (cA := G.2.2) (M2 := M2) a1).1]; exact a2)
    · exact hkeep i2 z hz (by rw [← e]; exact q6.2 i x hx)
end ZFRAME
