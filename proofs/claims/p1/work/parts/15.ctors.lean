theorem zle.fresh {E : Nat → Prop} {M0 M : zM} {q : Nat} (l : zle E M0 M) (h : M.1 q = 0) : M0.1 q = 0 := by
  rcases Nat.eq_zero_or_pos (M0.1 q) with g | g
  · exact g
  · have := (l.1 q (by omega)).1
    omega
theorem zle.only {M0 M : zM} {a0 : Nat} (l : zle (fun z => z = a0 ∨ M0.1 z = 0) M0 M) : zle (fun z => z = a0) M0 M := l.mono (fun z hz h => h.resolve_right hz)
/-- what our constructors do: nothing old but the object itself changes, which keeps its kind -/
abbrev zpost0 (a : Nat) (M : zM) : zM → Option Value → Prop := fun M' v => zle (fun z => z = a) M M' ∧ v = none ∧ True
abbrev zpost (a : Nat) (k : Nat) (P : zM → (Nat → Option Nat) → Prop) (M : zM) : zM → Option Value → Prop := fun M' v => zle (fun z => z = a) M M' ∧ v = none ∧ ∀ (f : Nat → Int32) (r : Nat → Option Nat), zob M a k f r → ∃ r' : Nat → Option Nat, zob M' a k f r' ∧ P M' r'
set_option maxRecDepth 100000 in
set_option maxHeartbeats 4000000 in
theorem s_X9_init {G : zG} {M0 : zM} {a0 : Nat} (h0 : M0.1 a0 = 9) : zC G yX9_init cX9_init 1 none rm_X9_init M0 [.ref a0] (zpost a0 9 (fun _ _ => True) M0) := by
  refine z_intro (by decide +kernel) (Nat.le_of_ble_eq_true rfl) (fun X O hR hq => ?_)
  refine b_X9_init_0 (n := 0) (k := 0) O hR ?_
  have ob : zob M0 a0 9 (M0.2.2.1 a0) (M0.2.2.2 a0) := ⟨h0, by decide, rfl, rfl⟩
  have le : zle (fun z => z = a0 ∨ M0.1 z = 0) M0 M0 := zle.refl _
  rw [hq]
  refine ⟨le.only, rfl, fun f r h => ?_⟩
  obtain ⟨-, -, rfl, -⟩ := h
  exact ⟨_, ob, trivial⟩
set_option maxRecDepth 100000 in
set_option maxHeartbeats 4000000 in
theorem s_X10_init {G : zG} {M0 : zM} {a0 : Nat} (h0 : M0.1 a0 = 10) : zC G yX10_init cX10_init 1 none rm_X10_init M0 [.ref a0] (zpost a0 10 (fun _ _ => True) M0) := by
  refine z_intro (by decide +kernel) (Nat.le_of_ble_eq_true rfl) (fun X O hR hq => ?_)
  refine b_X10_init_0 (n := 0) (k := 0) O hR ?_
  have ob : zob M0 a0 10 (M0.2.2.1 a0) (M0.2.2.2 a0) := ⟨h0, by decide, rfl, rfl⟩
  have le : zle (fun z => z = a0 ∨ M0.1 z = 0) M0 M0 := zle.refl _
  refine ⟨by rw [hR]; decide, by rw [hR]; decide, fun q1 fq1 M2 eM2 => ?_⟩
  have gq1 := le.fresh fq1
  have le := le.trans (zle.mkn eM2 fq1)
  have na_q1 := ob.ne0 fq1
  have ob := ob.le (zle.mkn (E := fun _ => False) eM2 fq1) (fun h => h)
  have tq1 := zob.new eM2 (by decide)
  refine ⟨ob.1, fun M3 eM3 => ?_⟩
  have le := le.trans (zle.mkr eM3 (Or.inl rfl))
  have ob := ob.mkr eM3
  rw [hq]
  refine ⟨le.only, rfl, fun f r h => ?_⟩
  obtain ⟨-, -, rfl, -⟩ := h
  exact ⟨_, ob, trivial⟩
set_option maxRecDepth 100000 in
set_option maxHeartbeats 4000000 in
theorem s_X4_init {G : zG} {M0 : zM} {a0 : Nat} (h0 : M0.1 a0 = 5) : zC G yX4_init cX4_init 1 none rm_X4_init M0 [.ref a0] (zpost a0 5 (fun M' r' => ∃ b c d : Nat, r' 0 = some b ∧ r' 1 = some c ∧ r' 2 = some d ∧ zkd M' b 100 64 ∧ zkd M' c 100 64 ∧ zkd M' d 100 64) M0) := by
  refine z_intro (by decide +kernel) (Nat.le_of_ble_eq_true rfl) (fun X O hR hq => ?_)
  refine b_X4_init_0 (n := 0) (k := 0) O hR ?_
  have ob : zob M0 a0 5 (M0.2.2.1 a0) (M0.2.2.2 a0) := ⟨h0, by decide, rfl, rfl⟩
  have le : zle (fun z => z = a0 ∨ M0.1 z = 0) M0 M0 := zle.refl _
  refine ⟨by rw [hR]; decide, by rw [hR]; decide, fun q1 fq1 M2 eM2 => ?_⟩
  have gq1 := le.fresh fq1
  have le := le.trans (zle.mkn eM2 fq1)
  have na_q1 := ob.ne0 fq1
  have ob := ob.le (zle.mkn (E := fun _ => False) eM2 fq1) (fun h => h)
  have kq1 := zkd.new eM2 (by decide)
  have tq1 := zob.new eM2 (by decide)
  refine ⟨ob.1, fun M3 eM3 => ?_⟩
  have le := le.trans (zle.mkr eM3 (Or.inl rfl))
  have kq1 := kq1.le (zle.mkr (E := fun z => z = a0) eM3 rfl)
  have ob := ob.mkr eM3
  refine ⟨by rw [hR]; decide, by rw [hR]; decide, fun q4 fq4 M5 eM5 => ?_⟩
  have gq4 := le.fresh fq4
  have le := le.trans (zle.mkn eM5 fq4)
  have na_q4 := ob.ne0 fq4
  have kq1 := kq1.le (zle.mkn (E := fun _ => False) eM5 fq4)
  have ob := ob.le (zle.mkn (E := fun _ => False) eM5 fq4) (fun h => h)
  have kq4 := zkd.new eM5 (by decide)
  have tq4 := zob.new eM5 (by decide)
  refine ⟨ob.1, fun M6 eM6 => ?_⟩
  have le := le.trans (zle.mkr eM6 (Or.inl rfl))
  have kq1 := kq1.le (zle.mkr (E := fun z => z = a0) eM6 rfl)
  have kq4 := kq4.le (zle.mkr (E := fun z => z = a0) eM6 rfl)
  have ob := ob.mkr eM6
  refine ⟨by rw [hR]; decide, by rw [hR]; decide, fun q7 fq7 M8 eM8 => ?_⟩
  have gq7 := le.fresh fq7
  have le := le.trans (zle.mkn eM8 fq7)
  have na_q7 := ob.ne0 fq7
  have kq1 := kq1.le (zle.mkn (E := fun _ => False) eM8 fq7)
  have kq4 := kq4.le (zle.mkn (E := fun _ => False) eM8 fq7)
  have ob := ob.le (zle.mkn (E := fun _ => False) eM8 fq7) (fun h => h)
  have kq7 := zkd.new eM8 (by decide)
  have tq7 := zob.new eM8 (by decide)
  refine ⟨ob.1, fun M9 eM9 => ?_⟩
  have le := le.trans (zle.mkr eM9 (Or.inl rfl))
  have kq1 := kq1.le (zle.mkr (E := fun z => z = a0) eM9 rfl)
  have kq4 := kq4.le (zle.mkr (E := fun z => z = a0) eM9 rfl)
  have kq7 := kq7.le (zle.mkr (E := fun z => z = a0) eM9 rfl)
  have ob := ob.mkr eM9
  rw [hq]
  refine ⟨le.only, rfl, fun f r h => ?_⟩
  obtain ⟨-, -, rfl, -⟩ := h
  exact ⟨_, ob, q1, q4, q7, by simp [va_up], by simp [va_up], by simp [va_up], kq1, kq4, kq7⟩
set_option maxRecDepth 100000 in
set_option maxHeartbeats 4000000 in
theorem s_X7_loop {G : zG} {X : zX} (O : zOK G X cX7_init 3 RX7 none "<init>") (hR : X.R = rm_X7_init) {M0 : zM} {a0 s0 : Nat} (hs0 : M0.1 s0 = 0) (hq : ∀ M, zle (fun z => z = a0 ∨ M0.1 z = 0) M0 M → X.q M none) : ∀ (m i : Nat) (M : zM), i + m = 8 → zle (fun z => z = a0 ∨ M0.1 z = 0) M0 M → M.1 a0 = 8 → M.2.2.2 a0 0 = some s0 → zkd M s0 106 8 → zW G X 3 M (1 + 2 * i) (8 + 28 * i) 20 [(0, .ref a0), (2, .int (nI i))] []
  | 0, i, M, hi, le, ka, kr, ks => by
    have hi8 : i = 8 := by omega
    subst hi8
    refine b_X7_init_20 O hR ⟨fun _ => hq M le, fun c => absurd ?_ c⟩
    decide
  | m + 1, i, M, hi, le, ka, kr, ks => by
    refine b_X7_init_20 O hR ⟨fun c => absurd c (nI_ge (a := i) (b := 8) (by omega) (by decide)), fun _ => ⟨ka, s0, kr, ?_, ?_, fun q2 fq2 M3 e3 => ⟨?_, ?_, ?_⟩⟩⟩
    · rw [hR]; show 1 + 2 * i + 1 ≤ 17; omega
    · rw [hR]; show 8 + 28 * i + 5 ≤ 232; omega
    · rw [hR]; show 1 + 2 * i + 1 + 1 ≤ 17; omega
    · rw [hR]; show 8 + 28 * i + 5 + 23 ≤ 232; omega
    · have g2 := le.fresh fq2
      have le1 := le.trans (zle.mkn e3 fq2)
      have t2 := zob.new e3 (by decide : (10 : Nat) ≠ 0)
      have na : a0 ≠ q2 := fun e => by rw [← e, ka] at fq2; cases fq2
      have ns : s0 ≠ q2 := fun e => by rw [← e, ks.1] at fq2; cases fq2
      have nas : a0 ≠ s0 := fun e => by have := ks.1; rw [← e, ka] at this; cases this
      have hz := zle.mkn (E := fun _ => False) e3 fq2
      have ka1 : M3.1 a0 = 8 := (hz.1 a0 (by rw [ka]; decide)).1.trans ka
      have kr1 : M3.2.2.2 a0 0 = some s0 := by rw [(hz.2 a0 (by rw [ka]; decide) (fun h => h)).2]; exact kr
      have ks1 := ks.le hz
      refine (s_X10_init t2.1).weak (fun M4 v hv => ?_)
      obtain ⟨hle, rfl, hsp⟩ := hv
      obtain ⟨r4, o4, -⟩ := hsp _ _ t2
      have le2 := le1.trans (hle.mono (F := fun z => z = a0 ∨ M0.1 z = 0) (fun z _ hz => Or.inr (by rw [hz]; exact g2)))
      have ka2 : M4.1 a0 = 8 := (hle.1 a0 (by rw [ka1]; decide)).1.trans ka1
      have kr2 : M4.2.2.2 a0 0 = some s0 := by rw [(hle.2 a0 (by rw [ka1]; decide) na).2]; exact kr1
      have ks2 := ks1.le hle
      refine ⟨rfl, ks2.1, o4.1, by rw [ks2.2.1]; exact vp_in_nI (by omega) (by decide), fun M5 e5 y6 ey => ?_⟩
      have le3 := le2.trans (zle.mkr e5 (Or.inr hs0))
      have hz5 := zle.mkr (E := fun z => z = s0) e5 rfl
      have ka3 : M5.1 a0 = 8 := (hz5.1 a0 (by rw [ka2]; decide)).1.trans ka2
      have kr3 : M5.2.2.2 a0 0 = some s0 := by rw [(hz5.2 a0 (by rw [ka2]; decide) nas).2]; exact kr2
      have ey2 : y6 = nI (i + 1) := by rw [ey]; exact (nI_succ i).symm
      subst ey2
      have key := s_X7_loop O hR hs0 hq m (i + 1) M5 (by omega) le3 ka3 kr3 (ks2.le hz5)
      rw [show 1 + 2 * i + 1 + 1 = 1 + 2 * (i + 1) by omega, show 8 + 28 * i + 5 + 23 = 8 + 28 * (i + 1) by omega]
      exact key
set_option maxRecDepth 100000 in
set_option maxHeartbeats 4000000 in
theorem s_X7_init {G : zG} {M0 : zM} {a0 a1 : Nat} (h0 : M0.1 a0 = 8) : zC G yX7_init cX7_init 3 none rm_X7_init M0 [.ref a0, .ref a1] (zpost0 a0 M0) := by
  refine z_intro (by decide +kernel) (Nat.le_of_ble_eq_true rfl) (fun X O hR hq => ?_)
  refine b_X7_init_0 (n := 0) (k := 0) O hR ⟨h0, fun M1 e1 => ⟨by rw [hR]; decide, by rw [hR]; decide, fun q2 fq2 M3 e3 => ?_⟩⟩
  have le : zle (fun z => z = a0 ∨ M0.1 z = 0) M0 M0 := zle.refl _
  have ob : zob M0 a0 8 (M0.2.2.1 a0) (M0.2.2.2 a0) := ⟨h0, by decide, rfl, rfl⟩
  have le := le.trans (zle.mkr e1 (Or.inl rfl))
  have ob := ob.mkr e1
  have g2 := le.fresh fq2
  have le := le.trans (zle.mkn e3 fq2)
  have ob := ob.le (zle.mkn (E := fun _ => False) e3 fq2) (fun h => h)
  have k2 := zkd.new e3 (by decide)
  refine ⟨ob.1, fun M4 e4 => ?_⟩
  have le := le.trans (zle.mkr e4 (Or.inl rfl))
  have ob := ob.mkr e4
  have k2 := k2.le (zle.mkr (E := fun z => z = a0) e4 rfl)
  refine s_X7_loop O hR g2 (fun M l => ?_) 8 0 M4 rfl le ob.1 (by rw [ob.2.2.2]; simp [va_up]) k2
  rw [hq]
  exact ⟨l.only, rfl, trivial⟩
set_option maxRecDepth 100000 in
set_option maxHeartbeats 4000000 in
theorem s_X5_init {G : zG} {M0 : zM} {a0 : Nat} {x1 x2 : Int32} {a3 : Nat} (h0 : M0.1 a0 = 6) : zC G yX5_init cX5_init 4 none rm_X5_init M0 [.ref a0, .int x1, .int x2, .ref a3] (zpost0 a0 M0) := by
  refine z_intro (by decide +kernel) (Nat.le_of_ble_eq_true rfl) (fun X O hR hq => ?_)
  refine b_X5_init_0 (n := 0) (k := 0) O hR ?_
  have ob : zob M0 a0 6 (M0.2.2.1 a0) (M0.2.2.2 a0) := ⟨h0, by decide, rfl, rfl⟩
  have le : zle (fun z => z = a0 ∨ M0.1 z = 0) M0 M0 := zle.refl _
  refine ⟨ob.1, fun M1 eM1 => ?_⟩
  have le := le.trans (zle.mki eM1 (Or.inl rfl))
  have ob := ob.mki eM1
  refine ⟨ob.1, fun M2 eM2 => ?_⟩
  have le := le.trans (zle.mki eM2 (Or.inl rfl))
  have ob := ob.mki eM2
  refine ⟨by rw [hR]; decide, by rw [hR]; decide, fun q3 fq3 M4 eM4 => ?_⟩
  have gq3 := le.fresh fq3
  have le := le.trans (zle.mkn eM4 fq3)
  have na_q3 := ob.ne0 fq3
  have ob := ob.le (zle.mkn (E := fun _ => False) eM4 fq3) (fun h => h)
  have tq3 := zob.new eM4 (by decide)
  refine ⟨by rw [hR]; decide, by rw [hR]; decide, (s_X7_init (tq3.1)).weak (fun M5 v hv => ?_)⟩
  obtain ⟨hle, rfl, hsp⟩ := hv
  refine ⟨rfl, ?_⟩
  have le := le.trans (hle.mono (F := fun z => z = a0 ∨ M0.1 z = 0) (fun z _ hz => Or.inr (by rw [hz]; exact gq3)))
  have ob := ob.le hle (na_q3)
  refine ⟨ob.1, fun M6 eM6 => ?_⟩
  have le := le.trans (zle.mkr eM6 (Or.inl rfl))
  have ob := ob.mkr eM6
  refine ⟨by rw [hR]; decide, by rw [hR]; decide, fun q7 fq7 M8 eM8 => ?_⟩
  have gq7 := le.fresh fq7
  have le := le.trans (zle.mkn eM8 fq7)
  have na_q7 := ob.ne0 fq7
  have ob := ob.le (zle.mkn (E := fun _ => False) eM8 fq7) (fun h => h)
  have tq7 := zob.new eM8 (by decide)
  refine ⟨ob.1, fun M9 eM9 => ?_⟩
  have le := le.trans (zle.mkr eM9 (Or.inl rfl))
  have ob := ob.mkr eM9
  rw [hq]
  exact ⟨le.only, rfl, trivial⟩
set_option maxRecDepth 100000 in
set_option maxHeartbeats 4000000 in
theorem s_X14_init {G : zG} {M0 : zM} {a0 : Nat} (h0 : M0.1 a0 = 14) : zC G yX14_init cX14_init 1 none rm_X14_init M0 [.ref a0] (zpost0 a0 M0) := by
  refine z_intro (by decide +kernel) (Nat.le_of_ble_eq_true rfl) (fun X O hR hq => ?_)
  refine b_X14_init_0 (n := 0) (k := 0) O hR ?_
  have ob : zob M0 a0 14 (M0.2.2.1 a0) (M0.2.2.2 a0) := ⟨h0, by decide, rfl, rfl⟩
  have le : zle (fun z => z = a0 ∨ M0.1 z = 0) M0 M0 := zle.refl _
  refine ⟨by rw [hR]; decide, by rw [hR]; decide, fun q1 fq1 M2 eM2 => ?_⟩
  have le := le.trans (zle.mknn eM2 fq1)
  have ob := ob.le (zle.mknn (E := fun _ => False) eM2 fq1) (fun h => h)
  refine ⟨ob.1, fun M3 eM3 => ?_⟩
  have le := le.trans (zle.mkr eM3 (Or.inl rfl))
  have ob := ob.mkr eM3
  refine ⟨by rw [hR]; decide, by rw [hR]; decide, fun q4 fq4 M5 eM5 => ?_⟩
  have gq4 := le.fresh fq4
  have le := le.trans (zle.mkn eM5 fq4)
  have na_q4 := ob.ne0 fq4
  have ob := ob.le (zle.mkn (E := fun _ => False) eM5 fq4) (fun h => h)
  have tq4 := zob.new eM5 (by decide)
  refine ⟨ob.1, fun M6 eM6 => ?_⟩
  have le := le.trans (zle.mkr eM6 (Or.inl rfl))
  have ob := ob.mkr eM6
  refine ⟨by rw [hR]; decide, by rw [hR]; decide, fun q7 fq7 M8 eM8 => ?_⟩
  have gq7 := le.fresh fq7
  have le := le.trans (zle.mkn eM8 fq7)
  have na_q7 := ob.ne0 fq7
  have ob := ob.le (zle.mkn (E := fun _ => False) eM8 fq7) (fun h => h)
  have tq7 := zob.new eM8 (by decide)
  refine ⟨ob.1, fun M9 eM9 => ?_⟩
  have le := le.trans (zle.mkr eM9 (Or.inl rfl))
  have ob := ob.mkr eM9
  refine ⟨by rw [hR]; decide, by rw [hR]; decide, fun q10 fq10 M11 eM11 => ?_⟩
  have gq10 := le.fresh fq10
  have le := le.trans (zle.mkn eM11 fq10)
  have na_q10 := ob.ne0 fq10
  have ob := ob.le (zle.mkn (E := fun _ => False) eM11 fq10) (fun h => h)
  have tq10 := zob.new eM11 (by decide)
  refine ⟨ob.1, fun M12 eM12 => ?_⟩
  have le := le.trans (zle.mkr eM12 (Or.inl rfl))
  have ob := ob.mkr eM12
  refine ⟨by rw [hR]; decide, by rw [hR]; decide, fun q13 fq13 M14 eM14 => ?_⟩
  have gq13 := le.fresh fq13
  have le := le.trans (zle.mkn eM14 fq13)
  have na_q13 := ob.ne0 fq13
  have ob := ob.le (zle.mkn (E := fun _ => False) eM14 fq13) (fun h => h)
  have tq13 := zob.new eM14 (by decide)
  refine ⟨ob.1, fun M15 eM15 => ?_⟩
  have le := le.trans (zle.mkr eM15 (Or.inl rfl))
  have ob := ob.mkr eM15
  rw [hq]
  exact ⟨le.only, rfl, trivial⟩
set_option maxRecDepth 100000 in
set_option maxHeartbeats 4000000 in
theorem s_X13_init {G : zG} {M0 : zM} {a0 : Nat} (h0 : M0.1 a0 = 13) : zC G yX13_init cX13_init 1 none rm_X13_init M0 [.ref a0] (zpost0 a0 M0) := by
  refine z_intro (by decide +kernel) (Nat.le_of_ble_eq_true rfl) (fun X O hR hq => ?_)
  refine b_X13_init_0 (n := 0) (k := 0) O hR ?_
  have ob : zob M0 a0 13 (M0.2.2.1 a0) (M0.2.2.2 a0) := ⟨h0, by decide, rfl, rfl⟩
  have le : zle (fun z => z = a0 ∨ M0.1 z = 0) M0 M0 := zle.refl _
  refine ⟨by rw [hR]; decide, by rw [hR]; decide, fun q1 fq1 M2 eM2 => ?_⟩
  have gq1 := le.fresh fq1
  have le := le.trans (zle.mkn eM2 fq1)
  have na_q1 := ob.ne0 fq1
  have ob := ob.le (zle.mkn (E := fun _ => False) eM2 fq1) (fun h => h)
  have tq1 := zob.new eM2 (by decide)
  refine ⟨by rw [hR]; decide, by rw [hR]; decide, (s_X14_init (tq1.1)).weak (fun M3 v hv => ?_)⟩
  obtain ⟨hle, rfl, hsp⟩ := hv
  refine ⟨rfl, ?_⟩
  have le := le.trans (hle.mono (F := fun z => z = a0 ∨ M0.1 z = 0) (fun z _ hz => Or.inr (by rw [hz]; exact gq1)))
  have ob := ob.le hle (na_q1)
  refine ⟨ob.1, fun M4 eM4 => ?_⟩
  have le := le.trans (zle.mkr eM4 (Or.inl rfl))
  have ob := ob.mkr eM4
  refine ⟨by rw [hR]; decide, by rw [hR]; decide, fun q5 fq5 M6 eM6 => ?_⟩
  have gq5 := le.fresh fq5
  have le := le.trans (zle.mkn eM6 fq5)
  have na_q5 := ob.ne0 fq5
  have ob := ob.le (zle.mkn (E := fun _ => False) eM6 fq5) (fun h => h)
  have tq5 := zob.new eM6 (by decide)
  refine ⟨ob.1, fun M7 eM7 => ?_⟩
  have le := le.trans (zle.mkr eM7 (Or.inl rfl))
  have ob := ob.mkr eM7
  refine ⟨by rw [hR]; decide, by rw [hR]; decide, fun q8 fq8 M9 eM9 => ?_⟩
  have gq8 := le.fresh fq8
  have le := le.trans (zle.mkn eM9 fq8)
  have na_q8 := ob.ne0 fq8
  have ob := ob.le (zle.mkn (E := fun _ => False) eM9 fq8) (fun h => h)
  have tq8 := zob.new eM9 (by decide)
  refine ⟨ob.1, fun M10 eM10 => ?_⟩
  have le := le.trans (zle.mkr eM10 (Or.inl rfl))
  have ob := ob.mkr eM10
  refine ⟨by rw [hR]; decide, by rw [hR]; decide, fun q11 fq11 M12 eM12 => ?_⟩
  have gq11 := le.fresh fq11
  have le := le.trans (zle.mkn eM12 fq11)
  have na_q11 := ob.ne0 fq11
  have ob := ob.le (zle.mkn (E := fun _ => False) eM12 fq11) (fun h => h)
  have tq11 := zob.new eM12 (by decide)
  refine ⟨ob.1, fun M13 eM13 => ?_⟩
  have le := le.trans (zle.mkr eM13 (Or.inl rfl))
  have ob := ob.mkr eM13
  refine ⟨by rw [hR]; decide, by rw [hR]; decide, fun q14 fq14 M15 eM15 => ?_⟩
  have gq14 := le.fresh fq14
  have le := le.trans (zle.mkn eM15 fq14)
  have na_q14 := ob.ne0 fq14
  have ob := ob.le (zle.mkn (E := fun _ => False) eM15 fq14) (fun h => h)
  have tq14 := zob.new eM15 (by decide)
  refine ⟨ob.1, fun M16 eM16 => ?_⟩
  have le := le.trans (zle.mkr eM16 (Or.inl rfl))
  have ob := ob.mkr eM16
  refine ⟨by rw [hR]; decide, by rw [hR]; decide, fun q17 fq17 M18 eM18 => ?_⟩
  have gq17 := le.fresh fq17
  have le := le.trans (zle.mkn eM18 fq17)
  have na_q17 := ob.ne0 fq17
  have ob := ob.le (zle.mkn (E := fun _ => False) eM18 fq17) (fun h => h)
  have tq17 := zob.new eM18 (by decide)
  refine ⟨ob.1, fun M19 eM19 => ?_⟩
  have le := le.trans (zle.mkr eM19 (Or.inl rfl))
  have ob := ob.mkr eM19
  refine ⟨by rw [hR]; decide, by rw [hR]; decide, fun q20 fq20 M21 eM21 => ?_⟩
  have gq20 := le.fresh fq20
  have le := le.trans (zle.mkn eM21 fq20)
  have na_q20 := ob.ne0 fq20
  have ob := ob.le (zle.mkn (E := fun _ => False) eM21 fq20) (fun h => h)
  have tq20 := zob.new eM21 (by decide)
  refine ⟨ob.1, fun M22 eM22 => ?_⟩
  have le := le.trans (zle.mkr eM22 (Or.inl rfl))
  have ob := ob.mkr eM22
  refine ⟨by rw [hR]; decide, by rw [hR]; decide, fun q23 fq23 M24 eM24 => ?_⟩
  have gq23 := le.fresh fq23
  have le := le.trans (zle.mkn eM24 fq23)
  have na_q23 := ob.ne0 fq23
  have ob := ob.le (zle.mkn (E := fun _ => False) eM24 fq23) (fun h => h)
  have tq23 := zob.new eM24 (by decide)
  refine ⟨ob.1, fun M25 eM25 => ?_⟩
  have le := le.trans (zle.mkr eM25 (Or.inl rfl))
  have ob := ob.mkr eM25
  refine ⟨by rw [hR]; decide, by rw [hR]; decide, fun q26 fq26 M27 eM27 => ?_⟩
  have gq26 := le.fresh fq26
  have le := le.trans (zle.mkn eM27 fq26)
  have na_q26 := ob.ne0 fq26
  have ob := ob.le (zle.mkn (E := fun _ => False) eM27 fq26) (fun h => h)
  have tq26 := zob.new eM27 (by decide)
  refine ⟨ob.1, fun M28 eM28 => ?_⟩
  have le := le.trans (zle.mkr eM28 (Or.inl rfl))
  have ob := ob.mkr eM28
  refine ⟨by rw [hR]; decide, by rw [hR]; decide, fun q29 fq29 M30 eM30 => ?_⟩
  have gq29 := le.fresh fq29
  have le := le.trans (zle.mkn eM30 fq29)
  have na_q29 := ob.ne0 fq29
  have ob := ob.le (zle.mkn (E := fun _ => False) eM30 fq29) (fun h => h)
  have tq29 := zob.new eM30 (by decide)
  refine ⟨ob.1, fun M31 eM31 => ?_⟩
  have le := le.trans (zle.mkr eM31 (Or.inl rfl))
  have ob := ob.mkr eM31
  refine ⟨by rw [hR]; decide, by rw [hR]; decide, fun q32 fq32 M33 eM33 => ?_⟩
  have gq32 := le.fresh fq32
  have le := le.trans (zle.mkn eM33 fq32)
  have na_q32 := ob.ne0 fq32
  have ob := ob.le (zle.mkn (E := fun _ => False) eM33 fq32) (fun h => h)
  have tq32 := zob.new eM33 (by decide)
  refine ⟨ob.1, fun M34 eM34 => ?_⟩
  have le := le.trans (zle.mkr eM34 (Or.inl rfl))
  have ob := ob.mkr eM34
  refine ⟨ob.1, fun M35 eM35 => ?_⟩
  have le := le.trans (zle.mki eM35 (Or.inl rfl))
  have ob := ob.mki eM35
  refine ⟨by rw [hR]; decide, by rw [hR]; decide, fun q36 fq36 M37 eM37 => ?_⟩
  have gq36 := le.fresh fq36
  have le := le.trans (zle.mkn eM37 fq36)
  have na_q36 := ob.ne0 fq36
  have ob := ob.le (zle.mkn (E := fun _ => False) eM37 fq36) (fun h => h)
  have tq36 := zob.new eM37 (by decide)
  refine ⟨ob.1, fun M38 eM38 => ?_⟩
  have le := le.trans (zle.mkr eM38 (Or.inl rfl))
  have ob := ob.mkr eM38
  rw [hq]
  exact ⟨le.only, rfl, trivial⟩
set_option maxRecDepth 100000 in
set_option maxHeartbeats 4000000 in
theorem s_X12_init {G : zG} {M0 : zM} {a0 : Nat} (h0 : M0.1 a0 = 12) : zC G yX12_init cX12_init 1 none rm_X12_init M0 [.ref a0] (zpost0 a0 M0) := by
  refine z_intro (by decide +kernel) (Nat.le_of_ble_eq_true rfl) (fun X O hR hq => ?_)
  refine b_X12_init_0 (n := 0) (k := 0) O hR ?_
  have ob : zob M0 a0 12 (M0.2.2.1 a0) (M0.2.2.2 a0) := ⟨h0, by decide, rfl, rfl⟩
  have le : zle (fun z => z = a0 ∨ M0.1 z = 0) M0 M0 := zle.refl _
  refine ⟨by rw [hR]; decide, by rw [hR]; decide, fun q1 fq1 M2 eM2 => ?_⟩
  have gq1 := le.fresh fq1
  have le := le.trans (zle.mkn eM2 fq1)
  have na_q1 := ob.ne0 fq1
  have ob := ob.le (zle.mkn (E := fun _ => False) eM2 fq1) (fun h => h)
  have tq1 := zob.new eM2 (by decide)
  refine ⟨ob.1, fun M3 eM3 => ?_⟩
  have le := le.trans (zle.mkr eM3 (Or.inl rfl))
  have ob := ob.mkr eM3
  refine ⟨by rw [hR]; decide, by rw [hR]; decide, fun q4 fq4 M5 eM5 => ?_⟩
  have gq4 := le.fresh fq4
  have le := le.trans (zle.mkn eM5 fq4)
  have na_q4 := ob.ne0 fq4
  have ob := ob.le (zle.mkn (E := fun _ => False) eM5 fq4) (fun h => h)
  have tq4 := zob.new eM5 (by decide)
  refine ⟨ob.1, fun M6 eM6 => ?_⟩
  have le := le.trans (zle.mkr eM6 (Or.inl rfl))
  have ob := ob.mkr eM6
  refine ⟨by rw [hR]; decide, by rw [hR]; decide, fun q7 fq7 M8 eM8 => ?_⟩
  have gq7 := le.fresh fq7
  have le := le.trans (zle.mkn eM8 fq7)
  have na_q7 := ob.ne0 fq7
  have ob := ob.le (zle.mkn (E := fun _ => False) eM8 fq7) (fun h => h)
  have kq7 := zkd.new eM8 (by decide)
  have tq7 := zob.new eM8 (by decide)
  refine ⟨by rw [hR]; decide, by rw [hR]; decide, fun q9 fq9 M10 eM10 => ?_⟩
  have gq9 := le.fresh fq9
  have le := le.trans (zle.mkn eM10 fq9)
  have na_q9 := ob.ne0 fq9
  have kq7 := kq7.le (zle.mkn (E := fun _ => False) eM10 fq9)
  have ob := ob.le (zle.mkn (E := fun _ => False) eM10 fq9) (fun h => h)
  have kq9 := zkd.new eM10 (by decide)
  have tq9 := zob.new eM10 (by decide)
  refine ⟨by rw [hR]; decide, by rw [hR]; decide, (s_X14_init (tq9.1)).weak (fun M11 v hv => ?_)⟩
  obtain ⟨hle, rfl, hsp⟩ := hv
  refine ⟨rfl, ?_⟩
  have le := le.trans (hle.mono (F := fun z => z = a0 ∨ M0.1 z = 0) (fun z _ hz => Or.inr (by rw [hz]; exact gq9)))
  have kq7 := kq7.le hle
  have kq9 := kq9.le hle
  have ob := ob.le hle (na_q9)
  refine ⟨kq7.1, kq9.1, by rw [kq7.2.1]; exact vp_in_nI (n := 0) (by decide) (by decide), fun M12 eM12 => ?_⟩
  have le := le.trans (zle.mkr eM12 (Or.inr gq7))
  have kq7 := kq7.le (zle.mkr (E := fun z => z = q7) eM12 rfl)
  have kq9 := kq9.le (zle.mkr (E := fun z => z = q7) eM12 rfl)
  have ob := ob.le (zle.mkr (E := fun z => z = q7) eM12 rfl) (na_q7)
  refine ⟨by rw [hR]; decide, by rw [hR]; decide, fun q13 fq13 M14 eM14 => ?_⟩
  have gq13 := le.fresh fq13
  have le := le.trans (zle.mkn eM14 fq13)
  have na_q13 := ob.ne0 fq13
  have kq7 := kq7.le (zle.mkn (E := fun _ => False) eM14 fq13)
  have kq9 := kq9.le (zle.mkn (E := fun _ => False) eM14 fq13)
  have ob := ob.le (zle.mkn (E := fun _ => False) eM14 fq13) (fun h => h)
  have kq13 := zkd.new eM14 (by decide)
  have tq13 := zob.new eM14 (by decide)
  refine ⟨by rw [hR]; decide, by rw [hR]; decide, (s_X14_init (tq13.1)).weak (fun M15 v hv => ?_)⟩
  obtain ⟨hle, rfl, hsp⟩ := hv
  refine ⟨rfl, ?_⟩
  have le := le.trans (hle.mono (F := fun z => z = a0 ∨ M0.1 z = 0) (fun z _ hz => Or.inr (by rw [hz]; exact gq13)))
  have kq7 := kq7.le hle
  have kq9 := kq9.le hle
  have kq13 := kq13.le hle
  have ob := ob.le hle (na_q13)
  refine ⟨kq7.1, kq13.1, by rw [kq7.2.1]; exact vp_in_nI (n := 1) (by decide) (by decide), fun M16 eM16 => ?_⟩
  have le := le.trans (zle.mkr eM16 (Or.inr gq7))
  have kq7 := kq7.le (zle.mkr (E := fun z => z = q7) eM16 rfl)
  have kq9 := kq9.le (zle.mkr (E := fun z => z = q7) eM16 rfl)
  have kq13 := kq13.le (zle.mkr (E := fun z => z = q7) eM16 rfl)
  have ob := ob.le (zle.mkr (E := fun z => z = q7) eM16 rfl) (na_q7)
  refine ⟨ob.1, fun M17 eM17 => ?_⟩
  have le := le.trans (zle.mkr eM17 (Or.inl rfl))
  have kq7 := kq7.le (zle.mkr (E := fun z => z = a0) eM17 rfl)
  have kq9 := kq9.le (zle.mkr (E := fun z => z = a0) eM17 rfl)
  have kq13 := kq13.le (zle.mkr (E := fun z => z = a0) eM17 rfl)
  have ob := ob.mkr eM17
  refine ⟨by rw [hR]; decide, by rw [hR]; decide, fun q18 fq18 M19 eM19 => ?_⟩
  have le := le.trans (zle.mknn eM19 fq18)
  have kq7 := kq7.le (zle.mknn (E := fun _ => False) eM19 fq18)
  have kq9 := kq9.le (zle.mknn (E := fun _ => False) eM19 fq18)
  have kq13 := kq13.le (zle.mknn (E := fun _ => False) eM19 fq18)
  have ob := ob.le (zle.mknn (E := fun _ => False) eM19 fq18) (fun h => h)
  refine ⟨ob.1, fun M20 eM20 => ?_⟩
  have le := le.trans (zle.mkr eM20 (Or.inl rfl))
  have kq7 := kq7.le (zle.mkr (E := fun z => z = a0) eM20 rfl)
  have kq9 := kq9.le (zle.mkr (E := fun z => z = a0) eM20 rfl)
  have kq13 := kq13.le (zle.mkr (E := fun z => z = a0) eM20 rfl)
  have ob := ob.mkr eM20
  refine ⟨by rw [hR]; decide, by rw [hR]; decide, fun q21 fq21 M22 eM22 => ?_⟩
  have gq21 := le.fresh fq21
  have le := le.trans (zle.mkn eM22 fq21)
  have na_q21 := ob.ne0 fq21
  have kq7 := kq7.le (zle.mkn (E := fun _ => False) eM22 fq21)
  have kq9 := kq9.le (zle.mkn (E := fun _ => False) eM22 fq21)
  have kq13 := kq13.le (zle.mkn (E := fun _ => False) eM22 fq21)
  have ob := ob.le (zle.mkn (E := fun _ => False) eM22 fq21) (fun h => h)
  have tq21 := zob.new eM22 (by decide)
  refine ⟨ob.1, fun M23 eM23 => ?_⟩
  have le := le.trans (zle.mkr eM23 (Or.inl rfl))
  have kq7 := kq7.le (zle.mkr (E := fun z => z = a0) eM23 rfl)
  have kq9 := kq9.le (zle.mkr (E := fun z => z = a0) eM23 rfl)
  have kq13 := kq13.le (zle.mkr (E := fun z => z = a0) eM23 rfl)
  have ob := ob.mkr eM23
  rw [hq]
  exact ⟨le.only, rfl, trivial⟩
/-- the class fresh from its constructor -/
def FX (M : zM) (x : Nat) : Prop := ∃ (f : Nat → Int32) (r rt rh rl : Nat → Option Nat) (t l h tp la hb hc hd : Nat), zob M x 11 f r ∧ (f 9 = 0 ∧ f 10 = 0 ∧ f 11 = 0 ∧ f 12 = 0 ∧ f 13 = -1 ∧ f 14 = 0) ∧ (r 0 = some t ∧ r 1 = some l ∧ r 5 = some h ∧ r 6 = some tp ∧ r 7 = some la) ∧ zob M t 9 (fun _ => 0) rt ∧ zkd M l 102 6 ∧ zob M h 5 (fun _ => 0) rh ∧ (rh 0 = some hb ∧ rh 1 = some hc ∧ rh 2 = some hd) ∧ zkd M hb 100 64 ∧ zkd M hc 100 64 ∧ zkd M hd 100 64 ∧ zkd M tp 100 60 ∧ zob M la 10 (fun _ => 0) rl
set_option maxRecDepth 100000 in
set_option maxHeartbeats 4000000 in
theorem s_X11_init {G : zG} {M0 : zM} {a0 : Nat} {r0 : Nat → Option Nat} (h0 : zob M0 a0 11 (fun _ => 0) r0) : zC G yX11_init cX11_init 1 none rm_X11_init M0 [.ref a0] (fun M' v => v = none ∧ FX M' a0) := by
  refine z_intro (by decide +kernel) (Nat.le_of_ble_eq_true rfl) (fun X O hR hq => ?_)
  refine b_X11_init_0 (n := 0) (k := 0) O hR ?_
  have ob := h0
  have le : zle (fun z => z = a0 ∨ M0.1 z = 0) M0 M0 := zle.refl _
  refine ⟨by rw [hR]; decide, by rw [hR]; decide, fun q1 fq1 M2 eM2 => ?_⟩
  have gq1 := le.fresh fq1
  have le := le.trans (zle.mkn eM2 fq1)
  have na_q1 := ob.ne0 fq1
  have ob := ob.le (zle.mkn (E := fun _ => False) eM2 fq1) (fun h => h)
  have tq1 := zob.new eM2 (by decide)
  have oq1 := tq1
  refine (s_X9_init (tq1.1)).weak (fun M3 v hv => ?_)
  obtain ⟨hle, rfl, hsp⟩ := hv
  refine ⟨rfl, ?_⟩
  have le := le.trans (hle.mono (F := fun z => z = a0 ∨ M0.1 z = 0) (fun z _ hz => Or.inr (by rw [hz]; exact gq1)))
  obtain ⟨rq1, oq1, xq1⟩ := hsp _ _ oq1
  have ob := ob.le hle (na_q1)
  refine ⟨ob.1, fun M4 eM4 => ?_⟩
  have le := le.trans (zle.mkr eM4 (Or.inl rfl))
  have oq1 := oq1.le (zle.mkr (E := fun z => z = a0) eM4 rfl) (oq1.ne ob.1 (by decide))
  have ob := ob.mkr eM4
  refine ⟨by rw [hR]; decide, by rw [hR]; decide, fun q5 fq5 M6 eM6 => ?_⟩
  have gq5 := le.fresh fq5
  have nq1_q5 := oq1.ne0 fq5
  have le := le.trans (zle.mkn eM6 fq5)
  have na_q5 := ob.ne0 fq5
  have oq1 := oq1.le (zle.mkn (E := fun _ => False) eM6 fq5) (fun h => h)
  have ob := ob.le (zle.mkn (E := fun _ => False) eM6 fq5) (fun h => h)
  have kq5 := zkd.new eM6 (by decide)
  have tq5 := zob.new eM6 (by decide)
  refine ⟨ob.1, fun M7 eM7 => ?_⟩
  have le := le.trans (zle.mkr eM7 (Or.inl rfl))
  have kq5 := kq5.le (zle.mkr (E := fun z => z = a0) eM7 rfl)
  have oq1 := oq1.le (zle.mkr (E := fun z => z = a0) eM7 rfl) (oq1.ne ob.1 (by decide))
  have ob := ob.mkr eM7
  refine ⟨by rw [hR]; decide, by rw [hR]; decide, fun q8 fq8 M9 eM9 => ?_⟩
  have gq8 := le.fresh fq8
  have nq1_q8 := oq1.ne0 fq8
  have le := le.trans (zle.mkn eM9 fq8)
  have na_q8 := ob.ne0 fq8
  have kq5 := kq5.le (zle.mkn (E := fun _ => False) eM9 fq8)
  have oq1 := oq1.le (zle.mkn (E := fun _ => False) eM9 fq8) (fun h => h)
  have ob := ob.le (zle.mkn (E := fun _ => False) eM9 fq8) (fun h => h)
  have tq8 := zob.new eM9 (by decide)
  refine ⟨ob.1, fun M10 eM10 => ?_⟩
  have le := le.trans (zle.mkr eM10 (Or.inl rfl))
  have kq5 := kq5.le (zle.mkr (E := fun z => z = a0) eM10 rfl)
  have oq1 := oq1.le (zle.mkr (E := fun z => z = a0) eM10 rfl) (oq1.ne ob.1 (by decide))
  have ob := ob.mkr eM10
  refine ⟨by rw [hR]; decide, by rw [hR]; decide, fun q11 fq11 M12 eM12 => ?_⟩
  have gq11 := le.fresh fq11
  have nq1_q11 := oq1.ne0 fq11
  have le := le.trans (zle.mkn eM12 fq11)
  have na_q11 := ob.ne0 fq11
  have kq5 := kq5.le (zle.mkn (E := fun _ => False) eM12 fq11)
  have oq1 := oq1.le (zle.mkn (E := fun _ => False) eM12 fq11) (fun h => h)
  have ob := ob.le (zle.mkn (E := fun _ => False) eM12 fq11) (fun h => h)
  have tq11 := zob.new eM12 (by decide)
  refine ⟨ob.1, fun M13 eM13 => ?_⟩
  have le := le.trans (zle.mkr eM13 (Or.inl rfl))
  have kq5 := kq5.le (zle.mkr (E := fun z => z = a0) eM13 rfl)
  have oq1 := oq1.le (zle.mkr (E := fun z => z = a0) eM13 rfl) (oq1.ne ob.1 (by decide))
  have ob := ob.mkr eM13
  refine ⟨by rw [hR]; decide, by rw [hR]; decide, fun q14 fq14 M15 eM15 => ?_⟩
  have gq14 := le.fresh fq14
  have nq1_q14 := oq1.ne0 fq14
  have le := le.trans (zle.mkn eM15 fq14)
  have na_q14 := ob.ne0 fq14
  have kq5 := kq5.le (zle.mkn (E := fun _ => False) eM15 fq14)
  have oq1 := oq1.le (zle.mkn (E := fun _ => False) eM15 fq14) (fun h => h)
  have ob := ob.le (zle.mkn (E := fun _ => False) eM15 fq14) (fun h => h)
  have tq14 := zob.new eM15 (by decide)
  refine ⟨ob.1, fun M16 eM16 => ?_⟩
  have le := le.trans (zle.mkr eM16 (Or.inl rfl))
  have kq5 := kq5.le (zle.mkr (E := fun z => z = a0) eM16 rfl)
  have oq1 := oq1.le (zle.mkr (E := fun z => z = a0) eM16 rfl) (oq1.ne ob.1 (by decide))
  have ob := ob.mkr eM16
  refine ⟨by rw [hR]; decide, by rw [hR]; decide, fun q17 fq17 M18 eM18 => ?_⟩
  have gq17 := le.fresh fq17
  have nq1_q17 := oq1.ne0 fq17
  have le := le.trans (zle.mkn eM18 fq17)
  have na_q17 := ob.ne0 fq17
  have kq5 := kq5.le (zle.mkn (E := fun _ => False) eM18 fq17)
  have oq1 := oq1.le (zle.mkn (E := fun _ => False) eM18 fq17) (fun h => h)
  have ob := ob.le (zle.mkn (E := fun _ => False) eM18 fq17) (fun h => h)
  have tq17 := zob.new eM18 (by decide)
  have oq17 := tq17
  refine ⟨by rw [hR]; decide, by rw [hR]; decide, (s_X4_init (tq17.1)).weak (fun M19 v hv => ?_)⟩
  obtain ⟨hle, rfl, hsp⟩ := hv
  refine ⟨rfl, ?_⟩
  have le := le.trans (hle.mono (F := fun z => z = a0 ∨ M0.1 z = 0) (fun z _ hz => Or.inr (by rw [hz]; exact gq17)))
  have kq5 := kq5.le hle
  have oq1 := oq1.le hle (nq1_q17)
  obtain ⟨rq17, oq17, xq17⟩ := hsp _ _ oq17
  obtain ⟨hb, hc, hd, hr0, hr1, hr2, khb, khc, khd⟩ := xq17
  have ob := ob.le hle (na_q17)
  refine ⟨ob.1, fun M20 eM20 => ?_⟩
  have le := le.trans (zle.mkr eM20 (Or.inl rfl))
  have kq5 := kq5.le (zle.mkr (E := fun z => z = a0) eM20 rfl)
  have khb := khb.le (zle.mkr (E := fun z => z = a0) eM20 rfl)
  have khc := khc.le (zle.mkr (E := fun z => z = a0) eM20 rfl)
  have khd := khd.le (zle.mkr (E := fun z => z = a0) eM20 rfl)
  have oq1 := oq1.le (zle.mkr (E := fun z => z = a0) eM20 rfl) (oq1.ne ob.1 (by decide))
  have oq17 := oq17.le (zle.mkr (E := fun z => z = a0) eM20 rfl) (oq17.ne ob.1 (by decide))
  have ob := ob.mkr eM20
  refine ⟨by rw [hR]; decide, by rw [hR]; decide, fun q21 fq21 M22 eM22 => ?_⟩
  have gq21 := le.fresh fq21
  have nq1_q21 := oq1.ne0 fq21
  have nq17_q21 := oq17.ne0 fq21
  have le := le.trans (zle.mkn eM22 fq21)
  have na_q21 := ob.ne0 fq21
  have kq5 := kq5.le (zle.mkn (E := fun _ => False) eM22 fq21)
  have khb := khb.le (zle.mkn (E := fun _ => False) eM22 fq21)
  have khc := khc.le (zle.mkn (E := fun _ => False) eM22 fq21)
  have khd := khd.le (zle.mkn (E := fun _ => False) eM22 fq21)
  have oq1 := oq1.le (zle.mkn (E := fun _ => False) eM22 fq21) (fun h => h)
  have oq17 := oq17.le (zle.mkn (E := fun _ => False) eM22 fq21) (fun h => h)
  have ob := ob.le (zle.mkn (E := fun _ => False) eM22 fq21) (fun h => h)
  have kq21 := zkd.new eM22 (by decide)
  have tq21 := zob.new eM22 (by decide)
  refine ⟨ob.1, fun M23 eM23 => ?_⟩
  have le := le.trans (zle.mkr eM23 (Or.inl rfl))
  have kq5 := kq5.le (zle.mkr (E := fun z => z = a0) eM23 rfl)
  have khb := khb.le (zle.mkr (E := fun z => z = a0) eM23 rfl)
  have khc := khc.le (zle.mkr (E := fun z => z = a0) eM23 rfl)
  have khd := khd.le (zle.mkr (E := fun z => z = a0) eM23 rfl)
  have kq21 := kq21.le (zle.mkr (E := fun z => z = a0) eM23 rfl)
  have oq1 := oq1.le (zle.mkr (E := fun z => z = a0) eM23 rfl) (oq1.ne ob.1 (by decide))
  have oq17 := oq17.le (zle.mkr (E := fun z => z = a0) eM23 rfl) (oq17.ne ob.1 (by decide))
  have ob := ob.mkr eM23
  refine ⟨by rw [hR]; decide, by rw [hR]; decide, fun q24 fq24 M25 eM25 => ?_⟩
  have gq24 := le.fresh fq24
  have nq1_q24 := oq1.ne0 fq24
  have nq17_q24 := oq17.ne0 fq24
  have le := le.trans (zle.mkn eM25 fq24)
  have na_q24 := ob.ne0 fq24
  have kq5 := kq5.le (zle.mkn (E := fun _ => False) eM25 fq24)
  have khb := khb.le (zle.mkn (E := fun _ => False) eM25 fq24)
  have khc := khc.le (zle.mkn (E := fun _ => False) eM25 fq24)
  have khd := khd.le (zle.mkn (E := fun _ => False) eM25 fq24)
  have kq21 := kq21.le (zle.mkn (E := fun _ => False) eM25 fq24)
  have oq1 := oq1.le (zle.mkn (E := fun _ => False) eM25 fq24) (fun h => h)
  have oq17 := oq17.le (zle.mkn (E := fun _ => False) eM25 fq24) (fun h => h)
  have ob := ob.le (zle.mkn (E := fun _ => False) eM25 fq24) (fun h => h)
  have tq24 := zob.new eM25 (by decide)
  have oq24 := tq24
  refine ⟨by rw [hR]; decide, by rw [hR]; decide, (s_X10_init (tq24.1)).weak (fun M26 v hv => ?_)⟩
  obtain ⟨hle, rfl, hsp⟩ := hv
  refine ⟨rfl, ?_⟩
  have le := le.trans (hle.mono (F := fun z => z = a0 ∨ M0.1 z = 0) (fun z _ hz => Or.inr (by rw [hz]; exact gq24)))
  have kq5 := kq5.le hle
  have khb := khb.le hle
  have khc := khc.le hle
  have khd := khd.le hle
  have kq21 := kq21.le hle
  have oq1 := oq1.le hle (nq1_q24)
  have oq17 := oq17.le hle (nq17_q24)
  obtain ⟨rq24, oq24, xq24⟩ := hsp _ _ oq24
  have ob := ob.le hle (na_q24)
  refine ⟨ob.1, fun M27 eM27 => ?_⟩
  have le := le.trans (zle.mkr eM27 (Or.inl rfl))
  have kq5 := kq5.le (zle.mkr (E := fun z => z = a0) eM27 rfl)
  have khb := khb.le (zle.mkr (E := fun z => z = a0) eM27 rfl)
  have khc := khc.le (zle.mkr (E := fun z => z = a0) eM27 rfl)
  have khd := khd.le (zle.mkr (E := fun z => z = a0) eM27 rfl)
  have kq21 := kq21.le (zle.mkr (E := fun z => z = a0) eM27 rfl)
  have oq1 := oq1.le (zle.mkr (E := fun z => z = a0) eM27 rfl) (oq1.ne ob.1 (by decide))
  have oq17 := oq17.le (zle.mkr (E := fun z => z = a0) eM27 rfl) (oq17.ne ob.1 (by decide))
  have oq24 := oq24.le (zle.mkr (E := fun z => z = a0) eM27 rfl) (oq24.ne ob.1 (by decide))
  have ob := ob.mkr eM27
  refine ⟨by rw [hR]; decide, by rw [hR]; decide, fun q28 fq28 M29 eM29 => ?_⟩
  have gq28 := le.fresh fq28
  have nq1_q28 := oq1.ne0 fq28
  have nq17_q28 := oq17.ne0 fq28
  have nq24_q28 := oq24.ne0 fq28
  have le := le.trans (zle.mkn eM29 fq28)
  have na_q28 := ob.ne0 fq28
  have kq5 := kq5.le (zle.mkn (E := fun _ => False) eM29 fq28)
  have khb := khb.le (zle.mkn (E := fun _ => False) eM29 fq28)
  have khc := khc.le (zle.mkn (E := fun _ => False) eM29 fq28)
  have khd := khd.le (zle.mkn (E := fun _ => False) eM29 fq28)
  have kq21 := kq21.le (zle.mkn (E := fun _ => False) eM29 fq28)
  have oq1 := oq1.le (zle.mkn (E := fun _ => False) eM29 fq28) (fun h => h)
  have oq17 := oq17.le (zle.mkn (E := fun _ => False) eM29 fq28) (fun h => h)
  have oq24 := oq24.le (zle.mkn (E := fun _ => False) eM29 fq28) (fun h => h)
  have ob := ob.le (zle.mkn (E := fun _ => False) eM29 fq28) (fun h => h)
  have tq28 := zob.new eM29 (by decide)
  refine ⟨by rw [hR]; decide, by rw [hR]; decide, (s_X10_init (tq28.1)).weak (fun M30 v hv => ?_)⟩
  obtain ⟨hle, rfl, hsp⟩ := hv
  refine ⟨rfl, ?_⟩
  have le := le.trans (hle.mono (F := fun z => z = a0 ∨ M0.1 z = 0) (fun z _ hz => Or.inr (by rw [hz]; exact gq28)))
  have kq5 := kq5.le hle
  have khb := khb.le hle
  have khc := khc.le hle
  have khd := khd.le hle
  have kq21 := kq21.le hle
  have oq1 := oq1.le hle (nq1_q28)
  have oq17 := oq17.le hle (nq17_q28)
  have oq24 := oq24.le hle (nq24_q28)
  have ob := ob.le hle (na_q28)
  refine ⟨ob.1, fun M31 eM31 => ?_⟩
  have le := le.trans (zle.mkr eM31 (Or.inl rfl))
  have kq5 := kq5.le (zle.mkr (E := fun z => z = a0) eM31 rfl)
  have khb := khb.le (zle.mkr (E := fun z => z = a0) eM31 rfl)
  have khc := khc.le (zle.mkr (E := fun z => z = a0) eM31 rfl)
  have khd := khd.le (zle.mkr (E := fun z => z = a0) eM31 rfl)
  have kq21 := kq21.le (zle.mkr (E := fun z => z = a0) eM31 rfl)
  have oq1 := oq1.le (zle.mkr (E := fun z => z = a0) eM31 rfl) (oq1.ne ob.1 (by decide))
  have oq17 := oq17.le (zle.mkr (E := fun z => z = a0) eM31 rfl) (oq17.ne ob.1 (by decide))
  have oq24 := oq24.le (zle.mkr (E := fun z => z = a0) eM31 rfl) (oq24.ne ob.1 (by decide))
  have ob := ob.mkr eM31
  refine ⟨ob.1, fun M32 eM32 => ?_⟩
  have le := le.trans (zle.mki eM32 (Or.inl rfl))
  have kq5 := kq5.le (zle.mki (E := fun z => z = a0) eM32 rfl)
  have khb := khb.le (zle.mki (E := fun z => z = a0) eM32 rfl)
  have khc := khc.le (zle.mki (E := fun z => z = a0) eM32 rfl)
  have khd := khd.le (zle.mki (E := fun z => z = a0) eM32 rfl)
  have kq21 := kq21.le (zle.mki (E := fun z => z = a0) eM32 rfl)
  have oq1 := oq1.le (zle.mki (E := fun z => z = a0) eM32 rfl) (oq1.ne ob.1 (by decide))
  have oq17 := oq17.le (zle.mki (E := fun z => z = a0) eM32 rfl) (oq17.ne ob.1 (by decide))
  have oq24 := oq24.le (zle.mki (E := fun z => z = a0) eM32 rfl) (oq24.ne ob.1 (by decide))
  have ob := ob.mki eM32
  refine ⟨ob.1, fun M33 eM33 => ?_⟩
  have le := le.trans (zle.mki eM33 (Or.inl rfl))
  have kq5 := kq5.le (zle.mki (E := fun z => z = a0) eM33 rfl)
  have khb := khb.le (zle.mki (E := fun z => z = a0) eM33 rfl)
  have khc := khc.le (zle.mki (E := fun z => z = a0) eM33 rfl)
  have khd := khd.le (zle.mki (E := fun z => z = a0) eM33 rfl)
  have kq21 := kq21.le (zle.mki (E := fun z => z = a0) eM33 rfl)
  have oq1 := oq1.le (zle.mki (E := fun z => z = a0) eM33 rfl) (oq1.ne ob.1 (by decide))
  have oq17 := oq17.le (zle.mki (E := fun z => z = a0) eM33 rfl) (oq17.ne ob.1 (by decide))
  have oq24 := oq24.le (zle.mki (E := fun z => z = a0) eM33 rfl) (oq24.ne ob.1 (by decide))
  have ob := ob.mki eM33
  rw [hq]
  exact ⟨rfl, _, _, rq1, rq17, rq24, q1, q5, q17, q21, q24, hb, hc, hd, ob, by simp [upd], by simp [va_up], oq1, kq5, oq17, ⟨hr0, hr1, hr2⟩, khb, khc, khd, kq21, oq24⟩
/-- the reference fresh from its constructor -/
def FM (M : zM) (x : Nat) : Prop := ∃ (r : Nat → Option Nat) (ln h1 h2 h3 tp : Nat), zob M x 15 (upd (fun _ => 0) 20 (-1)) r ∧ (r 5 = some ln ∧ r 23 = some h1 ∧ r 24 = some h2 ∧ r 25 = some h3 ∧ r 38 = some tp) ∧ zkd M ln 100 6 ∧ zkd M h1 100 64 ∧ zkd M h2 100 64 ∧ zkd M h3 100 64 ∧ zkd M tp 100 60
set_option maxRecDepth 100000 in
set_option maxHeartbeats 4000000 in
theorem s_X15_loop241 {G : zG} {X : zX} (O : zOK G X cX15_init 2 RX15 none "<init>") (hR : X.R = rm_X15_init) {M1 : zM} {a0 s0 : Nat} {f : Nat → Int32} {r : Nat → Option Nat} (o1 : zob M1 a0 15 f r) (hr : r 6 = some s0) (k1 : zkd M1 s0 109 6) (hq : ∀ M, zle (fun z => z = s0 ∨ M1.1 z = 0) M1 M → X.q M none) : ∀ (m i : Nat) (M : zM), i + m = 6 → zle (fun z => z = s0 ∨ M1.1 z = 0) M1 M → zW G X 2 M (826 + 14 * i) (15041 + 230 * i) 241 [(0, .ref a0), (1, .int (nI i))] []
  | 0, i, M, hi, le => by
    have hi8 : i = 6 := by omega
    subst hi8
    refine b_X15_init_241 O hR ⟨fun _ => hq M le, fun c => absurd ?_ c⟩
    decide
  | m + 1, i, M, hi, le => by
    have na0 : ¬ (a0 = s0 ∨ M1.1 a0 = 0) := fun h => h.elim (o1.ne k1.1 (by decide)) (fun e => o1.2.1 (o1.1.symm.trans e))
    have ob := o1.le le na0
    have ks := k1.le le
    refine b_X15_init_241 O hR ⟨fun c => absurd c (nI_ge (a := i) (b := 6) (by omega) (by decide)), fun _ => ⟨ob.1, s0, by rw [ob.2.2.2]; exact hr, ?_, ?_, fun q2 fq2 M3 e3 => ⟨?_, ?_, ?_⟩⟩⟩
    · rw [hR]; show 826 + 14 * i + 1 ≤ 910; omega
    · rw [hR]; show 15041 + 230 * i + 6 ≤ 16421; omega
    · rw [hR]; show 826 + 14 * i + 1 + 13 ≤ 910; omega
    · rw [hR]; show 15041 + 230 * i + 6 + 224 ≤ 16421; omega
    · have g2 := le.fresh fq2
      have le1 := le.trans (zle.mkn e3 fq2)
      have t2 := zob.new e3 (by decide : (14 : Nat) ≠ 0)
      have ks1 := ks.le (zle.mkn (E := fun _ => False) e3 fq2)
      refine (s_X14_init t2.1).weak (fun M4 v hv => ?_)
      obtain ⟨hle, rfl, -⟩ := hv
      have le2 := le1.trans (hle.mono (F := fun z => z = s0 ∨ M1.1 z = 0) (fun z _ hz => Or.inr (by rw [hz]; exact g2)))
      have ks2 := ks1.le hle
      have kq2 : M4.1 q2 = 14 := (hle.1 q2 (by rw [t2.1]; decide)).1.trans t2.1
      refine ⟨rfl, ks2.1, kq2, by rw [ks2.2.1]; exact vp_in_nI (by omega) (by decide), fun M5 e5 y6 ey => ?_⟩
      have le3 := le2.trans (zle.mkr e5 (Or.inl rfl))
      have ey2 : y6 = nI (i + 1) := by rw [ey]; exact (nI_succ i).symm
      subst ey2
      have key := s_X15_loop241 O hR o1 hr k1 hq m (i + 1) M5 (by omega) le3
      rw [show 826 + 14 * i + 1 + 13 = 826 + 14 * (i + 1) by omega, show 15041 + 230 * i + 6 + 224 = 15041 + 230 * (i + 1) by omega]
      exact key
set_option maxRecDepth 100000 in
set_option maxHeartbeats 4000000 in
theorem s_X15_loop215 {G : zG} {X : zX} (O : zOK G X cX15_init 2 RX15 none "<init>") (hR : X.R = rm_X15_init) {M1 : zM} {a0 s0 : Nat} {f : Nat → Int32} {r : Nat → Option Nat} (o1 : zob M1 a0 15 f r) (hr : r 10 = some s0) (k1 : zkd M1 s0 111 5) (hq : ∀ M, zle (fun z => z = s0 ∨ M1.1 z = 0) M1 M → zW G X 2 M 826 15041 241 [(0, .ref a0), (1, .int 0)] []) : ∀ (m i : Nat) (M : zM), i + m = 5 → zle (fun z => z = s0 ∨ M1.1 z = 0) M1 M → zW G X 2 M (646 + 36 * i) (12116 + 585 * i) 215 [(0, .ref a0), (1, .int (nI i))] []
  | 0, i, M, hi, le => by
    have hi8 : i = 5 := by omega
    subst hi8
    refine b_X15_init_215 O hR ⟨fun _ => hq M le, fun c => absurd ?_ c⟩
    decide
  | m + 1, i, M, hi, le => by
    have na0 : ¬ (a0 = s0 ∨ M1.1 a0 = 0) := fun h => h.elim (o1.ne k1.1 (by decide)) (fun e => o1.2.1 (o1.1.symm.trans e))
    have ob := o1.le le na0
    have ks := k1.le le
    refine b_X15_init_215 O hR ⟨fun c => absurd c (nI_ge (a := i) (b := 5) (by omega) (by decide)), fun _ => ⟨ob.1, s0, by rw [ob.2.2.2]; exact hr, ?_, ?_, fun q2 fq2 M3 e3 => ⟨?_, ?_, ?_⟩⟩⟩
    · rw [hR]; show 646 + 36 * i + 1 ≤ 910; omega
    · rw [hR]; show 12116 + 585 * i + 7 ≤ 16421; omega
    · rw [hR]; show 646 + 36 * i + 1 + 35 ≤ 910; omega
    · rw [hR]; show 12116 + 585 * i + 7 + 578 ≤ 16421; omega
    · have g2 := le.fresh fq2
      have le1 := le.trans (zle.mkn e3 fq2)
      have t2 := zob.new e3 (by decide : (12 : Nat) ≠ 0)
      have ks1 := ks.le (zle.mkn (E := fun _ => False) e3 fq2)
      refine (s_X12_init t2.1).weak (fun M4 v hv => ?_)
      obtain ⟨hle, rfl, -⟩ := hv
      have le2 := le1.trans (hle.mono (F := fun z => z = s0 ∨ M1.1 z = 0) (fun z _ hz => Or.inr (by rw [hz]; exact g2)))
      have ks2 := ks1.le hle
      have kq2 : M4.1 q2 = 12 := (hle.1 q2 (by rw [t2.1]; decide)).1.trans t2.1
      refine ⟨rfl, ks2.1, kq2, by rw [ks2.2.1]; exact vp_in_nI (by omega) (by decide), fun M5 e5 y6 ey => ?_⟩
      have le3 := le2.trans (zle.mkr e5 (Or.inl rfl))
      have ey2 : y6 = nI (i + 1) := by rw [ey]; exact (nI_succ i).symm
      subst ey2
      have key := s_X15_loop215 O hR o1 hr k1 hq m (i + 1) M5 (by omega) le3
      rw [show 646 + 36 * i + 1 + 35 = 646 + 36 * (i + 1) by omega, show 12116 + 585 * i + 7 + 578 = 12116 + 585 * (i + 1) by omega]
      exact key
set_option maxRecDepth 100000 in
set_option maxHeartbeats 4000000 in
theorem s_X15_loop188 {G : zG} {X : zX} (O : zOK G X cX15_init 2 RX15 none "<init>") (hR : X.R = rm_X15_init) {M1 : zM} {a0 s0 : Nat} {f : Nat → Int32} {r : Nat → Option Nat} (o1 : zob M1 a0 15 f r) (hr : r 8 = some s0) (k1 : zkd M1 s0 110 24) (hq : ∀ M, zle (fun z => z = s0 ∨ M1.1 z = 0) M1 M → zW G X 2 M 646 12116 215 [(0, .ref a0), (1, .int 0)] []) : ∀ (m i : Nat) (M : zM), i + m = 24 → zle (fun z => z = s0 ∨ M1.1 z = 0) M1 M → zW G X 2 M (22 + 26 * i) (572 + 481 * i) 188 [(0, .ref a0), (1, .int (nI i))] []
  | 0, i, M, hi, le => by
    have hi8 : i = 24 := by omega
    subst hi8
    refine b_X15_init_188 O hR ⟨fun _ => hq M le, fun c => absurd ?_ c⟩
    decide
  | m + 1, i, M, hi, le => by
    have na0 : ¬ (a0 = s0 ∨ M1.1 a0 = 0) := fun h => h.elim (o1.ne k1.1 (by decide)) (fun e => o1.2.1 (o1.1.symm.trans e))
    have ob := o1.le le na0
    have ks := k1.le le
    refine b_X15_init_188 O hR ⟨fun c => absurd c (nI_ge (a := i) (b := 24) (by omega) (by decide)), fun _ => ⟨ob.1, s0, by rw [ob.2.2.2]; exact hr, ?_, ?_, fun q2 fq2 M3 e3 => ⟨?_, ?_, ?_⟩⟩⟩
    · rw [hR]; show 22 + 26 * i + 1 ≤ 910; omega
    · rw [hR]; show 572 + 481 * i + 28 ≤ 16421; omega
    · rw [hR]; show 22 + 26 * i + 1 + 25 ≤ 910; omega
    · rw [hR]; show 572 + 481 * i + 28 + 453 ≤ 16421; omega
    · have g2 := le.fresh fq2
      have le1 := le.trans (zle.mkn e3 fq2)
      have t2 := zob.new e3 (by decide : (13 : Nat) ≠ 0)
      have ks1 := ks.le (zle.mkn (E := fun _ => False) e3 fq2)
      refine (s_X13_init t2.1).weak (fun M4 v hv => ?_)
      obtain ⟨hle, rfl, -⟩ := hv
      have le2 := le1.trans (hle.mono (F := fun z => z = s0 ∨ M1.1 z = 0) (fun z _ hz => Or.inr (by rw [hz]; exact g2)))
      have ks2 := ks1.le hle
      have kq2 : M4.1 q2 = 13 := (hle.1 q2 (by rw [t2.1]; decide)).1.trans t2.1
      refine ⟨rfl, ks2.1, kq2, by rw [ks2.2.1]; exact vp_in_nI (by omega) (by decide), fun M5 e5 y6 ey => ?_⟩
      have le3 := le2.trans (zle.mkr e5 (Or.inl rfl))
      have ey2 : y6 = nI (i + 1) := by rw [ey]; exact (nI_succ i).symm
      subst ey2
      have key := s_X15_loop188 O hR o1 hr k1 hq m (i + 1) M5 (by omega) le3
      rw [show 22 + 26 * i + 1 + 25 = 22 + 26 * (i + 1) by omega, show 572 + 481 * i + 28 + 453 = 572 + 481 * (i + 1) by omega]
      exact key
set_option maxRecDepth 100000 in
set_option maxHeartbeats 4000000 in
theorem s_X15_init {G : zG} {M0 : zM} {a0 : Nat} {r0 : Nat → Option Nat} (h0 : zob M0 a0 15 (fun _ => 0) r0) : zC G yX15_init cX15_init 2 none rm_X15_init M0 [.ref a0] (fun M' v => v = none ∧ FM M' a0) := by
  refine z_intro (by decide +kernel) (Nat.le_of_ble_eq_true rfl) (fun X O hR hq => ?_)
  refine b_X15_init_0 (n := 0) (k := 0) O hR ?_
  have ob := h0
  have le : zle (fun z => z = a0 ∨ M0.1 z = 0) M0 M0 := zle.refl _
  refine ⟨by rw [hR]; decide, by rw [hR]; decide, fun q1 fq1 M2 eM2 => ?_⟩
  have gq1 := le.fresh fq1
  have le := le.trans (zle.mkn eM2 fq1)
  have na_q1 := ob.ne0 fq1
  have ob := ob.le (zle.mkn (E := fun _ => False) eM2 fq1) (fun h => h)
  have kq1 := zkd.new eM2 (by decide)
  have tq1 := zob.new eM2 (by decide)
  refine ⟨ob.1, fun M3 eM3 => ?_⟩
  have le := le.trans (zle.mkr eM3 (Or.inl rfl))
  have kq1 := kq1.le (zle.mkr (E := fun z => z = a0) eM3 rfl)
  have ob := ob.mkr eM3
  refine ⟨by rw [hR]; decide, by rw [hR]; decide, fun q4 fq4 M5 eM5 => ?_⟩
  have gq4 := le.fresh fq4
  have le := le.trans (zle.mkn eM5 fq4)
  have na_q4 := ob.ne0 fq4
  have kq1 := kq1.le (zle.mkn (E := fun _ => False) eM5 fq4)
  have ob := ob.le (zle.mkn (E := fun _ => False) eM5 fq4) (fun h => h)
  have kq4 := zkd.new eM5 (by decide)
  have tq4 := zob.new eM5 (by decide)
  refine ⟨ob.1, fun M6 eM6 => ?_⟩
  have le := le.trans (zle.mkr eM6 (Or.inl rfl))
  have kq1 := kq1.le (zle.mkr (E := fun z => z = a0) eM6 rfl)
  have kq4 := kq4.le (zle.mkr (E := fun z => z = a0) eM6 rfl)
  have ob := ob.mkr eM6
  refine ⟨by rw [hR]; decide, by rw [hR]; decide, fun q7 fq7 M8 eM8 => ?_⟩
  have gq7 := le.fresh fq7
  have le := le.trans (zle.mkn eM8 fq7)
  have na_q7 := ob.ne0 fq7
  have kq1 := kq1.le (zle.mkn (E := fun _ => False) eM8 fq7)
  have kq4 := kq4.le (zle.mkn (E := fun _ => False) eM8 fq7)
  have ob := ob.le (zle.mkn (E := fun _ => False) eM8 fq7) (fun h => h)
  have kq7 := zkd.new eM8 (by decide)
  have tq7 := zob.new eM8 (by decide)
  refine ⟨ob.1, fun M9 eM9 => ?_⟩
  have le := le.trans (zle.mkr eM9 (Or.inl rfl))
  have kq1 := kq1.le (zle.mkr (E := fun z => z = a0) eM9 rfl)
  have kq4 := kq4.le (zle.mkr (E := fun z => z = a0) eM9 rfl)
  have kq7 := kq7.le (zle.mkr (E := fun z => z = a0) eM9 rfl)
  have ob := ob.mkr eM9
  refine ⟨by rw [hR]; decide, by rw [hR]; decide, fun q10 fq10 M11 eM11 => ?_⟩
  have gq10 := le.fresh fq10
  have le := le.trans (zle.mkn eM11 fq10)
  have na_q10 := ob.ne0 fq10
  have kq1 := kq1.le (zle.mkn (E := fun _ => False) eM11 fq10)
  have kq4 := kq4.le (zle.mkn (E := fun _ => False) eM11 fq10)
  have kq7 := kq7.le (zle.mkn (E := fun _ => False) eM11 fq10)
  have ob := ob.le (zle.mkn (E := fun _ => False) eM11 fq10) (fun h => h)
  have kq10 := zkd.new eM11 (by decide)
  have tq10 := zob.new eM11 (by decide)
  refine ⟨ob.1, fun M12 eM12 => ?_⟩
  have le := le.trans (zle.mkr eM12 (Or.inl rfl))
  have kq1 := kq1.le (zle.mkr (E := fun z => z = a0) eM12 rfl)
  have kq4 := kq4.le (zle.mkr (E := fun z => z = a0) eM12 rfl)
  have kq7 := kq7.le (zle.mkr (E := fun z => z = a0) eM12 rfl)
  have kq10 := kq10.le (zle.mkr (E := fun z => z = a0) eM12 rfl)
  have ob := ob.mkr eM12
  refine ⟨by rw [hR]; decide, by rw [hR]; decide, fun q13 fq13 M14 eM14 => ?_⟩
  have gq13 := le.fresh fq13
  have le := le.trans (zle.mkn eM14 fq13)
  have na_q13 := ob.ne0 fq13
  have kq1 := kq1.le (zle.mkn (E := fun _ => False) eM14 fq13)
  have kq4 := kq4.le (zle.mkn (E := fun _ => False) eM14 fq13)
  have kq7 := kq7.le (zle.mkn (E := fun _ => False) eM14 fq13)
  have kq10 := kq10.le (zle.mkn (E := fun _ => False) eM14 fq13)
  have ob := ob.le (zle.mkn (E := fun _ => False) eM14 fq13) (fun h => h)
  have tq13 := zob.new eM14 (by decide)
  refine ⟨ob.1, fun M15 eM15 => ?_⟩
  have le := le.trans (zle.mkr eM15 (Or.inl rfl))
  have kq1 := kq1.le (zle.mkr (E := fun z => z = a0) eM15 rfl)
  have kq4 := kq4.le (zle.mkr (E := fun z => z = a0) eM15 rfl)
  have kq7 := kq7.le (zle.mkr (E := fun z => z = a0) eM15 rfl)
  have kq10 := kq10.le (zle.mkr (E := fun z => z = a0) eM15 rfl)
  have ob := ob.mkr eM15
  refine ⟨by rw [hR]; decide, by rw [hR]; decide, fun q16 fq16 M17 eM17 => ?_⟩
  have gq16 := le.fresh fq16
  have le := le.trans (zle.mkn eM17 fq16)
  have na_q16 := ob.ne0 fq16
  have kq1 := kq1.le (zle.mkn (E := fun _ => False) eM17 fq16)
  have kq4 := kq4.le (zle.mkn (E := fun _ => False) eM17 fq16)
  have kq7 := kq7.le (zle.mkn (E := fun _ => False) eM17 fq16)
  have kq10 := kq10.le (zle.mkn (E := fun _ => False) eM17 fq16)
  have ob := ob.le (zle.mkn (E := fun _ => False) eM17 fq16) (fun h => h)
  have tq16 := zob.new eM17 (by decide)
  refine ⟨ob.1, fun M18 eM18 => ?_⟩
  have le := le.trans (zle.mkr eM18 (Or.inl rfl))
  have kq1 := kq1.le (zle.mkr (E := fun z => z = a0) eM18 rfl)
  have kq4 := kq4.le (zle.mkr (E := fun z => z = a0) eM18 rfl)
  have kq7 := kq7.le (zle.mkr (E := fun z => z = a0) eM18 rfl)
  have kq10 := kq10.le (zle.mkr (E := fun z => z = a0) eM18 rfl)
  have ob := ob.mkr eM18
  refine ⟨by rw [hR]; decide, by rw [hR]; decide, fun q19 fq19 M20 eM20 => ?_⟩
  have gq19 := le.fresh fq19
  have le := le.trans (zle.mkn eM20 fq19)
  have na_q19 := ob.ne0 fq19
  have kq1 := kq1.le (zle.mkn (E := fun _ => False) eM20 fq19)
  have kq4 := kq4.le (zle.mkn (E := fun _ => False) eM20 fq19)
  have kq7 := kq7.le (zle.mkn (E := fun _ => False) eM20 fq19)
  have kq10 := kq10.le (zle.mkn (E := fun _ => False) eM20 fq19)
  have ob := ob.le (zle.mkn (E := fun _ => False) eM20 fq19) (fun h => h)
  have tq19 := zob.new eM20 (by decide)
  refine ⟨ob.1, fun M21 eM21 => ?_⟩
  have le := le.trans (zle.mkr eM21 (Or.inl rfl))
  have kq1 := kq1.le (zle.mkr (E := fun z => z = a0) eM21 rfl)
  have kq4 := kq4.le (zle.mkr (E := fun z => z = a0) eM21 rfl)
  have kq7 := kq7.le (zle.mkr (E := fun z => z = a0) eM21 rfl)
  have kq10 := kq10.le (zle.mkr (E := fun z => z = a0) eM21 rfl)
  have ob := ob.mkr eM21
  refine ⟨by rw [hR]; decide, by rw [hR]; decide, fun q22 fq22 M23 eM23 => ?_⟩
  have gq22 := le.fresh fq22
  have le := le.trans (zle.mkn eM23 fq22)
  have na_q22 := ob.ne0 fq22
  have kq1 := kq1.le (zle.mkn (E := fun _ => False) eM23 fq22)
  have kq4 := kq4.le (zle.mkn (E := fun _ => False) eM23 fq22)
  have kq7 := kq7.le (zle.mkn (E := fun _ => False) eM23 fq22)
  have kq10 := kq10.le (zle.mkn (E := fun _ => False) eM23 fq22)
  have ob := ob.le (zle.mkn (E := fun _ => False) eM23 fq22) (fun h => h)
  have tq22 := zob.new eM23 (by decide)
  refine ⟨ob.1, fun M24 eM24 => ?_⟩
  have le := le.trans (zle.mkr eM24 (Or.inl rfl))
  have kq1 := kq1.le (zle.mkr (E := fun z => z = a0) eM24 rfl)
  have kq4 := kq4.le (zle.mkr (E := fun z => z = a0) eM24 rfl)
  have kq7 := kq7.le (zle.mkr (E := fun z => z = a0) eM24 rfl)
  have kq10 := kq10.le (zle.mkr (E := fun z => z = a0) eM24 rfl)
  have ob := ob.mkr eM24
  refine ⟨ob.1, fun M25 eM25 => ?_⟩
  have le := le.trans (zle.mki eM25 (Or.inl rfl))
  have kq1 := kq1.le (zle.mki (E := fun z => z = a0) eM25 rfl)
  have kq4 := kq4.le (zle.mki (E := fun z => z = a0) eM25 rfl)
  have kq7 := kq7.le (zle.mki (E := fun z => z = a0) eM25 rfl)
  have kq10 := kq10.le (zle.mki (E := fun z => z = a0) eM25 rfl)
  have ob := ob.mki eM25
  refine ⟨by rw [hR]; decide, by rw [hR]; decide, fun q26 fq26 M27 eM27 => ?_⟩
  have gq26 := le.fresh fq26
  have le := le.trans (zle.mkn eM27 fq26)
  have na_q26 := ob.ne0 fq26
  have kq1 := kq1.le (zle.mkn (E := fun _ => False) eM27 fq26)
  have kq4 := kq4.le (zle.mkn (E := fun _ => False) eM27 fq26)
  have kq7 := kq7.le (zle.mkn (E := fun _ => False) eM27 fq26)
  have kq10 := kq10.le (zle.mkn (E := fun _ => False) eM27 fq26)
  have ob := ob.le (zle.mkn (E := fun _ => False) eM27 fq26) (fun h => h)
  have tq26 := zob.new eM27 (by decide)
  refine ⟨ob.1, fun M28 eM28 => ?_⟩
  have le := le.trans (zle.mkr eM28 (Or.inl rfl))
  have kq1 := kq1.le (zle.mkr (E := fun z => z = a0) eM28 rfl)
  have kq4 := kq4.le (zle.mkr (E := fun z => z = a0) eM28 rfl)
  have kq7 := kq7.le (zle.mkr (E := fun z => z = a0) eM28 rfl)
  have kq10 := kq10.le (zle.mkr (E := fun z => z = a0) eM28 rfl)
  have ob := ob.mkr eM28
  refine ⟨by rw [hR]; decide, by rw [hR]; decide, fun q29 fq29 M30 eM30 => ?_⟩
  have gq29 := le.fresh fq29
  have le := le.trans (zle.mkn eM30 fq29)
  have na_q29 := ob.ne0 fq29
  have kq1 := kq1.le (zle.mkn (E := fun _ => False) eM30 fq29)
  have kq4 := kq4.le (zle.mkn (E := fun _ => False) eM30 fq29)
  have kq7 := kq7.le (zle.mkn (E := fun _ => False) eM30 fq29)
  have kq10 := kq10.le (zle.mkn (E := fun _ => False) eM30 fq29)
  have ob := ob.le (zle.mkn (E := fun _ => False) eM30 fq29) (fun h => h)
  have kq29 := zkd.new eM30 (by decide)
  have tq29 := zob.new eM30 (by decide)
  refine ⟨ob.1, fun M31 eM31 => ?_⟩
  have le := le.trans (zle.mkr eM31 (Or.inl rfl))
  have kq1 := kq1.le (zle.mkr (E := fun z => z = a0) eM31 rfl)
  have kq4 := kq4.le (zle.mkr (E := fun z => z = a0) eM31 rfl)
  have kq7 := kq7.le (zle.mkr (E := fun z => z = a0) eM31 rfl)
  have kq10 := kq10.le (zle.mkr (E := fun z => z = a0) eM31 rfl)
  have kq29 := kq29.le (zle.mkr (E := fun z => z = a0) eM31 rfl)
  have ob := ob.mkr eM31
  refine ⟨by rw [hR]; decide, by rw [hR]; decide, fun q32 fq32 M33 eM33 => ?_⟩
  have gq32 := le.fresh fq32
  have le := le.trans (zle.mkn eM33 fq32)
  have na_q32 := ob.ne0 fq32
  have kq1 := kq1.le (zle.mkn (E := fun _ => False) eM33 fq32)
  have kq4 := kq4.le (zle.mkn (E := fun _ => False) eM33 fq32)
  have kq7 := kq7.le (zle.mkn (E := fun _ => False) eM33 fq32)
  have kq10 := kq10.le (zle.mkn (E := fun _ => False) eM33 fq32)
  have kq29 := kq29.le (zle.mkn (E := fun _ => False) eM33 fq32)
  have ob := ob.le (zle.mkn (E := fun _ => False) eM33 fq32) (fun h => h)
  have kq32 := zkd.new eM33 (by decide)
  have tq32 := zob.new eM33 (by decide)
  refine ⟨ob.1, fun M34 eM34 => ?_⟩
  have le := le.trans (zle.mkr eM34 (Or.inl rfl))
  have kq1 := kq1.le (zle.mkr (E := fun z => z = a0) eM34 rfl)
  have kq4 := kq4.le (zle.mkr (E := fun z => z = a0) eM34 rfl)
  have kq7 := kq7.le (zle.mkr (E := fun z => z = a0) eM34 rfl)
  have kq10 := kq10.le (zle.mkr (E := fun z => z = a0) eM34 rfl)
  have kq29 := kq29.le (zle.mkr (E := fun z => z = a0) eM34 rfl)
  have kq32 := kq32.le (zle.mkr (E := fun z => z = a0) eM34 rfl)
  have ob := ob.mkr eM34
  refine ⟨by rw [hR]; decide, by rw [hR]; decide, fun q35 fq35 M36 eM36 => ?_⟩
  have gq35 := le.fresh fq35
  have le := le.trans (zle.mkn eM36 fq35)
  have na_q35 := ob.ne0 fq35
  have kq1 := kq1.le (zle.mkn (E := fun _ => False) eM36 fq35)
  have kq4 := kq4.le (zle.mkn (E := fun _ => False) eM36 fq35)
  have kq7 := kq7.le (zle.mkn (E := fun _ => False) eM36 fq35)
  have kq10 := kq10.le (zle.mkn (E := fun _ => False) eM36 fq35)
  have kq29 := kq29.le (zle.mkn (E := fun _ => False) eM36 fq35)
  have kq32 := kq32.le (zle.mkn (E := fun _ => False) eM36 fq35)
  have ob := ob.le (zle.mkn (E := fun _ => False) eM36 fq35) (fun h => h)
  have kq35 := zkd.new eM36 (by decide)
  have tq35 := zob.new eM36 (by decide)
  refine ⟨ob.1, fun M37 eM37 => ?_⟩
  have le := le.trans (zle.mkr eM37 (Or.inl rfl))
  have kq1 := kq1.le (zle.mkr (E := fun z => z = a0) eM37 rfl)
  have kq4 := kq4.le (zle.mkr (E := fun z => z = a0) eM37 rfl)
  have kq7 := kq7.le (zle.mkr (E := fun z => z = a0) eM37 rfl)
  have kq10 := kq10.le (zle.mkr (E := fun z => z = a0) eM37 rfl)
  have kq29 := kq29.le (zle.mkr (E := fun z => z = a0) eM37 rfl)
  have kq32 := kq32.le (zle.mkr (E := fun z => z = a0) eM37 rfl)
  have kq35 := kq35.le (zle.mkr (E := fun z => z = a0) eM37 rfl)
  have ob := ob.mkr eM37
  refine ⟨by rw [hR]; decide, by rw [hR]; decide, fun q38 fq38 M39 eM39 => ?_⟩
  have gq38 := le.fresh fq38
  have le := le.trans (zle.mkn eM39 fq38)
  have na_q38 := ob.ne0 fq38
  have kq1 := kq1.le (zle.mkn (E := fun _ => False) eM39 fq38)
  have kq4 := kq4.le (zle.mkn (E := fun _ => False) eM39 fq38)
  have kq7 := kq7.le (zle.mkn (E := fun _ => False) eM39 fq38)
  have kq10 := kq10.le (zle.mkn (E := fun _ => False) eM39 fq38)
  have kq29 := kq29.le (zle.mkn (E := fun _ => False) eM39 fq38)
  have kq32 := kq32.le (zle.mkn (E := fun _ => False) eM39 fq38)
  have kq35 := kq35.le (zle.mkn (E := fun _ => False) eM39 fq38)
  have ob := ob.le (zle.mkn (E := fun _ => False) eM39 fq38) (fun h => h)
  have tq38 := zob.new eM39 (by decide)
  refine ⟨ob.1, fun M40 eM40 => ?_⟩
  have le := le.trans (zle.mkr eM40 (Or.inl rfl))
  have kq1 := kq1.le (zle.mkr (E := fun z => z = a0) eM40 rfl)
  have kq4 := kq4.le (zle.mkr (E := fun z => z = a0) eM40 rfl)
  have kq7 := kq7.le (zle.mkr (E := fun z => z = a0) eM40 rfl)
  have kq10 := kq10.le (zle.mkr (E := fun z => z = a0) eM40 rfl)
  have kq29 := kq29.le (zle.mkr (E := fun z => z = a0) eM40 rfl)
  have kq32 := kq32.le (zle.mkr (E := fun z => z = a0) eM40 rfl)
  have kq35 := kq35.le (zle.mkr (E := fun z => z = a0) eM40 rfl)
  have ob := ob.mkr eM40
  refine ⟨by rw [hR]; decide, by rw [hR]; decide, fun q41 fq41 M42 eM42 => ?_⟩
  have gq41 := le.fresh fq41
  have le := le.trans (zle.mkn eM42 fq41)
  have na_q41 := ob.ne0 fq41
  have kq1 := kq1.le (zle.mkn (E := fun _ => False) eM42 fq41)
  have kq4 := kq4.le (zle.mkn (E := fun _ => False) eM42 fq41)
  have kq7 := kq7.le (zle.mkn (E := fun _ => False) eM42 fq41)
  have kq10 := kq10.le (zle.mkn (E := fun _ => False) eM42 fq41)
  have kq29 := kq29.le (zle.mkn (E := fun _ => False) eM42 fq41)
  have kq32 := kq32.le (zle.mkn (E := fun _ => False) eM42 fq41)
  have kq35 := kq35.le (zle.mkn (E := fun _ => False) eM42 fq41)
  have ob := ob.le (zle.mkn (E := fun _ => False) eM42 fq41) (fun h => h)
  have tq41 := zob.new eM42 (by decide)
  refine ⟨ob.1, fun M43 eM43 => ?_⟩
  have le := le.trans (zle.mkr eM43 (Or.inl rfl))
  have kq1 := kq1.le (zle.mkr (E := fun z => z = a0) eM43 rfl)
  have kq4 := kq4.le (zle.mkr (E := fun z => z = a0) eM43 rfl)
  have kq7 := kq7.le (zle.mkr (E := fun z => z = a0) eM43 rfl)
  have kq10 := kq10.le (zle.mkr (E := fun z => z = a0) eM43 rfl)
  have kq29 := kq29.le (zle.mkr (E := fun z => z = a0) eM43 rfl)
  have kq32 := kq32.le (zle.mkr (E := fun z => z = a0) eM43 rfl)
  have kq35 := kq35.le (zle.mkr (E := fun z => z = a0) eM43 rfl)
  have ob := ob.mkr eM43
  refine ⟨by rw [hR]; decide, by rw [hR]; decide, fun q44 fq44 M45 eM45 => ?_⟩
  have gq44 := le.fresh fq44
  have le := le.trans (zle.mkn eM45 fq44)
  have na_q44 := ob.ne0 fq44
  have kq1 := kq1.le (zle.mkn (E := fun _ => False) eM45 fq44)
  have kq4 := kq4.le (zle.mkn (E := fun _ => False) eM45 fq44)
  have kq7 := kq7.le (zle.mkn (E := fun _ => False) eM45 fq44)
  have kq10 := kq10.le (zle.mkn (E := fun _ => False) eM45 fq44)
  have kq29 := kq29.le (zle.mkn (E := fun _ => False) eM45 fq44)
  have kq32 := kq32.le (zle.mkn (E := fun _ => False) eM45 fq44)
  have kq35 := kq35.le (zle.mkn (E := fun _ => False) eM45 fq44)
  have ob := ob.le (zle.mkn (E := fun _ => False) eM45 fq44) (fun h => h)
  have tq44 := zob.new eM45 (by decide)
  refine ⟨ob.1, fun M46 eM46 => ?_⟩
  have le := le.trans (zle.mkr eM46 (Or.inl rfl))
  have kq1 := kq1.le (zle.mkr (E := fun z => z = a0) eM46 rfl)
  have kq4 := kq4.le (zle.mkr (E := fun z => z = a0) eM46 rfl)
  have kq7 := kq7.le (zle.mkr (E := fun z => z = a0) eM46 rfl)
  have kq10 := kq10.le (zle.mkr (E := fun z => z = a0) eM46 rfl)
  have kq29 := kq29.le (zle.mkr (E := fun z => z = a0) eM46 rfl)
  have kq32 := kq32.le (zle.mkr (E := fun z => z = a0) eM46 rfl)
  have kq35 := kq35.le (zle.mkr (E := fun z => z = a0) eM46 rfl)
  have ob := ob.mkr eM46
  refine ⟨by rw [hR]; decide, by rw [hR]; decide, fun q47 fq47 M48 eM48 => ?_⟩
  have gq47 := le.fresh fq47
  have le := le.trans (zle.mkn eM48 fq47)
  have na_q47 := ob.ne0 fq47
  have kq1 := kq1.le (zle.mkn (E := fun _ => False) eM48 fq47)
  have kq4 := kq4.le (zle.mkn (E := fun _ => False) eM48 fq47)
  have kq7 := kq7.le (zle.mkn (E := fun _ => False) eM48 fq47)
  have kq10 := kq10.le (zle.mkn (E := fun _ => False) eM48 fq47)
  have kq29 := kq29.le (zle.mkn (E := fun _ => False) eM48 fq47)
  have kq32 := kq32.le (zle.mkn (E := fun _ => False) eM48 fq47)
  have kq35 := kq35.le (zle.mkn (E := fun _ => False) eM48 fq47)
  have ob := ob.le (zle.mkn (E := fun _ => False) eM48 fq47) (fun h => h)
  have tq47 := zob.new eM48 (by decide)
  refine ⟨ob.1, fun M49 eM49 => ?_⟩
  have le := le.trans (zle.mkr eM49 (Or.inl rfl))
  have kq1 := kq1.le (zle.mkr (E := fun z => z = a0) eM49 rfl)
  have kq4 := kq4.le (zle.mkr (E := fun z => z = a0) eM49 rfl)
  have kq7 := kq7.le (zle.mkr (E := fun z => z = a0) eM49 rfl)
  have kq10 := kq10.le (zle.mkr (E := fun z => z = a0) eM49 rfl)
  have kq29 := kq29.le (zle.mkr (E := fun z => z = a0) eM49 rfl)
  have kq32 := kq32.le (zle.mkr (E := fun z => z = a0) eM49 rfl)
  have kq35 := kq35.le (zle.mkr (E := fun z => z = a0) eM49 rfl)
  have ob := ob.mkr eM49
  refine ⟨by rw [hR]; decide, by rw [hR]; decide, fun q50 fq50 M51 eM51 => ?_⟩
  have gq50 := le.fresh fq50
  have le := le.trans (zle.mkn eM51 fq50)
  have na_q50 := ob.ne0 fq50
  have kq1 := kq1.le (zle.mkn (E := fun _ => False) eM51 fq50)
  have kq4 := kq4.le (zle.mkn (E := fun _ => False) eM51 fq50)
  have kq7 := kq7.le (zle.mkn (E := fun _ => False) eM51 fq50)
  have kq10 := kq10.le (zle.mkn (E := fun _ => False) eM51 fq50)
  have kq29 := kq29.le (zle.mkn (E := fun _ => False) eM51 fq50)
  have kq32 := kq32.le (zle.mkn (E := fun _ => False) eM51 fq50)
  have kq35 := kq35.le (zle.mkn (E := fun _ => False) eM51 fq50)
  have ob := ob.le (zle.mkn (E := fun _ => False) eM51 fq50) (fun h => h)
  have tq50 := zob.new eM51 (by decide)
  refine ⟨ob.1, fun M52 eM52 => ?_⟩
  have le := le.trans (zle.mkr eM52 (Or.inl rfl))
  have kq1 := kq1.le (zle.mkr (E := fun z => z = a0) eM52 rfl)
  have kq4 := kq4.le (zle.mkr (E := fun z => z = a0) eM52 rfl)
  have kq7 := kq7.le (zle.mkr (E := fun z => z = a0) eM52 rfl)
  have kq10 := kq10.le (zle.mkr (E := fun z => z = a0) eM52 rfl)
  have kq29 := kq29.le (zle.mkr (E := fun z => z = a0) eM52 rfl)
  have kq32 := kq32.le (zle.mkr (E := fun z => z = a0) eM52 rfl)
  have kq35 := kq35.le (zle.mkr (E := fun z => z = a0) eM52 rfl)
  have ob := ob.mkr eM52
  refine ⟨by rw [hR]; decide, by rw [hR]; decide, fun q53 fq53 M54 eM54 => ?_⟩
  have gq53 := le.fresh fq53
  have le := le.trans (zle.mkn eM54 fq53)
  have na_q53 := ob.ne0 fq53
  have kq1 := kq1.le (zle.mkn (E := fun _ => False) eM54 fq53)
  have kq4 := kq4.le (zle.mkn (E := fun _ => False) eM54 fq53)
  have kq7 := kq7.le (zle.mkn (E := fun _ => False) eM54 fq53)
  have kq10 := kq10.le (zle.mkn (E := fun _ => False) eM54 fq53)
  have kq29 := kq29.le (zle.mkn (E := fun _ => False) eM54 fq53)
  have kq32 := kq32.le (zle.mkn (E := fun _ => False) eM54 fq53)
  have kq35 := kq35.le (zle.mkn (E := fun _ => False) eM54 fq53)
  have ob := ob.le (zle.mkn (E := fun _ => False) eM54 fq53) (fun h => h)
  have tq53 := zob.new eM54 (by decide)
  refine ⟨ob.1, fun M55 eM55 => ?_⟩
  have le := le.trans (zle.mkr eM55 (Or.inl rfl))
  have kq1 := kq1.le (zle.mkr (E := fun z => z = a0) eM55 rfl)
  have kq4 := kq4.le (zle.mkr (E := fun z => z = a0) eM55 rfl)
  have kq7 := kq7.le (zle.mkr (E := fun z => z = a0) eM55 rfl)
  have kq10 := kq10.le (zle.mkr (E := fun z => z = a0) eM55 rfl)
  have kq29 := kq29.le (zle.mkr (E := fun z => z = a0) eM55 rfl)
  have kq32 := kq32.le (zle.mkr (E := fun z => z = a0) eM55 rfl)
  have kq35 := kq35.le (zle.mkr (E := fun z => z = a0) eM55 rfl)
  have ob := ob.mkr eM55
  refine ⟨by rw [hR]; decide, by rw [hR]; decide, fun q56 fq56 M57 eM57 => ?_⟩
  have gq56 := le.fresh fq56
  have le := le.trans (zle.mkn eM57 fq56)
  have na_q56 := ob.ne0 fq56
  have kq1 := kq1.le (zle.mkn (E := fun _ => False) eM57 fq56)
  have kq4 := kq4.le (zle.mkn (E := fun _ => False) eM57 fq56)
  have kq7 := kq7.le (zle.mkn (E := fun _ => False) eM57 fq56)
  have kq10 := kq10.le (zle.mkn (E := fun _ => False) eM57 fq56)
  have kq29 := kq29.le (zle.mkn (E := fun _ => False) eM57 fq56)
  have kq32 := kq32.le (zle.mkn (E := fun _ => False) eM57 fq56)
  have kq35 := kq35.le (zle.mkn (E := fun _ => False) eM57 fq56)
  have ob := ob.le (zle.mkn (E := fun _ => False) eM57 fq56) (fun h => h)
  have tq56 := zob.new eM57 (by decide)
  refine ⟨ob.1, fun M58 eM58 => ?_⟩
  have le := le.trans (zle.mkr eM58 (Or.inl rfl))
  have kq1 := kq1.le (zle.mkr (E := fun z => z = a0) eM58 rfl)
  have kq4 := kq4.le (zle.mkr (E := fun z => z = a0) eM58 rfl)
  have kq7 := kq7.le (zle.mkr (E := fun z => z = a0) eM58 rfl)
  have kq10 := kq10.le (zle.mkr (E := fun z => z = a0) eM58 rfl)
  have kq29 := kq29.le (zle.mkr (E := fun z => z = a0) eM58 rfl)
  have kq32 := kq32.le (zle.mkr (E := fun z => z = a0) eM58 rfl)
  have kq35 := kq35.le (zle.mkr (E := fun z => z = a0) eM58 rfl)
  have ob := ob.mkr eM58
  refine ⟨by rw [hR]; decide, by rw [hR]; decide, fun q59 fq59 M60 eM60 => ?_⟩
  have gq59 := le.fresh fq59
  have le := le.trans (zle.mkn eM60 fq59)
  have na_q59 := ob.ne0 fq59
  have kq1 := kq1.le (zle.mkn (E := fun _ => False) eM60 fq59)
  have kq4 := kq4.le (zle.mkn (E := fun _ => False) eM60 fq59)
  have kq7 := kq7.le (zle.mkn (E := fun _ => False) eM60 fq59)
  have kq10 := kq10.le (zle.mkn (E := fun _ => False) eM60 fq59)
  have kq29 := kq29.le (zle.mkn (E := fun _ => False) eM60 fq59)
  have kq32 := kq32.le (zle.mkn (E := fun _ => False) eM60 fq59)
  have kq35 := kq35.le (zle.mkn (E := fun _ => False) eM60 fq59)
  have ob := ob.le (zle.mkn (E := fun _ => False) eM60 fq59) (fun h => h)
  have tq59 := zob.new eM60 (by decide)
  refine ⟨ob.1, fun M61 eM61 => ?_⟩
  have le := le.trans (zle.mkr eM61 (Or.inl rfl))
  have kq1 := kq1.le (zle.mkr (E := fun z => z = a0) eM61 rfl)
  have kq4 := kq4.le (zle.mkr (E := fun z => z = a0) eM61 rfl)
  have kq7 := kq7.le (zle.mkr (E := fun z => z = a0) eM61 rfl)
  have kq10 := kq10.le (zle.mkr (E := fun z => z = a0) eM61 rfl)
  have kq29 := kq29.le (zle.mkr (E := fun z => z = a0) eM61 rfl)
  have kq32 := kq32.le (zle.mkr (E := fun z => z = a0) eM61 rfl)
  have kq35 := kq35.le (zle.mkr (E := fun z => z = a0) eM61 rfl)
  have ob := ob.mkr eM61
  refine ⟨by rw [hR]; decide, by rw [hR]; decide, fun q62 fq62 M63 eM63 => ?_⟩
  have gq62 := le.fresh fq62
  have le := le.trans (zle.mkn eM63 fq62)
  have na_q62 := ob.ne0 fq62
  have kq1 := kq1.le (zle.mkn (E := fun _ => False) eM63 fq62)
  have kq4 := kq4.le (zle.mkn (E := fun _ => False) eM63 fq62)
  have kq7 := kq7.le (zle.mkn (E := fun _ => False) eM63 fq62)
  have kq10 := kq10.le (zle.mkn (E := fun _ => False) eM63 fq62)
  have kq29 := kq29.le (zle.mkn (E := fun _ => False) eM63 fq62)
  have kq32 := kq32.le (zle.mkn (E := fun _ => False) eM63 fq62)
  have kq35 := kq35.le (zle.mkn (E := fun _ => False) eM63 fq62)
  have ob := ob.le (zle.mkn (E := fun _ => False) eM63 fq62) (fun h => h)
  have tq62 := zob.new eM63 (by decide)
  refine ⟨ob.1, fun M64 eM64 => ?_⟩
  have le := le.trans (zle.mkr eM64 (Or.inl rfl))
  have kq1 := kq1.le (zle.mkr (E := fun z => z = a0) eM64 rfl)
  have kq4 := kq4.le (zle.mkr (E := fun z => z = a0) eM64 rfl)
  have kq7 := kq7.le (zle.mkr (E := fun z => z = a0) eM64 rfl)
  have kq10 := kq10.le (zle.mkr (E := fun z => z = a0) eM64 rfl)
  have kq29 := kq29.le (zle.mkr (E := fun z => z = a0) eM64 rfl)
  have kq32 := kq32.le (zle.mkr (E := fun z => z = a0) eM64 rfl)
  have kq35 := kq35.le (zle.mkr (E := fun z => z = a0) eM64 rfl)
  have ob := ob.mkr eM64
  refine ⟨by rw [hR]; decide, by rw [hR]; decide, fun q65 fq65 M66 eM66 => ?_⟩
  have gq65 := le.fresh fq65
  have le := le.trans (zle.mkn eM66 fq65)
  have na_q65 := ob.ne0 fq65
  have kq1 := kq1.le (zle.mkn (E := fun _ => False) eM66 fq65)
  have kq4 := kq4.le (zle.mkn (E := fun _ => False) eM66 fq65)
  have kq7 := kq7.le (zle.mkn (E := fun _ => False) eM66 fq65)
  have kq10 := kq10.le (zle.mkn (E := fun _ => False) eM66 fq65)
  have kq29 := kq29.le (zle.mkn (E := fun _ => False) eM66 fq65)
  have kq32 := kq32.le (zle.mkn (E := fun _ => False) eM66 fq65)
  have kq35 := kq35.le (zle.mkn (E := fun _ => False) eM66 fq65)
  have ob := ob.le (zle.mkn (E := fun _ => False) eM66 fq65) (fun h => h)
  have kq65 := zkd.new eM66 (by decide)
  have tq65 := zob.new eM66 (by decide)
  refine ⟨ob.1, fun M67 eM67 => ?_⟩
  have le := le.trans (zle.mkr eM67 (Or.inl rfl))
  have kq1 := kq1.le (zle.mkr (E := fun z => z = a0) eM67 rfl)
  have kq4 := kq4.le (zle.mkr (E := fun z => z = a0) eM67 rfl)
  have kq7 := kq7.le (zle.mkr (E := fun z => z = a0) eM67 rfl)
  have kq10 := kq10.le (zle.mkr (E := fun z => z = a0) eM67 rfl)
  have kq29 := kq29.le (zle.mkr (E := fun z => z = a0) eM67 rfl)
  have kq32 := kq32.le (zle.mkr (E := fun z => z = a0) eM67 rfl)
  have kq35 := kq35.le (zle.mkr (E := fun z => z = a0) eM67 rfl)
  have kq65 := kq65.le (zle.mkr (E := fun z => z = a0) eM67 rfl)
  have ob := ob.mkr eM67
  refine s_X15_loop188 O hR ob (by simp [va_up]) kq7 (fun M2 l2 => ?_) 24 0 _ rfl (zle.refl _)
  have ob2 := ob.le l2 (fun h => h.elim (ob.ne kq7.1 (by decide)) (fun e => ob.2.1 (ob.1.symm.trans e)))
  refine s_X15_loop215 O hR ob2 (by simp [va_up]) (kq10.le l2) (fun M3 l3 => ?_) 5 0 _ rfl (zle.refl _)
  have ob3 := ob2.le l3 (fun h => h.elim (ob2.ne (kq10.le l2).1 (by decide)) (fun e => ob2.2.1 (ob2.1.symm.trans e)))
  refine s_X15_loop241 O hR ob3 (by simp [va_up]) ((kq4.le l2).le l3) (fun M4 l4 => ?_) 6 0 _ rfl (zle.refl _)
  have ob4 := ob3.le l4 (fun h => h.elim (ob3.ne ((kq4.le l2).le l3).1 (by decide)) (fun e => ob3.2.1 (ob3.1.symm.trans e)))
  rw [hq]
  exact ⟨rfl, _, q1, q29, q32, q35, q65, ob4, by simp [va_up], ((kq1.le l2).le l3).le l4, ((kq29.le l2).le l3).le l4, ((kq32.le l2).le l3).le l4, ((kq35.le l2).le l3).le l4, ((kq65.le l2).le l3).le l4⟩
