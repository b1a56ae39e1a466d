theorem zle.fresh {E : Nat → Prop} {M0 M : zM} {q : Nat} (l : zle E M0 M) (h : M.1 q = 0) : M0.1 q = 0 := by
  rcases Nat.eq_zero_or_pos (M0.1 q) with g | g
  · exact g
  · have := (l.1 q (by omega)).1
    omega
theorem zle.only {M0 M : zM} {a0 : Nat} (l : zle (fun z => z = a0 ∨ M0.1 z = 0) M0 M) : zle (fun z => z = a0) M0 M := l.mono (fun z hz h => h.resolve_right hz)
/-- what our constructors do: nothing old but the object itself changes, which keeps its kind -/
abbrev zpost0 (a : Nat) (M : zM) : zM → Option Value → Prop := fun M' v => zle (fun z => z = a) M M' ∧ v = none ∧ True
abbrev zpost (a : Nat) (k : Nat) (P : zM → (Nat → Option Nat) → Prop) (M : zM) : zM → Option Value → Prop := fun M' v => zle (fun z => z = a) M M' ∧ v = none ∧ ∀ (f : Nat → Int32) (r : Nat → Option Nat), zob M a k f r → ∃ r' : Nat → Option Nat, zob M' a k f r' ∧ P M' r'
set_option maxRecDepth 100000 in
set_option maxHeartbeats 4000000 in
theorem s_X9_init {G : zG} {M0 : zM} {a0 : Nat} (h0 : M0.1 a0 = 9) : zC G yX9_init cX9_init 1 none rm_X9_init M0 [.ref a0] (zpost a0 9 (fun _ _ => True) M0) := by
  refine z_intro (by decide +kernel) (Nat.le_of_ble_eq_true rfl) (fun X O hR hq => ?_)
  refine b_X9_init_0 (n := 0) (k := 0) O hR ?_
  have ob : zob M0 a0 9 (M0.2.2.1 a0) (M0.2.2.2 a0) := ⟨h0, by decide, rfl, rfl⟩
  have le : zle (fun z => z = a0 ∨ M0.1 z = 0) M0 M0 := zle.refl _
  rw [hq]
  refine ⟨le.only, rfl, fun f r h => ?_⟩
  obtain ⟨-, -, rfl, -⟩ := h
  exact ⟨_, ob, trivial⟩
set_option maxRecDepth 100000 in
set_option maxHeartbeats 4000000 in
theorem s_X10_init {G : zG} {M0 : zM} {a0 : Nat} (h0 : M0.1 a0 = 10) : zC G yX10_init cX10_init 1 none rm_X10_init M0 [.ref a0] (zpost a0 10 (fun _ _ => True) M0) := by
  refine z_intro (by decide +kernel) (Nat.le_of_ble_eq_true rfl) (fun X O hR hq => ?_)
  refine b_X10_init_0 (n := 0) (k := 0) O hR ?_
  have ob : zob M0 a0 10 (M0.2.2.1 a0) (M0.2.2.2 a0) := ⟨h0, by decide, rfl, rfl⟩
  have le : zle (fun z => z = a0 ∨ M0.1 z = 0) M0 M0 := zle.refl _
  refine ⟨by rw [hR]; decide, by rw [hR]; decide, fun q1 fq1 M2 eM2 => ?_⟩
  have gq1 := le.fresh fq1
  have le := le.trans (zle.mkn eM2 fq1)
  have na_q1 := ob.ne0 fq1
  have ob := ob.le (zle.mkn (E := fun _ => False) eM2 fq1) (fun h => h)
  have tq1 := zob.new eM2 (by decide)
  refine ⟨ob.1, fun M3 eM3 => ?_⟩
  have le := le.trans (zle.mkr eM3 (Or.inl rfl))
  have ob := ob.mkr eM3
  rw [hq]
  refine ⟨le.only, rfl, fun f r h => ?_⟩
  obtain ⟨-, -, rfl, -⟩ := h
  exact ⟨_, ob, trivial⟩
set_option maxRecDepth 100000 in
set_option maxHeartbeats 4000000 in
theorem s_X4_init {G : zG} {M0 : zM} {a0 : Nat} (h0 : M0.1 a0 = 5) : zC G yX4_init cX4_init 1 none rm_X4_init M0 [.ref a0] (zpost a0 5 (fun M' r' => ∃ b c d : Nat, r' 0 = some b ∧ r' 1 = some c ∧ r' 2 = some d ∧ zkd M' b 100 64 ∧ zkd M' c 100 64 ∧ zkd M' d 100 64) M0) := by
  refine z_intro (by decide +kernel) (Nat.le_of_ble_eq_true rfl) (fun X O hR hq => ?_)
  refine b_X4_init_0 (n := 0) (k := 0) O hR ?_
  have ob : zob M0 a0 5 (M0.2.2.1 a0) (M0.2.2.2 a0) := ⟨h0, by decide, rfl, rfl⟩
  have le : zle (fun z => z = a0 ∨ M0.1 z = 0) M0 M0 := zle.refl _
  refine ⟨by rw [hR]; decide, by rw [hR]; decide, fun q1 fq1 M2 eM2 => ?_⟩
  have gq1 := le.fresh fq1
  have le := le.trans (zle.mkn eM2 fq1)
  have na_q1 := ob.ne0 fq1
  have ob := ob.le (zle.mkn (E := fun _ => False) eM2 fq1) (fun h => h)
  have kq1 := zkd.new eM2 (by decide)
  have tq1 := zob.new eM2 (by decide)
  refine ⟨ob.1, fun M3 eM3 => ?_⟩
  have le := le.trans (zle.mkr eM3 (Or.inl rfl))
  have kq1 := kq1.le (zle.mkr (E := fun z => z = a0) eM3 rfl)
  have ob := ob.mkr eM3
  refine ⟨by rw [hR]; decide, by rw [hR]; decide, fun q4 fq4 M5 eM5 => ?_⟩
  have gq4 := le.fresh fq4
  have le := le.trans (zle.mkn eM5 fq4)
  have na_q4 := ob.ne0 fq4
  have kq1 := kq1.le (zle.mkn (E := fun _ => False) eM5 fq4)
  have ob := ob.le (zle.mkn (E := fun _ => False) eM5 fq4) (fun h => h)
  have kq4 := zkd.new eM5 (by decide)
  have tq4 := zob.new eM5 (by decide)
  refine ⟨ob.1, fun M6 eM6 => ?_⟩
  have le := le.trans (zle.mkr eM6 (Or.inl rfl))
  have kq1 := kq1.le (zle.mkr (E := fun z => z = a0) eM6 rfl)
  have kq4 := kq4.le (zle.mkr (E := fun z => z = a0) eM6 rfl)
  have ob := ob.mkr eM6
  refine ⟨by rw [hR]; decide, by rw [hR]; decide, fun q7 fq7 M8 eM8 => ?_⟩
  have gq7 := le.fresh fq7
  have le := le.trans (zle.mkn eM8 fq7)
  have na_q7 := ob.ne0 fq7
  have kq1 := kq1.le (zle.mkn (E := fun _ => False) eM8 fq7)
  have kq4 := kq4.le (zle.mkn (E := fun _ => False) eM8 fq7)
  have ob := ob.le (zle.mkn (E := fun _ => False) eM8 fq7) (fun h => h)
  have kq7 := zkd.new eM8 (by decide)
  have tq7 := zob.new eM8 (by decide)
  refine ⟨ob.1, fun M9 eM9 => ?_⟩
  have le := le.trans (zle.mkr eM9 (Or.inl rfl))
  have kq1 := kq1.le (zle.mkr (E := fun z => z = a0) eM9 rfl)
  have kq4 := kq4.le (zle.mkr (E := fun z => z = a0) eM9 rfl)
  have kq7 := kq7.le (zle.mkr (E := fun z => z = a0) eM9 rfl)
  have ob := ob.mkr eM9
  rw [hq]
  refine ⟨le.only, rfl, fun f r h => ?_⟩
  obtain ⟨-, -, rfl, -⟩ := h
  exact ⟨_, ob, q1, q4, q7, by simp [va_up], by simp [va_up], by simp [va_up], kq1, kq4, kq7⟩
set_option maxRecDepth 100000 in
set_option maxHeartbeats 4000000 in
theorem s_X7_loop {G : zG} {X : zX} (O : zOK G X cX7_init 3 RX7 none "<init>") (hR : X.R = rm_X7_init) {M0 : zM} {a0 s0 : Nat} (hs0 : M0.1 s0 = 0) (hq : ∀ M, zle (fun z => z = a0 ∨ M0.1 z = 0) M0 M → X.q M none) : ∀ (m i : Nat) (M : zM), i + m = 8 → zle (fun z => z = a0 ∨ M0.1 z = 0) M0 M → M.1 a0 = 8 → M.2.2.2 a0 0 = some s0 → zkd M s0 106 8 → zW G X 3 M (1 + 2 * i) (8 + 28 * i) 20 [(0, .ref a0), (2, .int (nI i))] []
  | 0, i, M, hi, le, ka, kr, ks => by
    have hi8 : i = 8 := by omega
    subst hi8
    refine b_X7_init_20 O hR ⟨fun _ => hq M le, fun c => absurd ?_ c⟩
    decide
  | m + 1, i, M, hi, le, ka, kr, ks => by
    refine b_X7_init_20 O hR ⟨fun c => absurd c (nI_ge (a := i) (b := 8) (by omega) (by decide)), fun _ => ⟨ka, s0, kr, ?_, ?_, fun q2 fq2 M3 e3 => ⟨?_, ?_, ?_⟩⟩⟩
    · rw [hR]; show 1 + 2 * i + 1 ≤ 17; omega
    · rw [hR]; show 8 + 28 * i + 5 ≤ 232; omega
    · rw [hR]; show 1 + 2 * i + 1 + 1 ≤ 17; omega
    · rw [hR]; show 8 + 28 * i + 5 + 23 ≤ 232; omega
    · have g2 := le.fresh fq2
      have le1 := le.trans (zle.mkn e3 fq2)
      have t2 := zob.new e3 (by decide : (10 : Nat) ≠ 0)
      have na : a0 ≠ q2 := fun e => by rw [← e, ka] at fq2; cases fq2
      have ns : s0 ≠ q2 := fun e => by rw [← e, ks.1] at fq2; cases fq2
      have nas : a0 ≠ s0 := fun e => by have := ks.1; rw [← e, ka] at this; cases this
      have hz := zle.mkn (E := fun _ => False) e3 fq2
      have ka1 : M3.1 a0 = 8 := (hz.1 a0 (by rw [ka]; decide)).1.trans ka
      have kr1 : M3.2.2.2 a0 0 = some s0 := by rw [(hz.2 a0 (by rw [ka]; decide) (fun h => h)).2]; exact kr
      have ks1 := ks.le hz
      refine (s_X10_init t2.1).weak (fun M4 v hv => ?_)
      obtain ⟨hle, rfl, hsp⟩ := hv
      obtain ⟨r4, o4, -⟩ := hsp _ _ t2
      have le2 := le1.trans (hle.mono (F := fun z => z = a0 ∨ M0.1 z = 0) (fun z _ hz => Or.inr (by rw [hz]; exact g2)))
      have ka2 : M4.1 a0 = 8 := (hle.1 a0 (by rw [ka1]; decide)).1.trans ka1
      have kr2 : M4.2.2.2 a0 0 = some s0 := by rw [(hle.2 a0 (by rw [ka1]; decide) na).2]; exact kr1
      have ks2 := ks1.le hle
      refine ⟨rfl, ks2.1, o4.1, by rw [ks2.2.1]; exact vp_in_nI (by omega) (by decide), fun M5 e5 y6 ey => ?_⟩
      have le3 := le2.trans (zle.mkr e5 (Or.inr hs0))
      have hz5 := zle.mkr (E := fun z => z = s0) e5 rfl
      have ka3 : M5.1 a0 = 8 := (hz5.1 a0 (by rw [ka2]; decide)).1.trans ka2
      have kr3 : M5.2.2.2 a0 0 = some s0 := by rw [(hz5.2 a0 (by rw [ka2]; decide) nas).2]; exact kr2
      have ey2 : y6 = nI (i + 1) := by rw [ey]; exact (nI_succ i).symm
      subst ey2
      have key := s_X7_loop O hR hs0 hq m (i + 1) M5 (by omega) le3 ka3 kr3 (ks2.le hz5)
      rw [show 1 + 2 * i + 1 + 1 = 1 + 2 * (i + 1) by omega, show 8 + 28 * i + 5 + 23 = 8 + 28 * (i + 1) by omega]
      exact key
set_option maxRecDepth 100000 in
set_option maxHeartbeats 4000000 in
theorem s_X7_init {G : zG} {M0 : zM} {a0 a1 : Nat} (h0 : M0.1 a0 = 8) : zC G yX7_init cX7_init 3 none rm_X7_init M0 [.ref a0, .ref a1] (zpost0 a0 M0) := by
  refine z_intro (by decide +kernel) (Nat.le_of_ble_eq_true rfl) (fun X O hR hq => ?_)
  refine b_X7_init_0 (n := 0) (k := 0) O hR ⟨h0, fun M1 e1 => ⟨by rw [hR]; decide, by rw [hR]; decide, fun q2 fq2 M3 e3 => ?_⟩⟩
  have le : zle (fun z => z = a0 ∨ M0.1 z = 0) M0 M0 := zle.refl _
  have ob : zob M0 a0 8 (M0.2.2.1 a0) (M0.2.2.2 a0) := ⟨h0, by decide, rfl, rfl⟩
  have le := le.trans (zle.mkr e1 (Or.inl rfl))
  have ob := ob.mkr e1
  have g2 := le.fresh fq2
  have le := le.trans (zle.mkn e3 fq2)
  have ob := ob.le (zle.mkn (E := fun _ => False) e3 fq2) (fun h => h)
  have k2 := zkd.new e3 (by decide)
  refine ⟨ob.1, fun M4 e4 => ?_⟩
  have le := le.trans (zle.mkr e4 (Or.inl rfl))
  have ob := ob.mkr e4
  have k2 := k2.le (zle.mkr (E := fun z => z = a0) e4 rfl)
  refine s_X7_loop O hR g2 (fun M l => ?_) 8 0 M4 rfl le ob.1 (by rw [ob.2.2.2]; simp [va_up]) k2
  rw [hq]
  exact ⟨l.only, rfl, trivial⟩
set_option maxRecDepth 100000 in
set_option maxHeartbeats 4000000 in
theorem s_X5_init {G : zG} {M0 : zM} {a0 : Nat} {x1 x2 : Int32} {a3 : Nat} (h0 : M0.1 a0 = 6) : zC G yX5_init cX5_init 4 none rm_X5_init M0 [.ref a0, .int x1, .int x2, .ref a3] (zpost0 a0 M0) := by
  refine z_intro (by decide +kernel) (Nat.le_of_ble_eq_true rfl) (fun X O hR hq => ?_)
  refine b_X5_init_0 (n := 0) (k := 0) O hR ?_
  have ob : zob M0 a0 6 (M0.2.2.1 a0) (M0.2.2.2 a0) := ⟨h0, by decide, rfl, rfl⟩
  have le : zle (fun z => z = a0 ∨ M0.1 z = 0) M0 M0 := zle.refl _
  refine ⟨ob.1, fun M1 eM1 => ?_⟩
  have le := le.trans (zle.mki eM1 (Or.inl rfl))
  have ob := ob.mki eM1
  refine ⟨ob.1, fun M2 eM2 => ?_⟩
  have le := le.trans (zle.mki eM2 (Or.inl rfl))
  have ob := ob.mki eM2
  refine ⟨by rw [hR]; decide, by rw [hR]; decide, fun q3 fq3 M4 eM4 => ?_⟩
  have gq3 := le.fresh fq3
  have le := le.trans (zle.mkn eM4 fq3)
  have na_q3 := ob.ne0 fq3
  have ob := ob.le (zle.mkn (E := fun _ => False) eM4 fq3) (fun h => h)
  have tq3 := zob.new eM4 (by decide)
  refine ⟨by rw [hR]; decide, by rw [hR]; decide, (s_X7_init (tq3.1)).weak (fun M5 v hv => ?_)⟩
  obtain ⟨hle, rfl, hsp⟩ := hv
  refine ⟨rfl, ?_⟩
  have le := le.trans (hle.mono (F := fun z => z = a0 ∨ M0.1 z = 0) (fun z _ hz => Or.inr (by rw [hz]; exact gq3)))
  have ob := ob.le hle (na_q3)
  refine ⟨ob.1, fun M6 eM6 => ?_⟩
  have le := le.trans (zle.mkr eM6 (Or.inl rfl))
  have ob := ob.mkr eM6
  refine ⟨by rw [hR]; decide, by rw [hR]; decide, fun q7 fq7 M8 eM8 => ?_⟩
  have gq7 := le.fresh fq7
  have le := le.trans (zle.mkn eM8 fq7)
  have na_q7 := ob.ne0 fq7
  have ob := ob.le (zle.mkn (E := fun _ => False) eM8 fq7) (fun h => h)
  have tq7 := zob.new eM8 (by decide)
  refine ⟨ob.1, fun M9 eM9 => ?_⟩
  have le := le.trans (zle.mkr eM9 (Or.inl rfl))
  have ob := ob.mkr eM9
  rw [hq]
  exact ⟨le.only, rfl, trivial⟩
set_option maxRecDepth 100000 in
set_option maxHeartbeats 4000000 in
theorem s_X14_init {G : zG} {M0 : zM} {a0 : Nat} (h0 : M0.1 a0 = 14) : zC G yX14_init cX14_init 1 none rm_X14_init M0 [.ref a0] (zpost0 a0 M0) := by
  refine z_intro (by decide +kernel) (Nat.le_of_ble_eq_true rfl) (fun X O hR hq => ?_)
  refine b_X14_init_0 (n := 0) (k := 0) O hR ?_
  have ob : zob M0 a0 14 (M0.2.2.1 a0) (M0.2.2.2 a0) := ⟨h0, by decide, rfl, rfl⟩
  have le : zle (fun z => z = a0 ∨ M0.1 z = 0) M0 M0 := zle.refl _
  refine ⟨by rw [hR]; decide, by rw [hR]; decide, fun q1 fq1 M2 eM2 => ?_⟩
  have le := le.trans (zle.mknn eM2 fq1)
  have ob := ob.le (zle.mknn (E := fun _ => False) eM2 fq1) (fun h => h)
  refine ⟨ob.1, fun M3 eM3 => ?_⟩
  have le := le.trans (zle.mkr eM3 (Or.inl rfl))
  have ob := ob.mkr eM3
  refine ⟨by rw [hR]; decide, by rw [hR]; decide, fun q4 fq4 M5 eM5 => ?_⟩
  have gq4 := le.fresh fq4
  have le := le.trans (zle.mkn eM5 fq4)
  have na_q4 := ob.ne0 fq4
  have ob := ob.le (zle.mkn (E := fun _ => False) eM5 fq4) (fun h => h)
  have tq4 := zob.new eM5 (by decide)
  refine ⟨ob.1, fun M6 eM6 => ?_⟩
  have le := le.trans (zle.mkr eM6 (Or.inl rfl))
  have ob := ob.mkr eM6
  refine ⟨by rw [hR]; decide, by rw [hR]; decide, fun q7 fq7 M8 eM8 => ?_⟩
  have gq7 := le.fresh fq7
  have le := le.trans (zle.mkn eM8 fq7)
  have na_q7 := ob.ne0 fq7
  have ob := ob.le (zle.mkn (E := fun _ => False) eM8 fq7) (fun h => h)
  have tq7 := zob.new eM8 (by decide)
  refine ⟨ob.1, fun M9 eM9 => ?_⟩
  have le := le.trans (zle.mkr eM9 (Or.inl rfl))
  have ob := ob.mkr eM9
  refine ⟨by rw [hR]; decide, by rw [hR]; decide, fun q10 fq10 M11 eM11 => ?_⟩
  have gq10 := le.fresh fq10
  have le := le.trans (zle.mkn eM11 fq10)
  have na_q10 := ob.ne0 fq10
  have ob := ob.le (zle.mkn (E := fun _ => False) eM11 fq10) (fun h => h)
  have tq10 := zob.new eM11 (by decide)
  refine ⟨ob.1, fun M12 eM12 => ?_⟩
  have le := le.trans (zle.mkr eM12 (Or.inl rfl))
  have ob := ob.mkr eM12
  refine ⟨by rw [hR]; decide, by rw [hR]; decide, fun q13 fq13 M14 eM14 => ?_⟩
  have gq13 := le.fresh fq13
  have le := le.trans (zle.mkn eM14 fq13)
  have na_q13 := ob.ne0 fq13
  have ob := ob.le (zle.mkn (E := fun _ => False) eM14 fq13) (fun h => h)
  have tq13 := zob.new eM14 (by decide)
  refine ⟨ob.1, fun M15 eM15 => ?_⟩
  have le := le.trans (zle.mkr eM15 (Or.inl rfl))
  have ob := ob.mkr eM15
  rw [hq]
  exact ⟨le.only, rfl, trivial⟩
set_option maxRecDepth 100000 in
set_option maxHeartbeats 4000000 in
theorem s_X13_init {G : zG} {M0 : zM} {a0 : Nat} (h0 : M0.1 a0 = 13) : zC G yX13_init cX13_init 1 none rm_X13_init M0 [.ref a0] (zpost0 a0 M0) := by
  refine z_intro (by decide +kernel) (Nat.le_of_ble_eq_true rfl) (fun X O hR hq => ?_)
  refine b_X13_init_0 (n := 0) (k := 0) O hR ?_
  have ob : zob M0 a0 13 (M0.2.2.1 a0) (M0.2.2.2 a0) := ⟨h0, by decide, rfl, rfl⟩
  have le : zle (fun z => z = a0 ∨ M0.1 z = 0) M0 M0 := zle.refl _
  refine ⟨by rw [hR]; decide, by rw [hR]; decide, fun q1 fq1 M2 eM2 => ?_⟩
  have gq1 := le.fresh fq1
  have le := le.trans (zle.mkn eM2 fq1)
  have na_q1 := ob.ne0 fq1
  have ob := ob.le (zle.mkn (E := fun _ => False) eM2 fq1) (fun h => h)
  have tq1 := zob.new eM2 (by decide)
  refine ⟨by rw [hR]; decide, by rw [hR]; decide, (s_X14_init (tq1.1)).weak (fun M3 v hv => ?_)⟩
  obtain ⟨hle, rfl, hsp⟩ := hv
  refine ⟨rfl, ?_⟩
  have le := le.trans (hle.mono (F := fun z => z = a0 ∨ M0.1 z = 0) (fun z _ hz => Or.inr (by rw [hz]; exact gq1)))
  have ob := ob.le hle (na_q1)
  refine ⟨ob.1, fun M4 eM4 => ?_⟩
  have le := le.trans (zle.mkr eM4 (Or.inl rfl))
  have ob := ob.mkr eM4
  refine ⟨by rw [hR]; decide, by rw [hR]; decide, fun q5 fq5 M6 eM6 => ?_⟩
  have gq5 := le.fresh fq5
  have le := le.trans (zle.mkn eM6 fq5)
  have na_q5 := ob.ne0 fq5
  have ob := ob.le (zle.mkn (E := fun _ => False) eM6 fq5) (fun h => h)
  have tq5 := zob.new eM6 (by decide)
  refine ⟨ob.1, fun M7 eM7 => ?_⟩
  have le := le.trans (zle.mkr eM7 (Or.inl rfl))
  have ob := ob.mkr eM7
  refine ⟨by rw [hR]; decide, by rw [hR]; decide, fun q8 fq8 M9 eM9 => ?_⟩
  have gq8 := le.fresh fq8
  have le := le.trans (zle.mkn eM9 fq8)
  have na_q8 := ob.ne0 fq8
  have ob := ob.le (zle.mkn (E := fun _ => False) eM9 fq8) (fun h => h)
  have tq8 := zob.new eM9 (by decide)
  refine ⟨ob.1, fun M10 eM10 => ?_⟩
  have le := le.trans (zle.mkr eM10 (Or.inl rfl))
  have ob := ob.mkr eM10
  refine ⟨by rw [hR]; decide, by rw [hR]; decide, fun q11 fq11 M12 eM12 => ?_⟩
  have gq11 := le.fresh fq11
  have le := le.trans (zle.mkn eM12 fq11)
  have na_q11 := ob.ne0 fq11
  have ob := ob.le (zle.mkn (E := fun _ => False) eM12 fq11) (fun h => h)
  have tq11 := zob.new eM12 (by decide)
  refine ⟨ob.1, fun M13 eM13 => ?_⟩
  have le := le.trans (zle.mkr eM13 (Or.inl rfl))
  have ob := ob.mkr eM13
  refine ⟨by rw [hR]; decide, by rw [hR]; decide, fun q14 fq14 M15 eM15 => ?_⟩
  have gq14 := le.fresh fq14
  have le := le.trans (zle.mkn eM15 fq14)
  have na_q14 := ob.ne0 fq14
  have ob := ob.le (zle.mkn (E := fun _ => False) eM15 fq14) (fun h => h)
  have tq14 := zob.new eM15 (by decide)
  refine ⟨ob.1, fun M16 eM16 => ?_⟩
  have le := le.trans (zle.mkr eM16 (Or.inl rfl))
  have ob := ob.mkr eM16
  refine ⟨by rw [hR]; decide, by rw [hR]; decide, fun q17 fq17 M18 eM18 => ?_⟩
  have gq17 := le.fresh fq17
  have le := le.trans (zle.mkn eM18 fq17)
  have na_q17 := ob.ne0 fq17
  have ob := ob.le (zle.mkn (E := fun _ => False) eM18 fq17) (fun h => h)
  have tq17 := zob.new eM18 (by decide)
  refine ⟨ob.1, fun M19 eM19 => ?_⟩
  have le := le.trans (zle.mkr eM19 (Or.inl rfl))
  have ob := ob.mkr eM19
  refine ⟨by rw [hR]; decide, by rw [hR]; decide, fun q20 fq20 M21 eM21 => ?_⟩
  have gq20 := le.fresh fq20
  have le := le.trans (zle.mkn eM21 fq20)
  have na_q20 := ob.ne0 fq20
  have ob := ob.le (zle.mkn (E := fun _ => False) eM21 fq20) (fun h => h)
  have tq20 := zob.new eM21 (by decide)
  refine ⟨ob.1, fun M22 eM22 => ?_⟩
  have le := le.trans (zle.mkr eM22 (Or.inl rfl))
  have ob := ob.mkr eM22
  refine ⟨by rw [hR]; decide, by rw [hR]; decide, fun q23 fq23 M24 eM24 => ?_⟩
  have gq23 := le.fresh fq23
  have le := le.trans (zle.mkn eM24 fq23)
  have na_q23 := ob.ne0 fq23
  have ob := ob.le (zle.mkn (E := fun _ => False) eM24 fq23) (fun h => h)
  have tq23 := zob.new eM24 (by decide)
  refine ⟨ob.1, fun M25 eM25 => ?_⟩
  have le := le.trans (zle.mkr eM25 (Or.inl rfl))
  have ob := ob.mkr eM25
  refine ⟨by rw [hR]; decide, by rw [hR]; decide, fun q26 fq26 M27 eM27 => ?_⟩
  have gq26 := le.fresh fq26
  have le := le.trans (zle.mkn eM27 fq26)
  have na_q26 := ob.ne0 fq26
  have ob := ob.le (zle.mkn (E := fun _ => False) eM27 fq26) (fun h => h)
  have tq26 := zob.new eM27 (by decide)
  refine ⟨ob.1, fun M28 eM28 => ?_⟩
  have le := le.trans (zle.mkr eM28 (Or.inl rfl))
  have ob := ob.mkr eM28
  refine ⟨by rw [hR]; decide, by rw [hR]; decide, fun q29 fq29 M30 eM30 => ?_⟩
  have gq29 := le.fresh fq29
  have le := le.trans (zle.mkn eM30 fq29)
  have na_q29 := ob.ne0 fq29
  have ob := ob.le (zle.mkn (E := fun _ => False) eM30 fq29) (fun h => h)
  have tq29 := zob.new eM30 (by decide)
  refine ⟨ob.1, fun M31 eM31 => ?_⟩
  have le := le.trans (zle.mkr eM31 (Or.inl rfl))
  have ob := ob.mkr eM31
  refine ⟨by rw [hR]; decide, by rw [hR]; decide, fun q32 fq32 M33 eM33 => ?_⟩
  have gq32 := le.fresh fq32
  have le := le.trans (zle.mkn eM33 fq32)
  have na_q32 := ob.ne0 fq32
  have ob := ob.le (zle.mkn (E := fun _ => False) eM33 fq32) (fun h => h)
  have tq32 := zob.new eM33 (by decide)
  refine ⟨ob.1, fun M34 eM34 => ?_⟩
  have le := le.trans (zle.mkr eM34 (Or.inl rfl))
  have ob := ob.mkr eM34
  refine ⟨ob.1, fun M35 eM35 => ?_⟩
  have le := le.trans (zle.mki eM35 (Or.inl rfl))
  have ob := ob.mki eM35
  refine ⟨by rw [hR]; decide, by rw [hR]; decide, fun q36 fq36 M37 eM37 => ?_⟩
  have gq36 := le.fresh fq36
  have le := le.trans (zle.mkn eM37 fq36)
  have na_q36 := ob.ne0 fq36
  have ob := ob.le (zle.mkn (E := fun _ => False) eM37 fq36) (fun h => h)
  have tq36 := zob.new eM37 (by decide)
  refine ⟨ob.1, fun M38 eM38 => ?_⟩
  have le := le.trans (zle.mkr eM38 (Or.inl rfl))
  have ob := ob.mkr eM38
  rw [hq]
  exact ⟨le.only, rfl, trivial⟩
