theorem zw01_1 {x lo hi : Int32} (h : ¬ zw01 x lo hi = 0) : ¬ x < lo ∧ ¬ hi < x := by
  unfold zw01 at h
  by_cases c : x < lo
  · rw [if_pos c] at h; exact absurd rfl h
  · by_cases d : hi < x
    · rw [if_neg c, if_pos d] at h; exact absurd rfl h
    · exact ⟨c, d⟩
theorem zrange {p : Int32} (c1 : ¬ p < 1) (c2 : ¬ 200 < p) : ∃ N : Nat, N ≤ 200 ∧ p = nI N := by
  rw [Int32.lt_iff_toInt_lt] at c1 c2
  have e0 : (0 : Int32).toInt = 0 := by decide
  have e1 : (1 : Int32).toInt = 1 := by decide
  have e2 : (200 : Int32).toInt = 200 := by decide
  refine nI_of2 (M := 200) (n := 200) e2 ?_ ?_
  · rw [Int32.lt_iff_toInt_lt]; omega
  · rw [Int32.le_iff_toInt_le]; omega
def zCnt (p : Int32) : Int32 := if p.toInt < 0 ∨ 13 < p.toInt then -1 else if p.toInt = 10 then -1 else 0
theorem zCnt_v {p : Int32} (j : Int) (c : p.toInt = j) (h : 0 ≤ j ∧ j ≤ 13 ∧ j ≠ 10) : zCnt p = 0 := by
  unfold zCnt
  rw [if_neg (by omega), if_neg (by omega)]
theorem zkd.clamp0 : (0 : Int32).toNatClampNeg = 0 := by decide
set_option maxRecDepth 100000 in
set_option maxHeartbeats 4000000 in
theorem s_fn_step {G : zG} {X : zX} (O : zOK G X cX11_feedNumber 3 RX11 none "feedNumber") (hR : X.R = rm_X11_feedNumber) {n k x tp T : Nat} {x1 x2 y : Int32} {M : zM} {f : Nat → Int32} {r : Nat → Option Nat} (ob : zob M x 11 f r) (hr : r 6 = some tp) (kt : zkd M tp 100 60) (hf : f 12 = nI T) (hT : T < 60) (hx : ¬ x2 < 0) (hy : x2 + (-8) = y)
    (K : ∀ (M' : zM) (f' : Nat → Int32), zob M' x 11 f' r → zkd M' tp 100 60 → f' 12 = nI (T + 1) → zW G X 3 M' n k 3 [(0, .ref x), (1, .int x1), (2, .int y)] []) : zW G X 3 M n k 3 [(0, .ref x), (1, .int x1), (2, .int x2)] [] := by
  have e12 : M.2.2.1 x 12 = nI T := by rw [ob.2.2.1]; exact hf
  refine b_X11_feedNumber_3 O hR ⟨fun c => absurd c hx, fun _ => ⟨ob.1, fun c => ?_, fun _ => ⟨ob.1, tp, by rw [ob.2.2.2]; exact hr, ob.1, kt.1, by rw [kt.2.1, e12]; exact vp_in_nI hT (by decide), fun M2 e2 => ?_⟩⟩⟩
  · rw [e12] at c
    exact absurd c (nI_ge (a := T) (b := 60) hT (by decide))
  · have hne : x ≠ tp := ob.ne kt.1 (by decide)
    have l2 := zle.mki (E := fun z => z = tp) e2 rfl
    have ob2 := ob.le l2 hne
    have kt2 := kt.le l2
    refine ⟨ob2.1, ob2.1, fun M3 e3 y4 e4 => ?_⟩
    have ob3 := ob2.mki e3
    have kt3 := kt2.le (zle.mki (E := fun z => z = x) e3 rfl)
    have e4 : y4 = y := e4.trans hy
    subst e4
    refine K M3 _ ob3 kt3 ?_
    rw [ob2.2.2.1]
    simp only [upd, if_true]
    rw [hf]
    exact (nI_succ T).symm
set_option maxRecDepth 100000 in
set_option maxHeartbeats 4000000 in
theorem s_X11_feedNumber {G : zG} {x tp T : Nat} {x1 : Int32} {M : zM} {f : Nat → Int32} {r : Nat → Option Nat} (ob : zob M x 11 f r) (hr : r 6 = some tp) (kt : zkd M tp 100 60) (hf : f 12 = nI T) (hT : T + 4 ≤ 60) : zC G yX11_feedNumber cX11_feedNumber 3 none rm_X11_feedNumber M [.ref x, .int x1] (fun M' v => v = none ∧ ∃ f' : Nat → Int32, zob M' x 11 f' r ∧ zkd M' tp 100 60 ∧ f' 12 = nI (T + 4)) := by
  refine z_intro (by decide +kernel) (Nat.le_of_ble_eq_true rfl) (fun X O hR hq => ?_)
  refine b_X11_feedNumber_0 (n := 0) (k := 0) O hR ?_
  refine s_fn_step O hR ob hr kt hf (by omega) (by decide) (y := 16) (by decide) (fun M1 f1 o1 k1 h1 => ?_)
  refine s_fn_step O hR o1 hr k1 h1 (by omega) (by decide) (y := 8) (by decide) (fun M2 f2 o2 k2 h2 => ?_)
  refine s_fn_step O hR o2 hr k2 h2 (by omega) (by decide) (y := 0) (by decide) (fun M3 f3 o3 k3 h3 => ?_)
  refine s_fn_step O hR o3 hr k3 h3 (by omega) (by decide) (y := -8) (by decide) (fun M4 f4 o4 k4 h4 => ?_)
  refine b_X11_feedNumber_3 O hR ⟨fun _ => ?_, fun c => absurd (by decide) c⟩
  rw [hq]
  exact ⟨rfl, f4, o4, k4, h4⟩
set_option maxRecDepth 100000 in
set_option maxHeartbeats 4000000 in
theorem s_X11_feed {G : zG} {M : zM} {x : Nat} {p0 p1 p2 p3 p4 : Int32} (hF : FX M x) : zC G yX11_feed cX11_feed 6 (some .int) rm_X11_feed M [.ref x, .int p0, .int p1, .int p2, .int p3, .int p4] (fun _ v => v = some (.int 20)) := by
  refine z_intro (by decide +kernel) (Nat.le_of_ble_eq_true rfl) (fun X O hR hq => ?_)
  obtain ⟨f, r, rt, rh, rl, t, l, h, tp, la, hb, hc, hd, ob, ⟨f9, f10, f11, f12, f13, f14⟩, ⟨r0, r1, r5, r6, r7⟩, ot, kl, oh, hrh, kb, kc, kd, kt, ol⟩ := hF
  have e12 : M.2.2.1 x 12 = 0 := by rw [ob.2.2.1]; exact f12
  refine b_X11_feed_0 (n := 0) (k := 0) O hR ⟨ob.1, fun _ => ⟨ob.1, ?_⟩, fun c => absurd (by rw [e12]; decide) c⟩
  refine (s_X11_feedNumber (T := 0) ob r6 kt (by rw [f12]; rfl) (by decide)).weak (fun M1 v hv => ?_)
  obtain ⟨rfl, f1, o1, k1, h1⟩ := hv
  refine ⟨rfl, o1.1, (s_X11_feedNumber o1 r6 k1 h1 (by decide)).weak (fun M2 v hv => ?_)⟩
  obtain ⟨rfl, f2, o2, k2, h2⟩ := hv
  refine ⟨rfl, o2.1, (s_X11_feedNumber o2 r6 k2 h2 (by decide)).weak (fun M3 v hv => ?_)⟩
  obtain ⟨rfl, f3, o3, k3, h3⟩ := hv
  refine ⟨rfl, o3.1, (s_X11_feedNumber o3 r6 k3 h3 (by decide)).weak (fun M4 v hv => ?_)⟩
  obtain ⟨rfl, f4, o4, k4, h4⟩ := hv
  refine ⟨rfl, o4.1, (s_X11_feedNumber o4 r6 k4 h4 (by decide)).weak (fun M5 v hv => ?_)⟩
  obtain ⟨rfl, f5, o5, k5, h5⟩ := hv
  refine ⟨rfl, o5.1, ?_⟩
  rw [hq, o5.2.2.1, h5]
  rfl
set_option maxRecDepth 100000 in
set_option maxHeartbeats 4000000 in
theorem s_X4_add {G : zG} {M : zM} {h hb hc hd : Nat} {rh : Nat → Option Nat} {p0 p1 p2 : Int32} (oh : zob M h 5 (fun _ => 0) rh) (r0 : rh 0 = some hb) (r1 : rh 1 = some hc) (r2 : rh 2 = some hd) (kb : zkd M hb 100 64) (kc : zkd M hc 100 64) (kd : zkd M hd 100 64) : zC G yX4_add cX4_add 5 (some .boolean) rm_X4_add M [.ref h, .int p0, .int p1, .int p2] (fun _ v => v = some (.int 1)) := by
  refine z_intro (by decide +kernel) (Nat.le_of_ble_eq_true rfl) (fun X O hR hq => ?_)
  refine b_X4_add_0 (n := 0) (k := 0) O hR ?_
  have z3 : M.2.2.1 h 3 = 0 := by rw [oh.2.2.1]
  refine b_X4_add_3 O hR ⟨oh.1, fun _ => ⟨oh.1, fun _ => ⟨oh.1, hb, by rw [oh.2.2.2]; exact r0, oh.1, kb.1, by rw [z3, kb.2.1]; exact vp_in_nI (n := 0) (by decide) (by decide), fun M2 e2 => ?_⟩, fun c => absurd (by rw [z3]; decide) c⟩, fun c => absurd (by rw [z3]; decide) c⟩
  have l2 := zle.mki (E := fun z => z = hb) e2 rfl
  have o2 := oh.le l2 (oh.ne kb.1 (by decide))
  have kc2 := kc.le l2
  have kd2 := kd.le l2
  refine ⟨o2.1, hc, by rw [o2.2.2.2]; exact r1, o2.1, kc2.1, by rw [o2.2.2.1, kc2.2.1]; exact vp_in_nI (n := 0) (by decide) (by decide), fun M4 e4 => ?_⟩
  have l4 := zle.mki (E := fun z => z = hc) e4 rfl
  have o4 := o2.le l4 (o2.ne kc2.1 (by decide))
  have kd4 := kd2.le l4
  refine ⟨o4.1, hd, by rw [o4.2.2.2]; exact r2, o4.1, kd4.1, by rw [o4.2.2.1, kd4.2.1]; exact vp_in_nI (n := 0) (by decide) (by decide), fun M6 e6 => ?_⟩
  have o6 := o4.le (zle.mki (E := fun z => z = hd) e6 rfl) (o4.ne kd4.1 (by decide))
  refine ⟨o6.1, o6.1, fun M7 e7 => ?_⟩
  rw [hq]
def zHarm (a b c : Int32) : Int32 := if zw01 a 0 500 = 0 then 0 else if zw01 b 0 22 = 0 then 0 else if zw01 c 1 255 = 0 then 0 else 1
set_option maxRecDepth 100000 in
set_option maxHeartbeats 4000000 in
theorem s_X11_harm {G : zG} {M : zM} {x : Nat} {p0 p1 p2 : Int32} (hF : FX M x) : zC G yX11_harm cX11_harm 4 (some .boolean) rm_X11_harm M [.ref x, .int p0, .int p1, .int p2] (fun _ v => v = some (.int (zHarm p0 p1 p2))) := by
  refine z_intro (by decide +kernel) (Nat.le_of_ble_eq_true rfl) (fun X O hR hq => ?_)
  obtain ⟨f, r, rt, rh, rl, t, l, h, tp, la, hb, hc, hd, ob, ⟨f9, f10, f11, f12, f13, f14⟩, ⟨r0, r1, r5, r6, r7⟩, ot, kl, oh, ⟨rh0, rh1, rh2⟩, kb, kc, kd, kt, ol⟩ := hF
  refine b_X11_harm_0 (n := 0) (k := 0) O hR (s_X11_isWithin.weak (fun M' v hv => ?_))
  obtain ⟨rfl, rfl⟩ := hv
  refine ⟨_, rfl, fun c => by rw [hq, zHarm, if_pos c], fun c1 => s_X11_isWithin.weak (fun M' v hv => ?_)⟩
  obtain ⟨rfl, rfl⟩ := hv
  refine ⟨_, rfl, fun c => by rw [hq, zHarm, if_neg c1, if_pos c], fun c2 => s_X11_isWithin.weak (fun M' v hv => ?_)⟩
  obtain ⟨rfl, rfl⟩ := hv
  refine ⟨_, rfl, fun c3 => ⟨ob.1, h, by rw [ob.2.2.2]; exact r5, ob.1, t, by rw [ob.2.2.2]; exact r0, ot.1, oh.1, (s_X4_add oh rh0 rh1 rh2 kb kc kd).weak (fun M' v hv => ?_)⟩, fun c => by rw [hq, zHarm, if_neg c1, if_neg c2, if_pos c]⟩
  subst hv
  refine ⟨1, rfl, Or.inr rfl, ?_⟩
  rw [hq, zHarm, if_neg c1, if_neg c2, if_neg c3]
set_option maxRecDepth 100000 in
set_option maxHeartbeats 4000000 in
theorem s_X11_lineOfNumber {G : zG} {M : zM} {x : Nat} {p0 : Int32} (hF : FX M x) : zC G yX11_lineOfNumber cX11_lineOfNumber 3 (some .int) rm_X11_lineOfNumber M [.ref x, .int p0] (fun M' v => M' = M ∧ v = some (.int (-1))) := by
  refine z_intro (by decide +kernel) (Nat.le_of_ble_eq_true rfl) (fun X O hR hq => ?_)
  refine b_X11_lineOfNumber_0 (n := 0) (k := 0) O hR (b_X11_lineOfNumber_2 O hR ⟨hF.k, fun _ => ?_, fun c => absurd (by rw [hF.i.1]; decide) c⟩)
  rw [hq]
  exact ⟨rfl, rfl⟩
def zLine (a : Int32) : Int32 := if zw01 a 0 255 = 0 then -1 else 0
set_option maxRecDepth 100000 in
set_option maxHeartbeats 4000000 in
theorem s_X11_line {G : zG} {M : zM} {x : Nat} {p0 : Int32} (hF : FX M x) : zC G yX11_line cX11_line 2 (some .int) rm_X11_line M [.ref x, .int p0] (fun _ v => v = some (.int (zLine p0))) := by
  refine z_intro (by decide +kernel) (Nat.le_of_ble_eq_true rfl) (fun X O hR hq => ?_)
  have hF' := hF
  obtain ⟨f, r, rt, rh, rl, t, l, h, tp, la, hb, hc, hd, ob, ⟨f9, f10, f11, f12, f13, f14⟩, ⟨r0, r1, r5, r6, r7⟩, ot, kl, oh, hrh, kb, kc, kd, kt, ol⟩ := hF
  have e9 : M.2.2.1 x 9 = 0 := by rw [ob.2.2.1]; exact f9
  refine b_X11_line_0 (n := 0) (k := 0) O hR ⟨ob.1, fun c => absurd c (by rw [e9]; decide), fun _ => s_X11_isWithin.weak (fun M' v hv => ?_)⟩
  obtain ⟨rfl, rfl⟩ := hv
  refine ⟨_, rfl, fun c => by rw [hq, zLine, if_pos c], fun c1 => ⟨ob.1, (s_X11_lineOfNumber hF').weak (fun M' v hv => ?_)⟩⟩
  obtain ⟨rfl, rfl⟩ := hv
  refine ⟨_, rfl, fun _ => ⟨ob.1, l, by rw [ob.2.2.2]; exact r1, ob.1, by rw [hR]; decide, by rw [hR]; decide, fun q6 fq6 M7 e7 => ?_⟩, fun c => absurd rfl c⟩
  have l7 := zle.mkn (E := fun _ => False) e7 fq6
  have ob7 := ob.le l7 (fun h => h)
  have kl7 := kl.le l7
  have na := ob.ne0 fq6
  have t6 := zob.new e7 (by decide : (6 : Nat) ≠ 0)
  refine ⟨ob7.1, ob7.1, t, by rw [ob7.2.2.2]; exact r0, by rw [hR]; decide, by rw [hR]; decide, (s_X5_init t6.1).weak (fun M9 v hv => ?_)⟩
  obtain ⟨l9, rfl, -⟩ := hv
  have ob9 := ob7.le l9 na
  have kl9 := kl7.le l9
  have k6 : M9.1 q6 = 6 := (l9.1 q6 (by rw [t6.1]; decide)).1.trans t6.1
  refine ⟨rfl, kl9.1, k6, by rw [e9, kl9.2.1]; exact vp_in_nI (n := 0) (by decide) (by decide), fun M10 e10 => ?_⟩
  have ob10 := ob9.le (zle.mkr (E := fun z => z = l) e10 rfl) (ob9.ne kl9.1 (by decide))
  refine ⟨ob10.1, ob10.1, fun M11 e11 => ?_⟩
  have ob11 := ob10.mki e11
  refine ⟨ob11.1, ?_⟩
  rw [hq, ob11.2.2.1, ob10.2.2.1, f9, zLine, if_neg c1]
  simp only [upd, if_true]
  rfl
set_option maxRecDepth 100000 in
set_option maxHeartbeats 4000000 in
theorem s_st_loop {G : zG} {X : zX} (O : zOK G X cX11_step 6 RX11 (some .int) "step") (hR : X.R = rm_X11_step) {x t N : Nat} {f : Nat → Int32} {r rt : Nat → Option Nat} (hN : N ≤ 200) (f9 : f 9 = 0) (f10 : f 10 = 0) (r0 : r 0 = some t) (hq : ∀ M, X.q M (some (.int 0))) : ∀ (m i : Nat) (M : zM) (ft : Nat → Int32), i + m = N → zob M x 11 f r → zob M t 9 ft rt → ft 1 = 0 → zW G X 6 M 0 0 32 [(0, .ref x), (1, .int (nI N)), (2, .int 0), (3, .int (nI i))] []
  | 0, i, M, ft, hi, ob, ot, h1 => by
    have e : i = N := by omega
    subst e
    refine b_X11_step_32 O hR ⟨fun _ => ⟨ob.1, t, by rw [ob.2.2.2]; exact r0, ot.1, ?_⟩, fun c => absurd (nI_le (Nat.le_refl _) (by omega)) c⟩
    rw [ot.2.2.1, h1]
    exact hq M
  | m + 1, i, M, ft, hi, ob, ot, h1 => by
    refine b_X11_step_32 O hR ⟨fun c => absurd c (nI_ge (a := i) (b := N) (by omega) (by omega)), fun _ => ⟨ob.1, t, by rw [ob.2.2.2]; exact r0, ot.1, ot.1, fun M3 e3 => ?_⟩⟩
    have ob3 := ob.le (zle.mki (E := fun z => z = t) e3 rfl) (ob.ne ot.1 (by decide))
    have ot3 := ot.mki e3
    refine b_X11_step_53 O hR ⟨ob3.1, fun _ => ?_, fun c => absurd (by rw [ob3.2.2.1, f9]; decide) c⟩
    refine b_X11_step_106 O hR ⟨ob3.1, fun _ => ?_, fun c => absurd (by rw [ob3.2.2.1, f10]; decide) c⟩
    intro y1 e1
    have e2 : y1 = nI (i + 1) := by rw [e1]; exact (nI_succ i).symm
    subst e2
    exact s_st_loop O hR hN f9 f10 r0 hq m (i + 1) M3 _ (by omega) ob3 ot3 (by simp [upd, h1])
set_option maxRecDepth 100000 in
set_option maxHeartbeats 4000000 in
theorem s_X11_step {G : zG} {M : zM} {x : Nat} {p0 : Int32} (hF : FX M x) (hp : ¬ zw01 p0 1 200 = 0) : zC G yX11_step cX11_step 6 (some .int) rm_X11_step M [.ref x, .int p0] (fun _ v => v = some (.int 0)) := by
  refine z_intro (by decide +kernel) (Nat.le_of_ble_eq_true rfl) (fun X O hR hq => ?_)
  obtain ⟨f, r, rt, rh, rl, t, l, h, tp, la, hb, hc, hd, ob, ⟨f9, f10, f11, f12, f13, f14⟩, ⟨r0, r1, r5, r6, r7⟩, ot, -⟩ := hF
  obtain ⟨c1, c2⟩ := zw01_1 hp
  obtain ⟨N, hN, e⟩ := zrange c1 c2
  subst e
  refine b_X11_step_0 (n := 0) (k := 0) O hR (s_X11_isWithin.weak (fun M' v hv => ?_))
  obtain ⟨rfl, rfl⟩ := hv
  refine ⟨_, rfl, fun _ => ⟨ob.1, t, by rw [ob.2.2.2]; exact r0, ot.1, fun y4 e4 => ?_⟩, fun c => absurd c hp⟩
  have e5 : y4 = 0 := by rw [e4, ot.2.2.1]
  subst e5
  exact s_st_loop O hR hN f9 f10 r0 (fun M => by rw [hq]) N 0 _ _ (by omega) ob ot rfl
set_option maxRecDepth 100000 in
set_option maxHeartbeats 4000000 in
theorem s_X11_count {G : zG} {M : zM} {x : Nat} {p0 : Int32} (hF : FX M x) : zC G yX11_count cX11_count 2 (some .int) rm_X11_count M [.ref x, .int p0] (fun _ v => v = some (.int (zCnt p0))) := by
  refine z_intro (by decide +kernel) (Nat.le_of_ble_eq_true rfl) (fun X O hR hq => ?_)
  obtain ⟨f, r, rt, rh, rl, t, l, h, tp, la, hb, hc, hd, ob, ⟨f9, f10, f11, f12, f13, f14⟩, ⟨r0, r1, r5, r6, r7⟩, ot, kl, oh, -⟩ := hF
  exact b_X11_count_0 (n := 0) (k := 0) O hR ⟨fun c => by rw [hq, zCnt, if_pos c], fun c => ⟨ob.1, t, by rw [ob.2.2.2]; exact r0, ot.1, by rw [hq, ot.2.2.1, zCnt_v 0 c (by decide)]⟩, fun c => ⟨ob.1, by rw [hq, ob.2.2.1, f9, zCnt_v 1 c (by decide)]⟩, fun c => ⟨ob.1, by rw [hq, ob.2.2.1, f10, zCnt_v 2 c (by decide)]⟩, fun c => ⟨ob.1, by rw [hq, ob.2.2.1, f11, zCnt_v 3 c (by decide)]⟩, fun c => ⟨ob.1, t, by rw [ob.2.2.2]; exact r0, ot.1, by rw [hq, ot.2.2.1, zCnt_v 4 c (by decide)]⟩, fun c => ⟨ob.1, t, by rw [ob.2.2.2]; exact r0, ot.1, by rw [hq, ot.2.2.1, zCnt_v 5 c (by decide)]⟩, fun c => ⟨ob.1, t, by rw [ob.2.2.2]; exact r0, ot.1, by rw [hq, ot.2.2.1, zCnt_v 6 c (by decide)]⟩, fun c => ⟨ob.1, t, by rw [ob.2.2.2]; exact r0, ot.1, by rw [hq, ot.2.2.1, zCnt_v 7 c (by decide)]⟩, fun c => ⟨ob.1, t, by rw [ob.2.2.2]; exact r0, ot.1, by rw [hq, ot.2.2.1, zCnt_v 8 c (by decide)]⟩, fun c => ⟨ob.1, by rw [hq, ob.2.2.1, f14, zCnt_v 9 c (by decide)]⟩, fun c => ⟨ob.1, by rw [hq, ob.2.2.1, f13, zCnt, if_neg (by omega), if_pos c]⟩, fun c => ⟨ob.1, t, by rw [ob.2.2.2]; exact r0, ot.1, by rw [hq, ot.2.2.1, zCnt_v 11 c (by decide)]⟩, fun c => ⟨ob.1, h, by rw [ob.2.2.2]; exact r5, oh.1, by rw [hq, oh.2.2.1, zCnt_v 12 c (by decide)]⟩, fun c => ⟨ob.1, by rw [hq, ob.2.2.1, f12, zCnt_v 13 c (by decide)]⟩⟩
