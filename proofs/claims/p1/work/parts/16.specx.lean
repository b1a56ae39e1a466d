/-- what isWithin and in answer -/
def zw01 (x lo hi : Int32) : Int32 := if x < lo then 0 else if hi < x then 0 else 1
theorem zw01_neg (x : Int32) : zw01 x 0 (0 - 1) = 0 := by
  unfold zw01
  by_cases h : x < 0
  · rw [if_pos h]
  · rw [if_neg h, if_pos]
    rw [Int32.lt_iff_toInt_lt] at h ⊢
    have e1 : (0 : Int32).toInt = 0 := by decide
    have e2 : ((0 : Int32) - 1).toInt = -1 := by decide
    rw [e1] at h
    rw [e2]
    omega
theorem zw01_or (x lo hi : Int32) : zw01 x lo hi = 0 ∨ zw01 x lo hi = 1 := by
  unfold zw01
  by_cases h : x < lo
  · rw [if_pos h]; exact Or.inl rfl
  · by_cases g : hi < x
    · rw [if_neg h, if_pos g]; exact Or.inl rfl
    · rw [if_neg h, if_neg g]; exact Or.inr rfl
theorem FX.k {M : zM} {x : Nat} (h : FX M x) : M.1 x = 11 := by
  obtain ⟨f, r, rt, rh, rl, t, l, h, tp, la, hb, hc, hd, ob, -⟩ := h
  exact ob.1
theorem FX.i {M : zM} {x : Nat} (h : FX M x) : M.2.2.1 x 9 = 0 ∧ M.2.2.1 x 10 = 0 ∧ M.2.2.1 x 11 = 0 ∧ M.2.2.1 x 12 = 0 ∧ M.2.2.1 x 13 = -1 ∧ M.2.2.1 x 14 = 0 := by
  obtain ⟨f, r, rt, rh, rl, t, l, h, tp, la, hb, hc, hd, ob, hf, -⟩ := h
  rw [ob.2.2.1]
  exact hf
set_option maxRecDepth 100000 in
set_option maxHeartbeats 4000000 in
theorem s_X11_isWithin {G : zG} {M : zM} {x lo hi : Int32} : zC G yX11_isWithin cX11_isWithin 3 (some .boolean) rm_X11_isWithin M [.int x, .int lo, .int hi] (fun M' v => M' = M ∧ v = some (.int (zw01 x lo hi))) := by
  refine z_intro (by decide +kernel) (Nat.le_of_ble_eq_true rfl) (fun X O hR hq => ?_)
  refine b_X11_isWithin_0 (n := 0) (k := 0) O hR ?_
  rw [hq]
  unfold zw01
  exact ⟨fun c => ⟨rfl, by rw [if_pos c]⟩, fun c => ⟨fun d => ⟨rfl, by rw [if_neg c, if_pos d]⟩, fun d => ⟨rfl, by rw [if_neg c, if_neg d]⟩⟩⟩
set_option maxRecDepth 100000 in
set_option maxHeartbeats 4000000 in
theorem s_X15_in {G : zG} {M : zM} {x lo hi : Int32} : zC G yX15_in cX15_in 3 (some .boolean) rm_X15_in M [.int x, .int lo, .int hi] (fun M' v => M' = M ∧ v = some (.int (zw01 x lo hi))) := by
  refine z_intro (by decide +kernel) (Nat.le_of_ble_eq_true rfl) (fun X O hR hq => ?_)
  refine b_X15_in_0 (n := 0) (k := 0) O hR ?_
  rw [hq]
  unfold zw01
  exact ⟨fun c => ⟨rfl, by rw [if_pos c]⟩, fun c => ⟨fun d => ⟨rfl, by rw [if_neg c, if_pos d]⟩, fun d => ⟨rfl, by rw [if_neg c, if_neg d]⟩⟩⟩
set_option maxRecDepth 100000 in
set_option maxHeartbeats 4000000 in
theorem s_X11_lineAt {G : zG} {M : zM} {x : Nat} {i : Int32} (hF : FX M x) : zC G yX11_lineAt cX11_lineAt 2 (some (.object "HouseWires$Line")) rm_X11_lineAt M [.ref x, .int i] (fun M' v => M' = M ∧ v = some .null) := by
  refine z_intro (by decide +kernel) (Nat.le_of_ble_eq_true rfl) (fun X O hR hq => ?_)
  refine b_X11_lineAt_0 (n := 0) (k := 0) O hR ⟨hF.k, s_X11_isWithin.weak (fun M' v hv => ?_)⟩
  obtain ⟨rfl, rfl⟩ := hv
  rw [hF.i.1, zw01_neg, hq]
  exact ⟨0, rfl, fun _ => ⟨rfl, rfl⟩, fun c => absurd rfl c⟩
set_option maxRecDepth 100000 in
set_option maxHeartbeats 4000000 in
theorem s_X11_deviceAt {G : zG} {M : zM} {x : Nat} {i : Int32} (hF : FX M x) : zC G yX11_deviceAt cX11_deviceAt 2 (some (.object "HouseWires$Device")) rm_X11_deviceAt M [.ref x, .int i] (fun M' v => M' = M ∧ v = some .null) := by
  refine z_intro (by decide +kernel) (Nat.le_of_ble_eq_true rfl) (fun X O hR hq => ?_)
  refine b_X11_deviceAt_0 (n := 0) (k := 0) O hR ⟨hF.k, s_X11_isWithin.weak (fun M' v hv => ?_)⟩
  obtain ⟨rfl, rfl⟩ := hv
  rw [hF.i.2.1, zw01_neg, hq]
  exact ⟨0, rfl, fun _ => ⟨rfl, rfl⟩, fun c => absurd rfl c⟩
set_option maxRecDepth 100000 in
set_option maxHeartbeats 4000000 in
theorem s_X11_filterAt {G : zG} {M : zM} {x : Nat} {i : Int32} (hF : FX M x) : zC G yX11_filterAt cX11_filterAt 2 (some (.object "HouseWires$Filter")) rm_X11_filterAt M [.ref x, .int i] (fun M' v => M' = M ∧ v = some .null) := by
  refine z_intro (by decide +kernel) (Nat.le_of_ble_eq_true rfl) (fun X O hR hq => ?_)
  refine b_X11_filterAt_0 (n := 0) (k := 0) O hR ⟨hF.k, s_X11_isWithin.weak (fun M' v hv => ?_)⟩
  obtain ⟨rfl, rfl⟩ := hv
  rw [hF.i.2.2.1, zw01_neg, hq]
  exact ⟨0, rfl, fun _ => ⟨rfl, rfl⟩, fun c => absurd rfl c⟩
set_option maxRecDepth 100000 in
set_option maxHeartbeats 4000000 in
theorem s_X11_objectAt {G : zG} {M : zM} {x : Nat} {p0 p1 : Int32} (hF : FX M x) : zC G yX11_objectAt cX11_objectAt 4 (some (.object "HouseWires$GroupObject")) rm_X11_objectAt M [.ref x, .int p0, .int p1] (fun M' v => M' = M ∧ v = some .null) := by
  refine z_intro (by decide +kernel) (Nat.le_of_ble_eq_true rfl) (fun X O hR hq => ?_)
  refine b_X11_objectAt_0 (n := 0) (k := 0) O hR ⟨hF.k, (s_X11_deviceAt hF).weak (fun M' v hv => ?_)⟩
  obtain ⟨rfl, rfl⟩ := hv
  rw [hq]
  exact Or.inl ⟨rfl, rfl, rfl⟩
set_option maxRecDepth 100000 in
set_option maxHeartbeats 4000000 in
theorem s_X11_device {G : zG} {M : zM} {x : Nat} {p0 p1 : Int32} (hF : FX M x) : zC G yX11_device cX11_device 8 (some .int) rm_X11_device M [.ref x, .int p0, .int p1] (fun _ v => v = some (.int (-1))) := by
  refine z_intro (by decide +kernel) (Nat.le_of_ble_eq_true rfl) (fun X O hR hq => ?_)
  refine b_X11_device_0 (n := 0) (k := 0) O hR ⟨hF.k, (s_X11_lineAt hF).weak (fun M' v hv => ?_)⟩
  obtain ⟨rfl, rfl⟩ := hv
  rw [hq]
  first | exact Or.inl ⟨rfl, rfl⟩ | exact Or.inl ⟨rfl, hF.k, fun _ => rfl, fun _ => rfl⟩
set_option maxRecDepth 100000 in
set_option maxHeartbeats 4000000 in
theorem s_X11_mode {G : zG} {M : zM} {x : Nat} {p0 p1 : Int32} (hF : FX M x) : zC G yX11_mode cX11_mode 4 (some .boolean) rm_X11_mode M [.ref x, .int p0, .int p1] (fun _ v => v = some (.int 0)) := by
  refine z_intro (by decide +kernel) (Nat.le_of_ble_eq_true rfl) (fun X O hR hq => ?_)
  refine b_X11_mode_0 (n := 0) (k := 0) O hR ⟨hF.k, (s_X11_filterAt hF).weak (fun M' v hv => ?_)⟩
  obtain ⟨rfl, rfl⟩ := hv
  rw [hq]
  first | exact Or.inl ⟨rfl, rfl⟩ | exact Or.inl ⟨rfl, hF.k, fun _ => rfl, fun _ => rfl⟩
set_option maxRecDepth 100000 in
set_option maxHeartbeats 4000000 in
theorem s_X11_filter {G : zG} {M : zM} {x : Nat} {p0 p1 p2 : Int32} (hF : FX M x) : zC G yX11_filter cX11_filter 5 (some .boolean) rm_X11_filter M [.ref x, .int p0, .int p1, .int p2] (fun _ v => v = some (.int 0)) := by
  refine z_intro (by decide +kernel) (Nat.le_of_ble_eq_true rfl) (fun X O hR hq => ?_)
  refine b_X11_filter_0 (n := 0) (k := 0) O hR ⟨hF.k, (s_X11_filterAt hF).weak (fun M' v hv => ?_)⟩
  obtain ⟨rfl, rfl⟩ := hv
  rw [hq]
  first | exact Or.inl ⟨rfl, rfl⟩ | exact Or.inl ⟨rfl, hF.k, fun _ => rfl, fun _ => rfl⟩
set_option maxRecDepth 100000 in
set_option maxHeartbeats 4000000 in
theorem s_X11_object {G : zG} {M : zM} {x : Nat} {p0 p1 p2 p3 : Int32} (hF : FX M x) : zC G yX11_object cX11_object 6 (some .int) rm_X11_object M [.ref x, .int p0, .int p1, .int p2, .int p3] (fun _ v => v = some (.int (-1))) := by
  refine z_intro (by decide +kernel) (Nat.le_of_ble_eq_true rfl) (fun X O hR hq => ?_)
  refine b_X11_object_0 (n := 0) (k := 0) O hR ⟨hF.k, (s_X11_deviceAt hF).weak (fun M' v hv => ?_)⟩
  obtain ⟨rfl, rfl⟩ := hv
  rw [hq]
  first | exact Or.inl ⟨rfl, rfl⟩ | exact Or.inl ⟨rfl, hF.k, fun _ => rfl, fun _ => rfl⟩
set_option maxRecDepth 100000 in
set_option maxHeartbeats 4000000 in
theorem s_X11_flags {G : zG} {M : zM} {x : Nat} {p0 p1 p2 : Int32} (hF : FX M x) : zC G yX11_flags cX11_flags 5 (some .boolean) rm_X11_flags M [.ref x, .int p0, .int p1, .int p2] (fun _ v => v = some (.int 0)) := by
  refine z_intro (by decide +kernel) (Nat.le_of_ble_eq_true rfl) (fun X O hR hq => ?_)
  refine b_X11_flags_0 (n := 0) (k := 0) O hR ⟨hF.k, (s_X11_objectAt hF).weak (fun M' v hv => ?_)⟩
  obtain ⟨rfl, rfl⟩ := hv
  rw [hq]
  first | exact Or.inl ⟨rfl, rfl⟩ | exact Or.inl ⟨rfl, hF.k, fun _ => rfl, fun _ => rfl⟩
set_option maxRecDepth 100000 in
set_option maxHeartbeats 4000000 in
theorem s_X11_link {G : zG} {M : zM} {x : Nat} {p0 p1 p2 : Int32} (hF : FX M x) : zC G yX11_link cX11_link 5 (some .boolean) rm_X11_link M [.ref x, .int p0, .int p1, .int p2] (fun _ v => v = some (.int 0)) := by
  refine z_intro (by decide +kernel) (Nat.le_of_ble_eq_true rfl) (fun X O hR hq => ?_)
  refine b_X11_link_0 (n := 0) (k := 0) O hR ⟨hF.k, (s_X11_deviceAt hF).weak (fun M' v hv => ?_)⟩
  obtain ⟨rfl, rfl⟩ := hv
  rw [hq]
  first | exact Or.inl ⟨rfl, rfl⟩ | exact Or.inl ⟨rfl, hF.k, fun _ => rfl, fun _ => rfl⟩
set_option maxRecDepth 100000 in
set_option maxHeartbeats 4000000 in
theorem s_X11_set {G : zG} {M : zM} {x : Nat} {p0 p1 p2 : Int32} (hF : FX M x) : zC G yX11_set cX11_set 5 (some .int) rm_X11_set M [.ref x, .int p0, .int p1, .int p2] (fun _ v => v = some (.int (-1))) := by
  refine z_intro (by decide +kernel) (Nat.le_of_ble_eq_true rfl) (fun X O hR hq => ?_)
  refine b_X11_set_0 (n := 0) (k := 0) O hR ⟨hF.k, (s_X11_deviceAt hF).weak (fun M' v hv => ?_)⟩
  obtain ⟨rfl, rfl⟩ := hv
  rw [hq]
  first | exact Or.inl ⟨rfl, rfl⟩ | exact Or.inl ⟨rfl, hF.k, fun _ => rfl, fun _ => rfl⟩
set_option maxRecDepth 100000 in
set_option maxHeartbeats 4000000 in
theorem s_X11_ask {G : zG} {M : zM} {x : Nat} {p0 p1 : Int32} (hF : FX M x) : zC G yX11_ask cX11_ask 4 (some .int) rm_X11_ask M [.ref x, .int p0, .int p1] (fun _ v => v = some (.int (-1))) := by
  refine z_intro (by decide +kernel) (Nat.le_of_ble_eq_true rfl) (fun X O hR hq => ?_)
  refine b_X11_ask_0 (n := 0) (k := 0) O hR ⟨hF.k, (s_X11_deviceAt hF).weak (fun M' v hv => ?_)⟩
  obtain ⟨rfl, rfl⟩ := hv
  rw [hq]
  first | exact Or.inl ⟨rfl, rfl⟩ | exact Or.inl ⟨rfl, hF.k, fun _ => rfl, fun _ => rfl⟩
set_option maxRecDepth 100000 in
set_option maxHeartbeats 4000000 in
theorem s_X11_value {G : zG} {M : zM} {x : Nat} {p0 p1 : Int32} (hF : FX M x) : zC G yX11_value cX11_value 4 (some .long) rm_X11_value M [.ref x, .int p0, .int p1] (fun _ v => v = some (.long (-1))) := by
  refine z_intro (by decide +kernel) (Nat.le_of_ble_eq_true rfl) (fun X O hR hq => ?_)
  refine b_X11_value_0 (n := 0) (k := 0) O hR ⟨hF.k, (s_X11_objectAt hF).weak (fun M' v hv => ?_)⟩
  obtain ⟨rfl, rfl⟩ := hv
  rw [hq]
  first | exact Or.inl ⟨rfl, rfl⟩ | exact Or.inl ⟨rfl, hF.k, fun _ => rfl, fun _ => rfl⟩
set_option maxRecDepth 100000 in
set_option maxHeartbeats 4000000 in
theorem s_X11_updated {G : zG} {M : zM} {x : Nat} {p0 p1 : Int32} (hF : FX M x) : zC G yX11_updated cX11_updated 4 (some .int) rm_X11_updated M [.ref x, .int p0, .int p1] (fun _ v => v = some (.int (-1))) := by
  refine z_intro (by decide +kernel) (Nat.le_of_ble_eq_true rfl) (fun X O hR hq => ?_)
  refine b_X11_updated_0 (n := 0) (k := 0) O hR ⟨hF.k, (s_X11_objectAt hF).weak (fun M' v hv => ?_)⟩
  obtain ⟨rfl, rfl⟩ := hv
  rw [hq]
  first | exact Or.inl ⟨rfl, rfl⟩ | exact Or.inl ⟨rfl, hF.k, fun _ => rfl, fun _ => rfl⟩
set_option maxRecDepth 100000 in
set_option maxHeartbeats 4000000 in
theorem s_X11_hundredths {G : zG} {M : zM} {x : Nat} {p0 p1 : Int32} (hF : FX M x) : zC G yX11_hundredths cX11_hundredths 8 (some .long) rm_X11_hundredths M [.ref x, .int p0, .int p1] (fun _ v => v = some (.long (-9223372036854775808))) := by
  refine z_intro (by decide +kernel) (Nat.le_of_ble_eq_true rfl) (fun X O hR hq => ?_)
  refine b_X11_hundredths_0 (n := 0) (k := 0) O hR ⟨hF.k, (s_X11_objectAt hF).weak (fun M' v hv => ?_)⟩
  obtain ⟨rfl, rfl⟩ := hv
  rw [hq]
  first | exact Or.inl ⟨rfl, rfl⟩ | exact Or.inl ⟨rfl, hF.k, fun _ => rfl, fun _ => rfl⟩
set_option maxRecDepth 100000 in
set_option maxHeartbeats 4000000 in
theorem s_X11_point {G : zG} {M : zM} {x : Nat} {p0 p1 p2 : Int32} (hF : FX M x) : zC G yX11_point cX11_point 6 (some .int) rm_X11_point M [.ref x, .int p0, .int p1, .int p2] (fun _ v => v = some (.int (-1))) := by
  refine z_intro (by decide +kernel) (Nat.le_of_ble_eq_true rfl) (fun X O hR hq => ?_)
  refine b_X11_point_0 (n := 0) (k := 0) O hR ⟨hF.k, (s_X11_objectAt hF).weak (fun M' v hv => ?_)⟩
  obtain ⟨rfl, rfl⟩ := hv
  rw [hq]
  first | exact Or.inl ⟨rfl, rfl⟩ | exact Or.inl ⟨rfl, hF.k, fun _ => rfl, fun _ => rfl⟩
set_option maxRecDepth 100000 in
set_option maxHeartbeats 4000000 in
theorem s_X11_connect {G : zG} {M : zM} {x : Nat} {p0 p1 : Int32} (hF : FX M x) : zC G yX11_connect cX11_connect 4 (some .boolean) rm_X11_connect M [.ref x, .int p0, .int p1] (fun _ v => v = some (.int 0)) := by
  refine z_intro (by decide +kernel) (Nat.le_of_ble_eq_true rfl) (fun X O hR hq => ?_)
  refine b_X11_connect_0 (n := 0) (k := 0) O hR ⟨hF.k, (s_X11_deviceAt hF).weak (fun M' v hv => ?_)⟩
  obtain ⟨rfl, rfl⟩ := hv
  rw [hq]
  first | exact Or.inl ⟨rfl, rfl⟩ | exact Or.inl ⟨rfl, hF.k, fun _ => rfl, fun _ => rfl⟩
set_option maxRecDepth 100000 in
set_option maxHeartbeats 4000000 in
theorem s_X11_disconnect {G : zG} {M : zM} {x : Nat} {p0 : Int32} (hF : FX M x) : zC G yX11_disconnect cX11_disconnect 3 (some .boolean) rm_X11_disconnect M [.ref x, .int p0] (fun _ v => v = some (.int 0)) := by
  refine z_intro (by decide +kernel) (Nat.le_of_ble_eq_true rfl) (fun X O hR hq => ?_)
  refine b_X11_disconnect_0 (n := 0) (k := 0) O hR ⟨hF.k, (s_X11_deviceAt hF).weak (fun M' v hv => ?_)⟩
  obtain ⟨rfl, rfl⟩ := hv
  rw [hq]
  first | exact Or.inl ⟨rfl, rfl⟩ | exact Or.inl ⟨rfl, hF.k, fun _ => rfl, fun _ => rfl⟩
set_option maxRecDepth 100000 in
set_option maxHeartbeats 4000000 in
theorem s_X11_peek {G : zG} {M : zM} {x : Nat} {p0 p1 p2 : Int32} (hF : FX M x) : zC G yX11_peek cX11_peek 5 (some .boolean) rm_X11_peek M [.ref x, .int p0, .int p1, .int p2] (fun _ v => v = some (.int 0)) := by
  refine z_intro (by decide +kernel) (Nat.le_of_ble_eq_true rfl) (fun X O hR hq => ?_)
  refine b_X11_peek_0 (n := 0) (k := 0) O hR ⟨hF.k, (s_X11_deviceAt hF).weak (fun M' v hv => ?_)⟩
  obtain ⟨rfl, rfl⟩ := hv
  rw [hq]
  first | exact Or.inl ⟨rfl, rfl⟩ | exact Or.inl ⟨rfl, hF.k, fun _ => rfl, fun _ => rfl⟩
set_option maxRecDepth 100000 in
set_option maxHeartbeats 4000000 in
theorem s_X11_poke {G : zG} {M : zM} {x : Nat} {p0 p1 p2 p3 : Int32} (hF : FX M x) : zC G yX11_poke cX11_poke 6 (some .boolean) rm_X11_poke M [.ref x, .int p0, .int p1, .int p2, .int p3] (fun _ v => v = some (.int 0)) := by
  refine z_intro (by decide +kernel) (Nat.le_of_ble_eq_true rfl) (fun X O hR hq => ?_)
  refine b_X11_poke_0 (n := 0) (k := 0) O hR ⟨hF.k, (s_X11_deviceAt hF).weak (fun M' v hv => ?_)⟩
  obtain ⟨rfl, rfl⟩ := hv
  rw [hq]
  first | exact Or.inl ⟨rfl, rfl⟩ | exact Or.inl ⟨rfl, hF.k, fun _ => rfl, fun _ => rfl⟩
set_option maxRecDepth 100000 in
set_option maxHeartbeats 4000000 in
theorem s_X11_memory {G : zG} {M : zM} {x : Nat} {p0 p1 : Int32} (hF : FX M x) : zC G yX11_memory cX11_memory 4 (some .int) rm_X11_memory M [.ref x, .int p0, .int p1] (fun _ v => v = some (.int (-1))) := by
  refine z_intro (by decide +kernel) (Nat.le_of_ble_eq_true rfl) (fun X O hR hq => ?_)
  refine b_X11_memory_0 (n := 0) (k := 0) O hR ⟨hF.k, (s_X11_deviceAt hF).weak (fun M' v hv => ?_)⟩
  obtain ⟨rfl, rfl⟩ := hv
  rw [hq]
  first | exact Or.inl ⟨rfl, rfl⟩ | exact Or.inl ⟨rfl, hF.k, fun _ => rfl, fun _ => rfl⟩
set_option maxRecDepth 100000 in
set_option maxHeartbeats 4000000 in
theorem s_X11_store {G : zG} {M : zM} {x : Nat} {p0 p1 p2 : Int32} (hF : FX M x) : zC G yX11_store cX11_store 5 (some .boolean) rm_X11_store M [.ref x, .int p0, .int p1, .int p2] (fun _ v => v = some (.int 0)) := by
  refine z_intro (by decide +kernel) (Nat.le_of_ble_eq_true rfl) (fun X O hR hq => ?_)
  refine b_X11_store_0 (n := 0) (k := 0) O hR ⟨hF.k, (s_X11_deviceAt hF).weak (fun M' v hv => ?_)⟩
  obtain ⟨rfl, rfl⟩ := hv
  rw [hq]
  first | exact Or.inl ⟨rfl, rfl⟩ | exact Or.inl ⟨rfl, hF.k, fun _ => rfl, fun _ => rfl⟩
set_option maxRecDepth 100000 in
set_option maxHeartbeats 4000000 in
theorem s_X11_reply {G : zG} {M : zM} {x : Nat} {p0 p1 : Int32} (hF : FX M x) : zC G yX11_reply cX11_reply 5 (some .int) rm_X11_reply M [.ref x, .int p0, .int p1] (fun _ v => v = some (.int (-1))) := by
  refine z_intro (by decide +kernel) (Nat.le_of_ble_eq_true rfl) (fun X O hR hq => ?_)
  refine b_X11_reply_0 (n := 0) (k := 0) O hR ⟨hF.k, (s_X11_deviceAt hF).weak (fun M' v hv => ?_)⟩
  obtain ⟨rfl, rfl⟩ := hv
  rw [hq]
  first | exact Or.inl ⟨rfl, rfl⟩ | exact Or.inl ⟨rfl, hF.k, fun _ => rfl, fun _ => rfl⟩
set_option maxRecDepth 100000 in
set_option maxHeartbeats 4000000 in
theorem s_X11_connection {G : zG} {M : zM} {x : Nat} {p0 p1 : Int32} (hF : FX M x) : zC G yX11_connection cX11_connection 4 (some .int) rm_X11_connection M [.ref x, .int p0, .int p1] (fun _ v => v = some (.int (-1))) := by
  refine z_intro (by decide +kernel) (Nat.le_of_ble_eq_true rfl) (fun X O hR hq => ?_)
  refine b_X11_connection_0 (n := 0) (k := 0) O hR ⟨hF.k, (s_X11_deviceAt hF).weak (fun M' v hv => ?_)⟩
  obtain ⟨rfl, rfl⟩ := hv
  rw [hq]
  first | exact Or.inl ⟨rfl, rfl⟩ | exact Or.inl ⟨rfl, hF.k, fun _ => rfl, fun _ => rfl⟩
set_option maxRecDepth 100000 in
set_option maxHeartbeats 4000000 in
theorem s_X11_busy {G : zG} {M : zM} {x : Nat} {p0 p1 : Int32} (hF : FX M x) : zC G yX11_busy cX11_busy 4 (some .boolean) rm_X11_busy M [.ref x, .int p0, .int p1] (fun _ v => v = some (.int 0)) := by
  refine z_intro (by decide +kernel) (Nat.le_of_ble_eq_true rfl) (fun X O hR hq => ?_)
  refine b_X11_busy_0 (n := 0) (k := 0) O hR ⟨hF.k, (s_X11_deviceAt hF).weak (fun M' v hv => ?_)⟩
  obtain ⟨rfl, rfl⟩ := hv
  rw [hq]
  first | exact Or.inl ⟨rfl, rfl⟩ | exact Or.inl ⟨rfl, hF.k, fun _ => rfl, fun _ => rfl⟩
set_option maxRecDepth 100000 in
set_option maxHeartbeats 4000000 in
theorem s_X11_raw {G : zG} {M : zM} {x : Nat} {p0 : Int32} (hF : FX M x) : zC G yX11_raw cX11_raw 4 (some .int) rm_X11_raw M [.ref x, .int p0] (fun _ v => v = some (.int (-1))) := by
  refine z_intro (by decide +kernel) (Nat.le_of_ble_eq_true rfl) (fun X O hR hq => ?_)
  refine b_X11_raw_0 (n := 0) (k := 0) O hR ⟨hF.k, (s_X11_lineAt hF).weak (fun M' v hv => ?_)⟩
  obtain ⟨rfl, rfl⟩ := hv
  rw [hq]
  first | exact Or.inl ⟨rfl, rfl⟩ | exact Or.inl ⟨rfl, hF.k, fun _ => rfl, fun _ => rfl⟩
set_option maxRecDepth 100000 in
set_option maxHeartbeats 4000000 in
theorem s_X11_coupler {G : zG} {M : zM} {x : Nat} {p0 p1 : Int32} (hF : FX M x) : zC G yX11_coupler cX11_coupler 10 (some .int) rm_X11_coupler M [.ref x, .int p0, .int p1] (fun _ v => v = some (.int (-1))) := by
  refine z_intro (by decide +kernel) (Nat.le_of_ble_eq_true rfl) (fun X O hR hq => ?_)
  refine b_X11_coupler_0 (n := 0) (k := 0) O hR ⟨hF.k, (s_X11_lineAt hF).weak (fun M' v hv => ?_)⟩
  obtain ⟨rfl, rfl⟩ := hv
  refine Or.inl ⟨rfl, hF.k, (s_X11_lineAt hF).weak (fun M' v hv => ?_)⟩
  obtain ⟨rfl, rfl⟩ := hv
  rw [hq]
  exact Or.inl ⟨rfl, hF.k, fun _ => rfl, fun _ => rfl⟩
def zEnd (p : Int32) : Int32 := if p < 0 then -1 else if p ≤ 0 then p else -1
set_option maxRecDepth 100000 in
set_option maxHeartbeats 4000000 in
theorem s_X11_end {G : zG} {M : zM} {x : Nat} {p0 : Int32} (hF : FX M x) : zC G yX11_end cX11_end 2 (some .int) rm_X11_end M [.ref x, .int p0] (fun _ v => v = some (.int (zEnd p0))) := by
  refine z_intro (by decide +kernel) (Nat.le_of_ble_eq_true rfl) (fun X O hR hq => ?_)
  refine b_X11_end_0 (n := 0) (k := 0) O hR ?_
  rw [hq, hF.i.2.2.2.1]
  unfold zEnd
  exact ⟨fun c => by rw [if_pos c], fun c => ⟨hF.k, fun d => ⟨hF.k, fun M1 e1 => by rw [if_neg c, if_pos d]⟩, fun d => by rw [if_neg c, if_neg d]⟩⟩
