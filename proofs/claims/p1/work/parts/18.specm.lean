theorem FM.k {M : zM} {x : Nat} (h : FM M x) : M.1 x = 15 := by
  obtain ⟨r, ln, h1, h2, h3, tp, ob, -⟩ := h
  exact ob.1
theorem FM.i {M : zM} {x : Nat} (h : FM M x) (j : Nat) (hj : j ≠ 20) : M.2.2.1 x j = 0 := by
  obtain ⟨r, ln, h1, h2, h3, tp, ob, -⟩ := h
  rw [ob.2.2.1]
  simp [upd, hj]
theorem FM.i20 {M : zM} {x : Nat} (h : FM M x) : M.2.2.1 x 20 = -1 := by
  obtain ⟨r, ln, h1, h2, h3, tp, ob, -⟩ := h
  rw [ob.2.2.1]
  simp [upd]
theorem FM.thr {M M1 : zM} {x : Nat} (h : FM M x) (e : M1 = zi M x 0 0) : FM M1 x := by
  obtain ⟨r, ln, h1, h2, h3, tp, ob, hr, k1, k2, k3, k4, k5⟩ := h
  have l := zle.mki (E := fun z => z = x) e rfl
  have ob1 := ob.mki e
  have ef : upd (upd (fun _ => 0) 20 (-1)) 0 0 = upd (fun _ => 0) 20 (-1 : Int32) := by
    funext j
    by_cases h0 : j = 0
    · subst h0
      simp [upd]
    · simp [upd, h0]
  rw [ef] at ob1
  exact ⟨r, ln, h1, h2, h3, tp, ob1, hr, k1.le l, k2.le l, k3.le l, k4.le l, k5.le l⟩
set_option maxRecDepth 100000 in
set_option maxHeartbeats 4000000 in
theorem s_X15_isLine {G : zG} {M : zM} {x : Nat} {i : Int32} (hF : FM M x) : zC G yX15_isLine cX15_isLine 2 (some .boolean) rm_X15_isLine M [.ref x, .int i] (fun M' v => M' = M ∧ v = some (.int 0)) := by
  refine z_intro (by decide +kernel) (Nat.le_of_ble_eq_true rfl) (fun X O hR hq => ?_)
  refine b_X15_isLine_0 (n := 0) (k := 0) O hR ⟨hF.k, s_X15_in.weak (fun M' v hv => ?_)⟩
  obtain ⟨rfl, rfl⟩ := hv
  rw [hF.i 4 (by decide), zw01_neg, hq]
  exact ⟨0, rfl, Or.inl rfl, rfl, rfl⟩
set_option maxRecDepth 100000 in
set_option maxHeartbeats 4000000 in
theorem s_X15_isDevice {G : zG} {M : zM} {x : Nat} {i : Int32} (hF : FM M x) : zC G yX15_isDevice cX15_isDevice 2 (some .boolean) rm_X15_isDevice M [.ref x, .int i] (fun M' v => M' = M ∧ v = some (.int 0)) := by
  refine z_intro (by decide +kernel) (Nat.le_of_ble_eq_true rfl) (fun X O hR hq => ?_)
  refine b_X15_isDevice_0 (n := 0) (k := 0) O hR ⟨hF.k, s_X15_in.weak (fun M' v hv => ?_)⟩
  obtain ⟨rfl, rfl⟩ := hv
  rw [hF.i 7 (by decide), zw01_neg, hq]
  exact ⟨0, rfl, Or.inl rfl, rfl, rfl⟩
set_option maxRecDepth 100000 in
set_option maxHeartbeats 4000000 in
theorem s_X15_isCoupler {G : zG} {M : zM} {x : Nat} {i : Int32} (hF : FM M x) : zC G yX15_isCoupler cX15_isCoupler 2 (some .boolean) rm_X15_isCoupler M [.ref x, .int i] (fun M' v => M' = M ∧ v = some (.int 0)) := by
  refine z_intro (by decide +kernel) (Nat.le_of_ble_eq_true rfl) (fun X O hR hq => ?_)
  refine b_X15_isCoupler_0 (n := 0) (k := 0) O hR ⟨hF.k, s_X15_in.weak (fun M' v hv => ?_)⟩
  obtain ⟨rfl, rfl⟩ := hv
  rw [hF.i 9 (by decide), zw01_neg, hq]
  exact ⟨0, rfl, Or.inl rfl, rfl, rfl⟩
set_option maxRecDepth 100000 in
set_option maxHeartbeats 4000000 in
theorem s_X15_isObject {G : zG} {M : zM} {x : Nat} {i j : Int32} (hF : FM M x) : zC G yX15_isObject cX15_isObject 3 (some .boolean) rm_X15_isObject M [.ref x, .int i, .int j] (fun M' v => M' = M ∧ v = some (.int 0)) := by
  refine z_intro (by decide +kernel) (Nat.le_of_ble_eq_true rfl) (fun X O hR hq => ?_)
  refine b_X15_isObject_0 (n := 0) (k := 0) O hR ⟨hF.k, (s_X15_isDevice hF).weak (fun M' v hv => ?_)⟩
  obtain ⟨rfl, rfl⟩ := hv
  rw [hq]
  exact ⟨0, rfl, fun _ => ⟨rfl, rfl⟩, fun c => absurd rfl c⟩
set_option maxRecDepth 100000 in
set_option maxHeartbeats 4000000 in
theorem s_X15_mayOrder {G : zG} {M : zM} {x : Nat} {i j l m : Int32} (hF : FM M x) : zC G yX15_mayOrder cX15_mayOrder 5 (some .boolean) rm_X15_mayOrder M [.ref x, .int i, .int j, .int l, .int m] (fun M' v => M' = M ∧ v = some (.int 0)) := by
  refine z_intro (by decide +kernel) (Nat.le_of_ble_eq_true rfl) (fun X O hR hq => ?_)
  refine b_X15_mayOrder_0 (n := 0) (k := 0) O hR ⟨hF.k, (s_X15_isDevice hF).weak (fun M' v hv => ?_)⟩
  obtain ⟨rfl, rfl⟩ := hv
  rw [hq]
  exact ⟨0, rfl, fun _ => ⟨rfl, rfl⟩, fun c => absurd rfl c⟩
set_option maxRecDepth 100000 in
set_option maxHeartbeats 4000000 in
theorem s_X15_mode {G : zG} {M : zM} {x : Nat} {p0 p1 : Int32} (hF : FM M x) : zC G yX15_mode cX15_mode 3 (some .boolean) rm_X15_mode M [.ref x, .int p0, .int p1] (fun _ v => v = some (.int 0)) := by
  refine z_intro (by decide +kernel) (Nat.le_of_ble_eq_true rfl) (fun X O hR hq => ?_)
  refine b_X15_mode_0 (n := 0) (k := 0) O hR ⟨hF.k, fun M1 e1 => ?_⟩
  have h1 := hF.thr e1
  refine ⟨h1.k, (s_X15_isCoupler h1).weak (fun M' v hv => ?_)⟩
  obtain ⟨rfl, rfl⟩ := hv
  refine ⟨0, rfl, ?_, ?_⟩ <;> first | exact fun c => absurd rfl c | exact fun _ => (by rw [hq])
set_option maxRecDepth 100000 in
set_option maxHeartbeats 4000000 in
theorem s_X15_filter {G : zG} {M : zM} {x : Nat} {p0 p1 p2 : Int32} (hF : FM M x) : zC G yX15_filter cX15_filter 6 (some .boolean) rm_X15_filter M [.ref x, .int p0, .int p1, .int p2] (fun _ v => v = some (.int 0)) := by
  refine z_intro (by decide +kernel) (Nat.le_of_ble_eq_true rfl) (fun X O hR hq => ?_)
  refine b_X15_filter_0 (n := 0) (k := 0) O hR ⟨hF.k, fun M1 e1 => ?_⟩
  have h1 := hF.thr e1
  refine ⟨h1.k, (s_X15_isCoupler h1).weak (fun M' v hv => ?_)⟩
  obtain ⟨rfl, rfl⟩ := hv
  refine ⟨0, rfl, ?_, ?_⟩ <;> first | exact fun c => absurd rfl c | exact fun _ => (by rw [hq])
set_option maxRecDepth 100000 in
set_option maxHeartbeats 4000000 in
theorem s_X15_object {G : zG} {M : zM} {x : Nat} {p0 p1 p2 p3 : Int32} (hF : FM M x) : zC G yX15_object cX15_object 6 (some .int) rm_X15_object M [.ref x, .int p0, .int p1, .int p2, .int p3] (fun _ v => v = some (.int (-1))) := by
  refine z_intro (by decide +kernel) (Nat.le_of_ble_eq_true rfl) (fun X O hR hq => ?_)
  refine b_X15_object_0 (n := 0) (k := 0) O hR ⟨hF.k, fun M1 e1 => ?_⟩
  have h1 := hF.thr e1
  refine ⟨h1.k, (s_X15_isDevice h1).weak (fun M' v hv => ?_)⟩
  obtain ⟨rfl, rfl⟩ := hv
  refine ⟨0, rfl, ?_, ?_⟩ <;> first | exact fun c => absurd rfl c | exact fun _ => (by rw [hq])
set_option maxRecDepth 100000 in
set_option maxHeartbeats 4000000 in
theorem s_X15_flags {G : zG} {M : zM} {x : Nat} {p0 p1 p2 : Int32} (hF : FM M x) : zC G yX15_flags cX15_flags 4 (some .boolean) rm_X15_flags M [.ref x, .int p0, .int p1, .int p2] (fun _ v => v = some (.int 0)) := by
  refine z_intro (by decide +kernel) (Nat.le_of_ble_eq_true rfl) (fun X O hR hq => ?_)
  refine b_X15_flags_0 (n := 0) (k := 0) O hR ⟨hF.k, fun M1 e1 => ?_⟩
  have h1 := hF.thr e1
  refine ⟨h1.k, (s_X15_isObject h1).weak (fun M' v hv => ?_)⟩
  obtain ⟨rfl, rfl⟩ := hv
  refine ⟨0, rfl, ?_, ?_⟩ <;> first | exact fun c => absurd rfl c | exact fun _ => (by rw [hq])
set_option maxRecDepth 100000 in
set_option maxHeartbeats 4000000 in
theorem s_X15_link {G : zG} {M : zM} {x : Nat} {p0 p1 p2 : Int32} (hF : FM M x) : zC G yX15_link cX15_link 6 (some .boolean) rm_X15_link M [.ref x, .int p0, .int p1, .int p2] (fun _ v => v = some (.int 0)) := by
  refine z_intro (by decide +kernel) (Nat.le_of_ble_eq_true rfl) (fun X O hR hq => ?_)
  refine b_X15_link_0 (n := 0) (k := 0) O hR ⟨hF.k, fun M1 e1 => ?_⟩
  have h1 := hF.thr e1
  refine ⟨h1.k, (s_X15_isObject h1).weak (fun M' v hv => ?_)⟩
  obtain ⟨rfl, rfl⟩ := hv
  refine ⟨0, rfl, ?_, ?_⟩ <;> first | exact fun c => absurd rfl c | exact fun _ => (by rw [hq])
set_option maxRecDepth 100000 in
set_option maxHeartbeats 4000000 in
theorem s_X15_set {G : zG} {M : zM} {x : Nat} {p0 p1 p2 : Int32} (hF : FM M x) : zC G yX15_set cX15_set 4 (some .int) rm_X15_set M [.ref x, .int p0, .int p1, .int p2] (fun _ v => v = some (.int (-1))) := by
  refine z_intro (by decide +kernel) (Nat.le_of_ble_eq_true rfl) (fun X O hR hq => ?_)
  refine b_X15_set_0 (n := 0) (k := 0) O hR ⟨hF.k, fun M1 e1 => ?_⟩
  have h1 := hF.thr e1
  refine ⟨h1.k, (s_X15_isObject h1).weak (fun M' v hv => ?_)⟩
  obtain ⟨rfl, rfl⟩ := hv
  refine ⟨0, rfl, ?_, ?_⟩ <;> first | exact fun c => absurd rfl c | exact fun _ => (by rw [hq])
set_option maxRecDepth 100000 in
set_option maxHeartbeats 4000000 in
theorem s_X15_ask {G : zG} {M : zM} {x : Nat} {p0 p1 : Int32} (hF : FM M x) : zC G yX15_ask cX15_ask 6 (some .int) rm_X15_ask M [.ref x, .int p0, .int p1] (fun _ v => v = some (.int (-1))) := by
  refine z_intro (by decide +kernel) (Nat.le_of_ble_eq_true rfl) (fun X O hR hq => ?_)
  refine b_X15_ask_0 (n := 0) (k := 0) O hR ⟨hF.k, fun M1 e1 => ?_⟩
  have h1 := hF.thr e1
  refine ⟨h1.k, (s_X15_isObject h1).weak (fun M' v hv => ?_)⟩
  obtain ⟨rfl, rfl⟩ := hv
  refine ⟨0, rfl, ?_, ?_⟩ <;> first | exact fun c => absurd rfl c | exact fun _ => (by rw [hq])
set_option maxRecDepth 100000 in
set_option maxHeartbeats 4000000 in
theorem s_X15_value {G : zG} {M : zM} {x : Nat} {p0 p1 : Int32} (hF : FM M x) : zC G yX15_value cX15_value 3 (some .long) rm_X15_value M [.ref x, .int p0, .int p1] (fun _ v => v = some (.long (-1))) := by
  refine z_intro (by decide +kernel) (Nat.le_of_ble_eq_true rfl) (fun X O hR hq => ?_)
  refine b_X15_value_0 (n := 0) (k := 0) O hR ⟨hF.k, fun M1 e1 => ?_⟩
  have h1 := hF.thr e1
  refine ⟨h1.k, (s_X15_isObject h1).weak (fun M' v hv => ?_)⟩
  obtain ⟨rfl, rfl⟩ := hv
  refine ⟨0, rfl, ?_, ?_⟩ <;> first | exact fun c => absurd rfl c | exact fun _ => (by rw [hq])
set_option maxRecDepth 100000 in
set_option maxHeartbeats 4000000 in
theorem s_X15_updated {G : zG} {M : zM} {x : Nat} {p0 p1 : Int32} (hF : FM M x) : zC G yX15_updated cX15_updated 3 (some .int) rm_X15_updated M [.ref x, .int p0, .int p1] (fun _ v => v = some (.int (-1))) := by
  refine z_intro (by decide +kernel) (Nat.le_of_ble_eq_true rfl) (fun X O hR hq => ?_)
  refine b_X15_updated_0 (n := 0) (k := 0) O hR ⟨hF.k, fun M1 e1 => ?_⟩
  have h1 := hF.thr e1
  refine ⟨h1.k, (s_X15_isObject h1).weak (fun M' v hv => ?_)⟩
  obtain ⟨rfl, rfl⟩ := hv
  refine ⟨0, rfl, ?_, ?_⟩ <;> first | exact fun c => absurd rfl c | exact fun _ => (by rw [hq])
set_option maxRecDepth 100000 in
set_option maxHeartbeats 4000000 in
theorem s_X15_hundredths {G : zG} {M : zM} {x : Nat} {p0 p1 : Int32} (hF : FM M x) : zC G yX15_hundredths cX15_hundredths 5 (some .long) rm_X15_hundredths M [.ref x, .int p0, .int p1] (fun _ v => v = some (.long (-9223372036854775808))) := by
  refine z_intro (by decide +kernel) (Nat.le_of_ble_eq_true rfl) (fun X O hR hq => ?_)
  refine b_X15_hundredths_0 (n := 0) (k := 0) O hR ⟨hF.k, fun M1 e1 => ?_⟩
  have h1 := hF.thr e1
  refine ⟨h1.k, (s_X15_isObject h1).weak (fun M' v hv => ?_)⟩
  obtain ⟨rfl, rfl⟩ := hv
  refine ⟨0, rfl, ?_, ?_⟩ <;> first | exact fun c => absurd rfl c | exact fun _ => (by rw [hq])
set_option maxRecDepth 100000 in
set_option maxHeartbeats 4000000 in
theorem s_X15_point {G : zG} {M : zM} {x : Nat} {p0 p1 p2 : Int32} (hF : FM M x) : zC G yX15_point cX15_point 6 (some .int) rm_X15_point M [.ref x, .int p0, .int p1, .int p2] (fun _ v => v = some (.int (-1))) := by
  refine z_intro (by decide +kernel) (Nat.le_of_ble_eq_true rfl) (fun X O hR hq => ?_)
  refine b_X15_point_0 (n := 0) (k := 0) O hR ⟨hF.k, fun M1 e1 => ?_⟩
  have h1 := hF.thr e1
  refine ⟨h1.k, (s_X15_isObject h1).weak (fun M' v hv => ?_)⟩
  obtain ⟨rfl, rfl⟩ := hv
  refine ⟨0, rfl, ?_, ?_⟩ <;> first | exact fun c => absurd rfl c | exact fun _ => (by rw [hq])
set_option maxRecDepth 100000 in
set_option maxHeartbeats 4000000 in
theorem s_X15_connect {G : zG} {M : zM} {x : Nat} {p0 p1 : Int32} (hF : FM M x) : zC G yX15_connect cX15_connect 4 (some .boolean) rm_X15_connect M [.ref x, .int p0, .int p1] (fun _ v => v = some (.int 0)) := by
  refine z_intro (by decide +kernel) (Nat.le_of_ble_eq_true rfl) (fun X O hR hq => ?_)
  refine b_X15_connect_0 (n := 0) (k := 0) O hR ⟨hF.k, fun M1 e1 => ?_⟩
  have h1 := hF.thr e1
  refine ⟨h1.k, (s_X15_isDevice h1).weak (fun M' v hv => ?_)⟩
  obtain ⟨rfl, rfl⟩ := hv
  refine ⟨0, rfl, ?_, ?_⟩ <;> first | exact fun c => absurd rfl c | exact fun _ => (by rw [hq])
set_option maxRecDepth 100000 in
set_option maxHeartbeats 4000000 in
theorem s_X15_disconnect {G : zG} {M : zM} {x : Nat} {p0 : Int32} (hF : FM M x) : zC G yX15_disconnect cX15_disconnect 2 (some .boolean) rm_X15_disconnect M [.ref x, .int p0] (fun _ v => v = some (.int 0)) := by
  refine z_intro (by decide +kernel) (Nat.le_of_ble_eq_true rfl) (fun X O hR hq => ?_)
  refine b_X15_disconnect_0 (n := 0) (k := 0) O hR ⟨hF.k, fun M1 e1 => ?_⟩
  have h1 := hF.thr e1
  refine ⟨h1.k, (s_X15_isDevice h1).weak (fun M' v hv => ?_)⟩
  obtain ⟨rfl, rfl⟩ := hv
  refine ⟨0, rfl, ?_, ?_⟩ <;> first | exact fun c => absurd rfl c | exact fun _ => (by rw [hq])
set_option maxRecDepth 100000 in
set_option maxHeartbeats 4000000 in
theorem s_X15_peek {G : zG} {M : zM} {x : Nat} {p0 p1 p2 : Int32} (hF : FM M x) : zC G yX15_peek cX15_peek 4 (some .boolean) rm_X15_peek M [.ref x, .int p0, .int p1, .int p2] (fun _ v => v = some (.int 0)) := by
  refine z_intro (by decide +kernel) (Nat.le_of_ble_eq_true rfl) (fun X O hR hq => ?_)
  refine b_X15_peek_0 (n := 0) (k := 0) O hR ⟨hF.k, fun M1 e1 => ?_⟩
  have h1 := hF.thr e1
  refine ⟨h1.k, (s_X15_mayOrder h1).weak (fun M' v hv => ?_)⟩
  obtain ⟨rfl, rfl⟩ := hv
  refine ⟨0, rfl, ?_, ?_⟩ <;> first | exact fun c => absurd rfl c | exact fun _ => (by rw [hq])
set_option maxRecDepth 100000 in
set_option maxHeartbeats 4000000 in
theorem s_X15_poke {G : zG} {M : zM} {x : Nat} {p0 p1 p2 p3 : Int32} (hF : FM M x) : zC G yX15_poke cX15_poke 6 (some .boolean) rm_X15_poke M [.ref x, .int p0, .int p1, .int p2, .int p3] (fun _ v => v = some (.int 0)) := by
  refine z_intro (by decide +kernel) (Nat.le_of_ble_eq_true rfl) (fun X O hR hq => ?_)
  refine b_X15_poke_0 (n := 0) (k := 0) O hR ⟨hF.k, fun M1 e1 => ?_⟩
  have h1 := hF.thr e1
  refine ⟨h1.k, (s_X15_mayOrder h1).weak (fun M' v hv => ?_)⟩
  obtain ⟨rfl, rfl⟩ := hv
  refine ⟨0, rfl, ?_, ?_⟩ <;> first | exact fun c => absurd rfl c | exact fun _ => (by rw [hq])
set_option maxRecDepth 100000 in
set_option maxHeartbeats 4000000 in
theorem s_X15_memory {G : zG} {M : zM} {x : Nat} {p0 p1 : Int32} (hF : FM M x) : zC G yX15_memory cX15_memory 3 (some .int) rm_X15_memory M [.ref x, .int p0, .int p1] (fun _ v => v = some (.int (-1))) := by
  refine z_intro (by decide +kernel) (Nat.le_of_ble_eq_true rfl) (fun X O hR hq => ?_)
  refine b_X15_memory_0 (n := 0) (k := 0) O hR ⟨hF.k, fun M1 e1 => ?_⟩
  have h1 := hF.thr e1
  refine ⟨h1.k, (s_X15_isDevice h1).weak (fun M' v hv => ?_)⟩
  obtain ⟨rfl, rfl⟩ := hv
  refine ⟨0, rfl, ?_, ?_⟩ <;> first | exact fun c => absurd rfl c | exact fun _ => (by rw [hq])
set_option maxRecDepth 100000 in
set_option maxHeartbeats 4000000 in
theorem s_X15_store {G : zG} {M : zM} {x : Nat} {p0 p1 p2 : Int32} (hF : FM M x) : zC G yX15_store cX15_store 4 (some .boolean) rm_X15_store M [.ref x, .int p0, .int p1, .int p2] (fun _ v => v = some (.int 0)) := by
  refine z_intro (by decide +kernel) (Nat.le_of_ble_eq_true rfl) (fun X O hR hq => ?_)
  refine b_X15_store_0 (n := 0) (k := 0) O hR ⟨hF.k, fun M1 e1 => ?_⟩
  have h1 := hF.thr e1
  refine ⟨h1.k, (s_X15_isDevice h1).weak (fun M' v hv => ?_)⟩
  obtain ⟨rfl, rfl⟩ := hv
  refine ⟨0, rfl, ?_, ?_⟩ <;> first | exact fun c => absurd rfl c | exact fun _ => (by rw [hq])
set_option maxRecDepth 100000 in
set_option maxHeartbeats 4000000 in
theorem s_X15_reply {G : zG} {M : zM} {x : Nat} {p0 p1 : Int32} (hF : FM M x) : zC G yX15_reply cX15_reply 3 (some .int) rm_X15_reply M [.ref x, .int p0, .int p1] (fun _ v => v = some (.int (-1))) := by
  refine z_intro (by decide +kernel) (Nat.le_of_ble_eq_true rfl) (fun X O hR hq => ?_)
  refine b_X15_reply_0 (n := 0) (k := 0) O hR ⟨hF.k, fun M1 e1 => ?_⟩
  have h1 := hF.thr e1
  refine ⟨h1.k, (s_X15_isDevice h1).weak (fun M' v hv => ?_)⟩
  obtain ⟨rfl, rfl⟩ := hv
  refine ⟨0, rfl, ?_, ?_⟩ <;> first | exact fun c => absurd rfl c | exact fun _ => (by rw [hq])
set_option maxRecDepth 100000 in
set_option maxHeartbeats 4000000 in
theorem s_X15_connection {G : zG} {M : zM} {x : Nat} {p0 p1 : Int32} (hF : FM M x) : zC G yX15_connection cX15_connection 4 (some .int) rm_X15_connection M [.ref x, .int p0, .int p1] (fun _ v => v = some (.int (-1))) := by
  refine z_intro (by decide +kernel) (Nat.le_of_ble_eq_true rfl) (fun X O hR hq => ?_)
  refine b_X15_connection_0 (n := 0) (k := 0) O hR ⟨hF.k, fun M1 e1 => ?_⟩
  have h1 := hF.thr e1
  refine ⟨h1.k, (s_X15_isDevice h1).weak (fun M' v hv => ?_)⟩
  obtain ⟨rfl, rfl⟩ := hv
  refine ⟨0, rfl, ?_, ?_⟩ <;> first | exact fun c => absurd rfl c | exact fun _ => (by rw [hq])
set_option maxRecDepth 100000 in
set_option maxHeartbeats 4000000 in
theorem s_X15_busy {G : zG} {M : zM} {x : Nat} {p0 p1 : Int32} (hF : FM M x) : zC G yX15_busy cX15_busy 3 (some .boolean) rm_X15_busy M [.ref x, .int p0, .int p1] (fun _ v => v = some (.int 0)) := by
  refine z_intro (by decide +kernel) (Nat.le_of_ble_eq_true rfl) (fun X O hR hq => ?_)
  refine b_X15_busy_0 (n := 0) (k := 0) O hR ⟨hF.k, fun M1 e1 => ?_⟩
  have h1 := hF.thr e1
  refine ⟨h1.k, (s_X15_isDevice h1).weak (fun M' v hv => ?_)⟩
  obtain ⟨rfl, rfl⟩ := hv
  refine ⟨0, rfl, ?_, ?_⟩ <;> first | exact fun c => absurd rfl c | exact fun _ => (by rw [hq])
set_option maxRecDepth 100000 in
set_option maxHeartbeats 4000000 in
theorem s_X15_raw {G : zG} {M : zM} {x : Nat} {p0 : Int32} (hF : FM M x) : zC G yX15_raw cX15_raw 3 (some .int) rm_X15_raw M [.ref x, .int p0] (fun _ v => v = some (.int (-1))) := by
  refine z_intro (by decide +kernel) (Nat.le_of_ble_eq_true rfl) (fun X O hR hq => ?_)
  refine b_X15_raw_0 (n := 0) (k := 0) O hR ⟨hF.k, fun M1 e1 => ?_⟩
  have h1 := hF.thr e1
  refine ⟨h1.k, (s_X15_isLine h1).weak (fun M' v hv => ?_)⟩
  obtain ⟨rfl, rfl⟩ := hv
  refine ⟨0, rfl, ?_, ?_⟩ <;> first | exact fun c => absurd rfl c | exact fun _ => (by rw [hq])
set_option maxRecDepth 100000 in
set_option maxHeartbeats 4000000 in
theorem s_X15_device {G : zG} {M : zM} {x : Nat} {p0 p1 : Int32} (hF : FM M x) : zC G yX15_device cX15_device 5 (some .int) rm_X15_device M [.ref x, .int p0, .int p1] (fun _ v => v = some (.int (-1))) := by
  refine z_intro (by decide +kernel) (Nat.le_of_ble_eq_true rfl) (fun X O hR hq => ?_)
  refine b_X15_device_0 (n := 0) (k := 0) O hR ⟨hF.k, fun M1 e1 => ?_⟩
  have h1 := hF.thr e1
  refine ⟨h1.k, fun _ => (by rw [hq]), fun _ => ⟨h1.k, (s_X15_isLine h1).weak (fun M' v hv => ?_)⟩⟩
  obtain ⟨rfl, rfl⟩ := hv
  refine ⟨0, rfl, ?_, ?_⟩ <;> first | exact fun c => absurd rfl c | exact fun _ => (by rw [hq])
set_option maxRecDepth 100000 in
set_option maxHeartbeats 4000000 in
theorem s_X15_coupler {G : zG} {M : zM} {x : Nat} {p0 p1 : Int32} (hF : FM M x) : zC G yX15_coupler cX15_coupler 3 (some .int) rm_X15_coupler M [.ref x, .int p0, .int p1] (fun _ v => v = some (.int (-1))) := by
  refine z_intro (by decide +kernel) (Nat.le_of_ble_eq_true rfl) (fun X O hR hq => ?_)
  refine b_X15_coupler_0 (n := 0) (k := 0) O hR ⟨hF.k, fun M1 e1 => ?_⟩
  have h1 := hF.thr e1
  refine ⟨h1.k, fun _ => (by rw [hq]), fun _ => ⟨h1.k, (s_X15_isLine h1).weak (fun M' v hv => ?_)⟩⟩
  obtain ⟨rfl, rfl⟩ := hv
  refine ⟨0, rfl, ?_, ?_⟩ <;> first | exact fun c => absurd rfl c | exact fun _ => (by rw [hq])
set_option maxRecDepth 100000 in
set_option maxHeartbeats 4000000 in
theorem s_X15_end {G : zG} {M : zM} {x : Nat} {p0 : Int32} (hF : FM M x) : zC G yX15_end cX15_end 2 (some .int) rm_X15_end M [.ref x, .int p0] (fun _ v => v = some (.int (zEnd p0))) := by
  refine z_intro (by decide +kernel) (Nat.le_of_ble_eq_true rfl) (fun X O hR hq => ?_)
  refine b_X15_end_0 (n := 0) (k := 0) O hR ⟨hF.k, fun M1 e1 => ?_⟩
  have h1 := hF.thr e1
  refine ⟨h1.k, s_X15_in.weak (fun M' v hv => ?_)⟩
  obtain ⟨rfl, rfl⟩ := hv
  rw [h1.i 39 (by decide)]
  refine ⟨_, rfl, fun c => ⟨h1.k, fun M4 e4 => ?_⟩, fun c => ?_⟩
  · obtain ⟨c1, c2⟩ := zw01_1 c
    rw [hq, zEnd, if_neg c1, if_pos (Int32.not_lt.mp c2)]
  · rw [hq]
    show _ = some (Value.int (zEnd p0))
    unfold zEnd
    unfold zw01 at c
    by_cases d : p0 < 0
    · rw [if_pos d]
    · by_cases g : 0 < p0
      · rw [if_neg d, if_neg (Int32.not_le.mpr g)]
      · rw [if_neg d, if_neg g] at c
        exact absurd c (by decide)
set_option maxRecDepth 100000 in
set_option maxHeartbeats 4000000 in
theorem s_fd_loop {G : zG} {X : zX} (O : zOK G X cX15_feed 8 RX15 (some .int) "feed") (hR : X.R = rm_X15_feed) {x tp : Nat} {r : Nat → Option Nat} {x1 x2 x3 x4 x5 : Int32} (hr : r 38 = some tp) (hq : ∀ M, X.q M (some (.int 20))) : ∀ (m i : Nat) (M : zM) (f : Nat → Int32), i + m = 20 → zob M x 15 f r → zkd M tp 100 60 → f 39 = nI i → zW G X 8 M 0 0 22 [(0, .ref x), (1, .int x1), (2, .int x2), (3, .int x3), (4, .int x4), (5, .int x5), (6, .int (nI i))] []
  | 0, i, M, f, hi, ob, kt, hf => by
    have e : i = 20 := by omega
    subst e
    refine b_X15_feed_22 O hR ⟨fun _ => ⟨ob.1, ?_⟩, fun c => absurd (by decide) c⟩
    rw [ob.2.2.1, hf]
    exact hq M
  | m + 1, i, M, f, hi, ob, kt, hf => by
    have e39 : M.2.2.1 x 39 = nI i := by rw [ob.2.2.1]; exact hf
    have key : ∀ s0 : Int32, zW G X 8 M 0 0 75 [(0, .ref x), (1, .int x1), (2, .int x2), (3, .int x3), (4, .int x4), (5, .int x5), (6, .int (nI i))] [.int s0] := by
      intro s0
      refine b_X15_feed_75 O hR ⟨ob.1, tp, by rw [ob.2.2.2]; exact hr, ob.1, kt.1, by rw [kt.2.1, e39]; exact vp_in_nI (by omega) (by decide), fun M2 e2 => ?_⟩
      have l2 := zle.mki (E := fun z => z = tp) e2 rfl
      have ob2 := ob.le l2 (ob.ne kt.1 (by decide))
      have kt2 := kt.le l2
      refine ⟨ob2.1, ob2.1, fun M3 e3 y4 e4 => ?_⟩
      have ob3 := ob2.mki e3
      have kt3 := kt2.le (zle.mki (E := fun z => z = x) e3 rfl)
      have e5 : y4 = nI (i + 1) := by rw [e4]; exact (nI_succ i).symm
      subst e5
      refine s_fd_loop O hR hr hq m (i + 1) M3 _ (by omega) ob3 kt3 ?_
      rw [ob2.2.2.1]
      simp only [upd, if_true]
      rw [hf]
      exact (nI_succ i).symm
    exact b_X15_feed_22 O hR ⟨fun c => absurd c (nI_ge (a := i) (b := 20) (by omega) (by decide)), fun _ => ⟨fun _ => ⟨fun _ => ⟨fun _ => ⟨fun _ => key _, fun _ => key _⟩, fun _ => key _⟩, fun _ => key _⟩, fun _ => key _⟩⟩
set_option maxRecDepth 100000 in
set_option maxHeartbeats 4000000 in
theorem s_X15_feed {G : zG} {M : zM} {x : Nat} {p0 p1 p2 p3 p4 : Int32} (hF : FM M x) : zC G yX15_feed cX15_feed 8 (some .int) rm_X15_feed M [.ref x, .int p0, .int p1, .int p2, .int p3, .int p4] (fun _ v => v = some (.int 20)) := by
  refine z_intro (by decide +kernel) (Nat.le_of_ble_eq_true rfl) (fun X O hR hq => ?_)
  refine b_X15_feed_0 (n := 0) (k := 0) O hR ⟨hF.k, fun M1 e1 => ?_⟩
  have h1 := hF.thr e1
  have e39 := h1.i 39 (by decide)
  obtain ⟨r, ln, g1, g2, g3, tp, ob, ⟨r5, r23, r24, r25, r38⟩, k1, k2, k3, k4, k5⟩ := h1
  refine ⟨ob.1, fun _ => ?_, fun c => absurd (by rw [e39]; decide) c⟩
  exact s_fd_loop O hR r38 (fun M => by rw [hq]) 20 0 M1 _ rfl ob k5 (by simp [upd]; rfl)
set_option maxRecDepth 100000 in
set_option maxHeartbeats 4000000 in
theorem s_X15_harm {G : zG} {M : zM} {x : Nat} {p0 p1 p2 : Int32} (hF : FM M x) : zC G yX15_harm cX15_harm 5 (some .boolean) rm_X15_harm M [.ref x, .int p0, .int p1, .int p2] (fun _ v => v = some (.int (zHarm p0 p1 p2))) := by
  refine z_intro (by decide +kernel) (Nat.le_of_ble_eq_true rfl) (fun X O hR hq => ?_)
  refine b_X15_harm_0 (n := 0) (k := 0) O hR ⟨hF.k, fun M1 e1 => ?_⟩
  have h1 := hF.thr e1
  have e26 := h1.i 26 (by decide)
  have e15 := h1.i 15 (by decide)
  obtain ⟨r, ln, g1, g2, g3, tp, ob, ⟨r5, r23, r24, r25, r38⟩, k1, k2, k3, k4, k5⟩ := h1
  refine s_X15_in.weak (fun M' v hv => ?_)
  obtain ⟨rfl, rfl⟩ := hv
  refine ⟨_, rfl, fun c => by rw [hq, zHarm, if_pos c], fun c1 => s_X15_in.weak (fun M' v hv => ?_)⟩
  obtain ⟨rfl, rfl⟩ := hv
  refine ⟨_, rfl, fun c => by rw [hq, zHarm, if_neg c1, if_pos c], fun c2 => s_X15_in.weak (fun M' v hv => ?_)⟩
  obtain ⟨rfl, rfl⟩ := hv
  refine ⟨_, rfl, fun c3 => ?_, fun c => by rw [hq, zHarm, if_neg c1, if_neg c2, if_pos c]⟩
  refine b_X15_harm_42 O hR ⟨ob.1, fun _ => ?_, fun c => absurd (by rw [e26]; decide) c⟩
  refine b_X15_harm_84 O hR ⟨fun _ => ⟨ob.1, fun c => absurd e26.symm c, fun _ => ⟨ob.1, ob.1, fun M2 e2 => ?_⟩⟩, fun c => absurd c (by decide)⟩
  have l2 := zle.mki (E := fun z => z = x) e2 rfl
  have ob2 := ob.mki e2
  have kb := k2.le l2
  have kc := k3.le l2
  have kd := k4.le l2
  refine b_X15_harm_112 O hR ⟨ob2.1, g1, by rw [ob2.2.2.2]; exact r23, ob2.1, kb.1, by rw [kb.2.1]; exact vp_in_nI (n := 0) (by decide) (by decide), fun M3 e3 => ?_⟩
  have l3 := zle.mki (E := fun z => z = g1) e3 rfl
  have ob3 := ob2.le l3 (ob2.ne kb.1 (by decide))
  have kc3 := kc.le l3
  have kd3 := kd.le l3
  refine ⟨ob3.1, g2, by rw [ob3.2.2.2]; exact r24, kc3.1, by rw [kc3.2.1]; exact vp_in_nI (n := 0) (by decide) (by decide), fun M4 e4 => ?_⟩
  have l4 := zle.mki (E := fun z => z = g2) e4 rfl
  have ob4 := ob3.le l4 (ob3.ne kc3.1 (by decide))
  have kd4 := kd3.le l4
  refine ⟨ob4.1, g3, by rw [ob4.2.2.2]; exact r25, kd4.1, by rw [kd4.2.1]; exact vp_in_nI (n := 0) (by decide) (by decide), fun M5 e5 => ?_⟩
  rw [hq, zHarm, if_neg c1, if_neg c2, if_neg c3]
set_option maxRecDepth 100000 in
set_option maxHeartbeats 4000000 in
theorem s_X15_lineOf {G : zG} {M : zM} {x : Nat} {p0 : Int32} (hF : FM M x) : zC G yX15_lineOf cX15_lineOf 4 (some .int) rm_X15_lineOf M [.ref x, .int p0] (fun M' v => M' = M ∧ v = some (.int (-1))) := by
  refine z_intro (by decide +kernel) (Nat.le_of_ble_eq_true rfl) (fun X O hR hq => ?_)
  refine b_X15_lineOf_0 (n := 0) (k := 0) O hR (b_X15_lineOf_4 O hR ⟨hF.k, fun _ => ?_, fun c => absurd (by rw [hF.i 4 (by decide)]; decide) c⟩)
  rw [hq]
  exact ⟨rfl, rfl⟩
set_option maxRecDepth 100000 in
set_option maxHeartbeats 4000000 in
theorem s_X15_line {G : zG} {M : zM} {x : Nat} {p0 : Int32} (hF : FM M x) : zC G yX15_line cX15_line 2 (some .int) rm_X15_line M [.ref x, .int p0] (fun _ v => v = some (.int (zLine p0))) := by
  refine z_intro (by decide +kernel) (Nat.le_of_ble_eq_true rfl) (fun X O hR hq => ?_)
  refine b_X15_line_0 (n := 0) (k := 0) O hR ⟨hF.k, fun M1 e1 => ?_⟩
  have h1 := hF.thr e1
  have e4 := h1.i 4 (by decide)
  refine ⟨h1.k, fun c => absurd c (by rw [e4]; decide), fun _ => s_X15_in.weak (fun M' v hv => ?_)⟩
  obtain ⟨rfl, rfl⟩ := hv
  refine ⟨_, rfl, fun c => by rw [hq, zLine, if_pos c], fun c1 => ⟨h1.k, (s_X15_lineOf h1).weak (fun M' v hv => ?_)⟩⟩
  obtain ⟨rfl, rfl⟩ := hv
  obtain ⟨r, ln, g1, g2, g3, tp, ob, ⟨r5, r23, r24, r25, r38⟩, k1, k2, k3, k4, k5⟩ := h1
  refine ⟨_, rfl, fun _ => ⟨ob.1, ln, by rw [ob.2.2.2]; exact r5, ob.1, k1.1, by rw [e4, k1.2.1]; exact vp_in_nI (n := 0) (by decide) (by decide), fun M7 e7 => ?_⟩, fun c => absurd rfl c⟩
  have ob7 := ob.le (zle.mki (E := fun z => z = ln) e7 rfl) (ob.ne k1.1 (by decide))
  refine ⟨ob7.1, ob7.1, fun M8 e8 => ?_⟩
  have ob8 := ob7.mki e8
  refine ⟨ob8.1, ?_⟩
  rw [hq, ob8.2.2.1, ob7.2.2.1, zLine, if_neg c1]
  rfl
set_option maxRecDepth 100000 in
set_option maxHeartbeats 4000000 in
theorem s_X15_count {G : zG} {M : zM} {x : Nat} {p0 : Int32} (hF : FM M x) : zC G yX15_count cX15_count 4 (some .int) rm_X15_count M [.ref x, .int p0] (fun _ v => v = some (.int (zCnt p0))) := by
  refine z_intro (by decide +kernel) (Nat.le_of_ble_eq_true rfl) (fun X O hR hq => ?_)
  refine b_X15_count_0 (n := 0) (k := 0) O hR ⟨hF.k, fun M1 e1 => ?_⟩
  have h1 := hF.thr e1
  exact ⟨fun c => by rw [hq, zCnt, if_pos c], fun c => ⟨h1.k, by rw [hq, h1.i 1 (by decide), zCnt_v 0 c (by decide)]⟩, fun c => ⟨h1.k, by rw [hq, h1.i 4 (by decide), zCnt_v 1 c (by decide)]⟩, fun c => ⟨h1.k, by rw [hq, h1.i 7 (by decide), zCnt_v 2 c (by decide)]⟩, fun c => ⟨h1.k, by rw [hq, h1.i 9 (by decide), zCnt_v 3 c (by decide)]⟩, fun c => ⟨h1.k, by rw [hq, h1.i 15 (by decide), zCnt_v 4 c (by decide)]⟩, fun c => ⟨h1.k, by rw [hq, h1.i 16 (by decide), zCnt_v 5 c (by decide)]⟩, fun c => ⟨h1.k, by rw [hq, h1.i 17 (by decide), zCnt_v 6 c (by decide)]⟩, fun c => ⟨h1.k, by rw [hq, h1.i 3 (by decide), zCnt_v 7 c (by decide)]⟩, fun c => ⟨h1.k, by rw [hq, h1.i 18 (by decide), zCnt_v 8 c (by decide)]⟩, fun c => ⟨h1.k, by rw [hq, h1.i 19 (by decide), zCnt_v 9 c (by decide)]⟩, fun c => ⟨h1.k, by rw [hq, h1.i20, zCnt, if_neg (by omega), if_pos c]⟩, fun c => b_X15_count_137 O hR ⟨h1.k, fun _ => b_X15_count_168 O hR ⟨h1.k, fun _ => b_X15_count_216 O hR ⟨h1.k, fun _ => (by rw [hq, zCnt_v 11 c (by decide)]), fun c => absurd (by rw [h1.i 4 (by decide)]; decide) c⟩, fun c => absurd (by rw [h1.i 9 (by decide)]; decide) c⟩, fun c => absurd (by rw [h1.i 7 (by decide)]; decide) c⟩, fun c => ⟨h1.k, by rw [hq, h1.i 26 (by decide), zCnt_v 12 c (by decide)]⟩, fun c => ⟨h1.k, by rw [hq, h1.i 39 (by decide), zCnt_v 13 c (by decide)]⟩⟩
set_option maxRecDepth 100000 in
set_option maxHeartbeats 4000000 in
theorem s_X15_thrown {G : zG} {M : zM} {x : Nat} (hk : M.1 x = 15) : zC G yX15_thrown cX15_thrown 1 (some .int) rm_X15_thrown M [.ref x] (fun M' v => M' = M ∧ v = some (.int (M.2.2.1 x 0))) := by
  refine z_intro (by decide +kernel) (Nat.le_of_ble_eq_true rfl) (fun X O hR hq => ?_)
  refine b_X15_thrown_0 (n := 0) (k := 0) O hR ⟨hk, ?_⟩
  rw [hq]
  exact ⟨rfl, rfl⟩
set_option maxRecDepth 100000 in
set_option maxHeartbeats 4000000 in
theorem s_sm_loop {G : zG} {X : zX} (O : zOK G X cX15_step 5 RX15 (some .int) "step") (hR : X.R = rm_X15_step) {x N : Nat} {r : Nat → Option Nat} (hN : N ≤ 200) (hq : ∀ M f, zob M x 15 f r → f 0 = 0 → X.q M (some (.int 0))) : ∀ (m i : Nat) (M : zM) (f : Nat → Int32), i + m = N → zob M x 15 f r → f 0 = 0 ∧ f 4 = 0 ∧ f 7 = 0 ∧ f 15 = 0 → zW G X 5 M 0 0 36 [(0, .ref x), (1, .int (nI N)), (2, .int 0), (3, .int (nI i))] []
  | 0, i, M, f, hi, ob, hf => by
    have e : i = N := by omega
    subst e
    refine b_X15_step_36 O hR ⟨fun _ => ⟨ob.1, ?_⟩, fun c => absurd (nI_le (Nat.le_refl _) (by omega)) c⟩
    rw [ob.2.2.1, hf.2.2.2]
    exact hq M f ob hf.1
  | m + 1, i, M, f, hi, ob, hf => by
    refine b_X15_step_36 O hR ⟨fun c => absurd c (nI_ge (a := i) (b := N) (by omega) (by omega)), fun _ => ⟨ob.1, ob.1, fun M3 e3 => ?_⟩⟩
    have ob3 := ob.mki e3
    have hf3 : ∀ v : Int32, upd f 1 v 0 = 0 ∧ upd f 1 v 4 = 0 ∧ upd f 1 v 7 = 0 ∧ upd f 1 v 15 = 0 := fun v => by simp [upd, hf]
    refine b_X15_step_54 O hR ⟨ob3.1, fun _ => ?_, fun c => absurd (by rw [ob3.2.2.1, (hf3 _).2.1]; decide) c⟩
    refine b_X15_step_78 O hR ⟨ob3.1, fun _ => ?_, fun c => absurd (by rw [ob3.2.2.1, (hf3 _).2.2.1]; decide) c⟩
    intro y1 e1
    have e2 : y1 = nI (i + 1) := by rw [e1]; exact (nI_succ i).symm
    subst e2
    exact s_sm_loop O hR hN hq m (i + 1) M3 _ (by omega) ob3 (hf3 _)
def zThr (p : Int32) : Int32 := if zw01 p 1 200 = 0 then 1 else 0
set_option maxRecDepth 100000 in
set_option maxHeartbeats 4000000 in
theorem s_X15_step {G : zG} {M : zM} {x : Nat} {p0 : Int32} (hF : FM M x) : zC G yX15_step cX15_step 5 (some .int) rm_X15_step M [.ref x, .int p0] (fun M' v => v = some (.int 0) ∧ M'.1 x = 15 ∧ M'.2.2.1 x 0 = zThr p0) := by
  refine z_intro (by decide +kernel) (Nat.le_of_ble_eq_true rfl) (fun X O hR hq => ?_)
  obtain ⟨r, ln, g1, g2, g3, tp, ob, ⟨r5, r23, r24, r25, r38⟩, k1, k2, k3, k4, k5⟩ := hF
  refine b_X15_step_0 (n := 0) (k := 0) O hR (s_X15_in.weak (fun M' v hv => ?_))
  obtain ⟨rfl, rfl⟩ := hv
  refine ⟨_, rfl, fun c => ?_, fun c => ?_⟩
  · refine b_X15_step_17 O hR ⟨ob.1, fun M1 e1 => ?_⟩
    have ob1 := ob.mki e1
    have e0 : M1.2.2.1 x 0 = 1 := by rw [ob1.2.2.1]; simp [upd]
    refine ⟨ob1.1, fun d => absurd d (by rw [e0]; decide), fun _ => ?_⟩
    rw [hq]
    exact ⟨rfl, ob1.1, by rw [e0, zThr, if_pos c]⟩
  · refine b_X15_step_17 O hR ⟨ob.1, fun M1 e1 => ?_⟩
    have ob1 := ob.mki e1
    have e0 : M1.2.2.1 x 0 = 0 := by rw [ob1.2.2.1]; simp [upd]
    refine ⟨ob1.1, fun _ => ⟨ob1.1, fun y2 e2 => ?_⟩, fun d => absurd (by rw [e0]; decide) d⟩
    have e15 : y2 = 0 := by rw [e2, ob1.2.2.1]; simp [upd]
    subst e15
    obtain ⟨c1, c2⟩ := zw01_1 c
    obtain ⟨N, hN, e⟩ := zrange c1 c2
    subst e
    refine s_sm_loop O hR hN (fun M f o1 h1 => ?_) N 0 M1 _ (by omega) ob1 (by simp [upd])
    rw [hq]
    exact ⟨rfl, o1.1, by rw [o1.2.2.1, h1, zThr, if_neg c]⟩
set_option maxRecDepth 100000 in
set_option maxHeartbeats 4000000 in
theorem s_X15_sent {G : zG} {M : zM} {x : Nat} {p0 : Int32} (hF : FM M x) : zC G yX15_sent cX15_sent 2 (some .int) rm_X15_sent M [.ref x, .int p0] (fun M' v => v = some (.int 0) ∧ M'.1 x = 15 ∧ M'.2.2.1 x 0 = 1) := by
  refine z_intro (by decide +kernel) (Nat.le_of_ble_eq_true rfl) (fun X O hR hq => ?_)
  have e22 := hF.i 22 (by decide)
  obtain ⟨r, ln, g1, g2, g3, tp, ob, ⟨r5, r23, r24, r25, r38⟩, k1, k2, k3, k4, k5⟩ := hF
  refine b_X15_sent_0 (n := 0) (k := 0) O hR ⟨ob.1, fun _ => ?_, fun c => absurd (by rw [e22]; decide) c⟩
  refine b_X15_sent_31 O hR (b_X15_sent_32 O hR ⟨ob.1, fun M1 e1 => ?_⟩)
  have ob1 := ob.mki e1
  have e0 : M1.2.2.1 x 0 = 1 := by rw [ob1.2.2.1]; simp [upd]
  refine ⟨ob1.1, fun d => absurd d (by rw [e0]; decide), fun _ => ?_⟩
  rw [hq]
  exact ⟨rfl, ob1.1, e0⟩
