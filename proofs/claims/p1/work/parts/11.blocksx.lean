set_option maxRecDepth 100000 in
set_option maxHeartbeats 4000000 in
theorem b_X9_init_0 {G : zG} {X : zX} (O : zOK G X cX9_init 1 RX9 none "<init>") (hR : X.R = rm_X9_init) {M : zM} {n k : Nat} {a0 : Nat} (h : X.q M none) : zW G X 1 M n k 0 [(0, .ref a0)] [] := by
  refine z_aload_n O dX9_init_0 rfl 0 rfl ?_
  refine z_obj O zob_X9_1 zob_1 zob_2 dX9_init_1 (by rw [hR]; decide) (by rw [hR]; decide) ?_
  exact z_vret O dX9_init_4 h
set_option maxRecDepth 100000 in
set_option maxHeartbeats 4000000 in
theorem b_X4_init_0 {G : zG} {X : zX} (O : zOK G X cX4_init 1 RX4 none "<init>") (hR : X.R = rm_X4_init) {M : zM} {n k : Nat} {a0 : Nat} (h : n + 1 ≤ X.R.cells ∧ k + 64 ≤ X.R.slots ∧ ∀ q1 : Nat, M.1 q1 = 0 → ∀ M2 : zM, M2 = zn M q1 100 64 → M2.1 a0 = 5 ∧ ∀ M3 : zM, M3 = zr M2 a0 0 (some q1) → (n + 1) + 1 ≤ X.R.cells ∧ (k + 64) + 64 ≤ X.R.slots ∧ ∀ q4 : Nat, M3.1 q4 = 0 → ∀ M5 : zM, M5 = zn M3 q4 100 64 → M5.1 a0 = 5 ∧ ∀ M6 : zM, M6 = zr M5 a0 1 (some q4) → ((n + 1) + 1) + 1 ≤ X.R.cells ∧ ((k + 64) + 64) + 64 ≤ X.R.slots ∧ ∀ q7 : Nat, M6.1 q7 = 0 → ∀ M8 : zM, M8 = zn M6 q7 100 64 → M8.1 a0 = 5 ∧ ∀ M9 : zM, M9 = zr M8 a0 2 (some q7) → X.q M9 none) : zW G X 1 M n k 0 [(0, .ref a0)] [] := by
  refine z_aload_n O dX4_init_0 rfl 0 rfl ?_
  refine z_obj O zob_X4_3 zob_1 zob_2 dX4_init_1 (by rw [hR]; decide) (by rw [hR]; decide) ?_
  refine z_aload_n O dX4_init_4 rfl 0 rfl ?_
  refine z_bipush (v := 64) O dX4_init_5 rfl ?_
  obtain ⟨hn, hs, h⟩ := h
  refine z_newi (N := 64) O zac_int dX4_init_7 (by decide) (by decide) (by decide) hn hs (fun q1 fq1 => ?_)
  generalize eM2 : zn M q1 100 64 = M2
  replace h := h q1 fq1 M2 eM2.symm
  obtain ⟨hk, h⟩ := h
  refine z_putrF O zp_X4_9_4 dX4_init_9 hk ?_
  generalize eM3 : zr M2 a0 0 (some q1) = M3
  replace h := h M3 eM3.symm
  refine z_aload_n O dX4_init_12 rfl 0 rfl ?_
  refine z_bipush (v := 64) O dX4_init_13 rfl ?_
  obtain ⟨hn, hs, h⟩ := h
  refine z_newi (N := 64) O zac_int dX4_init_15 (by decide) (by decide) (by decide) hn hs (fun q4 fq4 => ?_)
  generalize eM5 : zn M3 q4 100 64 = M5
  replace h := h q4 fq4 M5 eM5.symm
  obtain ⟨hk, h⟩ := h
  refine z_putrF O zp_X4_15_4 dX4_init_17 hk ?_
  generalize eM6 : zr M5 a0 1 (some q4) = M6
  replace h := h M6 eM6.symm
  refine z_aload_n O dX4_init_20 rfl 0 rfl ?_
  refine z_bipush (v := 64) O dX4_init_21 rfl ?_
  obtain ⟨hn, hs, h⟩ := h
  refine z_newi (N := 64) O zac_int dX4_init_23 (by decide) (by decide) (by decide) hn hs (fun q7 fq7 => ?_)
  generalize eM8 : zn M6 q7 100 64 = M8
  replace h := h q7 fq7 M8 eM8.symm
  obtain ⟨hk, h⟩ := h
  refine z_putrF O zp_X4_18_4 dX4_init_25 hk ?_
  generalize eM9 : zr M8 a0 2 (some q7) = M9
  replace h := h M9 eM9.symm
  exact z_vret O dX4_init_28 h
set_option maxRecDepth 100000 in
set_option maxHeartbeats 4000000 in
theorem b_X4_add_0 {G : zG} {X : zX} (O : zOK G X cX4_add 5 RX4 (some .boolean) "add") (hR : X.R = rm_X4_add) {M : zM} {n k : Nat} {a0 : Nat} {x1 : Int32} {x2 : Int32} {x3 : Int32} (h : zW G X 5 M n k 3 [(0, .ref a0), (1, .int x1), (2, .int x2), (3, .int x3), (4, .int 0)] []) : zW G X 5 M n k 0 [(0, .ref a0), (1, .int x1), (2, .int x2), (3, .int x3)] [] := by
  refine z_iconst (v := 0) O dX4_add_0 rfl ?_
  refine z_istore (lv' := [(4, .int 0), (0, .ref a0), (1, .int x1), (2, .int x2), (3, .int x3)]) O dX4_add_1 (by decide) rfl ?_
  exact z_to [1, 2, 3, 4, 0] rfl h
set_option maxRecDepth 100000 in
set_option maxHeartbeats 4000000 in
theorem b_X4_add_3 {G : zG} {X : zX} (O : zOK G X cX4_add 5 RX4 (some .boolean) "add") (hR : X.R = rm_X4_add) {M : zM} {n k : Nat} {a0 : Nat} {x1 : Int32} {x2 : Int32} {x3 : Int32} {x4 : Int32} (h : M.1 a0 = 5 ∧ ((M.2.2.1 a0 3) ≤ x4 → M.1 a0 = 5 ∧ ((M.2.2.1 a0 3) < 64 → M.1 a0 = 5 ∧ ∃ b1 : Nat, M.2.2.2 a0 0 = some b1 ∧ M.1 a0 = 5 ∧ M.1 b1 = 100 ∧ vp_in ((M.2.2.1 a0 3)) (M.2.1 b1) ∧ ∀ M2 : zM, M2 = zi M b1 (((M.2.2.1 a0 3)).toNatClampNeg) x1 → M2.1 a0 = 5 ∧ ∃ b3 : Nat, M2.2.2.2 a0 1 = some b3 ∧ M2.1 a0 = 5 ∧ M2.1 b3 = 100 ∧ vp_in ((M2.2.2.1 a0 3)) (M2.2.1 b3) ∧ ∀ M4 : zM, M4 = zi M2 b3 (((M2.2.2.1 a0 3)).toNatClampNeg) x2 → M4.1 a0 = 5 ∧ ∃ b5 : Nat, M4.2.2.2 a0 2 = some b5 ∧ M4.1 a0 = 5 ∧ M4.1 b5 = 100 ∧ vp_in ((M4.2.2.1 a0 3)) (M4.2.1 b5) ∧ ∀ M6 : zM, M6 = zi M4 b5 (((M4.2.2.1 a0 3)).toNatClampNeg) x3 → M6.1 a0 = 5 ∧ M6.1 a0 = 5 ∧ ∀ M7 : zM, M7 = zi M6 a0 3 ((M6.2.2.1 a0 3) + 1) → X.q M7 (some (.int 1))) ∧ (¬ (M.2.2.1 a0 3) < 64 → X.q M (some (.int 0)))) ∧ (¬ (M.2.2.1 a0 3) ≤ x4 → M.1 a0 = 5 ∧ ∃ b8 : Nat, M.2.2.2 a0 0 = some b8 ∧ M.1 b8 = 100 ∧ vp_in x4 (M.2.1 b8) ∧ (¬ (M.2.2.1 b8 x4.toNatClampNeg) = x1 → ∀ y9 : Int32, y9 = x4 + 1 → zW G X 5 M n k 3 [(0, .ref a0), (1, .int x1), (2, .int x2), (3, .int x3), (4, .int y9)] []) ∧ ((M.2.2.1 b8 x4.toNatClampNeg) = x1 → M.1 a0 = 5 ∧ ∃ b10 : Nat, M.2.2.2 a0 1 = some b10 ∧ M.1 b10 = 100 ∧ vp_in x4 (M.2.1 b10) ∧ (¬ (M.2.2.1 b10 x4.toNatClampNeg) = x2 → ∀ y11 : Int32, y11 = x4 + 1 → zW G X 5 M n k 3 [(0, .ref a0), (1, .int x1), (2, .int x2), (3, .int x3), (4, .int y11)] []) ∧ ((M.2.2.1 b10 x4.toNatClampNeg) = x2 → M.1 a0 = 5 ∧ ∃ b12 : Nat, M.2.2.2 a0 2 = some b12 ∧ M.1 b12 = 100 ∧ vp_in x4 (M.2.1 b12) ∧ ∀ M13 : zM, M13 = zi M b12 (x4.toNatClampNeg) x3 → X.q M13 (some (.int 1)))))) : zW G X 5 M n k 3 [(0, .ref a0), (1, .int x1), (2, .int x2), (3, .int x3), (4, .int x4)] [] := by
  refine z_iload O dX4_add_3 4 rfl ?_
  refine z_aload_n O dX4_add_5 rfl 0 rfl ?_
  obtain ⟨hk, h⟩ := h
  refine z_geti O zf_X4_21_4 dX4_add_6 hk ?_
  refine z_icmp_ge O 50 dX4_add_9 (by decide) (fun c => ?_) (fun c => ?_)
  · replace h := h.1 c
    refine z_aload_n O dX4_add_50 rfl 0 rfl ?_
    obtain ⟨hk, h⟩ := h
    refine z_geti O zf_X4_21_4 dX4_add_51 hk ?_
    refine z_bipush (v := 64) O dX4_add_54 rfl ?_
    refine z_icmp_lt O 61 dX4_add_56 (by decide) (fun c => ?_) (fun c => ?_)
    · replace h := h.1 c
      refine z_aload_n O dX4_add_61 rfl 0 rfl ?_
      obtain ⟨hk, b1, hr, h⟩ := h
      refine z_getr O zf_X4_9_4 dX4_add_62 hk hr ?_
      refine z_aload_n O dX4_add_65 rfl 0 rfl ?_
      obtain ⟨hk, h⟩ := h
      refine z_geti O zf_X4_21_4 dX4_add_66 hk ?_
      refine z_iload_n O dX4_add_69 rfl 1 rfl ?_
      obtain ⟨hk, hi, h⟩ := h
      refine z_iast O dX4_add_70 hk hi ?_
      generalize eM2 : zi M b1 (((M.2.2.1 a0 3)).toNatClampNeg) x1 = M2
      replace h := h M2 eM2.symm
      refine z_aload_n O dX4_add_71 rfl 0 rfl ?_
      obtain ⟨hk, b3, hr, h⟩ := h
      refine z_getr O zf_X4_15_4 dX4_add_72 hk hr ?_
      refine z_aload_n O dX4_add_75 rfl 0 rfl ?_
      obtain ⟨hk, h⟩ := h
      refine z_geti O zf_X4_21_4 dX4_add_76 hk ?_
      refine z_iload_n O dX4_add_79 rfl 2 rfl ?_
      obtain ⟨hk, hi, h⟩ := h
      refine z_iast O dX4_add_80 hk hi ?_
      generalize eM4 : zi M2 b3 (((M2.2.2.1 a0 3)).toNatClampNeg) x2 = M4
      replace h := h M4 eM4.symm
      refine z_aload_n O dX4_add_81 rfl 0 rfl ?_
      obtain ⟨hk, b5, hr, h⟩ := h
      refine z_getr O zf_X4_18_4 dX4_add_82 hk hr ?_
      refine z_aload_n O dX4_add_85 rfl 0 rfl ?_
      obtain ⟨hk, h⟩ := h
      refine z_geti O zf_X4_21_4 dX4_add_86 hk ?_
      refine z_iload_n O dX4_add_89 rfl 3 rfl ?_
      obtain ⟨hk, hi, h⟩ := h
      refine z_iast O dX4_add_90 hk hi ?_
      generalize eM6 : zi M4 b5 (((M4.2.2.1 a0 3)).toNatClampNeg) x3 = M6
      replace h := h M6 eM6.symm
      refine z_aload_n O dX4_add_91 rfl 0 rfl ?_
      refine z_dup O dX4_add_92 rfl ?_
      obtain ⟨hk, h⟩ := h
      refine z_geti O zf_X4_21_4 dX4_add_93 hk ?_
      refine z_iconst (v := 1) O dX4_add_96 rfl ?_
      refine z_iadd O dX4_add_97 ?_
      obtain ⟨hk, h⟩ := h
      refine z_puti O zp_X4_21_4 dX4_add_98 hk ?_
      generalize eM7 : zi M6 a0 3 ((M6.2.2.1 a0 3) + 1) = M7
      replace h := h M7 eM7.symm
      refine z_iconst (v := 1) O dX4_add_101 rfl ?_
      exact z_zret O dX4_add_102 (by decide) h
    · replace h := h.2 c
      refine z_iconst (v := 0) O dX4_add_59 rfl ?_
      exact z_zret O dX4_add_60 (by decide) h
  · replace h := h.2 c
    refine z_aload_n O dX4_add_12 rfl 0 rfl ?_
    obtain ⟨hk, b8, hr, h⟩ := h
    refine z_getr O zf_X4_9_4 dX4_add_13 hk hr ?_
    refine z_iload O dX4_add_16 4 rfl ?_
    obtain ⟨hk, hi, h⟩ := h
    refine z_iald O dX4_add_18 hk hi ?_
    refine z_iload_n O dX4_add_19 rfl 1 rfl ?_
    refine z_icmp_ne O 44 dX4_add_20 (by decide) (fun c => ?_) (fun c => ?_)
    · replace h := h.1 c
      obtain ⟨y9, ey9⟩ : ∃ y : Int32, y = x4 + 1 := ⟨_, rfl⟩
      replace h := h y9 ey9
      refine z_iinc (v := y9) (lv' := [(4, .int y9), (0, .ref a0), (1, .int x1), (2, .int x2), (3, .int x3)]) O dX4_add_44 (q := 4) rfl (by rw [ey9]; rfl) (by decide) rfl ?_
      refine z_goto O 3 dX4_add_47 (by decide) ?_
      exact z_to [1, 2, 3, 4, 0] rfl h
    · replace h := h.2 c
      refine z_aload_n O dX4_add_23 rfl 0 rfl ?_
      obtain ⟨hk, b10, hr, h⟩ := h
      refine z_getr O zf_X4_15_4 dX4_add_24 hk hr ?_
      refine z_iload O dX4_add_27 4 rfl ?_
      obtain ⟨hk, hi, h⟩ := h
      refine z_iald O dX4_add_29 hk hi ?_
      refine z_iload_n O dX4_add_30 rfl 2 rfl ?_
      refine z_icmp_ne O 44 dX4_add_31 (by decide) (fun c => ?_) (fun c => ?_)
      · replace h := h.1 c
        obtain ⟨y11, ey11⟩ : ∃ y : Int32, y = x4 + 1 := ⟨_, rfl⟩
        replace h := h y11 ey11
        refine z_iinc (v := y11) (lv' := [(4, .int y11), (0, .ref a0), (1, .int x1), (2, .int x2), (3, .int x3)]) O dX4_add_44 (q := 4) rfl (by rw [ey11]; rfl) (by decide) rfl ?_
        refine z_goto O 3 dX4_add_47 (by decide) ?_
        exact z_to [1, 2, 3, 4, 0] rfl h
      · replace h := h.2 c
        refine z_aload_n O dX4_add_34 rfl 0 rfl ?_
        obtain ⟨hk, b12, hr, h⟩ := h
        refine z_getr O zf_X4_18_4 dX4_add_35 hk hr ?_
        refine z_iload O dX4_add_38 4 rfl ?_
        refine z_iload_n O dX4_add_40 rfl 3 rfl ?_
        obtain ⟨hk, hi, h⟩ := h
        refine z_iast O dX4_add_41 hk hi ?_
        generalize eM13 : zi M b12 (x4.toNatClampNeg) x3 = M13
        replace h := h M13 eM13.symm
        refine z_iconst (v := 1) O dX4_add_42 rfl ?_
        exact z_zret O dX4_add_43 (by decide) h
set_option maxRecDepth 100000 in
set_option maxHeartbeats 4000000 in
theorem b_X10_init_0 {G : zG} {X : zX} (O : zOK G X cX10_init 1 RX10 none "<init>") (hR : X.R = rm_X10_init) {M : zM} {n k : Nat} {a0 : Nat} (h : n + 1 ≤ X.R.cells ∧ k + 23 ≤ X.R.slots ∧ ∀ q1 : Nat, M.1 q1 = 0 → ∀ M2 : zM, M2 = zn M q1 100 23 → M2.1 a0 = 10 ∧ ∀ M3 : zM, M3 = zr M2 a0 0 (some q1) → X.q M3 none) : zW G X 1 M n k 0 [(0, .ref a0)] [] := by
  refine z_aload_n O dX10_init_0 rfl 0 rfl ?_
  refine z_obj O zob_X10_3 zob_1 zob_2 dX10_init_1 (by rw [hR]; decide) (by rw [hR]; decide) ?_
  refine z_aload_n O dX10_init_4 rfl 0 rfl ?_
  refine z_bipush (v := 23) O dX10_init_5 rfl ?_
  obtain ⟨hn, hs, h⟩ := h
  refine z_newi (N := 23) O zac_int dX10_init_7 (by decide) (by decide) (by decide) hn hs (fun q1 fq1 => ?_)
  generalize eM2 : zn M q1 100 23 = M2
  replace h := h q1 fq1 M2 eM2.symm
  obtain ⟨hk, h⟩ := h
  refine z_putrF O zp_X10_9_9 dX10_init_9 hk ?_
  generalize eM3 : zr M2 a0 0 (some q1) = M3
  replace h := h M3 eM3.symm
  exact z_vret O dX10_init_12 h
set_option maxRecDepth 100000 in
set_option maxHeartbeats 4000000 in
theorem b_X7_init_0 {G : zG} {X : zX} (O : zOK G X cX7_init 3 RX7 none "<init>") (hR : X.R = rm_X7_init) {M : zM} {n k : Nat} {a0 : Nat} {a1 : Nat} (h : M.1 a0 = 8 ∧ ∀ M1 : zM, M1 = zr M a0 1 (some a1) → n + 1 ≤ X.R.cells ∧ k + 8 ≤ X.R.slots ∧ ∀ q2 : Nat, M1.1 q2 = 0 → ∀ M3 : zM, M3 = zn M1 q2 106 8 → M3.1 a0 = 8 ∧ ∀ M4 : zM, M4 = zr M3 a0 0 (some q2) → zW G X 3 M4 (n + 1) (k + 8) 20 [(0, .ref a0), (2, .int 0)] []) : zW G X 3 M n k 0 [(0, .ref a0), (1, .ref a1)] [] := by
  refine z_aload_n O dX7_init_0 rfl 0 rfl ?_
  refine z_obj O zob_X7_3 zob_1 zob_2 dX7_init_1 (by rw [hR]; decide) (by rw [hR]; decide) ?_
  refine z_aload_n O dX7_init_4 rfl 0 rfl ?_
  refine z_aload_n O dX7_init_5 rfl 1 rfl ?_
  obtain ⟨hk, h⟩ := h
  refine z_putrF O zp_X7_9_7 dX7_init_6 hk ?_
  generalize eM1 : zr M a0 1 (some a1) = M1
  replace h := h M1 eM1.symm
  refine z_aload_n O dX7_init_9 rfl 0 rfl ?_
  refine z_bipush (v := 8) O dX7_init_10 rfl ?_
  obtain ⟨hn, hs, h⟩ := h
  refine z_newr (t := 4) (N := 8) O rfl zcl_X7_15 (by decide) dX7_init_12 (by decide) (by decide) (by decide) hn hs (fun q2 fq2 => ?_)
  generalize eM3 : zn M1 q2 106 8 = M3
  replace h := h q2 fq2 M3 eM3.symm
  obtain ⟨hk, h⟩ := h
  refine z_putrF O zp_X7_17_7 dX7_init_15 hk ?_
  generalize eM4 : zr M3 a0 0 (some q2) = M4
  replace h := h M4 eM4.symm
  refine z_iconst (v := 0) O dX7_init_18 rfl ?_
  refine z_istore_n (lv' := [(2, .int 0), (0, .ref a0), (1, .ref a1)]) O dX7_init_19 rfl (by decide) rfl ?_
  exact z_to [1, 0] rfl h
set_option maxRecDepth 100000 in
set_option maxHeartbeats 4000000 in
theorem b_X7_init_20 {G : zG} {X : zX} (O : zOK G X cX7_init 3 RX7 none "<init>") (hR : X.R = rm_X7_init) {M : zM} {n k : Nat} {a0 : Nat} {x2 : Int32} (h : (8 ≤ x2 → X.q M none) ∧ (¬ 8 ≤ x2 → M.1 a0 = 8 ∧ ∃ b1 : Nat, M.2.2.2 a0 0 = some b1 ∧ n + 1 ≤ X.R.cells ∧ k + 5 ≤ X.R.slots ∧ ∀ q2 : Nat, M.1 q2 = 0 → ∀ M3 : zM, M3 = zn M q2 10 0 → (n + 1) + 1 ≤ X.R.cells ∧ (k + 5) + 23 ≤ X.R.slots ∧ zC G yX10_init cX10_init 1 none rm_X10_init M3 [.ref q2] (fun M4 v => v = none ∧ M4.1 b1 = 106 ∧ M4.1 q2 = 10 ∧ vp_in x2 (M4.2.1 b1) ∧ ∀ M5 : zM, M5 = zr M4 b1 (x2.toNatClampNeg) (some q2) → ∀ y6 : Int32, y6 = x2 + 1 → zW G X 3 M5 ((n + 1) + 1) ((k + 5) + 23) 20 [(0, .ref a0), (2, .int y6)] []))) : zW G X 3 M n k 20 [(0, .ref a0), (2, .int x2)] [] := by
  refine z_iload_n O dX7_init_20 rfl 1 rfl ?_
  refine z_bipush (v := 8) O dX7_init_21 rfl ?_
  refine z_icmp_ge O 45 dX7_init_23 (by decide) (fun c => ?_) (fun c => ?_)
  · replace h := h.1 c
    exact z_vret O dX7_init_45 h
  · replace h := h.2 c
    refine z_aload_n O dX7_init_26 rfl 0 rfl ?_
    obtain ⟨hk, b1, hr, h⟩ := h
    refine z_getr O zf_X7_17_7 dX7_init_27 hk hr ?_
    refine z_iload_n O dX7_init_30 rfl 1 rfl ?_
    obtain ⟨hn, hs, h⟩ := h
    refine z_new O zn_X7_15 dX7_init_31 hn hs (fun q2 fq2 => ?_)
    generalize eM3 : zn M q2 10 0 = M3
    replace h := h q2 fq2 M3 eM3.symm
    refine z_dup O dX7_init_34 rfl ?_
    obtain ⟨hn, hs, h⟩ := h
    refine z_callINk (As := []) O zc_X7_21 h rfl (zRm_of hR (by decide) (by decide)) (Nat.le_of_ble_eq_true rfl) dX7_init_35 (mc := 1) (ms := 23) rfl rfl hn hs rfl (fun M4 v h => ?_)
    obtain ⟨rfl, h⟩ := h
    obtain ⟨hk, hkv, hi, h⟩ := h
    refine z_ast (t := 4) (ci := 9) (C := RX10) (T := TX10) (N := 5) O rfl rfl (by decide) dX7_init_38 hk hkv hi ?_
    generalize eM5 : zr M4 b1 (x2.toNatClampNeg) (some q2) = M5
    replace h := h M5 eM5.symm
    obtain ⟨y6, ey6⟩ : ∃ y : Int32, y = x2 + 1 := ⟨_, rfl⟩
    replace h := h y6 ey6
    refine z_iinc (v := y6) (lv' := [(2, .int y6), (0, .ref a0)]) O dX7_init_39 (q := 1) rfl (by rw [ey6]; rfl) (by decide) rfl ?_
    refine z_goto O 20 dX7_init_42 (by decide) ?_
    exact z_to [1, 0] rfl h
set_option maxRecDepth 100000 in
set_option maxHeartbeats 4000000 in
theorem b_X5_init_0 {G : zG} {X : zX} (O : zOK G X cX5_init 4 RX5 none "<init>") (hR : X.R = rm_X5_init) {M : zM} {n k : Nat} {a0 : Nat} {x1 : Int32} {x2 : Int32} {a3 : Nat} (h : M.1 a0 = 6 ∧ ∀ M1 : zM, M1 = zi M a0 0 x1 → M1.1 a0 = 6 ∧ ∀ M2 : zM, M2 = zi M1 a0 5 x2 → n + 1 ≤ X.R.cells ∧ k + 3 ≤ X.R.slots ∧ ∀ q3 : Nat, M2.1 q3 = 0 → ∀ M4 : zM, M4 = zn M2 q3 8 0 → (n + 1) + 17 ≤ X.R.cells ∧ (k + 3) + 232 ≤ X.R.slots ∧ zC G yX7_init cX7_init 3 none rm_X7_init M4 [.ref q3, .ref a3] (fun M5 v => v = none ∧ M5.1 a0 = 6 ∧ ∀ M6 : zM, M6 = zr M5 a0 1 (some q3) → ((n + 1) + 17) + 1 ≤ X.R.cells ∧ ((k + 3) + 232) + 29 ≤ X.R.slots ∧ ∀ q7 : Nat, M6.1 q7 = 0 → ∀ M8 : zM, M8 = zn M6 q7 107 29 → M8.1 a0 = 6 ∧ ∀ M9 : zM, M9 = zr M8 a0 2 (some q7) → X.q M9 none)) : zW G X 4 M n k 0 [(0, .ref a0), (1, .int x1), (2, .int x2), (3, .ref a3)] [] := by
  refine z_aload_n O dX5_init_0 rfl 0 rfl ?_
  refine z_obj O zob_X5_3 zob_1 zob_2 dX5_init_1 (by rw [hR]; decide) (by rw [hR]; decide) ?_
  refine z_aload_n O dX5_init_4 rfl 0 rfl ?_
  refine z_iload_n O dX5_init_5 rfl 1 rfl ?_
  obtain ⟨hk, h⟩ := h
  refine z_putiF O zp_X5_9_5 dX5_init_6 hk ?_
  generalize eM1 : zi M a0 0 x1 = M1
  replace h := h M1 eM1.symm
  refine z_aload_n O dX5_init_9 rfl 0 rfl ?_
  refine z_iload_n O dX5_init_10 rfl 2 rfl ?_
  obtain ⟨hk, h⟩ := h
  refine z_puti O zp_X5_15_5 dX5_init_11 hk ?_
  generalize eM2 : zi M1 a0 5 x2 = M2
  replace h := h M2 eM2.symm
  refine z_aload_n O dX5_init_14 rfl 0 rfl ?_
  obtain ⟨hn, hs, h⟩ := h
  refine z_new O zn_X5_18 dX5_init_15 hn hs (fun q3 fq3 => ?_)
  generalize eM4 : zn M2 q3 8 0 = M4
  replace h := h q3 fq3 M4 eM4.symm
  refine z_dup O dX5_init_18 rfl ?_
  refine z_aload_n O dX5_init_19 rfl 3 rfl ?_
  obtain ⟨hn, hs, h⟩ := h
  refine z_callIk (As := [.ref a3]) O zc_X5_20 h rfl (zRm_of hR (by decide) (by decide)) (Nat.le_of_ble_eq_true rfl) dX5_init_20 (mc := 17) (ms := 232) rfl rfl hn hs rfl (fun M5 v h => ?_)
  obtain ⟨rfl, h⟩ := h
  obtain ⟨hk, h⟩ := h
  refine z_putrF O zp_X5_23_5 dX5_init_23 hk ?_
  generalize eM6 : zr M5 a0 1 (some q3) = M6
  replace h := h M6 eM6.symm
  refine z_aload_n O dX5_init_26 rfl 0 rfl ?_
  refine z_bipush (v := 29) O dX5_init_27 rfl ?_
  obtain ⟨hn, hs, h⟩ := h
  refine z_newr (t := 5) (N := 29) O rfl zcl_X5_27 (by decide) dX5_init_29 (by decide) (by decide) (by decide) hn hs (fun q7 fq7 => ?_)
  generalize eM8 : zn M6 q7 107 29 = M8
  replace h := h q7 fq7 M8 eM8.symm
  obtain ⟨hk, h⟩ := h
  refine z_putrF O zp_X5_29_5 dX5_init_32 hk ?_
  generalize eM9 : zr M8 a0 2 (some q7) = M9
  replace h := h M9 eM9.symm
  exact z_vret O dX5_init_35 h
set_option maxRecDepth 100000 in
set_option maxHeartbeats 4000000 in
theorem b_X11_init_0 {G : zG} {X : zX} (O : zOK G X cX11_init 1 RX11 none "<init>") (hR : X.R = rm_X11_init) {M : zM} {n k : Nat} {a0 : Nat} (h : n + 1 ≤ X.R.cells ∧ k + 7 ≤ X.R.slots ∧ ∀ q1 : Nat, M.1 q1 = 0 → ∀ M2 : zM, M2 = zn M q1 9 0 → zC G yX9_init cX9_init 1 none rm_X9_init M2 [.ref q1] (fun M3 v => v = none ∧ M3.1 a0 = 11 ∧ ∀ M4 : zM, M4 = zr M3 a0 0 (some q1) → (n + 1) + 1 ≤ X.R.cells ∧ (k + 7) + 6 ≤ X.R.slots ∧ ∀ q5 : Nat, M4.1 q5 = 0 → ∀ M6 : zM, M6 = zn M4 q5 102 6 → M6.1 a0 = 11 ∧ ∀ M7 : zM, M7 = zr M6 a0 1 (some q5) → ((n + 1) + 1) + 1 ≤ X.R.cells ∧ ((k + 7) + 6) + 24 ≤ X.R.slots ∧ ∀ q8 : Nat, M7.1 q8 = 0 → ∀ M9 : zM, M9 = zn M7 q8 103 24 → M9.1 a0 = 11 ∧ ∀ M10 : zM, M10 = zr M9 a0 2 (some q8) → (((n + 1) + 1) + 1) + 1 ≤ X.R.cells ∧ (((k + 7) + 6) + 24) + 5 ≤ X.R.slots ∧ ∀ q11 : Nat, M10.1 q11 = 0 → ∀ M12 : zM, M12 = zn M10 q11 104 5 → M12.1 a0 = 11 ∧ ∀ M13 : zM, M13 = zr M12 a0 3 (some q11) → ((((n + 1) + 1) + 1) + 1) + 1 ≤ X.R.cells ∧ ((((k + 7) + 6) + 24) + 5) + 10 ≤ X.R.slots ∧ ∀ q14 : Nat, M13.1 q14 = 0 → ∀ M15 : zM, M15 = zn M13 q14 105 10 → M15.1 a0 = 11 ∧ ∀ M16 : zM, M16 = zr M15 a0 4 (some q14) → (((((n + 1) + 1) + 1) + 1) + 1) + 1 ≤ X.R.cells ∧ (((((k + 7) + 6) + 24) + 5) + 10) + 4 ≤ X.R.slots ∧ ∀ q17 : Nat, M16.1 q17 = 0 → ∀ M18 : zM, M18 = zn M16 q17 5 0 → ((((((n + 1) + 1) + 1) + 1) + 1) + 1) + 3 ≤ X.R.cells ∧ ((((((k + 7) + 6) + 24) + 5) + 10) + 4) + 192 ≤ X.R.slots ∧ zC G yX4_init cX4_init 1 none rm_X4_init M18 [.ref q17] (fun M19 v => v = none ∧ M19.1 a0 = 11 ∧ ∀ M20 : zM, M20 = zr M19 a0 5 (some q17) → (((((((n + 1) + 1) + 1) + 1) + 1) + 1) + 3) + 1 ≤ X.R.cells ∧ (((((((k + 7) + 6) + 24) + 5) + 10) + 4) + 192) + 60 ≤ X.R.slots ∧ ∀ q21 : Nat, M20.1 q21 = 0 → ∀ M22 : zM, M22 = zn M20 q21 100 60 → M22.1 a0 = 11 ∧ ∀ M23 : zM, M23 = zr M22 a0 6 (some q21) → ((((((((n + 1) + 1) + 1) + 1) + 1) + 1) + 3) + 1) + 1 ≤ X.R.cells ∧ ((((((((k + 7) + 6) + 24) + 5) + 10) + 4) + 192) + 60) + 5 ≤ X.R.slots ∧ ∀ q24 : Nat, M23.1 q24 = 0 → ∀ M25 : zM, M25 = zn M23 q24 10 0 → (((((((((n + 1) + 1) + 1) + 1) + 1) + 1) + 3) + 1) + 1) + 1 ≤ X.R.cells ∧ (((((((((k + 7) + 6) + 24) + 5) + 10) + 4) + 192) + 60) + 5) + 23 ≤ X.R.slots ∧ zC G yX10_init cX10_init 1 none rm_X10_init M25 [.ref q24] (fun M26 v => v = none ∧ M26.1 a0 = 11 ∧ ∀ M27 : zM, M27 = zr M26 a0 7 (some q24) → ((((((((((n + 1) + 1) + 1) + 1) + 1) + 1) + 3) + 1) + 1) + 1) + 1 ≤ X.R.cells ∧ ((((((((((k + 7) + 6) + 24) + 5) + 10) + 4) + 192) + 60) + 5) + 23) + 5 ≤ X.R.slots ∧ ∀ q28 : Nat, M27.1 q28 = 0 → ∀ M29 : zM, M29 = zn M27 q28 10 0 → (((((((((((n + 1) + 1) + 1) + 1) + 1) + 1) + 3) + 1) + 1) + 1) + 1) + 1 ≤ X.R.cells ∧ (((((((((((k + 7) + 6) + 24) + 5) + 10) + 4) + 192) + 60) + 5) + 23) + 5) + 23 ≤ X.R.slots ∧ zC G yX10_init cX10_init 1 none rm_X10_init M29 [.ref q28] (fun M30 v => v = none ∧ M30.1 a0 = 11 ∧ ∀ M31 : zM, M31 = zr M30 a0 8 (some q28) → M31.1 a0 = 11 ∧ ∀ M32 : zM, M32 = zi M31 a0 13 (-1) → M32.1 a0 = 11 ∧ ∀ M33 : zM, M33 = zi M32 a0 14 0 → X.q M33 none))))) : zW G X 1 M n k 0 [(0, .ref a0)] [] := by
  refine z_aload_n O dX11_init_0 rfl 0 rfl ?_
  refine z_obj O zob_X11_1 zob_1 zob_2 dX11_init_1 (by rw [hR]; decide) (by rw [hR]; decide) ?_
  refine z_aload_n O dX11_init_4 rfl 0 rfl ?_
  obtain ⟨hn, hs, h⟩ := h
  refine z_new O zn_X11_7 dX11_init_5 hn hs (fun q1 fq1 => ?_)
  generalize eM2 : zn M q1 9 0 = M2
  replace h := h q1 fq1 M2 eM2.symm
  refine z_dup O dX11_init_8 rfl ?_
  refine z_callIN0 (As := []) O zc_X11_9 h rfl (zRm_of hR (by decide) (by decide)) (Nat.le_of_ble_eq_true rfl) dX11_init_9 rfl rfl rfl (fun M3 v h => ?_)
  obtain ⟨rfl, h⟩ := h
  obtain ⟨hk, h⟩ := h
  refine z_putrF O zp_X11_10_10 dX11_init_12 hk ?_
  generalize eM4 : zr M3 a0 0 (some q1) = M4
  replace h := h M4 eM4.symm
  refine z_aload_n O dX11_init_15 rfl 0 rfl ?_
  refine z_bipush (v := 6) O dX11_init_16 rfl ?_
  obtain ⟨hn, hs, h⟩ := h
  refine z_newr (t := 0) (N := 6) O rfl zcl_X11_16 (by decide) dX11_init_18 (by decide) (by decide) (by decide) hn hs (fun q5 fq5 => ?_)
  generalize eM6 : zn M4 q5 102 6 = M6
  replace h := h q5 fq5 M6 eM6.symm
  obtain ⟨hk, h⟩ := h
  refine z_putrF O zp_X11_18_10 dX11_init_21 hk ?_
  generalize eM7 : zr M6 a0 1 (some q5) = M7
  replace h := h M7 eM7.symm
  refine z_aload_n O dX11_init_24 rfl 0 rfl ?_
  refine z_bipush (v := 24) O dX11_init_25 rfl ?_
  obtain ⟨hn, hs, h⟩ := h
  refine z_newr (t := 1) (N := 24) O rfl zcl_X11_22 (by decide) dX11_init_27 (by decide) (by decide) (by decide) hn hs (fun q8 fq8 => ?_)
  generalize eM9 : zn M7 q8 103 24 = M9
  replace h := h q8 fq8 M9 eM9.symm
  obtain ⟨hk, h⟩ := h
  refine z_putrF O zp_X11_24_10 dX11_init_30 hk ?_
  generalize eM10 : zr M9 a0 2 (some q8) = M10
  replace h := h M10 eM10.symm
  refine z_aload_n O dX11_init_33 rfl 0 rfl ?_
  refine z_iconst (v := 5) O dX11_init_34 rfl ?_
  obtain ⟨hn, hs, h⟩ := h
  refine z_newr (t := 2) (N := 5) O rfl zcl_X11_28 (by decide) dX11_init_35 (by decide) (by decide) (by decide) hn hs (fun q11 fq11 => ?_)
  generalize eM12 : zn M10 q11 104 5 = M12
  replace h := h q11 fq11 M12 eM12.symm
  obtain ⟨hk, h⟩ := h
  refine z_putrF O zp_X11_30_10 dX11_init_38 hk ?_
  generalize eM13 : zr M12 a0 3 (some q11) = M13
  replace h := h M13 eM13.symm
  refine z_aload_n O dX11_init_41 rfl 0 rfl ?_
  refine z_bipush (v := 10) O dX11_init_42 rfl ?_
  obtain ⟨hn, hs, h⟩ := h
  refine z_newr (t := 3) (N := 10) O rfl zcl_X11_34 (by decide) dX11_init_44 (by decide) (by decide) (by decide) hn hs (fun q14 fq14 => ?_)
  generalize eM15 : zn M13 q14 105 10 = M15
  replace h := h q14 fq14 M15 eM15.symm
  obtain ⟨hk, h⟩ := h
  refine z_putrF O zp_X11_36_10 dX11_init_47 hk ?_
  generalize eM16 : zr M15 a0 4 (some q14) = M16
  replace h := h M16 eM16.symm
  refine z_aload_n O dX11_init_50 rfl 0 rfl ?_
  obtain ⟨hn, hs, h⟩ := h
  refine z_new O zn_X11_40 dX11_init_51 hn hs (fun q17 fq17 => ?_)
  generalize eM18 : zn M16 q17 5 0 = M18
  replace h := h q17 fq17 M18 eM18.symm
  refine z_dup O dX11_init_54 rfl ?_
  obtain ⟨hn, hs, h⟩ := h
  refine z_callINk (As := []) O zc_X11_42 h rfl (zRm_of hR (by decide) (by decide)) (Nat.le_of_ble_eq_true rfl) dX11_init_55 (mc := 3) (ms := 192) rfl rfl hn hs rfl (fun M19 v h => ?_)
  obtain ⟨rfl, h⟩ := h
  obtain ⟨hk, h⟩ := h
  refine z_putrF O zp_X11_43_10 dX11_init_58 hk ?_
  generalize eM20 : zr M19 a0 5 (some q17) = M20
  replace h := h M20 eM20.symm
  refine z_aload_n O dX11_init_61 rfl 0 rfl ?_
  refine z_bipush (v := 60) O dX11_init_62 rfl ?_
  obtain ⟨hn, hs, h⟩ := h
  refine z_newi (N := 60) O zac_int dX11_init_64 (by decide) (by decide) (by decide) hn hs (fun q21 fq21 => ?_)
  generalize eM22 : zn M20 q21 100 60 = M22
  replace h := h q21 fq21 M22 eM22.symm
  obtain ⟨hk, h⟩ := h
  refine z_putrF O zp_X11_47_10 dX11_init_66 hk ?_
  generalize eM23 : zr M22 a0 6 (some q21) = M23
  replace h := h M23 eM23.symm
  refine z_aload_n O dX11_init_69 rfl 0 rfl ?_
  obtain ⟨hn, hs, h⟩ := h
  refine z_new O zn_X11_51 dX11_init_70 hn hs (fun q24 fq24 => ?_)
  generalize eM25 : zn M23 q24 10 0 = M25
  replace h := h q24 fq24 M25 eM25.symm
  refine z_dup O dX11_init_73 rfl ?_
  obtain ⟨hn, hs, h⟩ := h
  refine z_callINk (As := []) O zc_X11_53 h rfl (zRm_of hR (by decide) (by decide)) (Nat.le_of_ble_eq_true rfl) dX11_init_74 (mc := 1) (ms := 23) rfl rfl hn hs rfl (fun M26 v h => ?_)
  obtain ⟨rfl, h⟩ := h
  obtain ⟨hk, h⟩ := h
  refine z_putrF O zp_X11_54_10 dX11_init_77 hk ?_
  generalize eM27 : zr M26 a0 7 (some q24) = M27
  replace h := h M27 eM27.symm
  refine z_aload_n O dX11_init_80 rfl 0 rfl ?_
  obtain ⟨hn, hs, h⟩ := h
  refine z_new O zn_X11_51 dX11_init_81 hn hs (fun q28 fq28 => ?_)
  generalize eM29 : zn M27 q28 10 0 = M29
  replace h := h q28 fq28 M29 eM29.symm
  refine z_dup O dX11_init_84 rfl ?_
  obtain ⟨hn, hs, h⟩ := h
  refine z_callINk (As := []) O zc_X11_53 h rfl (zRm_of hR (by decide) (by decide)) (Nat.le_of_ble_eq_true rfl) dX11_init_85 (mc := 1) (ms := 23) rfl rfl hn hs rfl (fun M30 v h => ?_)
  obtain ⟨rfl, h⟩ := h
  obtain ⟨hk, h⟩ := h
  refine z_putrF O zp_X11_58_10 dX11_init_88 hk ?_
  generalize eM31 : zr M30 a0 8 (some q28) = M31
  replace h := h M31 eM31.symm
  refine z_aload_n O dX11_init_91 rfl 0 rfl ?_
  refine z_iconst (v := (-1)) O dX11_init_92 rfl ?_
  obtain ⟨hk, h⟩ := h
  refine z_puti O zp_X11_61_10 dX11_init_93 hk ?_
  generalize eM32 : zi M31 a0 13 (-1) = M32
  replace h := h M32 eM32.symm
  refine z_aload_n O dX11_init_96 rfl 0 rfl ?_
  refine z_iconst (v := 0) O dX11_init_97 rfl ?_
  obtain ⟨hk, h⟩ := h
  refine z_puti O zp_X11_65_10 dX11_init_98 hk ?_
  generalize eM33 : zi M32 a0 14 0 = M33
  replace h := h M33 eM33.symm
  exact z_vret O dX11_init_101 h
set_option maxRecDepth 100000 in
set_option maxHeartbeats 4000000 in
theorem b_X11_isWithin_0 {G : zG} {X : zX} (O : zOK G X cX11_isWithin 3 RX11 (some .boolean) "isWithin") (hR : X.R = rm_X11_isWithin) {M : zM} {n k : Nat} {x0 : Int32} {x1 : Int32} {x2 : Int32} (h : (x0 < x1 → X.q M (some (.int 0))) ∧ (¬ x0 < x1 → (x2 < x0 → X.q M (some (.int 0))) ∧ (¬ x2 < x0 → X.q M (some (.int 1))))) : zW G X 3 M n k 0 [(0, .int x0), (1, .int x1), (2, .int x2)] [] := by
  refine z_iload_n O dX11_isWithin_0 rfl 0 rfl ?_
  refine z_iload_n O dX11_isWithin_1 rfl 1 rfl ?_
  refine z_icmp_lt O 14 dX11_isWithin_2 (by decide) (fun c => ?_) (fun c => ?_)
  · replace h := h.1 c
    refine z_iconst (v := 0) O dX11_isWithin_14 rfl ?_
    exact z_zret O dX11_isWithin_15 (by decide) h
  · replace h := h.2 c
    refine z_iload_n O dX11_isWithin_5 rfl 0 rfl ?_
    refine z_iload_n O dX11_isWithin_6 rfl 2 rfl ?_
    refine z_icmp_gt O 14 dX11_isWithin_7 (by decide) (fun c => ?_) (fun c => ?_)
    · replace h := h.1 c
      refine z_iconst (v := 0) O dX11_isWithin_14 rfl ?_
      exact z_zret O dX11_isWithin_15 (by decide) h
    · replace h := h.2 c
      refine z_iconst (v := 1) O dX11_isWithin_10 rfl ?_
      refine z_goto O 15 dX11_isWithin_11 (by decide) ?_
      exact z_zret O dX11_isWithin_15 (by decide) h
set_option maxRecDepth 100000 in
set_option maxHeartbeats 4000000 in
theorem b_X11_line_0 {G : zG} {X : zX} (O : zOK G X cX11_line 2 RX11 (some .int) "line") (hR : X.R = rm_X11_line) {M : zM} {n k : Nat} {a0 : Nat} {x1 : Int32} (h : M.1 a0 = 11 ∧ (6 ≤ (M.2.2.1 a0 9) → X.q M (some (.int (-1)))) ∧ (¬ 6 ≤ (M.2.2.1 a0 9) → zC G yX11_isWithin cX11_isWithin 3 (some .boolean) rm_X11_isWithin M [.int x1, .int 0, .int 255] (fun M1 v => ∃ r2 : Int32, v = some (.int r2) ∧ (r2 = 0 → X.q M1 (some (.int (-1)))) ∧ (¬ r2 = 0 → M1.1 a0 = 11 ∧ zC G yX11_lineOfNumber cX11_lineOfNumber 3 (some .int) rm_X11_lineOfNumber M1 [.ref a0, .int x1] (fun M3 v => ∃ r4 : Int32, v = some (.int r4) ∧ (r4 = (-1) → M3.1 a0 = 11 ∧ ∃ b5 : Nat, M3.2.2.2 a0 1 = some b5 ∧ M3.1 a0 = 11 ∧ n + 1 ≤ X.R.cells ∧ k + 6 ≤ X.R.slots ∧ ∀ q6 : Nat, M3.1 q6 = 0 → ∀ M7 : zM, M7 = zn M3 q6 6 0 → M7.1 a0 = 11 ∧ M7.1 a0 = 11 ∧ ∃ b8 : Nat, M7.2.2.2 a0 0 = some b8 ∧ (n + 1) + 19 ≤ X.R.cells ∧ (k + 6) + 264 ≤ X.R.slots ∧ zC G yX5_init cX5_init 4 none rm_X5_init M7 [.ref q6, .int x1, .int (1 <<< ((M7.2.2.1 a0 9) &&& 31)), .ref b8] (fun M9 v => v = none ∧ M9.1 b5 = 102 ∧ M9.1 q6 = 6 ∧ vp_in ((M3.2.2.1 a0 9)) (M9.2.1 b5) ∧ ∀ M10 : zM, M10 = zr M9 b5 (((M3.2.2.1 a0 9)).toNatClampNeg) (some q6) → M10.1 a0 = 11 ∧ M10.1 a0 = 11 ∧ ∀ M11 : zM, M11 = zi M10 a0 9 ((M10.2.2.1 a0 9) + 1) → M11.1 a0 = 11 ∧ X.q M11 (some (.int ((M11.2.2.1 a0 9) - 1))))) ∧ (¬ r4 = (-1) → X.q M3 (some (.int (-1))))))))) : zW G X 2 M n k 0 [(0, .ref a0), (1, .int x1)] [] := by
  refine z_aload_n O dX11_line_0 rfl 0 rfl ?_
  obtain ⟨hk, h⟩ := h
  refine z_geti O zf_X11_68_10 dX11_line_1 hk ?_
  refine z_bipush (v := 6) O dX11_line_4 rfl ?_
  refine z_icmp_ge O 29 dX11_line_6 (by decide) (fun c => ?_) (fun c => ?_)
  · replace h := h.1 c
    refine z_iconst (v := (-1)) O dX11_line_29 rfl ?_
    exact z_iret O dX11_line_30 h
  · replace h := h.2 c
    refine z_iload_n O dX11_line_9 rfl 1 rfl ?_
    refine z_iconst (v := 0) O dX11_line_10 rfl ?_
    refine z_sipush (v := 255) O dX11_line_11 rfl ?_
    refine z_callS0 (As := [.int x1, .int 0, .int 255]) O zc_X11_71 h rfl (zRm_of hR (by decide) (by decide)) (Nat.le_of_ble_eq_true rfl) dX11_line_14 rfl rfl rfl (fun M1 v h => ?_)
    obtain ⟨r2, rfl, h⟩ := h
    refine z_if_eq O 29 dX11_line_17 (by decide) (fun c => ?_) (fun c => ?_)
    · replace h := h.1 c
      refine z_iconst (v := (-1)) O dX11_line_29 rfl ?_
      exact z_iret O dX11_line_30 h
    · replace h := h.2 c
      refine z_aload_n O dX11_line_20 rfl 0 rfl ?_
      refine z_iload_n O dX11_line_21 rfl 1 rfl ?_
      obtain ⟨hk, h⟩ := h
      refine z_callV0 (As := [.int x1]) O zc_X11_75 h hk rfl (zRm_of hR (by decide) (by decide)) (Nat.le_of_ble_eq_true rfl) dX11_line_22 rfl rfl rfl (fun M3 v h => ?_)
      obtain ⟨r4, rfl, h⟩ := h
      refine z_iconst (v := (-1)) O dX11_line_25 rfl ?_
      refine z_icmp_eq O 31 dX11_line_26 (by decide) (fun c => ?_) (fun c => ?_)
      · replace h := h.1 c
        refine z_aload_n O dX11_line_31 rfl 0 rfl ?_
        obtain ⟨hk, b5, hr, h⟩ := h
        refine z_getr O zf_X11_18_10 dX11_line_32 hk hr ?_
        refine z_aload_n O dX11_line_35 rfl 0 rfl ?_
        obtain ⟨hk, h⟩ := h
        refine z_geti O zf_X11_68_10 dX11_line_36 hk ?_
        obtain ⟨hn, hs, h⟩ := h
        refine z_new O zn_X11_16 dX11_line_39 hn hs (fun q6 fq6 => ?_)
        generalize eM7 : zn M3 q6 6 0 = M7
        replace h := h q6 fq6 M7 eM7.symm
        refine z_dup O dX11_line_42 rfl ?_
        refine z_iload_n O dX11_line_43 rfl 1 rfl ?_
        refine z_iconst (v := 1) O dX11_line_44 rfl ?_
        refine z_aload_n O dX11_line_45 rfl 0 rfl ?_
        obtain ⟨hk, h⟩ := h
        refine z_geti O zf_X11_68_10 dX11_line_46 hk ?_
        refine z_ishl O dX11_line_49 ?_
        refine z_aload_n O dX11_line_50 rfl 0 rfl ?_
        obtain ⟨hk, b8, hr, h⟩ := h
        refine z_getr O zf_X11_10_10 dX11_line_51 hk hr ?_
        obtain ⟨hn, hs, h⟩ := h
        refine z_callIk (As := [.int x1, .int (1 <<< ((M7.2.2.1 a0 9) &&& 31)), .ref b8]) O zc_X11_79 h rfl (zRm_of hR (by decide) (by decide)) (Nat.le_of_ble_eq_true rfl) dX11_line_54 (mc := 19) (ms := 264) rfl rfl hn hs rfl (fun M9 v h => ?_)
        obtain ⟨rfl, h⟩ := h
        obtain ⟨hk, hkv, hi, h⟩ := h
        refine z_ast (t := 0) (ci := 5) (C := RX5) (T := TX5) (N := 6) O rfl rfl (by decide) dX11_line_57 hk hkv hi ?_
        generalize eM10 : zr M9 b5 (((M3.2.2.1 a0 9)).toNatClampNeg) (some q6) = M10
        replace h := h M10 eM10.symm
        refine z_aload_n O dX11_line_58 rfl 0 rfl ?_
        refine z_dup O dX11_line_59 rfl ?_
        obtain ⟨hk, h⟩ := h
        refine z_geti O zf_X11_68_10 dX11_line_60 hk ?_
        refine z_iconst (v := 1) O dX11_line_63 rfl ?_
        refine z_iadd O dX11_line_64 ?_
        obtain ⟨hk, h⟩ := h
        refine z_puti O zp_X11_68_10 dX11_line_65 hk ?_
        generalize eM11 : zi M10 a0 9 ((M10.2.2.1 a0 9) + 1) = M11
        replace h := h M11 eM11.symm
        refine z_aload_n O dX11_line_68 rfl 0 rfl ?_
        obtain ⟨hk, h⟩ := h
        refine z_geti O zf_X11_68_10 dX11_line_69 hk ?_
        refine z_iconst (v := 1) O dX11_line_72 rfl ?_
        refine z_isub O dX11_line_73 ?_
        exact z_iret O dX11_line_74 h
      · replace h := h.2 c
        refine z_iconst (v := (-1)) O dX11_line_29 rfl ?_
        exact z_iret O dX11_line_30 h
set_option maxRecDepth 100000 in
set_option maxHeartbeats 4000000 in
theorem b_X11_lineOfNumber_0 {G : zG} {X : zX} (O : zOK G X cX11_lineOfNumber 3 RX11 (some .int) "lineOfNumber") (hR : X.R = rm_X11_lineOfNumber) {M : zM} {n k : Nat} {a0 : Nat} {x1 : Int32} (h : zW G X 3 M n k 2 [(0, .ref a0), (1, .int x1), (2, .int 0)] []) : zW G X 3 M n k 0 [(0, .ref a0), (1, .int x1)] [] := by
  refine z_iconst (v := 0) O dX11_lineOfNumber_0 rfl ?_
  refine z_istore_n (lv' := [(2, .int 0), (0, .ref a0), (1, .int x1)]) O dX11_lineOfNumber_1 rfl (by decide) rfl ?_
  exact z_to [1, 2, 0] rfl h
set_option maxRecDepth 100000 in
set_option maxHeartbeats 4000000 in
theorem b_X11_lineOfNumber_2 {G : zG} {X : zX} (O : zOK G X cX11_lineOfNumber 3 RX11 (some .int) "lineOfNumber") (hR : X.R = rm_X11_lineOfNumber) {M : zM} {n k : Nat} {a0 : Nat} {x1 : Int32} {x2 : Int32} (h : M.1 a0 = 11 ∧ ((M.2.2.1 a0 9) ≤ x2 → X.q M (some (.int (-1)))) ∧ (¬ (M.2.2.1 a0 9) ≤ x2 → M.1 a0 = 11 ∧ ∃ b1 : Nat, M.2.2.2 a0 1 = some b1 ∧ M.1 b1 = 102 ∧ vp_in x2 (M.2.1 b1) ∧ ∃ b2 : Nat, M.2.2.2 b1 x2.toNatClampNeg = some b2 ∧ M.1 b2 = 6 ∧ (¬ (M.2.2.1 b2 0) = x1 → ∀ y3 : Int32, y3 = x2 + 1 → zW G X 3 M n k 2 [(0, .ref a0), (1, .int x1), (2, .int y3)] []) ∧ ((M.2.2.1 b2 0) = x1 → X.q M (some (.int x2))))) : zW G X 3 M n k 2 [(0, .ref a0), (1, .int x1), (2, .int x2)] [] := by
  refine z_iload_n O dX11_lineOfNumber_2 rfl 2 rfl ?_
  refine z_aload_n O dX11_lineOfNumber_3 rfl 0 rfl ?_
  obtain ⟨hk, h⟩ := h
  refine z_geti O zf_X11_68_10 dX11_lineOfNumber_4 hk ?_
  refine z_icmp_ge O 31 dX11_lineOfNumber_7 (by decide) (fun c => ?_) (fun c => ?_)
  · replace h := h.1 c
    refine z_iconst (v := (-1)) O dX11_lineOfNumber_31 rfl ?_
    exact z_iret O dX11_lineOfNumber_32 h
  · replace h := h.2 c
    refine z_aload_n O dX11_lineOfNumber_10 rfl 0 rfl ?_
    obtain ⟨hk, b1, hr, h⟩ := h
    refine z_getr O zf_X11_18_10 dX11_lineOfNumber_11 hk hr ?_
    refine z_iload_n O dX11_lineOfNumber_14 rfl 2 rfl ?_
    obtain ⟨hk, hi, b2, hr, h⟩ := h
    refine z_ald (t := 0) O rfl dX11_lineOfNumber_15 hk hi hr ?_
    obtain ⟨hk, h⟩ := h
    refine z_geti O zf_X11_89_5 dX11_lineOfNumber_16 hk ?_
    refine z_iload_n O dX11_lineOfNumber_19 rfl 1 rfl ?_
    refine z_icmp_ne O 25 dX11_lineOfNumber_20 (by decide) (fun c => ?_) (fun c => ?_)
    · replace h := h.1 c
      obtain ⟨y3, ey3⟩ : ∃ y : Int32, y = x2 + 1 := ⟨_, rfl⟩
      replace h := h y3 ey3
      refine z_iinc (v := y3) (lv' := [(2, .int y3), (0, .ref a0), (1, .int x1)]) O dX11_lineOfNumber_25 (q := 2) rfl (by rw [ey3]; rfl) (by decide) rfl ?_
      refine z_goto O 2 dX11_lineOfNumber_28 (by decide) ?_
      exact z_to [1, 2, 0] rfl h
    · replace h := h.2 c
      refine z_iload_n O dX11_lineOfNumber_23 rfl 2 rfl ?_
      exact z_iret O dX11_lineOfNumber_24 h
set_option maxRecDepth 100000 in
set_option maxHeartbeats 4000000 in
theorem b_X11_lineAt_0 {G : zG} {X : zX} (O : zOK G X cX11_lineAt 2 RX11 (some (.object "HouseWires$Line")) "lineAt") (hR : X.R = rm_X11_lineAt) {M : zM} {n k : Nat} {a0 : Nat} {x1 : Int32} (h : M.1 a0 = 11 ∧ zC G yX11_isWithin cX11_isWithin 3 (some .boolean) rm_X11_isWithin M [.int x1, .int 0, .int ((M.2.2.1 a0 9) - 1)] (fun M1 v => ∃ r2 : Int32, v = some (.int r2) ∧ (r2 = 0 → X.q M1 (some .null)) ∧ (¬ r2 = 0 → M1.1 a0 = 11 ∧ ∃ b3 : Nat, M1.2.2.2 a0 1 = some b3 ∧ M1.1 b3 = 102 ∧ vp_in x1 (M1.2.1 b3) ∧ ∃ b4 : Nat, M1.2.2.2 b3 x1.toNatClampNeg = some b4 ∧ X.q M1 (some (.ref b4))))) : zW G X 2 M n k 0 [(0, .ref a0), (1, .int x1)] [] := by
  refine z_iload_n O dX11_lineAt_0 rfl 1 rfl ?_
  refine z_iconst (v := 0) O dX11_lineAt_1 rfl ?_
  refine z_aload_n O dX11_lineAt_2 rfl 0 rfl ?_
  obtain ⟨hk, h⟩ := h
  refine z_geti O zf_X11_68_10 dX11_lineAt_3 hk ?_
  refine z_iconst (v := 1) O dX11_lineAt_6 rfl ?_
  refine z_isub O dX11_lineAt_7 ?_
  refine z_callS0 (As := [.int x1, .int 0, .int ((M.2.2.1 a0 9) - 1)]) O zc_X11_71 h rfl (zRm_of hR (by decide) (by decide)) (Nat.le_of_ble_eq_true rfl) dX11_lineAt_8 rfl rfl rfl (fun M1 v h => ?_)
  obtain ⟨r2, rfl, h⟩ := h
  refine z_if_eq O 23 dX11_lineAt_11 (by decide) (fun c => ?_) (fun c => ?_)
  · replace h := h.1 c
    refine z_null O dX11_lineAt_23 ?_
    exact z_aretN O dX11_lineAt_24 h
  · replace h := h.2 c
    refine z_aload_n O dX11_lineAt_14 rfl 0 rfl ?_
    obtain ⟨hk, b3, hr, h⟩ := h
    refine z_getr O zf_X11_18_10 dX11_lineAt_15 hk hr ?_
    refine z_iload_n O dX11_lineAt_18 rfl 1 rfl ?_
    obtain ⟨hk, hi, b4, hr, h⟩ := h
    refine z_ald (t := 0) O rfl dX11_lineAt_19 hk hi hr ?_
    refine z_goto O 24 dX11_lineAt_20 (by decide) ?_
    exact z_aret O dX11_lineAt_24 h
set_option maxRecDepth 100000 in
set_option maxHeartbeats 4000000 in
theorem b_X11_device_0 {G : zG} {X : zX} (O : zOK G X cX11_device 8 RX11 (some .int) "device") (hR : X.R = rm_X11_device) {M : zM} {n k : Nat} {a0 : Nat} {x1 : Int32} {x2 : Int32} (h : M.1 a0 = 11 ∧ zC G yX11_lineAt cX11_lineAt 2 (some (.object "HouseWires$Line")) rm_X11_lineAt M [.ref a0, .int x1] (fun M1 v => (v = some .null ∧ M1.1 a0 = 11 ∧ (24 ≤ (M1.2.2.1 a0 10) → X.q M1 (some (.int (-1)))) ∧ (¬ 24 ≤ (M1.2.2.1 a0 10) → X.q M1 (some (.int (-1))))) ∨ ∃ b2 : Nat, v = some (.ref b2) ∧ M1.1 a0 = 11 ∧ (24 ≤ (M1.2.2.1 a0 10) → X.q M1 (some (.int (-1)))) ∧ (¬ 24 ≤ (M1.2.2.1 a0 10) → zC G yX11_isWithin cX11_isWithin 3 (some .boolean) rm_X11_isWithin M1 [.int x2, .int 1, .int 255] (fun M3 v => ∃ r4 : Int32, v = some (.int r4) ∧ (¬ r4 = 0 → M3.1 b2 = 6 ∧ ∀ y5 : Int32, y5 = ((256 * (M3.2.2.1 b2 0)) + x2) → M3.1 a0 = 11 ∧ zC G yX11_hasDeviceOf cX11_hasDeviceOf 3 (some .boolean) rm_X11_hasDeviceOf M3 [.ref a0, .int y5] (fun M6 v => ∃ r7 : Int32, v = some (.int r7) ∧ (r7 = 0 → n + 1 ≤ X.R.cells ∧ k + 3 ≤ X.R.slots ∧ ∀ q8 : Nat, M6.1 q8 = 0 → ∀ M9 : zM, M9 = zn M6 q8 8 0 → M9.1 a0 = 11 ∧ ∃ b10 : Nat, M9.2.2.2 a0 0 = some b10 ∧ (n + 1) + 17 ≤ X.R.cells ∧ (k + 3) + 232 ≤ X.R.slots ∧ zC G yX7_init cX7_init 3 none rm_X7_init M9 [.ref q8, .ref b10] (fun M11 v => v = none ∧ ((n + 1) + 17) + 1 ≤ X.R.cells ∧ ((k + 3) + 232) + 5 ≤ X.R.slots ∧ ∀ q12 : Nat, M11.1 q12 = 0 → ∀ M13 : zM, M13 = zn M11 q12 10 0 → (((n + 1) + 17) + 1) + 1 ≤ X.R.cells ∧ (((k + 3) + 232) + 5) + 23 ≤ X.R.slots ∧ zC G yX10_init cX10_init 1 none rm_X10_init M13 [.ref q12] (fun M14 v => v = none ∧ ((((n + 1) + 17) + 1) + 1) + 1 ≤ X.R.cells ∧ ((((k + 3) + 232) + 5) + 23) + 11 ≤ X.R.slots ∧ ∀ q15 : Nat, M14.1 q15 = 0 → ∀ M16 : zM, M16 = zn M14 q15 2 0 → (((((n + 1) + 17) + 1) + 1) + 1) + 1 ≤ X.R.cells ∧ (((((k + 3) + 232) + 5) + 23) + 11) + 15 ≤ X.R.slots ∧ ∀ q17 : Nat, M16.1 q17 = 0 → ∀ M18 : zM, M18 = zn M16 q17 1 0 → ((((((n + 1) + 17) + 1) + 1) + 1) + 1) + 4 ≤ X.R.cells ∧ ((((((k + 3) + 232) + 5) + 23) + 11) + 15) + 104 ≤ X.R.slots ∧ zC G yX0_init cX0_init 4 none rm_X0_init M18 [.ref q17, .int y5, .ref q8, .ref q12] (fun M19 v => v = none ∧ (((((((n + 1) + 17) + 1) + 1) + 1) + 1) + 4) + 5 ≤ X.R.cells ∧ (((((((k + 3) + 232) + 5) + 23) + 11) + 15) + 104) + 88 ≤ X.R.slots ∧ zC G yX1_init cX1_init 5 none rm_X1_init M19 [.ref q15, .int y5, .ref q8, .ref q12, .ref q17] (fun M20 v => v = none ∧ M20.1 b2 = 6 ∧ zC G yX5_addDevice cX5_addDevice 3 none rm_X5_addDevice M20 [.ref b2, .ref q15] (fun M21 v => v = none ∧ M21.1 a0 = 11 ∧ ∃ b22 : Nat, M21.2.2.2 a0 2 = some b22 ∧ M21.1 a0 = 11 ∧ M21.1 b22 = 103 ∧ M21.1 q15 = 2 ∧ vp_in ((M21.2.2.1 a0 10)) (M21.2.1 b22) ∧ ∀ M23 : zM, M23 = zr M21 b22 (((M21.2.2.1 a0 10)).toNatClampNeg) (some q15) → M23.1 a0 = 11 ∧ M23.1 a0 = 11 ∧ ∀ M24 : zM, M24 = zi M23 a0 10 ((M23.2.2.1 a0 10) + 1) → M24.1 a0 = 11 ∧ X.q M24 (some (.int ((M24.2.2.1 a0 10) - 1))))))))) ∧ (¬ r7 = 0 → X.q M6 (some (.int (-1)))))) ∧ (r4 = 0 → X.q M3 (some (.int (-1)))))))) : zW G X 8 M n k 0 [(0, .ref a0), (1, .int x1), (2, .int x2)] [] := by
  refine z_aload_n O dX11_device_0 rfl 0 rfl ?_
  refine z_iload_n O dX11_device_1 rfl 1 rfl ?_
  obtain ⟨hk, h⟩ := h
  refine z_callV0 (As := [.int x1]) O zc_X11_82 h hk rfl (zRm_of hR (by decide) (by decide)) (Nat.le_of_ble_eq_true rfl) dX11_device_2 rfl rfl rfl (fun M1 v h => ?_)
  rcases h with ⟨rfl, h⟩ | ⟨b2, rfl, h⟩
  · skip
    refine z_astore_nN (lv' := [(3, .null), (0, .ref a0), (1, .int x1), (2, .int x2)]) O dX11_device_5 rfl (by decide) rfl ?_
    refine z_aload_n O dX11_device_6 rfl 1 rfl ?_
    obtain ⟨hk, h⟩ := h
    refine z_geti O zf_X11_86_10 dX11_device_7 hk ?_
    refine z_bipush (v := 24) O dX11_device_10 rfl ?_
    refine z_icmp_ge O 30 dX11_device_12 (by decide) (fun c => ?_) (fun c => ?_)
    · replace h := h.1 c
      refine z_iconst (v := (-1)) O dX11_device_30 rfl ?_
      exact z_iret O dX11_device_31 h
    · replace h := h.2 c
      refine z_aload_nN O dX11_device_15 rfl 0 rfl ?_
      refine z_ifnullN O 30 dX11_device_16 (by decide) ?_
      refine z_iconst (v := (-1)) O dX11_device_30 rfl ?_
      exact z_iret O dX11_device_31 h
  · skip
    refine z_astore_n (lv' := [(3, .ref b2), (0, .ref a0), (1, .int x1), (2, .int x2)]) O dX11_device_5 rfl (by decide) rfl ?_
    refine z_aload_n O dX11_device_6 rfl 1 rfl ?_
    obtain ⟨hk, h⟩ := h
    refine z_geti O zf_X11_86_10 dX11_device_7 hk ?_
    refine z_bipush (v := 24) O dX11_device_10 rfl ?_
    refine z_icmp_ge O 30 dX11_device_12 (by decide) (fun c => ?_) (fun c => ?_)
    · replace h := h.1 c
      refine z_iconst (v := (-1)) O dX11_device_30 rfl ?_
      exact z_iret O dX11_device_31 h
    · replace h := h.2 c
      refine z_aload_n O dX11_device_15 rfl 0 rfl ?_
      refine z_ifnull O dX11_device_16 ?_
      refine z_iload_n O dX11_device_19 rfl 3 rfl ?_
      refine z_iconst (v := 1) O dX11_device_20 rfl ?_
      refine z_sipush (v := 255) O dX11_device_21 rfl ?_
      refine z_callS0 (As := [.int x2, .int 1, .int 255]) O zc_X11_71 h rfl (zRm_of hR (by decide) (by decide)) (Nat.le_of_ble_eq_true rfl) dX11_device_24 rfl rfl rfl (fun M3 v h => ?_)
      obtain ⟨r4, rfl, h⟩ := h
      refine z_if_ne O 32 dX11_device_27 (by decide) (fun c => ?_) (fun c => ?_)
      · replace h := h.1 c
        refine z_sipush (v := 256) O dX11_device_32 rfl ?_
        refine z_aload_n O dX11_device_35 rfl 0 rfl ?_
        obtain ⟨hk, h⟩ := h
        refine z_geti O zf_X11_89_5 dX11_device_36 hk ?_
        refine z_imul O dX11_device_39 ?_
        refine z_iload_n O dX11_device_40 rfl 3 rfl ?_
        refine z_iadd O dX11_device_41 ?_
        refine z_topi (fun y5 ey5 => ?_)
        replace h := h y5 ey5
        refine z_istore (lv' := [(4, .int y5), (3, .ref b2), (0, .ref a0), (1, .int x1), (2, .int x2)]) O dX11_device_42 (by decide) rfl ?_
        refine z_aload_n O dX11_device_44 rfl 2 rfl ?_
        refine z_iload O dX11_device_45 0 rfl ?_
        obtain ⟨hk, h⟩ := h
        refine z_callV0 (As := [.int y5]) O zc_X11_92 h hk rfl (zRm_of hR (by decide) (by decide)) (Nat.le_of_ble_eq_true rfl) dX11_device_47 rfl rfl rfl (fun M6 v h => ?_)
        obtain ⟨r7, rfl, h⟩ := h
        refine z_if_eq O 55 dX11_device_50 (by decide) (fun c => ?_) (fun c => ?_)
        · replace h := h.1 c
          obtain ⟨hn, hs, h⟩ := h
          refine z_new O zn_X11_96 dX11_device_55 hn hs (fun q8 fq8 => ?_)
          generalize eM9 : zn M6 q8 8 0 = M9
          replace h := h q8 fq8 M9 eM9.symm
          refine z_dup O dX11_device_58 rfl ?_
          refine z_aload_n O dX11_device_59 rfl 2 rfl ?_
          obtain ⟨hk, b10, hr, h⟩ := h
          refine z_getr O zf_X11_10_10 dX11_device_60 hk hr ?_
          obtain ⟨hn, hs, h⟩ := h
          refine z_callIk (As := [.ref b10]) O zc_X11_98 h rfl (zRm_of hR (by decide) (by decide)) (Nat.le_of_ble_eq_true rfl) dX11_device_63 (mc := 17) (ms := 232) rfl rfl hn hs rfl (fun M11 v h => ?_)
          obtain ⟨rfl, h⟩ := h
          refine z_astore (lv' := [(5, .ref q8), (4, .int y5), (3, .ref b2), (0, .ref a0), (1, .int x1), (2, .int x2)]) O dX11_device_66 (by decide) rfl ?_
          obtain ⟨hn, hs, h⟩ := h
          refine z_new O zn_X11_51 dX11_device_68 hn hs (fun q12 fq12 => ?_)
          generalize eM13 : zn M11 q12 10 0 = M13
          replace h := h q12 fq12 M13 eM13.symm
          refine z_dup O dX11_device_71 rfl ?_
          obtain ⟨hn, hs, h⟩ := h
          refine z_callINk (As := []) O zc_X11_53 h rfl (zRm_of hR (by decide) (by decide)) (Nat.le_of_ble_eq_true rfl) dX11_device_72 (mc := 1) (ms := 23) rfl rfl hn hs rfl (fun M14 v h => ?_)
          obtain ⟨rfl, h⟩ := h
          refine z_astore (lv' := [(6, .ref q12), (5, .ref q8), (4, .int y5), (3, .ref b2), (0, .ref a0), (1, .int x1), (2, .int x2)]) O dX11_device_75 (by decide) rfl ?_
          obtain ⟨hn, hs, h⟩ := h
          refine z_new O zn_X11_22 dX11_device_77 hn hs (fun q15 fq15 => ?_)
          generalize eM16 : zn M14 q15 2 0 = M16
          replace h := h q15 fq15 M16 eM16.symm
          refine z_dup O dX11_device_80 rfl ?_
          refine z_iload O dX11_device_81 2 rfl ?_
          refine z_aload O dX11_device_83 1 rfl ?_
          refine z_aload O dX11_device_85 0 rfl ?_
          obtain ⟨hn, hs, h⟩ := h
          refine z_new O zn_X11_101 dX11_device_87 hn hs (fun q17 fq17 => ?_)
          generalize eM18 : zn M16 q17 1 0 = M18
          replace h := h q17 fq17 M18 eM18.symm
          refine z_dup O dX11_device_90 rfl ?_
          refine z_iload O dX11_device_91 2 rfl ?_
          refine z_aload O dX11_device_93 1 rfl ?_
          refine z_aload O dX11_device_95 0 rfl ?_
          obtain ⟨hn, hs, h⟩ := h
          refine z_callIk (As := [.int y5, .ref q8, .ref q12]) O zc_X11_103 h rfl (zRm_of hR (by decide) (by decide)) (Nat.le_of_ble_eq_true rfl) dX11_device_97 (mc := 4) (ms := 104) rfl rfl hn hs rfl (fun M19 v h => ?_)
          obtain ⟨rfl, h⟩ := h
          obtain ⟨hn, hs, h⟩ := h
          refine z_callIk (As := [.int y5, .ref q8, .ref q12, .ref q17]) O zc_X11_106 h rfl (zRm_of hR (by decide) (by decide)) (Nat.le_of_ble_eq_true rfl) dX11_device_100 (mc := 5) (ms := 88) rfl rfl hn hs rfl (fun M20 v h => ?_)
          obtain ⟨rfl, h⟩ := h
          refine z_astore (lv' := [(7, .ref q15), (6, .ref q12), (5, .ref q8), (4, .int y5), (3, .ref b2), (0, .ref a0), (1, .int x1), (2, .int x2)]) O dX11_device_103 (by decide) rfl ?_
          refine z_aload_n O dX11_device_105 rfl 4 rfl ?_
          refine z_aload O dX11_device_106 0 rfl ?_
          obtain ⟨hk, h⟩ := h
          refine z_callV0 (As := [.ref q15]) O zc_X11_109 h hk rfl (zRm_of hR (by decide) (by decide)) (Nat.le_of_ble_eq_true rfl) dX11_device_108 rfl rfl rfl (fun M21 v h => ?_)
          obtain ⟨rfl, h⟩ := h
          refine z_aload_n O dX11_device_111 rfl 5 rfl ?_
          obtain ⟨hk, b22, hr, h⟩ := h
          refine z_getr O zf_X11_24_10 dX11_device_112 hk hr ?_
          refine z_aload_n O dX11_device_115 rfl 5 rfl ?_
          obtain ⟨hk, h⟩ := h
          refine z_geti O zf_X11_86_10 dX11_device_116 hk ?_
          refine z_aload O dX11_device_119 0 rfl ?_
          obtain ⟨hk, hkv, hi, h⟩ := h
          refine z_ast (t := 1) (ci := 1) (C := RX1) (T := TX1) (N := 11) O rfl rfl (by decide) dX11_device_121 hk hkv hi ?_
          generalize eM23 : zr M21 b22 (((M21.2.2.1 a0 10)).toNatClampNeg) (some q15) = M23
          replace h := h M23 eM23.symm
          refine z_aload_n O dX11_device_122 rfl 5 rfl ?_
          refine z_dup O dX11_device_123 rfl ?_
          obtain ⟨hk, h⟩ := h
          refine z_geti O zf_X11_86_10 dX11_device_124 hk ?_
          refine z_iconst (v := 1) O dX11_device_127 rfl ?_
          refine z_iadd O dX11_device_128 ?_
          obtain ⟨hk, h⟩ := h
          refine z_puti O zp_X11_86_10 dX11_device_129 hk ?_
          generalize eM24 : zi M23 a0 10 ((M23.2.2.1 a0 10) + 1) = M24
          replace h := h M24 eM24.symm
          refine z_aload_n O dX11_device_132 rfl 5 rfl ?_
          obtain ⟨hk, h⟩ := h
          refine z_geti O zf_X11_86_10 dX11_device_133 hk ?_
          refine z_iconst (v := 1) O dX11_device_136 rfl ?_
          refine z_isub O dX11_device_137 ?_
          exact z_iret O dX11_device_138 h
        · replace h := h.2 c
          refine z_iconst (v := (-1)) O dX11_device_53 rfl ?_
          exact z_iret O dX11_device_54 h
      · replace h := h.2 c
        refine z_iconst (v := (-1)) O dX11_device_30 rfl ?_
        exact z_iret O dX11_device_31 h
set_option maxRecDepth 100000 in
set_option maxHeartbeats 4000000 in
theorem b_X11_coupler_0 {G : zG} {X : zX} (O : zOK G X cX11_coupler 10 RX11 (some .int) "coupler") (hR : X.R = rm_X11_coupler) {M : zM} {n k : Nat} {a0 : Nat} {x1 : Int32} {x2 : Int32} (h : M.1 a0 = 11 ∧ zC G yX11_lineAt cX11_lineAt 2 (some (.object "HouseWires$Line")) rm_X11_lineAt M [.ref a0, .int x1] (fun M1 v => (v = some .null ∧ M1.1 a0 = 11 ∧ zC G yX11_lineAt cX11_lineAt 2 (some (.object "HouseWires$Line")) rm_X11_lineAt M1 [.ref a0, .int x2] (fun M3 v => (v = some .null ∧ M3.1 a0 = 11 ∧ (5 ≤ (M3.2.2.1 a0 11) → X.q M3 (some (.int (-1)))) ∧ (¬ 5 ≤ (M3.2.2.1 a0 11) → X.q M3 (some (.int (-1))))) ∨ ∃ b4 : Nat, v = some (.ref b4) ∧ M3.1 a0 = 11 ∧ (5 ≤ (M3.2.2.1 a0 11) → X.q M3 (some (.int (-1)))) ∧ (¬ 5 ≤ (M3.2.2.1 a0 11) → X.q M3 (some (.int (-1)))))) ∨ ∃ b2 : Nat, v = some (.ref b2) ∧ M1.1 a0 = 11 ∧ zC G yX11_lineAt cX11_lineAt 2 (some (.object "HouseWires$Line")) rm_X11_lineAt M1 [.ref a0, .int x2] (fun M5 v => (v = some .null ∧ M5.1 a0 = 11 ∧ (5 ≤ (M5.2.2.1 a0 11) → X.q M5 (some (.int (-1)))) ∧ (¬ 5 ≤ (M5.2.2.1 a0 11) → X.q M5 (some (.int (-1))))) ∨ ∃ b6 : Nat, v = some (.ref b6) ∧ M5.1 a0 = 11 ∧ (5 ≤ (M5.2.2.1 a0 11) → X.q M5 (some (.int (-1)))) ∧ (¬ 5 ≤ (M5.2.2.1 a0 11) → M5.1 b2 = 6 ∧ zC G yX5_isJoinedWith cX5_isJoinedWith 2 (some .boolean) rm_X5_isJoinedWith M5 [.ref b2, .int x2] (fun M7 v => ∃ r8 : Int32, v = some (.int r8) ∧ (r8 = 0 → n + 1 ≤ X.R.cells ∧ k + 3 ≤ X.R.slots ∧ ∀ q9 : Nat, M7.1 q9 = 0 → ∀ M10 : zM, M10 = zn M7 q9 3 0 → (n + 1) + 1 ≤ X.R.cells ∧ (k + 3) + 64 ≤ X.R.slots ∧ zC G yX2_init cX2_init 1 none rm_X2_init M10 [.ref q9] (fun M11 v => v = none ∧ ((n + 1) + 1) + 1 ≤ X.R.cells ∧ ((k + 3) + 64) + 3 ≤ X.R.slots ∧ ∀ q12 : Nat, M11.1 q12 = 0 → ∀ M13 : zM, M13 = zn M11 q12 8 0 → M13.1 a0 = 11 ∧ ∃ b14 : Nat, M13.2.2.2 a0 0 = some b14 ∧ (((n + 1) + 1) + 1) + 17 ≤ X.R.cells ∧ (((k + 3) + 64) + 3) + 232 ≤ X.R.slots ∧ zC G yX7_init cX7_init 3 none rm_X7_init M13 [.ref q12, .ref b14] (fun M15 v => v = none ∧ ((((n + 1) + 1) + 1) + 17) + 1 ≤ X.R.cells ∧ ((((k + 3) + 64) + 3) + 232) + 3 ≤ X.R.slots ∧ ∀ q16 : Nat, M15.1 q16 = 0 → ∀ M17 : zM, M17 = zn M15 q16 8 0 → M17.1 a0 = 11 ∧ ∃ b18 : Nat, M17.2.2.2 a0 0 = some b18 ∧ (((((n + 1) + 1) + 1) + 17) + 1) + 17 ≤ X.R.cells ∧ (((((k + 3) + 64) + 3) + 232) + 3) + 232 ≤ X.R.slots ∧ zC G yX7_init cX7_init 3 none rm_X7_init M17 [.ref q16, .ref b18] (fun M19 v => v = none ∧ ((((((n + 1) + 1) + 1) + 17) + 1) + 17) + 1 ≤ X.R.cells ∧ ((((((k + 3) + 64) + 3) + 232) + 3) + 232) + 5 ≤ X.R.slots ∧ ∀ q20 : Nat, M19.1 q20 = 0 → ∀ M21 : zM, M21 = zn M19 q20 7 0 → M21.1 b6 = 6 ∧ (((((((n + 1) + 1) + 1) + 17) + 1) + 17) + 1) + 2 ≤ X.R.cells ∧ (((((((k + 3) + 64) + 3) + 232) + 3) + 232) + 5) + 28 ≤ X.R.slots ∧ zC G yX6_init cX6_init 5 none rm_X6_init M21 [.ref q20, .ref q12, .ref q16, .ref q9, .int (M21.2.2.1 b6 5)] (fun M22 v => v = none ∧ ((((((((n + 1) + 1) + 1) + 17) + 1) + 17) + 1) + 2) + 1 ≤ X.R.cells ∧ ((((((((k + 3) + 64) + 3) + 232) + 3) + 232) + 5) + 28) + 5 ≤ X.R.slots ∧ ∀ q23 : Nat, M22.1 q23 = 0 → ∀ M24 : zM, M24 = zn M22 q23 7 0 → M24.1 b2 = 6 ∧ (((((((((n + 1) + 1) + 1) + 17) + 1) + 17) + 1) + 2) + 1) + 2 ≤ X.R.cells ∧ (((((((((k + 3) + 64) + 3) + 232) + 3) + 232) + 5) + 28) + 5) + 28 ≤ X.R.slots ∧ zC G yX6_init cX6_init 5 none rm_X6_init M24 [.ref q23, .ref q16, .ref q12, .ref q9, .int (M24.2.2.1 b2 5)] (fun M25 v => v = none ∧ M25.1 b2 = 6 ∧ M25.1 b6 = 6 ∧ M25.1 a0 = 11 ∧ zC G yX11_joinLines cX11_joinLines 7 none rm_X11_joinLines M25 [.ref a0, .int x1, .int (M25.2.2.1 b2 5), .int x2, .int (M25.2.2.1 b6 5)] (fun M26 v => v = none ∧ M26.1 b2 = 6 ∧ zC G yX5_addPort cX5_addPort 2 none rm_X5_addPort M26 [.ref b2, .ref q20] (fun M27 v => v = none ∧ M27.1 b6 = 6 ∧ zC G yX5_addPort cX5_addPort 2 none rm_X5_addPort M27 [.ref b6, .ref q23] (fun M28 v => v = none ∧ M28.1 a0 = 11 ∧ ∃ b29 : Nat, M28.2.2.2 a0 3 = some b29 ∧ M28.1 a0 = 11 ∧ M28.1 b29 = 104 ∧ M28.1 q9 = 3 ∧ vp_in ((M28.2.2.1 a0 11)) (M28.2.1 b29) ∧ ∀ M30 : zM, M30 = zr M28 b29 (((M28.2.2.1 a0 11)).toNatClampNeg) (some q9) → M30.1 a0 = 11 ∧ ∃ b31 : Nat, M30.2.2.2 a0 4 = some b31 ∧ M30.1 a0 = 11 ∧ M30.1 b31 = 105 ∧ M30.1 q20 = 7 ∧ vp_in ((2 * (M30.2.2.1 a0 11))) (M30.2.1 b31) ∧ ∀ M32 : zM, M32 = zr M30 b31 (((2 * (M30.2.2.1 a0 11))).toNatClampNeg) (some q20) → M32.1 a0 = 11 ∧ ∃ b33 : Nat, M32.2.2.2 a0 4 = some b33 ∧ M32.1 a0 = 11 ∧ M32.1 b33 = 105 ∧ M32.1 q23 = 7 ∧ vp_in (((2 * (M32.2.2.1 a0 11)) + 1)) (M32.2.1 b33) ∧ ∀ M34 : zM, M34 = zr M32 b33 ((((2 * (M32.2.2.1 a0 11)) + 1)).toNatClampNeg) (some q23) → M34.1 a0 = 11 ∧ M34.1 a0 = 11 ∧ ∀ M35 : zM, M35 = zi M34 a0 11 ((M34.2.2.1 a0 11) + 1) → M35.1 a0 = 11 ∧ X.q M35 (some (.int ((M35.2.2.1 a0 11) - 1)))))))))))) ∧ (¬ r8 = 0 → X.q M7 (some (.int (-1))))))))) : zW G X 10 M n k 0 [(0, .ref a0), (1, .int x1), (2, .int x2)] [] := by
  refine z_aload_n O dX11_coupler_0 rfl 0 rfl ?_
  refine z_iload_n O dX11_coupler_1 rfl 1 rfl ?_
  obtain ⟨hk, h⟩ := h
  refine z_callV0 (As := [.int x1]) O zc_X11_82 h hk rfl (zRm_of hR (by decide) (by decide)) (Nat.le_of_ble_eq_true rfl) dX11_coupler_2 rfl rfl rfl (fun M1 v h => ?_)
  rcases h with ⟨rfl, h⟩ | ⟨b2, rfl, h⟩
  · skip
    refine z_astore_nN (lv' := [(3, .null), (0, .ref a0), (1, .int x1), (2, .int x2)]) O dX11_coupler_5 rfl (by decide) rfl ?_
    refine z_aload_n O dX11_coupler_6 rfl 1 rfl ?_
    refine z_iload_n O dX11_coupler_7 rfl 3 rfl ?_
    obtain ⟨hk, h⟩ := h
    refine z_callV0 (As := [.int x2]) O zc_X11_82 h hk rfl (zRm_of hR (by decide) (by decide)) (Nat.le_of_ble_eq_true rfl) dX11_coupler_8 rfl rfl rfl (fun M3 v h => ?_)
    rcases h with ⟨rfl, h⟩ | ⟨b4, rfl, h⟩
    · skip
      refine z_astoreN (lv' := [(4, .null), (3, .null), (0, .ref a0), (1, .int x1), (2, .int x2)]) O dX11_coupler_11 (by decide) rfl ?_
      refine z_aload_n O dX11_coupler_13 rfl 2 rfl ?_
      obtain ⟨hk, h⟩ := h
      refine z_geti O zf_X11_113_10 dX11_coupler_14 hk ?_
      refine z_iconst (v := 5) O dX11_coupler_17 rfl ?_
      refine z_icmp_ge O 38 dX11_coupler_18 (by decide) (fun c => ?_) (fun c => ?_)
      · replace h := h.1 c
        refine z_iconst (v := (-1)) O dX11_coupler_38 rfl ?_
        exact z_iret O dX11_coupler_39 h
      · replace h := h.2 c
        refine z_aload_nN O dX11_coupler_21 rfl 1 rfl ?_
        refine z_ifnullN O 38 dX11_coupler_22 (by decide) ?_
        refine z_iconst (v := (-1)) O dX11_coupler_38 rfl ?_
        exact z_iret O dX11_coupler_39 h
    · skip
      refine z_astore (lv' := [(4, .ref b4), (3, .null), (0, .ref a0), (1, .int x1), (2, .int x2)]) O dX11_coupler_11 (by decide) rfl ?_
      refine z_aload_n O dX11_coupler_13 rfl 2 rfl ?_
      obtain ⟨hk, h⟩ := h
      refine z_geti O zf_X11_113_10 dX11_coupler_14 hk ?_
      refine z_iconst (v := 5) O dX11_coupler_17 rfl ?_
      refine z_icmp_ge O 38 dX11_coupler_18 (by decide) (fun c => ?_) (fun c => ?_)
      · replace h := h.1 c
        refine z_iconst (v := (-1)) O dX11_coupler_38 rfl ?_
        exact z_iret O dX11_coupler_39 h
      · replace h := h.2 c
        refine z_aload_nN O dX11_coupler_21 rfl 1 rfl ?_
        refine z_ifnullN O 38 dX11_coupler_22 (by decide) ?_
        refine z_iconst (v := (-1)) O dX11_coupler_38 rfl ?_
        exact z_iret O dX11_coupler_39 h
  · skip
    refine z_astore_n (lv' := [(3, .ref b2), (0, .ref a0), (1, .int x1), (2, .int x2)]) O dX11_coupler_5 rfl (by decide) rfl ?_
    refine z_aload_n O dX11_coupler_6 rfl 1 rfl ?_
    refine z_iload_n O dX11_coupler_7 rfl 3 rfl ?_
    obtain ⟨hk, h⟩ := h
    refine z_callV0 (As := [.int x2]) O zc_X11_82 h hk rfl (zRm_of hR (by decide) (by decide)) (Nat.le_of_ble_eq_true rfl) dX11_coupler_8 rfl rfl rfl (fun M5 v h => ?_)
    rcases h with ⟨rfl, h⟩ | ⟨b6, rfl, h⟩
    · skip
      refine z_astoreN (lv' := [(4, .null), (3, .ref b2), (0, .ref a0), (1, .int x1), (2, .int x2)]) O dX11_coupler_11 (by decide) rfl ?_
      refine z_aload_n O dX11_coupler_13 rfl 2 rfl ?_
      obtain ⟨hk, h⟩ := h
      refine z_geti O zf_X11_113_10 dX11_coupler_14 hk ?_
      refine z_iconst (v := 5) O dX11_coupler_17 rfl ?_
      refine z_icmp_ge O 38 dX11_coupler_18 (by decide) (fun c => ?_) (fun c => ?_)
      · replace h := h.1 c
        refine z_iconst (v := (-1)) O dX11_coupler_38 rfl ?_
        exact z_iret O dX11_coupler_39 h
      · replace h := h.2 c
        refine z_aload_n O dX11_coupler_21 rfl 1 rfl ?_
        refine z_ifnull O dX11_coupler_22 ?_
        refine z_aloadN O dX11_coupler_25 0 rfl ?_
        refine z_ifnullN O 38 dX11_coupler_27 (by decide) ?_
        refine z_iconst (v := (-1)) O dX11_coupler_38 rfl ?_
        exact z_iret O dX11_coupler_39 h
    · skip
      refine z_astore (lv' := [(4, .ref b6), (3, .ref b2), (0, .ref a0), (1, .int x1), (2, .int x2)]) O dX11_coupler_11 (by decide) rfl ?_
      refine z_aload_n O dX11_coupler_13 rfl 2 rfl ?_
      obtain ⟨hk, h⟩ := h
      refine z_geti O zf_X11_113_10 dX11_coupler_14 hk ?_
      refine z_iconst (v := 5) O dX11_coupler_17 rfl ?_
      refine z_icmp_ge O 38 dX11_coupler_18 (by decide) (fun c => ?_) (fun c => ?_)
      · replace h := h.1 c
        refine z_iconst (v := (-1)) O dX11_coupler_38 rfl ?_
        exact z_iret O dX11_coupler_39 h
      · replace h := h.2 c
        refine z_aload_n O dX11_coupler_21 rfl 1 rfl ?_
        refine z_ifnull O dX11_coupler_22 ?_
        refine z_aload O dX11_coupler_25 0 rfl ?_
        refine z_ifnull O dX11_coupler_27 ?_
        refine z_aload_n O dX11_coupler_30 rfl 1 rfl ?_
        refine z_iload_n O dX11_coupler_31 rfl 4 rfl ?_
        obtain ⟨hk, h⟩ := h
        refine z_callV0 (As := [.int x2]) O zc_X11_116 h hk rfl (zRm_of hR (by decide) (by decide)) (Nat.le_of_ble_eq_true rfl) dX11_coupler_32 rfl rfl rfl (fun M7 v h => ?_)
        obtain ⟨r8, rfl, h⟩ := h
        refine z_if_eq O 40 dX11_coupler_35 (by decide) (fun c => ?_) (fun c => ?_)
        · replace h := h.1 c
          obtain ⟨hn, hs, h⟩ := h
          refine z_new O zn_X11_28 dX11_coupler_40 hn hs (fun q9 fq9 => ?_)
          generalize eM10 : zn M7 q9 3 0 = M10
          replace h := h q9 fq9 M10 eM10.symm
          refine z_dup O dX11_coupler_43 rfl ?_
          obtain ⟨hn, hs, h⟩ := h
          refine z_callINk (As := []) O zc_X11_119 h rfl (zRm_of hR (by decide) (by decide)) (Nat.le_of_ble_eq_true rfl) dX11_coupler_44 (mc := 1) (ms := 64) rfl rfl hn hs rfl (fun M11 v h => ?_)
          obtain ⟨rfl, h⟩ := h
          refine z_astore (lv' := [(5, .ref q9), (4, .ref b6), (3, .ref b2), (0, .ref a0), (1, .int x1), (2, .int x2)]) O dX11_coupler_47 (by decide) rfl ?_
          obtain ⟨hn, hs, h⟩ := h
          refine z_new O zn_X11_96 dX11_coupler_49 hn hs (fun q12 fq12 => ?_)
          generalize eM13 : zn M11 q12 8 0 = M13
          replace h := h q12 fq12 M13 eM13.symm
          refine z_dup O dX11_coupler_52 rfl ?_
          refine z_aload_n O dX11_coupler_53 rfl 3 rfl ?_
          obtain ⟨hk, b14, hr, h⟩ := h
          refine z_getr O zf_X11_10_10 dX11_coupler_54 hk hr ?_
          obtain ⟨hn, hs, h⟩ := h
          refine z_callIk (As := [.ref b14]) O zc_X11_98 h rfl (zRm_of hR (by decide) (by decide)) (Nat.le_of_ble_eq_true rfl) dX11_coupler_57 (mc := 17) (ms := 232) rfl rfl hn hs rfl (fun M15 v h => ?_)
          obtain ⟨rfl, h⟩ := h
          refine z_astore (lv' := [(6, .ref q12), (5, .ref q9), (4, .ref b6), (3, .ref b2), (0, .ref a0), (1, .int x1), (2, .int x2)]) O dX11_coupler_60 (by decide) rfl ?_
          obtain ⟨hn, hs, h⟩ := h
          refine z_new O zn_X11_96 dX11_coupler_62 hn hs (fun q16 fq16 => ?_)
          generalize eM17 : zn M15 q16 8 0 = M17
          replace h := h q16 fq16 M17 eM17.symm
          refine z_dup O dX11_coupler_65 rfl ?_
          refine z_aload_n O dX11_coupler_66 rfl 4 rfl ?_
          obtain ⟨hk, b18, hr, h⟩ := h
          refine z_getr O zf_X11_10_10 dX11_coupler_67 hk hr ?_
          obtain ⟨hn, hs, h⟩ := h
          refine z_callIk (As := [.ref b18]) O zc_X11_98 h rfl (zRm_of hR (by decide) (by decide)) (Nat.le_of_ble_eq_true rfl) dX11_coupler_70 (mc := 17) (ms := 232) rfl rfl hn hs rfl (fun M19 v h => ?_)
          obtain ⟨rfl, h⟩ := h
          refine z_astore (lv' := [(7, .ref q16), (6, .ref q12), (5, .ref q9), (4, .ref b6), (3, .ref b2), (0, .ref a0), (1, .int x1), (2, .int x2)]) O dX11_coupler_73 (by decide) rfl ?_
          obtain ⟨hn, hs, h⟩ := h
          refine z_new O zn_X11_34 dX11_coupler_75 hn hs (fun q20 fq20 => ?_)
          generalize eM21 : zn M19 q20 7 0 = M21
          replace h := h q20 fq20 M21 eM21.symm
          refine z_dup O dX11_coupler_78 rfl ?_
          refine z_aload O dX11_coupler_79 1 rfl ?_
          refine z_aload O dX11_coupler_81 0 rfl ?_
          refine z_aload O dX11_coupler_83 2 rfl ?_
          refine z_aload O dX11_coupler_85 3 rfl ?_
          obtain ⟨hk, h⟩ := h
          refine z_geti O zf_X11_120_5 dX11_coupler_87 hk ?_
          obtain ⟨hn, hs, h⟩ := h
          refine z_callIk (As := [.ref q12, .ref q16, .ref q9, .int (M21.2.2.1 b6 5)]) O zc_X11_123 h rfl (zRm_of hR (by decide) (by decide)) (Nat.le_of_ble_eq_true rfl) dX11_coupler_90 (mc := 2) (ms := 28) rfl rfl hn hs rfl (fun M22 v h => ?_)
          obtain ⟨rfl, h⟩ := h
          refine z_astore (lv' := [(8, .ref q20), (7, .ref q16), (6, .ref q12), (5, .ref q9), (4, .ref b6), (3, .ref b2), (0, .ref a0), (1, .int x1), (2, .int x2)]) O dX11_coupler_93 (by decide) rfl ?_
          obtain ⟨hn, hs, h⟩ := h
          refine z_new O zn_X11_34 dX11_coupler_95 hn hs (fun q23 fq23 => ?_)
          generalize eM24 : zn M22 q23 7 0 = M24
          replace h := h q23 fq23 M24 eM24.symm
          refine z_dup O dX11_coupler_98 rfl ?_
          refine z_aload O dX11_coupler_99 1 rfl ?_
          refine z_aload O dX11_coupler_101 2 rfl ?_
          refine z_aload O dX11_coupler_103 3 rfl ?_
          refine z_aload_n O dX11_coupler_105 rfl 5 rfl ?_
          obtain ⟨hk, h⟩ := h
          refine z_geti O zf_X11_120_5 dX11_coupler_106 hk ?_
          obtain ⟨hn, hs, h⟩ := h
          refine z_callIk (As := [.ref q16, .ref q12, .ref q9, .int (M24.2.2.1 b2 5)]) O zc_X11_123 h rfl (zRm_of hR (by decide) (by decide)) (Nat.le_of_ble_eq_true rfl) dX11_coupler_109 (mc := 2) (ms := 28) rfl rfl hn hs rfl (fun M25 v h => ?_)
          obtain ⟨rfl, h⟩ := h
          refine z_astore (lv' := [(9, .ref q23), (8, .ref q20), (7, .ref q16), (6, .ref q12), (5, .ref q9), (4, .ref b6), (3, .ref b2), (0, .ref a0), (1, .int x1), (2, .int x2)]) O dX11_coupler_112 (by decide) rfl ?_
          refine z_aload_n O dX11_coupler_114 rfl 7 rfl ?_
          refine z_iload_n O dX11_coupler_115 rfl 8 rfl ?_
          refine z_aload_n O dX11_coupler_116 rfl 6 rfl ?_
          obtain ⟨hk, h⟩ := h
          refine z_geti O zf_X11_120_5 dX11_coupler_117 hk ?_
          refine z_iload_n O dX11_coupler_120 rfl 9 rfl ?_
          refine z_aload O dX11_coupler_121 5 rfl ?_
          obtain ⟨hk, h⟩ := h
          refine z_geti O zf_X11_120_5 dX11_coupler_123 hk ?_
          obtain ⟨hk, h⟩ := h
          refine z_callV0 (As := [.int x1, .int (M25.2.2.1 b2 5), .int x2, .int (M25.2.2.1 b6 5)]) O zc_X11_126 h hk rfl (zRm_of hR (by decide) (by decide)) (Nat.le_of_ble_eq_true rfl) dX11_coupler_126 rfl rfl rfl (fun M26 v h => ?_)
          obtain ⟨rfl, h⟩ := h
          refine z_aload_n O dX11_coupler_129 rfl 6 rfl ?_
          refine z_aload O dX11_coupler_130 1 rfl ?_
          obtain ⟨hk, h⟩ := h
          refine z_callV0 (As := [.ref q20]) O zc_X11_130 h hk rfl (zRm_of hR (by decide) (by decide)) (Nat.le_of_ble_eq_true rfl) dX11_coupler_132 rfl rfl rfl (fun M27 v h => ?_)
          obtain ⟨rfl, h⟩ := h
          refine z_aload O dX11_coupler_135 5 rfl ?_
          refine z_aload O dX11_coupler_137 0 rfl ?_
          obtain ⟨hk, h⟩ := h
          refine z_callV0 (As := [.ref q23]) O zc_X11_130 h hk rfl (zRm_of hR (by decide) (by decide)) (Nat.le_of_ble_eq_true rfl) dX11_coupler_139 rfl rfl rfl (fun M28 v h => ?_)
          obtain ⟨rfl, h⟩ := h
          refine z_aload_n O dX11_coupler_142 rfl 7 rfl ?_
          obtain ⟨hk, b29, hr, h⟩ := h
          refine z_getr O zf_X11_30_10 dX11_coupler_143 hk hr ?_
          refine z_aload_n O dX11_coupler_146 rfl 7 rfl ?_
          obtain ⟨hk, h⟩ := h
          refine z_geti O zf_X11_113_10 dX11_coupler_147 hk ?_
          refine z_aload O dX11_coupler_150 4 rfl ?_
          obtain ⟨hk, hkv, hi, h⟩ := h
          refine z_ast (t := 2) (ci := 2) (C := RX2) (T := TX2) (N := 3) O rfl rfl (by decide) dX11_coupler_152 hk hkv hi ?_
          generalize eM30 : zr M28 b29 (((M28.2.2.1 a0 11)).toNatClampNeg) (some q9) = M30
          replace h := h M30 eM30.symm
          refine z_aload_n O dX11_coupler_153 rfl 7 rfl ?_
          obtain ⟨hk, b31, hr, h⟩ := h
          refine z_getr O zf_X11_36_10 dX11_coupler_154 hk hr ?_
          refine z_iconst (v := 2) O dX11_coupler_157 rfl ?_
          refine z_aload_n O dX11_coupler_158 rfl 7 rfl ?_
          obtain ⟨hk, h⟩ := h
          refine z_geti O zf_X11_113_10 dX11_coupler_159 hk ?_
          refine z_imul O dX11_coupler_162 ?_
          refine z_aload O dX11_coupler_163 1 rfl ?_
          obtain ⟨hk, hkv, hi, h⟩ := h
          refine z_ast (t := 3) (ci := 6) (C := RX6) (T := TX6) (N := 5) O rfl rfl (by decide) dX11_coupler_165 hk hkv hi ?_
          generalize eM32 : zr M30 b31 (((2 * (M30.2.2.1 a0 11))).toNatClampNeg) (some q20) = M32
          replace h := h M32 eM32.symm
          refine z_aload_n O dX11_coupler_166 rfl 7 rfl ?_
          obtain ⟨hk, b33, hr, h⟩ := h
          refine z_getr O zf_X11_36_10 dX11_coupler_167 hk hr ?_
          refine z_iconst (v := 2) O dX11_coupler_170 rfl ?_
          refine z_aload_n O dX11_coupler_171 rfl 7 rfl ?_
          obtain ⟨hk, h⟩ := h
          refine z_geti O zf_X11_113_10 dX11_coupler_172 hk ?_
          refine z_imul O dX11_coupler_175 ?_
          refine z_iconst (v := 1) O dX11_coupler_176 rfl ?_
          refine z_iadd O dX11_coupler_177 ?_
          refine z_aload O dX11_coupler_178 0 rfl ?_
          obtain ⟨hk, hkv, hi, h⟩ := h
          refine z_ast (t := 3) (ci := 6) (C := RX6) (T := TX6) (N := 5) O rfl rfl (by decide) dX11_coupler_180 hk hkv hi ?_
          generalize eM34 : zr M32 b33 ((((2 * (M32.2.2.1 a0 11)) + 1)).toNatClampNeg) (some q23) = M34
          replace h := h M34 eM34.symm
          refine z_aload_n O dX11_coupler_181 rfl 7 rfl ?_
          refine z_dup O dX11_coupler_182 rfl ?_
          obtain ⟨hk, h⟩ := h
          refine z_geti O zf_X11_113_10 dX11_coupler_183 hk ?_
          refine z_iconst (v := 1) O dX11_coupler_186 rfl ?_
          refine z_iadd O dX11_coupler_187 ?_
          obtain ⟨hk, h⟩ := h
          refine z_puti O zp_X11_113_10 dX11_coupler_188 hk ?_
          generalize eM35 : zi M34 a0 11 ((M34.2.2.1 a0 11) + 1) = M35
          replace h := h M35 eM35.symm
          refine z_aload_n O dX11_coupler_191 rfl 7 rfl ?_
          obtain ⟨hk, h⟩ := h
          refine z_geti O zf_X11_113_10 dX11_coupler_192 hk ?_
          refine z_iconst (v := 1) O dX11_coupler_195 rfl ?_
          refine z_isub O dX11_coupler_196 ?_
          exact z_iret O dX11_coupler_197 h
        · replace h := h.2 c
          refine z_iconst (v := (-1)) O dX11_coupler_38 rfl ?_
          exact z_iret O dX11_coupler_39 h
set_option maxRecDepth 100000 in
set_option maxHeartbeats 4000000 in
theorem b_X11_mode_0 {G : zG} {X : zX} (O : zOK G X cX11_mode 4 RX11 (some .boolean) "mode") (hR : X.R = rm_X11_mode) {M : zM} {n k : Nat} {a0 : Nat} {x1 : Int32} {x2 : Int32} (h : M.1 a0 = 11 ∧ zC G yX11_filterAt cX11_filterAt 2 (some (.object "HouseWires$Filter")) rm_X11_filterAt M [.ref a0, .int x1] (fun M1 v => (v = some .null ∧ X.q M1 (some (.int 0))) ∨ ∃ b2 : Nat, v = some (.ref b2) ∧ zC G yX11_isWithin cX11_isWithin 3 (some .boolean) rm_X11_isWithin M1 [.int x2, .int 0, .int 2] (fun M3 v => ∃ r4 : Int32, v = some (.int r4) ∧ (¬ r4 = 0 → M3.1 b2 = 3 ∧ ∀ M5 : zM, M5 = zi M3 b2 2 x2 → X.q M5 (some (.int 1))) ∧ (r4 = 0 → X.q M3 (some (.int 0)))))) : zW G X 4 M n k 0 [(0, .ref a0), (1, .int x1), (2, .int x2)] [] := by
  refine z_aload_n O dX11_mode_0 rfl 0 rfl ?_
  refine z_iload_n O dX11_mode_1 rfl 1 rfl ?_
  obtain ⟨hk, h⟩ := h
  refine z_callV0 (As := [.int x1]) O zc_X11_134 h hk rfl (zRm_of hR (by decide) (by decide)) (Nat.le_of_ble_eq_true rfl) dX11_mode_2 rfl rfl rfl (fun M1 v h => ?_)
  rcases h with ⟨rfl, h⟩ | ⟨b2, rfl, h⟩
  · skip
    refine z_astore_nN (lv' := [(3, .null), (0, .ref a0), (1, .int x1), (2, .int x2)]) O dX11_mode_5 rfl (by decide) rfl ?_
    refine z_aload_nN O dX11_mode_6 rfl 0 rfl ?_
    refine z_ifnullN O 19 dX11_mode_7 (by decide) ?_
    refine z_iconst (v := 0) O dX11_mode_19 rfl ?_
    exact z_zret O dX11_mode_20 (by decide) h
  · skip
    refine z_astore_n (lv' := [(3, .ref b2), (0, .ref a0), (1, .int x1), (2, .int x2)]) O dX11_mode_5 rfl (by decide) rfl ?_
    refine z_aload_n O dX11_mode_6 rfl 0 rfl ?_
    refine z_ifnull O dX11_mode_7 ?_
    refine z_iload_n O dX11_mode_10 rfl 3 rfl ?_
    refine z_iconst (v := 0) O dX11_mode_11 rfl ?_
    refine z_iconst (v := 2) O dX11_mode_12 rfl ?_
    refine z_callS0 (As := [.int x2, .int 0, .int 2]) O zc_X11_71 h rfl (zRm_of hR (by decide) (by decide)) (Nat.le_of_ble_eq_true rfl) dX11_mode_13 rfl rfl rfl (fun M3 v h => ?_)
    obtain ⟨r4, rfl, h⟩ := h
    refine z_if_ne O 21 dX11_mode_16 (by decide) (fun c => ?_) (fun c => ?_)
    · replace h := h.1 c
      refine z_aload_n O dX11_mode_21 rfl 0 rfl ?_
      refine z_iload_n O dX11_mode_22 rfl 3 rfl ?_
      obtain ⟨hk, h⟩ := h
      refine z_puti O zp_X11_138_2 dX11_mode_23 hk ?_
      generalize eM5 : zi M3 b2 2 x2 = M5
      replace h := h M5 eM5.symm
      refine z_iconst (v := 1) O dX11_mode_26 rfl ?_
      exact z_zret O dX11_mode_27 (by decide) h
    · replace h := h.2 c
      refine z_iconst (v := 0) O dX11_mode_19 rfl ?_
      exact z_zret O dX11_mode_20 (by decide) h
set_option maxRecDepth 100000 in
set_option maxHeartbeats 4000000 in
theorem b_X11_filterAt_0 {G : zG} {X : zX} (O : zOK G X cX11_filterAt 2 RX11 (some (.object "HouseWires$Filter")) "filterAt") (hR : X.R = rm_X11_filterAt) {M : zM} {n k : Nat} {a0 : Nat} {x1 : Int32} (h : M.1 a0 = 11 ∧ zC G yX11_isWithin cX11_isWithin 3 (some .boolean) rm_X11_isWithin M [.int x1, .int 0, .int ((M.2.2.1 a0 11) - 1)] (fun M1 v => ∃ r2 : Int32, v = some (.int r2) ∧ (r2 = 0 → X.q M1 (some .null)) ∧ (¬ r2 = 0 → M1.1 a0 = 11 ∧ ∃ b3 : Nat, M1.2.2.2 a0 3 = some b3 ∧ M1.1 b3 = 104 ∧ vp_in x1 (M1.2.1 b3) ∧ ∃ b4 : Nat, M1.2.2.2 b3 x1.toNatClampNeg = some b4 ∧ X.q M1 (some (.ref b4))))) : zW G X 2 M n k 0 [(0, .ref a0), (1, .int x1)] [] := by
  refine z_iload_n O dX11_filterAt_0 rfl 1 rfl ?_
  refine z_iconst (v := 0) O dX11_filterAt_1 rfl ?_
  refine z_aload_n O dX11_filterAt_2 rfl 0 rfl ?_
  obtain ⟨hk, h⟩ := h
  refine z_geti O zf_X11_113_10 dX11_filterAt_3 hk ?_
  refine z_iconst (v := 1) O dX11_filterAt_6 rfl ?_
  refine z_isub O dX11_filterAt_7 ?_
  refine z_callS0 (As := [.int x1, .int 0, .int ((M.2.2.1 a0 11) - 1)]) O zc_X11_71 h rfl (zRm_of hR (by decide) (by decide)) (Nat.le_of_ble_eq_true rfl) dX11_filterAt_8 rfl rfl rfl (fun M1 v h => ?_)
  obtain ⟨r2, rfl, h⟩ := h
  refine z_if_eq O 23 dX11_filterAt_11 (by decide) (fun c => ?_) (fun c => ?_)
  · replace h := h.1 c
    refine z_null O dX11_filterAt_23 ?_
    exact z_aretN O dX11_filterAt_24 h
  · replace h := h.2 c
    refine z_aload_n O dX11_filterAt_14 rfl 0 rfl ?_
    obtain ⟨hk, b3, hr, h⟩ := h
    refine z_getr O zf_X11_30_10 dX11_filterAt_15 hk hr ?_
    refine z_iload_n O dX11_filterAt_18 rfl 1 rfl ?_
    obtain ⟨hk, hi, b4, hr, h⟩ := h
    refine z_ald (t := 2) O rfl dX11_filterAt_19 hk hi hr ?_
    refine z_goto O 24 dX11_filterAt_20 (by decide) ?_
    exact z_aret O dX11_filterAt_24 h
set_option maxRecDepth 100000 in
set_option maxHeartbeats 4000000 in
theorem b_X11_filter_0 {G : zG} {X : zX} (O : zOK G X cX11_filter 5 RX11 (some .boolean) "filter") (hR : X.R = rm_X11_filter) {M : zM} {n k : Nat} {a0 : Nat} {x1 : Int32} {x2 : Int32} {x3 : Int32} (h : M.1 a0 = 11 ∧ zC G yX11_filterAt cX11_filterAt 2 (some (.object "HouseWires$Filter")) rm_X11_filterAt M [.ref a0, .int x1] (fun M1 v => (v = some .null ∧ X.q M1 (some (.int 0))) ∨ ∃ b2 : Nat, v = some (.ref b2) ∧ zC G yX11_isWithin cX11_isWithin 3 (some .boolean) rm_X11_isWithin M1 [.int x2, .int 1, .int 65535] (fun M3 v => ∃ r4 : Int32, v = some (.int r4) ∧ (¬ r4 = 0 → M3.1 b2 = 3 ∧ zC G yX2_change cX2_change 4 (some .boolean) rm_X2_change M3 [.ref b2, .int x2, .int x3] (fun M5 v => ∃ r6 : Int32, v = some (.int r6) ∧ (r6 = 0 ∨ r6 = 1) ∧ X.q M5 (some (.int r6)))) ∧ (r4 = 0 → X.q M3 (some (.int 0)))))) : zW G X 5 M n k 0 [(0, .ref a0), (1, .int x1), (2, .int x2), (3, .int x3)] [] := by
  refine z_aload_n O dX11_filter_0 rfl 0 rfl ?_
  refine z_iload_n O dX11_filter_1 rfl 1 rfl ?_
  obtain ⟨hk, h⟩ := h
  refine z_callV0 (As := [.int x1]) O zc_X11_134 h hk rfl (zRm_of hR (by decide) (by decide)) (Nat.le_of_ble_eq_true rfl) dX11_filter_2 rfl rfl rfl (fun M1 v h => ?_)
  rcases h with ⟨rfl, h⟩ | ⟨b2, rfl, h⟩
  · skip
    refine z_astoreN (lv' := [(4, .null), (0, .ref a0), (1, .int x1), (2, .int x2), (3, .int x3)]) O dX11_filter_5 (by decide) rfl ?_
    refine z_aloadN O dX11_filter_7 0 rfl ?_
    refine z_ifnullN O 22 dX11_filter_9 (by decide) ?_
    refine z_iconst (v := 0) O dX11_filter_22 rfl ?_
    exact z_zret O dX11_filter_23 (by decide) h
  · skip
    refine z_astore (lv' := [(4, .ref b2), (0, .ref a0), (1, .int x1), (2, .int x2), (3, .int x3)]) O dX11_filter_5 (by decide) rfl ?_
    refine z_aload O dX11_filter_7 0 rfl ?_
    refine z_ifnull O dX11_filter_9 ?_
    refine z_iload_n O dX11_filter_12 rfl 3 rfl ?_
    refine z_iconst (v := 1) O dX11_filter_13 rfl ?_
    refine z_ldc O dX11_filter_14 zk_X11_141 ?_
    refine z_callS0 (As := [.int x2, .int 1, .int 65535]) O zc_X11_71 h rfl (zRm_of hR (by decide) (by decide)) (Nat.le_of_ble_eq_true rfl) dX11_filter_16 rfl rfl rfl (fun M3 v h => ?_)
    obtain ⟨r4, rfl, h⟩ := h
    refine z_if_ne O 24 dX11_filter_19 (by decide) (fun c => ?_) (fun c => ?_)
    · replace h := h.1 c
      refine z_aload O dX11_filter_24 0 rfl ?_
      refine z_iload_n O dX11_filter_26 rfl 3 rfl ?_
      refine z_iload_n O dX11_filter_27 rfl 4 rfl ?_
      obtain ⟨hk, h⟩ := h
      refine z_callV0 (As := [.int x2, .int x3]) O zc_X11_142 h hk rfl (zRm_of hR (by decide) (by decide)) (Nat.le_of_ble_eq_true rfl) dX11_filter_28 rfl rfl rfl (fun M5 v h => ?_)
      obtain ⟨r6, rfl, h⟩ := h
      exact z_zret O dX11_filter_31 h.1 h.2
    · replace h := h.2 c
      refine z_iconst (v := 0) O dX11_filter_22 rfl ?_
      exact z_zret O dX11_filter_23 (by decide) h
set_option maxRecDepth 100000 in
set_option maxHeartbeats 4000000 in
theorem b_X11_object_0 {G : zG} {X : zX} (O : zOK G X cX11_object 6 RX11 (some .int) "object") (hR : X.R = rm_X11_object) {M : zM} {n k : Nat} {a0 : Nat} {x1 : Int32} {x2 : Int32} {x3 : Int32} {x4 : Int32} (h : M.1 a0 = 11 ∧ zC G yX11_deviceAt cX11_deviceAt 2 (some (.object "HouseWires$Device")) rm_X11_deviceAt M [.ref a0, .int x1] (fun M1 v => (v = some .null ∧ X.q M1 (some (.int (-1)))) ∨ ∃ b2 : Nat, v = some (.ref b2) ∧ False)) : zW G X 6 M n k 0 [(0, .ref a0), (1, .int x1), (2, .int x2), (3, .int x3), (4, .int x4)] [] := by
  refine z_aload_n O dX11_object_0 rfl 0 rfl ?_
  refine z_iload_n O dX11_object_1 rfl 1 rfl ?_
  obtain ⟨hk, h⟩ := h
  refine z_callV0 (As := [.int x1]) O zc_X11_146 h hk rfl (zRm_of hR (by decide) (by decide)) (Nat.le_of_ble_eq_true rfl) dX11_object_2 rfl rfl rfl (fun M1 v h => ?_)
  rcases h with ⟨rfl, h⟩ | ⟨b2, rfl, h⟩
  · skip
    refine z_astoreN (lv' := [(5, .null), (0, .ref a0), (1, .int x1), (2, .int x2), (3, .int x3), (4, .int x4)]) O dX11_object_5 (by decide) rfl ?_
    refine z_aloadN O dX11_object_7 0 rfl ?_
    refine z_ifnullN O 46 dX11_object_9 (by decide) ?_
    refine z_iconst (v := (-1)) O dX11_object_46 rfl ?_
    exact z_iret O dX11_object_47 h
  · skip
    refine z_astore (lv' := [(5, .ref b2), (0, .ref a0), (1, .int x1), (2, .int x2), (3, .int x3), (4, .int x4)]) O dX11_object_5 (by decide) rfl ?_
    refine z_aload O dX11_object_7 0 rfl ?_
    refine z_ifnull O dX11_object_9 ?_
    refine z_iload_n O dX11_object_12 rfl 3 rfl ?_
    refine z_iconst (v := 0) O dX11_object_13 rfl ?_
    exact False.elim h
set_option maxRecDepth 100000 in
set_option maxHeartbeats 4000000 in
theorem b_X11_deviceAt_0 {G : zG} {X : zX} (O : zOK G X cX11_deviceAt 2 RX11 (some (.object "HouseWires$Device")) "deviceAt") (hR : X.R = rm_X11_deviceAt) {M : zM} {n k : Nat} {a0 : Nat} {x1 : Int32} (h : M.1 a0 = 11 ∧ zC G yX11_isWithin cX11_isWithin 3 (some .boolean) rm_X11_isWithin M [.int x1, .int 0, .int ((M.2.2.1 a0 10) - 1)] (fun M1 v => ∃ r2 : Int32, v = some (.int r2) ∧ (r2 = 0 → X.q M1 (some .null)) ∧ (¬ r2 = 0 → M1.1 a0 = 11 ∧ ∃ b3 : Nat, M1.2.2.2 a0 2 = some b3 ∧ M1.1 b3 = 103 ∧ vp_in x1 (M1.2.1 b3) ∧ ∃ b4 : Nat, M1.2.2.2 b3 x1.toNatClampNeg = some b4 ∧ X.q M1 (some (.ref b4))))) : zW G X 2 M n k 0 [(0, .ref a0), (1, .int x1)] [] := by
  refine z_iload_n O dX11_deviceAt_0 rfl 1 rfl ?_
  refine z_iconst (v := 0) O dX11_deviceAt_1 rfl ?_
  refine z_aload_n O dX11_deviceAt_2 rfl 0 rfl ?_
  obtain ⟨hk, h⟩ := h
  refine z_geti O zf_X11_86_10 dX11_deviceAt_3 hk ?_
  refine z_iconst (v := 1) O dX11_deviceAt_6 rfl ?_
  refine z_isub O dX11_deviceAt_7 ?_
  refine z_callS0 (As := [.int x1, .int 0, .int ((M.2.2.1 a0 10) - 1)]) O zc_X11_71 h rfl (zRm_of hR (by decide) (by decide)) (Nat.le_of_ble_eq_true rfl) dX11_deviceAt_8 rfl rfl rfl (fun M1 v h => ?_)
  obtain ⟨r2, rfl, h⟩ := h
  refine z_if_eq O 23 dX11_deviceAt_11 (by decide) (fun c => ?_) (fun c => ?_)
  · replace h := h.1 c
    refine z_null O dX11_deviceAt_23 ?_
    exact z_aretN O dX11_deviceAt_24 h
  · replace h := h.2 c
    refine z_aload_n O dX11_deviceAt_14 rfl 0 rfl ?_
    obtain ⟨hk, b3, hr, h⟩ := h
    refine z_getr O zf_X11_24_10 dX11_deviceAt_15 hk hr ?_
    refine z_iload_n O dX11_deviceAt_18 rfl 1 rfl ?_
    obtain ⟨hk, hi, b4, hr, h⟩ := h
    refine z_ald (t := 1) O rfl dX11_deviceAt_19 hk hi hr ?_
    refine z_goto O 24 dX11_deviceAt_20 (by decide) ?_
    exact z_aret O dX11_deviceAt_24 h
set_option maxRecDepth 100000 in
set_option maxHeartbeats 4000000 in
theorem b_X11_flags_0 {G : zG} {X : zX} (O : zOK G X cX11_flags 5 RX11 (some .boolean) "flags") (hR : X.R = rm_X11_flags) {M : zM} {n k : Nat} {a0 : Nat} {x1 : Int32} {x2 : Int32} {x3 : Int32} (h : M.1 a0 = 11 ∧ zC G yX11_objectAt cX11_objectAt 4 (some (.object "HouseWires$GroupObject")) rm_X11_objectAt M [.ref a0, .int x1, .int x2] (fun M1 v => (v = some .null ∧ X.q M1 (some (.int 0))) ∨ ∃ b2 : Nat, v = some (.ref b2) ∧ zC G yX11_isWithin cX11_isWithin 3 (some .boolean) rm_X11_isWithin M1 [.int x3, .int 0, .int 31] (fun M3 v => ∃ r4 : Int32, v = some (.int r4) ∧ (¬ r4 = 0 → M3.1 b2 = 4 ∧ ∀ M5 : zM, M5 = zi M3 b2 2 x3 → X.q M5 (some (.int 1))) ∧ (r4 = 0 → X.q M3 (some (.int 0)))))) : zW G X 5 M n k 0 [(0, .ref a0), (1, .int x1), (2, .int x2), (3, .int x3)] [] := by
  refine z_aload_n O dX11_flags_0 rfl 0 rfl ?_
  refine z_iload_n O dX11_flags_1 rfl 1 rfl ?_
  refine z_iload_n O dX11_flags_2 rfl 2 rfl ?_
  obtain ⟨hk, h⟩ := h
  refine z_callV0 (As := [.int x1, .int x2]) O zc_X11_157 h hk rfl (zRm_of hR (by decide) (by decide)) (Nat.le_of_ble_eq_true rfl) dX11_flags_3 rfl rfl rfl (fun M1 v h => ?_)
  rcases h with ⟨rfl, h⟩ | ⟨b2, rfl, h⟩
  · skip
    refine z_astoreN (lv' := [(4, .null), (0, .ref a0), (1, .int x1), (2, .int x2), (3, .int x3)]) O dX11_flags_6 (by decide) rfl ?_
    refine z_aloadN O dX11_flags_8 0 rfl ?_
    refine z_ifnullN O 23 dX11_flags_10 (by decide) ?_
    refine z_iconst (v := 0) O dX11_flags_23 rfl ?_
    exact z_zret O dX11_flags_24 (by decide) h
  · skip
    refine z_astore (lv' := [(4, .ref b2), (0, .ref a0), (1, .int x1), (2, .int x2), (3, .int x3)]) O dX11_flags_6 (by decide) rfl ?_
    refine z_aload O dX11_flags_8 0 rfl ?_
    refine z_ifnull O dX11_flags_10 ?_
    refine z_iload_n O dX11_flags_13 rfl 4 rfl ?_
    refine z_iconst (v := 0) O dX11_flags_14 rfl ?_
    refine z_bipush (v := 31) O dX11_flags_15 rfl ?_
    refine z_callS0 (As := [.int x3, .int 0, .int 31]) O zc_X11_71 h rfl (zRm_of hR (by decide) (by decide)) (Nat.le_of_ble_eq_true rfl) dX11_flags_17 rfl rfl rfl (fun M3 v h => ?_)
    obtain ⟨r4, rfl, h⟩ := h
    refine z_if_ne O 25 dX11_flags_20 (by decide) (fun c => ?_) (fun c => ?_)
    · replace h := h.1 c
      refine z_aload O dX11_flags_25 0 rfl ?_
      refine z_iload_n O dX11_flags_27 rfl 4 rfl ?_
      obtain ⟨hk, h⟩ := h
      refine z_puti O zp_X11_161_3 dX11_flags_28 hk ?_
      generalize eM5 : zi M3 b2 2 x3 = M5
      replace h := h M5 eM5.symm
      refine z_iconst (v := 1) O dX11_flags_31 rfl ?_
      exact z_zret O dX11_flags_32 (by decide) h
    · replace h := h.2 c
      refine z_iconst (v := 0) O dX11_flags_23 rfl ?_
      exact z_zret O dX11_flags_24 (by decide) h
set_option maxRecDepth 100000 in
set_option maxHeartbeats 4000000 in
theorem b_X11_objectAt_0 {G : zG} {X : zX} (O : zOK G X cX11_objectAt 4 RX11 (some (.object "HouseWires$GroupObject")) "objectAt") (hR : X.R = rm_X11_objectAt) {M : zM} {n k : Nat} {a0 : Nat} {x1 : Int32} {x2 : Int32} (h : M.1 a0 = 11 ∧ zC G yX11_deviceAt cX11_deviceAt 2 (some (.object "HouseWires$Device")) rm_X11_deviceAt M [.ref a0, .int x1] (fun M1 v => (v = some .null ∧ X.q M1 (some .null)) ∨ ∃ b2 : Nat, v = some (.ref b2) ∧ M1.1 b2 = 2 ∧ zC G yX1_findObject cX1_findObject 2 (some (.object "HouseWires$GroupObject")) rm_X1_findObject M1 [.ref b2, .int x2] (fun M3 v => (v = some .null ∧ X.q M3 (some .null)) ∨ ∃ b4 : Nat, v = some (.ref b4) ∧ X.q M3 (some (.ref b4))))) : zW G X 4 M n k 0 [(0, .ref a0), (1, .int x1), (2, .int x2)] [] := by
  refine z_aload_n O dX11_objectAt_0 rfl 0 rfl ?_
  refine z_iload_n O dX11_objectAt_1 rfl 1 rfl ?_
  obtain ⟨hk, h⟩ := h
  refine z_callV0 (As := [.int x1]) O zc_X11_146 h hk rfl (zRm_of hR (by decide) (by decide)) (Nat.le_of_ble_eq_true rfl) dX11_objectAt_2 rfl rfl rfl (fun M1 v h => ?_)
  rcases h with ⟨rfl, h⟩ | ⟨b2, rfl, h⟩
  · skip
    refine z_astore_nN (lv' := [(3, .null), (0, .ref a0), (1, .int x1), (2, .int x2)]) O dX11_objectAt_5 rfl (by decide) rfl ?_
    refine z_aload_nN O dX11_objectAt_6 rfl 0 rfl ?_
    refine z_ifnonnullN O dX11_objectAt_7 ?_
    refine z_null O dX11_objectAt_10 ?_
    refine z_goto O 19 dX11_objectAt_11 (by decide) ?_
    exact z_aretN O dX11_objectAt_19 h
  · skip
    refine z_astore_n (lv' := [(3, .ref b2), (0, .ref a0), (1, .int x1), (2, .int x2)]) O dX11_objectAt_5 rfl (by decide) rfl ?_
    refine z_aload_n O dX11_objectAt_6 rfl 0 rfl ?_
    refine z_ifnonnull O 14 dX11_objectAt_7 (by decide) ?_
    refine z_aload_n O dX11_objectAt_14 rfl 0 rfl ?_
    refine z_iload_n O dX11_objectAt_15 rfl 3 rfl ?_
    obtain ⟨hk, h⟩ := h
    refine z_callV0 (As := [.int x2]) O zc_X11_327 h hk rfl (zRm_of hR (by decide) (by decide)) (Nat.le_of_ble_eq_true rfl) dX11_objectAt_16 rfl rfl rfl (fun M3 v h => ?_)
    rcases h with ⟨rfl, h⟩ | ⟨b4, rfl, h⟩
    · skip
      exact z_aretN O dX11_objectAt_19 h
    · skip
      exact z_aret O dX11_objectAt_19 h
set_option maxRecDepth 100000 in
set_option maxHeartbeats 4000000 in
theorem b_X11_link_0 {G : zG} {X : zX} (O : zOK G X cX11_link 5 RX11 (some .boolean) "link") (hR : X.R = rm_X11_link) {M : zM} {n k : Nat} {a0 : Nat} {x1 : Int32} {x2 : Int32} {x3 : Int32} (h : M.1 a0 = 11 ∧ zC G yX11_deviceAt cX11_deviceAt 2 (some (.object "HouseWires$Device")) rm_X11_deviceAt M [.ref a0, .int x1] (fun M1 v => (v = some .null ∧ X.q M1 (some (.int 0))) ∨ ∃ b2 : Nat, v = some (.ref b2) ∧ zC G yX11_isWithin cX11_isWithin 3 (some .boolean) rm_X11_isWithin M1 [.int x3, .int 1, .int 65535] (fun M3 v => ∃ r4 : Int32, v = some (.int r4) ∧ (r4 = 0 → X.q M3 (some (.int 0))) ∧ (¬ r4 = 0 → M3.1 b2 = 2 ∧ zC G yX1_addLink cX1_addLink 4 (some .boolean) rm_X1_addLink M3 [.ref b2, .int x2, .int x3] (fun M5 v => ∃ r6 : Int32, v = some (.int r6) ∧ (r6 = 0 → X.q M5 (some (.int 0))) ∧ (¬ r6 = 0 → X.q M5 (some (.int 1)))))))) : zW G X 5 M n k 0 [(0, .ref a0), (1, .int x1), (2, .int x2), (3, .int x3)] [] := by
  refine z_aload_n O dX11_link_0 rfl 0 rfl ?_
  refine z_iload_n O dX11_link_1 rfl 1 rfl ?_
  obtain ⟨hk, h⟩ := h
  refine z_callV0 (As := [.int x1]) O zc_X11_146 h hk rfl (zRm_of hR (by decide) (by decide)) (Nat.le_of_ble_eq_true rfl) dX11_link_2 rfl rfl rfl (fun M1 v h => ?_)
  rcases h with ⟨rfl, h⟩ | ⟨b2, rfl, h⟩
  · skip
    refine z_astoreN (lv' := [(4, .null), (0, .ref a0), (1, .int x1), (2, .int x2), (3, .int x3)]) O dX11_link_5 (by decide) rfl ?_
    refine z_aloadN O dX11_link_7 0 rfl ?_
    refine z_ifnullN O 36 dX11_link_9 (by decide) ?_
    refine z_iconst (v := 0) O dX11_link_36 rfl ?_
    exact z_zret O dX11_link_37 (by decide) h
  · skip
    refine z_astore (lv' := [(4, .ref b2), (0, .ref a0), (1, .int x1), (2, .int x2), (3, .int x3)]) O dX11_link_5 (by decide) rfl ?_
    refine z_aload O dX11_link_7 0 rfl ?_
    refine z_ifnull O dX11_link_9 ?_
    refine z_iload_n O dX11_link_12 rfl 4 rfl ?_
    refine z_iconst (v := 1) O dX11_link_13 rfl ?_
    refine z_ldc O dX11_link_14 zk_X11_141 ?_
    refine z_callS0 (As := [.int x3, .int 1, .int 65535]) O zc_X11_71 h rfl (zRm_of hR (by decide) (by decide)) (Nat.le_of_ble_eq_true rfl) dX11_link_16 rfl rfl rfl (fun M3 v h => ?_)
    obtain ⟨r4, rfl, h⟩ := h
    refine z_if_eq O 36 dX11_link_19 (by decide) (fun c => ?_) (fun c => ?_)
    · replace h := h.1 c
      refine z_iconst (v := 0) O dX11_link_36 rfl ?_
      exact z_zret O dX11_link_37 (by decide) h
    · replace h := h.2 c
      refine z_aload O dX11_link_22 0 rfl ?_
      refine z_iload_n O dX11_link_24 rfl 3 rfl ?_
      refine z_iload_n O dX11_link_25 rfl 4 rfl ?_
      obtain ⟨hk, h⟩ := h
      refine z_callV0 (As := [.int x2, .int x3]) O zc_X11_166 h hk rfl (zRm_of hR (by decide) (by decide)) (Nat.le_of_ble_eq_true rfl) dX11_link_26 rfl rfl rfl (fun M5 v h => ?_)
      obtain ⟨r6, rfl, h⟩ := h
      refine z_if_eq O 36 dX11_link_29 (by decide) (fun c => ?_) (fun c => ?_)
      · replace h := h.1 c
        refine z_iconst (v := 0) O dX11_link_36 rfl ?_
        exact z_zret O dX11_link_37 (by decide) h
      · replace h := h.2 c
        refine z_iconst (v := 1) O dX11_link_32 rfl ?_
        refine z_goto O 37 dX11_link_33 (by decide) ?_
        exact z_zret O dX11_link_37 (by decide) h
set_option maxRecDepth 100000 in
set_option maxHeartbeats 4000000 in
theorem b_X11_set_0 {G : zG} {X : zX} (O : zOK G X cX11_set 5 RX11 (some .int) "set") (hR : X.R = rm_X11_set) {M : zM} {n k : Nat} {a0 : Nat} {x1 : Int32} {x2 : Int32} {x3 : Int32} (h : M.1 a0 = 11 ∧ zC G yX11_deviceAt cX11_deviceAt 2 (some (.object "HouseWires$Device")) rm_X11_deviceAt M [.ref a0, .int x1] (fun M1 v => (v = some .null ∧ X.q M1 (some (.int (-1)))) ∨ ∃ b2 : Nat, v = some (.ref b2) ∧ M1.1 b2 = 2 ∧ zC G yX1_changeObject cX1_changeObject 6 (some .int) rm_X1_changeObject M1 [.ref b2, .int x2, .int x3] (fun M3 v => ∃ r4 : Int32, v = some (.int r4) ∧ X.q M3 (some (.int r4))))) : zW G X 5 M n k 0 [(0, .ref a0), (1, .int x1), (2, .int x2), (3, .int x3)] [] := by
  refine z_aload_n O dX11_set_0 rfl 0 rfl ?_
  refine z_iload_n O dX11_set_1 rfl 1 rfl ?_
  obtain ⟨hk, h⟩ := h
  refine z_callV0 (As := [.int x1]) O zc_X11_146 h hk rfl (zRm_of hR (by decide) (by decide)) (Nat.le_of_ble_eq_true rfl) dX11_set_2 rfl rfl rfl (fun M1 v h => ?_)
  rcases h with ⟨rfl, h⟩ | ⟨b2, rfl, h⟩
  · skip
    refine z_astoreN (lv' := [(4, .null), (0, .ref a0), (1, .int x1), (2, .int x2), (3, .int x3)]) O dX11_set_5 (by decide) rfl ?_
    refine z_aloadN O dX11_set_7 0 rfl ?_
    refine z_ifnonnullN O dX11_set_9 ?_
    refine z_iconst (v := (-1)) O dX11_set_12 rfl ?_
    refine z_goto O 23 dX11_set_13 (by decide) ?_
    exact z_iret O dX11_set_23 h
  · skip
    refine z_astore (lv' := [(4, .ref b2), (0, .ref a0), (1, .int x1), (2, .int x2), (3, .int x3)]) O dX11_set_5 (by decide) rfl ?_
    refine z_aload O dX11_set_7 0 rfl ?_
    refine z_ifnonnull O 16 dX11_set_9 (by decide) ?_
    refine z_aload O dX11_set_16 0 rfl ?_
    refine z_iload_n O dX11_set_18 rfl 3 rfl ?_
    refine z_iload_n O dX11_set_19 rfl 4 rfl ?_
    obtain ⟨hk, h⟩ := h
    refine z_callV0 (As := [.int x2, .int x3]) O zc_X11_170 h hk rfl (zRm_of hR (by decide) (by decide)) (Nat.le_of_ble_eq_true rfl) dX11_set_20 rfl rfl rfl (fun M3 v h => ?_)
    obtain ⟨r4, rfl, h⟩ := h
    exact z_iret O dX11_set_23 h
set_option maxRecDepth 100000 in
set_option maxHeartbeats 4000000 in
theorem b_X11_ask_0 {G : zG} {X : zX} (O : zOK G X cX11_ask 4 RX11 (some .int) "ask") (hR : X.R = rm_X11_ask) {M : zM} {n k : Nat} {a0 : Nat} {x1 : Int32} {x2 : Int32} (h : M.1 a0 = 11 ∧ zC G yX11_deviceAt cX11_deviceAt 2 (some (.object "HouseWires$Device")) rm_X11_deviceAt M [.ref a0, .int x1] (fun M1 v => (v = some .null ∧ X.q M1 (some (.int (-1)))) ∨ ∃ b2 : Nat, v = some (.ref b2) ∧ M1.1 b2 = 2 ∧ zC G yX1_askGroup cX1_askGroup 4 (some .int) rm_X1_askGroup M1 [.ref b2, .int x2] (fun M3 v => ∃ r4 : Int32, v = some (.int r4) ∧ X.q M3 (some (.int r4))))) : zW G X 4 M n k 0 [(0, .ref a0), (1, .int x1), (2, .int x2)] [] := by
  refine z_aload_n O dX11_ask_0 rfl 0 rfl ?_
  refine z_iload_n O dX11_ask_1 rfl 1 rfl ?_
  obtain ⟨hk, h⟩ := h
  refine z_callV0 (As := [.int x1]) O zc_X11_146 h hk rfl (zRm_of hR (by decide) (by decide)) (Nat.le_of_ble_eq_true rfl) dX11_ask_2 rfl rfl rfl (fun M1 v h => ?_)
  rcases h with ⟨rfl, h⟩ | ⟨b2, rfl, h⟩
  · skip
    refine z_astore_nN (lv' := [(3, .null), (0, .ref a0), (1, .int x1), (2, .int x2)]) O dX11_ask_5 rfl (by decide) rfl ?_
    refine z_aload_nN O dX11_ask_6 rfl 0 rfl ?_
    refine z_ifnonnullN O dX11_ask_7 ?_
    refine z_iconst (v := (-1)) O dX11_ask_10 rfl ?_
    refine z_goto O 19 dX11_ask_11 (by decide) ?_
    exact z_iret O dX11_ask_19 h
  · skip
    refine z_astore_n (lv' := [(3, .ref b2), (0, .ref a0), (1, .int x1), (2, .int x2)]) O dX11_ask_5 rfl (by decide) rfl ?_
    refine z_aload_n O dX11_ask_6 rfl 0 rfl ?_
    refine z_ifnonnull O 14 dX11_ask_7 (by decide) ?_
    refine z_aload_n O dX11_ask_14 rfl 0 rfl ?_
    refine z_iload_n O dX11_ask_15 rfl 3 rfl ?_
    obtain ⟨hk, h⟩ := h
    refine z_callV0 (As := [.int x2]) O zc_X11_174 h hk rfl (zRm_of hR (by decide) (by decide)) (Nat.le_of_ble_eq_true rfl) dX11_ask_16 rfl rfl rfl (fun M3 v h => ?_)
    obtain ⟨r4, rfl, h⟩ := h
    exact z_iret O dX11_ask_19 h
set_option maxRecDepth 100000 in
set_option maxHeartbeats 4000000 in
theorem b_X11_value_0 {G : zG} {X : zX} (O : zOK G X cX11_value 4 RX11 (some .long) "value") (hR : X.R = rm_X11_value) {M : zM} {n k : Nat} {a0 : Nat} {x1 : Int32} {x2 : Int32} (h : M.1 a0 = 11 ∧ zC G yX11_objectAt cX11_objectAt 4 (some (.object "HouseWires$GroupObject")) rm_X11_objectAt M [.ref a0, .int x1, .int x2] (fun M1 v => (v = some .null ∧ X.q M1 (some (.long (-1)))) ∨ ∃ b2 : Nat, v = some (.ref b2) ∧ M1.1 b2 = 4 ∧ X.q M1 (some (.long ((Int32.toInt64 (M1.2.2.1 b2 3)) &&& 4294967295))))) : zW G X 4 M n k 0 [(0, .ref a0), (1, .int x1), (2, .int x2)] [] := by
  refine z_aload_n O dX11_value_0 rfl 0 rfl ?_
  refine z_iload_n O dX11_value_1 rfl 1 rfl ?_
  refine z_iload_n O dX11_value_2 rfl 2 rfl ?_
  obtain ⟨hk, h⟩ := h
  refine z_callV0 (As := [.int x1, .int x2]) O zc_X11_157 h hk rfl (zRm_of hR (by decide) (by decide)) (Nat.le_of_ble_eq_true rfl) dX11_value_3 rfl rfl rfl (fun M1 v h => ?_)
  rcases h with ⟨rfl, h⟩ | ⟨b2, rfl, h⟩
  · skip
    refine z_astore_nN (lv' := [(3, .null), (0, .ref a0), (1, .int x1), (2, .int x2)]) O dX11_value_6 rfl (by decide) rfl ?_
    refine z_aload_nN O dX11_value_7 rfl 0 rfl ?_
    refine z_ifnonnullN O dX11_value_8 ?_
    refine z_ldc2_w O dX11_value_11 zk_X11_177 ?_
    refine z_goto O 26 dX11_value_14 (by decide) ?_
    exact z_lret O dX11_value_26 h
  · skip
    refine z_astore_n (lv' := [(3, .ref b2), (0, .ref a0), (1, .int x1), (2, .int x2)]) O dX11_value_6 rfl (by decide) rfl ?_
    refine z_aload_n O dX11_value_7 rfl 0 rfl ?_
    refine z_ifnonnull O 17 dX11_value_8 (by decide) ?_
    refine z_aload_n O dX11_value_17 rfl 0 rfl ?_
    obtain ⟨hk, h⟩ := h
    refine z_geti O zf_X11_179_3 dX11_value_18 hk ?_
    refine z_i2l O dX11_value_21 ?_
    refine z_ldc2_w O dX11_value_22 zk_X11_182 ?_
    refine z_land O dX11_value_25 ?_
    exact z_lret O dX11_value_26 h
set_option maxRecDepth 100000 in
set_option maxHeartbeats 4000000 in
theorem b_X11_updated_0 {G : zG} {X : zX} (O : zOK G X cX11_updated 4 RX11 (some .int) "updated") (hR : X.R = rm_X11_updated) {M : zM} {n k : Nat} {a0 : Nat} {x1 : Int32} {x2 : Int32} (h : M.1 a0 = 11 ∧ zC G yX11_objectAt cX11_objectAt 4 (some (.object "HouseWires$GroupObject")) rm_X11_objectAt M [.ref a0, .int x1, .int x2] (fun M1 v => (v = some .null ∧ X.q M1 (some (.int (-1)))) ∨ ∃ b2 : Nat, v = some (.ref b2) ∧ M1.1 b2 = 4 ∧ X.q M1 (some (.int (M1.2.2.1 b2 4))))) : zW G X 4 M n k 0 [(0, .ref a0), (1, .int x1), (2, .int x2)] [] := by
  refine z_aload_n O dX11_updated_0 rfl 0 rfl ?_
  refine z_iload_n O dX11_updated_1 rfl 1 rfl ?_
  refine z_iload_n O dX11_updated_2 rfl 2 rfl ?_
  obtain ⟨hk, h⟩ := h
  refine z_callV0 (As := [.int x1, .int x2]) O zc_X11_157 h hk rfl (zRm_of hR (by decide) (by decide)) (Nat.le_of_ble_eq_true rfl) dX11_updated_3 rfl rfl rfl (fun M1 v h => ?_)
  rcases h with ⟨rfl, h⟩ | ⟨b2, rfl, h⟩
  · skip
    refine z_astore_nN (lv' := [(3, .null), (0, .ref a0), (1, .int x1), (2, .int x2)]) O dX11_updated_6 rfl (by decide) rfl ?_
    refine z_aload_nN O dX11_updated_7 rfl 0 rfl ?_
    refine z_ifnonnullN O dX11_updated_8 ?_
    refine z_iconst (v := (-1)) O dX11_updated_11 rfl ?_
    refine z_goto O 19 dX11_updated_12 (by decide) ?_
    exact z_iret O dX11_updated_19 h
  · skip
    refine z_astore_n (lv' := [(3, .ref b2), (0, .ref a0), (1, .int x1), (2, .int x2)]) O dX11_updated_6 rfl (by decide) rfl ?_
    refine z_aload_n O dX11_updated_7 rfl 0 rfl ?_
    refine z_ifnonnull O 15 dX11_updated_8 (by decide) ?_
    refine z_aload_n O dX11_updated_15 rfl 0 rfl ?_
    obtain ⟨hk, h⟩ := h
    refine z_geti O zf_X11_184_3 dX11_updated_16 hk ?_
    exact z_iret O dX11_updated_19 h
set_option maxRecDepth 100000 in
set_option maxHeartbeats 4000000 in
theorem b_X11_hundredths_0 {G : zG} {X : zX} (O : zOK G X cX11_hundredths 8 RX11 (some .long) "hundredths") (hR : X.R = rm_X11_hundredths) {M : zM} {n k : Nat} {a0 : Nat} {x1 : Int32} {x2 : Int32} (h : M.1 a0 = 11 ∧ zC G yX11_objectAt cX11_objectAt 4 (some (.object "HouseWires$GroupObject")) rm_X11_objectAt M [.ref a0, .int x1, .int x2] (fun M1 v => (v = some .null ∧ X.q M1 (some (.long (-9223372036854775808)))) ∨ ∃ b2 : Nat, v = some (.ref b2) ∧ M1.1 b2 = 4 ∧ ((M1.2.2.1 b2 0) = 16 → M1.1 b2 = 4 ∧ ∀ y3 : Int32, y3 = (((M1.2.2.1 b2 3) >>> (15 &&& 31)) &&& 1) → M1.1 b2 = 4 ∧ ∀ y4 : Int32, y4 = (((M1.2.2.1 b2 3) >>> (11 &&& 31)) &&& 15) → M1.1 b2 = 4 ∧ ∀ y5 : Int64, y5 = (Int32.toInt64 (((M1.2.2.1 b2 3) &&& 2047) - (2048 * y3))) → X.q M1 (some (.long (y5 * (1 <<< (Int32.toInt64 y4 &&& 63)))))) ∧ (¬ (M1.2.2.1 b2 0) = 16 → X.q M1 (some (.long (-9223372036854775808)))))) : zW G X 8 M n k 0 [(0, .ref a0), (1, .int x1), (2, .int x2)] [] := by
  refine z_aload_n O dX11_hundredths_0 rfl 0 rfl ?_
  refine z_iload_n O dX11_hundredths_1 rfl 1 rfl ?_
  refine z_iload_n O dX11_hundredths_2 rfl 2 rfl ?_
  obtain ⟨hk, h⟩ := h
  refine z_callV0 (As := [.int x1, .int x2]) O zc_X11_157 h hk rfl (zRm_of hR (by decide) (by decide)) (Nat.le_of_ble_eq_true rfl) dX11_hundredths_3 rfl rfl rfl (fun M1 v h => ?_)
  rcases h with ⟨rfl, h⟩ | ⟨b2, rfl, h⟩
  · skip
    refine z_astore_nN (lv' := [(3, .null), (0, .ref a0), (1, .int x1), (2, .int x2)]) O dX11_hundredths_6 rfl (by decide) rfl ?_
    refine z_aload_nN O dX11_hundredths_7 rfl 0 rfl ?_
    refine z_ifnullN O 20 dX11_hundredths_8 (by decide) ?_
    refine z_ldc2_w O dX11_hundredths_20 zk_X11_192 ?_
    exact z_lret O dX11_hundredths_23 h
  · skip
    refine z_astore_n (lv' := [(3, .ref b2), (0, .ref a0), (1, .int x1), (2, .int x2)]) O dX11_hundredths_6 rfl (by decide) rfl ?_
    refine z_aload_n O dX11_hundredths_7 rfl 0 rfl ?_
    refine z_ifnull O dX11_hundredths_8 ?_
    refine z_aload_n O dX11_hundredths_11 rfl 0 rfl ?_
    obtain ⟨hk, h⟩ := h
    refine z_geti O zf_X11_187_3 dX11_hundredths_12 hk ?_
    refine z_bipush (v := 16) O dX11_hundredths_15 rfl ?_
    refine z_icmp_eq O 24 dX11_hundredths_17 (by decide) (fun c => ?_) (fun c => ?_)
    · replace h := h.1 c
      refine z_aload_n O dX11_hundredths_24 rfl 0 rfl ?_
      obtain ⟨hk, h⟩ := h
      refine z_geti O zf_X11_179_3 dX11_hundredths_25 hk ?_
      refine z_bipush (v := 15) O dX11_hundredths_28 rfl ?_
      refine z_ishr O dX11_hundredths_30 ?_
      refine z_iconst (v := 1) O dX11_hundredths_31 rfl ?_
      refine z_iand O dX11_hundredths_32 ?_
      refine z_topi (fun y3 ey3 => ?_)
      replace h := h y3 ey3
      refine z_istore (lv' := [(4, .int y3), (3, .ref b2), (0, .ref a0), (1, .int x1), (2, .int x2)]) O dX11_hundredths_33 (by decide) rfl ?_
      refine z_aload_n O dX11_hundredths_35 rfl 1 rfl ?_
      obtain ⟨hk, h⟩ := h
      refine z_geti O zf_X11_179_3 dX11_hundredths_36 hk ?_
      refine z_bipush (v := 11) O dX11_hundredths_39 rfl ?_
      refine z_ishr O dX11_hundredths_41 ?_
      refine z_bipush (v := 15) O dX11_hundredths_42 rfl ?_
      refine z_iand O dX11_hundredths_44 ?_
      refine z_topi (fun y4 ey4 => ?_)
      replace h := h y4 ey4
      refine z_istore (lv' := [(5, .int y4), (4, .int y3), (3, .ref b2), (0, .ref a0), (1, .int x1), (2, .int x2)]) O dX11_hundredths_45 (by decide) rfl ?_
      refine z_aload_n O dX11_hundredths_47 rfl 2 rfl ?_
      obtain ⟨hk, h⟩ := h
      refine z_geti O zf_X11_179_3 dX11_hundredths_48 hk ?_
      refine z_sipush (v := 2047) O dX11_hundredths_51 rfl ?_
      refine z_iand O dX11_hundredths_54 ?_
      refine z_sipush (v := 2048) O dX11_hundredths_55 rfl ?_
      refine z_iload O dX11_hundredths_58 1 rfl ?_
      refine z_imul O dX11_hundredths_60 ?_
      refine z_isub O dX11_hundredths_61 ?_
      refine z_i2l O dX11_hundredths_62 ?_
      refine z_topl (fun y5 ey5 => ?_)
      replace h := h y5 ey5
      refine z_lstore (lv' := [(6, .long y5), (5, .int y4), (4, .int y3), (3, .ref b2), (0, .ref a0), (1, .int x1), (2, .int x2)]) O dX11_hundredths_63 (by decide) rfl ?_
      refine z_lload O dX11_hundredths_65 0 rfl ?_
      refine z_lconst (v := 1) O dX11_hundredths_67 rfl ?_
      refine z_iload O dX11_hundredths_68 1 rfl ?_
      refine z_lshl O dX11_hundredths_70 ?_
      refine z_lmul O dX11_hundredths_71 ?_
      exact z_lret O dX11_hundredths_72 h
    · replace h := h.2 c
      refine z_ldc2_w O dX11_hundredths_20 zk_X11_192 ?_
      exact z_lret O dX11_hundredths_23 h
set_option maxRecDepth 100000 in
set_option maxHeartbeats 4000000 in
theorem b_X11_point_0 {G : zG} {X : zX} (O : zOK G X cX11_point 6 RX11 (some .int) "point") (hR : X.R = rm_X11_point) {M : zM} {n k : Nat} {a0 : Nat} {x1 : Int32} {x2 : Int32} {x3 : Int32} (h : M.1 a0 = 11 ∧ zC G yX11_objectAt cX11_objectAt 4 (some (.object "HouseWires$GroupObject")) rm_X11_objectAt M [.ref a0, .int x1, .int x2] (fun M1 v => (v = some .null ∧ X.q M1 (some (.int (-1)))) ∨ ∃ b2 : Nat, v = some (.ref b2) ∧ M1.1 b2 = 4 ∧ ((M1.2.2.1 b2 0) = 16 → zC G yX11_withPoint cX11_withPoint 3 (some .int) rm_X11_withPoint M1 [.int x3] (fun M3 v => ∃ r4 : Int32, v = some (.int r4) ∧ (¬ r4 = (-1) → M3.1 a0 = 11 ∧ zC G yX11_set cX11_set 5 (some .int) rm_X11_set M3 [.ref a0, .int x1, .int x2, .int r4] (fun M5 v => ∃ r6 : Int32, v = some (.int r6) ∧ X.q M5 (some (.int r6)))) ∧ (r4 = (-1) → X.q M3 (some (.int (-1)))))) ∧ (¬ (M1.2.2.1 b2 0) = 16 → X.q M1 (some (.int (-1)))))) : zW G X 6 M n k 0 [(0, .ref a0), (1, .int x1), (2, .int x2), (3, .int x3)] [] := by
  refine z_aload_n O dX11_point_0 rfl 0 rfl ?_
  refine z_iload_n O dX11_point_1 rfl 1 rfl ?_
  refine z_iload_n O dX11_point_2 rfl 2 rfl ?_
  obtain ⟨hk, h⟩ := h
  refine z_callV0 (As := [.int x1, .int x2]) O zc_X11_157 h hk rfl (zRm_of hR (by decide) (by decide)) (Nat.le_of_ble_eq_true rfl) dX11_point_3 rfl rfl rfl (fun M1 v h => ?_)
  rcases h with ⟨rfl, h⟩ | ⟨b2, rfl, h⟩
  · skip
    refine z_astoreN (lv' := [(4, .null), (0, .ref a0), (1, .int x1), (2, .int x2), (3, .int x3)]) O dX11_point_6 (by decide) rfl ?_
    refine z_aloadN O dX11_point_8 0 rfl ?_
    refine z_ifnullN O 23 dX11_point_10 (by decide) ?_
    refine z_iconst (v := (-1)) O dX11_point_23 rfl ?_
    exact z_iret O dX11_point_24 h
  · skip
    refine z_astore (lv' := [(4, .ref b2), (0, .ref a0), (1, .int x1), (2, .int x2), (3, .int x3)]) O dX11_point_6 (by decide) rfl ?_
    refine z_aload O dX11_point_8 0 rfl ?_
    refine z_ifnull O dX11_point_10 ?_
    refine z_aload O dX11_point_13 0 rfl ?_
    obtain ⟨hk, h⟩ := h
    refine z_geti O zf_X11_187_3 dX11_point_15 hk ?_
    refine z_bipush (v := 16) O dX11_point_18 rfl ?_
    refine z_icmp_eq O 25 dX11_point_20 (by decide) (fun c => ?_) (fun c => ?_)
    · replace h := h.1 c
      refine z_iload_n O dX11_point_25 rfl 4 rfl ?_
      refine z_callS0 (As := [.int x3]) O zc_X11_194 h rfl (zRm_of hR (by decide) (by decide)) (Nat.le_of_ble_eq_true rfl) dX11_point_26 rfl rfl rfl (fun M3 v h => ?_)
      obtain ⟨r4, rfl, h⟩ := h
      refine z_istore (lv' := [(5, .int r4), (4, .ref b2), (0, .ref a0), (1, .int x1), (2, .int x2), (3, .int x3)]) O dX11_point_29 (by decide) rfl ?_
      refine z_iload O dX11_point_31 0 rfl ?_
      refine z_iconst (v := (-1)) O dX11_point_33 rfl ?_
      refine z_icmp_ne O 41 dX11_point_34 (by decide) (fun c => ?_) (fun c => ?_)
      · replace h := h.1 c
        refine z_aload_n O dX11_point_41 rfl 2 rfl ?_
        refine z_iload_n O dX11_point_42 rfl 3 rfl ?_
        refine z_iload_n O dX11_point_43 rfl 4 rfl ?_
        refine z_iload O dX11_point_44 0 rfl ?_
        obtain ⟨hk, h⟩ := h
        refine z_callV0 (As := [.int x1, .int x2, .int r4]) O zc_X11_197 h hk rfl (zRm_of hR (by decide) (by decide)) (Nat.le_of_ble_eq_true rfl) dX11_point_46 rfl rfl rfl (fun M5 v h => ?_)
        obtain ⟨r6, rfl, h⟩ := h
        exact z_iret O dX11_point_49 h
      · replace h := h.2 c
        refine z_iconst (v := (-1)) O dX11_point_37 rfl ?_
        refine z_goto O 49 dX11_point_38 (by decide) ?_
        exact z_iret O dX11_point_49 h
    · replace h := h.2 c
      refine z_iconst (v := (-1)) O dX11_point_23 rfl ?_
      exact z_iret O dX11_point_24 h
set_option maxRecDepth 100000 in
set_option maxHeartbeats 4000000 in
theorem b_X11_connect_0 {G : zG} {X : zX} (O : zOK G X cX11_connect 4 RX11 (some .boolean) "connect") (hR : X.R = rm_X11_connect) {M : zM} {n k : Nat} {a0 : Nat} {x1 : Int32} {x2 : Int32} (h : M.1 a0 = 11 ∧ zC G yX11_deviceAt cX11_deviceAt 2 (some (.object "HouseWires$Device")) rm_X11_deviceAt M [.ref a0, .int x1] (fun M1 v => (v = some .null ∧ X.q M1 (some (.int 0))) ∨ ∃ b2 : Nat, v = some (.ref b2) ∧ zC G yX11_isWithin cX11_isWithin 3 (some .boolean) rm_X11_isWithin M1 [.int x2, .int 0, .int 65535] (fun M3 v => ∃ r4 : Int32, v = some (.int r4) ∧ (r4 = 0 → X.q M3 (some (.int 0))) ∧ (¬ r4 = 0 → M3.1 b2 = 2 ∧ ∃ b5 : Nat, M3.2.2.2 b2 3 = some b5 ∧ M3.1 b5 = 1 ∧ zC G yX0_join cX0_join 2 (some .boolean) rm_X0_join M3 [.ref b5, .int x2] (fun M6 v => ∃ r7 : Int32, v = some (.int r7) ∧ (r7 = 0 → X.q M6 (some (.int 0))) ∧ (¬ r7 = 0 → X.q M6 (some (.int 1)))))))) : zW G X 4 M n k 0 [(0, .ref a0), (1, .int x1), (2, .int x2)] [] := by
  refine z_aload_n O dX11_connect_0 rfl 0 rfl ?_
  refine z_iload_n O dX11_connect_1 rfl 1 rfl ?_
  obtain ⟨hk, h⟩ := h
  refine z_callV0 (As := [.int x1]) O zc_X11_146 h hk rfl (zRm_of hR (by decide) (by decide)) (Nat.le_of_ble_eq_true rfl) dX11_connect_2 rfl rfl rfl (fun M1 v h => ?_)
  rcases h with ⟨rfl, h⟩ | ⟨b2, rfl, h⟩
  · skip
    refine z_astore_nN (lv' := [(3, .null), (0, .ref a0), (1, .int x1), (2, .int x2)]) O dX11_connect_5 rfl (by decide) rfl ?_
    refine z_aload_nN O dX11_connect_6 rfl 0 rfl ?_
    refine z_ifnullN O 35 dX11_connect_7 (by decide) ?_
    refine z_iconst (v := 0) O dX11_connect_35 rfl ?_
    exact z_zret O dX11_connect_36 (by decide) h
  · skip
    refine z_astore_n (lv' := [(3, .ref b2), (0, .ref a0), (1, .int x1), (2, .int x2)]) O dX11_connect_5 rfl (by decide) rfl ?_
    refine z_aload_n O dX11_connect_6 rfl 0 rfl ?_
    refine z_ifnull O dX11_connect_7 ?_
    refine z_iload_n O dX11_connect_10 rfl 3 rfl ?_
    refine z_iconst (v := 0) O dX11_connect_11 rfl ?_
    refine z_ldc O dX11_connect_12 zk_X11_141 ?_
    refine z_callS0 (As := [.int x2, .int 0, .int 65535]) O zc_X11_71 h rfl (zRm_of hR (by decide) (by decide)) (Nat.le_of_ble_eq_true rfl) dX11_connect_14 rfl rfl rfl (fun M3 v h => ?_)
    obtain ⟨r4, rfl, h⟩ := h
    refine z_if_eq O 35 dX11_connect_17 (by decide) (fun c => ?_) (fun c => ?_)
    · replace h := h.1 c
      refine z_iconst (v := 0) O dX11_connect_35 rfl ?_
      exact z_zret O dX11_connect_36 (by decide) h
    · replace h := h.2 c
      refine z_aload_n O dX11_connect_20 rfl 0 rfl ?_
      obtain ⟨hk, b5, hr, h⟩ := h
      refine z_getr O zf_X11_200_1 dX11_connect_21 hk hr ?_
      refine z_iload_n O dX11_connect_24 rfl 3 rfl ?_
      obtain ⟨hk, h⟩ := h
      refine z_callV0 (As := [.int x2]) O zc_X11_204 h hk rfl (zRm_of hR (by decide) (by decide)) (Nat.le_of_ble_eq_true rfl) dX11_connect_25 rfl rfl rfl (fun M6 v h => ?_)
      obtain ⟨r7, rfl, h⟩ := h
      refine z_if_eq O 35 dX11_connect_28 (by decide) (fun c => ?_) (fun c => ?_)
      · replace h := h.1 c
        refine z_iconst (v := 0) O dX11_connect_35 rfl ?_
        exact z_zret O dX11_connect_36 (by decide) h
      · replace h := h.2 c
        refine z_iconst (v := 1) O dX11_connect_31 rfl ?_
        refine z_goto O 36 dX11_connect_32 (by decide) ?_
        exact z_zret O dX11_connect_36 (by decide) h
set_option maxRecDepth 100000 in
set_option maxHeartbeats 4000000 in
theorem b_X11_disconnect_0 {G : zG} {X : zX} (O : zOK G X cX11_disconnect 3 RX11 (some .boolean) "disconnect") (hR : X.R = rm_X11_disconnect) {M : zM} {n k : Nat} {a0 : Nat} {x1 : Int32} (h : M.1 a0 = 11 ∧ zC G yX11_deviceAt cX11_deviceAt 2 (some (.object "HouseWires$Device")) rm_X11_deviceAt M [.ref a0, .int x1] (fun M1 v => (v = some .null ∧ X.q M1 (some (.int 0))) ∨ ∃ b2 : Nat, v = some (.ref b2) ∧ M1.1 b2 = 2 ∧ ∃ b3 : Nat, M1.2.2.2 b2 3 = some b3 ∧ M1.1 b3 = 1 ∧ (¬ (M1.2.2.1 b3 7) = 0 → M1.1 b2 = 2 ∧ ∃ b4 : Nat, M1.2.2.2 b2 3 = some b4 ∧ M1.1 b4 = 1 ∧ zC G yX0_close cX0_close 1 none rm_X0_close M1 [.ref b4] (fun M5 v => v = none ∧ X.q M5 (some (.int 1)))) ∧ ((M1.2.2.1 b3 7) = 0 → X.q M1 (some (.int 0))))) : zW G X 3 M n k 0 [(0, .ref a0), (1, .int x1)] [] := by
  refine z_aload_n O dX11_disconnect_0 rfl 0 rfl ?_
  refine z_iload_n O dX11_disconnect_1 rfl 1 rfl ?_
  obtain ⟨hk, h⟩ := h
  refine z_callV0 (As := [.int x1]) O zc_X11_146 h hk rfl (zRm_of hR (by decide) (by decide)) (Nat.le_of_ble_eq_true rfl) dX11_disconnect_2 rfl rfl rfl (fun M1 v h => ?_)
  rcases h with ⟨rfl, h⟩ | ⟨b2, rfl, h⟩
  · skip
    refine z_astore_nN (lv' := [(2, .null), (0, .ref a0), (1, .int x1)]) O dX11_disconnect_5 rfl (by decide) rfl ?_
    refine z_aload_nN O dX11_disconnect_6 rfl 0 rfl ?_
    refine z_ifnullN O 20 dX11_disconnect_7 (by decide) ?_
    refine z_iconst (v := 0) O dX11_disconnect_20 rfl ?_
    exact z_zret O dX11_disconnect_21 (by decide) h
  · skip
    refine z_astore_n (lv' := [(2, .ref b2), (0, .ref a0), (1, .int x1)]) O dX11_disconnect_5 rfl (by decide) rfl ?_
    refine z_aload_n O dX11_disconnect_6 rfl 0 rfl ?_
    refine z_ifnull O dX11_disconnect_7 ?_
    refine z_aload_n O dX11_disconnect_10 rfl 0 rfl ?_
    obtain ⟨hk, b3, hr, h⟩ := h
    refine z_getr O zf_X11_200_1 dX11_disconnect_11 hk hr ?_
    obtain ⟨hk, h⟩ := h
    refine z_geti O zf_X11_207_0 dX11_disconnect_14 hk ?_
    refine z_if_ne O 22 dX11_disconnect_17 (by decide) (fun c => ?_) (fun c => ?_)
    · replace h := h.1 c
      refine z_aload_n O dX11_disconnect_22 rfl 0 rfl ?_
      obtain ⟨hk, b4, hr, h⟩ := h
      refine z_getr O zf_X11_200_1 dX11_disconnect_23 hk hr ?_
      obtain ⟨hk, h⟩ := h
      refine z_callV0 (As := []) O zc_X11_210 h hk rfl (zRm_of hR (by decide) (by decide)) (Nat.le_of_ble_eq_true rfl) dX11_disconnect_26 rfl rfl rfl (fun M5 v h => ?_)
      obtain ⟨rfl, h⟩ := h
      refine z_iconst (v := 1) O dX11_disconnect_29 rfl ?_
      exact z_zret O dX11_disconnect_30 (by decide) h
    · replace h := h.2 c
      refine z_iconst (v := 0) O dX11_disconnect_20 rfl ?_
      exact z_zret O dX11_disconnect_21 (by decide) h
set_option maxRecDepth 100000 in
set_option maxHeartbeats 4000000 in
theorem b_X11_peek_0 {G : zG} {X : zX} (O : zOK G X cX11_peek 5 RX11 (some .boolean) "peek") (hR : X.R = rm_X11_peek) {M : zM} {n k : Nat} {a0 : Nat} {x1 : Int32} {x2 : Int32} {x3 : Int32} (h : M.1 a0 = 11 ∧ zC G yX11_deviceAt cX11_deviceAt 2 (some (.object "HouseWires$Device")) rm_X11_deviceAt M [.ref a0, .int x1] (fun M1 v => (v = some .null ∧ X.q M1 (some (.int 0))) ∨ ∃ b2 : Nat, v = some (.ref b2) ∧ zC G yX11_isWithin cX11_isWithin 3 (some .boolean) rm_X11_isWithin M1 [.int x2, .int 0, .int 65535] (fun M3 v => ∃ r4 : Int32, v = some (.int r4) ∧ (r4 = 0 → X.q M3 (some (.int 0))) ∧ (¬ r4 = 0 → zC G yX11_isWithin cX11_isWithin 3 (some .boolean) rm_X11_isWithin M3 [.int x3, .int 1, .int 12] (fun M5 v => ∃ r6 : Int32, v = some (.int r6) ∧ (r6 = 0 → X.q M5 (some (.int 0))) ∧ (¬ r6 = 0 → M5.1 b2 = 2 ∧ ∃ b7 : Nat, M5.2.2.2 b2 3 = some b7 ∧ M5.1 b7 = 1 ∧ zC G yX0_orderRead cX0_orderRead 3 (some .boolean) rm_X0_orderRead M5 [.ref b7, .int x2, .int x3] (fun M8 v => ∃ r9 : Int32, v = some (.int r9) ∧ (r9 = 0 → X.q M8 (some (.int 0))) ∧ (¬ r9 = 0 → X.q M8 (some (.int 1)))))))))) : zW G X 5 M n k 0 [(0, .ref a0), (1, .int x1), (2, .int x2), (3, .int x3)] [] := by
  refine z_aload_n O dX11_peek_0 rfl 0 rfl ?_
  refine z_iload_n O dX11_peek_1 rfl 1 rfl ?_
  obtain ⟨hk, h⟩ := h
  refine z_callV0 (As := [.int x1]) O zc_X11_146 h hk rfl (zRm_of hR (by decide) (by decide)) (Nat.le_of_ble_eq_true rfl) dX11_peek_2 rfl rfl rfl (fun M1 v h => ?_)
  rcases h with ⟨rfl, h⟩ | ⟨b2, rfl, h⟩
  · skip
    refine z_astoreN (lv' := [(4, .null), (0, .ref a0), (1, .int x1), (2, .int x2), (3, .int x3)]) O dX11_peek_5 (by decide) rfl ?_
    refine z_aloadN O dX11_peek_7 0 rfl ?_
    refine z_ifnullN O 49 dX11_peek_9 (by decide) ?_
    refine z_iconst (v := 0) O dX11_peek_49 rfl ?_
    exact z_zret O dX11_peek_50 (by decide) h
  · skip
    refine z_astore (lv' := [(4, .ref b2), (0, .ref a0), (1, .int x1), (2, .int x2), (3, .int x3)]) O dX11_peek_5 (by decide) rfl ?_
    refine z_aload O dX11_peek_7 0 rfl ?_
    refine z_ifnull O dX11_peek_9 ?_
    refine z_iload_n O dX11_peek_12 rfl 3 rfl ?_
    refine z_iconst (v := 0) O dX11_peek_13 rfl ?_
    refine z_ldc O dX11_peek_14 zk_X11_141 ?_
    refine z_callS0 (As := [.int x2, .int 0, .int 65535]) O zc_X11_71 h rfl (zRm_of hR (by decide) (by decide)) (Nat.le_of_ble_eq_true rfl) dX11_peek_16 rfl rfl rfl (fun M3 v h => ?_)
    obtain ⟨r4, rfl, h⟩ := h
    refine z_if_eq O 49 dX11_peek_19 (by decide) (fun c => ?_) (fun c => ?_)
    · replace h := h.1 c
      refine z_iconst (v := 0) O dX11_peek_49 rfl ?_
      exact z_zret O dX11_peek_50 (by decide) h
    · replace h := h.2 c
      refine z_iload_n O dX11_peek_22 rfl 4 rfl ?_
      refine z_iconst (v := 1) O dX11_peek_23 rfl ?_
      refine z_bipush (v := 12) O dX11_peek_24 rfl ?_
      refine z_callS0 (As := [.int x3, .int 1, .int 12]) O zc_X11_71 h rfl (zRm_of hR (by decide) (by decide)) (Nat.le_of_ble_eq_true rfl) dX11_peek_26 rfl rfl rfl (fun M5 v h => ?_)
      obtain ⟨r6, rfl, h⟩ := h
      refine z_if_eq O 49 dX11_peek_29 (by decide) (fun c => ?_) (fun c => ?_)
      · replace h := h.1 c
        refine z_iconst (v := 0) O dX11_peek_49 rfl ?_
        exact z_zret O dX11_peek_50 (by decide) h
      · replace h := h.2 c
        refine z_aload O dX11_peek_32 0 rfl ?_
        obtain ⟨hk, b7, hr, h⟩ := h
        refine z_getr O zf_X11_200_1 dX11_peek_34 hk hr ?_
        refine z_iload_n O dX11_peek_37 rfl 3 rfl ?_
        refine z_iload_n O dX11_peek_38 rfl 4 rfl ?_
        obtain ⟨hk, h⟩ := h
        refine z_callV0 (As := [.int x2, .int x3]) O zc_X11_213 h hk rfl (zRm_of hR (by decide) (by decide)) (Nat.le_of_ble_eq_true rfl) dX11_peek_39 rfl rfl rfl (fun M8 v h => ?_)
        obtain ⟨r9, rfl, h⟩ := h
        refine z_if_eq O 49 dX11_peek_42 (by decide) (fun c => ?_) (fun c => ?_)
        · replace h := h.1 c
          refine z_iconst (v := 0) O dX11_peek_49 rfl ?_
          exact z_zret O dX11_peek_50 (by decide) h
        · replace h := h.2 c
          refine z_iconst (v := 1) O dX11_peek_45 rfl ?_
          refine z_goto O 50 dX11_peek_46 (by decide) ?_
          exact z_zret O dX11_peek_50 (by decide) h
set_option maxRecDepth 100000 in
set_option maxHeartbeats 4000000 in
theorem b_X11_poke_0 {G : zG} {X : zX} (O : zOK G X cX11_poke 6 RX11 (some .boolean) "poke") (hR : X.R = rm_X11_poke) {M : zM} {n k : Nat} {a0 : Nat} {x1 : Int32} {x2 : Int32} {x3 : Int32} {x4 : Int32} (h : M.1 a0 = 11 ∧ zC G yX11_deviceAt cX11_deviceAt 2 (some (.object "HouseWires$Device")) rm_X11_deviceAt M [.ref a0, .int x1] (fun M1 v => (v = some .null ∧ X.q M1 (some (.int 0))) ∨ ∃ b2 : Nat, v = some (.ref b2) ∧ zC G yX11_isWithin cX11_isWithin 3 (some .boolean) rm_X11_isWithin M1 [.int x2, .int 0, .int 65535] (fun M3 v => ∃ r4 : Int32, v = some (.int r4) ∧ (r4 = 0 → X.q M3 (some (.int 0))) ∧ (¬ r4 = 0 → zC G yX11_isWithin cX11_isWithin 3 (some .boolean) rm_X11_isWithin M3 [.int x3, .int 1, .int 4] (fun M5 v => ∃ r6 : Int32, v = some (.int r6) ∧ (r6 = 0 → X.q M5 (some (.int 0))) ∧ (¬ r6 = 0 → M5.1 b2 = 2 ∧ ∃ b7 : Nat, M5.2.2.2 b2 3 = some b7 ∧ M5.1 b7 = 1 ∧ zC G yX0_orderWrite cX0_orderWrite 5 (some .boolean) rm_X0_orderWrite M5 [.ref b7, .int x2, .int x3, .int x4] (fun M8 v => ∃ r9 : Int32, v = some (.int r9) ∧ (r9 = 0 → X.q M8 (some (.int 0))) ∧ (¬ r9 = 0 → X.q M8 (some (.int 1)))))))))) : zW G X 6 M n k 0 [(0, .ref a0), (1, .int x1), (2, .int x2), (3, .int x3), (4, .int x4)] [] := by
  refine z_aload_n O dX11_poke_0 rfl 0 rfl ?_
  refine z_iload_n O dX11_poke_1 rfl 1 rfl ?_
  obtain ⟨hk, h⟩ := h
  refine z_callV0 (As := [.int x1]) O zc_X11_146 h hk rfl (zRm_of hR (by decide) (by decide)) (Nat.le_of_ble_eq_true rfl) dX11_poke_2 rfl rfl rfl (fun M1 v h => ?_)
  rcases h with ⟨rfl, h⟩ | ⟨b2, rfl, h⟩
  · skip
    refine z_astoreN (lv' := [(5, .null), (0, .ref a0), (1, .int x1), (2, .int x2), (3, .int x3), (4, .int x4)]) O dX11_poke_5 (by decide) rfl ?_
    refine z_aloadN O dX11_poke_7 0 rfl ?_
    refine z_ifnullN O 50 dX11_poke_9 (by decide) ?_
    refine z_iconst (v := 0) O dX11_poke_50 rfl ?_
    exact z_zret O dX11_poke_51 (by decide) h
  · skip
    refine z_astore (lv' := [(5, .ref b2), (0, .ref a0), (1, .int x1), (2, .int x2), (3, .int x3), (4, .int x4)]) O dX11_poke_5 (by decide) rfl ?_
    refine z_aload O dX11_poke_7 0 rfl ?_
    refine z_ifnull O dX11_poke_9 ?_
    refine z_iload_n O dX11_poke_12 rfl 3 rfl ?_
    refine z_iconst (v := 0) O dX11_poke_13 rfl ?_
    refine z_ldc O dX11_poke_14 zk_X11_141 ?_
    refine z_callS0 (As := [.int x2, .int 0, .int 65535]) O zc_X11_71 h rfl (zRm_of hR (by decide) (by decide)) (Nat.le_of_ble_eq_true rfl) dX11_poke_16 rfl rfl rfl (fun M3 v h => ?_)
    obtain ⟨r4, rfl, h⟩ := h
    refine z_if_eq O 50 dX11_poke_19 (by decide) (fun c => ?_) (fun c => ?_)
    · replace h := h.1 c
      refine z_iconst (v := 0) O dX11_poke_50 rfl ?_
      exact z_zret O dX11_poke_51 (by decide) h
    · replace h := h.2 c
      refine z_iload_n O dX11_poke_22 rfl 4 rfl ?_
      refine z_iconst (v := 1) O dX11_poke_23 rfl ?_
      refine z_iconst (v := 4) O dX11_poke_24 rfl ?_
      refine z_callS0 (As := [.int x3, .int 1, .int 4]) O zc_X11_71 h rfl (zRm_of hR (by decide) (by decide)) (Nat.le_of_ble_eq_true rfl) dX11_poke_25 rfl rfl rfl (fun M5 v h => ?_)
      obtain ⟨r6, rfl, h⟩ := h
      refine z_if_eq O 50 dX11_poke_28 (by decide) (fun c => ?_) (fun c => ?_)
      · replace h := h.1 c
        refine z_iconst (v := 0) O dX11_poke_50 rfl ?_
        exact z_zret O dX11_poke_51 (by decide) h
      · replace h := h.2 c
        refine z_aload O dX11_poke_31 0 rfl ?_
        obtain ⟨hk, b7, hr, h⟩ := h
        refine z_getr O zf_X11_200_1 dX11_poke_33 hk hr ?_
        refine z_iload_n O dX11_poke_36 rfl 3 rfl ?_
        refine z_iload_n O dX11_poke_37 rfl 4 rfl ?_
        refine z_iload O dX11_poke_38 5 rfl ?_
        obtain ⟨hk, h⟩ := h
        refine z_callV0 (As := [.int x2, .int x3, .int x4]) O zc_X11_216 h hk rfl (zRm_of hR (by decide) (by decide)) (Nat.le_of_ble_eq_true rfl) dX11_poke_40 rfl rfl rfl (fun M8 v h => ?_)
        obtain ⟨r9, rfl, h⟩ := h
        refine z_if_eq O 50 dX11_poke_43 (by decide) (fun c => ?_) (fun c => ?_)
        · replace h := h.1 c
          refine z_iconst (v := 0) O dX11_poke_50 rfl ?_
          exact z_zret O dX11_poke_51 (by decide) h
        · replace h := h.2 c
          refine z_iconst (v := 1) O dX11_poke_46 rfl ?_
          refine z_goto O 51 dX11_poke_47 (by decide) ?_
          exact z_zret O dX11_poke_51 (by decide) h
set_option maxRecDepth 100000 in
set_option maxHeartbeats 4000000 in
theorem b_X11_memory_0 {G : zG} {X : zX} (O : zOK G X cX11_memory 4 RX11 (some .int) "memory") (hR : X.R = rm_X11_memory) {M : zM} {n k : Nat} {a0 : Nat} {x1 : Int32} {x2 : Int32} (h : M.1 a0 = 11 ∧ zC G yX11_deviceAt cX11_deviceAt 2 (some (.object "HouseWires$Device")) rm_X11_deviceAt M [.ref a0, .int x1] (fun M1 v => (v = some .null ∧ X.q M1 (some (.int (-1)))) ∨ ∃ b2 : Nat, v = some (.ref b2) ∧ zC G yX11_isWithin cX11_isWithin 3 (some .boolean) rm_X11_isWithin M1 [.int x2, .int 0, .int 63] (fun M3 v => ∃ r4 : Int32, v = some (.int r4) ∧ (¬ r4 = 0 → M3.1 b2 = 2 ∧ ∃ b5 : Nat, M3.2.2.2 b2 3 = some b5 ∧ M3.1 b5 = 1 ∧ ∃ b6 : Nat, M3.2.2.2 b5 4 = some b6 ∧ M3.1 b6 = 100 ∧ vp_in x2 (M3.2.1 b6) ∧ X.q M3 (some (.int (M3.2.2.1 b6 x2.toNatClampNeg)))) ∧ (r4 = 0 → X.q M3 (some (.int (-1))))))) : zW G X 4 M n k 0 [(0, .ref a0), (1, .int x1), (2, .int x2)] [] := by
  refine z_aload_n O dX11_memory_0 rfl 0 rfl ?_
  refine z_iload_n O dX11_memory_1 rfl 1 rfl ?_
  obtain ⟨hk, h⟩ := h
  refine z_callV0 (As := [.int x1]) O zc_X11_146 h hk rfl (zRm_of hR (by decide) (by decide)) (Nat.le_of_ble_eq_true rfl) dX11_memory_2 rfl rfl rfl (fun M1 v h => ?_)
  rcases h with ⟨rfl, h⟩ | ⟨b2, rfl, h⟩
  · skip
    refine z_astore_nN (lv' := [(3, .null), (0, .ref a0), (1, .int x1), (2, .int x2)]) O dX11_memory_5 rfl (by decide) rfl ?_
    refine z_aload_nN O dX11_memory_6 rfl 0 rfl ?_
    refine z_ifnullN O 20 dX11_memory_7 (by decide) ?_
    refine z_iconst (v := (-1)) O dX11_memory_20 rfl ?_
    exact z_iret O dX11_memory_21 h
  · skip
    refine z_astore_n (lv' := [(3, .ref b2), (0, .ref a0), (1, .int x1), (2, .int x2)]) O dX11_memory_5 rfl (by decide) rfl ?_
    refine z_aload_n O dX11_memory_6 rfl 0 rfl ?_
    refine z_ifnull O dX11_memory_7 ?_
    refine z_iload_n O dX11_memory_10 rfl 3 rfl ?_
    refine z_iconst (v := 0) O dX11_memory_11 rfl ?_
    refine z_bipush (v := 63) O dX11_memory_12 rfl ?_
    refine z_callS0 (As := [.int x2, .int 0, .int 63]) O zc_X11_71 h rfl (zRm_of hR (by decide) (by decide)) (Nat.le_of_ble_eq_true rfl) dX11_memory_14 rfl rfl rfl (fun M3 v h => ?_)
    obtain ⟨r4, rfl, h⟩ := h
    refine z_if_ne O 22 dX11_memory_17 (by decide) (fun c => ?_) (fun c => ?_)
    · replace h := h.1 c
      refine z_aload_n O dX11_memory_22 rfl 0 rfl ?_
      obtain ⟨hk, b5, hr, h⟩ := h
      refine z_getr O zf_X11_200_1 dX11_memory_23 hk hr ?_
      obtain ⟨hk, b6, hr, h⟩ := h
      refine z_getr O zf_X11_219_0 dX11_memory_26 hk hr ?_
      refine z_iload_n O dX11_memory_29 rfl 3 rfl ?_
      obtain ⟨hk, hi, h⟩ := h
      refine z_iald O dX11_memory_30 hk hi ?_
      exact z_iret O dX11_memory_31 h
    · replace h := h.2 c
      refine z_iconst (v := (-1)) O dX11_memory_20 rfl ?_
      exact z_iret O dX11_memory_21 h
set_option maxRecDepth 100000 in
set_option maxHeartbeats 4000000 in
theorem b_X11_store_0 {G : zG} {X : zX} (O : zOK G X cX11_store 5 RX11 (some .boolean) "store") (hR : X.R = rm_X11_store) {M : zM} {n k : Nat} {a0 : Nat} {x1 : Int32} {x2 : Int32} {x3 : Int32} (h : M.1 a0 = 11 ∧ zC G yX11_deviceAt cX11_deviceAt 2 (some (.object "HouseWires$Device")) rm_X11_deviceAt M [.ref a0, .int x1] (fun M1 v => (v = some .null ∧ X.q M1 (some (.int 0))) ∨ ∃ b2 : Nat, v = some (.ref b2) ∧ zC G yX11_isWithin cX11_isWithin 3 (some .boolean) rm_X11_isWithin M1 [.int x2, .int 0, .int 63] (fun M3 v => ∃ r4 : Int32, v = some (.int r4) ∧ (¬ r4 = 0 → M3.1 b2 = 2 ∧ ∃ b5 : Nat, M3.2.2.2 b2 3 = some b5 ∧ M3.1 b5 = 1 ∧ ∃ b6 : Nat, M3.2.2.2 b5 4 = some b6 ∧ M3.1 b6 = 100 ∧ vp_in x2 (M3.2.1 b6) ∧ ∀ M7 : zM, M7 = zi M3 b6 (x2.toNatClampNeg) (x3 &&& 255) → X.q M7 (some (.int 1))) ∧ (r4 = 0 → X.q M3 (some (.int 0)))))) : zW G X 5 M n k 0 [(0, .ref a0), (1, .int x1), (2, .int x2), (3, .int x3)] [] := by
  refine z_aload_n O dX11_store_0 rfl 0 rfl ?_
  refine z_iload_n O dX11_store_1 rfl 1 rfl ?_
  obtain ⟨hk, h⟩ := h
  refine z_callV0 (As := [.int x1]) O zc_X11_146 h hk rfl (zRm_of hR (by decide) (by decide)) (Nat.le_of_ble_eq_true rfl) dX11_store_2 rfl rfl rfl (fun M1 v h => ?_)
  rcases h with ⟨rfl, h⟩ | ⟨b2, rfl, h⟩
  · skip
    refine z_astoreN (lv' := [(4, .null), (0, .ref a0), (1, .int x1), (2, .int x2), (3, .int x3)]) O dX11_store_5 (by decide) rfl ?_
    refine z_aloadN O dX11_store_7 0 rfl ?_
    refine z_ifnullN O 22 dX11_store_9 (by decide) ?_
    refine z_iconst (v := 0) O dX11_store_22 rfl ?_
    exact z_zret O dX11_store_23 (by decide) h
  · skip
    refine z_astore (lv' := [(4, .ref b2), (0, .ref a0), (1, .int x1), (2, .int x2), (3, .int x3)]) O dX11_store_5 (by decide) rfl ?_
    refine z_aload O dX11_store_7 0 rfl ?_
    refine z_ifnull O dX11_store_9 ?_
    refine z_iload_n O dX11_store_12 rfl 3 rfl ?_
    refine z_iconst (v := 0) O dX11_store_13 rfl ?_
    refine z_bipush (v := 63) O dX11_store_14 rfl ?_
    refine z_callS0 (As := [.int x2, .int 0, .int 63]) O zc_X11_71 h rfl (zRm_of hR (by decide) (by decide)) (Nat.le_of_ble_eq_true rfl) dX11_store_16 rfl rfl rfl (fun M3 v h => ?_)
    obtain ⟨r4, rfl, h⟩ := h
    refine z_if_ne O 24 dX11_store_19 (by decide) (fun c => ?_) (fun c => ?_)
    · replace h := h.1 c
      refine z_aload O dX11_store_24 0 rfl ?_
      obtain ⟨hk, b5, hr, h⟩ := h
      refine z_getr O zf_X11_200_1 dX11_store_26 hk hr ?_
      obtain ⟨hk, b6, hr, h⟩ := h
      refine z_getr O zf_X11_219_0 dX11_store_29 hk hr ?_
      refine z_iload_n O dX11_store_32 rfl 3 rfl ?_
      refine z_iload_n O dX11_store_33 rfl 4 rfl ?_
      refine z_sipush (v := 255) O dX11_store_34 rfl ?_
      refine z_iand O dX11_store_37 ?_
      obtain ⟨hk, hi, h⟩ := h
      refine z_iast O dX11_store_38 hk hi ?_
      generalize eM7 : zi M3 b6 (x2.toNatClampNeg) (x3 &&& 255) = M7
      replace h := h M7 eM7.symm
      refine z_iconst (v := 1) O dX11_store_39 rfl ?_
      exact z_zret O dX11_store_40 (by decide) h
    · replace h := h.2 c
      refine z_iconst (v := 0) O dX11_store_22 rfl ?_
      exact z_zret O dX11_store_23 (by decide) h
set_option maxRecDepth 100000 in
set_option maxHeartbeats 4000000 in
theorem b_X11_reply_0 {G : zG} {X : zX} (O : zOK G X cX11_reply 5 RX11 (some .int) "reply") (hR : X.R = rm_X11_reply) {M : zM} {n k : Nat} {a0 : Nat} {x1 : Int32} {x2 : Int32} (h : M.1 a0 = 11 ∧ zC G yX11_deviceAt cX11_deviceAt 2 (some (.object "HouseWires$Device")) rm_X11_deviceAt M [.ref a0, .int x1] (fun M1 v => (v = some .null ∧ X.q M1 (some (.int (-1)))) ∨ ∃ b2 : Nat, v = some (.ref b2) ∧ M1.1 b2 = 2 ∧ ∃ b3 : Nat, M1.2.2.2 b2 3 = some b3 ∧ M1.1 b3 = 1 ∧ ∀ y4 : Int32, y4 = (M1.2.2.1 b3 6) → (¬ x2 = (-1) → zC G yX11_isWithin cX11_isWithin 3 (some .boolean) rm_X11_isWithin M1 [.int x2, .int 0, .int (y4 - 1)] (fun M5 v => ∃ r6 : Int32, v = some (.int r6) ∧ (r6 = 0 → X.q M5 (some (.int (-1)))) ∧ (¬ r6 = 0 → M5.1 b2 = 2 ∧ ∃ b7 : Nat, M5.2.2.2 b2 3 = some b7 ∧ M5.1 b7 = 1 ∧ ∃ b8 : Nat, M5.2.2.2 b7 5 = some b8 ∧ M5.1 b8 = 100 ∧ vp_in x2 (M5.2.1 b8) ∧ X.q M5 (some (.int (M5.2.2.1 b8 x2.toNatClampNeg)))))) ∧ (x2 = (-1) → X.q M1 (some (.int y4))))) : zW G X 5 M n k 0 [(0, .ref a0), (1, .int x1), (2, .int x2)] [] := by
  refine z_aload_n O dX11_reply_0 rfl 0 rfl ?_
  refine z_iload_n O dX11_reply_1 rfl 1 rfl ?_
  obtain ⟨hk, h⟩ := h
  refine z_callV0 (As := [.int x1]) O zc_X11_146 h hk rfl (zRm_of hR (by decide) (by decide)) (Nat.le_of_ble_eq_true rfl) dX11_reply_2 rfl rfl rfl (fun M1 v h => ?_)
  rcases h with ⟨rfl, h⟩ | ⟨b2, rfl, h⟩
  · skip
    refine z_astore_nN (lv' := [(3, .null), (0, .ref a0), (1, .int x1), (2, .int x2)]) O dX11_reply_5 rfl (by decide) rfl ?_
    refine z_aload_nN O dX11_reply_6 rfl 0 rfl ?_
    refine z_ifnonnullN O dX11_reply_7 ?_
    refine z_iconst (v := (-1)) O dX11_reply_10 rfl ?_
    exact z_iret O dX11_reply_11 h
  · skip
    refine z_astore_n (lv' := [(3, .ref b2), (0, .ref a0), (1, .int x1), (2, .int x2)]) O dX11_reply_5 rfl (by decide) rfl ?_
    refine z_aload_n O dX11_reply_6 rfl 0 rfl ?_
    refine z_ifnonnull O 12 dX11_reply_7 (by decide) ?_
    refine z_aload_n O dX11_reply_12 rfl 0 rfl ?_
    obtain ⟨hk, b3, hr, h⟩ := h
    refine z_getr O zf_X11_200_1 dX11_reply_13 hk hr ?_
    obtain ⟨hk, h⟩ := h
    refine z_geti O zf_X11_222_0 dX11_reply_16 hk ?_
    refine z_topi (fun y4 ey4 => ?_)
    replace h := h y4 ey4
    refine z_istore (lv' := [(4, .int y4), (3, .ref b2), (0, .ref a0), (1, .int x1), (2, .int x2)]) O dX11_reply_19 (by decide) rfl ?_
    refine z_iload_n O dX11_reply_21 rfl 4 rfl ?_
    refine z_iconst (v := (-1)) O dX11_reply_22 rfl ?_
    refine z_icmp_ne O 29 dX11_reply_23 (by decide) (fun c => ?_) (fun c => ?_)
    · replace h := h.1 c
      refine z_iload_n O dX11_reply_29 rfl 4 rfl ?_
      refine z_iconst (v := 0) O dX11_reply_30 rfl ?_
      refine z_iload O dX11_reply_31 0 rfl ?_
      refine z_iconst (v := 1) O dX11_reply_33 rfl ?_
      refine z_isub O dX11_reply_34 ?_
      refine z_callS0 (As := [.int x2, .int 0, .int (y4 - 1)]) O zc_X11_71 h rfl (zRm_of hR (by decide) (by decide)) (Nat.le_of_ble_eq_true rfl) dX11_reply_35 rfl rfl rfl (fun M5 v h => ?_)
      obtain ⟨r6, rfl, h⟩ := h
      refine z_if_eq O 53 dX11_reply_38 (by decide) (fun c => ?_) (fun c => ?_)
      · replace h := h.1 c
        refine z_iconst (v := (-1)) O dX11_reply_53 rfl ?_
        exact z_iret O dX11_reply_54 h
      · replace h := h.2 c
        refine z_aload_n O dX11_reply_41 rfl 1 rfl ?_
        obtain ⟨hk, b7, hr, h⟩ := h
        refine z_getr O zf_X11_200_1 dX11_reply_42 hk hr ?_
        obtain ⟨hk, b8, hr, h⟩ := h
        refine z_getr O zf_X11_225_0 dX11_reply_45 hk hr ?_
        refine z_iload_n O dX11_reply_48 rfl 4 rfl ?_
        obtain ⟨hk, hi, h⟩ := h
        refine z_iald O dX11_reply_49 hk hi ?_
        refine z_goto O 54 dX11_reply_50 (by decide) ?_
        exact z_iret O dX11_reply_54 h
    · replace h := h.2 c
      refine z_iload O dX11_reply_26 0 rfl ?_
      exact z_iret O dX11_reply_28 h
set_option maxRecDepth 100000 in
set_option maxHeartbeats 4000000 in
theorem b_X11_connection_0 {G : zG} {X : zX} (O : zOK G X cX11_connection 4 RX11 (some .int) "connection") (hR : X.R = rm_X11_connection) {M : zM} {n k : Nat} {a0 : Nat} {x1 : Int32} {x2 : Int32} (h : M.1 a0 = 11 ∧ zC G yX11_deviceAt cX11_deviceAt 2 (some (.object "HouseWires$Device")) rm_X11_deviceAt M [.ref a0, .int x1] (fun M1 v => (v = some .null ∧ X.q M1 (some (.int (-1)))) ∨ ∃ b2 : Nat, v = some (.ref b2) ∧ (x2.toInt < 7 ∨ 11 < x2.toInt → M1.1 b2 = 2 ∧ ∃ b3 : Nat, M1.2.2.2 b2 3 = some b3 ∧ M1.1 b3 = 1 ∧ zC G yX0_tell cX0_tell 3 (some .int) rm_X0_tell M1 [.ref b3, .int x2] (fun M4 v => ∃ r5 : Int32, v = some (.int r5) ∧ X.q M4 (some (.int r5)))) ∧ (x2.toInt = 7 → M1.1 b2 = 2 ∧ ∃ b6 : Nat, M1.2.2.2 b2 0 = some b6 ∧ M1.1 b6 = 8 ∧ X.q M1 (some (.int (M1.2.2.1 b6 2)))) ∧ (x2.toInt = 8 → M1.1 b2 = 2 ∧ X.q M1 (some (.int (M1.2.2.1 b2 2)))) ∧ (x2.toInt = 9 → M1.1 b2 = 2 ∧ X.q M1 (some (.int (M1.2.2.1 b2 10)))) ∧ (x2.toInt = 10 → M1.1 b2 = 2 ∧ X.q M1 (some (.int (M1.2.2.1 b2 8)))) ∧ (x2.toInt = 11 → M1.1 b2 = 2 ∧ X.q M1 (some (.int (M1.2.2.1 b2 9)))))) : zW G X 4 M n k 0 [(0, .ref a0), (1, .int x1), (2, .int x2)] [] := by
  refine z_aload_n O dX11_connection_0 rfl 0 rfl ?_
  refine z_iload_n O dX11_connection_1 rfl 1 rfl ?_
  obtain ⟨hk, h⟩ := h
  refine z_callV0 (As := [.int x1]) O zc_X11_146 h hk rfl (zRm_of hR (by decide) (by decide)) (Nat.le_of_ble_eq_true rfl) dX11_connection_2 rfl rfl rfl (fun M1 v h => ?_)
  rcases h with ⟨rfl, h⟩ | ⟨b2, rfl, h⟩
  · skip
    refine z_astore_nN (lv' := [(3, .null), (0, .ref a0), (1, .int x1), (2, .int x2)]) O dX11_connection_5 rfl (by decide) rfl ?_
    refine z_aload_nN O dX11_connection_6 rfl 0 rfl ?_
    refine z_ifnonnullN O dX11_connection_7 ?_
    refine z_iconst (v := (-1)) O dX11_connection_10 rfl ?_
    exact z_iret O dX11_connection_11 h
  · skip
    refine z_astore_n (lv' := [(3, .ref b2), (0, .ref a0), (1, .int x1), (2, .int x2)]) O dX11_connection_5 rfl (by decide) rfl ?_
    refine z_aload_n O dX11_connection_6 rfl 0 rfl ?_
    refine z_ifnonnull O 12 dX11_connection_7 (by decide) ?_
    refine z_iload_n O dX11_connection_12 rfl 3 rfl ?_
    rcases zsw x2 7 11 (by decide) with c | ⟨j, hj, c⟩
    · refine z_tsOut O 76 dX11_connection_13 c (by decide) ?_
      replace h := h.1 c
      refine z_aload_n O dX11_connection_76 rfl 0 rfl ?_
      obtain ⟨hk, b3, hr, h⟩ := h
      refine z_getr O zf_X11_200_1 dX11_connection_77 hk hr ?_
      refine z_iload_n O dX11_connection_80 rfl 3 rfl ?_
      obtain ⟨hk, h⟩ := h
      refine z_callV0 (As := [.int x2]) O zc_X11_247 h hk rfl (zRm_of hR (by decide) (by decide)) (Nat.le_of_ble_eq_true rfl) dX11_connection_81 rfl rfl rfl (fun M4 v h => ?_)
      obtain ⟨r5, rfl, h⟩ := h
      exact z_iret O dX11_connection_84 h
    · replace h := h.2
      rcases zcas j 0 with hz | hz
      · subst hz
        replace h := h.1 (by rw [c]; rfl)
        refine z_tsIn (off := 35) O 48 dX11_connection_13 (by rw [c]; decide) (by rw [c]; decide) (by rw [c]; rfl) (by decide) ?_
        refine z_aload_n O dX11_connection_48 rfl 0 rfl ?_
        obtain ⟨hk, b6, hr, h⟩ := h
        refine z_getr O zf_X11_228_1 dX11_connection_49 hk hr ?_
        obtain ⟨hk, h⟩ := h
        refine z_geti O zf_X11_232_7 dX11_connection_52 hk ?_
        exact z_iret O dX11_connection_55 h
      · replace h := h.2
        rcases zcas j 1 with hz | hz
        · subst hz
          replace h := h.1 (by rw [c]; rfl)
          refine z_tsIn (off := 43) O 56 dX11_connection_13 (by rw [c]; decide) (by rw [c]; decide) (by rw [c]; rfl) (by decide) ?_
          refine z_aload_n O dX11_connection_56 rfl 0 rfl ?_
          obtain ⟨hk, h⟩ := h
          refine z_geti O zf_X11_235_1 dX11_connection_57 hk ?_
          exact z_iret O dX11_connection_60 h
        · replace h := h.2
          rcases zcas j 2 with hz | hz
          · subst hz
            replace h := h.1 (by rw [c]; rfl)
            refine z_tsIn (off := 48) O 61 dX11_connection_13 (by rw [c]; decide) (by rw [c]; decide) (by rw [c]; rfl) (by decide) ?_
            refine z_aload_n O dX11_connection_61 rfl 0 rfl ?_
            obtain ⟨hk, h⟩ := h
            refine z_geti O zf_X11_238_1 dX11_connection_62 hk ?_
            exact z_iret O dX11_connection_65 h
          · replace h := h.2
            rcases zcas j 3 with hz | hz
            · subst hz
              replace h := h.1 (by rw [c]; rfl)
              refine z_tsIn (off := 53) O 66 dX11_connection_13 (by rw [c]; decide) (by rw [c]; decide) (by rw [c]; rfl) (by decide) ?_
              refine z_aload_n O dX11_connection_66 rfl 0 rfl ?_
              obtain ⟨hk, h⟩ := h
              refine z_geti O zf_X11_241_1 dX11_connection_67 hk ?_
              exact z_iret O dX11_connection_70 h
            · replace h := h.2
              have hz : j = 4 := by omega
              subst hz
              replace h := h (by rw [c]; rfl)
              refine z_tsIn (off := 58) O 71 dX11_connection_13 (by rw [c]; decide) (by rw [c]; decide) (by rw [c]; rfl) (by decide) ?_
              refine z_aload_n O dX11_connection_71 rfl 0 rfl ?_
              obtain ⟨hk, h⟩ := h
              refine z_geti O zf_X11_244_1 dX11_connection_72 hk ?_
              exact z_iret O dX11_connection_75 h
set_option maxRecDepth 100000 in
set_option maxHeartbeats 4000000 in
theorem b_X11_busy_0 {G : zG} {X : zX} (O : zOK G X cX11_busy 4 RX11 (some .boolean) "busy") (hR : X.R = rm_X11_busy) {M : zM} {n k : Nat} {a0 : Nat} {x1 : Int32} {x2 : Int32} (h : M.1 a0 = 11 ∧ zC G yX11_deviceAt cX11_deviceAt 2 (some (.object "HouseWires$Device")) rm_X11_deviceAt M [.ref a0, .int x1] (fun M1 v => (v = some .null ∧ X.q M1 (some (.int 0))) ∨ ∃ b2 : Nat, v = some (.ref b2) ∧ zC G yX11_isWithin cX11_isWithin 3 (some .boolean) rm_X11_isWithin M1 [.int x2, .int 0, .int 20] (fun M3 v => ∃ r4 : Int32, v = some (.int r4) ∧ (¬ r4 = 0 → M3.1 b2 = 2 ∧ ∀ M5 : zM, M5 = zi M3 b2 10 x2 → X.q M5 (some (.int 1))) ∧ (r4 = 0 → X.q M3 (some (.int 0)))))) : zW G X 4 M n k 0 [(0, .ref a0), (1, .int x1), (2, .int x2)] [] := by
  refine z_aload_n O dX11_busy_0 rfl 0 rfl ?_
  refine z_iload_n O dX11_busy_1 rfl 1 rfl ?_
  obtain ⟨hk, h⟩ := h
  refine z_callV0 (As := [.int x1]) O zc_X11_146 h hk rfl (zRm_of hR (by decide) (by decide)) (Nat.le_of_ble_eq_true rfl) dX11_busy_2 rfl rfl rfl (fun M1 v h => ?_)
  rcases h with ⟨rfl, h⟩ | ⟨b2, rfl, h⟩
  · skip
    refine z_astore_nN (lv' := [(3, .null), (0, .ref a0), (1, .int x1), (2, .int x2)]) O dX11_busy_5 rfl (by decide) rfl ?_
    refine z_aload_nN O dX11_busy_6 rfl 0 rfl ?_
    refine z_ifnullN O 20 dX11_busy_7 (by decide) ?_
    refine z_iconst (v := 0) O dX11_busy_20 rfl ?_
    exact z_zret O dX11_busy_21 (by decide) h
  · skip
    refine z_astore_n (lv' := [(3, .ref b2), (0, .ref a0), (1, .int x1), (2, .int x2)]) O dX11_busy_5 rfl (by decide) rfl ?_
    refine z_aload_n O dX11_busy_6 rfl 0 rfl ?_
    refine z_ifnull O dX11_busy_7 ?_
    refine z_iload_n O dX11_busy_10 rfl 3 rfl ?_
    refine z_iconst (v := 0) O dX11_busy_11 rfl ?_
    refine z_bipush (v := 20) O dX11_busy_12 rfl ?_
    refine z_callS0 (As := [.int x2, .int 0, .int 20]) O zc_X11_71 h rfl (zRm_of hR (by decide) (by decide)) (Nat.le_of_ble_eq_true rfl) dX11_busy_14 rfl rfl rfl (fun M3 v h => ?_)
    obtain ⟨r4, rfl, h⟩ := h
    refine z_if_ne O 22 dX11_busy_17 (by decide) (fun c => ?_) (fun c => ?_)
    · replace h := h.1 c
      refine z_aload_n O dX11_busy_22 rfl 0 rfl ?_
      refine z_iload_n O dX11_busy_23 rfl 3 rfl ?_
      obtain ⟨hk, h⟩ := h
      refine z_puti O zp_X11_238_1 dX11_busy_24 hk ?_
      generalize eM5 : zi M3 b2 10 x2 = M5
      replace h := h M5 eM5.symm
      refine z_iconst (v := 1) O dX11_busy_27 rfl ?_
      exact z_zret O dX11_busy_28 (by decide) h
    · replace h := h.2 c
      refine z_iconst (v := 0) O dX11_busy_20 rfl ?_
      exact z_zret O dX11_busy_21 (by decide) h
set_option maxRecDepth 100000 in
set_option maxHeartbeats 4000000 in
theorem b_X11_feed_0 {G : zG} {X : zX} (O : zOK G X cX11_feed 6 RX11 (some .int) "feed") (hR : X.R = rm_X11_feed) {M : zM} {n k : Nat} {a0 : Nat} {x1 : Int32} {x2 : Int32} {x3 : Int32} {x4 : Int32} {x5 : Int32} (h : M.1 a0 = 11 ∧ ((M.2.2.1 a0 12) ≤ 40 → M.1 a0 = 11 ∧ zC G yX11_feedNumber cX11_feedNumber 3 none rm_X11_feedNumber M [.ref a0, .int x1] (fun M1 v => v = none ∧ M1.1 a0 = 11 ∧ zC G yX11_feedNumber cX11_feedNumber 3 none rm_X11_feedNumber M1 [.ref a0, .int x2] (fun M2 v => v = none ∧ M2.1 a0 = 11 ∧ zC G yX11_feedNumber cX11_feedNumber 3 none rm_X11_feedNumber M2 [.ref a0, .int x3] (fun M3 v => v = none ∧ M3.1 a0 = 11 ∧ zC G yX11_feedNumber cX11_feedNumber 3 none rm_X11_feedNumber M3 [.ref a0, .int x4] (fun M4 v => v = none ∧ M4.1 a0 = 11 ∧ zC G yX11_feedNumber cX11_feedNumber 3 none rm_X11_feedNumber M4 [.ref a0, .int x5] (fun M5 v => v = none ∧ M5.1 a0 = 11 ∧ X.q M5 (some (.int (M5.2.2.1 a0 12))))))))) ∧ (¬ (M.2.2.1 a0 12) ≤ 40 → X.q M (some (.int (-1))))) : zW G X 6 M n k 0 [(0, .ref a0), (1, .int x1), (2, .int x2), (3, .int x3), (4, .int x4), (5, .int x5)] [] := by
  refine z_aload_n O dX11_feed_0 rfl 0 rfl ?_
  obtain ⟨hk, h⟩ := h
  refine z_geti O zf_X11_250_10 dX11_feed_1 hk ?_
  refine z_bipush (v := 40) O dX11_feed_4 rfl ?_
  refine z_icmp_le O 11 dX11_feed_6 (by decide) (fun c => ?_) (fun c => ?_)
  · replace h := h.1 c
    refine z_aload_n O dX11_feed_11 rfl 0 rfl ?_
    refine z_iload_n O dX11_feed_12 rfl 1 rfl ?_
    obtain ⟨hk, h⟩ := h
    refine z_callV0 (As := [.int x1]) O zc_X11_253 h hk rfl (zRm_of hR (by decide) (by decide)) (Nat.le_of_ble_eq_true rfl) dX11_feed_13 rfl rfl rfl (fun M1 v h => ?_)
    obtain ⟨rfl, h⟩ := h
    refine z_aload_n O dX11_feed_16 rfl 0 rfl ?_
    refine z_iload_n O dX11_feed_17 rfl 2 rfl ?_
    obtain ⟨hk, h⟩ := h
    refine z_callV0 (As := [.int x2]) O zc_X11_253 h hk rfl (zRm_of hR (by decide) (by decide)) (Nat.le_of_ble_eq_true rfl) dX11_feed_18 rfl rfl rfl (fun M2 v h => ?_)
    obtain ⟨rfl, h⟩ := h
    refine z_aload_n O dX11_feed_21 rfl 0 rfl ?_
    refine z_iload_n O dX11_feed_22 rfl 3 rfl ?_
    obtain ⟨hk, h⟩ := h
    refine z_callV0 (As := [.int x3]) O zc_X11_253 h hk rfl (zRm_of hR (by decide) (by decide)) (Nat.le_of_ble_eq_true rfl) dX11_feed_23 rfl rfl rfl (fun M3 v h => ?_)
    obtain ⟨rfl, h⟩ := h
    refine z_aload_n O dX11_feed_26 rfl 0 rfl ?_
    refine z_iload O dX11_feed_27 4 rfl ?_
    obtain ⟨hk, h⟩ := h
    refine z_callV0 (As := [.int x4]) O zc_X11_253 h hk rfl (zRm_of hR (by decide) (by decide)) (Nat.le_of_ble_eq_true rfl) dX11_feed_29 rfl rfl rfl (fun M4 v h => ?_)
    obtain ⟨rfl, h⟩ := h
    refine z_aload_n O dX11_feed_32 rfl 0 rfl ?_
    refine z_iload O dX11_feed_33 5 rfl ?_
    obtain ⟨hk, h⟩ := h
    refine z_callV0 (As := [.int x5]) O zc_X11_253 h hk rfl (zRm_of hR (by decide) (by decide)) (Nat.le_of_ble_eq_true rfl) dX11_feed_35 rfl rfl rfl (fun M5 v h => ?_)
    obtain ⟨rfl, h⟩ := h
    refine z_aload_n O dX11_feed_38 rfl 0 rfl ?_
    obtain ⟨hk, h⟩ := h
    refine z_geti O zf_X11_250_10 dX11_feed_39 hk ?_
    exact z_iret O dX11_feed_42 h
  · replace h := h.2 c
    refine z_iconst (v := (-1)) O dX11_feed_9 rfl ?_
    exact z_iret O dX11_feed_10 h
set_option maxRecDepth 100000 in
set_option maxHeartbeats 4000000 in
theorem b_X11_feedNumber_0 {G : zG} {X : zX} (O : zOK G X cX11_feedNumber 3 RX11 none "feedNumber") (hR : X.R = rm_X11_feedNumber) {M : zM} {n k : Nat} {a0 : Nat} {x1 : Int32} (h : zW G X 3 M n k 3 [(0, .ref a0), (1, .int x1), (2, .int 24)] []) : zW G X 3 M n k 0 [(0, .ref a0), (1, .int x1)] [] := by
  refine z_bipush (v := 24) O dX11_feedNumber_0 rfl ?_
  refine z_istore_n (lv' := [(2, .int 24), (0, .ref a0), (1, .int x1)]) O dX11_feedNumber_2 rfl (by decide) rfl ?_
  exact z_to [1, 2, 0] rfl h
set_option maxRecDepth 100000 in
set_option maxHeartbeats 4000000 in
theorem b_X11_feedNumber_3 {G : zG} {X : zX} (O : zOK G X cX11_feedNumber 3 RX11 none "feedNumber") (hR : X.R = rm_X11_feedNumber) {M : zM} {n k : Nat} {a0 : Nat} {x1 : Int32} {x2 : Int32} (h : (x2 < 0 → X.q M none) ∧ (¬ x2 < 0 → M.1 a0 = 11 ∧ (60 ≤ (M.2.2.1 a0 12) → X.q M none) ∧ (¬ 60 ≤ (M.2.2.1 a0 12) → M.1 a0 = 11 ∧ ∃ b1 : Nat, M.2.2.2 a0 6 = some b1 ∧ M.1 a0 = 11 ∧ M.1 b1 = 100 ∧ vp_in ((M.2.2.1 a0 12)) (M.2.1 b1) ∧ ∀ M2 : zM, M2 = zi M b1 (((M.2.2.1 a0 12)).toNatClampNeg) ((x1 >>> (x2 &&& 31)) &&& 255) → M2.1 a0 = 11 ∧ M2.1 a0 = 11 ∧ ∀ M3 : zM, M3 = zi M2 a0 12 ((M2.2.2.1 a0 12) + 1) → ∀ y4 : Int32, y4 = x2 + (-8) → zW G X 3 M3 n k 3 [(0, .ref a0), (1, .int x1), (2, .int y4)] []))) : zW G X 3 M n k 3 [(0, .ref a0), (1, .int x1), (2, .int x2)] [] := by
  refine z_iload_n O dX11_feedNumber_3 rfl 2 rfl ?_
  refine z_if_lt O 48 dX11_feedNumber_4 (by decide) (fun c => ?_) (fun c => ?_)
  · replace h := h.1 c
    exact z_vret O dX11_feedNumber_48 h
  · replace h := h.2 c
    refine z_aload_n O dX11_feedNumber_7 rfl 0 rfl ?_
    obtain ⟨hk, h⟩ := h
    refine z_geti O zf_X11_250_10 dX11_feedNumber_8 hk ?_
    refine z_bipush (v := 60) O dX11_feedNumber_11 rfl ?_
    refine z_icmp_ge O 48 dX11_feedNumber_13 (by decide) (fun c => ?_) (fun c => ?_)
    · replace h := h.1 c
      exact z_vret O dX11_feedNumber_48 h
    · replace h := h.2 c
      refine z_aload_n O dX11_feedNumber_16 rfl 0 rfl ?_
      obtain ⟨hk, b1, hr, h⟩ := h
      refine z_getr O zf_X11_47_10 dX11_feedNumber_17 hk hr ?_
      refine z_aload_n O dX11_feedNumber_20 rfl 0 rfl ?_
      obtain ⟨hk, h⟩ := h
      refine z_geti O zf_X11_250_10 dX11_feedNumber_21 hk ?_
      refine z_iload_n O dX11_feedNumber_24 rfl 1 rfl ?_
      refine z_iload_n O dX11_feedNumber_25 rfl 2 rfl ?_
      refine z_ishr O dX11_feedNumber_26 ?_
      refine z_sipush (v := 255) O dX11_feedNumber_27 rfl ?_
      refine z_iand O dX11_feedNumber_30 ?_
      obtain ⟨hk, hi, h⟩ := h
      refine z_iast O dX11_feedNumber_31 hk hi ?_
      generalize eM2 : zi M b1 (((M.2.2.1 a0 12)).toNatClampNeg) ((x1 >>> (x2 &&& 31)) &&& 255) = M2
      replace h := h M2 eM2.symm
      refine z_aload_n O dX11_feedNumber_32 rfl 0 rfl ?_
      refine z_dup O dX11_feedNumber_33 rfl ?_
      obtain ⟨hk, h⟩ := h
      refine z_geti O zf_X11_250_10 dX11_feedNumber_34 hk ?_
      refine z_iconst (v := 1) O dX11_feedNumber_37 rfl ?_
      refine z_iadd O dX11_feedNumber_38 ?_
      obtain ⟨hk, h⟩ := h
      refine z_puti O zp_X11_250_10 dX11_feedNumber_39 hk ?_
      generalize eM3 : zi M2 a0 12 ((M2.2.2.1 a0 12) + 1) = M3
      replace h := h M3 eM3.symm
      obtain ⟨y4, ey4⟩ : ∃ y : Int32, y = x2 + (-8) := ⟨_, rfl⟩
      replace h := h y4 ey4
      refine z_iinc (v := y4) (lv' := [(2, .int y4), (0, .ref a0), (1, .int x1)]) O dX11_feedNumber_42 (q := 2) rfl (by rw [ey4]; rfl) (by decide) rfl ?_
      refine z_goto O 3 dX11_feedNumber_45 (by decide) ?_
      exact z_to [1, 2, 0] rfl h
set_option maxRecDepth 100000 in
set_option maxHeartbeats 4000000 in
theorem b_X11_end_0 {G : zG} {X : zX} (O : zOK G X cX11_end 2 RX11 (some .int) "end") (hR : X.R = rm_X11_end) {M : zM} {n k : Nat} {a0 : Nat} {x1 : Int32} (h : (x1 < 0 → X.q M (some (.int (-1)))) ∧ (¬ x1 < 0 → M.1 a0 = 11 ∧ (x1 ≤ (M.2.2.1 a0 12) → M.1 a0 = 11 ∧ ∀ M1 : zM, M1 = zi M a0 12 x1 → X.q M1 (some (.int x1))) ∧ (¬ x1 ≤ (M.2.2.1 a0 12) → X.q M (some (.int (-1)))))) : zW G X 2 M n k 0 [(0, .ref a0), (1, .int x1)] [] := by
  refine z_iload_n O dX11_end_0 rfl 1 rfl ?_
  refine z_if_lt O 12 dX11_end_1 (by decide) (fun c => ?_) (fun c => ?_)
  · replace h := h.1 c
    refine z_iconst (v := (-1)) O dX11_end_12 rfl ?_
    exact z_iret O dX11_end_13 h
  · replace h := h.2 c
    refine z_iload_n O dX11_end_4 rfl 1 rfl ?_
    refine z_aload_n O dX11_end_5 rfl 0 rfl ?_
    obtain ⟨hk, h⟩ := h
    refine z_geti O zf_X11_250_10 dX11_end_6 hk ?_
    refine z_icmp_le O 14 dX11_end_9 (by decide) (fun c => ?_) (fun c => ?_)
    · replace h := h.1 c
      refine z_aload_n O dX11_end_14 rfl 0 rfl ?_
      refine z_iload_n O dX11_end_15 rfl 1 rfl ?_
      obtain ⟨hk, h⟩ := h
      refine z_puti O zp_X11_250_10 dX11_end_16 hk ?_
      generalize eM1 : zi M a0 12 x1 = M1
      replace h := h M1 eM1.symm
      refine z_iload_n O dX11_end_19 rfl 1 rfl ?_
      exact z_iret O dX11_end_20 h
    · replace h := h.2 c
      refine z_iconst (v := (-1)) O dX11_end_12 rfl ?_
      exact z_iret O dX11_end_13 h
set_option maxRecDepth 100000 in
set_option maxHeartbeats 4000000 in
theorem b_X11_raw_0 {G : zG} {X : zX} (O : zOK G X cX11_raw 4 RX11 (some .int) "raw") (hR : X.R = rm_X11_raw) {M : zM} {n k : Nat} {a0 : Nat} {x1 : Int32} (h : M.1 a0 = 11 ∧ zC G yX11_lineAt cX11_lineAt 2 (some (.object "HouseWires$Line")) rm_X11_lineAt M [.ref a0, .int x1] (fun M1 v => (v = some .null ∧ X.q M1 (some (.int (-1)))) ∨ ∃ b2 : Nat, v = some (.ref b2) ∧ M1.1 a0 = 11 ∧ zC G yX11_isWithin cX11_isWithin 3 (some .boolean) rm_X11_isWithin M1 [.int (M1.2.2.1 a0 12), .int 8, .int 23] (fun M3 v => ∃ r4 : Int32, v = some (.int r4) ∧ (¬ r4 = 0 → M3.1 b2 = 6 ∧ ∃ b5 : Nat, M3.2.2.2 b2 1 = some b5 ∧ M3.1 b5 = 8 ∧ zC G yX7_isFull cX7_isFull 1 (some .boolean) rm_X7_isFull M3 [.ref b5] (fun M6 v => ∃ r7 : Int32, v = some (.int r7) ∧ (r7 = 0 → M6.1 a0 = 11 ∧ ∃ b8 : Nat, M6.2.2.2 a0 6 = some b8 ∧ M6.1 a0 = 11 ∧ ∃ b9 : Nat, M6.2.2.2 a0 8 = some b9 ∧ M6.1 b9 = 10 ∧ ∃ b10 : Nat, M6.2.2.2 b9 0 = some b10 ∧ M6.1 a0 = 11 ∧ False) ∧ (¬ r7 = 0 → X.q M6 (some (.int (-2)))))) ∧ (r4 = 0 → X.q M3 (some (.int (-1))))))) : zW G X 4 M n k 0 [(0, .ref a0), (1, .int x1)] [] := by
  refine z_aload_n O dX11_raw_0 rfl 0 rfl ?_
  refine z_iload_n O dX11_raw_1 rfl 1 rfl ?_
  obtain ⟨hk, h⟩ := h
  refine z_callV0 (As := [.int x1]) O zc_X11_82 h hk rfl (zRm_of hR (by decide) (by decide)) (Nat.le_of_ble_eq_true rfl) dX11_raw_2 rfl rfl rfl (fun M1 v h => ?_)
  rcases h with ⟨rfl, h⟩ | ⟨b2, rfl, h⟩
  · skip
    refine z_astore_nN (lv' := [(2, .null), (0, .ref a0), (1, .int x1)]) O dX11_raw_5 rfl (by decide) rfl ?_
    refine z_aload_nN O dX11_raw_6 rfl 0 rfl ?_
    refine z_ifnullN O 24 dX11_raw_7 (by decide) ?_
    refine z_iconst (v := (-1)) O dX11_raw_24 rfl ?_
    exact z_iret O dX11_raw_25 h
  · skip
    refine z_astore_n (lv' := [(2, .ref b2), (0, .ref a0), (1, .int x1)]) O dX11_raw_5 rfl (by decide) rfl ?_
    refine z_aload_n O dX11_raw_6 rfl 0 rfl ?_
    refine z_ifnull O dX11_raw_7 ?_
    refine z_aload_n O dX11_raw_10 rfl 1 rfl ?_
    obtain ⟨hk, h⟩ := h
    refine z_geti O zf_X11_250_10 dX11_raw_11 hk ?_
    refine z_bipush (v := 8) O dX11_raw_14 rfl ?_
    refine z_bipush (v := 23) O dX11_raw_16 rfl ?_
    refine z_callS0 (As := [.int (M1.2.2.1 a0 12), .int 8, .int 23]) O zc_X11_71 h rfl (zRm_of hR (by decide) (by decide)) (Nat.le_of_ble_eq_true rfl) dX11_raw_18 rfl rfl rfl (fun M3 v h => ?_)
    obtain ⟨r4, rfl, h⟩ := h
    refine z_if_ne O 26 dX11_raw_21 (by decide) (fun c => ?_) (fun c => ?_)
    · replace h := h.1 c
      refine z_aload_n O dX11_raw_26 rfl 0 rfl ?_
      obtain ⟨hk, b5, hr, h⟩ := h
      refine z_getr O zf_X11_257_5 dX11_raw_27 hk hr ?_
      refine z_astore_n (lv' := [(3, .ref b5), (2, .ref b2), (0, .ref a0), (1, .int x1)]) O dX11_raw_30 rfl (by decide) rfl ?_
      refine z_aload_n O dX11_raw_31 rfl 0 rfl ?_
      obtain ⟨hk, h⟩ := h
      refine z_callV0 (As := []) O zc_X11_260 h hk rfl (zRm_of hR (by decide) (by decide)) (Nat.le_of_ble_eq_true rfl) dX11_raw_32 rfl rfl rfl (fun M6 v h => ?_)
      obtain ⟨r7, rfl, h⟩ := h
      refine z_if_eq O 41 dX11_raw_35 (by decide) (fun c => ?_) (fun c => ?_)
      · replace h := h.1 c
        refine z_aload_n O dX11_raw_41 rfl 2 rfl ?_
        obtain ⟨hk, b8, hr, h⟩ := h
        refine z_getr O zf_X11_47_10 dX11_raw_42 hk hr ?_
        refine z_iconst (v := 0) O dX11_raw_45 rfl ?_
        refine z_aload_n O dX11_raw_46 rfl 2 rfl ?_
        obtain ⟨hk, b9, hr, h⟩ := h
        refine z_getr O zf_X11_58_10 dX11_raw_47 hk hr ?_
        obtain ⟨hk, b10, hr, h⟩ := h
        refine z_getr O zf_X11_264_9 dX11_raw_50 hk hr ?_
        refine z_iconst (v := 0) O dX11_raw_53 rfl ?_
        refine z_aload_n O dX11_raw_54 rfl 2 rfl ?_
        obtain ⟨hk, h⟩ := h
        refine z_geti O zf_X11_250_10 dX11_raw_55 hk ?_
        exact False.elim h
      · replace h := h.2 c
        refine z_bipush (v := (-2)) O dX11_raw_38 rfl ?_
        exact z_iret O dX11_raw_40 h
    · replace h := h.2 c
      refine z_iconst (v := (-1)) O dX11_raw_24 rfl ?_
      exact z_iret O dX11_raw_25 h
set_option maxRecDepth 100000 in
set_option maxHeartbeats 4000000 in
theorem b_X11_harm_0 {G : zG} {X : zX} (O : zOK G X cX11_harm 4 RX11 (some .boolean) "harm") (hR : X.R = rm_X11_harm) {M : zM} {n k : Nat} {a0 : Nat} {x1 : Int32} {x2 : Int32} {x3 : Int32} (h : zC G yX11_isWithin cX11_isWithin 3 (some .boolean) rm_X11_isWithin M [.int x1, .int 0, .int 500] (fun M1 v => ∃ r2 : Int32, v = some (.int r2) ∧ (r2 = 0 → X.q M1 (some (.int 0))) ∧ (¬ r2 = 0 → zC G yX11_isWithin cX11_isWithin 3 (some .boolean) rm_X11_isWithin M1 [.int x2, .int 0, .int 22] (fun M3 v => ∃ r4 : Int32, v = some (.int r4) ∧ (r4 = 0 → X.q M3 (some (.int 0))) ∧ (¬ r4 = 0 → zC G yX11_isWithin cX11_isWithin 3 (some .boolean) rm_X11_isWithin M3 [.int x3, .int 1, .int 255] (fun M5 v => ∃ r6 : Int32, v = some (.int r6) ∧ (¬ r6 = 0 → M5.1 a0 = 11 ∧ ∃ b7 : Nat, M5.2.2.2 a0 5 = some b7 ∧ M5.1 a0 = 11 ∧ ∃ b8 : Nat, M5.2.2.2 a0 0 = some b8 ∧ M5.1 b8 = 9 ∧ M5.1 b7 = 5 ∧ zC G yX4_add cX4_add 5 (some .boolean) rm_X4_add M5 [.ref b7, .int ((M5.2.2.1 b8 1) + x1), .int x2, .int x3] (fun M9 v => ∃ r10 : Int32, v = some (.int r10) ∧ (r10 = 0 ∨ r10 = 1) ∧ X.q M9 (some (.int r10)))) ∧ (r6 = 0 → X.q M5 (some (.int 0))))))))) : zW G X 4 M n k 0 [(0, .ref a0), (1, .int x1), (2, .int x2), (3, .int x3)] [] := by
  refine z_iload_n O dX11_harm_0 rfl 1 rfl ?_
  refine z_iconst (v := 0) O dX11_harm_1 rfl ?_
  refine z_sipush (v := 500) O dX11_harm_2 rfl ?_
  refine z_callS0 (As := [.int x1, .int 0, .int 500]) O zc_X11_71 h rfl (zRm_of hR (by decide) (by decide)) (Nat.le_of_ble_eq_true rfl) dX11_harm_5 rfl rfl rfl (fun M1 v h => ?_)
  obtain ⟨r2, rfl, h⟩ := h
  refine z_if_eq O 32 dX11_harm_8 (by decide) (fun c => ?_) (fun c => ?_)
  · replace h := h.1 c
    refine z_iconst (v := 0) O dX11_harm_32 rfl ?_
    exact z_zret O dX11_harm_33 (by decide) h
  · replace h := h.2 c
    refine z_iload_n O dX11_harm_11 rfl 2 rfl ?_
    refine z_iconst (v := 0) O dX11_harm_12 rfl ?_
    refine z_bipush (v := 22) O dX11_harm_13 rfl ?_
    refine z_callS0 (As := [.int x2, .int 0, .int 22]) O zc_X11_71 h rfl (zRm_of hR (by decide) (by decide)) (Nat.le_of_ble_eq_true rfl) dX11_harm_15 rfl rfl rfl (fun M3 v h => ?_)
    obtain ⟨r4, rfl, h⟩ := h
    refine z_if_eq O 32 dX11_harm_18 (by decide) (fun c => ?_) (fun c => ?_)
    · replace h := h.1 c
      refine z_iconst (v := 0) O dX11_harm_32 rfl ?_
      exact z_zret O dX11_harm_33 (by decide) h
    · replace h := h.2 c
      refine z_iload_n O dX11_harm_21 rfl 3 rfl ?_
      refine z_iconst (v := 1) O dX11_harm_22 rfl ?_
      refine z_sipush (v := 255) O dX11_harm_23 rfl ?_
      refine z_callS0 (As := [.int x3, .int 1, .int 255]) O zc_X11_71 h rfl (zRm_of hR (by decide) (by decide)) (Nat.le_of_ble_eq_true rfl) dX11_harm_26 rfl rfl rfl (fun M5 v h => ?_)
      obtain ⟨r6, rfl, h⟩ := h
      refine z_if_ne O 34 dX11_harm_29 (by decide) (fun c => ?_) (fun c => ?_)
      · replace h := h.1 c
        refine z_aload_n O dX11_harm_34 rfl 0 rfl ?_
        obtain ⟨hk, b7, hr, h⟩ := h
        refine z_getr O zf_X11_43_10 dX11_harm_35 hk hr ?_
        refine z_aload_n O dX11_harm_38 rfl 0 rfl ?_
        obtain ⟨hk, b8, hr, h⟩ := h
        refine z_getr O zf_X11_10_10 dX11_harm_39 hk hr ?_
        obtain ⟨hk, h⟩ := h
        refine z_geti O zf_X11_280_8 dX11_harm_42 hk ?_
        refine z_iload_n O dX11_harm_45 rfl 1 rfl ?_
        refine z_iadd O dX11_harm_46 ?_
        refine z_iload_n O dX11_harm_47 rfl 2 rfl ?_
        refine z_iload_n O dX11_harm_48 rfl 3 rfl ?_
        obtain ⟨hk, h⟩ := h
        refine z_callV0 (As := [.int ((M5.2.2.1 b8 1) + x1), .int x2, .int x3]) O zc_X11_283 h hk rfl (zRm_of hR (by decide) (by decide)) (Nat.le_of_ble_eq_true rfl) dX11_harm_49 rfl rfl rfl (fun M9 v h => ?_)
        obtain ⟨r10, rfl, h⟩ := h
        exact z_zret O dX11_harm_52 h.1 h.2
      · replace h := h.2 c
        refine z_iconst (v := 0) O dX11_harm_32 rfl ?_
        exact z_zret O dX11_harm_33 (by decide) h
set_option maxRecDepth 100000 in
set_option maxHeartbeats 4000000 in
theorem b_X11_step_0 {G : zG} {X : zX} (O : zOK G X cX11_step 6 RX11 (some .int) "step") (hR : X.R = rm_X11_step) {M : zM} {n k : Nat} {a0 : Nat} {x1 : Int32} (h : zC G yX11_isWithin cX11_isWithin 3 (some .boolean) rm_X11_isWithin M [.int x1, .int 1, .int 200] (fun M1 v => ∃ r2 : Int32, v = some (.int r2) ∧ (¬ r2 = 0 → M1.1 a0 = 11 ∧ ∃ b3 : Nat, M1.2.2.2 a0 0 = some b3 ∧ M1.1 b3 = 9 ∧ ∀ y4 : Int32, y4 = (M1.2.2.1 b3 1) → zW G X 6 M1 n k 32 [(0, .ref a0), (1, .int x1), (2, .int y4), (3, .int 0)] []) ∧ (r2 = 0 → False))) : zW G X 6 M n k 0 [(0, .ref a0), (1, .int x1)] [] := by
  refine z_iload_n O dX11_step_0 rfl 1 rfl ?_
  refine z_iconst (v := 1) O dX11_step_1 rfl ?_
  refine z_sipush (v := 200) O dX11_step_2 rfl ?_
  refine z_callS0 (As := [.int x1, .int 1, .int 200]) O zc_X11_71 h rfl (zRm_of hR (by decide) (by decide)) (Nat.le_of_ble_eq_true rfl) dX11_step_5 rfl rfl rfl (fun M1 v h => ?_)
  obtain ⟨r2, rfl, h⟩ := h
  refine z_if_ne O 22 dX11_step_8 (by decide) (fun c => ?_) (fun c => ?_)
  · replace h := h.1 c
    refine z_aload_n O dX11_step_22 rfl 0 rfl ?_
    obtain ⟨hk, b3, hr, h⟩ := h
    refine z_getr O zf_X11_10_10 dX11_step_23 hk hr ?_
    obtain ⟨hk, h⟩ := h
    refine z_geti O zf_X11_280_8 dX11_step_26 hk ?_
    refine z_topi (fun y4 ey4 => ?_)
    replace h := h y4 ey4
    refine z_istore_n (lv' := [(2, .int y4), (0, .ref a0), (1, .int x1)]) O dX11_step_29 rfl (by decide) rfl ?_
    refine z_iconst (v := 0) O dX11_step_30 rfl ?_
    refine z_istore_n (lv' := [(3, .int 0), (2, .int y4), (0, .ref a0), (1, .int x1)]) O dX11_step_31 rfl (by decide) rfl ?_
    exact z_to [2, 3, 1, 0] rfl h
  · replace h := h.2 c
    exact False.elim h
set_option maxRecDepth 100000 in
set_option maxHeartbeats 4000000 in
theorem b_X11_step_32 {G : zG} {X : zX} (O : zOK G X cX11_step 6 RX11 (some .int) "step") (hR : X.R = rm_X11_step) {M : zM} {n k : Nat} {a0 : Nat} {x1 : Int32} {x2 : Int32} {x3 : Int32} (h : (x1 ≤ x3 → M.1 a0 = 11 ∧ ∃ b1 : Nat, M.2.2.2 a0 0 = some b1 ∧ M.1 b1 = 9 ∧ X.q M (some (.int ((M.2.2.1 b1 1) - x2)))) ∧ (¬ x1 ≤ x3 → M.1 a0 = 11 ∧ ∃ b2 : Nat, M.2.2.2 a0 0 = some b2 ∧ M.1 b2 = 9 ∧ M.1 b2 = 9 ∧ ∀ M3 : zM, M3 = zi M b2 0 ((M.2.2.1 b2 0) + 1) → zW G X 6 M3 n k 53 [(0, .ref a0), (1, .int x1), (2, .int x2), (3, .int x3), (4, .int 0)] [])) : zW G X 6 M n k 32 [(0, .ref a0), (1, .int x1), (2, .int x2), (3, .int x3)] [] := by
  refine z_iload_n O dX11_step_32 rfl 3 rfl ?_
  refine z_iload_n O dX11_step_33 rfl 1 rfl ?_
  refine z_icmp_ge O 140 dX11_step_34 (by decide) (fun c => ?_) (fun c => ?_)
  · replace h := h.1 c
    refine z_aload_n O dX11_step_140 rfl 0 rfl ?_
    obtain ⟨hk, b1, hr, h⟩ := h
    refine z_getr O zf_X11_10_10 dX11_step_141 hk hr ?_
    obtain ⟨hk, h⟩ := h
    refine z_geti O zf_X11_280_8 dX11_step_144 hk ?_
    refine z_iload_n O dX11_step_147 rfl 2 rfl ?_
    refine z_isub O dX11_step_148 ?_
    exact z_iret O dX11_step_149 h
  · replace h := h.2 c
    refine z_aload_n O dX11_step_37 rfl 0 rfl ?_
    obtain ⟨hk, b2, hr, h⟩ := h
    refine z_getr O zf_X11_10_10 dX11_step_38 hk hr ?_
    refine z_dup O dX11_step_41 rfl ?_
    obtain ⟨hk, h⟩ := h
    refine z_geti O zf_X11_292_8 dX11_step_42 hk ?_
    refine z_iconst (v := 1) O dX11_step_45 rfl ?_
    refine z_iadd O dX11_step_46 ?_
    obtain ⟨hk, h⟩ := h
    refine z_puti O zp_X11_292_8 dX11_step_47 hk ?_
    generalize eM3 : zi M b2 0 ((M.2.2.1 b2 0) + 1) = M3
    replace h := h M3 eM3.symm
    refine z_iconst (v := 0) O dX11_step_50 rfl ?_
    refine z_istore (lv' := [(4, .int 0), (0, .ref a0), (1, .int x1), (2, .int x2), (3, .int x3)]) O dX11_step_51 (by decide) rfl ?_
    exact z_to [1, 2, 3, 4, 0] rfl h
set_option maxRecDepth 100000 in
set_option maxHeartbeats 4000000 in
theorem b_X11_step_53 {G : zG} {X : zX} (O : zOK G X cX11_step 6 RX11 (some .int) "step") (hR : X.R = rm_X11_step) {M : zM} {n k : Nat} {a0 : Nat} {x1 : Int32} {x2 : Int32} {x3 : Int32} {x4 : Int32} (h : M.1 a0 = 11 ∧ ((M.2.2.1 a0 9) ≤ x4 → zW G X 6 M n k 106 [(0, .ref a0), (1, .int x1), (2, .int x2), (3, .int x3), (4, .int 0)] []) ∧ (¬ (M.2.2.1 a0 9) ≤ x4 → M.1 a0 = 11 ∧ ∃ b1 : Nat, M.2.2.2 a0 0 = some b1 ∧ M.1 b1 = 9 ∧ ((M.2.2.1 b1 6) ≤ 0 → zW G X 6 M n k 106 [(0, .ref a0), (1, .int x1), (2, .int x2), (3, .int x3), (4, .int 0)] []) ∧ (¬ (M.2.2.1 b1 6) ≤ 0 → M.1 a0 = 11 ∧ ∃ b2 : Nat, M.2.2.2 a0 1 = some b2 ∧ M.1 b2 = 102 ∧ vp_in x4 (M.2.1 b2) ∧ ∃ b3 : Nat, M.2.2.2 b2 x4.toNatClampNeg = some b3 ∧ M.1 b3 = 6 ∧ zC G yX5_chooseSender cX5_chooseSender 6 (some (.object "HouseWires$Row")) rm_X5_chooseSender M [.ref b3] (fun M4 v => (v = some .null ∧ ∀ y6 : Int32, y6 = x4 + 1 → zW G X 6 M4 n k 53 [(0, .ref a0), (1, .int x1), (2, .int x2), (3, .int x3), (4, .int y6)] []) ∨ ∃ b5 : Nat, v = some (.ref b5) ∧ M4.1 a0 = 11 ∧ zC G yX11_transmit cX11_transmit 11 none rm_X11_transmit M4 [.ref a0, .int x4, .ref b5] (fun M7 v => v = none ∧ ∀ y8 : Int32, y8 = x4 + 1 → zW G X 6 M7 n k 53 [(0, .ref a0), (1, .int x1), (2, .int x2), (3, .int x3), (4, .int y8)] []))))) : zW G X 6 M n k 53 [(0, .ref a0), (1, .int x1), (2, .int x2), (3, .int x3), (4, .int x4)] [] := by
  refine z_iload O dX11_step_53 4 rfl ?_
  refine z_aload_n O dX11_step_55 rfl 0 rfl ?_
  obtain ⟨hk, h⟩ := h
  refine z_geti O zf_X11_68_10 dX11_step_56 hk ?_
  refine z_icmp_ge O 103 dX11_step_59 (by decide) (fun c => ?_) (fun c => ?_)
  · replace h := h.1 c
    refine z_iconst (v := 0) O dX11_step_103 rfl ?_
    refine z_istore (lv' := [(4, .int 0), (0, .ref a0), (1, .int x1), (2, .int x2), (3, .int x3)]) O dX11_step_104 (by decide) rfl ?_
    exact z_to [1, 2, 3, 4, 0] rfl h
  · replace h := h.2 c
    refine z_aload_n O dX11_step_62 rfl 0 rfl ?_
    obtain ⟨hk, b1, hr, h⟩ := h
    refine z_getr O zf_X11_10_10 dX11_step_63 hk hr ?_
    obtain ⟨hk, h⟩ := h
    refine z_geti O zf_X11_295_8 dX11_step_66 hk ?_
    refine z_if_le O 103 dX11_step_69 (by decide) (fun c => ?_) (fun c => ?_)
    · replace h := h.1 c
      refine z_iconst (v := 0) O dX11_step_103 rfl ?_
      refine z_istore (lv' := [(4, .int 0), (0, .ref a0), (1, .int x1), (2, .int x2), (3, .int x3)]) O dX11_step_104 (by decide) rfl ?_
      exact z_to [1, 2, 3, 4, 0] rfl h
    · replace h := h.2 c
      refine z_aload_n O dX11_step_72 rfl 0 rfl ?_
      obtain ⟨hk, b2, hr, h⟩ := h
      refine z_getr O zf_X11_18_10 dX11_step_73 hk hr ?_
      refine z_iload O dX11_step_76 4 rfl ?_
      obtain ⟨hk, hi, b3, hr, h⟩ := h
      refine z_ald (t := 0) O rfl dX11_step_78 hk hi hr ?_
      obtain ⟨hk, h⟩ := h
      refine z_callV0 (As := []) O zc_X11_298 h hk rfl (zRm_of hR (by decide) (by decide)) (Nat.le_of_ble_eq_true rfl) dX11_step_79 rfl rfl rfl (fun M4 v h => ?_)
      rcases h with ⟨rfl, h⟩ | ⟨b5, rfl, h⟩
      · skip
        refine z_astoreN (lv' := [(5, .null), (0, .ref a0), (1, .int x1), (2, .int x2), (3, .int x3), (4, .int x4)]) O dX11_step_82 (by decide) rfl ?_
        refine z_aloadN O dX11_step_84 0 rfl ?_
        refine z_ifnullN O 97 dX11_step_86 (by decide) ?_
        obtain ⟨y6, ey6⟩ : ∃ y : Int32, y = x4 + 1 := ⟨_, rfl⟩
        replace h := h y6 ey6
        refine z_iinc (v := y6) (lv' := [(4, .int y6), (5, .null), (0, .ref a0), (1, .int x1), (2, .int x2), (3, .int x3)]) O dX11_step_97 (q := 5) rfl (by rw [ey6]; rfl) (by decide) rfl ?_
        refine z_goto O 53 dX11_step_100 (by decide) ?_
        exact z_to [2, 3, 4, 5, 0] rfl h
      · skip
        refine z_astore (lv' := [(5, .ref b5), (0, .ref a0), (1, .int x1), (2, .int x2), (3, .int x3), (4, .int x4)]) O dX11_step_82 (by decide) rfl ?_
        refine z_aload O dX11_step_84 0 rfl ?_
        refine z_ifnull O dX11_step_86 ?_
        refine z_aload_n O dX11_step_89 rfl 1 rfl ?_
        refine z_iload O dX11_step_90 5 rfl ?_
        refine z_aload O dX11_step_92 0 rfl ?_
        obtain ⟨hk, h⟩ := h
        refine z_callV0 (As := [.int x4, .ref b5]) O zc_X11_302 h hk rfl (zRm_of hR (by decide) (by decide)) (Nat.le_of_ble_eq_true rfl) dX11_step_94 rfl rfl rfl (fun M7 v h => ?_)
        obtain ⟨rfl, h⟩ := h
        obtain ⟨y8, ey8⟩ : ∃ y : Int32, y = x4 + 1 := ⟨_, rfl⟩
        replace h := h y8 ey8
        refine z_iinc (v := y8) (lv' := [(4, .int y8), (5, .ref b5), (0, .ref a0), (1, .int x1), (2, .int x2), (3, .int x3)]) O dX11_step_97 (q := 5) rfl (by rw [ey8]; rfl) (by decide) rfl ?_
        refine z_goto O 53 dX11_step_100 (by decide) ?_
        exact z_to [2, 3, 4, 5, 0] rfl h
set_option maxRecDepth 100000 in
set_option maxHeartbeats 4000000 in
theorem b_X11_step_106 {G : zG} {X : zX} (O : zOK G X cX11_step 6 RX11 (some .int) "step") (hR : X.R = rm_X11_step) {M : zM} {n k : Nat} {a0 : Nat} {x1 : Int32} {x2 : Int32} {x3 : Int32} {x4 : Int32} (h : M.1 a0 = 11 ∧ ((M.2.2.1 a0 10) ≤ x4 → ∀ y1 : Int32, y1 = x3 + 1 → zW G X 6 M n k 32 [(0, .ref a0), (1, .int x1), (2, .int x2), (3, .int y1)] []) ∧ (¬ (M.2.2.1 a0 10) ≤ x4 → M.1 a0 = 11 ∧ ∃ b2 : Nat, M.2.2.2 a0 2 = some b2 ∧ M.1 b2 = 103 ∧ vp_in x4 (M.2.1 b2) ∧ ∃ b3 : Nat, M.2.2.2 b2 x4.toNatClampNeg = some b3 ∧ M.1 b3 = 2 ∧ ∃ b4 : Nat, M.2.2.2 b3 3 = some b4 ∧ M.1 b4 = 1 ∧ zC G yX0_tick cX0_tick 1 none rm_X0_tick M [.ref b4] (fun M5 v => v = none ∧ ∀ y6 : Int32, y6 = x4 + 1 → zW G X 6 M5 n k 106 [(0, .ref a0), (1, .int x1), (2, .int x2), (3, .int x3), (4, .int y6)] []))) : zW G X 6 M n k 106 [(0, .ref a0), (1, .int x1), (2, .int x2), (3, .int x3), (4, .int x4)] [] := by
  refine z_iload O dX11_step_106 4 rfl ?_
  refine z_aload_n O dX11_step_108 rfl 0 rfl ?_
  obtain ⟨hk, h⟩ := h
  refine z_geti O zf_X11_86_10 dX11_step_109 hk ?_
  refine z_icmp_ge O 134 dX11_step_112 (by decide) (fun c => ?_) (fun c => ?_)
  · replace h := h.1 c
    obtain ⟨y1, ey1⟩ : ∃ y : Int32, y = x3 + 1 := ⟨_, rfl⟩
    replace h := h y1 ey1
    refine z_iinc (v := y1) (lv' := [(3, .int y1), (0, .ref a0), (1, .int x1), (2, .int x2), (4, .int x4)]) O dX11_step_134 (q := 3) rfl (by rw [ey1]; rfl) (by decide) rfl ?_
    refine z_goto O 32 dX11_step_137 (by decide) ?_
    exact z_to [1, 2, 3, 0] rfl h
  · replace h := h.2 c
    refine z_aload_n O dX11_step_115 rfl 0 rfl ?_
    obtain ⟨hk, b2, hr, h⟩ := h
    refine z_getr O zf_X11_24_10 dX11_step_116 hk hr ?_
    refine z_iload O dX11_step_119 4 rfl ?_
    obtain ⟨hk, hi, b3, hr, h⟩ := h
    refine z_ald (t := 1) O rfl dX11_step_121 hk hi hr ?_
    obtain ⟨hk, b4, hr, h⟩ := h
    refine z_getr O zf_X11_200_1 dX11_step_122 hk hr ?_
    obtain ⟨hk, h⟩ := h
    refine z_callV0 (As := []) O zc_X11_306 h hk rfl (zRm_of hR (by decide) (by decide)) (Nat.le_of_ble_eq_true rfl) dX11_step_125 rfl rfl rfl (fun M5 v h => ?_)
    obtain ⟨rfl, h⟩ := h
    obtain ⟨y6, ey6⟩ : ∃ y : Int32, y = x4 + 1 := ⟨_, rfl⟩
    replace h := h y6 ey6
    refine z_iinc (v := y6) (lv' := [(4, .int y6), (0, .ref a0), (1, .int x1), (2, .int x2), (3, .int x3)]) O dX11_step_128 (q := 4) rfl (by rw [ey6]; rfl) (by decide) rfl ?_
    refine z_goto O 106 dX11_step_131 (by decide) ?_
    exact z_to [1, 2, 3, 4, 0] rfl h
set_option maxRecDepth 100000 in
set_option maxHeartbeats 4000000 in
theorem b_X11_sent_0 {G : zG} {X : zX} (O : zOK G X cX11_sent 2 RX11 (some .int) "sent") (hR : X.R = rm_X11_sent) {M : zM} {n k : Nat} {a0 : Nat} {x1 : Int32} (h : M.1 a0 = 11 ∧ ∃ b1 : Nat, M.2.2.2 a0 0 = some b1 ∧ M.1 b1 = 9 ∧ ((M.2.2.1 b1 1) ≤ 0 → zW G X 2 M n k 23 [(0, .ref a0), (1, .int x1)] []) ∧ (¬ (M.2.2.1 b1 1) ≤ 0 → (¬ x1 = (-1) → zW G X 2 M n k 23 [(0, .ref a0), (1, .int x1)] []) ∧ (x1 = (-1) → M.1 a0 = 11 ∧ ∃ b2 : Nat, M.2.2.2 a0 7 = some b2 ∧ M.1 b2 = 10 ∧ X.q M (some (.int (M.2.2.1 b2 1)))))) : zW G X 2 M n k 0 [(0, .ref a0), (1, .int x1)] [] := by
  refine z_aload_n O dX11_sent_0 rfl 0 rfl ?_
  obtain ⟨hk, b1, hr, h⟩ := h
  refine z_getr O zf_X11_10_10 dX11_sent_1 hk hr ?_
  obtain ⟨hk, h⟩ := h
  refine z_geti O zf_X11_280_8 dX11_sent_4 hk ?_
  refine z_if_le O 23 dX11_sent_7 (by decide) (fun c => ?_) (fun c => ?_)
  · replace h := h.1 c
    exact h
  · replace h := h.2 c
    refine z_iload_n O dX11_sent_10 rfl 1 rfl ?_
    refine z_iconst (v := (-1)) O dX11_sent_11 rfl ?_
    refine z_icmp_ne O 23 dX11_sent_12 (by decide) (fun c => ?_) (fun c => ?_)
    · replace h := h.1 c
      exact h
    · replace h := h.2 c
      refine z_aload_n O dX11_sent_15 rfl 0 rfl ?_
      obtain ⟨hk, b2, hr, h⟩ := h
      refine z_getr O zf_X11_54_10 dX11_sent_16 hk hr ?_
      obtain ⟨hk, h⟩ := h
      refine z_geti O zf_X11_273_9 dX11_sent_19 hk ?_
      exact z_iret O dX11_sent_22 h
set_option maxRecDepth 100000 in
set_option maxHeartbeats 4000000 in
theorem b_X11_sent_23 {G : zG} {X : zX} (O : zOK G X cX11_sent 2 RX11 (some .int) "sent") (hR : X.R = rm_X11_sent) {M : zM} {n k : Nat} {a0 : Nat} {x1 : Int32} (h : M.1 a0 = 11 ∧ ∃ b1 : Nat, M.2.2.2 a0 7 = some b1 ∧ M.1 b1 = 10 ∧ zC G yX11_isWithin cX11_isWithin 3 (some .boolean) rm_X11_isWithin M [.int x1, .int 0, .int ((M.2.2.1 b1 1) - 1)] (fun M2 v => ∃ r3 : Int32, v = some (.int r3) ∧ (¬ r3 = 0 → M2.1 a0 = 11 ∧ ∃ b4 : Nat, M2.2.2.2 a0 7 = some b4 ∧ M2.1 b4 = 10 ∧ ∃ b5 : Nat, M2.2.2.2 b4 0 = some b5 ∧ M2.1 b5 = 100 ∧ vp_in x1 (M2.2.1 b5) ∧ X.q M2 (some (.int (M2.2.2.1 b5 x1.toNatClampNeg)))) ∧ (r3 = 0 → False))) : zW G X 2 M n k 23 [(0, .ref a0), (1, .int x1)] [] := by
  refine z_iload_n O dX11_sent_23 rfl 1 rfl ?_
  refine z_iconst (v := 0) O dX11_sent_24 rfl ?_
  refine z_aload_n O dX11_sent_25 rfl 0 rfl ?_
  obtain ⟨hk, b1, hr, h⟩ := h
  refine z_getr O zf_X11_54_10 dX11_sent_26 hk hr ?_
  obtain ⟨hk, h⟩ := h
  refine z_geti O zf_X11_273_9 dX11_sent_29 hk ?_
  refine z_iconst (v := 1) O dX11_sent_32 rfl ?_
  refine z_isub O dX11_sent_33 ?_
  refine z_callS0 (As := [.int x1, .int 0, .int ((M.2.2.1 b1 1) - 1)]) O zc_X11_71 h rfl (zRm_of hR (by decide) (by decide)) (Nat.le_of_ble_eq_true rfl) dX11_sent_34 rfl rfl rfl (fun M2 v h => ?_)
  obtain ⟨r3, rfl, h⟩ := h
  refine z_if_ne O 51 dX11_sent_37 (by decide) (fun c => ?_) (fun c => ?_)
  · replace h := h.1 c
    refine z_aload_n O dX11_sent_51 rfl 0 rfl ?_
    obtain ⟨hk, b4, hr, h⟩ := h
    refine z_getr O zf_X11_54_10 dX11_sent_52 hk hr ?_
    obtain ⟨hk, b5, hr, h⟩ := h
    refine z_getr O zf_X11_264_9 dX11_sent_55 hk hr ?_
    refine z_iload_n O dX11_sent_58 rfl 1 rfl ?_
    obtain ⟨hk, hi, h⟩ := h
    refine z_iald O dX11_sent_59 hk hi ?_
    exact z_iret O dX11_sent_60 h
  · replace h := h.2 c
    exact False.elim h
set_option maxRecDepth 100000 in
set_option maxHeartbeats 4000000 in
theorem b_X11_count_0 {G : zG} {X : zX} (O : zOK G X cX11_count 2 RX11 (some .int) "count") (hR : X.R = rm_X11_count) {M : zM} {n k : Nat} {a0 : Nat} {x1 : Int32} (h : (x1.toInt < 0 ∨ 13 < x1.toInt → X.q M (some (.int (-1)))) ∧ (x1.toInt = 0 → M.1 a0 = 11 ∧ ∃ b1 : Nat, M.2.2.2 a0 0 = some b1 ∧ M.1 b1 = 9 ∧ X.q M (some (.int (M.2.2.1 b1 0)))) ∧ (x1.toInt = 1 → M.1 a0 = 11 ∧ X.q M (some (.int (M.2.2.1 a0 9)))) ∧ (x1.toInt = 2 → M.1 a0 = 11 ∧ X.q M (some (.int (M.2.2.1 a0 10)))) ∧ (x1.toInt = 3 → M.1 a0 = 11 ∧ X.q M (some (.int (M.2.2.1 a0 11)))) ∧ (x1.toInt = 4 → M.1 a0 = 11 ∧ ∃ b2 : Nat, M.2.2.2 a0 0 = some b2 ∧ M.1 b2 = 9 ∧ X.q M (some (.int (M.2.2.1 b2 1)))) ∧ (x1.toInt = 5 → M.1 a0 = 11 ∧ ∃ b3 : Nat, M.2.2.2 a0 0 = some b3 ∧ M.1 b3 = 9 ∧ X.q M (some (.int (M.2.2.1 b3 2)))) ∧ (x1.toInt = 6 → M.1 a0 = 11 ∧ ∃ b4 : Nat, M.2.2.2 a0 0 = some b4 ∧ M.1 b4 = 9 ∧ X.q M (some (.int (M.2.2.1 b4 3)))) ∧ (x1.toInt = 7 → M.1 a0 = 11 ∧ ∃ b5 : Nat, M.2.2.2 a0 0 = some b5 ∧ M.1 b5 = 9 ∧ X.q M (some (.int (M.2.2.1 b5 4)))) ∧ (x1.toInt = 8 → M.1 a0 = 11 ∧ ∃ b6 : Nat, M.2.2.2 a0 0 = some b6 ∧ M.1 b6 = 9 ∧ X.q M (some (.int (M.2.2.1 b6 5)))) ∧ (x1.toInt = 9 → M.1 a0 = 11 ∧ X.q M (some (.int (M.2.2.1 a0 14)))) ∧ (x1.toInt = 10 → M.1 a0 = 11 ∧ X.q M (some (.int (M.2.2.1 a0 13)))) ∧ (x1.toInt = 11 → M.1 a0 = 11 ∧ ∃ b7 : Nat, M.2.2.2 a0 0 = some b7 ∧ M.1 b7 = 9 ∧ X.q M (some (.int (M.2.2.1 b7 6)))) ∧ (x1.toInt = 12 → M.1 a0 = 11 ∧ ∃ b8 : Nat, M.2.2.2 a0 5 = some b8 ∧ M.1 b8 = 5 ∧ X.q M (some (.int (M.2.2.1 b8 3)))) ∧ (x1.toInt = 13 → M.1 a0 = 11 ∧ X.q M (some (.int (M.2.2.1 a0 12))))) : zW G X 2 M n k 0 [(0, .ref a0), (1, .int x1)] [] := by
  refine z_iload_n O dX11_count_0 rfl 1 rfl ?_
  rcases zsw x1 0 13 (by decide) with c | ⟨j, hj, c⟩
  · refine z_tsOut O 166 dX11_count_1 c (by decide) ?_
    replace h := h.1 c
    refine z_iconst (v := (-1)) O dX11_count_166 rfl ?_
    exact z_iret O dX11_count_167 h
  · replace h := h.2
    rcases zcas j 0 with hz | hz
    · subst hz
      replace h := h.1 (by rw [c]; rfl)
      refine z_tsIn (off := 71) O 72 dX11_count_1 (by rw [c]; decide) (by rw [c]; decide) (by rw [c]; rfl) (by decide) ?_
      refine z_aload_n O dX11_count_72 rfl 0 rfl ?_
      obtain ⟨hk, b1, hr, h⟩ := h
      refine z_getr O zf_X11_10_10 dX11_count_73 hk hr ?_
      obtain ⟨hk, h⟩ := h
      refine z_geti O zf_X11_292_8 dX11_count_76 hk ?_
      exact z_iret O dX11_count_79 h
    · replace h := h.2
      rcases zcas j 1 with hz | hz
      · subst hz
        replace h := h.1 (by rw [c]; rfl)
        refine z_tsIn (off := 79) O 80 dX11_count_1 (by rw [c]; decide) (by rw [c]; decide) (by rw [c]; rfl) (by decide) ?_
        refine z_aload_n O dX11_count_80 rfl 0 rfl ?_
        obtain ⟨hk, h⟩ := h
        refine z_geti O zf_X11_68_10 dX11_count_81 hk ?_
        exact z_iret O dX11_count_84 h
      · replace h := h.2
        rcases zcas j 2 with hz | hz
        · subst hz
          replace h := h.1 (by rw [c]; rfl)
          refine z_tsIn (off := 84) O 85 dX11_count_1 (by rw [c]; decide) (by rw [c]; decide) (by rw [c]; rfl) (by decide) ?_
          refine z_aload_n O dX11_count_85 rfl 0 rfl ?_
          obtain ⟨hk, h⟩ := h
          refine z_geti O zf_X11_86_10 dX11_count_86 hk ?_
          exact z_iret O dX11_count_89 h
        · replace h := h.2
          rcases zcas j 3 with hz | hz
          · subst hz
            replace h := h.1 (by rw [c]; rfl)
            refine z_tsIn (off := 89) O 90 dX11_count_1 (by rw [c]; decide) (by rw [c]; decide) (by rw [c]; rfl) (by decide) ?_
            refine z_aload_n O dX11_count_90 rfl 0 rfl ?_
            obtain ⟨hk, h⟩ := h
            refine z_geti O zf_X11_113_10 dX11_count_91 hk ?_
            exact z_iret O dX11_count_94 h
          · replace h := h.2
            rcases zcas j 4 with hz | hz
            · subst hz
              replace h := h.1 (by rw [c]; rfl)
              refine z_tsIn (off := 94) O 95 dX11_count_1 (by rw [c]; decide) (by rw [c]; decide) (by rw [c]; rfl) (by decide) ?_
              refine z_aload_n O dX11_count_95 rfl 0 rfl ?_
              obtain ⟨hk, b2, hr, h⟩ := h
              refine z_getr O zf_X11_10_10 dX11_count_96 hk hr ?_
              obtain ⟨hk, h⟩ := h
              refine z_geti O zf_X11_280_8 dX11_count_99 hk ?_
              exact z_iret O dX11_count_102 h
            · replace h := h.2
              rcases zcas j 5 with hz | hz
              · subst hz
                replace h := h.1 (by rw [c]; rfl)
                refine z_tsIn (off := 102) O 103 dX11_count_1 (by rw [c]; decide) (by rw [c]; decide) (by rw [c]; rfl) (by decide) ?_
                refine z_aload_n O dX11_count_103 rfl 0 rfl ?_
                obtain ⟨hk, b3, hr, h⟩ := h
                refine z_getr O zf_X11_10_10 dX11_count_104 hk hr ?_
                obtain ⟨hk, h⟩ := h
                refine z_geti O zf_X11_314_8 dX11_count_107 hk ?_
                exact z_iret O dX11_count_110 h
              · replace h := h.2
                rcases zcas j 6 with hz | hz
                · subst hz
                  replace h := h.1 (by rw [c]; rfl)
                  refine z_tsIn (off := 110) O 111 dX11_count_1 (by rw [c]; decide) (by rw [c]; decide) (by rw [c]; rfl) (by decide) ?_
                  refine z_aload_n O dX11_count_111 rfl 0 rfl ?_
                  obtain ⟨hk, b4, hr, h⟩ := h
                  refine z_getr O zf_X11_10_10 dX11_count_112 hk hr ?_
                  obtain ⟨hk, h⟩ := h
                  refine z_geti O zf_X11_317_8 dX11_count_115 hk ?_
                  exact z_iret O dX11_count_118 h
                · replace h := h.2
                  rcases zcas j 7 with hz | hz
                  · subst hz
                    replace h := h.1 (by rw [c]; rfl)
                    refine z_tsIn (off := 118) O 119 dX11_count_1 (by rw [c]; decide) (by rw [c]; decide) (by rw [c]; rfl) (by decide) ?_
                    refine z_aload_n O dX11_count_119 rfl 0 rfl ?_
                    obtain ⟨hk, b5, hr, h⟩ := h
                    refine z_getr O zf_X11_10_10 dX11_count_120 hk hr ?_
                    obtain ⟨hk, h⟩ := h
                    refine z_geti O zf_X11_320_8 dX11_count_123 hk ?_
                    exact z_iret O dX11_count_126 h
                  · replace h := h.2
                    rcases zcas j 8 with hz | hz
                    · subst hz
                      replace h := h.1 (by rw [c]; rfl)
                      refine z_tsIn (off := 126) O 127 dX11_count_1 (by rw [c]; decide) (by rw [c]; decide) (by rw [c]; rfl) (by decide) ?_
                      refine z_aload_n O dX11_count_127 rfl 0 rfl ?_
                      obtain ⟨hk, b6, hr, h⟩ := h
                      refine z_getr O zf_X11_10_10 dX11_count_128 hk hr ?_
                      obtain ⟨hk, h⟩ := h
                      refine z_geti O zf_X11_323_8 dX11_count_131 hk ?_
                      exact z_iret O dX11_count_134 h
                    · replace h := h.2
                      rcases zcas j 9 with hz | hz
                      · subst hz
                        replace h := h.1 (by rw [c]; rfl)
                        refine z_tsIn (off := 134) O 135 dX11_count_1 (by rw [c]; decide) (by rw [c]; decide) (by rw [c]; rfl) (by decide) ?_
                        refine z_aload_n O dX11_count_135 rfl 0 rfl ?_
                        obtain ⟨hk, h⟩ := h
                        refine z_geti O zf_X11_65_10 dX11_count_136 hk ?_
                        exact z_iret O dX11_count_139 h
                      · replace h := h.2
                        rcases zcas j 10 with hz | hz
                        · subst hz
                          replace h := h.1 (by rw [c]; rfl)
                          refine z_tsIn (off := 139) O 140 dX11_count_1 (by rw [c]; decide) (by rw [c]; decide) (by rw [c]; rfl) (by decide) ?_
                          refine z_aload_n O dX11_count_140 rfl 0 rfl ?_
                          obtain ⟨hk, h⟩ := h
                          refine z_geti O zf_X11_61_10 dX11_count_141 hk ?_
                          exact z_iret O dX11_count_144 h
                        · replace h := h.2
                          rcases zcas j 11 with hz | hz
                          · subst hz
                            replace h := h.1 (by rw [c]; rfl)
                            refine z_tsIn (off := 144) O 145 dX11_count_1 (by rw [c]; decide) (by rw [c]; decide) (by rw [c]; rfl) (by decide) ?_
                            refine z_aload_n O dX11_count_145 rfl 0 rfl ?_
                            obtain ⟨hk, b7, hr, h⟩ := h
                            refine z_getr O zf_X11_10_10 dX11_count_146 hk hr ?_
                            obtain ⟨hk, h⟩ := h
                            refine z_geti O zf_X11_295_8 dX11_count_149 hk ?_
                            exact z_iret O dX11_count_152 h
                          · replace h := h.2
                            rcases zcas j 12 with hz | hz
                            · subst hz
                              replace h := h.1 (by rw [c]; rfl)
                              refine z_tsIn (off := 152) O 153 dX11_count_1 (by rw [c]; decide) (by rw [c]; decide) (by rw [c]; rfl) (by decide) ?_
                              refine z_aload_n O dX11_count_153 rfl 0 rfl ?_
                              obtain ⟨hk, b8, hr, h⟩ := h
                              refine z_getr O zf_X11_43_10 dX11_count_154 hk hr ?_
                              obtain ⟨hk, h⟩ := h
                              refine z_geti O zf_X11_326_4 dX11_count_157 hk ?_
                              exact z_iret O dX11_count_160 h
                            · replace h := h.2
                              have hz : j = 13 := by omega
                              subst hz
                              replace h := h (by rw [c]; rfl)
                              refine z_tsIn (off := 160) O 161 dX11_count_1 (by rw [c]; decide) (by rw [c]; decide) (by rw [c]; rfl) (by decide) ?_
                              refine z_aload_n O dX11_count_161 rfl 0 rfl ?_
                              obtain ⟨hk, h⟩ := h
                              refine z_geti O zf_X11_250_10 dX11_count_162 hk ?_
                              exact z_iret O dX11_count_165 h
