set_option maxRecDepth 100000 in
set_option maxHeartbeats 4000000 in
theorem b_X14_init_0 {G : zG} {X : zX} (O : zOK G X cX14_init 1 RX14 none "<init>") (hR : X.R = rm_X14_init) {M : zM} {n k : Nat} {a0 : Nat} (h : n + 9 ≤ X.R.cells ∧ k + 192 ≤ X.R.slots ∧ ∀ q1 : Nat, (∀ j, j ≤ 8 → M.1 (q1 + j) = 0) → ∀ M2 : zM, M2 = znn M q1 8 23 → M2.1 a0 = 14 ∧ ∀ M3 : zM, M3 = zr M2 a0 0 (some q1) → (n + 9) + 1 ≤ X.R.cells ∧ (k + 192) + 8 ≤ X.R.slots ∧ ∀ q4 : Nat, M3.1 q4 = 0 → ∀ M5 : zM, M5 = zn M3 q4 100 8 → M5.1 a0 = 14 ∧ ∀ M6 : zM, M6 = zr M5 a0 1 (some q4) → ((n + 9) + 1) + 1 ≤ X.R.cells ∧ ((k + 192) + 8) + 8 ≤ X.R.slots ∧ ∀ q7 : Nat, M6.1 q7 = 0 → ∀ M8 : zM, M8 = zn M6 q7 100 8 → M8.1 a0 = 14 ∧ ∀ M9 : zM, M9 = zr M8 a0 2 (some q7) → (((n + 9) + 1) + 1) + 1 ≤ X.R.cells ∧ (((k + 192) + 8) + 8) + 8 ≤ X.R.slots ∧ ∀ q10 : Nat, M9.1 q10 = 0 → ∀ M11 : zM, M11 = zn M9 q10 100 8 → M11.1 a0 = 14 ∧ ∀ M12 : zM, M12 = zr M11 a0 3 (some q10) → ((((n + 9) + 1) + 1) + 1) + 1 ≤ X.R.cells ∧ ((((k + 192) + 8) + 8) + 8) + 8 ≤ X.R.slots ∧ ∀ q13 : Nat, M12.1 q13 = 0 → ∀ M14 : zM, M14 = zn M12 q13 100 8 → M14.1 a0 = 14 ∧ ∀ M15 : zM, M15 = zr M14 a0 4 (some q13) → X.q M15 none) : zW G X 1 M n k 0 [(0, .ref a0)] [] := by
  refine z_aload_n O dX14_init_0 rfl 0 rfl ?_
  refine z_obj O zob_X14_3 zob_1 zob_2 dX14_init_1 (by rw [hR]; decide) (by rw [hR]; decide) ?_
  refine z_aload_n O dX14_init_4 rfl 0 rfl ?_
  refine z_bipush (v := 8) O dX14_init_5 rfl ?_
  refine z_bipush (v := 23) O dX14_init_7 rfl ?_
  obtain ⟨hn, hs, h⟩ := h
  refine z_multi (N := 8) (K := 23) O zcl_X14_9 dX14_init_9 (by decide) (by decide) (by decide) (by decide) (by decide) (by decide) hn hs rfl rfl (fun q1 fq1 => ?_)
  generalize eM2 : znn M q1 8 23 = M2
  replace h := h q1 fq1 M2 eM2.symm
  obtain ⟨hk, h⟩ := h
  refine z_putrF O zp_X14_11_13 dX14_init_13 hk ?_
  generalize eM3 : zr M2 a0 0 (some q1) = M3
  replace h := h M3 eM3.symm
  refine z_aload_n O dX14_init_16 rfl 0 rfl ?_
  refine z_bipush (v := 8) O dX14_init_17 rfl ?_
  obtain ⟨hn, hs, h⟩ := h
  refine z_newi (N := 8) O zac_int dX14_init_19 (by decide) (by decide) (by decide) hn hs (fun q4 fq4 => ?_)
  generalize eM5 : zn M3 q4 100 8 = M5
  replace h := h q4 fq4 M5 eM5.symm
  obtain ⟨hk, h⟩ := h
  refine z_putrF O zp_X14_16_13 dX14_init_21 hk ?_
  generalize eM6 : zr M5 a0 1 (some q4) = M6
  replace h := h M6 eM6.symm
  refine z_aload_n O dX14_init_24 rfl 0 rfl ?_
  refine z_bipush (v := 8) O dX14_init_25 rfl ?_
  obtain ⟨hn, hs, h⟩ := h
  refine z_newi (N := 8) O zac_int dX14_init_27 (by decide) (by decide) (by decide) hn hs (fun q7 fq7 => ?_)
  generalize eM8 : zn M6 q7 100 8 = M8
  replace h := h q7 fq7 M8 eM8.symm
  obtain ⟨hk, h⟩ := h
  refine z_putrF O zp_X14_20_13 dX14_init_29 hk ?_
  generalize eM9 : zr M8 a0 2 (some q7) = M9
  replace h := h M9 eM9.symm
  refine z_aload_n O dX14_init_32 rfl 0 rfl ?_
  refine z_bipush (v := 8) O dX14_init_33 rfl ?_
  obtain ⟨hn, hs, h⟩ := h
  refine z_newi (N := 8) O zac_int dX14_init_35 (by decide) (by decide) (by decide) hn hs (fun q10 fq10 => ?_)
  generalize eM11 : zn M9 q10 100 8 = M11
  replace h := h q10 fq10 M11 eM11.symm
  obtain ⟨hk, h⟩ := h
  refine z_putrF O zp_X14_23_13 dX14_init_37 hk ?_
  generalize eM12 : zr M11 a0 3 (some q10) = M12
  replace h := h M12 eM12.symm
  refine z_aload_n O dX14_init_40 rfl 0 rfl ?_
  refine z_bipush (v := 8) O dX14_init_41 rfl ?_
  obtain ⟨hn, hs, h⟩ := h
  refine z_newi (N := 8) O zac_int dX14_init_43 (by decide) (by decide) (by decide) hn hs (fun q13 fq13 => ?_)
  generalize eM14 : zn M12 q13 100 8 = M14
  replace h := h q13 fq13 M14 eM14.symm
  obtain ⟨hk, h⟩ := h
  refine z_putrF O zp_X14_26_13 dX14_init_45 hk ?_
  generalize eM15 : zr M14 a0 4 (some q13) = M15
  replace h := h M15 eM15.symm
  exact z_vret O dX14_init_48 h
set_option maxRecDepth 100000 in
set_option maxHeartbeats 4000000 in
theorem b_X13_init_0 {G : zG} {X : zX} (O : zOK G X cX13_init 1 RX13 none "<init>") (hR : X.R = rm_X13_init) {M : zM} {n k : Nat} {a0 : Nat} (h : n + 1 ≤ X.R.cells ∧ k + 6 ≤ X.R.slots ∧ ∀ q1 : Nat, M.1 q1 = 0 → ∀ M2 : zM, M2 = zn M q1 14 0 → (n + 1) + 13 ≤ X.R.cells ∧ (k + 6) + 224 ≤ X.R.slots ∧ zC G yX14_init cX14_init 1 none rm_X14_init M2 [.ref q1] (fun M3 v => v = none ∧ M3.1 a0 = 13 ∧ ∀ M4 : zM, M4 = zr M3 a0 2 (some q1) → ((n + 1) + 13) + 1 ≤ X.R.cells ∧ ((k + 6) + 224) + 23 ≤ X.R.slots ∧ ∀ q5 : Nat, M4.1 q5 = 0 → ∀ M6 : zM, M6 = zn M4 q5 100 23 → M6.1 a0 = 13 ∧ ∀ M7 : zM, M7 = zr M6 a0 4 (some q5) → (((n + 1) + 13) + 1) + 1 ≤ X.R.cells ∧ (((k + 6) + 224) + 23) + 12 ≤ X.R.slots ∧ ∀ q8 : Nat, M7.1 q8 = 0 → ∀ M9 : zM, M9 = zn M7 q8 100 12 → M9.1 a0 = 13 ∧ ∀ M10 : zM, M10 = zr M9 a0 7 (some q8) → ((((n + 1) + 13) + 1) + 1) + 1 ≤ X.R.cells ∧ ((((k + 6) + 224) + 23) + 12) + 12 ≤ X.R.slots ∧ ∀ q11 : Nat, M10.1 q11 = 0 → ∀ M12 : zM, M12 = zn M10 q11 100 12 → M12.1 a0 = 13 ∧ ∀ M13 : zM, M13 = zr M12 a0 8 (some q11) → (((((n + 1) + 13) + 1) + 1) + 1) + 1 ≤ X.R.cells ∧ (((((k + 6) + 224) + 23) + 12) + 12) + 12 ≤ X.R.slots ∧ ∀ q14 : Nat, M13.1 q14 = 0 → ∀ M15 : zM, M15 = zn M13 q14 100 12 → M15.1 a0 = 13 ∧ ∀ M16 : zM, M16 = zr M15 a0 9 (some q14) → ((((((n + 1) + 13) + 1) + 1) + 1) + 1) + 1 ≤ X.R.cells ∧ ((((((k + 6) + 224) + 23) + 12) + 12) + 12) + 12 ≤ X.R.slots ∧ ∀ q17 : Nat, M16.1 q17 = 0 → ∀ M18 : zM, M18 = zn M16 q17 100 12 → M18.1 a0 = 13 ∧ ∀ M19 : zM, M19 = zr M18 a0 10 (some q17) → (((((((n + 1) + 13) + 1) + 1) + 1) + 1) + 1) + 1 ≤ X.R.cells ∧ (((((((k + 6) + 224) + 23) + 12) + 12) + 12) + 12) + 12 ≤ X.R.slots ∧ ∀ q20 : Nat, M19.1 q20 = 0 → ∀ M21 : zM, M21 = zn M19 q20 100 12 → M21.1 a0 = 13 ∧ ∀ M22 : zM, M22 = zr M21 a0 11 (some q20) → ((((((((n + 1) + 13) + 1) + 1) + 1) + 1) + 1) + 1) + 1 ≤ X.R.cells ∧ ((((((((k + 6) + 224) + 23) + 12) + 12) + 12) + 12) + 12) + 24 ≤ X.R.slots ∧ ∀ q23 : Nat, M22.1 q23 = 0 → ∀ M24 : zM, M24 = zn M22 q23 100 24 → M24.1 a0 = 13 ∧ ∀ M25 : zM, M25 = zr M24 a0 13 (some q23) → (((((((((n + 1) + 13) + 1) + 1) + 1) + 1) + 1) + 1) + 1) + 1 ≤ X.R.cells ∧ (((((((((k + 6) + 224) + 23) + 12) + 12) + 12) + 12) + 12) + 24) + 24 ≤ X.R.slots ∧ ∀ q26 : Nat, M25.1 q26 = 0 → ∀ M27 : zM, M27 = zn M25 q26 100 24 → M27.1 a0 = 13 ∧ ∀ M28 : zM, M28 = zr M27 a0 14 (some q26) → ((((((((((n + 1) + 13) + 1) + 1) + 1) + 1) + 1) + 1) + 1) + 1) + 1 ≤ X.R.cells ∧ ((((((((((k + 6) + 224) + 23) + 12) + 12) + 12) + 12) + 12) + 24) + 24) + 64 ≤ X.R.slots ∧ ∀ q29 : Nat, M28.1 q29 = 0 → ∀ M30 : zM, M30 = zn M28 q29 100 64 → M30.1 a0 = 13 ∧ ∀ M31 : zM, M31 = zr M30 a0 15 (some q29) → (((((((((((n + 1) + 13) + 1) + 1) + 1) + 1) + 1) + 1) + 1) + 1) + 1) + 1 ≤ X.R.cells ∧ (((((((((((k + 6) + 224) + 23) + 12) + 12) + 12) + 12) + 12) + 24) + 24) + 64) + 12 ≤ X.R.slots ∧ ∀ q32 : Nat, M31.1 q32 = 0 → ∀ M33 : zM, M33 = zn M31 q32 100 12 → M33.1 a0 = 13 ∧ ∀ M34 : zM, M34 = zr M33 a0 16 (some q32) → M34.1 a0 = 13 ∧ ∀ M35 : zM, M35 = zi M34 a0 25 (-1) → ((((((((((((n + 1) + 13) + 1) + 1) + 1) + 1) + 1) + 1) + 1) + 1) + 1) + 1) + 1 ≤ X.R.cells ∧ ((((((((((((k + 6) + 224) + 23) + 12) + 12) + 12) + 12) + 12) + 24) + 24) + 64) + 12) + 16 ≤ X.R.slots ∧ ∀ q36 : Nat, M35.1 q36 = 0 → ∀ M37 : zM, M37 = zn M35 q36 100 16 → M37.1 a0 = 13 ∧ ∀ M38 : zM, M38 = zr M37 a0 26 (some q36) → X.q M38 none)) : zW G X 1 M n k 0 [(0, .ref a0)] [] := by
  refine z_aload_n O dX13_init_0 rfl 0 rfl ?_
  refine z_obj O zob_X13_3 zob_1 zob_2 dX13_init_1 (by rw [hR]; decide) (by rw [hR]; decide) ?_
  refine z_aload_n O dX13_init_4 rfl 0 rfl ?_
  obtain ⟨hn, hs, h⟩ := h
  refine z_new O zn_X13_9 dX13_init_5 hn hs (fun q1 fq1 => ?_)
  generalize eM2 : zn M q1 14 0 = M2
  replace h := h q1 fq1 M2 eM2.symm
  refine z_dup O dX13_init_8 rfl ?_
  obtain ⟨hn, hs, h⟩ := h
  refine z_callINk (As := []) O zc_X13_11 h rfl (zRm_of hR (by decide) (by decide)) (Nat.le_of_ble_eq_true rfl) dX13_init_9 (mc := 13) (ms := 224) rfl rfl hn hs rfl (fun M3 v h => ?_)
  obtain ⟨rfl, h⟩ := h
  obtain ⟨hk, h⟩ := h
  refine z_putrF O zp_X13_12_12 dX13_init_12 hk ?_
  generalize eM4 : zr M3 a0 2 (some q1) = M4
  replace h := h M4 eM4.symm
  refine z_aload_n O dX13_init_15 rfl 0 rfl ?_
  refine z_bipush (v := 23) O dX13_init_16 rfl ?_
  obtain ⟨hn, hs, h⟩ := h
  refine z_newi (N := 23) O zac_int dX13_init_18 (by decide) (by decide) (by decide) hn hs (fun q5 fq5 => ?_)
  generalize eM6 : zn M4 q5 100 23 = M6
  replace h := h q5 fq5 M6 eM6.symm
  obtain ⟨hk, h⟩ := h
  refine z_putrF O zp_X13_18_12 dX13_init_20 hk ?_
  generalize eM7 : zr M6 a0 4 (some q5) = M7
  replace h := h M7 eM7.symm
  refine z_aload_n O dX13_init_23 rfl 0 rfl ?_
  refine z_bipush (v := 12) O dX13_init_24 rfl ?_
  obtain ⟨hn, hs, h⟩ := h
  refine z_newi (N := 12) O zac_int dX13_init_26 (by decide) (by decide) (by decide) hn hs (fun q8 fq8 => ?_)
  generalize eM9 : zn M7 q8 100 12 = M9
  replace h := h q8 fq8 M9 eM9.symm
  obtain ⟨hk, h⟩ := h
  refine z_putrF O zp_X13_22_12 dX13_init_28 hk ?_
  generalize eM10 : zr M9 a0 7 (some q8) = M10
  replace h := h M10 eM10.symm
  refine z_aload_n O dX13_init_31 rfl 0 rfl ?_
  refine z_bipush (v := 12) O dX13_init_32 rfl ?_
  obtain ⟨hn, hs, h⟩ := h
  refine z_newi (N := 12) O zac_int dX13_init_34 (by decide) (by decide) (by decide) hn hs (fun q11 fq11 => ?_)
  generalize eM12 : zn M10 q11 100 12 = M12
  replace h := h q11 fq11 M12 eM12.symm
  obtain ⟨hk, h⟩ := h
  refine z_putrF O zp_X13_25_12 dX13_init_36 hk ?_
  generalize eM13 : zr M12 a0 8 (some q11) = M13
  replace h := h M13 eM13.symm
  refine z_aload_n O dX13_init_39 rfl 0 rfl ?_
  refine z_bipush (v := 12) O dX13_init_40 rfl ?_
  obtain ⟨hn, hs, h⟩ := h
  refine z_newi (N := 12) O zac_int dX13_init_42 (by decide) (by decide) (by decide) hn hs (fun q14 fq14 => ?_)
  generalize eM15 : zn M13 q14 100 12 = M15
  replace h := h q14 fq14 M15 eM15.symm
  obtain ⟨hk, h⟩ := h
  refine z_putrF O zp_X13_28_12 dX13_init_44 hk ?_
  generalize eM16 : zr M15 a0 9 (some q14) = M16
  replace h := h M16 eM16.symm
  refine z_aload_n O dX13_init_47 rfl 0 rfl ?_
  refine z_bipush (v := 12) O dX13_init_48 rfl ?_
  obtain ⟨hn, hs, h⟩ := h
  refine z_newi (N := 12) O zac_int dX13_init_50 (by decide) (by decide) (by decide) hn hs (fun q17 fq17 => ?_)
  generalize eM18 : zn M16 q17 100 12 = M18
  replace h := h q17 fq17 M18 eM18.symm
  obtain ⟨hk, h⟩ := h
  refine z_putrF O zp_X13_31_12 dX13_init_52 hk ?_
  generalize eM19 : zr M18 a0 10 (some q17) = M19
  replace h := h M19 eM19.symm
  refine z_aload_n O dX13_init_55 rfl 0 rfl ?_
  refine z_bipush (v := 12) O dX13_init_56 rfl ?_
  obtain ⟨hn, hs, h⟩ := h
  refine z_newi (N := 12) O zac_int dX13_init_58 (by decide) (by decide) (by decide) hn hs (fun q20 fq20 => ?_)
  generalize eM21 : zn M19 q20 100 12 = M21
  replace h := h q20 fq20 M21 eM21.symm
  obtain ⟨hk, h⟩ := h
  refine z_putrF O zp_X13_34_12 dX13_init_60 hk ?_
  generalize eM22 : zr M21 a0 11 (some q20) = M22
  replace h := h M22 eM22.symm
  refine z_aload_n O dX13_init_63 rfl 0 rfl ?_
  refine z_bipush (v := 24) O dX13_init_64 rfl ?_
  obtain ⟨hn, hs, h⟩ := h
  refine z_newi (N := 24) O zac_int dX13_init_66 (by decide) (by decide) (by decide) hn hs (fun q23 fq23 => ?_)
  generalize eM24 : zn M22 q23 100 24 = M24
  replace h := h q23 fq23 M24 eM24.symm
  obtain ⟨hk, h⟩ := h
  refine z_putrF O zp_X13_37_12 dX13_init_68 hk ?_
  generalize eM25 : zr M24 a0 13 (some q23) = M25
  replace h := h M25 eM25.symm
  refine z_aload_n O dX13_init_71 rfl 0 rfl ?_
  refine z_bipush (v := 24) O dX13_init_72 rfl ?_
  obtain ⟨hn, hs, h⟩ := h
  refine z_newi (N := 24) O zac_int dX13_init_74 (by decide) (by decide) (by decide) hn hs (fun q26 fq26 => ?_)
  generalize eM27 : zn M25 q26 100 24 = M27
  replace h := h q26 fq26 M27 eM27.symm
  obtain ⟨hk, h⟩ := h
  refine z_putrF O zp_X13_40_12 dX13_init_76 hk ?_
  generalize eM28 : zr M27 a0 14 (some q26) = M28
  replace h := h M28 eM28.symm
  refine z_aload_n O dX13_init_79 rfl 0 rfl ?_
  refine z_bipush (v := 64) O dX13_init_80 rfl ?_
  obtain ⟨hn, hs, h⟩ := h
  refine z_newi (N := 64) O zac_int dX13_init_82 (by decide) (by decide) (by decide) hn hs (fun q29 fq29 => ?_)
  generalize eM30 : zn M28 q29 100 64 = M30
  replace h := h q29 fq29 M30 eM30.symm
  obtain ⟨hk, h⟩ := h
  refine z_putrF O zp_X13_43_12 dX13_init_84 hk ?_
  generalize eM31 : zr M30 a0 15 (some q29) = M31
  replace h := h M31 eM31.symm
  refine z_aload_n O dX13_init_87 rfl 0 rfl ?_
  refine z_bipush (v := 12) O dX13_init_88 rfl ?_
  obtain ⟨hn, hs, h⟩ := h
  refine z_newi (N := 12) O zac_int dX13_init_90 (by decide) (by decide) (by decide) hn hs (fun q32 fq32 => ?_)
  generalize eM33 : zn M31 q32 100 12 = M33
  replace h := h q32 fq32 M33 eM33.symm
  obtain ⟨hk, h⟩ := h
  refine z_putrF O zp_X13_46_12 dX13_init_92 hk ?_
  generalize eM34 : zr M33 a0 16 (some q32) = M34
  replace h := h M34 eM34.symm
  refine z_aload_n O dX13_init_95 rfl 0 rfl ?_
  refine z_iconst (v := (-1)) O dX13_init_96 rfl ?_
  obtain ⟨hk, h⟩ := h
  refine z_puti O zp_X13_49_12 dX13_init_97 hk ?_
  generalize eM35 : zi M34 a0 25 (-1) = M35
  replace h := h M35 eM35.symm
  refine z_aload_n O dX13_init_100 rfl 0 rfl ?_
  refine z_bipush (v := 16) O dX13_init_101 rfl ?_
  obtain ⟨hn, hs, h⟩ := h
  refine z_newi (N := 16) O zac_int dX13_init_103 (by decide) (by decide) (by decide) hn hs (fun q36 fq36 => ?_)
  generalize eM37 : zn M35 q36 100 16 = M37
  replace h := h q36 fq36 M37 eM37.symm
  obtain ⟨hk, h⟩ := h
  refine z_putrF O zp_X13_53_12 dX13_init_105 hk ?_
  generalize eM38 : zr M37 a0 26 (some q36) = M38
  replace h := h M38 eM38.symm
  exact z_vret O dX13_init_108 h
set_option maxRecDepth 100000 in
set_option maxHeartbeats 4000000 in
theorem b_X12_init_0 {G : zG} {X : zX} (O : zOK G X cX12_init 1 RX12 none "<init>") (hR : X.R = rm_X12_init) {M : zM} {n k : Nat} {a0 : Nat} (h : n + 1 ≤ X.R.cells ∧ k + 2 ≤ X.R.slots ∧ ∀ q1 : Nat, M.1 q1 = 0 → ∀ M2 : zM, M2 = zn M q1 100 2 → M2.1 a0 = 12 ∧ ∀ M3 : zM, M3 = zr M2 a0 0 (some q1) → (n + 1) + 1 ≤ X.R.cells ∧ (k + 2) + 64 ≤ X.R.slots ∧ ∀ q4 : Nat, M3.1 q4 = 0 → ∀ M5 : zM, M5 = zn M3 q4 100 64 → M5.1 a0 = 12 ∧ ∀ M6 : zM, M6 = zr M5 a0 2 (some q4) → ((n + 1) + 1) + 1 ≤ X.R.cells ∧ ((k + 2) + 64) + 2 ≤ X.R.slots ∧ ∀ q7 : Nat, M6.1 q7 = 0 → ∀ M8 : zM, M8 = zn M6 q7 109 2 → (((n + 1) + 1) + 1) + 1 ≤ X.R.cells ∧ (((k + 2) + 64) + 2) + 6 ≤ X.R.slots ∧ ∀ q9 : Nat, M8.1 q9 = 0 → ∀ M10 : zM, M10 = zn M8 q9 14 0 → ((((n + 1) + 1) + 1) + 1) + 13 ≤ X.R.cells ∧ ((((k + 2) + 64) + 2) + 6) + 224 ≤ X.R.slots ∧ zC G yX14_init cX14_init 1 none rm_X14_init M10 [.ref q9] (fun M11 v => v = none ∧ M11.1 q7 = 109 ∧ M11.1 q9 = 14 ∧ vp_in (0 : Int32) (M11.2.1 q7) ∧ ∀ M12 : zM, M12 = zr M11 q7 ((0 : Int32).toNatClampNeg) (some q9) → (((((n + 1) + 1) + 1) + 1) + 13) + 1 ≤ X.R.cells ∧ (((((k + 2) + 64) + 2) + 6) + 224) + 6 ≤ X.R.slots ∧ ∀ q13 : Nat, M12.1 q13 = 0 → ∀ M14 : zM, M14 = zn M12 q13 14 0 → ((((((n + 1) + 1) + 1) + 1) + 13) + 1) + 13 ≤ X.R.cells ∧ ((((((k + 2) + 64) + 2) + 6) + 224) + 6) + 224 ≤ X.R.slots ∧ zC G yX14_init cX14_init 1 none rm_X14_init M14 [.ref q13] (fun M15 v => v = none ∧ M15.1 q7 = 109 ∧ M15.1 q13 = 14 ∧ vp_in (1 : Int32) (M15.2.1 q7) ∧ ∀ M16 : zM, M16 = zr M15 q7 ((1 : Int32).toNatClampNeg) (some q13) → M16.1 a0 = 12 ∧ ∀ M17 : zM, M17 = zr M16 a0 4 (some q7) → (((((((n + 1) + 1) + 1) + 1) + 13) + 1) + 13) + 3 ≤ X.R.cells ∧ (((((((k + 2) + 64) + 2) + 6) + 224) + 6) + 224) + 48 ≤ X.R.slots ∧ ∀ q18 : Nat, (∀ j, j ≤ 2 → M17.1 (q18 + j) = 0) → ∀ M19 : zM, M19 = znn M17 q18 2 23 → M19.1 a0 = 12 ∧ ∀ M20 : zM, M20 = zr M19 a0 5 (some q18) → ((((((((n + 1) + 1) + 1) + 1) + 13) + 1) + 13) + 3) + 1 ≤ X.R.cells ∧ ((((((((k + 2) + 64) + 2) + 6) + 224) + 6) + 224) + 48) + 2 ≤ X.R.slots ∧ ∀ q21 : Nat, M20.1 q21 = 0 → ∀ M22 : zM, M22 = zn M20 q21 100 2 → M22.1 a0 = 12 ∧ ∀ M23 : zM, M23 = zr M22 a0 6 (some q21) → X.q M23 none))) : zW G X 1 M n k 0 [(0, .ref a0)] [] := by
  refine z_aload_n O dX12_init_0 rfl 0 rfl ?_
  refine z_obj O zob_X12_3 zob_1 zob_2 dX12_init_1 (by rw [hR]; decide) (by rw [hR]; decide) ?_
  refine z_aload_n O dX12_init_4 rfl 0 rfl ?_
  refine z_iconst (v := 2) O dX12_init_5 rfl ?_
  obtain ⟨hn, hs, h⟩ := h
  refine z_newi (N := 2) O zac_int dX12_init_6 (by decide) (by decide) (by decide) hn hs (fun q1 fq1 => ?_)
  generalize eM2 : zn M q1 100 2 = M2
  replace h := h q1 fq1 M2 eM2.symm
  obtain ⟨hk, h⟩ := h
  refine z_putrF O zp_X12_9_11 dX12_init_8 hk ?_
  generalize eM3 : zr M2 a0 0 (some q1) = M3
  replace h := h M3 eM3.symm
  refine z_aload_n O dX12_init_11 rfl 0 rfl ?_
  refine z_bipush (v := 64) O dX12_init_12 rfl ?_
  obtain ⟨hn, hs, h⟩ := h
  refine z_newi (N := 64) O zac_int dX12_init_14 (by decide) (by decide) (by decide) hn hs (fun q4 fq4 => ?_)
  generalize eM5 : zn M3 q4 100 64 = M5
  replace h := h q4 fq4 M5 eM5.symm
  obtain ⟨hk, h⟩ := h
  refine z_putrF O zp_X12_15_11 dX12_init_16 hk ?_
  generalize eM6 : zr M5 a0 2 (some q4) = M6
  replace h := h M6 eM6.symm
  refine z_aload_n O dX12_init_19 rfl 0 rfl ?_
  refine z_iconst (v := 2) O dX12_init_20 rfl ?_
  obtain ⟨hn, hs, h⟩ := h
  refine z_newr (t := 7) (N := 2) O rfl zcl_X12_18 (by decide) dX12_init_21 (by decide) (by decide) (by decide) hn hs (fun q7 fq7 => ?_)
  generalize eM8 : zn M6 q7 109 2 = M8
  replace h := h q7 fq7 M8 eM8.symm
  refine z_dup O dX12_init_24 rfl ?_
  refine z_iconst (v := 0) O dX12_init_25 rfl ?_
  obtain ⟨hn, hs, h⟩ := h
  refine z_new O zn_X12_18 dX12_init_26 hn hs (fun q9 fq9 => ?_)
  generalize eM10 : zn M8 q9 14 0 = M10
  replace h := h q9 fq9 M10 eM10.symm
  refine z_dup O dX12_init_29 rfl ?_
  obtain ⟨hn, hs, h⟩ := h
  refine z_callINk (As := []) O zc_X12_20 h rfl (zRm_of hR (by decide) (by decide)) (Nat.le_of_ble_eq_true rfl) dX12_init_30 (mc := 13) (ms := 224) rfl rfl hn hs rfl (fun M11 v h => ?_)
  obtain ⟨rfl, h⟩ := h
  obtain ⟨hk, hkv, hi, h⟩ := h
  refine z_ast (t := 7) (ci := 13) (C := RX14) (T := TX14) (N := 6) O rfl rfl (by decide) dX12_init_33 hk hkv hi ?_
  generalize eM12 : zr M11 q7 ((0 : Int32).toNatClampNeg) (some q9) = M12
  replace h := h M12 eM12.symm
  refine z_dup O dX12_init_34 rfl ?_
  refine z_iconst (v := 1) O dX12_init_35 rfl ?_
  obtain ⟨hn, hs, h⟩ := h
  refine z_new O zn_X12_18 dX12_init_36 hn hs (fun q13 fq13 => ?_)
  generalize eM14 : zn M12 q13 14 0 = M14
  replace h := h q13 fq13 M14 eM14.symm
  refine z_dup O dX12_init_39 rfl ?_
  obtain ⟨hn, hs, h⟩ := h
  refine z_callINk (As := []) O zc_X12_20 h rfl (zRm_of hR (by decide) (by decide)) (Nat.le_of_ble_eq_true rfl) dX12_init_40 (mc := 13) (ms := 224) rfl rfl hn hs rfl (fun M15 v h => ?_)
  obtain ⟨rfl, h⟩ := h
  obtain ⟨hk, hkv, hi, h⟩ := h
  refine z_ast (t := 7) (ci := 13) (C := RX14) (T := TX14) (N := 6) O rfl rfl (by decide) dX12_init_43 hk hkv hi ?_
  generalize eM16 : zr M15 q7 ((1 : Int32).toNatClampNeg) (some q13) = M16
  replace h := h M16 eM16.symm
  obtain ⟨hk, h⟩ := h
  refine z_putrF O zp_X12_21_11 dX12_init_44 hk ?_
  generalize eM17 : zr M16 a0 4 (some q7) = M17
  replace h := h M17 eM17.symm
  refine z_aload_n O dX12_init_47 rfl 0 rfl ?_
  refine z_iconst (v := 2) O dX12_init_48 rfl ?_
  refine z_bipush (v := 23) O dX12_init_49 rfl ?_
  obtain ⟨hn, hs, h⟩ := h
  refine z_multi (N := 2) (K := 23) O zcl_X12_25 dX12_init_51 (by decide) (by decide) (by decide) (by decide) (by decide) (by decide) hn hs rfl rfl (fun q18 fq18 => ?_)
  generalize eM19 : znn M17 q18 2 23 = M19
  replace h := h q18 fq18 M19 eM19.symm
  obtain ⟨hk, h⟩ := h
  refine z_putrF O zp_X12_27_11 dX12_init_55 hk ?_
  generalize eM20 : zr M19 a0 5 (some q18) = M20
  replace h := h M20 eM20.symm
  refine z_aload_n O dX12_init_58 rfl 0 rfl ?_
  refine z_iconst (v := 2) O dX12_init_59 rfl ?_
  obtain ⟨hn, hs, h⟩ := h
  refine z_newi (N := 2) O zac_int dX12_init_60 (by decide) (by decide) (by decide) hn hs (fun q21 fq21 => ?_)
  generalize eM22 : zn M20 q21 100 2 = M22
  replace h := h q21 fq21 M22 eM22.symm
  obtain ⟨hk, h⟩ := h
  refine z_putrF O zp_X12_30_11 dX12_init_62 hk ?_
  generalize eM23 : zr M22 a0 6 (some q21) = M23
  replace h := h M23 eM23.symm
  exact z_vret O dX12_init_65 h
set_option maxRecDepth 100000 in
set_option maxHeartbeats 4000000 in
theorem b_X15_init_0 {G : zG} {X : zX} (O : zOK G X cX15_init 2 RX15 none "<init>") (hR : X.R = rm_X15_init) {M : zM} {n k : Nat} {a0 : Nat} (h : n + 1 ≤ X.R.cells ∧ k + 6 ≤ X.R.slots ∧ ∀ q1 : Nat, M.1 q1 = 0 → ∀ M2 : zM, M2 = zn M q1 100 6 → M2.1 a0 = 15 ∧ ∀ M3 : zM, M3 = zr M2 a0 5 (some q1) → (n + 1) + 1 ≤ X.R.cells ∧ (k + 6) + 6 ≤ X.R.slots ∧ ∀ q4 : Nat, M3.1 q4 = 0 → ∀ M5 : zM, M5 = zn M3 q4 109 6 → M5.1 a0 = 15 ∧ ∀ M6 : zM, M6 = zr M5 a0 6 (some q4) → ((n + 1) + 1) + 1 ≤ X.R.cells ∧ ((k + 6) + 6) + 24 ≤ X.R.slots ∧ ∀ q7 : Nat, M6.1 q7 = 0 → ∀ M8 : zM, M8 = zn M6 q7 110 24 → M8.1 a0 = 15 ∧ ∀ M9 : zM, M9 = zr M8 a0 8 (some q7) → (((n + 1) + 1) + 1) + 1 ≤ X.R.cells ∧ (((k + 6) + 6) + 24) + 5 ≤ X.R.slots ∧ ∀ q10 : Nat, M9.1 q10 = 0 → ∀ M11 : zM, M11 = zn M9 q10 111 5 → M11.1 a0 = 15 ∧ ∀ M12 : zM, M12 = zr M11 a0 10 (some q10) → ((((n + 1) + 1) + 1) + 1) + 1 ≤ X.R.cells ∧ ((((k + 6) + 6) + 24) + 5) + 23 ≤ X.R.slots ∧ ∀ q13 : Nat, M12.1 q13 = 0 → ∀ M14 : zM, M14 = zn M12 q13 100 23 → M14.1 a0 = 15 ∧ ∀ M15 : zM, M15 = zr M14 a0 11 (some q13) → (((((n + 1) + 1) + 1) + 1) + 1) + 1 ≤ X.R.cells ∧ (((((k + 6) + 6) + 24) + 5) + 23) + 1 ≤ X.R.slots ∧ ∀ q16 : Nat, M15.1 q16 = 0 → ∀ M17 : zM, M17 = zn M15 q16 100 1 → M17.1 a0 = 15 ∧ ∀ M18 : zM, M18 = zr M17 a0 12 (some q16) → ((((((n + 1) + 1) + 1) + 1) + 1) + 1) + 1 ≤ X.R.cells ∧ ((((((k + 6) + 6) + 24) + 5) + 23) + 1) + 8 ≤ X.R.slots ∧ ∀ q19 : Nat, M18.1 q19 = 0 → ∀ M20 : zM, M20 = zn M18 q19 100 8 → M20.1 a0 = 15 ∧ ∀ M21 : zM, M21 = zr M20 a0 13 (some q19) → (((((((n + 1) + 1) + 1) + 1) + 1) + 1) + 1) + 1 ≤ X.R.cells ∧ (((((((k + 6) + 6) + 24) + 5) + 23) + 1) + 8) + 16 ≤ X.R.slots ∧ ∀ q22 : Nat, M21.1 q22 = 0 → ∀ M23 : zM, M23 = zn M21 q22 100 16 → M23.1 a0 = 15 ∧ ∀ M24 : zM, M24 = zr M23 a0 14 (some q22) → M24.1 a0 = 15 ∧ ∀ M25 : zM, M25 = zi M24 a0 20 (-1) → ((((((((n + 1) + 1) + 1) + 1) + 1) + 1) + 1) + 1) + 1 ≤ X.R.cells ∧ ((((((((k + 6) + 6) + 24) + 5) + 23) + 1) + 8) + 16) + 23 ≤ X.R.slots ∧ ∀ q26 : Nat, M25.1 q26 = 0 → ∀ M27 : zM, M27 = zn M25 q26 100 23 → M27.1 a0 = 15 ∧ ∀ M28 : zM, M28 = zr M27 a0 21 (some q26) → (((((((((n + 1) + 1) + 1) + 1) + 1) + 1) + 1) + 1) + 1) + 1 ≤ X.R.cells ∧ (((((((((k + 6) + 6) + 24) + 5) + 23) + 1) + 8) + 16) + 23) + 64 ≤ X.R.slots ∧ ∀ q29 : Nat, M28.1 q29 = 0 → ∀ M30 : zM, M30 = zn M28 q29 100 64 → M30.1 a0 = 15 ∧ ∀ M31 : zM, M31 = zr M30 a0 23 (some q29) → ((((((((((n + 1) + 1) + 1) + 1) + 1) + 1) + 1) + 1) + 1) + 1) + 1 ≤ X.R.cells ∧ ((((((((((k + 6) + 6) + 24) + 5) + 23) + 1) + 8) + 16) + 23) + 64) + 64 ≤ X.R.slots ∧ ∀ q32 : Nat, M31.1 q32 = 0 → ∀ M33 : zM, M33 = zn M31 q32 100 64 → M33.1 a0 = 15 ∧ ∀ M34 : zM, M34 = zr M33 a0 24 (some q32) → (((((((((((n + 1) + 1) + 1) + 1) + 1) + 1) + 1) + 1) + 1) + 1) + 1) + 1 ≤ X.R.cells ∧ (((((((((((k + 6) + 6) + 24) + 5) + 23) + 1) + 8) + 16) + 23) + 64) + 64) + 64 ≤ X.R.slots ∧ ∀ q35 : Nat, M34.1 q35 = 0 → ∀ M36 : zM, M36 = zn M34 q35 100 64 → M36.1 a0 = 15 ∧ ∀ M37 : zM, M37 = zr M36 a0 25 (some q35) → ((((((((((((n + 1) + 1) + 1) + 1) + 1) + 1) + 1) + 1) + 1) + 1) + 1) + 1) + 1 ≤ X.R.cells ∧ ((((((((((((k + 6) + 6) + 24) + 5) + 23) + 1) + 8) + 16) + 23) + 64) + 64) + 64) + 40 ≤ X.R.slots ∧ ∀ q38 : Nat, M37.1 q38 = 0 → ∀ M39 : zM, M39 = zn M37 q38 109 40 → M39.1 a0 = 15 ∧ ∀ M40 : zM, M40 = zr M39 a0 27 (some q38) → (((((((((((((n + 1) + 1) + 1) + 1) + 1) + 1) + 1) + 1) + 1) + 1) + 1) + 1) + 1) + 1 ≤ X.R.cells ∧ (((((((((((((k + 6) + 6) + 24) + 5) + 23) + 1) + 8) + 16) + 23) + 64) + 64) + 64) + 40) + 40 ≤ X.R.slots ∧ ∀ q41 : Nat, M40.1 q41 = 0 → ∀ M42 : zM, M42 = zn M40 q41 100 40 → M42.1 a0 = 15 ∧ ∀ M43 : zM, M43 = zr M42 a0 28 (some q41) → ((((((((((((((n + 1) + 1) + 1) + 1) + 1) + 1) + 1) + 1) + 1) + 1) + 1) + 1) + 1) + 1) + 1 ≤ X.R.cells ∧ ((((((((((((((k + 6) + 6) + 24) + 5) + 23) + 1) + 8) + 16) + 23) + 64) + 64) + 64) + 40) + 40) + 40 ≤ X.R.slots ∧ ∀ q44 : Nat, M43.1 q44 = 0 → ∀ M45 : zM, M45 = zn M43 q44 101 40 → M45.1 a0 = 15 ∧ ∀ M46 : zM, M46 = zr M45 a0 29 (some q44) → (((((((((((((((n + 1) + 1) + 1) + 1) + 1) + 1) + 1) + 1) + 1) + 1) + 1) + 1) + 1) + 1) + 1) + 1 ≤ X.R.cells ∧ (((((((((((((((k + 6) + 6) + 24) + 5) + 23) + 1) + 8) + 16) + 23) + 64) + 64) + 64) + 40) + 40) + 40) + 23 ≤ X.R.slots ∧ ∀ q47 : Nat, M46.1 q47 = 0 → ∀ M48 : zM, M48 = zn M46 q47 100 23 → M48.1 a0 = 15 ∧ ∀ M49 : zM, M49 = zr M48 a0 31 (some q47) → ((((((((((((((((n + 1) + 1) + 1) + 1) + 1) + 1) + 1) + 1) + 1) + 1) + 1) + 1) + 1) + 1) + 1) + 1) + 1 ≤ X.R.cells ∧ ((((((((((((((((k + 6) + 6) + 24) + 5) + 23) + 1) + 8) + 16) + 23) + 64) + 64) + 64) + 40) + 40) + 40) + 23) + 16 ≤ X.R.slots ∧ ∀ q50 : Nat, M49.1 q50 = 0 → ∀ M51 : zM, M51 = zn M49 q50 100 16 → M51.1 a0 = 15 ∧ ∀ M52 : zM, M52 = zr M51 a0 33 (some q50) → (((((((((((((((((n + 1) + 1) + 1) + 1) + 1) + 1) + 1) + 1) + 1) + 1) + 1) + 1) + 1) + 1) + 1) + 1) + 1) + 1 ≤ X.R.cells ∧ (((((((((((((((((k + 6) + 6) + 24) + 5) + 23) + 1) + 8) + 16) + 23) + 64) + 64) + 64) + 40) + 40) + 40) + 23) + 16) + 23 ≤ X.R.slots ∧ ∀ q53 : Nat, M52.1 q53 = 0 → ∀ M54 : zM, M54 = zn M52 q53 100 23 → M54.1 a0 = 15 ∧ ∀ M55 : zM, M55 = zr M54 a0 34 (some q53) → ((((((((((((((((((n + 1) + 1) + 1) + 1) + 1) + 1) + 1) + 1) + 1) + 1) + 1) + 1) + 1) + 1) + 1) + 1) + 1) + 1) + 1 ≤ X.R.cells ∧ ((((((((((((((((((k + 6) + 6) + 24) + 5) + 23) + 1) + 8) + 16) + 23) + 64) + 64) + 64) + 40) + 40) + 40) + 23) + 16) + 23) + 6 ≤ X.R.slots ∧ ∀ q56 : Nat, M55.1 q56 = 0 → ∀ M57 : zM, M57 = zn M55 q56 101 6 → M57.1 a0 = 15 ∧ ∀ M58 : zM, M58 = zr M57 a0 35 (some q56) → (((((((((((((((((((n + 1) + 1) + 1) + 1) + 1) + 1) + 1) + 1) + 1) + 1) + 1) + 1) + 1) + 1) + 1) + 1) + 1) + 1) + 1) + 1 ≤ X.R.cells ∧ (((((((((((((((((((k + 6) + 6) + 24) + 5) + 23) + 1) + 8) + 16) + 23) + 64) + 64) + 64) + 40) + 40) + 40) + 23) + 16) + 23) + 6) + 4 ≤ X.R.slots ∧ ∀ q59 : Nat, M58.1 q59 = 0 → ∀ M60 : zM, M60 = zn M58 q59 101 4 → M60.1 a0 = 15 ∧ ∀ M61 : zM, M61 = zr M60 a0 36 (some q59) → ((((((((((((((((((((n + 1) + 1) + 1) + 1) + 1) + 1) + 1) + 1) + 1) + 1) + 1) + 1) + 1) + 1) + 1) + 1) + 1) + 1) + 1) + 1) + 1 ≤ X.R.cells ∧ ((((((((((((((((((((k + 6) + 6) + 24) + 5) + 23) + 1) + 8) + 16) + 23) + 64) + 64) + 64) + 40) + 40) + 40) + 23) + 16) + 23) + 6) + 4) + 16 ≤ X.R.slots ∧ ∀ q62 : Nat, M61.1 q62 = 0 → ∀ M63 : zM, M63 = zn M61 q62 100 16 → M63.1 a0 = 15 ∧ ∀ M64 : zM, M64 = zr M63 a0 37 (some q62) → (((((((((((((((((((((n + 1) + 1) + 1) + 1) + 1) + 1) + 1) + 1) + 1) + 1) + 1) + 1) + 1) + 1) + 1) + 1) + 1) + 1) + 1) + 1) + 1) + 1 ≤ X.R.cells ∧ (((((((((((((((((((((k + 6) + 6) + 24) + 5) + 23) + 1) + 8) + 16) + 23) + 64) + 64) + 64) + 40) + 40) + 40) + 23) + 16) + 23) + 6) + 4) + 16) + 60 ≤ X.R.slots ∧ ∀ q65 : Nat, M64.1 q65 = 0 → ∀ M66 : zM, M66 = zn M64 q65 100 60 → M66.1 a0 = 15 ∧ ∀ M67 : zM, M67 = zr M66 a0 38 (some q65) → zW G X 2 M67 ((((((((((((((((((((((n + 1) + 1) + 1) + 1) + 1) + 1) + 1) + 1) + 1) + 1) + 1) + 1) + 1) + 1) + 1) + 1) + 1) + 1) + 1) + 1) + 1) + 1) ((((((((((((((((((((((k + 6) + 6) + 24) + 5) + 23) + 1) + 8) + 16) + 23) + 64) + 64) + 64) + 40) + 40) + 40) + 23) + 16) + 23) + 6) + 4) + 16) + 60) 188 [(0, .ref a0), (1, .int 0)] []) : zW G X 2 M n k 0 [(0, .ref a0)] [] := by
  refine z_aload_n O dX15_init_0 rfl 0 rfl ?_
  refine z_obj O zob_X15_1 zob_1 zob_2 dX15_init_1 (by rw [hR]; decide) (by rw [hR]; decide) ?_
  refine z_aload_n O dX15_init_4 rfl 0 rfl ?_
  refine z_bipush (v := 6) O dX15_init_5 rfl ?_
  obtain ⟨hn, hs, h⟩ := h
  refine z_newi (N := 6) O zac_int dX15_init_7 (by decide) (by decide) (by decide) hn hs (fun q1 fq1 => ?_)
  generalize eM2 : zn M q1 100 6 = M2
  replace h := h q1 fq1 M2 eM2.symm
  obtain ⟨hk, h⟩ := h
  refine z_putrF O zp_X15_7_14 dX15_init_9 hk ?_
  generalize eM3 : zr M2 a0 5 (some q1) = M3
  replace h := h M3 eM3.symm
  refine z_aload_n O dX15_init_12 rfl 0 rfl ?_
  refine z_bipush (v := 6) O dX15_init_13 rfl ?_
  obtain ⟨hn, hs, h⟩ := h
  refine z_newr (t := 7) (N := 6) O rfl zcl_X15_13 (by decide) dX15_init_15 (by decide) (by decide) (by decide) hn hs (fun q4 fq4 => ?_)
  generalize eM5 : zn M3 q4 109 6 = M5
  replace h := h q4 fq4 M5 eM5.symm
  obtain ⟨hk, h⟩ := h
  refine z_putrF O zp_X15_15_14 dX15_init_18 hk ?_
  generalize eM6 : zr M5 a0 6 (some q4) = M6
  replace h := h M6 eM6.symm
  refine z_aload_n O dX15_init_21 rfl 0 rfl ?_
  refine z_bipush (v := 24) O dX15_init_22 rfl ?_
  obtain ⟨hn, hs, h⟩ := h
  refine z_newr (t := 8) (N := 24) O rfl zcl_X15_19 (by decide) dX15_init_24 (by decide) (by decide) (by decide) hn hs (fun q7 fq7 => ?_)
  generalize eM8 : zn M6 q7 110 24 = M8
  replace h := h q7 fq7 M8 eM8.symm
  obtain ⟨hk, h⟩ := h
  refine z_putrF O zp_X15_21_14 dX15_init_27 hk ?_
  generalize eM9 : zr M8 a0 8 (some q7) = M9
  replace h := h M9 eM9.symm
  refine z_aload_n O dX15_init_30 rfl 0 rfl ?_
  refine z_iconst (v := 5) O dX15_init_31 rfl ?_
  obtain ⟨hn, hs, h⟩ := h
  refine z_newr (t := 9) (N := 5) O rfl zcl_X15_25 (by decide) dX15_init_32 (by decide) (by decide) (by decide) hn hs (fun q10 fq10 => ?_)
  generalize eM11 : zn M9 q10 111 5 = M11
  replace h := h q10 fq10 M11 eM11.symm
  obtain ⟨hk, h⟩ := h
  refine z_putrF O zp_X15_27_14 dX15_init_35 hk ?_
  generalize eM12 : zr M11 a0 10 (some q10) = M12
  replace h := h M12 eM12.symm
  refine z_aload_n O dX15_init_38 rfl 0 rfl ?_
  refine z_bipush (v := 23) O dX15_init_39 rfl ?_
  obtain ⟨hn, hs, h⟩ := h
  refine z_newi (N := 23) O zac_int dX15_init_41 (by decide) (by decide) (by decide) hn hs (fun q13 fq13 => ?_)
  generalize eM14 : zn M12 q13 100 23 = M14
  replace h := h q13 fq13 M14 eM14.symm
  obtain ⟨hk, h⟩ := h
  refine z_putrF O zp_X15_31_14 dX15_init_43 hk ?_
  generalize eM15 : zr M14 a0 11 (some q13) = M15
  replace h := h M15 eM15.symm
  refine z_aload_n O dX15_init_46 rfl 0 rfl ?_
  refine z_iconst (v := 1) O dX15_init_47 rfl ?_
  obtain ⟨hn, hs, h⟩ := h
  refine z_newi (N := 1) O zac_int dX15_init_48 (by decide) (by decide) (by decide) hn hs (fun q16 fq16 => ?_)
  generalize eM17 : zn M15 q16 100 1 = M17
  replace h := h q16 fq16 M17 eM17.symm
  obtain ⟨hk, h⟩ := h
  refine z_putrF O zp_X15_34_14 dX15_init_50 hk ?_
  generalize eM18 : zr M17 a0 12 (some q16) = M18
  replace h := h M18 eM18.symm
  refine z_aload_n O dX15_init_53 rfl 0 rfl ?_
  refine z_bipush (v := 8) O dX15_init_54 rfl ?_
  obtain ⟨hn, hs, h⟩ := h
  refine z_newi (N := 8) O zac_int dX15_init_56 (by decide) (by decide) (by decide) hn hs (fun q19 fq19 => ?_)
  generalize eM20 : zn M18 q19 100 8 = M20
  replace h := h q19 fq19 M20 eM20.symm
  obtain ⟨hk, h⟩ := h
  refine z_putrF O zp_X15_37_14 dX15_init_58 hk ?_
  generalize eM21 : zr M20 a0 13 (some q19) = M21
  replace h := h M21 eM21.symm
  refine z_aload_n O dX15_init_61 rfl 0 rfl ?_
  refine z_bipush (v := 16) O dX15_init_62 rfl ?_
  obtain ⟨hn, hs, h⟩ := h
  refine z_newi (N := 16) O zac_int dX15_init_64 (by decide) (by decide) (by decide) hn hs (fun q22 fq22 => ?_)
  generalize eM23 : zn M21 q22 100 16 = M23
  replace h := h q22 fq22 M23 eM23.symm
  obtain ⟨hk, h⟩ := h
  refine z_putrF O zp_X15_40_14 dX15_init_66 hk ?_
  generalize eM24 : zr M23 a0 14 (some q22) = M24
  replace h := h M24 eM24.symm
  refine z_aload_n O dX15_init_69 rfl 0 rfl ?_
  refine z_iconst (v := (-1)) O dX15_init_70 rfl ?_
  obtain ⟨hk, h⟩ := h
  refine z_puti O zp_X15_43_14 dX15_init_71 hk ?_
  generalize eM25 : zi M24 a0 20 (-1) = M25
  replace h := h M25 eM25.symm
  refine z_aload_n O dX15_init_74 rfl 0 rfl ?_
  refine z_bipush (v := 23) O dX15_init_75 rfl ?_
  obtain ⟨hn, hs, h⟩ := h
  refine z_newi (N := 23) O zac_int dX15_init_77 (by decide) (by decide) (by decide) hn hs (fun q26 fq26 => ?_)
  generalize eM27 : zn M25 q26 100 23 = M27
  replace h := h q26 fq26 M27 eM27.symm
  obtain ⟨hk, h⟩ := h
  refine z_putrF O zp_X15_47_14 dX15_init_79 hk ?_
  generalize eM28 : zr M27 a0 21 (some q26) = M28
  replace h := h M28 eM28.symm
  refine z_aload_n O dX15_init_82 rfl 0 rfl ?_
  refine z_bipush (v := 64) O dX15_init_83 rfl ?_
  obtain ⟨hn, hs, h⟩ := h
  refine z_newi (N := 64) O zac_int dX15_init_85 (by decide) (by decide) (by decide) hn hs (fun q29 fq29 => ?_)
  generalize eM30 : zn M28 q29 100 64 = M30
  replace h := h q29 fq29 M30 eM30.symm
  obtain ⟨hk, h⟩ := h
  refine z_putrF O zp_X15_50_14 dX15_init_87 hk ?_
  generalize eM31 : zr M30 a0 23 (some q29) = M31
  replace h := h M31 eM31.symm
  refine z_aload_n O dX15_init_90 rfl 0 rfl ?_
  refine z_bipush (v := 64) O dX15_init_91 rfl ?_
  obtain ⟨hn, hs, h⟩ := h
  refine z_newi (N := 64) O zac_int dX15_init_93 (by decide) (by decide) (by decide) hn hs (fun q32 fq32 => ?_)
  generalize eM33 : zn M31 q32 100 64 = M33
  replace h := h q32 fq32 M33 eM33.symm
  obtain ⟨hk, h⟩ := h
  refine z_putrF O zp_X15_53_14 dX15_init_95 hk ?_
  generalize eM34 : zr M33 a0 24 (some q32) = M34
  replace h := h M34 eM34.symm
  refine z_aload_n O dX15_init_98 rfl 0 rfl ?_
  refine z_bipush (v := 64) O dX15_init_99 rfl ?_
  obtain ⟨hn, hs, h⟩ := h
  refine z_newi (N := 64) O zac_int dX15_init_101 (by decide) (by decide) (by decide) hn hs (fun q35 fq35 => ?_)
  generalize eM36 : zn M34 q35 100 64 = M36
  replace h := h q35 fq35 M36 eM36.symm
  obtain ⟨hk, h⟩ := h
  refine z_putrF O zp_X15_56_14 dX15_init_103 hk ?_
  generalize eM37 : zr M36 a0 25 (some q35) = M37
  replace h := h M37 eM37.symm
  refine z_aload_n O dX15_init_106 rfl 0 rfl ?_
  refine z_bipush (v := 40) O dX15_init_107 rfl ?_
  obtain ⟨hn, hs, h⟩ := h
  refine z_newr (t := 7) (N := 40) O rfl zcl_X15_13 (by decide) dX15_init_109 (by decide) (by decide) (by decide) hn hs (fun q38 fq38 => ?_)
  generalize eM39 : zn M37 q38 109 40 = M39
  replace h := h q38 fq38 M39 eM39.symm
  obtain ⟨hk, h⟩ := h
  refine z_putrF O zp_X15_59_14 dX15_init_112 hk ?_
  generalize eM40 : zr M39 a0 27 (some q38) = M40
  replace h := h M40 eM40.symm
  refine z_aload_n O dX15_init_115 rfl 0 rfl ?_
  refine z_bipush (v := 40) O dX15_init_116 rfl ?_
  obtain ⟨hn, hs, h⟩ := h
  refine z_newi (N := 40) O zac_int dX15_init_118 (by decide) (by decide) (by decide) hn hs (fun q41 fq41 => ?_)
  generalize eM42 : zn M40 q41 100 40 = M42
  replace h := h q41 fq41 M42 eM42.symm
  obtain ⟨hk, h⟩ := h
  refine z_putrF O zp_X15_62_14 dX15_init_120 hk ?_
  generalize eM43 : zr M42 a0 28 (some q41) = M43
  replace h := h M43 eM43.symm
  refine z_aload_n O dX15_init_123 rfl 0 rfl ?_
  refine z_bipush (v := 40) O dX15_init_124 rfl ?_
  obtain ⟨hn, hs, h⟩ := h
  refine z_newz (N := 40) O zac_boolean dX15_init_126 (by decide) (by decide) (by decide) hn hs (fun q44 fq44 => ?_)
  generalize eM45 : zn M43 q44 101 40 = M45
  replace h := h q44 fq44 M45 eM45.symm
  obtain ⟨hk, h⟩ := h
  refine z_putrF O zp_X15_65_14 dX15_init_128 hk ?_
  generalize eM46 : zr M45 a0 29 (some q44) = M46
  replace h := h M46 eM46.symm
  refine z_aload_n O dX15_init_131 rfl 0 rfl ?_
  refine z_bipush (v := 23) O dX15_init_132 rfl ?_
  obtain ⟨hn, hs, h⟩ := h
  refine z_newi (N := 23) O zac_int dX15_init_134 (by decide) (by decide) (by decide) hn hs (fun q47 fq47 => ?_)
  generalize eM48 : zn M46 q47 100 23 = M48
  replace h := h q47 fq47 M48 eM48.symm
  obtain ⟨hk, h⟩ := h
  refine z_putrF O zp_X15_69_14 dX15_init_136 hk ?_
  generalize eM49 : zr M48 a0 31 (some q47) = M49
  replace h := h M49 eM49.symm
  refine z_aload_n O dX15_init_139 rfl 0 rfl ?_
  refine z_bipush (v := 16) O dX15_init_140 rfl ?_
  obtain ⟨hn, hs, h⟩ := h
  refine z_newi (N := 16) O zac_int dX15_init_142 (by decide) (by decide) (by decide) hn hs (fun q50 fq50 => ?_)
  generalize eM51 : zn M49 q50 100 16 = M51
  replace h := h q50 fq50 M51 eM51.symm
  obtain ⟨hk, h⟩ := h
  refine z_putrF O zp_X15_72_14 dX15_init_144 hk ?_
  generalize eM52 : zr M51 a0 33 (some q50) = M52
  replace h := h M52 eM52.symm
  refine z_aload_n O dX15_init_147 rfl 0 rfl ?_
  refine z_bipush (v := 23) O dX15_init_148 rfl ?_
  obtain ⟨hn, hs, h⟩ := h
  refine z_newi (N := 23) O zac_int dX15_init_150 (by decide) (by decide) (by decide) hn hs (fun q53 fq53 => ?_)
  generalize eM54 : zn M52 q53 100 23 = M54
  replace h := h q53 fq53 M54 eM54.symm
  obtain ⟨hk, h⟩ := h
  refine z_putrF O zp_X15_75_14 dX15_init_152 hk ?_
  generalize eM55 : zr M54 a0 34 (some q53) = M55
  replace h := h M55 eM55.symm
  refine z_aload_n O dX15_init_155 rfl 0 rfl ?_
  refine z_bipush (v := 6) O dX15_init_156 rfl ?_
  obtain ⟨hn, hs, h⟩ := h
  refine z_newz (N := 6) O zac_boolean dX15_init_158 (by decide) (by decide) (by decide) hn hs (fun q56 fq56 => ?_)
  generalize eM57 : zn M55 q56 101 6 = M57
  replace h := h q56 fq56 M57 eM57.symm
  obtain ⟨hk, h⟩ := h
  refine z_putrF O zp_X15_78_14 dX15_init_160 hk ?_
  generalize eM58 : zr M57 a0 35 (some q56) = M58
  replace h := h M58 eM58.symm
  refine z_aload_n O dX15_init_163 rfl 0 rfl ?_
  refine z_iconst (v := 4) O dX15_init_164 rfl ?_
  obtain ⟨hn, hs, h⟩ := h
  refine z_newz (N := 4) O zac_boolean dX15_init_165 (by decide) (by decide) (by decide) hn hs (fun q59 fq59 => ?_)
  generalize eM60 : zn M58 q59 101 4 = M60
  replace h := h q59 fq59 M60 eM60.symm
  obtain ⟨hk, h⟩ := h
  refine z_putrF O zp_X15_81_14 dX15_init_167 hk ?_
  generalize eM61 : zr M60 a0 36 (some q59) = M61
  replace h := h M61 eM61.symm
  refine z_aload_n O dX15_init_170 rfl 0 rfl ?_
  refine z_bipush (v := 16) O dX15_init_171 rfl ?_
  obtain ⟨hn, hs, h⟩ := h
  refine z_newi (N := 16) O zac_int dX15_init_173 (by decide) (by decide) (by decide) hn hs (fun q62 fq62 => ?_)
  generalize eM63 : zn M61 q62 100 16 = M63
  replace h := h q62 fq62 M63 eM63.symm
  obtain ⟨hk, h⟩ := h
  refine z_putrF O zp_X15_84_14 dX15_init_175 hk ?_
  generalize eM64 : zr M63 a0 37 (some q62) = M64
  replace h := h M64 eM64.symm
  refine z_aload_n O dX15_init_178 rfl 0 rfl ?_
  refine z_bipush (v := 60) O dX15_init_179 rfl ?_
  obtain ⟨hn, hs, h⟩ := h
  refine z_newi (N := 60) O zac_int dX15_init_181 (by decide) (by decide) (by decide) hn hs (fun q65 fq65 => ?_)
  generalize eM66 : zn M64 q65 100 60 = M66
  replace h := h q65 fq65 M66 eM66.symm
  obtain ⟨hk, h⟩ := h
  refine z_putrF O zp_X15_87_14 dX15_init_183 hk ?_
  generalize eM67 : zr M66 a0 38 (some q65) = M67
  replace h := h M67 eM67.symm
  refine z_iconst (v := 0) O dX15_init_186 rfl ?_
  refine z_istore_n (lv' := [(1, .int 0), (0, .ref a0)]) O dX15_init_187 rfl (by decide) rfl ?_
  exact z_to [1, 0] rfl h
set_option maxRecDepth 100000 in
set_option maxHeartbeats 4000000 in
theorem b_X15_init_188 {G : zG} {X : zX} (O : zOK G X cX15_init 2 RX15 none "<init>") (hR : X.R = rm_X15_init) {M : zM} {n k : Nat} {a0 : Nat} {x1 : Int32} (h : (24 ≤ x1 → zW G X 2 M n k 215 [(0, .ref a0), (1, .int 0)] []) ∧ (¬ 24 ≤ x1 → M.1 a0 = 15 ∧ ∃ b1 : Nat, M.2.2.2 a0 8 = some b1 ∧ n + 1 ≤ X.R.cells ∧ k + 28 ≤ X.R.slots ∧ ∀ q2 : Nat, M.1 q2 = 0 → ∀ M3 : zM, M3 = zn M q2 13 0 → (n + 1) + 25 ≤ X.R.cells ∧ (k + 28) + 453 ≤ X.R.slots ∧ zC G yX13_init cX13_init 1 none rm_X13_init M3 [.ref q2] (fun M4 v => v = none ∧ M4.1 b1 = 110 ∧ M4.1 q2 = 13 ∧ vp_in x1 (M4.2.1 b1) ∧ ∀ M5 : zM, M5 = zr M4 b1 (x1.toNatClampNeg) (some q2) → ∀ y6 : Int32, y6 = x1 + 1 → zW G X 2 M5 ((n + 1) + 25) ((k + 28) + 453) 188 [(0, .ref a0), (1, .int y6)] []))) : zW G X 2 M n k 188 [(0, .ref a0), (1, .int x1)] [] := by
  refine z_iload_n O dX15_init_188 rfl 1 rfl ?_
  refine z_bipush (v := 24) O dX15_init_189 rfl ?_
  refine z_icmp_ge O 213 dX15_init_191 (by decide) (fun c => ?_) (fun c => ?_)
  · replace h := h.1 c
    refine z_iconst (v := 0) O dX15_init_213 rfl ?_
    refine z_istore_n (lv' := [(1, .int 0), (0, .ref a0)]) O dX15_init_214 rfl (by decide) rfl ?_
    exact z_to [1, 0] rfl h
  · replace h := h.2 c
    refine z_aload_n O dX15_init_194 rfl 0 rfl ?_
    obtain ⟨hk, b1, hr, h⟩ := h
    refine z_getr O zf_X15_21_14 dX15_init_195 hk hr ?_
    refine z_iload_n O dX15_init_198 rfl 1 rfl ?_
    obtain ⟨hn, hs, h⟩ := h
    refine z_new O zn_X15_19 dX15_init_199 hn hs (fun q2 fq2 => ?_)
    generalize eM3 : zn M q2 13 0 = M3
    replace h := h q2 fq2 M3 eM3.symm
    refine z_dup O dX15_init_202 rfl ?_
    obtain ⟨hn, hs, h⟩ := h
    refine z_callINk (As := []) O zc_X15_90 h rfl (zRm_of hR (by decide) (by decide)) (Nat.le_of_ble_eq_true rfl) dX15_init_203 (mc := 25) (ms := 453) rfl rfl hn hs rfl (fun M4 v h => ?_)
    obtain ⟨rfl, h⟩ := h
    obtain ⟨hk, hkv, hi, h⟩ := h
    refine z_ast (t := 8) (ci := 12) (C := RX13) (T := TX13) (N := 28) O rfl rfl (by decide) dX15_init_206 hk hkv hi ?_
    generalize eM5 : zr M4 b1 (x1.toNatClampNeg) (some q2) = M5
    replace h := h M5 eM5.symm
    obtain ⟨y6, ey6⟩ : ∃ y : Int32, y = x1 + 1 := ⟨_, rfl⟩
    replace h := h y6 ey6
    refine z_iinc (v := y6) (lv' := [(1, .int y6), (0, .ref a0)]) O dX15_init_207 (q := 1) rfl (by rw [ey6]; rfl) (by decide) rfl ?_
    refine z_goto O 188 dX15_init_210 (by decide) ?_
    exact z_to [1, 0] rfl h
set_option maxRecDepth 100000 in
set_option maxHeartbeats 4000000 in
theorem b_X15_init_215 {G : zG} {X : zX} (O : zOK G X cX15_init 2 RX15 none "<init>") (hR : X.R = rm_X15_init) {M : zM} {n k : Nat} {a0 : Nat} {x1 : Int32} (h : (5 ≤ x1 → zW G X 2 M n k 241 [(0, .ref a0), (1, .int 0)] []) ∧ (¬ 5 ≤ x1 → M.1 a0 = 15 ∧ ∃ b1 : Nat, M.2.2.2 a0 10 = some b1 ∧ n + 1 ≤ X.R.cells ∧ k + 7 ≤ X.R.slots ∧ ∀ q2 : Nat, M.1 q2 = 0 → ∀ M3 : zM, M3 = zn M q2 12 0 → (n + 1) + 35 ≤ X.R.cells ∧ (k + 7) + 578 ≤ X.R.slots ∧ zC G yX12_init cX12_init 1 none rm_X12_init M3 [.ref q2] (fun M4 v => v = none ∧ M4.1 b1 = 111 ∧ M4.1 q2 = 12 ∧ vp_in x1 (M4.2.1 b1) ∧ ∀ M5 : zM, M5 = zr M4 b1 (x1.toNatClampNeg) (some q2) → ∀ y6 : Int32, y6 = x1 + 1 → zW G X 2 M5 ((n + 1) + 35) ((k + 7) + 578) 215 [(0, .ref a0), (1, .int y6)] []))) : zW G X 2 M n k 215 [(0, .ref a0), (1, .int x1)] [] := by
  refine z_iload_n O dX15_init_215 rfl 1 rfl ?_
  refine z_iconst (v := 5) O dX15_init_216 rfl ?_
  refine z_icmp_ge O 239 dX15_init_217 (by decide) (fun c => ?_) (fun c => ?_)
  · replace h := h.1 c
    refine z_iconst (v := 0) O dX15_init_239 rfl ?_
    refine z_istore_n (lv' := [(1, .int 0), (0, .ref a0)]) O dX15_init_240 rfl (by decide) rfl ?_
    exact z_to [1, 0] rfl h
  · replace h := h.2 c
    refine z_aload_n O dX15_init_220 rfl 0 rfl ?_
    obtain ⟨hk, b1, hr, h⟩ := h
    refine z_getr O zf_X15_27_14 dX15_init_221 hk hr ?_
    refine z_iload_n O dX15_init_224 rfl 1 rfl ?_
    obtain ⟨hn, hs, h⟩ := h
    refine z_new O zn_X15_25 dX15_init_225 hn hs (fun q2 fq2 => ?_)
    generalize eM3 : zn M q2 12 0 = M3
    replace h := h q2 fq2 M3 eM3.symm
    refine z_dup O dX15_init_228 rfl ?_
    obtain ⟨hn, hs, h⟩ := h
    refine z_callINk (As := []) O zc_X15_91 h rfl (zRm_of hR (by decide) (by decide)) (Nat.le_of_ble_eq_true rfl) dX15_init_229 (mc := 35) (ms := 578) rfl rfl hn hs rfl (fun M4 v h => ?_)
    obtain ⟨rfl, h⟩ := h
    obtain ⟨hk, hkv, hi, h⟩ := h
    refine z_ast (t := 9) (ci := 11) (C := RX12) (T := TX12) (N := 7) O rfl rfl (by decide) dX15_init_232 hk hkv hi ?_
    generalize eM5 : zr M4 b1 (x1.toNatClampNeg) (some q2) = M5
    replace h := h M5 eM5.symm
    obtain ⟨y6, ey6⟩ : ∃ y : Int32, y = x1 + 1 := ⟨_, rfl⟩
    replace h := h y6 ey6
    refine z_iinc (v := y6) (lv' := [(1, .int y6), (0, .ref a0)]) O dX15_init_233 (q := 1) rfl (by rw [ey6]; rfl) (by decide) rfl ?_
    refine z_goto O 215 dX15_init_236 (by decide) ?_
    exact z_to [1, 0] rfl h
set_option maxRecDepth 100000 in
set_option maxHeartbeats 4000000 in
theorem b_X15_init_241 {G : zG} {X : zX} (O : zOK G X cX15_init 2 RX15 none "<init>") (hR : X.R = rm_X15_init) {M : zM} {n k : Nat} {a0 : Nat} {x1 : Int32} (h : (6 ≤ x1 → X.q M none) ∧ (¬ 6 ≤ x1 → M.1 a0 = 15 ∧ ∃ b1 : Nat, M.2.2.2 a0 6 = some b1 ∧ n + 1 ≤ X.R.cells ∧ k + 6 ≤ X.R.slots ∧ ∀ q2 : Nat, M.1 q2 = 0 → ∀ M3 : zM, M3 = zn M q2 14 0 → (n + 1) + 13 ≤ X.R.cells ∧ (k + 6) + 224 ≤ X.R.slots ∧ zC G yX14_init cX14_init 1 none rm_X14_init M3 [.ref q2] (fun M4 v => v = none ∧ M4.1 b1 = 109 ∧ M4.1 q2 = 14 ∧ vp_in x1 (M4.2.1 b1) ∧ ∀ M5 : zM, M5 = zr M4 b1 (x1.toNatClampNeg) (some q2) → ∀ y6 : Int32, y6 = x1 + 1 → zW G X 2 M5 ((n + 1) + 13) ((k + 6) + 224) 241 [(0, .ref a0), (1, .int y6)] []))) : zW G X 2 M n k 241 [(0, .ref a0), (1, .int x1)] [] := by
  refine z_iload_n O dX15_init_241 rfl 1 rfl ?_
  refine z_bipush (v := 6) O dX15_init_242 rfl ?_
  refine z_icmp_ge O 266 dX15_init_244 (by decide) (fun c => ?_) (fun c => ?_)
  · replace h := h.1 c
    exact z_vret O dX15_init_266 h
  · replace h := h.2 c
    refine z_aload_n O dX15_init_247 rfl 0 rfl ?_
    obtain ⟨hk, b1, hr, h⟩ := h
    refine z_getr O zf_X15_15_14 dX15_init_248 hk hr ?_
    refine z_iload_n O dX15_init_251 rfl 1 rfl ?_
    obtain ⟨hn, hs, h⟩ := h
    refine z_new O zn_X15_13 dX15_init_252 hn hs (fun q2 fq2 => ?_)
    generalize eM3 : zn M q2 14 0 = M3
    replace h := h q2 fq2 M3 eM3.symm
    refine z_dup O dX15_init_255 rfl ?_
    obtain ⟨hn, hs, h⟩ := h
    refine z_callINk (As := []) O zc_X15_92 h rfl (zRm_of hR (by decide) (by decide)) (Nat.le_of_ble_eq_true rfl) dX15_init_256 (mc := 13) (ms := 224) rfl rfl hn hs rfl (fun M4 v h => ?_)
    obtain ⟨rfl, h⟩ := h
    obtain ⟨hk, hkv, hi, h⟩ := h
    refine z_ast (t := 7) (ci := 13) (C := RX14) (T := TX14) (N := 6) O rfl rfl (by decide) dX15_init_259 hk hkv hi ?_
    generalize eM5 : zr M4 b1 (x1.toNatClampNeg) (some q2) = M5
    replace h := h M5 eM5.symm
    obtain ⟨y6, ey6⟩ : ∃ y : Int32, y = x1 + 1 := ⟨_, rfl⟩
    replace h := h y6 ey6
    refine z_iinc (v := y6) (lv' := [(1, .int y6), (0, .ref a0)]) O dX15_init_260 (q := 1) rfl (by rw [ey6]; rfl) (by decide) rfl ?_
    refine z_goto O 241 dX15_init_263 (by decide) ?_
    exact z_to [1, 0] rfl h
set_option maxRecDepth 100000 in
set_option maxHeartbeats 4000000 in
theorem b_X15_thrown_0 {G : zG} {X : zX} (O : zOK G X cX15_thrown 1 RX15 (some .int) "thrown") (hR : X.R = rm_X15_thrown) {M : zM} {n k : Nat} {a0 : Nat} (h : M.1 a0 = 15 ∧ X.q M (some (.int (M.2.2.1 a0 0)))) : zW G X 1 M n k 0 [(0, .ref a0)] [] := by
  refine z_aload_n O dX15_thrown_0 rfl 0 rfl ?_
  obtain ⟨hk, h⟩ := h
  refine z_geti O zf_X15_93_14 dX15_thrown_1 hk ?_
  exact z_iret O dX15_thrown_4 h
set_option maxRecDepth 100000 in
set_option maxHeartbeats 4000000 in
theorem b_X15_in_0 {G : zG} {X : zX} (O : zOK G X cX15_in 3 RX15 (some .boolean) "in") (hR : X.R = rm_X15_in) {M : zM} {n k : Nat} {x0 : Int32} {x1 : Int32} {x2 : Int32} (h : (x0 < x1 → X.q M (some (.int 0))) ∧ (¬ x0 < x1 → (x2 < x0 → X.q M (some (.int 0))) ∧ (¬ x2 < x0 → X.q M (some (.int 1))))) : zW G X 3 M n k 0 [(0, .int x0), (1, .int x1), (2, .int x2)] [] := by
  refine z_iload_n O dX15_in_0 rfl 0 rfl ?_
  refine z_iload_n O dX15_in_1 rfl 1 rfl ?_
  refine z_icmp_lt O 14 dX15_in_2 (by decide) (fun c => ?_) (fun c => ?_)
  · replace h := h.1 c
    refine z_iconst (v := 0) O dX15_in_14 rfl ?_
    exact z_zret O dX15_in_15 (by decide) h
  · replace h := h.2 c
    refine z_iload_n O dX15_in_5 rfl 0 rfl ?_
    refine z_iload_n O dX15_in_6 rfl 2 rfl ?_
    refine z_icmp_gt O 14 dX15_in_7 (by decide) (fun c => ?_) (fun c => ?_)
    · replace h := h.1 c
      refine z_iconst (v := 0) O dX15_in_14 rfl ?_
      exact z_zret O dX15_in_15 (by decide) h
    · replace h := h.2 c
      refine z_iconst (v := 1) O dX15_in_10 rfl ?_
      refine z_goto O 15 dX15_in_11 (by decide) ?_
      exact z_zret O dX15_in_15 (by decide) h
set_option maxRecDepth 100000 in
set_option maxHeartbeats 4000000 in
theorem b_X15_isLine_0 {G : zG} {X : zX} (O : zOK G X cX15_isLine 2 RX15 (some .boolean) "isLine") (hR : X.R = rm_X15_isLine) {M : zM} {n k : Nat} {a0 : Nat} {x1 : Int32} (h : M.1 a0 = 15 ∧ zC G yX15_in cX15_in 3 (some .boolean) rm_X15_in M [.int x1, .int 0, .int ((M.2.2.1 a0 4) - 1)] (fun M1 v => ∃ r2 : Int32, v = some (.int r2) ∧ (r2 = 0 ∨ r2 = 1) ∧ X.q M1 (some (.int r2)))) : zW G X 2 M n k 0 [(0, .ref a0), (1, .int x1)] [] := by
  refine z_iload_n O dX15_isLine_0 rfl 1 rfl ?_
  refine z_iconst (v := 0) O dX15_isLine_1 rfl ?_
  refine z_aload_n O dX15_isLine_2 rfl 0 rfl ?_
  obtain ⟨hk, h⟩ := h
  refine z_geti O zf_X15_132_14 dX15_isLine_3 hk ?_
  refine z_iconst (v := 1) O dX15_isLine_6 rfl ?_
  refine z_isub O dX15_isLine_7 ?_
  refine z_callS0 (As := [.int x1, .int 0, .int ((M.2.2.1 a0 4) - 1)]) O zc_X15_135 h rfl (zRm_of hR (by decide) (by decide)) (Nat.le_of_ble_eq_true rfl) dX15_isLine_8 rfl rfl rfl (fun M1 v h => ?_)
  obtain ⟨r2, rfl, h⟩ := h
  exact z_zret O dX15_isLine_11 h.1 h.2
set_option maxRecDepth 100000 in
set_option maxHeartbeats 4000000 in
theorem b_X15_isDevice_0 {G : zG} {X : zX} (O : zOK G X cX15_isDevice 2 RX15 (some .boolean) "isDevice") (hR : X.R = rm_X15_isDevice) {M : zM} {n k : Nat} {a0 : Nat} {x1 : Int32} (h : M.1 a0 = 15 ∧ zC G yX15_in cX15_in 3 (some .boolean) rm_X15_in M [.int x1, .int 0, .int ((M.2.2.1 a0 7) - 1)] (fun M1 v => ∃ r2 : Int32, v = some (.int r2) ∧ (r2 = 0 ∨ r2 = 1) ∧ X.q M1 (some (.int r2)))) : zW G X 2 M n k 0 [(0, .ref a0), (1, .int x1)] [] := by
  refine z_iload_n O dX15_isDevice_0 rfl 1 rfl ?_
  refine z_iconst (v := 0) O dX15_isDevice_1 rfl ?_
  refine z_aload_n O dX15_isDevice_2 rfl 0 rfl ?_
  obtain ⟨hk, h⟩ := h
  refine z_geti O zf_X15_139_14 dX15_isDevice_3 hk ?_
  refine z_iconst (v := 1) O dX15_isDevice_6 rfl ?_
  refine z_isub O dX15_isDevice_7 ?_
  refine z_callS0 (As := [.int x1, .int 0, .int ((M.2.2.1 a0 7) - 1)]) O zc_X15_135 h rfl (zRm_of hR (by decide) (by decide)) (Nat.le_of_ble_eq_true rfl) dX15_isDevice_8 rfl rfl rfl (fun M1 v h => ?_)
  obtain ⟨r2, rfl, h⟩ := h
  exact z_zret O dX15_isDevice_11 h.1 h.2
set_option maxRecDepth 100000 in
set_option maxHeartbeats 4000000 in
theorem b_X15_isCoupler_0 {G : zG} {X : zX} (O : zOK G X cX15_isCoupler 2 RX15 (some .boolean) "isCoupler") (hR : X.R = rm_X15_isCoupler) {M : zM} {n k : Nat} {a0 : Nat} {x1 : Int32} (h : M.1 a0 = 15 ∧ zC G yX15_in cX15_in 3 (some .boolean) rm_X15_in M [.int x1, .int 0, .int ((M.2.2.1 a0 9) - 1)] (fun M1 v => ∃ r2 : Int32, v = some (.int r2) ∧ (r2 = 0 ∨ r2 = 1) ∧ X.q M1 (some (.int r2)))) : zW G X 2 M n k 0 [(0, .ref a0), (1, .int x1)] [] := by
  refine z_iload_n O dX15_isCoupler_0 rfl 1 rfl ?_
  refine z_iconst (v := 0) O dX15_isCoupler_1 rfl ?_
  refine z_aload_n O dX15_isCoupler_2 rfl 0 rfl ?_
  obtain ⟨hk, h⟩ := h
  refine z_geti O zf_X15_142_14 dX15_isCoupler_3 hk ?_
  refine z_iconst (v := 1) O dX15_isCoupler_6 rfl ?_
  refine z_isub O dX15_isCoupler_7 ?_
  refine z_callS0 (As := [.int x1, .int 0, .int ((M.2.2.1 a0 9) - 1)]) O zc_X15_135 h rfl (zRm_of hR (by decide) (by decide)) (Nat.le_of_ble_eq_true rfl) dX15_isCoupler_8 rfl rfl rfl (fun M1 v h => ?_)
  obtain ⟨r2, rfl, h⟩ := h
  exact z_zret O dX15_isCoupler_11 h.1 h.2
set_option maxRecDepth 100000 in
set_option maxHeartbeats 4000000 in
theorem b_X15_isObject_0 {G : zG} {X : zX} (O : zOK G X cX15_isObject 3 RX15 (some .boolean) "isObject") (hR : X.R = rm_X15_isObject) {M : zM} {n k : Nat} {a0 : Nat} {x1 : Int32} {x2 : Int32} (h : M.1 a0 = 15 ∧ zC G yX15_isDevice cX15_isDevice 2 (some .boolean) rm_X15_isDevice M [.ref a0, .int x1] (fun M1 v => ∃ r2 : Int32, v = some (.int r2) ∧ (r2 = 0 → X.q M1 (some (.int 0))) ∧ (¬ r2 = 0 → M1.1 a0 = 15 ∧ ∃ b3 : Nat, M1.2.2.2 a0 8 = some b3 ∧ M1.1 b3 = 110 ∧ vp_in x1 (M1.2.1 b3) ∧ ∃ b4 : Nat, M1.2.2.2 b3 x1.toNatClampNeg = some b4 ∧ M1.1 b4 = 13 ∧ zC G yX15_in cX15_in 3 (some .boolean) rm_X15_in M1 [.int x2, .int 0, .int ((M1.2.2.1 b4 6) - 1)] (fun M5 v => ∃ r6 : Int32, v = some (.int r6) ∧ (r6 = 0 → X.q M5 (some (.int 0))) ∧ (¬ r6 = 0 → X.q M5 (some (.int 1))))))) : zW G X 3 M n k 0 [(0, .ref a0), (1, .int x1), (2, .int x2)] [] := by
  refine z_aload_n O dX15_isObject_0 rfl 0 rfl ?_
  refine z_iload_n O dX15_isObject_1 rfl 1 rfl ?_
  obtain ⟨hk, h⟩ := h
  refine z_callV0 (As := [.int x1]) O zc_X15_145 h hk rfl (zRm_of hR (by decide) (by decide)) (Nat.le_of_ble_eq_true rfl) dX15_isObject_2 rfl rfl rfl (fun M1 v h => ?_)
  obtain ⟨r2, rfl, h⟩ := h
  refine z_if_eq O 31 dX15_isObject_5 (by decide) (fun c => ?_) (fun c => ?_)
  · replace h := h.1 c
    refine z_iconst (v := 0) O dX15_isObject_31 rfl ?_
    exact z_zret O dX15_isObject_32 (by decide) h
  · replace h := h.2 c
    refine z_iload_n O dX15_isObject_8 rfl 2 rfl ?_
    refine z_iconst (v := 0) O dX15_isObject_9 rfl ?_
    refine z_aload_n O dX15_isObject_10 rfl 0 rfl ?_
    obtain ⟨hk, b3, hr, h⟩ := h
    refine z_getr O zf_X15_21_14 dX15_isObject_11 hk hr ?_
    refine z_iload_n O dX15_isObject_14 rfl 1 rfl ?_
    obtain ⟨hk, hi, b4, hr, h⟩ := h
    refine z_ald (t := 8) O rfl dX15_isObject_15 hk hi hr ?_
    obtain ⟨hk, h⟩ := h
    refine z_geti O zf_X15_149_12 dX15_isObject_16 hk ?_
    refine z_iconst (v := 1) O dX15_isObject_19 rfl ?_
    refine z_isub O dX15_isObject_20 ?_
    refine z_callS0 (As := [.int x2, .int 0, .int ((M1.2.2.1 b4 6) - 1)]) O zc_X15_135 h rfl (zRm_of hR (by decide) (by decide)) (Nat.le_of_ble_eq_true rfl) dX15_isObject_21 rfl rfl rfl (fun M5 v h => ?_)
    obtain ⟨r6, rfl, h⟩ := h
    refine z_if_eq O 31 dX15_isObject_24 (by decide) (fun c => ?_) (fun c => ?_)
    · replace h := h.1 c
      refine z_iconst (v := 0) O dX15_isObject_31 rfl ?_
      exact z_zret O dX15_isObject_32 (by decide) h
    · replace h := h.2 c
      refine z_iconst (v := 1) O dX15_isObject_27 rfl ?_
      refine z_goto O 32 dX15_isObject_28 (by decide) ?_
      exact z_zret O dX15_isObject_32 (by decide) h
set_option maxRecDepth 100000 in
set_option maxHeartbeats 4000000 in
theorem b_X15_lineOf_0 {G : zG} {X : zX} (O : zOK G X cX15_lineOf 4 RX15 (some .int) "lineOf") (hR : X.R = rm_X15_lineOf) {M : zM} {n k : Nat} {a0 : Nat} {x1 : Int32} (h : zW G X 4 M n k 4 [(0, .ref a0), (1, .int x1), (2, .int (-1)), (3, .int 0)] []) : zW G X 4 M n k 0 [(0, .ref a0), (1, .int x1)] [] := by
  refine z_iconst (v := (-1)) O dX15_lineOf_0 rfl ?_
  refine z_istore_n (lv' := [(2, .int (-1)), (0, .ref a0), (1, .int x1)]) O dX15_lineOf_1 rfl (by decide) rfl ?_
  refine z_iconst (v := 0) O dX15_lineOf_2 rfl ?_
  refine z_istore_n (lv' := [(3, .int 0), (2, .int (-1)), (0, .ref a0), (1, .int x1)]) O dX15_lineOf_3 rfl (by decide) rfl ?_
  exact z_to [2, 3, 1, 0] rfl h
set_option maxRecDepth 100000 in
set_option maxHeartbeats 4000000 in
theorem b_X15_lineOf_4 {G : zG} {X : zX} (O : zOK G X cX15_lineOf 4 RX15 (some .int) "lineOf") (hR : X.R = rm_X15_lineOf) {M : zM} {n k : Nat} {a0 : Nat} {x1 : Int32} {x2 : Int32} {x3 : Int32} (h : M.1 a0 = 15 ∧ ((M.2.2.1 a0 4) ≤ x3 → X.q M (some (.int x2))) ∧ (¬ (M.2.2.1 a0 4) ≤ x3 → M.1 a0 = 15 ∧ ∃ b1 : Nat, M.2.2.2 a0 5 = some b1 ∧ M.1 b1 = 100 ∧ vp_in x3 (M.2.1 b1) ∧ (¬ (M.2.2.1 b1 x3.toNatClampNeg) = x1 → ∀ y2 : Int32, y2 = x3 + 1 → zW G X 4 M n k 4 [(0, .ref a0), (1, .int x1), (2, .int x2), (3, .int y2)] []) ∧ ((M.2.2.1 b1 x3.toNatClampNeg) = x1 → ∀ y3 : Int32, y3 = x3 + 1 → zW G X 4 M n k 4 [(0, .ref a0), (1, .int x1), (2, .int x3), (3, .int y3)] []))) : zW G X 4 M n k 4 [(0, .ref a0), (1, .int x1), (2, .int x2), (3, .int x3)] [] := by
  refine z_iload_n O dX15_lineOf_4 rfl 3 rfl ?_
  refine z_aload_n O dX15_lineOf_5 rfl 0 rfl ?_
  obtain ⟨hk, h⟩ := h
  refine z_geti O zf_X15_132_14 dX15_lineOf_6 hk ?_
  refine z_icmp_ge O 30 dX15_lineOf_9 (by decide) (fun c => ?_) (fun c => ?_)
  · replace h := h.1 c
    refine z_iload_n O dX15_lineOf_30 rfl 2 rfl ?_
    exact z_iret O dX15_lineOf_31 h
  · replace h := h.2 c
    refine z_aload_n O dX15_lineOf_12 rfl 0 rfl ?_
    obtain ⟨hk, b1, hr, h⟩ := h
    refine z_getr O zf_X15_7_14 dX15_lineOf_13 hk hr ?_
    refine z_iload_n O dX15_lineOf_16 rfl 3 rfl ?_
    obtain ⟨hk, hi, h⟩ := h
    refine z_iald O dX15_lineOf_17 hk hi ?_
    refine z_iload_n O dX15_lineOf_18 rfl 1 rfl ?_
    refine z_icmp_ne O 24 dX15_lineOf_19 (by decide) (fun c => ?_) (fun c => ?_)
    · replace h := h.1 c
      obtain ⟨y2, ey2⟩ : ∃ y : Int32, y = x3 + 1 := ⟨_, rfl⟩
      replace h := h y2 ey2
      refine z_iinc (v := y2) (lv' := [(3, .int y2), (0, .ref a0), (1, .int x1), (2, .int x2)]) O dX15_lineOf_24 (q := 3) rfl (by rw [ey2]; rfl) (by decide) rfl ?_
      refine z_goto O 4 dX15_lineOf_27 (by decide) ?_
      exact z_to [1, 2, 3, 0] rfl h
    · replace h := h.2 c
      refine z_iload_n O dX15_lineOf_22 rfl 3 rfl ?_
      refine z_istore_n (lv' := [(2, .int x3), (0, .ref a0), (1, .int x1), (3, .int x3)]) O dX15_lineOf_23 rfl (by decide) rfl ?_
      obtain ⟨y3, ey3⟩ : ∃ y : Int32, y = x3 + 1 := ⟨_, rfl⟩
      replace h := h y3 ey3
      refine z_iinc (v := y3) (lv' := [(3, .int y3), (2, .int x3), (0, .ref a0), (1, .int x1)]) O dX15_lineOf_24 (q := 3) rfl (by rw [ey3]; rfl) (by decide) rfl ?_
      refine z_goto O 4 dX15_lineOf_27 (by decide) ?_
      exact z_to [2, 3, 1, 0] rfl h
set_option maxRecDepth 100000 in
set_option maxHeartbeats 4000000 in
theorem b_X15_line_0 {G : zG} {X : zX} (O : zOK G X cX15_line 2 RX15 (some .int) "line") (hR : X.R = rm_X15_line) {M : zM} {n k : Nat} {a0 : Nat} {x1 : Int32} (h : M.1 a0 = 15 ∧ ∀ M1 : zM, M1 = zi M a0 0 0 → M1.1 a0 = 15 ∧ ((M1.2.2.1 a0 4) = 6 → X.q M1 (some (.int (-1)))) ∧ (¬ (M1.2.2.1 a0 4) = 6 → zC G yX15_in cX15_in 3 (some .boolean) rm_X15_in M1 [.int x1, .int 0, .int 255] (fun M2 v => ∃ r3 : Int32, v = some (.int r3) ∧ (r3 = 0 → X.q M2 (some (.int (-1)))) ∧ (¬ r3 = 0 → M2.1 a0 = 15 ∧ zC G yX15_lineOf cX15_lineOf 4 (some .int) rm_X15_lineOf M2 [.ref a0, .int x1] (fun M4 v => ∃ r5 : Int32, v = some (.int r5) ∧ (r5 = (-1) → M4.1 a0 = 15 ∧ ∃ b6 : Nat, M4.2.2.2 a0 5 = some b6 ∧ M4.1 a0 = 15 ∧ M4.1 b6 = 100 ∧ vp_in ((M4.2.2.1 a0 4)) (M4.2.1 b6) ∧ ∀ M7 : zM, M7 = zi M4 b6 (((M4.2.2.1 a0 4)).toNatClampNeg) x1 → M7.1 a0 = 15 ∧ M7.1 a0 = 15 ∧ ∀ M8 : zM, M8 = zi M7 a0 4 ((M7.2.2.1 a0 4) + 1) → M8.1 a0 = 15 ∧ X.q M8 (some (.int ((M8.2.2.1 a0 4) - 1)))) ∧ (¬ r5 = (-1) → X.q M4 (some (.int (-1))))))))) : zW G X 2 M n k 0 [(0, .ref a0), (1, .int x1)] [] := by
  refine z_aload_n O dX15_line_0 rfl 0 rfl ?_
  refine z_iconst (v := 0) O dX15_line_1 rfl ?_
  obtain ⟨hk, h⟩ := h
  refine z_puti O zp_X15_93_14 dX15_line_2 hk ?_
  generalize eM1 : zi M a0 0 0 = M1
  replace h := h M1 eM1.symm
  refine z_aload_n O dX15_line_5 rfl 0 rfl ?_
  obtain ⟨hk, h⟩ := h
  refine z_geti O zf_X15_132_14 dX15_line_6 hk ?_
  refine z_bipush (v := 6) O dX15_line_9 rfl ?_
  refine z_icmp_eq O 34 dX15_line_11 (by decide) (fun c => ?_) (fun c => ?_)
  · replace h := h.1 c
    refine z_iconst (v := (-1)) O dX15_line_34 rfl ?_
    exact z_iret O dX15_line_35 h
  · replace h := h.2 c
    refine z_iload_n O dX15_line_14 rfl 1 rfl ?_
    refine z_iconst (v := 0) O dX15_line_15 rfl ?_
    refine z_sipush (v := 255) O dX15_line_16 rfl ?_
    refine z_callS0 (As := [.int x1, .int 0, .int 255]) O zc_X15_135 h rfl (zRm_of hR (by decide) (by decide)) (Nat.le_of_ble_eq_true rfl) dX15_line_19 rfl rfl rfl (fun M2 v h => ?_)
    obtain ⟨r3, rfl, h⟩ := h
    refine z_if_eq O 34 dX15_line_22 (by decide) (fun c => ?_) (fun c => ?_)
    · replace h := h.1 c
      refine z_iconst (v := (-1)) O dX15_line_34 rfl ?_
      exact z_iret O dX15_line_35 h
    · replace h := h.2 c
      refine z_aload_n O dX15_line_25 rfl 0 rfl ?_
      refine z_iload_n O dX15_line_26 rfl 1 rfl ?_
      obtain ⟨hk, h⟩ := h
      refine z_callV0 (As := [.int x1]) O zc_X15_355 h hk rfl (zRm_of hR (by decide) (by decide)) (Nat.le_of_ble_eq_true rfl) dX15_line_27 rfl rfl rfl (fun M4 v h => ?_)
      obtain ⟨r5, rfl, h⟩ := h
      refine z_iconst (v := (-1)) O dX15_line_30 rfl ?_
      refine z_icmp_eq O 36 dX15_line_31 (by decide) (fun c => ?_) (fun c => ?_)
      · replace h := h.1 c
        refine z_aload_n O dX15_line_36 rfl 0 rfl ?_
        obtain ⟨hk, b6, hr, h⟩ := h
        refine z_getr O zf_X15_7_14 dX15_line_37 hk hr ?_
        refine z_aload_n O dX15_line_40 rfl 0 rfl ?_
        obtain ⟨hk, h⟩ := h
        refine z_geti O zf_X15_132_14 dX15_line_41 hk ?_
        refine z_iload_n O dX15_line_44 rfl 1 rfl ?_
        obtain ⟨hk, hi, h⟩ := h
        refine z_iast O dX15_line_45 hk hi ?_
        generalize eM7 : zi M4 b6 (((M4.2.2.1 a0 4)).toNatClampNeg) x1 = M7
        replace h := h M7 eM7.symm
        refine z_aload_n O dX15_line_46 rfl 0 rfl ?_
        refine z_dup O dX15_line_47 rfl ?_
        obtain ⟨hk, h⟩ := h
        refine z_geti O zf_X15_132_14 dX15_line_48 hk ?_
        refine z_iconst (v := 1) O dX15_line_51 rfl ?_
        refine z_iadd O dX15_line_52 ?_
        obtain ⟨hk, h⟩ := h
        refine z_puti O zp_X15_132_14 dX15_line_53 hk ?_
        generalize eM8 : zi M7 a0 4 ((M7.2.2.1 a0 4) + 1) = M8
        replace h := h M8 eM8.symm
        refine z_aload_n O dX15_line_56 rfl 0 rfl ?_
        obtain ⟨hk, h⟩ := h
        refine z_geti O zf_X15_132_14 dX15_line_57 hk ?_
        refine z_iconst (v := 1) O dX15_line_60 rfl ?_
        refine z_isub O dX15_line_61 ?_
        exact z_iret O dX15_line_62 h
      · replace h := h.2 c
        refine z_iconst (v := (-1)) O dX15_line_34 rfl ?_
        exact z_iret O dX15_line_35 h
set_option maxRecDepth 100000 in
set_option maxHeartbeats 4000000 in
theorem b_X15_device_0 {G : zG} {X : zX} (O : zOK G X cX15_device 5 RX15 (some .int) "device") (hR : X.R = rm_X15_device) {M : zM} {n k : Nat} {a0 : Nat} {x1 : Int32} {x2 : Int32} (h : M.1 a0 = 15 ∧ ∀ M1 : zM, M1 = zi M a0 0 0 → M1.1 a0 = 15 ∧ ((M1.2.2.1 a0 7) = 24 → X.q M1 (some (.int (-1)))) ∧ (¬ (M1.2.2.1 a0 7) = 24 → M1.1 a0 = 15 ∧ zC G yX15_isLine cX15_isLine 2 (some .boolean) rm_X15_isLine M1 [.ref a0, .int x1] (fun M2 v => ∃ r3 : Int32, v = some (.int r3) ∧ (r3 = 0 → X.q M2 (some (.int (-1)))) ∧ (¬ r3 = 0 → zC G yX15_in cX15_in 3 (some .boolean) rm_X15_in M2 [.int x2, .int 1, .int 255] (fun M4 v => ∃ r5 : Int32, v = some (.int r5) ∧ (¬ r5 = 0 → M4.1 a0 = 15 ∧ ∃ b6 : Nat, M4.2.2.2 a0 5 = some b6 ∧ M4.1 b6 = 100 ∧ vp_in x1 (M4.2.1 b6) ∧ ∀ y7 : Int32, y7 = ((256 * (M4.2.2.1 b6 x1.toNatClampNeg)) + x2) → zW G X 5 M4 n k 51 [(0, .ref a0), (1, .int x1), (3, .int y7), (4, .int 0)] []) ∧ (r5 = 0 → X.q M4 (some (.int (-1))))))))) : zW G X 5 M n k 0 [(0, .ref a0), (1, .int x1), (2, .int x2)] [] := by
  refine z_aload_n O dX15_device_0 rfl 0 rfl ?_
  refine z_iconst (v := 0) O dX15_device_1 rfl ?_
  obtain ⟨hk, h⟩ := h
  refine z_puti O zp_X15_93_14 dX15_device_2 hk ?_
  generalize eM1 : zi M a0 0 0 = M1
  replace h := h M1 eM1.symm
  refine z_aload_n O dX15_device_5 rfl 0 rfl ?_
  obtain ⟨hk, h⟩ := h
  refine z_geti O zf_X15_139_14 dX15_device_6 hk ?_
  refine z_bipush (v := 24) O dX15_device_9 rfl ?_
  refine z_icmp_eq O 33 dX15_device_11 (by decide) (fun c => ?_) (fun c => ?_)
  · replace h := h.1 c
    refine z_iconst (v := (-1)) O dX15_device_33 rfl ?_
    exact z_iret O dX15_device_34 h
  · replace h := h.2 c
    refine z_aload_n O dX15_device_14 rfl 0 rfl ?_
    refine z_iload_n O dX15_device_15 rfl 1 rfl ?_
    obtain ⟨hk, h⟩ := h
    refine z_callV0 (As := [.int x1]) O zc_X15_399 h hk rfl (zRm_of hR (by decide) (by decide)) (Nat.le_of_ble_eq_true rfl) dX15_device_16 rfl rfl rfl (fun M2 v h => ?_)
    obtain ⟨r3, rfl, h⟩ := h
    refine z_if_eq O 33 dX15_device_19 (by decide) (fun c => ?_) (fun c => ?_)
    · replace h := h.1 c
      refine z_iconst (v := (-1)) O dX15_device_33 rfl ?_
      exact z_iret O dX15_device_34 h
    · replace h := h.2 c
      refine z_iload_n O dX15_device_22 rfl 2 rfl ?_
      refine z_iconst (v := 1) O dX15_device_23 rfl ?_
      refine z_sipush (v := 255) O dX15_device_24 rfl ?_
      refine z_callS0 (As := [.int x2, .int 1, .int 255]) O zc_X15_135 h rfl (zRm_of hR (by decide) (by decide)) (Nat.le_of_ble_eq_true rfl) dX15_device_27 rfl rfl rfl (fun M4 v h => ?_)
      obtain ⟨r5, rfl, h⟩ := h
      refine z_if_ne O 35 dX15_device_30 (by decide) (fun c => ?_) (fun c => ?_)
      · replace h := h.1 c
        refine z_sipush (v := 256) O dX15_device_35 rfl ?_
        refine z_aload_n O dX15_device_38 rfl 0 rfl ?_
        obtain ⟨hk, b6, hr, h⟩ := h
        refine z_getr O zf_X15_7_14 dX15_device_39 hk hr ?_
        refine z_iload_n O dX15_device_42 rfl 1 rfl ?_
        obtain ⟨hk, hi, h⟩ := h
        refine z_iald O dX15_device_43 hk hi ?_
        refine z_imul O dX15_device_44 ?_
        refine z_iload_n O dX15_device_45 rfl 2 rfl ?_
        refine z_iadd O dX15_device_46 ?_
        refine z_topi (fun y7 ey7 => ?_)
        replace h := h y7 ey7
        refine z_istore_n (lv' := [(3, .int y7), (0, .ref a0), (1, .int x1), (2, .int x2)]) O dX15_device_47 rfl (by decide) rfl ?_
        refine z_iconst (v := 0) O dX15_device_48 rfl ?_
        refine z_istore (lv' := [(4, .int 0), (3, .int y7), (0, .ref a0), (1, .int x1), (2, .int x2)]) O dX15_device_49 (by decide) rfl ?_
        exact z_to [2, 3, 1, 0] rfl h
      · replace h := h.2 c
        refine z_iconst (v := (-1)) O dX15_device_33 rfl ?_
        exact z_iret O dX15_device_34 h
set_option maxRecDepth 100000 in
set_option maxHeartbeats 4000000 in
theorem b_X15_device_51 {G : zG} {X : zX} (O : zOK G X cX15_device 5 RX15 (some .int) "device") (hR : X.R = rm_X15_device) {M : zM} {n k : Nat} {a0 : Nat} {x1 : Int32} {x3 : Int32} {x4 : Int32} (h : M.1 a0 = 15 ∧ ((M.2.2.1 a0 7) ≤ x4 → M.1 a0 = 15 ∧ ∃ b1 : Nat, M.2.2.2 a0 8 = some b1 ∧ M.1 a0 = 15 ∧ M.1 b1 = 110 ∧ vp_in ((M.2.2.1 a0 7)) (M.2.1 b1) ∧ ∃ b2 : Nat, M.2.2.2 b1 ((M.2.2.1 a0 7)).toNatClampNeg = some b2 ∧ M.1 b2 = 13 ∧ ∀ M3 : zM, M3 = zi M b2 0 x1 → M3.1 a0 = 15 ∧ ∃ b4 : Nat, M3.2.2.2 a0 8 = some b4 ∧ M3.1 a0 = 15 ∧ M3.1 b4 = 110 ∧ vp_in ((M3.2.2.1 a0 7)) (M3.2.1 b4) ∧ ∃ b5 : Nat, M3.2.2.2 b4 ((M3.2.2.1 a0 7)).toNatClampNeg = some b5 ∧ M3.1 b5 = 13 ∧ ∀ M6 : zM, M6 = zi M3 b5 1 x3 → M6.1 a0 = 15 ∧ M6.1 a0 = 15 ∧ ∀ M7 : zM, M7 = zi M6 a0 7 ((M6.2.2.1 a0 7) + 1) → M7.1 a0 = 15 ∧ X.q M7 (some (.int ((M7.2.2.1 a0 7) - 1)))) ∧ (¬ (M.2.2.1 a0 7) ≤ x4 → M.1 a0 = 15 ∧ ∃ b8 : Nat, M.2.2.2 a0 8 = some b8 ∧ M.1 b8 = 110 ∧ vp_in x4 (M.2.1 b8) ∧ ∃ b9 : Nat, M.2.2.2 b8 x4.toNatClampNeg = some b9 ∧ M.1 b9 = 13 ∧ (¬ (M.2.2.1 b9 1) = x3 → ∀ y10 : Int32, y10 = x4 + 1 → zW G X 5 M n k 51 [(0, .ref a0), (1, .int x1), (3, .int x3), (4, .int y10)] []) ∧ ((M.2.2.1 b9 1) = x3 → X.q M (some (.int (-1)))))) : zW G X 5 M n k 51 [(0, .ref a0), (1, .int x1), (3, .int x3), (4, .int x4)] [] := by
  refine z_iload O dX15_device_51 3 rfl ?_
  refine z_aload_n O dX15_device_53 rfl 0 rfl ?_
  obtain ⟨hk, h⟩ := h
  refine z_geti O zf_X15_139_14 dX15_device_54 hk ?_
  refine z_icmp_ge O 82 dX15_device_57 (by decide) (fun c => ?_) (fun c => ?_)
  · replace h := h.1 c
    refine z_aload_n O dX15_device_82 rfl 0 rfl ?_
    obtain ⟨hk, b1, hr, h⟩ := h
    refine z_getr O zf_X15_21_14 dX15_device_83 hk hr ?_
    refine z_aload_n O dX15_device_86 rfl 0 rfl ?_
    obtain ⟨hk, h⟩ := h
    refine z_geti O zf_X15_139_14 dX15_device_87 hk ?_
    obtain ⟨hk, hi, b2, hr, h⟩ := h
    refine z_ald (t := 8) O rfl dX15_device_90 hk hi hr ?_
    refine z_iload_n O dX15_device_91 rfl 1 rfl ?_
    obtain ⟨hk, h⟩ := h
    refine z_puti O zp_X15_271_12 dX15_device_92 hk ?_
    generalize eM3 : zi M b2 0 x1 = M3
    replace h := h M3 eM3.symm
    refine z_aload_n O dX15_device_95 rfl 0 rfl ?_
    obtain ⟨hk, b4, hr, h⟩ := h
    refine z_getr O zf_X15_21_14 dX15_device_96 hk hr ?_
    refine z_aload_n O dX15_device_99 rfl 0 rfl ?_
    obtain ⟨hk, h⟩ := h
    refine z_geti O zf_X15_139_14 dX15_device_100 hk ?_
    obtain ⟨hk, hi, b5, hr, h⟩ := h
    refine z_ald (t := 8) O rfl dX15_device_103 hk hi hr ?_
    refine z_iload_n O dX15_device_104 rfl 2 rfl ?_
    obtain ⟨hk, h⟩ := h
    refine z_puti O zp_X15_152_12 dX15_device_105 hk ?_
    generalize eM6 : zi M3 b5 1 x3 = M6
    replace h := h M6 eM6.symm
    refine z_aload_n O dX15_device_108 rfl 0 rfl ?_
    refine z_dup O dX15_device_109 rfl ?_
    obtain ⟨hk, h⟩ := h
    refine z_geti O zf_X15_139_14 dX15_device_110 hk ?_
    refine z_iconst (v := 1) O dX15_device_113 rfl ?_
    refine z_iadd O dX15_device_114 ?_
    obtain ⟨hk, h⟩ := h
    refine z_puti O zp_X15_139_14 dX15_device_115 hk ?_
    generalize eM7 : zi M6 a0 7 ((M6.2.2.1 a0 7) + 1) = M7
    replace h := h M7 eM7.symm
    refine z_aload_n O dX15_device_118 rfl 0 rfl ?_
    obtain ⟨hk, h⟩ := h
    refine z_geti O zf_X15_139_14 dX15_device_119 hk ?_
    refine z_iconst (v := 1) O dX15_device_122 rfl ?_
    refine z_isub O dX15_device_123 ?_
    exact z_iret O dX15_device_124 h
  · replace h := h.2 c
    refine z_aload_n O dX15_device_60 rfl 0 rfl ?_
    obtain ⟨hk, b8, hr, h⟩ := h
    refine z_getr O zf_X15_21_14 dX15_device_61 hk hr ?_
    refine z_iload O dX15_device_64 3 rfl ?_
    obtain ⟨hk, hi, b9, hr, h⟩ := h
    refine z_ald (t := 8) O rfl dX15_device_66 hk hi hr ?_
    obtain ⟨hk, h⟩ := h
    refine z_geti O zf_X15_152_12 dX15_device_67 hk ?_
    refine z_iload_n O dX15_device_70 rfl 2 rfl ?_
    refine z_icmp_ne O 76 dX15_device_71 (by decide) (fun c => ?_) (fun c => ?_)
    · replace h := h.1 c
      obtain ⟨y10, ey10⟩ : ∃ y : Int32, y = x4 + 1 := ⟨_, rfl⟩
      replace h := h y10 ey10
      refine z_iinc (v := y10) (lv' := [(4, .int y10), (0, .ref a0), (1, .int x1), (3, .int x3)]) O dX15_device_76 (q := 3) rfl (by rw [ey10]; rfl) (by decide) rfl ?_
      refine z_goto O 51 dX15_device_79 (by decide) ?_
      exact z_to [1, 2, 3, 0] rfl h
    · replace h := h.2 c
      refine z_iconst (v := (-1)) O dX15_device_74 rfl ?_
      exact z_iret O dX15_device_75 h
set_option maxRecDepth 100000 in
set_option maxHeartbeats 4000000 in
theorem b_X15_coupler_0 {G : zG} {X : zX} (O : zOK G X cX15_coupler 3 RX15 (some .int) "coupler") (hR : X.R = rm_X15_coupler) {M : zM} {n k : Nat} {a0 : Nat} {x1 : Int32} {x2 : Int32} (h : M.1 a0 = 15 ∧ ∀ M1 : zM, M1 = zi M a0 0 0 → M1.1 a0 = 15 ∧ ((M1.2.2.1 a0 9) = 5 → X.q M1 (some (.int (-1)))) ∧ (¬ (M1.2.2.1 a0 9) = 5 → M1.1 a0 = 15 ∧ zC G yX15_isLine cX15_isLine 2 (some .boolean) rm_X15_isLine M1 [.ref a0, .int x1] (fun M2 v => ∃ r3 : Int32, v = some (.int r3) ∧ (r3 = 0 → X.q M2 (some (.int (-1)))) ∧ (¬ r3 = 0 → M2.1 a0 = 15 ∧ zC G yX15_isLine cX15_isLine 2 (some .boolean) rm_X15_isLine M2 [.ref a0, .int x2] (fun M4 v => ∃ r5 : Int32, v = some (.int r5) ∧ (r5 = 0 → X.q M4 (some (.int (-1)))) ∧ (¬ r5 = 0 → M4.1 a0 = 15 ∧ zC G yX15_isJoined cX15_isJoined 9 (some .boolean) rm_X15_isJoined M4 [.ref a0, .int x1, .int x2, .int (-1)] (fun M6 v => ∃ r7 : Int32, v = some (.int r7) ∧ (r7 = 0 → M6.1 a0 = 15 ∧ ∃ b8 : Nat, M6.2.2.2 a0 10 = some b8 ∧ M6.1 a0 = 15 ∧ M6.1 b8 = 111 ∧ vp_in ((M6.2.2.1 a0 9)) (M6.2.1 b8) ∧ ∃ b9 : Nat, M6.2.2.2 b8 ((M6.2.2.1 a0 9)).toNatClampNeg = some b9 ∧ M6.1 b9 = 12 ∧ ∃ b10 : Nat, M6.2.2.2 b9 0 = some b10 ∧ M6.1 b10 = 100 ∧ vp_in (0 : Int32) (M6.2.1 b10) ∧ ∀ M11 : zM, M11 = zi M6 b10 ((0 : Int32).toNatClampNeg) x1 → M11.1 a0 = 15 ∧ ∃ b12 : Nat, M11.2.2.2 a0 10 = some b12 ∧ M11.1 a0 = 15 ∧ M11.1 b12 = 111 ∧ vp_in ((M11.2.2.1 a0 9)) (M11.2.1 b12) ∧ ∃ b13 : Nat, M11.2.2.2 b12 ((M11.2.2.1 a0 9)).toNatClampNeg = some b13 ∧ M11.1 b13 = 12 ∧ ∃ b14 : Nat, M11.2.2.2 b13 0 = some b14 ∧ M11.1 b14 = 100 ∧ vp_in (1 : Int32) (M11.2.1 b14) ∧ ∀ M15 : zM, M15 = zi M11 b14 ((1 : Int32).toNatClampNeg) x2 → M15.1 a0 = 15 ∧ M15.1 a0 = 15 ∧ ∀ M16 : zM, M16 = zi M15 a0 9 ((M15.2.2.1 a0 9) + 1) → M16.1 a0 = 15 ∧ X.q M16 (some (.int ((M16.2.2.1 a0 9) - 1)))) ∧ (¬ r7 = 0 → X.q M6 (some (.int (-1))))))))))) : zW G X 3 M n k 0 [(0, .ref a0), (1, .int x1), (2, .int x2)] [] := by
  refine z_aload_n O dX15_coupler_0 rfl 0 rfl ?_
  refine z_iconst (v := 0) O dX15_coupler_1 rfl ?_
  obtain ⟨hk, h⟩ := h
  refine z_puti O zp_X15_93_14 dX15_coupler_2 hk ?_
  generalize eM1 : zi M a0 0 0 = M1
  replace h := h M1 eM1.symm
  refine z_aload_n O dX15_coupler_5 rfl 0 rfl ?_
  obtain ⟨hk, h⟩ := h
  refine z_geti O zf_X15_142_14 dX15_coupler_6 hk ?_
  refine z_iconst (v := 5) O dX15_coupler_9 rfl ?_
  refine z_icmp_eq O 39 dX15_coupler_10 (by decide) (fun c => ?_) (fun c => ?_)
  · replace h := h.1 c
    refine z_iconst (v := (-1)) O dX15_coupler_39 rfl ?_
    exact z_iret O dX15_coupler_40 h
  · replace h := h.2 c
    refine z_aload_n O dX15_coupler_13 rfl 0 rfl ?_
    refine z_iload_n O dX15_coupler_14 rfl 1 rfl ?_
    obtain ⟨hk, h⟩ := h
    refine z_callV0 (As := [.int x1]) O zc_X15_399 h hk rfl (zRm_of hR (by decide) (by decide)) (Nat.le_of_ble_eq_true rfl) dX15_coupler_15 rfl rfl rfl (fun M2 v h => ?_)
    obtain ⟨r3, rfl, h⟩ := h
    refine z_if_eq O 39 dX15_coupler_18 (by decide) (fun c => ?_) (fun c => ?_)
    · replace h := h.1 c
      refine z_iconst (v := (-1)) O dX15_coupler_39 rfl ?_
      exact z_iret O dX15_coupler_40 h
    · replace h := h.2 c
      refine z_aload_n O dX15_coupler_21 rfl 0 rfl ?_
      refine z_iload_n O dX15_coupler_22 rfl 2 rfl ?_
      obtain ⟨hk, h⟩ := h
      refine z_callV0 (As := [.int x2]) O zc_X15_399 h hk rfl (zRm_of hR (by decide) (by decide)) (Nat.le_of_ble_eq_true rfl) dX15_coupler_23 rfl rfl rfl (fun M4 v h => ?_)
      obtain ⟨r5, rfl, h⟩ := h
      refine z_if_eq O 39 dX15_coupler_26 (by decide) (fun c => ?_) (fun c => ?_)
      · replace h := h.1 c
        refine z_iconst (v := (-1)) O dX15_coupler_39 rfl ?_
        exact z_iret O dX15_coupler_40 h
      · replace h := h.2 c
        refine z_aload_n O dX15_coupler_29 rfl 0 rfl ?_
        refine z_iload_n O dX15_coupler_30 rfl 1 rfl ?_
        refine z_iload_n O dX15_coupler_31 rfl 2 rfl ?_
        refine z_iconst (v := (-1)) O dX15_coupler_32 rfl ?_
        obtain ⟨hk, h⟩ := h
        refine z_callV0 (As := [.int x1, .int x2, .int (-1)]) O zc_X15_358 h hk rfl (zRm_of hR (by decide) (by decide)) (Nat.le_of_ble_eq_true rfl) dX15_coupler_33 rfl rfl rfl (fun M6 v h => ?_)
        obtain ⟨r7, rfl, h⟩ := h
        refine z_if_eq O 41 dX15_coupler_36 (by decide) (fun c => ?_) (fun c => ?_)
        · replace h := h.1 c
          refine z_aload_n O dX15_coupler_41 rfl 0 rfl ?_
          obtain ⟨hk, b8, hr, h⟩ := h
          refine z_getr O zf_X15_27_14 dX15_coupler_42 hk hr ?_
          refine z_aload_n O dX15_coupler_45 rfl 0 rfl ?_
          obtain ⟨hk, h⟩ := h
          refine z_geti O zf_X15_142_14 dX15_coupler_46 hk ?_
          obtain ⟨hk, hi, b9, hr, h⟩ := h
          refine z_ald (t := 9) O rfl dX15_coupler_49 hk hi hr ?_
          obtain ⟨hk, b10, hr, h⟩ := h
          refine z_getr O zf_X15_278_11 dX15_coupler_50 hk hr ?_
          refine z_iconst (v := 0) O dX15_coupler_53 rfl ?_
          refine z_iload_n O dX15_coupler_54 rfl 1 rfl ?_
          obtain ⟨hk, hi, h⟩ := h
          refine z_iast O dX15_coupler_55 hk hi ?_
          generalize eM11 : zi M6 b10 ((0 : Int32).toNatClampNeg) x1 = M11
          replace h := h M11 eM11.symm
          refine z_aload_n O dX15_coupler_56 rfl 0 rfl ?_
          obtain ⟨hk, b12, hr, h⟩ := h
          refine z_getr O zf_X15_27_14 dX15_coupler_57 hk hr ?_
          refine z_aload_n O dX15_coupler_60 rfl 0 rfl ?_
          obtain ⟨hk, h⟩ := h
          refine z_geti O zf_X15_142_14 dX15_coupler_61 hk ?_
          obtain ⟨hk, hi, b13, hr, h⟩ := h
          refine z_ald (t := 9) O rfl dX15_coupler_64 hk hi hr ?_
          obtain ⟨hk, b14, hr, h⟩ := h
          refine z_getr O zf_X15_278_11 dX15_coupler_65 hk hr ?_
          refine z_iconst (v := 1) O dX15_coupler_68 rfl ?_
          refine z_iload_n O dX15_coupler_69 rfl 2 rfl ?_
          obtain ⟨hk, hi, h⟩ := h
          refine z_iast O dX15_coupler_70 hk hi ?_
          generalize eM15 : zi M11 b14 ((1 : Int32).toNatClampNeg) x2 = M15
          replace h := h M15 eM15.symm
          refine z_aload_n O dX15_coupler_71 rfl 0 rfl ?_
          refine z_dup O dX15_coupler_72 rfl ?_
          obtain ⟨hk, h⟩ := h
          refine z_geti O zf_X15_142_14 dX15_coupler_73 hk ?_
          refine z_iconst (v := 1) O dX15_coupler_76 rfl ?_
          refine z_iadd O dX15_coupler_77 ?_
          obtain ⟨hk, h⟩ := h
          refine z_puti O zp_X15_142_14 dX15_coupler_78 hk ?_
          generalize eM16 : zi M15 a0 9 ((M15.2.2.1 a0 9) + 1) = M16
          replace h := h M16 eM16.symm
          refine z_aload_n O dX15_coupler_81 rfl 0 rfl ?_
          obtain ⟨hk, h⟩ := h
          refine z_geti O zf_X15_142_14 dX15_coupler_82 hk ?_
          refine z_iconst (v := 1) O dX15_coupler_85 rfl ?_
          refine z_isub O dX15_coupler_86 ?_
          exact z_iret O dX15_coupler_87 h
        · replace h := h.2 c
          refine z_iconst (v := (-1)) O dX15_coupler_39 rfl ?_
          exact z_iret O dX15_coupler_40 h
set_option maxRecDepth 100000 in
set_option maxHeartbeats 4000000 in
theorem b_X15_mode_0 {G : zG} {X : zX} (O : zOK G X cX15_mode 3 RX15 (some .boolean) "mode") (hR : X.R = rm_X15_mode) {M : zM} {n k : Nat} {a0 : Nat} {x1 : Int32} {x2 : Int32} (h : M.1 a0 = 15 ∧ ∀ M1 : zM, M1 = zi M a0 0 0 → M1.1 a0 = 15 ∧ zC G yX15_isCoupler cX15_isCoupler 2 (some .boolean) rm_X15_isCoupler M1 [.ref a0, .int x1] (fun M2 v => ∃ r3 : Int32, v = some (.int r3) ∧ (r3 = 0 → X.q M2 (some (.int 0))) ∧ (¬ r3 = 0 → zC G yX15_in cX15_in 3 (some .boolean) rm_X15_in M2 [.int x2, .int 0, .int 2] (fun M4 v => ∃ r5 : Int32, v = some (.int r5) ∧ (¬ r5 = 0 → M4.1 a0 = 15 ∧ ∃ b6 : Nat, M4.2.2.2 a0 10 = some b6 ∧ M4.1 b6 = 111 ∧ vp_in x1 (M4.2.1 b6) ∧ ∃ b7 : Nat, M4.2.2.2 b6 x1.toNatClampNeg = some b7 ∧ M4.1 b7 = 12 ∧ ∀ M8 : zM, M8 = zi M4 b7 1 x2 → X.q M8 (some (.int 1))) ∧ (r5 = 0 → X.q M4 (some (.int 0))))))) : zW G X 3 M n k 0 [(0, .ref a0), (1, .int x1), (2, .int x2)] [] := by
  refine z_aload_n O dX15_mode_0 rfl 0 rfl ?_
  refine z_iconst (v := 0) O dX15_mode_1 rfl ?_
  obtain ⟨hk, h⟩ := h
  refine z_puti O zp_X15_93_14 dX15_mode_2 hk ?_
  generalize eM1 : zi M a0 0 0 = M1
  replace h := h M1 eM1.symm
  refine z_aload_n O dX15_mode_5 rfl 0 rfl ?_
  refine z_iload_n O dX15_mode_6 rfl 1 rfl ?_
  obtain ⟨hk, h⟩ := h
  refine z_callV0 (As := [.int x1]) O zc_X15_402 h hk rfl (zRm_of hR (by decide) (by decide)) (Nat.le_of_ble_eq_true rfl) dX15_mode_7 rfl rfl rfl (fun M2 v h => ?_)
  obtain ⟨r3, rfl, h⟩ := h
  refine z_if_eq O 22 dX15_mode_10 (by decide) (fun c => ?_) (fun c => ?_)
  · replace h := h.1 c
    refine z_iconst (v := 0) O dX15_mode_22 rfl ?_
    exact z_zret O dX15_mode_23 (by decide) h
  · replace h := h.2 c
    refine z_iload_n O dX15_mode_13 rfl 2 rfl ?_
    refine z_iconst (v := 0) O dX15_mode_14 rfl ?_
    refine z_iconst (v := 2) O dX15_mode_15 rfl ?_
    refine z_callS0 (As := [.int x2, .int 0, .int 2]) O zc_X15_135 h rfl (zRm_of hR (by decide) (by decide)) (Nat.le_of_ble_eq_true rfl) dX15_mode_16 rfl rfl rfl (fun M4 v h => ?_)
    obtain ⟨r5, rfl, h⟩ := h
    refine z_if_ne O 24 dX15_mode_19 (by decide) (fun c => ?_) (fun c => ?_)
    · replace h := h.1 c
      refine z_aload_n O dX15_mode_24 rfl 0 rfl ?_
      obtain ⟨hk, b6, hr, h⟩ := h
      refine z_getr O zf_X15_27_14 dX15_mode_25 hk hr ?_
      refine z_iload_n O dX15_mode_28 rfl 1 rfl ?_
      obtain ⟨hk, hi, b7, hr, h⟩ := h
      refine z_ald (t := 9) O rfl dX15_mode_29 hk hi hr ?_
      refine z_iload_n O dX15_mode_30 rfl 2 rfl ?_
      obtain ⟨hk, h⟩ := h
      refine z_puti O zp_X15_352_11 dX15_mode_31 hk ?_
      generalize eM8 : zi M4 b7 1 x2 = M8
      replace h := h M8 eM8.symm
      refine z_iconst (v := 1) O dX15_mode_34 rfl ?_
      exact z_zret O dX15_mode_35 (by decide) h
    · replace h := h.2 c
      refine z_iconst (v := 0) O dX15_mode_22 rfl ?_
      exact z_zret O dX15_mode_23 (by decide) h
set_option maxRecDepth 100000 in
set_option maxHeartbeats 4000000 in
theorem b_X15_filter_0 {G : zG} {X : zX} (O : zOK G X cX15_filter 6 RX15 (some .boolean) "filter") (hR : X.R = rm_X15_filter) {M : zM} {n k : Nat} {a0 : Nat} {x1 : Int32} {x2 : Int32} {x3 : Int32} (h : M.1 a0 = 15 ∧ ∀ M1 : zM, M1 = zi M a0 0 0 → M1.1 a0 = 15 ∧ zC G yX15_isCoupler cX15_isCoupler 2 (some .boolean) rm_X15_isCoupler M1 [.ref a0, .int x1] (fun M2 v => ∃ r3 : Int32, v = some (.int r3) ∧ (r3 = 0 → X.q M2 (some (.int 0))) ∧ (¬ r3 = 0 → zC G yX15_in cX15_in 3 (some .boolean) rm_X15_in M2 [.int x2, .int 1, .int 65535] (fun M4 v => ∃ r5 : Int32, v = some (.int r5) ∧ (¬ r5 = 0 → M4.1 a0 = 15 ∧ ∃ b6 : Nat, M4.2.2.2 a0 10 = some b6 ∧ M4.1 b6 = 111 ∧ vp_in x1 (M4.2.1 b6) ∧ ∃ b7 : Nat, M4.2.2.2 b6 x1.toNatClampNeg = some b7 ∧ zW G X 6 M4 n k 37 [(2, .int x2), (3, .int x3), (4, .ref b7), (5, .int 0)] []) ∧ (r5 = 0 → X.q M4 (some (.int 0))))))) : zW G X 6 M n k 0 [(0, .ref a0), (1, .int x1), (2, .int x2), (3, .int x3)] [] := by
  refine z_aload_n O dX15_filter_0 rfl 0 rfl ?_
  refine z_iconst (v := 0) O dX15_filter_1 rfl ?_
  obtain ⟨hk, h⟩ := h
  refine z_puti O zp_X15_93_14 dX15_filter_2 hk ?_
  generalize eM1 : zi M a0 0 0 = M1
  replace h := h M1 eM1.symm
  refine z_aload_n O dX15_filter_5 rfl 0 rfl ?_
  refine z_iload_n O dX15_filter_6 rfl 1 rfl ?_
  obtain ⟨hk, h⟩ := h
  refine z_callV0 (As := [.int x1]) O zc_X15_402 h hk rfl (zRm_of hR (by decide) (by decide)) (Nat.le_of_ble_eq_true rfl) dX15_filter_7 rfl rfl rfl (fun M2 v h => ?_)
  obtain ⟨r3, rfl, h⟩ := h
  refine z_if_eq O 24 dX15_filter_10 (by decide) (fun c => ?_) (fun c => ?_)
  · replace h := h.1 c
    refine z_iconst (v := 0) O dX15_filter_24 rfl ?_
    exact z_zret O dX15_filter_25 (by decide) h
  · replace h := h.2 c
    refine z_iload_n O dX15_filter_13 rfl 2 rfl ?_
    refine z_iconst (v := 1) O dX15_filter_14 rfl ?_
    refine z_ldc_w O dX15_filter_15 zk_X15_405 ?_
    refine z_callS0 (As := [.int x2, .int 1, .int 65535]) O zc_X15_135 h rfl (zRm_of hR (by decide) (by decide)) (Nat.le_of_ble_eq_true rfl) dX15_filter_18 rfl rfl rfl (fun M4 v h => ?_)
    obtain ⟨r5, rfl, h⟩ := h
    refine z_if_ne O 26 dX15_filter_21 (by decide) (fun c => ?_) (fun c => ?_)
    · replace h := h.1 c
      refine z_aload_n O dX15_filter_26 rfl 0 rfl ?_
      obtain ⟨hk, b6, hr, h⟩ := h
      refine z_getr O zf_X15_27_14 dX15_filter_27 hk hr ?_
      refine z_iload_n O dX15_filter_30 rfl 1 rfl ?_
      obtain ⟨hk, hi, b7, hr, h⟩ := h
      refine z_ald (t := 9) O rfl dX15_filter_31 hk hi hr ?_
      refine z_astore (lv' := [(4, .ref b7), (0, .ref a0), (1, .int x1), (2, .int x2), (3, .int x3)]) O dX15_filter_32 (by decide) rfl ?_
      refine z_iconst (v := 0) O dX15_filter_34 rfl ?_
      refine z_istore (lv' := [(5, .int 0), (4, .ref b7), (0, .ref a0), (1, .int x1), (2, .int x2), (3, .int x3)]) O dX15_filter_35 (by decide) rfl ?_
      exact z_to [4, 5, 1, 0] rfl h
    · replace h := h.2 c
      refine z_iconst (v := 0) O dX15_filter_24 rfl ?_
      exact z_zret O dX15_filter_25 (by decide) h
set_option maxRecDepth 100000 in
set_option maxHeartbeats 4000000 in
theorem b_X15_filter_37 {G : zG} {X : zX} (O : zOK G X cX15_filter 6 RX15 (some .boolean) "filter") (hR : X.R = rm_X15_filter) {M : zM} {n k : Nat} {x2 : Int32} {x3 : Int32} {a4 : Nat} {x5 : Int32} (h : M.1 a4 = 12 ∧ ((M.2.2.1 a4 3) ≤ x5 → zW G X 6 M n k 65 [(2, .int x2), (3, .int x3), (4, .ref a4), (5, .int x5)] []) ∧ (¬ (M.2.2.1 a4 3) ≤ x5 → M.1 a4 = 12 ∧ ∃ b1 : Nat, M.2.2.2 a4 2 = some b1 ∧ M.1 b1 = 100 ∧ vp_in x5 (M.2.1 b1) ∧ ((M.2.2.1 b1 x5.toNatClampNeg) = x2 → zW G X 6 M n k 65 [(2, .int x2), (3, .int x3), (4, .ref a4), (5, .int x5)] []) ∧ (¬ (M.2.2.1 b1 x5.toNatClampNeg) = x2 → ∀ y2 : Int32, y2 = x5 + 1 → zW G X 6 M n k 37 [(2, .int x2), (3, .int x3), (4, .ref a4), (5, .int y2)] []))) : zW G X 6 M n k 37 [(2, .int x2), (3, .int x3), (4, .ref a4), (5, .int x5)] [] := by
  refine z_iload O dX15_filter_37 3 rfl ?_
  refine z_aload O dX15_filter_39 2 rfl ?_
  obtain ⟨hk, h⟩ := h
  refine z_geti O zf_X15_346_11 dX15_filter_41 hk ?_
  refine z_icmp_ge O 65 dX15_filter_44 (by decide) (fun c => ?_) (fun c => ?_)
  · replace h := h.1 c
    exact h
  · replace h := h.2 c
    refine z_aload O dX15_filter_47 2 rfl ?_
    obtain ⟨hk, b1, hr, h⟩ := h
    refine z_getr O zf_X15_349_11 dX15_filter_49 hk hr ?_
    refine z_iload O dX15_filter_52 3 rfl ?_
    obtain ⟨hk, hi, h⟩ := h
    refine z_iald O dX15_filter_54 hk hi ?_
    refine z_iload_n O dX15_filter_55 rfl 0 rfl ?_
    refine z_icmp_eq O 65 dX15_filter_56 (by decide) (fun c => ?_) (fun c => ?_)
    · replace h := h.1 c
      exact h
    · replace h := h.2 c
      obtain ⟨y2, ey2⟩ : ∃ y : Int32, y = x5 + 1 := ⟨_, rfl⟩
      replace h := h y2 ey2
      refine z_iinc (v := y2) (lv' := [(5, .int y2), (2, .int x2), (3, .int x3), (4, .ref a4)]) O dX15_filter_59 (q := 3) rfl (by rw [ey2]; rfl) (by decide) rfl ?_
      refine z_goto O 37 dX15_filter_62 (by decide) ?_
      exact z_to [1, 2, 3, 0] rfl h
set_option maxRecDepth 100000 in
set_option maxHeartbeats 4000000 in
theorem b_X15_filter_65 {G : zG} {X : zX} (O : zOK G X cX15_filter 6 RX15 (some .boolean) "filter") (hR : X.R = rm_X15_filter) {M : zM} {n k : Nat} {x2 : Int32} {x3 : Int32} {a4 : Nat} {x5 : Int32} (h : M.1 a4 = 12 ∧ ((M.2.2.1 a4 3) ≤ x5 → (¬ x3 = 0 → M.1 a4 = 12 ∧ (¬ (M.2.2.1 a4 3) = 64 → M.1 a4 = 12 ∧ ∃ b1 : Nat, M.2.2.2 a4 2 = some b1 ∧ M.1 a4 = 12 ∧ M.1 b1 = 100 ∧ vp_in ((M.2.2.1 a4 3)) (M.2.1 b1) ∧ ∀ M2 : zM, M2 = zi M b1 (((M.2.2.1 a4 3)).toNatClampNeg) x2 → M2.1 a4 = 12 ∧ M2.1 a4 = 12 ∧ ∀ M3 : zM, M3 = zi M2 a4 3 ((M2.2.2.1 a4 3) + 1) → X.q M3 (some (.int 1))) ∧ ((M.2.2.1 a4 3) = 64 → X.q M (some (.int 0)))) ∧ (x3 = 0 → X.q M (some (.int 1)))) ∧ (¬ (M.2.2.1 a4 3) ≤ x5 → (¬ x3 = 0 → X.q M (some (.int 1))) ∧ (x3 = 0 → M.1 a4 = 12 ∧ M.1 a4 = 12 ∧ ∀ M4 : zM, M4 = zi M a4 3 ((M.2.2.1 a4 3) - 1) → M4.1 a4 = 12 ∧ ∃ b5 : Nat, M4.2.2.2 a4 2 = some b5 ∧ M4.1 a4 = 12 ∧ ∃ b6 : Nat, M4.2.2.2 a4 2 = some b6 ∧ M4.1 a4 = 12 ∧ M4.1 b6 = 100 ∧ vp_in ((M4.2.2.1 a4 3)) (M4.2.1 b6) ∧ M4.1 b5 = 100 ∧ vp_in x5 (M4.2.1 b5) ∧ ∀ M7 : zM, M7 = zi M4 b5 (x5.toNatClampNeg) (M4.2.2.1 b6 ((M4.2.2.1 a4 3)).toNatClampNeg) → X.q M7 (some (.int 1))))) : zW G X 6 M n k 65 [(2, .int x2), (3, .int x3), (4, .ref a4), (5, .int x5)] [] := by
  refine z_iload O dX15_filter_65 3 rfl ?_
  refine z_aload O dX15_filter_67 2 rfl ?_
  obtain ⟨hk, h⟩ := h
  refine z_geti O zf_X15_346_11 dX15_filter_69 hk ?_
  refine z_icmp_ge O 111 dX15_filter_72 (by decide) (fun c => ?_) (fun c => ?_)
  · replace h := h.1 c
    refine z_iload_n O dX15_filter_111 rfl 1 rfl ?_
    refine z_if_ne O 117 dX15_filter_112 (by decide) (fun c => ?_) (fun c => ?_)
    · replace h := h.1 c
      refine z_aload O dX15_filter_117 2 rfl ?_
      obtain ⟨hk, h⟩ := h
      refine z_geti O zf_X15_346_11 dX15_filter_119 hk ?_
      refine z_bipush (v := 64) O dX15_filter_122 rfl ?_
      refine z_icmp_ne O 129 dX15_filter_124 (by decide) (fun c => ?_) (fun c => ?_)
      · replace h := h.1 c
        refine z_aload O dX15_filter_129 2 rfl ?_
        obtain ⟨hk, b1, hr, h⟩ := h
        refine z_getr O zf_X15_349_11 dX15_filter_131 hk hr ?_
        refine z_aload O dX15_filter_134 2 rfl ?_
        obtain ⟨hk, h⟩ := h
        refine z_geti O zf_X15_346_11 dX15_filter_136 hk ?_
        refine z_iload_n O dX15_filter_139 rfl 0 rfl ?_
        obtain ⟨hk, hi, h⟩ := h
        refine z_iast O dX15_filter_140 hk hi ?_
        generalize eM2 : zi M b1 (((M.2.2.1 a4 3)).toNatClampNeg) x2 = M2
        replace h := h M2 eM2.symm
        refine z_aload O dX15_filter_141 2 rfl ?_
        refine z_dup O dX15_filter_143 rfl ?_
        obtain ⟨hk, h⟩ := h
        refine z_geti O zf_X15_346_11 dX15_filter_144 hk ?_
        refine z_iconst (v := 1) O dX15_filter_147 rfl ?_
        refine z_iadd O dX15_filter_148 ?_
        obtain ⟨hk, h⟩ := h
        refine z_puti O zp_X15_346_11 dX15_filter_149 hk ?_
        generalize eM3 : zi M2 a4 3 ((M2.2.2.1 a4 3) + 1) = M3
        replace h := h M3 eM3.symm
        refine z_iconst (v := 1) O dX15_filter_152 rfl ?_
        exact z_zret O dX15_filter_153 (by decide) h
      · replace h := h.2 c
        refine z_iconst (v := 0) O dX15_filter_127 rfl ?_
        exact z_zret O dX15_filter_128 (by decide) h
    · replace h := h.2 c
      refine z_iconst (v := 1) O dX15_filter_115 rfl ?_
      exact z_zret O dX15_filter_116 (by decide) h
  · replace h := h.2 c
    refine z_iload_n O dX15_filter_75 rfl 1 rfl ?_
    refine z_if_ne O 109 dX15_filter_76 (by decide) (fun c => ?_) (fun c => ?_)
    · replace h := h.1 c
      refine z_iconst (v := 1) O dX15_filter_109 rfl ?_
      exact z_zret O dX15_filter_110 (by decide) h
    · replace h := h.2 c
      refine z_aload O dX15_filter_79 2 rfl ?_
      refine z_dup O dX15_filter_81 rfl ?_
      obtain ⟨hk, h⟩ := h
      refine z_geti O zf_X15_346_11 dX15_filter_82 hk ?_
      refine z_iconst (v := 1) O dX15_filter_85 rfl ?_
      refine z_isub O dX15_filter_86 ?_
      obtain ⟨hk, h⟩ := h
      refine z_puti O zp_X15_346_11 dX15_filter_87 hk ?_
      generalize eM4 : zi M a4 3 ((M.2.2.1 a4 3) - 1) = M4
      replace h := h M4 eM4.symm
      refine z_aload O dX15_filter_90 2 rfl ?_
      obtain ⟨hk, b5, hr, h⟩ := h
      refine z_getr O zf_X15_349_11 dX15_filter_92 hk hr ?_
      refine z_iload O dX15_filter_95 3 rfl ?_
      refine z_aload O dX15_filter_97 2 rfl ?_
      obtain ⟨hk, b6, hr, h⟩ := h
      refine z_getr O zf_X15_349_11 dX15_filter_99 hk hr ?_
      refine z_aload O dX15_filter_102 2 rfl ?_
      obtain ⟨hk, h⟩ := h
      refine z_geti O zf_X15_346_11 dX15_filter_104 hk ?_
      obtain ⟨hk, hi, h⟩ := h
      refine z_iald O dX15_filter_107 hk hi ?_
      obtain ⟨hk, hi, h⟩ := h
      refine z_iast O dX15_filter_108 hk hi ?_
      generalize eM7 : zi M4 b5 (x5.toNatClampNeg) (M4.2.2.1 b6 ((M4.2.2.1 a4 3)).toNatClampNeg) = M7
      replace h := h M7 eM7.symm
      refine z_iconst (v := 1) O dX15_filter_109 rfl ?_
      exact z_zret O dX15_filter_110 (by decide) h
set_option maxRecDepth 100000 in
set_option maxHeartbeats 4000000 in
theorem b_X15_object_0 {G : zG} {X : zX} (O : zOK G X cX15_object 6 RX15 (some .int) "object") (hR : X.R = rm_X15_object) {M : zM} {n k : Nat} {a0 : Nat} {x1 : Int32} {x2 : Int32} {x3 : Int32} {x4 : Int32} (h : M.1 a0 = 15 ∧ ∀ M1 : zM, M1 = zi M a0 0 0 → M1.1 a0 = 15 ∧ zC G yX15_isDevice cX15_isDevice 2 (some .boolean) rm_X15_isDevice M1 [.ref a0, .int x1] (fun M2 v => ∃ r3 : Int32, v = some (.int r3) ∧ (r3 = 0 → X.q M2 (some (.int (-1)))) ∧ (¬ r3 = 0 → zC G yX15_in cX15_in 3 (some .boolean) rm_X15_in M2 [.int x2, .int 0, .int 7] (fun M4 v => ∃ r5 : Int32, v = some (.int r5) ∧ (r5 = 0 → X.q M4 (some (.int (-1)))) ∧ (¬ r5 = 0 → zC G yX15_in cX15_in 3 (some .boolean) rm_X15_in M4 [.int x3, .int 0, .int 31] (fun M6 v => ∃ r7 : Int32, v = some (.int r7) ∧ (r7 = 0 → X.q M6 (some (.int (-1)))) ∧ (¬ r7 = 0 → zC G yX15_in cX15_in 3 (some .boolean) rm_X15_in M6 [.int x4, .int 0, .int 3] (fun M8 v => ∃ r9 : Int32, v = some (.int r9) ∧ (r9 = 0 → X.q M8 (some (.int (-1)))) ∧ (¬ r9 = 0 → M8.1 a0 = 15 ∧ ∃ b10 : Nat, M8.2.2.2 a0 8 = some b10 ∧ M8.1 b10 = 110 ∧ vp_in x1 (M8.2.1 b10) ∧ ∃ b11 : Nat, M8.2.2.2 b10 x1.toNatClampNeg = some b11 ∧ M8.1 b11 = 13 ∧ (¬ (M8.2.2.1 b11 6) = 12 → M8.1 a0 = 15 ∧ ∃ b12 : Nat, M8.2.2.2 a0 8 = some b12 ∧ M8.1 b12 = 110 ∧ vp_in x1 (M8.2.1 b12) ∧ ∃ b13 : Nat, M8.2.2.2 b12 x1.toNatClampNeg = some b13 ∧ M8.1 b13 = 13 ∧ ∃ b14 : Nat, M8.2.2.2 b13 7 = some b14 ∧ M8.1 b13 = 13 ∧ False) ∧ ((M8.2.2.1 b11 6) = 12 → X.q M8 (some (.int (-1))))))))))))) : zW G X 6 M n k 0 [(0, .ref a0), (1, .int x1), (2, .int x2), (3, .int x3), (4, .int x4)] [] := by
  refine z_aload_n O dX15_object_0 rfl 0 rfl ?_
  refine z_iconst (v := 0) O dX15_object_1 rfl ?_
  obtain ⟨hk, h⟩ := h
  refine z_puti O zp_X15_93_14 dX15_object_2 hk ?_
  generalize eM1 : zi M a0 0 0 = M1
  replace h := h M1 eM1.symm
  refine z_aload_n O dX15_object_5 rfl 0 rfl ?_
  refine z_iload_n O dX15_object_6 rfl 1 rfl ?_
  obtain ⟨hk, h⟩ := h
  refine z_callV0 (As := [.int x1]) O zc_X15_145 h hk rfl (zRm_of hR (by decide) (by decide)) (Nat.le_of_ble_eq_true rfl) dX15_object_7 rfl rfl rfl (fun M2 v h => ?_)
  obtain ⟨r3, rfl, h⟩ := h
  refine z_if_eq O 57 dX15_object_10 (by decide) (fun c => ?_) (fun c => ?_)
  · replace h := h.1 c
    refine z_iconst (v := (-1)) O dX15_object_57 rfl ?_
    exact z_iret O dX15_object_58 h
  · replace h := h.2 c
    refine z_iload_n O dX15_object_13 rfl 2 rfl ?_
    refine z_iconst (v := 0) O dX15_object_14 rfl ?_
    refine z_bipush (v := 7) O dX15_object_15 rfl ?_
    refine z_callS0 (As := [.int x2, .int 0, .int 7]) O zc_X15_135 h rfl (zRm_of hR (by decide) (by decide)) (Nat.le_of_ble_eq_true rfl) dX15_object_17 rfl rfl rfl (fun M4 v h => ?_)
    obtain ⟨r5, rfl, h⟩ := h
    refine z_if_eq O 57 dX15_object_20 (by decide) (fun c => ?_) (fun c => ?_)
    · replace h := h.1 c
      refine z_iconst (v := (-1)) O dX15_object_57 rfl ?_
      exact z_iret O dX15_object_58 h
    · replace h := h.2 c
      refine z_iload_n O dX15_object_23 rfl 3 rfl ?_
      refine z_iconst (v := 0) O dX15_object_24 rfl ?_
      refine z_bipush (v := 31) O dX15_object_25 rfl ?_
      refine z_callS0 (As := [.int x3, .int 0, .int 31]) O zc_X15_135 h rfl (zRm_of hR (by decide) (by decide)) (Nat.le_of_ble_eq_true rfl) dX15_object_27 rfl rfl rfl (fun M6 v h => ?_)
      obtain ⟨r7, rfl, h⟩ := h
      refine z_if_eq O 57 dX15_object_30 (by decide) (fun c => ?_) (fun c => ?_)
      · replace h := h.1 c
        refine z_iconst (v := (-1)) O dX15_object_57 rfl ?_
        exact z_iret O dX15_object_58 h
      · replace h := h.2 c
        refine z_iload O dX15_object_33 4 rfl ?_
        refine z_iconst (v := 0) O dX15_object_35 rfl ?_
        refine z_iconst (v := 3) O dX15_object_36 rfl ?_
        refine z_callS0 (As := [.int x4, .int 0, .int 3]) O zc_X15_135 h rfl (zRm_of hR (by decide) (by decide)) (Nat.le_of_ble_eq_true rfl) dX15_object_37 rfl rfl rfl (fun M8 v h => ?_)
        obtain ⟨r9, rfl, h⟩ := h
        refine z_if_eq O 57 dX15_object_40 (by decide) (fun c => ?_) (fun c => ?_)
        · replace h := h.1 c
          refine z_iconst (v := (-1)) O dX15_object_57 rfl ?_
          exact z_iret O dX15_object_58 h
        · replace h := h.2 c
          refine z_aload_n O dX15_object_43 rfl 0 rfl ?_
          obtain ⟨hk, b10, hr, h⟩ := h
          refine z_getr O zf_X15_21_14 dX15_object_44 hk hr ?_
          refine z_iload_n O dX15_object_47 rfl 1 rfl ?_
          obtain ⟨hk, hi, b11, hr, h⟩ := h
          refine z_ald (t := 8) O rfl dX15_object_48 hk hi hr ?_
          obtain ⟨hk, h⟩ := h
          refine z_geti O zf_X15_149_12 dX15_object_49 hk ?_
          refine z_bipush (v := 12) O dX15_object_52 rfl ?_
          refine z_icmp_ne O 59 dX15_object_54 (by decide) (fun c => ?_) (fun c => ?_)
          · replace h := h.1 c
            refine z_aload_n O dX15_object_59 rfl 0 rfl ?_
            obtain ⟨hk, b12, hr, h⟩ := h
            refine z_getr O zf_X15_21_14 dX15_object_60 hk hr ?_
            refine z_iload_n O dX15_object_63 rfl 1 rfl ?_
            obtain ⟨hk, hi, b13, hr, h⟩ := h
            refine z_ald (t := 8) O rfl dX15_object_64 hk hi hr ?_
            refine z_astore (lv' := [(5, .ref b13), (0, .ref a0), (1, .int x1), (2, .int x2), (3, .int x3), (4, .int x4)]) O dX15_object_65 (by decide) rfl ?_
            refine z_aload O dX15_object_67 0 rfl ?_
            obtain ⟨hk, b14, hr, h⟩ := h
            refine z_getr O zf_X15_167_12 dX15_object_69 hk hr ?_
            refine z_aload O dX15_object_72 0 rfl ?_
            obtain ⟨hk, h⟩ := h
            refine z_geti O zf_X15_149_12 dX15_object_74 hk ?_
            exact False.elim h
          · replace h := h.2 c
            refine z_iconst (v := (-1)) O dX15_object_57 rfl ?_
            exact z_iret O dX15_object_58 h
set_option maxRecDepth 100000 in
set_option maxHeartbeats 4000000 in
theorem b_X15_flags_0 {G : zG} {X : zX} (O : zOK G X cX15_flags 4 RX15 (some .boolean) "flags") (hR : X.R = rm_X15_flags) {M : zM} {n k : Nat} {a0 : Nat} {x1 : Int32} {x2 : Int32} {x3 : Int32} (h : M.1 a0 = 15 ∧ ∀ M1 : zM, M1 = zi M a0 0 0 → M1.1 a0 = 15 ∧ zC G yX15_isObject cX15_isObject 3 (some .boolean) rm_X15_isObject M1 [.ref a0, .int x1, .int x2] (fun M2 v => ∃ r3 : Int32, v = some (.int r3) ∧ (r3 = 0 → X.q M2 (some (.int 0))) ∧ (¬ r3 = 0 → zC G yX15_in cX15_in 3 (some .boolean) rm_X15_in M2 [.int x3, .int 0, .int 31] (fun M4 v => ∃ r5 : Int32, v = some (.int r5) ∧ (¬ r5 = 0 → M4.1 a0 = 15 ∧ ∃ b6 : Nat, M4.2.2.2 a0 8 = some b6 ∧ M4.1 b6 = 110 ∧ vp_in x1 (M4.2.1 b6) ∧ ∃ b7 : Nat, M4.2.2.2 b6 x1.toNatClampNeg = some b7 ∧ M4.1 b7 = 13 ∧ ∃ b8 : Nat, M4.2.2.2 b7 10 = some b8 ∧ M4.1 b8 = 100 ∧ vp_in x2 (M4.2.1 b8) ∧ ∀ M9 : zM, M9 = zi M4 b8 (x2.toNatClampNeg) x3 → X.q M9 (some (.int 1))) ∧ (r5 = 0 → X.q M4 (some (.int 0))))))) : zW G X 4 M n k 0 [(0, .ref a0), (1, .int x1), (2, .int x2), (3, .int x3)] [] := by
  refine z_aload_n O dX15_flags_0 rfl 0 rfl ?_
  refine z_iconst (v := 0) O dX15_flags_1 rfl ?_
  obtain ⟨hk, h⟩ := h
  refine z_puti O zp_X15_93_14 dX15_flags_2 hk ?_
  generalize eM1 : zi M a0 0 0 = M1
  replace h := h M1 eM1.symm
  refine z_aload_n O dX15_flags_5 rfl 0 rfl ?_
  refine z_iload_n O dX15_flags_6 rfl 1 rfl ?_
  refine z_iload_n O dX15_flags_7 rfl 2 rfl ?_
  obtain ⟨hk, h⟩ := h
  refine z_callV0 (As := [.int x1, .int x2]) O zc_X15_409 h hk rfl (zRm_of hR (by decide) (by decide)) (Nat.le_of_ble_eq_true rfl) dX15_flags_8 rfl rfl rfl (fun M2 v h => ?_)
  obtain ⟨r3, rfl, h⟩ := h
  refine z_if_eq O 24 dX15_flags_11 (by decide) (fun c => ?_) (fun c => ?_)
  · replace h := h.1 c
    refine z_iconst (v := 0) O dX15_flags_24 rfl ?_
    exact z_zret O dX15_flags_25 (by decide) h
  · replace h := h.2 c
    refine z_iload_n O dX15_flags_14 rfl 3 rfl ?_
    refine z_iconst (v := 0) O dX15_flags_15 rfl ?_
    refine z_bipush (v := 31) O dX15_flags_16 rfl ?_
    refine z_callS0 (As := [.int x3, .int 0, .int 31]) O zc_X15_135 h rfl (zRm_of hR (by decide) (by decide)) (Nat.le_of_ble_eq_true rfl) dX15_flags_18 rfl rfl rfl (fun M4 v h => ?_)
    obtain ⟨r5, rfl, h⟩ := h
    refine z_if_ne O 26 dX15_flags_21 (by decide) (fun c => ?_) (fun c => ?_)
    · replace h := h.1 c
      refine z_aload_n O dX15_flags_26 rfl 0 rfl ?_
      obtain ⟨hk, b6, hr, h⟩ := h
      refine z_getr O zf_X15_21_14 dX15_flags_27 hk hr ?_
      refine z_iload_n O dX15_flags_30 rfl 1 rfl ?_
      obtain ⟨hk, hi, b7, hr, h⟩ := h
      refine z_ald (t := 8) O rfl dX15_flags_31 hk hi hr ?_
      obtain ⟨hk, b8, hr, h⟩ := h
      refine z_getr O zf_X15_189_12 dX15_flags_32 hk hr ?_
      refine z_iload_n O dX15_flags_35 rfl 2 rfl ?_
      refine z_iload_n O dX15_flags_36 rfl 3 rfl ?_
      obtain ⟨hk, hi, h⟩ := h
      refine z_iast O dX15_flags_37 hk hi ?_
      generalize eM9 : zi M4 b8 (x2.toNatClampNeg) x3 = M9
      replace h := h M9 eM9.symm
      refine z_iconst (v := 1) O dX15_flags_38 rfl ?_
      exact z_zret O dX15_flags_39 (by decide) h
    · replace h := h.2 c
      refine z_iconst (v := 0) O dX15_flags_24 rfl ?_
      exact z_zret O dX15_flags_25 (by decide) h
set_option maxRecDepth 100000 in
set_option maxHeartbeats 4000000 in
theorem b_X15_link_0 {G : zG} {X : zX} (O : zOK G X cX15_link 6 RX15 (some .boolean) "link") (hR : X.R = rm_X15_link) {M : zM} {n k : Nat} {a0 : Nat} {x1 : Int32} {x2 : Int32} {x3 : Int32} (h : M.1 a0 = 15 ∧ ∀ M1 : zM, M1 = zi M a0 0 0 → M1.1 a0 = 15 ∧ zC G yX15_isObject cX15_isObject 3 (some .boolean) rm_X15_isObject M1 [.ref a0, .int x1, .int x2] (fun M2 v => ∃ r3 : Int32, v = some (.int r3) ∧ (r3 = 0 → X.q M2 (some (.int 0))) ∧ (¬ r3 = 0 → zC G yX15_in cX15_in 3 (some .boolean) rm_X15_in M2 [.int x3, .int 1, .int 65535] (fun M4 v => ∃ r5 : Int32, v = some (.int r5) ∧ (r5 = 0 → X.q M4 (some (.int 0))) ∧ (¬ r5 = 0 → M4.1 a0 = 15 ∧ ∃ b6 : Nat, M4.2.2.2 a0 8 = some b6 ∧ M4.1 b6 = 110 ∧ vp_in x1 (M4.2.1 b6) ∧ ∃ b7 : Nat, M4.2.2.2 b6 x1.toNatClampNeg = some b7 ∧ M4.1 b7 = 13 ∧ (¬ (M4.2.2.1 b7 12) = 24 → M4.1 a0 = 15 ∧ ∃ b8 : Nat, M4.2.2.2 a0 8 = some b8 ∧ M4.1 b8 = 110 ∧ vp_in x1 (M4.2.1 b8) ∧ ∃ b9 : Nat, M4.2.2.2 b8 x1.toNatClampNeg = some b9 ∧ zW G X 6 M4 n k 52 [(2, .int x2), (3, .int x3), (4, .ref b9), (5, .int 0)] []) ∧ ((M4.2.2.1 b7 12) = 24 → X.q M4 (some (.int 0)))))))) : zW G X 6 M n k 0 [(0, .ref a0), (1, .int x1), (2, .int x2), (3, .int x3)] [] := by
  refine z_aload_n O dX15_link_0 rfl 0 rfl ?_
  refine z_iconst (v := 0) O dX15_link_1 rfl ?_
  obtain ⟨hk, h⟩ := h
  refine z_puti O zp_X15_93_14 dX15_link_2 hk ?_
  generalize eM1 : zi M a0 0 0 = M1
  replace h := h M1 eM1.symm
  refine z_aload_n O dX15_link_5 rfl 0 rfl ?_
  refine z_iload_n O dX15_link_6 rfl 1 rfl ?_
  refine z_iload_n O dX15_link_7 rfl 2 rfl ?_
  obtain ⟨hk, h⟩ := h
  refine z_callV0 (As := [.int x1, .int x2]) O zc_X15_409 h hk rfl (zRm_of hR (by decide) (by decide)) (Nat.le_of_ble_eq_true rfl) dX15_link_8 rfl rfl rfl (fun M2 v h => ?_)
  obtain ⟨r3, rfl, h⟩ := h
  refine z_if_eq O 39 dX15_link_11 (by decide) (fun c => ?_) (fun c => ?_)
  · replace h := h.1 c
    refine z_iconst (v := 0) O dX15_link_39 rfl ?_
    exact z_zret O dX15_link_40 (by decide) h
  · replace h := h.2 c
    refine z_iload_n O dX15_link_14 rfl 3 rfl ?_
    refine z_iconst (v := 1) O dX15_link_15 rfl ?_
    refine z_ldc_w O dX15_link_16 zk_X15_405 ?_
    refine z_callS0 (As := [.int x3, .int 1, .int 65535]) O zc_X15_135 h rfl (zRm_of hR (by decide) (by decide)) (Nat.le_of_ble_eq_true rfl) dX15_link_19 rfl rfl rfl (fun M4 v h => ?_)
    obtain ⟨r5, rfl, h⟩ := h
    refine z_if_eq O 39 dX15_link_22 (by decide) (fun c => ?_) (fun c => ?_)
    · replace h := h.1 c
      refine z_iconst (v := 0) O dX15_link_39 rfl ?_
      exact z_zret O dX15_link_40 (by decide) h
    · replace h := h.2 c
      refine z_aload_n O dX15_link_25 rfl 0 rfl ?_
      obtain ⟨hk, b6, hr, h⟩ := h
      refine z_getr O zf_X15_21_14 dX15_link_26 hk hr ?_
      refine z_iload_n O dX15_link_29 rfl 1 rfl ?_
      obtain ⟨hk, hi, b7, hr, h⟩ := h
      refine z_ald (t := 8) O rfl dX15_link_30 hk hi hr ?_
      obtain ⟨hk, h⟩ := h
      refine z_geti O zf_X15_180_12 dX15_link_31 hk ?_
      refine z_bipush (v := 24) O dX15_link_34 rfl ?_
      refine z_icmp_ne O 41 dX15_link_36 (by decide) (fun c => ?_) (fun c => ?_)
      · replace h := h.1 c
        refine z_aload_n O dX15_link_41 rfl 0 rfl ?_
        obtain ⟨hk, b8, hr, h⟩ := h
        refine z_getr O zf_X15_21_14 dX15_link_42 hk hr ?_
        refine z_iload_n O dX15_link_45 rfl 1 rfl ?_
        obtain ⟨hk, hi, b9, hr, h⟩ := h
        refine z_ald (t := 8) O rfl dX15_link_46 hk hi hr ?_
        refine z_astore (lv' := [(4, .ref b9), (0, .ref a0), (1, .int x1), (2, .int x2), (3, .int x3)]) O dX15_link_47 (by decide) rfl ?_
        refine z_iconst (v := 0) O dX15_link_49 rfl ?_
        refine z_istore (lv' := [(5, .int 0), (4, .ref b9), (0, .ref a0), (1, .int x1), (2, .int x2), (3, .int x3)]) O dX15_link_50 (by decide) rfl ?_
        exact z_to [4, 5, 1, 0] rfl h
      · replace h := h.2 c
        refine z_iconst (v := 0) O dX15_link_39 rfl ?_
        exact z_zret O dX15_link_40 (by decide) h
set_option maxRecDepth 100000 in
set_option maxHeartbeats 4000000 in
theorem b_X15_link_52 {G : zG} {X : zX} (O : zOK G X cX15_link 6 RX15 (some .boolean) "link") (hR : X.R = rm_X15_link) {M : zM} {n k : Nat} {x2 : Int32} {x3 : Int32} {a4 : Nat} {x5 : Int32} (h : M.1 a4 = 13 ∧ ((M.2.2.1 a4 12) ≤ x5 → M.1 a4 = 13 ∧ ∃ b1 : Nat, M.2.2.2 a4 13 = some b1 ∧ M.1 a4 = 13 ∧ M.1 b1 = 100 ∧ vp_in ((M.2.2.1 a4 12)) (M.2.1 b1) ∧ ∀ M2 : zM, M2 = zi M b1 (((M.2.2.1 a4 12)).toNatClampNeg) x2 → M2.1 a4 = 13 ∧ ∃ b3 : Nat, M2.2.2.2 a4 14 = some b3 ∧ M2.1 a4 = 13 ∧ M2.1 b3 = 100 ∧ vp_in ((M2.2.2.1 a4 12)) (M2.2.1 b3) ∧ ∀ M4 : zM, M4 = zi M2 b3 (((M2.2.2.1 a4 12)).toNatClampNeg) x3 → M4.1 a4 = 13 ∧ M4.1 a4 = 13 ∧ ∀ M5 : zM, M5 = zi M4 a4 12 ((M4.2.2.1 a4 12) + 1) → X.q M5 (some (.int 1))) ∧ (¬ (M.2.2.1 a4 12) ≤ x5 → M.1 a4 = 13 ∧ ∃ b6 : Nat, M.2.2.2 a4 13 = some b6 ∧ M.1 b6 = 100 ∧ vp_in x5 (M.2.1 b6) ∧ (¬ (M.2.2.1 b6 x5.toNatClampNeg) = x2 → ∀ y7 : Int32, y7 = x5 + 1 → zW G X 6 M n k 52 [(2, .int x2), (3, .int x3), (4, .ref a4), (5, .int y7)] []) ∧ ((M.2.2.1 b6 x5.toNatClampNeg) = x2 → M.1 a4 = 13 ∧ ∃ b8 : Nat, M.2.2.2 a4 14 = some b8 ∧ M.1 b8 = 100 ∧ vp_in x5 (M.2.1 b8) ∧ (¬ (M.2.2.1 b8 x5.toNatClampNeg) = x3 → ∀ y9 : Int32, y9 = x5 + 1 → zW G X 6 M n k 52 [(2, .int x2), (3, .int x3), (4, .ref a4), (5, .int y9)] []) ∧ ((M.2.2.1 b8 x5.toNatClampNeg) = x3 → X.q M (some (.int 0)))))) : zW G X 6 M n k 52 [(2, .int x2), (3, .int x3), (4, .ref a4), (5, .int x5)] [] := by
  refine z_iload O dX15_link_52 3 rfl ?_
  refine z_aload O dX15_link_54 2 rfl ?_
  obtain ⟨hk, h⟩ := h
  refine z_geti O zf_X15_180_12 dX15_link_56 hk ?_
  refine z_icmp_ge O 94 dX15_link_59 (by decide) (fun c => ?_) (fun c => ?_)
  · replace h := h.1 c
    refine z_aload O dX15_link_94 2 rfl ?_
    obtain ⟨hk, b1, hr, h⟩ := h
    refine z_getr O zf_X15_183_12 dX15_link_96 hk hr ?_
    refine z_aload O dX15_link_99 2 rfl ?_
    obtain ⟨hk, h⟩ := h
    refine z_geti O zf_X15_180_12 dX15_link_101 hk ?_
    refine z_iload_n O dX15_link_104 rfl 0 rfl ?_
    obtain ⟨hk, hi, h⟩ := h
    refine z_iast O dX15_link_105 hk hi ?_
    generalize eM2 : zi M b1 (((M.2.2.1 a4 12)).toNatClampNeg) x2 = M2
    replace h := h M2 eM2.symm
    refine z_aload O dX15_link_106 2 rfl ?_
    obtain ⟨hk, b3, hr, h⟩ := h
    refine z_getr O zf_X15_186_12 dX15_link_108 hk hr ?_
    refine z_aload O dX15_link_111 2 rfl ?_
    obtain ⟨hk, h⟩ := h
    refine z_geti O zf_X15_180_12 dX15_link_113 hk ?_
    refine z_iload_n O dX15_link_116 rfl 1 rfl ?_
    obtain ⟨hk, hi, h⟩ := h
    refine z_iast O dX15_link_117 hk hi ?_
    generalize eM4 : zi M2 b3 (((M2.2.2.1 a4 12)).toNatClampNeg) x3 = M4
    replace h := h M4 eM4.symm
    refine z_aload O dX15_link_118 2 rfl ?_
    refine z_dup O dX15_link_120 rfl ?_
    obtain ⟨hk, h⟩ := h
    refine z_geti O zf_X15_180_12 dX15_link_121 hk ?_
    refine z_iconst (v := 1) O dX15_link_124 rfl ?_
    refine z_iadd O dX15_link_125 ?_
    obtain ⟨hk, h⟩ := h
    refine z_puti O zp_X15_180_12 dX15_link_126 hk ?_
    generalize eM5 : zi M4 a4 12 ((M4.2.2.1 a4 12) + 1) = M5
    replace h := h M5 eM5.symm
    refine z_iconst (v := 1) O dX15_link_129 rfl ?_
    exact z_zret O dX15_link_130 (by decide) h
  · replace h := h.2 c
    refine z_aload O dX15_link_62 2 rfl ?_
    obtain ⟨hk, b6, hr, h⟩ := h
    refine z_getr O zf_X15_183_12 dX15_link_64 hk hr ?_
    refine z_iload O dX15_link_67 3 rfl ?_
    obtain ⟨hk, hi, h⟩ := h
    refine z_iald O dX15_link_69 hk hi ?_
    refine z_iload_n O dX15_link_70 rfl 0 rfl ?_
    refine z_icmp_ne O 88 dX15_link_71 (by decide) (fun c => ?_) (fun c => ?_)
    · replace h := h.1 c
      obtain ⟨y7, ey7⟩ : ∃ y : Int32, y = x5 + 1 := ⟨_, rfl⟩
      replace h := h y7 ey7
      refine z_iinc (v := y7) (lv' := [(5, .int y7), (2, .int x2), (3, .int x3), (4, .ref a4)]) O dX15_link_88 (q := 3) rfl (by rw [ey7]; rfl) (by decide) rfl ?_
      refine z_goto O 52 dX15_link_91 (by decide) ?_
      exact z_to [1, 2, 3, 0] rfl h
    · replace h := h.2 c
      refine z_aload O dX15_link_74 2 rfl ?_
      obtain ⟨hk, b8, hr, h⟩ := h
      refine z_getr O zf_X15_186_12 dX15_link_76 hk hr ?_
      refine z_iload O dX15_link_79 3 rfl ?_
      obtain ⟨hk, hi, h⟩ := h
      refine z_iald O dX15_link_81 hk hi ?_
      refine z_iload_n O dX15_link_82 rfl 1 rfl ?_
      refine z_icmp_ne O 88 dX15_link_83 (by decide) (fun c => ?_) (fun c => ?_)
      · replace h := h.1 c
        obtain ⟨y9, ey9⟩ : ∃ y : Int32, y = x5 + 1 := ⟨_, rfl⟩
        replace h := h y9 ey9
        refine z_iinc (v := y9) (lv' := [(5, .int y9), (2, .int x2), (3, .int x3), (4, .ref a4)]) O dX15_link_88 (q := 3) rfl (by rw [ey9]; rfl) (by decide) rfl ?_
        refine z_goto O 52 dX15_link_91 (by decide) ?_
        exact z_to [1, 2, 3, 0] rfl h
      · replace h := h.2 c
        refine z_iconst (v := 0) O dX15_link_86 rfl ?_
        exact z_zret O dX15_link_87 (by decide) h
set_option maxRecDepth 100000 in
set_option maxHeartbeats 4000000 in
theorem b_X15_set_0 {G : zG} {X : zX} (O : zOK G X cX15_set 4 RX15 (some .int) "set") (hR : X.R = rm_X15_set) {M : zM} {n k : Nat} {a0 : Nat} {x1 : Int32} {x2 : Int32} {x3 : Int32} (h : M.1 a0 = 15 ∧ ∀ M1 : zM, M1 = zi M a0 0 0 → M1.1 a0 = 15 ∧ zC G yX15_isObject cX15_isObject 3 (some .boolean) rm_X15_isObject M1 [.ref a0, .int x1, .int x2] (fun M2 v => ∃ r3 : Int32, v = some (.int r3) ∧ (r3 = 0 → X.q M2 (some (.int (-1)))) ∧ (¬ r3 = 0 → M2.1 a0 = 15 ∧ ∃ b4 : Nat, M2.2.2.2 a0 8 = some b4 ∧ M2.1 b4 = 110 ∧ vp_in x1 (M2.2.1 b4) ∧ ∃ b5 : Nat, M2.2.2.2 b4 x1.toNatClampNeg = some b5 ∧ M2.1 a0 = 15 ∧ zC G yX15_sets cX15_sets 6 (some .int) rm_X15_sets M2 [.ref a0, .ref b5, .int x2, .int x3] (fun M6 v => ∃ r7 : Int32, v = some (.int r7) ∧ X.q M6 (some (.int r7)))))) : zW G X 4 M n k 0 [(0, .ref a0), (1, .int x1), (2, .int x2), (3, .int x3)] [] := by
  refine z_aload_n O dX15_set_0 rfl 0 rfl ?_
  refine z_iconst (v := 0) O dX15_set_1 rfl ?_
  obtain ⟨hk, h⟩ := h
  refine z_puti O zp_X15_93_14 dX15_set_2 hk ?_
  generalize eM1 : zi M a0 0 0 = M1
  replace h := h M1 eM1.symm
  refine z_aload_n O dX15_set_5 rfl 0 rfl ?_
  refine z_iload_n O dX15_set_6 rfl 1 rfl ?_
  refine z_iload_n O dX15_set_7 rfl 2 rfl ?_
  obtain ⟨hk, h⟩ := h
  refine z_callV0 (As := [.int x1, .int x2]) O zc_X15_409 h hk rfl (zRm_of hR (by decide) (by decide)) (Nat.le_of_ble_eq_true rfl) dX15_set_8 rfl rfl rfl (fun M2 v h => ?_)
  obtain ⟨r3, rfl, h⟩ := h
  refine z_if_eq O 29 dX15_set_11 (by decide) (fun c => ?_) (fun c => ?_)
  · replace h := h.1 c
    refine z_iconst (v := (-1)) O dX15_set_29 rfl ?_
    exact z_iret O dX15_set_30 h
  · replace h := h.2 c
    refine z_aload_n O dX15_set_14 rfl 0 rfl ?_
    refine z_aload_n O dX15_set_15 rfl 0 rfl ?_
    obtain ⟨hk, b4, hr, h⟩ := h
    refine z_getr O zf_X15_21_14 dX15_set_16 hk hr ?_
    refine z_iload_n O dX15_set_19 rfl 1 rfl ?_
    obtain ⟨hk, hi, b5, hr, h⟩ := h
    refine z_ald (t := 8) O rfl dX15_set_20 hk hi hr ?_
    refine z_iload_n O dX15_set_21 rfl 2 rfl ?_
    refine z_iload_n O dX15_set_22 rfl 3 rfl ?_
    obtain ⟨hk, h⟩ := h
    refine z_callV0 (As := [.ref b5, .int x2, .int x3]) O zc_X15_417 h hk rfl (zRm_of hR (by decide) (by decide)) (Nat.le_of_ble_eq_true rfl) dX15_set_23 rfl rfl rfl (fun M6 v h => ?_)
    obtain ⟨r7, rfl, h⟩ := h
    refine z_goto O 30 dX15_set_26 (by decide) ?_
    exact z_iret O dX15_set_30 h
set_option maxRecDepth 100000 in
set_option maxHeartbeats 4000000 in
theorem b_X15_ask_0 {G : zG} {X : zX} (O : zOK G X cX15_ask 6 RX15 (some .int) "ask") (hR : X.R = rm_X15_ask) {M : zM} {n k : Nat} {a0 : Nat} {x1 : Int32} {x2 : Int32} (h : M.1 a0 = 15 ∧ ∀ M1 : zM, M1 = zi M a0 0 0 → M1.1 a0 = 15 ∧ zC G yX15_isObject cX15_isObject 3 (some .boolean) rm_X15_isObject M1 [.ref a0, .int x1, .int x2] (fun M2 v => ∃ r3 : Int32, v = some (.int r3) ∧ (¬ r3 = 0 → M2.1 a0 = 15 ∧ ∃ b4 : Nat, M2.2.2.2 a0 8 = some b4 ∧ M2.1 b4 = 110 ∧ vp_in x1 (M2.2.1 b4) ∧ ∃ b5 : Nat, M2.2.2.2 b4 x1.toNatClampNeg = some b5 ∧ zC G yX15_ownGroup cX15_ownGroup 4 (some .int) rm_X15_ownGroup M2 [.ref b5, .int x2] (fun M6 v => ∃ r7 : Int32, v = some (.int r7) ∧ M6.1 b5 = 13 ∧ ∃ b8 : Nat, M6.2.2.2 b5 10 = some b8 ∧ M6.1 b8 = 100 ∧ vp_in x2 (M6.2.1 b8) ∧ (¬ ((M6.2.2.1 b8 x2.toNatClampNeg) &&& 9) = 9 → X.q M6 (some (.int (-1)))) ∧ (((M6.2.2.1 b8 x2.toNatClampNeg) &&& 9) = 9 → (¬ r7 = (-1) → M6.1 b5 = 13 ∧ ∃ b9 : Nat, M6.2.2.2 b5 2 = some b9 ∧ M6.1 b9 = 14 ∧ (¬ (M6.2.2.1 b9 5) = 8 → M6.1 a0 = 15 ∧ ∃ b10 : Nat, M6.2.2.2 a0 13 = some b10 ∧ M6.1 b10 = 100 ∧ vp_in (0 : Int32) (M6.2.1 b10) ∧ ∀ M11 : zM, M11 = zi M6 b10 ((0 : Int32).toNatClampNeg) 0 → M11.1 a0 = 15 ∧ ∃ b12 : Nat, M11.2.2.2 a0 13 = some b12 ∧ M11.1 b12 = 100 ∧ vp_in (1 : Int32) (M11.2.1 b12) ∧ ∀ M13 : zM, M13 = zi M11 b12 ((1 : Int32).toNatClampNeg) 0 → M13.1 b5 = 13 ∧ ∃ b14 : Nat, M13.2.2.2 b5 9 = some b14 ∧ M13.1 b14 = 100 ∧ vp_in x2 (M13.2.1 b14) ∧ M13.1 a0 = 15 ∧ ∃ b15 : Nat, M13.2.2.2 a0 13 = some b15 ∧ M13.1 a0 = 15 ∧ zC G yX15_tells cX15_tells 8 (some .int) rm_X15_tells M13 [.ref a0, .ref b5, .int (M13.2.2.1 b14 x2.toNatClampNeg), .int 1, .int r7, .ref b15, .int 2] (fun M16 v => ∃ r17 : Int32, v = some (.int r17) ∧ M16.1 b5 = 13 ∧ ∃ b18 : Nat, M16.2.2.2 b5 2 = some b18 ∧ M16.1 b18 = 14 ∧ X.q M16 (some (.int (M16.2.2.1 b18 5))))) ∧ ((M6.2.2.1 b9 5) = 8 → X.q M6 (some (.int (-2))))) ∧ (r7 = (-1) → X.q M6 (some (.int (-1))))))) ∧ (r3 = 0 → X.q M2 (some (.int (-1)))))) : zW G X 6 M n k 0 [(0, .ref a0), (1, .int x1), (2, .int x2)] [] := by
  refine z_aload_n O dX15_ask_0 rfl 0 rfl ?_
  refine z_iconst (v := 0) O dX15_ask_1 rfl ?_
  obtain ⟨hk, h⟩ := h
  refine z_puti O zp_X15_93_14 dX15_ask_2 hk ?_
  generalize eM1 : zi M a0 0 0 = M1
  replace h := h M1 eM1.symm
  refine z_aload_n O dX15_ask_5 rfl 0 rfl ?_
  refine z_iload_n O dX15_ask_6 rfl 1 rfl ?_
  refine z_iload_n O dX15_ask_7 rfl 2 rfl ?_
  obtain ⟨hk, h⟩ := h
  refine z_callV0 (As := [.int x1, .int x2]) O zc_X15_409 h hk rfl (zRm_of hR (by decide) (by decide)) (Nat.le_of_ble_eq_true rfl) dX15_ask_8 rfl rfl rfl (fun M2 v h => ?_)
  obtain ⟨r3, rfl, h⟩ := h
  refine z_if_ne O 16 dX15_ask_11 (by decide) (fun c => ?_) (fun c => ?_)
  · replace h := h.1 c
    refine z_aload_n O dX15_ask_16 rfl 0 rfl ?_
    obtain ⟨hk, b4, hr, h⟩ := h
    refine z_getr O zf_X15_21_14 dX15_ask_17 hk hr ?_
    refine z_iload_n O dX15_ask_20 rfl 1 rfl ?_
    obtain ⟨hk, hi, b5, hr, h⟩ := h
    refine z_ald (t := 8) O rfl dX15_ask_21 hk hi hr ?_
    refine z_astore_n (lv' := [(3, .ref b5), (0, .ref a0), (1, .int x1), (2, .int x2)]) O dX15_ask_22 rfl (by decide) rfl ?_
    refine z_aload_n O dX15_ask_23 rfl 0 rfl ?_
    refine z_iload_n O dX15_ask_24 rfl 3 rfl ?_
    refine z_callS0 (As := [.ref b5, .int x2]) O zc_X15_413 h rfl (zRm_of hR (by decide) (by decide)) (Nat.le_of_ble_eq_true rfl) dX15_ask_25 rfl rfl rfl (fun M6 v h => ?_)
    obtain ⟨r7, rfl, h⟩ := h
    refine z_istore (lv' := [(4, .int r7), (3, .ref b5), (0, .ref a0), (1, .int x1), (2, .int x2)]) O dX15_ask_28 (by decide) rfl ?_
    refine z_aload_n O dX15_ask_30 rfl 1 rfl ?_
    obtain ⟨hk, b8, hr, h⟩ := h
    refine z_getr O zf_X15_189_12 dX15_ask_31 hk hr ?_
    refine z_iload_n O dX15_ask_34 rfl 4 rfl ?_
    obtain ⟨hk, hi, h⟩ := h
    refine z_iald O dX15_ask_35 hk hi ?_
    refine z_bipush (v := 9) O dX15_ask_36 rfl ?_
    refine z_iand O dX15_ask_38 ?_
    refine z_bipush (v := 9) O dX15_ask_39 rfl ?_
    refine z_icmp_ne O 50 dX15_ask_41 (by decide) (fun c => ?_) (fun c => ?_)
    · replace h := h.1 c
      refine z_iconst (v := (-1)) O dX15_ask_50 rfl ?_
      exact z_iret O dX15_ask_51 h
    · replace h := h.2 c
      refine z_iload O dX15_ask_44 0 rfl ?_
      refine z_iconst (v := (-1)) O dX15_ask_46 rfl ?_
      refine z_icmp_ne O 52 dX15_ask_47 (by decide) (fun c => ?_) (fun c => ?_)
      · replace h := h.1 c
        refine z_aload_n O dX15_ask_52 rfl 1 rfl ?_
        obtain ⟨hk, b9, hr, h⟩ := h
        refine z_getr O zf_X15_155_12 dX15_ask_53 hk hr ?_
        obtain ⟨hk, h⟩ := h
        refine z_geti O zf_X15_96_13 dX15_ask_56 hk ?_
        refine z_bipush (v := 8) O dX15_ask_59 rfl ?_
        refine z_icmp_ne O 67 dX15_ask_61 (by decide) (fun c => ?_) (fun c => ?_)
        · replace h := h.1 c
          refine z_aload_n O dX15_ask_67 rfl 2 rfl ?_
          obtain ⟨hk, b10, hr, h⟩ := h
          refine z_getr O zf_X15_37_14 dX15_ask_68 hk hr ?_
          refine z_iconst (v := 0) O dX15_ask_71 rfl ?_
          refine z_iconst (v := 0) O dX15_ask_72 rfl ?_
          obtain ⟨hk, hi, h⟩ := h
          refine z_iast O dX15_ask_73 hk hi ?_
          generalize eM11 : zi M6 b10 ((0 : Int32).toNatClampNeg) 0 = M11
          replace h := h M11 eM11.symm
          refine z_aload_n O dX15_ask_74 rfl 2 rfl ?_
          obtain ⟨hk, b12, hr, h⟩ := h
          refine z_getr O zf_X15_37_14 dX15_ask_75 hk hr ?_
          refine z_iconst (v := 1) O dX15_ask_78 rfl ?_
          refine z_iconst (v := 0) O dX15_ask_79 rfl ?_
          obtain ⟨hk, hi, h⟩ := h
          refine z_iast O dX15_ask_80 hk hi ?_
          generalize eM13 : zi M11 b12 ((1 : Int32).toNatClampNeg) 0 = M13
          replace h := h M13 eM13.symm
          refine z_aload_n O dX15_ask_81 rfl 2 rfl ?_
          refine z_aload_n O dX15_ask_82 rfl 1 rfl ?_
          refine z_aload_n O dX15_ask_83 rfl 1 rfl ?_
          obtain ⟨hk, b14, hr, h⟩ := h
          refine z_getr O zf_X15_177_12 dX15_ask_84 hk hr ?_
          refine z_iload_n O dX15_ask_87 rfl 4 rfl ?_
          obtain ⟨hk, hi, h⟩ := h
          refine z_iald O dX15_ask_88 hk hi ?_
          refine z_iconst (v := 1) O dX15_ask_89 rfl ?_
          refine z_iload O dX15_ask_90 0 rfl ?_
          refine z_aload_n O dX15_ask_92 rfl 2 rfl ?_
          obtain ⟨hk, b15, hr, h⟩ := h
          refine z_getr O zf_X15_37_14 dX15_ask_93 hk hr ?_
          refine z_iconst (v := 2) O dX15_ask_96 rfl ?_
          obtain ⟨hk, h⟩ := h
          refine z_callV0 (As := [.ref b5, .int (M13.2.2.1 b14 x2.toNatClampNeg), .int 1, .int r7, .ref b15, .int 2]) O zc_X15_163 h hk rfl (zRm_of hR (by decide) (by decide)) (Nat.le_of_ble_eq_true rfl) dX15_ask_97 rfl rfl rfl (fun M16 v h => ?_)
          obtain ⟨r17, rfl, h⟩ := h
          refine z_istore (lv' := [(5, .int r17), (4, .int r7), (3, .ref b5), (0, .ref a0), (1, .int x1), (2, .int x2)]) O dX15_ask_100 (by decide) rfl ?_
          refine z_aload_n O dX15_ask_102 rfl 2 rfl ?_
          obtain ⟨hk, b18, hr, h⟩ := h
          refine z_getr O zf_X15_155_12 dX15_ask_103 hk hr ?_
          obtain ⟨hk, h⟩ := h
          refine z_geti O zf_X15_96_13 dX15_ask_106 hk ?_
          exact z_iret O dX15_ask_109 h
        · replace h := h.2 c
          refine z_bipush (v := (-2)) O dX15_ask_64 rfl ?_
          exact z_iret O dX15_ask_66 h
      · replace h := h.2 c
        refine z_iconst (v := (-1)) O dX15_ask_50 rfl ?_
        exact z_iret O dX15_ask_51 h
  · replace h := h.2 c
    refine z_iconst (v := (-1)) O dX15_ask_14 rfl ?_
    exact z_iret O dX15_ask_15 h
set_option maxRecDepth 100000 in
set_option maxHeartbeats 4000000 in
theorem b_X15_value_0 {G : zG} {X : zX} (O : zOK G X cX15_value 3 RX15 (some .long) "value") (hR : X.R = rm_X15_value) {M : zM} {n k : Nat} {a0 : Nat} {x1 : Int32} {x2 : Int32} (h : M.1 a0 = 15 ∧ ∀ M1 : zM, M1 = zi M a0 0 0 → M1.1 a0 = 15 ∧ zC G yX15_isObject cX15_isObject 3 (some .boolean) rm_X15_isObject M1 [.ref a0, .int x1, .int x2] (fun M2 v => ∃ r3 : Int32, v = some (.int r3) ∧ (r3 = 0 → X.q M2 (some (.long (-1)))) ∧ (¬ r3 = 0 → M2.1 a0 = 15 ∧ ∃ b4 : Nat, M2.2.2.2 a0 8 = some b4 ∧ M2.1 b4 = 110 ∧ vp_in x1 (M2.2.1 b4) ∧ ∃ b5 : Nat, M2.2.2.2 b4 x1.toNatClampNeg = some b5 ∧ M2.1 b5 = 13 ∧ ∃ b6 : Nat, M2.2.2.2 b5 8 = some b6 ∧ M2.1 b6 = 100 ∧ vp_in x2 (M2.2.1 b6) ∧ X.q M2 (some (.long ((Int32.toInt64 (M2.2.2.1 b6 x2.toNatClampNeg)) &&& 4294967295)))))) : zW G X 3 M n k 0 [(0, .ref a0), (1, .int x1), (2, .int x2)] [] := by
  refine z_aload_n O dX15_value_0 rfl 0 rfl ?_
  refine z_iconst (v := 0) O dX15_value_1 rfl ?_
  obtain ⟨hk, h⟩ := h
  refine z_puti O zp_X15_93_14 dX15_value_2 hk ?_
  generalize eM1 : zi M a0 0 0 = M1
  replace h := h M1 eM1.symm
  refine z_aload_n O dX15_value_5 rfl 0 rfl ?_
  refine z_iload_n O dX15_value_6 rfl 1 rfl ?_
  refine z_iload_n O dX15_value_7 rfl 2 rfl ?_
  obtain ⟨hk, h⟩ := h
  refine z_callV0 (As := [.int x1, .int x2]) O zc_X15_409 h hk rfl (zRm_of hR (by decide) (by decide)) (Nat.le_of_ble_eq_true rfl) dX15_value_8 rfl rfl rfl (fun M2 v h => ?_)
  obtain ⟨r3, rfl, h⟩ := h
  refine z_if_eq O 33 dX15_value_11 (by decide) (fun c => ?_) (fun c => ?_)
  · replace h := h.1 c
    refine z_ldc2_w O dX15_value_33 zk_X15_422 ?_
    exact z_lret O dX15_value_36 h
  · replace h := h.2 c
    refine z_aload_n O dX15_value_14 rfl 0 rfl ?_
    obtain ⟨hk, b4, hr, h⟩ := h
    refine z_getr O zf_X15_21_14 dX15_value_15 hk hr ?_
    refine z_iload_n O dX15_value_18 rfl 1 rfl ?_
    obtain ⟨hk, hi, b5, hr, h⟩ := h
    refine z_ald (t := 8) O rfl dX15_value_19 hk hi hr ?_
    obtain ⟨hk, b6, hr, h⟩ := h
    refine z_getr O zf_X15_174_12 dX15_value_20 hk hr ?_
    refine z_iload_n O dX15_value_23 rfl 2 rfl ?_
    obtain ⟨hk, hi, h⟩ := h
    refine z_iald O dX15_value_24 hk hi ?_
    refine z_i2l O dX15_value_25 ?_
    refine z_ldc2_w O dX15_value_26 zk_X15_420 ?_
    refine z_land O dX15_value_29 ?_
    refine z_goto O 36 dX15_value_30 (by decide) ?_
    exact z_lret O dX15_value_36 h
set_option maxRecDepth 100000 in
set_option maxHeartbeats 4000000 in
theorem b_X15_updated_0 {G : zG} {X : zX} (O : zOK G X cX15_updated 3 RX15 (some .int) "updated") (hR : X.R = rm_X15_updated) {M : zM} {n k : Nat} {a0 : Nat} {x1 : Int32} {x2 : Int32} (h : M.1 a0 = 15 ∧ ∀ M1 : zM, M1 = zi M a0 0 0 → M1.1 a0 = 15 ∧ zC G yX15_isObject cX15_isObject 3 (some .boolean) rm_X15_isObject M1 [.ref a0, .int x1, .int x2] (fun M2 v => ∃ r3 : Int32, v = some (.int r3) ∧ (r3 = 0 → X.q M2 (some (.int (-1)))) ∧ (¬ r3 = 0 → M2.1 a0 = 15 ∧ ∃ b4 : Nat, M2.2.2.2 a0 8 = some b4 ∧ M2.1 b4 = 110 ∧ vp_in x1 (M2.2.1 b4) ∧ ∃ b5 : Nat, M2.2.2.2 b4 x1.toNatClampNeg = some b5 ∧ M2.1 b5 = 13 ∧ ∃ b6 : Nat, M2.2.2.2 b5 11 = some b6 ∧ M2.1 b6 = 100 ∧ vp_in x2 (M2.2.1 b6) ∧ X.q M2 (some (.int (M2.2.2.1 b6 x2.toNatClampNeg)))))) : zW G X 3 M n k 0 [(0, .ref a0), (1, .int x1), (2, .int x2)] [] := by
  refine z_aload_n O dX15_updated_0 rfl 0 rfl ?_
  refine z_iconst (v := 0) O dX15_updated_1 rfl ?_
  obtain ⟨hk, h⟩ := h
  refine z_puti O zp_X15_93_14 dX15_updated_2 hk ?_
  generalize eM1 : zi M a0 0 0 = M1
  replace h := h M1 eM1.symm
  refine z_aload_n O dX15_updated_5 rfl 0 rfl ?_
  refine z_iload_n O dX15_updated_6 rfl 1 rfl ?_
  refine z_iload_n O dX15_updated_7 rfl 2 rfl ?_
  obtain ⟨hk, h⟩ := h
  refine z_callV0 (As := [.int x1, .int x2]) O zc_X15_409 h hk rfl (zRm_of hR (by decide) (by decide)) (Nat.le_of_ble_eq_true rfl) dX15_updated_8 rfl rfl rfl (fun M2 v h => ?_)
  obtain ⟨r3, rfl, h⟩ := h
  refine z_if_eq O 28 dX15_updated_11 (by decide) (fun c => ?_) (fun c => ?_)
  · replace h := h.1 c
    refine z_iconst (v := (-1)) O dX15_updated_28 rfl ?_
    exact z_iret O dX15_updated_29 h
  · replace h := h.2 c
    refine z_aload_n O dX15_updated_14 rfl 0 rfl ?_
    obtain ⟨hk, b4, hr, h⟩ := h
    refine z_getr O zf_X15_21_14 dX15_updated_15 hk hr ?_
    refine z_iload_n O dX15_updated_18 rfl 1 rfl ?_
    obtain ⟨hk, hi, b5, hr, h⟩ := h
    refine z_ald (t := 8) O rfl dX15_updated_19 hk hi hr ?_
    obtain ⟨hk, b6, hr, h⟩ := h
    refine z_getr O zf_X15_200_12 dX15_updated_20 hk hr ?_
    refine z_iload_n O dX15_updated_23 rfl 2 rfl ?_
    obtain ⟨hk, hi, h⟩ := h
    refine z_iald O dX15_updated_24 hk hi ?_
    refine z_goto O 29 dX15_updated_25 (by decide) ?_
    exact z_iret O dX15_updated_29 h
set_option maxRecDepth 100000 in
set_option maxHeartbeats 4000000 in
theorem b_X15_hundredths_0 {G : zG} {X : zX} (O : zOK G X cX15_hundredths 5 RX15 (some .long) "hundredths") (hR : X.R = rm_X15_hundredths) {M : zM} {n k : Nat} {a0 : Nat} {x1 : Int32} {x2 : Int32} (h : M.1 a0 = 15 ∧ ∀ M1 : zM, M1 = zi M a0 0 0 → M1.1 a0 = 15 ∧ zC G yX15_isObject cX15_isObject 3 (some .boolean) rm_X15_isObject M1 [.ref a0, .int x1, .int x2] (fun M2 v => ∃ r3 : Int32, v = some (.int r3) ∧ (r3 = 0 → X.q M2 (some (.long (-9223372036854775808)))) ∧ (¬ r3 = 0 → M2.1 a0 = 15 ∧ ∃ b4 : Nat, M2.2.2.2 a0 8 = some b4 ∧ M2.1 b4 = 110 ∧ vp_in x1 (M2.2.1 b4) ∧ ∃ b5 : Nat, M2.2.2.2 b4 x1.toNatClampNeg = some b5 ∧ M2.1 b5 = 13 ∧ ∃ b6 : Nat, M2.2.2.2 b5 7 = some b6 ∧ M2.1 b6 = 100 ∧ vp_in x2 (M2.2.1 b6) ∧ ((M2.2.2.1 b6 x2.toNatClampNeg) = 16 → M2.1 a0 = 15 ∧ ∃ b7 : Nat, M2.2.2.2 a0 8 = some b7 ∧ M2.1 b7 = 110 ∧ vp_in x1 (M2.2.1 b7) ∧ ∃ b8 : Nat, M2.2.2.2 b7 x1.toNatClampNeg = some b8 ∧ M2.1 b8 = 13 ∧ ∃ b9 : Nat, M2.2.2.2 b8 8 = some b9 ∧ M2.1 b9 = 100 ∧ vp_in x2 (M2.2.1 b9) ∧ ∀ y10 : Int32, y10 = (M2.2.2.1 b9 x2.toNatClampNeg) → (y10 < 32768 → zW G X 5 M2 n k 65 [(3, .int y10)] [.int 0, .int (y10 - y10 / 2048 * 2048)]) ∧ (¬ y10 < 32768 → zW G X 5 M2 n k 65 [(3, .int y10)] [.int 2048, .int (y10 - y10 / 2048 * 2048)])) ∧ (¬ (M2.2.2.1 b6 x2.toNatClampNeg) = 16 → X.q M2 (some (.long (-9223372036854775808))))))) : zW G X 5 M n k 0 [(0, .ref a0), (1, .int x1), (2, .int x2)] [] := by
  refine z_aload_n O dX15_hundredths_0 rfl 0 rfl ?_
  refine z_iconst (v := 0) O dX15_hundredths_1 rfl ?_
  obtain ⟨hk, h⟩ := h
  refine z_puti O zp_X15_93_14 dX15_hundredths_2 hk ?_
  generalize eM1 : zi M a0 0 0 = M1
  replace h := h M1 eM1.symm
  refine z_aload_n O dX15_hundredths_5 rfl 0 rfl ?_
  refine z_iload_n O dX15_hundredths_6 rfl 1 rfl ?_
  refine z_iload_n O dX15_hundredths_7 rfl 2 rfl ?_
  obtain ⟨hk, h⟩ := h
  refine z_callV0 (As := [.int x1, .int x2]) O zc_X15_409 h hk rfl (zRm_of hR (by decide) (by decide)) (Nat.le_of_ble_eq_true rfl) dX15_hundredths_8 rfl rfl rfl (fun M2 v h => ?_)
  obtain ⟨r3, rfl, h⟩ := h
  refine z_if_eq O 30 dX15_hundredths_11 (by decide) (fun c => ?_) (fun c => ?_)
  · replace h := h.1 c
    refine z_ldc2_w O dX15_hundredths_30 zk_X15_426 ?_
    exact z_lret O dX15_hundredths_33 h
  · replace h := h.2 c
    refine z_aload_n O dX15_hundredths_14 rfl 0 rfl ?_
    obtain ⟨hk, b4, hr, h⟩ := h
    refine z_getr O zf_X15_21_14 dX15_hundredths_15 hk hr ?_
    refine z_iload_n O dX15_hundredths_18 rfl 1 rfl ?_
    obtain ⟨hk, hi, b5, hr, h⟩ := h
    refine z_ald (t := 8) O rfl dX15_hundredths_19 hk hi hr ?_
    obtain ⟨hk, b6, hr, h⟩ := h
    refine z_getr O zf_X15_167_12 dX15_hundredths_20 hk hr ?_
    refine z_iload_n O dX15_hundredths_23 rfl 2 rfl ?_
    obtain ⟨hk, hi, h⟩ := h
    refine z_iald O dX15_hundredths_24 hk hi ?_
    refine z_bipush (v := 16) O dX15_hundredths_25 rfl ?_
    refine z_icmp_eq O 34 dX15_hundredths_27 (by decide) (fun c => ?_) (fun c => ?_)
    · replace h := h.1 c
      refine z_aload_n O dX15_hundredths_34 rfl 0 rfl ?_
      obtain ⟨hk, b7, hr, h⟩ := h
      refine z_getr O zf_X15_21_14 dX15_hundredths_35 hk hr ?_
      refine z_iload_n O dX15_hundredths_38 rfl 1 rfl ?_
      obtain ⟨hk, hi, b8, hr, h⟩ := h
      refine z_ald (t := 8) O rfl dX15_hundredths_39 hk hi hr ?_
      obtain ⟨hk, b9, hr, h⟩ := h
      refine z_getr O zf_X15_174_12 dX15_hundredths_40 hk hr ?_
      refine z_iload_n O dX15_hundredths_43 rfl 2 rfl ?_
      obtain ⟨hk, hi, h⟩ := h
      refine z_iald O dX15_hundredths_44 hk hi ?_
      refine z_topi (fun y10 ey10 => ?_)
      replace h := h y10 ey10
      refine z_istore_n (lv' := [(3, .int y10), (0, .ref a0), (1, .int x1), (2, .int x2)]) O dX15_hundredths_45 rfl (by decide) rfl ?_
      refine z_iload_n O dX15_hundredths_46 rfl 0 rfl ?_
      refine z_sipush (v := 2048) O dX15_hundredths_47 rfl ?_
      refine z_irem O dX15_hundredths_50 (by decide) ?_
      refine z_iload_n O dX15_hundredths_51 rfl 0 rfl ?_
      refine z_ldc_w O dX15_hundredths_52 zk_X15_428 ?_
      refine z_icmp_lt O 64 dX15_hundredths_55 (by decide) (fun c => ?_) (fun c => ?_)
      · replace h := h.1 c
        refine z_iconst (v := 0) O dX15_hundredths_64 rfl ?_
        exact z_to [0] rfl h
      · replace h := h.2 c
        refine z_sipush (v := 2048) O dX15_hundredths_58 rfl ?_
        refine z_goto O 65 dX15_hundredths_61 (by decide) ?_
        exact z_to [0] rfl h
    · replace h := h.2 c
      refine z_ldc2_w O dX15_hundredths_30 zk_X15_426 ?_
      exact z_lret O dX15_hundredths_33 h
set_option maxRecDepth 100000 in
set_option maxHeartbeats 4000000 in
theorem b_X15_hundredths_65 {G : zG} {X : zX} (O : zOK G X cX15_hundredths 5 RX15 (some .long) "hundredths") (hR : X.R = rm_X15_hundredths) {M : zM} {n k : Nat} {x3 : Int32} {s0 : Int32} {s1 : Int32} (h : ∀ y1 : Int32, y1 = (s1 - s0) → X.q M (some (.long ((Int32.toInt64 y1) * (Int32.toInt64 (1 <<< (((x3 / 2048) - (x3 / 2048) / 16 * 16) &&& 31))))))) : zW G X 5 M n k 65 [(3, .int x3)] [.int s0, .int s1] := by
  refine z_isub O dX15_hundredths_65 ?_
  refine z_topi (fun y1 ey1 => ?_)
  replace h := h y1 ey1
  refine z_istore (lv' := [(4, .int y1), (3, .int x3)]) O dX15_hundredths_66 (by decide) rfl ?_
  refine z_iload O dX15_hundredths_68 0 rfl ?_
  refine z_i2l O dX15_hundredths_70 ?_
  refine z_iconst (v := 1) O dX15_hundredths_71 rfl ?_
  refine z_iload_n O dX15_hundredths_72 rfl 1 rfl ?_
  refine z_sipush (v := 2048) O dX15_hundredths_73 rfl ?_
  refine z_idiv O dX15_hundredths_76 (by decide) ?_
  refine z_bipush (v := 16) O dX15_hundredths_77 rfl ?_
  refine z_irem O dX15_hundredths_79 (by decide) ?_
  refine z_ishl O dX15_hundredths_80 ?_
  refine z_i2l O dX15_hundredths_81 ?_
  refine z_lmul O dX15_hundredths_82 ?_
  exact z_lret O dX15_hundredths_83 h
set_option maxRecDepth 100000 in
set_option maxHeartbeats 4000000 in
theorem b_X15_point_0 {G : zG} {X : zX} (O : zOK G X cX15_point 6 RX15 (some .int) "point") (hR : X.R = rm_X15_point) {M : zM} {n k : Nat} {a0 : Nat} {x1 : Int32} {x2 : Int32} {x3 : Int32} (h : M.1 a0 = 15 ∧ ∀ M1 : zM, M1 = zi M a0 0 0 → M1.1 a0 = 15 ∧ zC G yX15_isObject cX15_isObject 3 (some .boolean) rm_X15_isObject M1 [.ref a0, .int x1, .int x2] (fun M2 v => ∃ r3 : Int32, v = some (.int r3) ∧ (r3 = 0 → X.q M2 (some (.int (-1)))) ∧ (¬ r3 = 0 → M2.1 a0 = 15 ∧ ∃ b4 : Nat, M2.2.2.2 a0 8 = some b4 ∧ M2.1 b4 = 110 ∧ vp_in x1 (M2.2.1 b4) ∧ ∃ b5 : Nat, M2.2.2.2 b4 x1.toNatClampNeg = some b5 ∧ M2.1 b5 = 13 ∧ ∃ b6 : Nat, M2.2.2.2 b5 7 = some b6 ∧ M2.1 b6 = 100 ∧ vp_in x2 (M2.2.1 b6) ∧ ((M2.2.2.1 b6 x2.toNatClampNeg) = 16 → zW G X 6 M2 n k 35 [(0, .ref a0), (1, .int x1), (2, .int x2), (3, .int x3), (4, .int 0)] []) ∧ (¬ (M2.2.2.1 b6 x2.toNatClampNeg) = 16 → X.q M2 (some (.int (-1))))))) : zW G X 6 M n k 0 [(0, .ref a0), (1, .int x1), (2, .int x2), (3, .int x3)] [] := by
  refine z_aload_n O dX15_point_0 rfl 0 rfl ?_
  refine z_iconst (v := 0) O dX15_point_1 rfl ?_
  obtain ⟨hk, h⟩ := h
  refine z_puti O zp_X15_93_14 dX15_point_2 hk ?_
  generalize eM1 : zi M a0 0 0 = M1
  replace h := h M1 eM1.symm
  refine z_aload_n O dX15_point_5 rfl 0 rfl ?_
  refine z_iload_n O dX15_point_6 rfl 1 rfl ?_
  refine z_iload_n O dX15_point_7 rfl 2 rfl ?_
  obtain ⟨hk, h⟩ := h
  refine z_callV0 (As := [.int x1, .int x2]) O zc_X15_409 h hk rfl (zRm_of hR (by decide) (by decide)) (Nat.le_of_ble_eq_true rfl) dX15_point_8 rfl rfl rfl (fun M2 v h => ?_)
  obtain ⟨r3, rfl, h⟩ := h
  refine z_if_eq O 30 dX15_point_11 (by decide) (fun c => ?_) (fun c => ?_)
  · replace h := h.1 c
    refine z_iconst (v := (-1)) O dX15_point_30 rfl ?_
    exact z_iret O dX15_point_31 h
  · replace h := h.2 c
    refine z_aload_n O dX15_point_14 rfl 0 rfl ?_
    obtain ⟨hk, b4, hr, h⟩ := h
    refine z_getr O zf_X15_21_14 dX15_point_15 hk hr ?_
    refine z_iload_n O dX15_point_18 rfl 1 rfl ?_
    obtain ⟨hk, hi, b5, hr, h⟩ := h
    refine z_ald (t := 8) O rfl dX15_point_19 hk hi hr ?_
    obtain ⟨hk, b6, hr, h⟩ := h
    refine z_getr O zf_X15_167_12 dX15_point_20 hk hr ?_
    refine z_iload_n O dX15_point_23 rfl 2 rfl ?_
    obtain ⟨hk, hi, h⟩ := h
    refine z_iald O dX15_point_24 hk hi ?_
    refine z_bipush (v := 16) O dX15_point_25 rfl ?_
    refine z_icmp_eq O 32 dX15_point_27 (by decide) (fun c => ?_) (fun c => ?_)
    · replace h := h.1 c
      refine z_iconst (v := 0) O dX15_point_32 rfl ?_
      refine z_istore (lv' := [(4, .int 0), (0, .ref a0), (1, .int x1), (2, .int x2), (3, .int x3)]) O dX15_point_33 (by decide) rfl ?_
      exact z_to [1, 2, 3, 4, 0] rfl h
    · replace h := h.2 c
      refine z_iconst (v := (-1)) O dX15_point_30 rfl ?_
      exact z_iret O dX15_point_31 h
set_option maxRecDepth 100000 in
set_option maxHeartbeats 4000000 in
theorem b_X15_point_35 {G : zG} {X : zX} (O : zOK G X cX15_point 6 RX15 (some .int) "point") (hR : X.R = rm_X15_point) {M : zM} {n k : Nat} {a0 : Nat} {x1 : Int32} {x2 : Int32} {x3 : Int32} {x4 : Int32} (h : (16 ≤ x4 → X.q M (some (.int (-1)))) ∧ (¬ 16 ≤ x4 → ∀ y1 : Int32, y1 = (x3 >>> (x4 &&& 31)) → zC G yX15_in cX15_in 3 (some .boolean) rm_X15_in M [.int y1, .int (-2048), .int 2047] (fun M2 v => ∃ r3 : Int32, v = some (.int r3) ∧ (r3 = 0 → ∀ y4 : Int32, y4 = x4 + 1 → zW G X 6 M2 n k 35 [(0, .ref a0), (1, .int x1), (2, .int x2), (3, .int x3), (4, .int y4)] []) ∧ (¬ r3 = 0 → M2.1 a0 = 15 ∧ ∃ b5 : Nat, M2.2.2.2 a0 8 = some b5 ∧ M2.1 b5 = 110 ∧ vp_in x1 (M2.2.1 b5) ∧ ∃ b6 : Nat, M2.2.2.2 b5 x1.toNatClampNeg = some b6 ∧ (0 ≤ y1 → zW G X 6 M2 n k 82 [(4, .int x4), (5, .int y1)] [.int 0, .int x2, .ref b6, .ref a0]) ∧ (¬ 0 ≤ y1 → zW G X 6 M2 n k 82 [(4, .int x4), (5, .int y1)] [.int 32768, .int x2, .ref b6, .ref a0]))))) : zW G X 6 M n k 35 [(0, .ref a0), (1, .int x1), (2, .int x2), (3, .int x3), (4, .int x4)] [] := by
  refine z_iload O dX15_point_35 4 rfl ?_
  refine z_bipush (v := 16) O dX15_point_37 rfl ?_
  refine z_icmp_ge O 106 dX15_point_39 (by decide) (fun c => ?_) (fun c => ?_)
  · replace h := h.1 c
    refine z_iconst (v := (-1)) O dX15_point_106 rfl ?_
    exact z_iret O dX15_point_107 h
  · replace h := h.2 c
    refine z_iload_n O dX15_point_42 rfl 3 rfl ?_
    refine z_iload O dX15_point_43 4 rfl ?_
    refine z_ishr O dX15_point_45 ?_
    refine z_topi (fun y1 ey1 => ?_)
    replace h := h y1 ey1
    refine z_istore (lv' := [(5, .int y1), (0, .ref a0), (1, .int x1), (2, .int x2), (3, .int x3), (4, .int x4)]) O dX15_point_46 (by decide) rfl ?_
    refine z_iload O dX15_point_48 0 rfl ?_
    refine z_sipush (v := (-2048)) O dX15_point_50 rfl ?_
    refine z_sipush (v := 2047) O dX15_point_53 rfl ?_
    refine z_callS0 (As := [.int y1, .int (-2048), .int 2047]) O zc_X15_135 h rfl (zRm_of hR (by decide) (by decide)) (Nat.le_of_ble_eq_true rfl) dX15_point_56 rfl rfl rfl (fun M2 v h => ?_)
    obtain ⟨r3, rfl, h⟩ := h
    refine z_if_eq O 100 dX15_point_59 (by decide) (fun c => ?_) (fun c => ?_)
    · replace h := h.1 c
      obtain ⟨y4, ey4⟩ : ∃ y : Int32, y = x4 + 1 := ⟨_, rfl⟩
      replace h := h y4 ey4
      refine z_iinc (v := y4) (lv' := [(4, .int y4), (5, .int y1), (0, .ref a0), (1, .int x1), (2, .int x2), (3, .int x3)]) O dX15_point_100 (q := 5) rfl (by rw [ey4]; rfl) (by decide) rfl ?_
      refine z_goto O 35 dX15_point_103 (by decide) ?_
      exact z_to [2, 3, 4, 5, 0] rfl h
    · replace h := h.2 c
      refine z_aload_n O dX15_point_62 rfl 1 rfl ?_
      refine z_aload_n O dX15_point_63 rfl 1 rfl ?_
      obtain ⟨hk, b5, hr, h⟩ := h
      refine z_getr O zf_X15_21_14 dX15_point_64 hk hr ?_
      refine z_iload_n O dX15_point_67 rfl 2 rfl ?_
      obtain ⟨hk, hi, b6, hr, h⟩ := h
      refine z_ald (t := 8) O rfl dX15_point_68 hk hi hr ?_
      refine z_iload_n O dX15_point_69 rfl 3 rfl ?_
      refine z_iload O dX15_point_70 0 rfl ?_
      refine z_if_ge O 81 dX15_point_72 (by decide) (fun c => ?_) (fun c => ?_)
      · replace h := h.1 c
        refine z_iconst (v := 0) O dX15_point_81 rfl ?_
        exact z_to [5, 0] rfl h
      · replace h := h.2 c
        refine z_ldc_w O dX15_point_75 zk_X15_428 ?_
        refine z_goto O 82 dX15_point_78 (by decide) ?_
        exact z_to [5, 0] rfl h
set_option maxRecDepth 100000 in
set_option maxHeartbeats 4000000 in
theorem b_X15_point_82 {G : zG} {X : zX} (O : zOK G X cX15_point 6 RX15 (some .int) "point") (hR : X.R = rm_X15_point) {M : zM} {n k : Nat} {x4 : Int32} {x5 : Int32} {s0 : Int32} {s1 : Int32} {b2 : Nat} {b3 : Nat} (h : M.1 b3 = 15 ∧ zC G yX15_sets cX15_sets 6 (some .int) rm_X15_sets M [.ref b3, .ref b2, .int s1, .int ((s0 + (2048 * x4)) + (x5 &&& 2047))] (fun M1 v => ∃ r2 : Int32, v = some (.int r2) ∧ X.q M1 (some (.int r2)))) : zW G X 6 M n k 82 [(4, .int x4), (5, .int x5)] [.int s0, .int s1, .ref b2, .ref b3] := by
  refine z_sipush (v := 2048) O dX15_point_82 rfl ?_
  refine z_iload O dX15_point_85 0 rfl ?_
  refine z_imul O dX15_point_87 ?_
  refine z_iadd O dX15_point_88 ?_
  refine z_iload O dX15_point_89 1 rfl ?_
  refine z_sipush (v := 2047) O dX15_point_91 rfl ?_
  refine z_iand O dX15_point_94 ?_
  refine z_iadd O dX15_point_95 ?_
  obtain ⟨hk, h⟩ := h
  refine z_callV0 (As := [.ref b2, .int s1, .int ((s0 + (2048 * x4)) + (x5 &&& 2047))]) O zc_X15_417 h hk rfl (zRm_of hR (by decide) (by decide)) (Nat.le_of_ble_eq_true rfl) dX15_point_96 rfl rfl rfl (fun M1 v h => ?_)
  obtain ⟨r2, rfl, h⟩ := h
  exact z_iret O dX15_point_99 h
set_option maxRecDepth 100000 in
set_option maxHeartbeats 4000000 in
theorem b_X15_connect_0 {G : zG} {X : zX} (O : zOK G X cX15_connect 4 RX15 (some .boolean) "connect") (hR : X.R = rm_X15_connect) {M : zM} {n k : Nat} {a0 : Nat} {x1 : Int32} {x2 : Int32} (h : M.1 a0 = 15 ∧ ∀ M1 : zM, M1 = zi M a0 0 0 → M1.1 a0 = 15 ∧ zC G yX15_isDevice cX15_isDevice 2 (some .boolean) rm_X15_isDevice M1 [.ref a0, .int x1] (fun M2 v => ∃ r3 : Int32, v = some (.int r3) ∧ (r3 = 0 → X.q M2 (some (.int 0))) ∧ (¬ r3 = 0 → zC G yX15_in cX15_in 3 (some .boolean) rm_X15_in M2 [.int x2, .int 0, .int 65535] (fun M4 v => ∃ r5 : Int32, v = some (.int r5) ∧ (r5 = 0 → X.q M4 (some (.int 0))) ∧ (¬ r5 = 0 → M4.1 a0 = 15 ∧ ∃ b6 : Nat, M4.2.2.2 a0 8 = some b6 ∧ M4.1 b6 = 110 ∧ vp_in x1 (M4.2.1 b6) ∧ ∃ b7 : Nat, M4.2.2.2 b6 x1.toNatClampNeg = some b7 ∧ M4.1 b7 = 13 ∧ (¬ (M4.2.2.1 b7 18) = 0 → X.q M4 (some (.int 0))) ∧ ((M4.2.2.1 b7 18) = 0 → M4.1 a0 = 15 ∧ ∃ b8 : Nat, M4.2.2.2 a0 8 = some b8 ∧ M4.1 b8 = 110 ∧ vp_in x1 (M4.2.1 b8) ∧ ∃ b9 : Nat, M4.2.2.2 b8 x1.toNatClampNeg = some b9 ∧ M4.1 b9 = 13 ∧ ∃ b10 : Nat, M4.2.2.2 b9 2 = some b10 ∧ M4.1 b10 = 14 ∧ (¬ (M4.2.2.1 b10 5) = 8 → M4.1 a0 = 15 ∧ ∃ b11 : Nat, M4.2.2.2 a0 8 = some b11 ∧ M4.1 b11 = 110 ∧ vp_in x1 (M4.2.1 b11) ∧ ∃ b12 : Nat, M4.2.2.2 b11 x1.toNatClampNeg = some b12 ∧ M4.1 b12 = 13 ∧ ∀ M13 : zM, M13 = zi M4 b12 18 3 → M13.1 b12 = 13 ∧ ∀ M14 : zM, M14 = zi M13 b12 19 x2 → M14.1 b12 = 13 ∧ ∀ M15 : zM, M15 = zi M14 b12 20 0 → M15.1 b12 = 13 ∧ ∀ M16 : zM, M16 = zi M15 b12 21 0 → M16.1 a0 = 15 ∧ zC G yX15_tellsOne cX15_tellsOne 4 (some .int) rm_X15_tellsOne M16 [.ref a0, .ref b12, .int x2, .int 128] (fun M17 v => ∃ r18 : Int32, v = some (.int r18) ∧ M17.1 b12 = 13 ∧ ∀ M19 : zM, M19 = zi M17 b12 25 r18 → X.q M19 (some (.int 1)))) ∧ ((M4.2.2.1 b10 5) = 8 → X.q M4 (some (.int 0))))))))) : zW G X 4 M n k 0 [(0, .ref a0), (1, .int x1), (2, .int x2)] [] := by
  refine z_aload_n O dX15_connect_0 rfl 0 rfl ?_
  refine z_iconst (v := 0) O dX15_connect_1 rfl ?_
  obtain ⟨hk, h⟩ := h
  refine z_puti O zp_X15_93_14 dX15_connect_2 hk ?_
  generalize eM1 : zi M a0 0 0 = M1
  replace h := h M1 eM1.symm
  refine z_aload_n O dX15_connect_5 rfl 0 rfl ?_
  refine z_iload_n O dX15_connect_6 rfl 1 rfl ?_
  obtain ⟨hk, h⟩ := h
  refine z_callV0 (As := [.int x1]) O zc_X15_145 h hk rfl (zRm_of hR (by decide) (by decide)) (Nat.le_of_ble_eq_true rfl) dX15_connect_7 rfl rfl rfl (fun M2 v h => ?_)
  obtain ⟨r3, rfl, h⟩ := h
  refine z_if_eq O 53 dX15_connect_10 (by decide) (fun c => ?_) (fun c => ?_)
  · replace h := h.1 c
    refine z_iconst (v := 0) O dX15_connect_53 rfl ?_
    exact z_zret O dX15_connect_54 (by decide) h
  · replace h := h.2 c
    refine z_iload_n O dX15_connect_13 rfl 2 rfl ?_
    refine z_iconst (v := 0) O dX15_connect_14 rfl ?_
    refine z_ldc_w O dX15_connect_15 zk_X15_405 ?_
    refine z_callS0 (As := [.int x2, .int 0, .int 65535]) O zc_X15_135 h rfl (zRm_of hR (by decide) (by decide)) (Nat.le_of_ble_eq_true rfl) dX15_connect_18 rfl rfl rfl (fun M4 v h => ?_)
    obtain ⟨r5, rfl, h⟩ := h
    refine z_if_eq O 53 dX15_connect_21 (by decide) (fun c => ?_) (fun c => ?_)
    · replace h := h.1 c
      refine z_iconst (v := 0) O dX15_connect_53 rfl ?_
      exact z_zret O dX15_connect_54 (by decide) h
    · replace h := h.2 c
      refine z_aload_n O dX15_connect_24 rfl 0 rfl ?_
      obtain ⟨hk, b6, hr, h⟩ := h
      refine z_getr O zf_X15_21_14 dX15_connect_25 hk hr ?_
      refine z_iload_n O dX15_connect_28 rfl 1 rfl ?_
      obtain ⟨hk, hi, b7, hr, h⟩ := h
      refine z_ald (t := 8) O rfl dX15_connect_29 hk hi hr ?_
      obtain ⟨hk, h⟩ := h
      refine z_geti O zf_X15_210_12 dX15_connect_30 hk ?_
      refine z_if_ne O 53 dX15_connect_33 (by decide) (fun c => ?_) (fun c => ?_)
      · replace h := h.1 c
        refine z_iconst (v := 0) O dX15_connect_53 rfl ?_
        exact z_zret O dX15_connect_54 (by decide) h
      · replace h := h.2 c
        refine z_aload_n O dX15_connect_36 rfl 0 rfl ?_
        obtain ⟨hk, b8, hr, h⟩ := h
        refine z_getr O zf_X15_21_14 dX15_connect_37 hk hr ?_
        refine z_iload_n O dX15_connect_40 rfl 1 rfl ?_
        obtain ⟨hk, hi, b9, hr, h⟩ := h
        refine z_ald (t := 8) O rfl dX15_connect_41 hk hi hr ?_
        obtain ⟨hk, b10, hr, h⟩ := h
        refine z_getr O zf_X15_155_12 dX15_connect_42 hk hr ?_
        obtain ⟨hk, h⟩ := h
        refine z_geti O zf_X15_96_13 dX15_connect_45 hk ?_
        refine z_bipush (v := 8) O dX15_connect_48 rfl ?_
        refine z_icmp_ne O 55 dX15_connect_50 (by decide) (fun c => ?_) (fun c => ?_)
        · replace h := h.1 c
          refine z_aload_n O dX15_connect_55 rfl 0 rfl ?_
          obtain ⟨hk, b11, hr, h⟩ := h
          refine z_getr O zf_X15_21_14 dX15_connect_56 hk hr ?_
          refine z_iload_n O dX15_connect_59 rfl 1 rfl ?_
          obtain ⟨hk, hi, b12, hr, h⟩ := h
          refine z_ald (t := 8) O rfl dX15_connect_60 hk hi hr ?_
          refine z_astore_n (lv' := [(3, .ref b12), (0, .ref a0), (1, .int x1), (2, .int x2)]) O dX15_connect_61 rfl (by decide) rfl ?_
          refine z_aload_n O dX15_connect_62 rfl 0 rfl ?_
          refine z_iconst (v := 3) O dX15_connect_63 rfl ?_
          obtain ⟨hk, h⟩ := h
          refine z_puti O zp_X15_210_12 dX15_connect_64 hk ?_
          generalize eM13 : zi M4 b12 18 3 = M13
          replace h := h M13 eM13.symm
          refine z_aload_n O dX15_connect_67 rfl 0 rfl ?_
          refine z_iload_n O dX15_connect_68 rfl 3 rfl ?_
          obtain ⟨hk, h⟩ := h
          refine z_puti O zp_X15_203_12 dX15_connect_69 hk ?_
          generalize eM14 : zi M13 b12 19 x2 = M14
          replace h := h M14 eM14.symm
          refine z_aload_n O dX15_connect_72 rfl 0 rfl ?_
          refine z_iconst (v := 0) O dX15_connect_73 rfl ?_
          obtain ⟨hk, h⟩ := h
          refine z_puti O zp_X15_216_12 dX15_connect_74 hk ?_
          generalize eM15 : zi M14 b12 20 0 = M15
          replace h := h M15 eM15.symm
          refine z_aload_n O dX15_connect_77 rfl 0 rfl ?_
          refine z_iconst (v := 0) O dX15_connect_78 rfl ?_
          obtain ⟨hk, h⟩ := h
          refine z_puti O zp_X15_246_12 dX15_connect_79 hk ?_
          generalize eM16 : zi M15 b12 21 0 = M16
          replace h := h M16 eM16.symm
          refine z_aload_n O dX15_connect_82 rfl 0 rfl ?_
          refine z_aload_n O dX15_connect_83 rfl 1 rfl ?_
          refine z_aload_n O dX15_connect_84 rfl 0 rfl ?_
          refine z_iload_n O dX15_connect_85 rfl 3 rfl ?_
          refine z_sipush (v := 128) O dX15_connect_86 rfl ?_
          obtain ⟨hk, h⟩ := h
          refine z_callV0 (As := [.ref b12, .int x2, .int 128]) O zc_X15_206 h hk rfl (zRm_of hR (by decide) (by decide)) (Nat.le_of_ble_eq_true rfl) dX15_connect_89 rfl rfl rfl (fun M17 v h => ?_)
          obtain ⟨r18, rfl, h⟩ := h
          obtain ⟨hk, h⟩ := h
          refine z_puti O zp_X15_396_12 dX15_connect_92 hk ?_
          generalize eM19 : zi M17 b12 25 r18 = M19
          replace h := h M19 eM19.symm
          refine z_iconst (v := 1) O dX15_connect_95 rfl ?_
          exact z_zret O dX15_connect_96 (by decide) h
        · replace h := h.2 c
          refine z_iconst (v := 0) O dX15_connect_53 rfl ?_
          exact z_zret O dX15_connect_54 (by decide) h
set_option maxRecDepth 100000 in
set_option maxHeartbeats 4000000 in
theorem b_X15_disconnect_0 {G : zG} {X : zX} (O : zOK G X cX15_disconnect 2 RX15 (some .boolean) "disconnect") (hR : X.R = rm_X15_disconnect) {M : zM} {n k : Nat} {a0 : Nat} {x1 : Int32} (h : M.1 a0 = 15 ∧ ∀ M1 : zM, M1 = zi M a0 0 0 → M1.1 a0 = 15 ∧ zC G yX15_isDevice cX15_isDevice 2 (some .boolean) rm_X15_isDevice M1 [.ref a0, .int x1] (fun M2 v => ∃ r3 : Int32, v = some (.int r3) ∧ (r3 = 0 → X.q M2 (some (.int 0))) ∧ (¬ r3 = 0 → M2.1 a0 = 15 ∧ ∃ b4 : Nat, M2.2.2.2 a0 8 = some b4 ∧ M2.1 b4 = 110 ∧ vp_in x1 (M2.2.1 b4) ∧ ∃ b5 : Nat, M2.2.2.2 b4 x1.toNatClampNeg = some b5 ∧ M2.1 b5 = 13 ∧ (¬ (M2.2.2.1 b5 18) = 0 → M2.1 a0 = 15 ∧ ∃ b6 : Nat, M2.2.2.2 a0 8 = some b6 ∧ M2.1 b6 = 110 ∧ vp_in x1 (M2.2.1 b6) ∧ ∃ b7 : Nat, M2.2.2.2 b6 x1.toNatClampNeg = some b7 ∧ M2.1 a0 = 15 ∧ zC G yX15_closes cX15_closes 3 none rm_X15_closes M2 [.ref a0, .ref b7] (fun M8 v => v = none ∧ X.q M8 (some (.int 1)))) ∧ ((M2.2.2.1 b5 18) = 0 → X.q M2 (some (.int 0)))))) : zW G X 2 M n k 0 [(0, .ref a0), (1, .int x1)] [] := by
  refine z_aload_n O dX15_disconnect_0 rfl 0 rfl ?_
  refine z_iconst (v := 0) O dX15_disconnect_1 rfl ?_
  obtain ⟨hk, h⟩ := h
  refine z_puti O zp_X15_93_14 dX15_disconnect_2 hk ?_
  generalize eM1 : zi M a0 0 0 = M1
  replace h := h M1 eM1.symm
  refine z_aload_n O dX15_disconnect_5 rfl 0 rfl ?_
  refine z_iload_n O dX15_disconnect_6 rfl 1 rfl ?_
  obtain ⟨hk, h⟩ := h
  refine z_callV0 (As := [.int x1]) O zc_X15_145 h hk rfl (zRm_of hR (by decide) (by decide)) (Nat.le_of_ble_eq_true rfl) dX15_disconnect_7 rfl rfl rfl (fun M2 v h => ?_)
  obtain ⟨r3, rfl, h⟩ := h
  refine z_if_eq O 25 dX15_disconnect_10 (by decide) (fun c => ?_) (fun c => ?_)
  · replace h := h.1 c
    refine z_iconst (v := 0) O dX15_disconnect_25 rfl ?_
    exact z_zret O dX15_disconnect_26 (by decide) h
  · replace h := h.2 c
    refine z_aload_n O dX15_disconnect_13 rfl 0 rfl ?_
    obtain ⟨hk, b4, hr, h⟩ := h
    refine z_getr O zf_X15_21_14 dX15_disconnect_14 hk hr ?_
    refine z_iload_n O dX15_disconnect_17 rfl 1 rfl ?_
    obtain ⟨hk, hi, b5, hr, h⟩ := h
    refine z_ald (t := 8) O rfl dX15_disconnect_18 hk hi hr ?_
    obtain ⟨hk, h⟩ := h
    refine z_geti O zf_X15_210_12 dX15_disconnect_19 hk ?_
    refine z_if_ne O 27 dX15_disconnect_22 (by decide) (fun c => ?_) (fun c => ?_)
    · replace h := h.1 c
      refine z_aload_n O dX15_disconnect_27 rfl 0 rfl ?_
      refine z_aload_n O dX15_disconnect_28 rfl 0 rfl ?_
      obtain ⟨hk, b6, hr, h⟩ := h
      refine z_getr O zf_X15_21_14 dX15_disconnect_29 hk hr ?_
      refine z_iload_n O dX15_disconnect_32 rfl 1 rfl ?_
      obtain ⟨hk, hi, b7, hr, h⟩ := h
      refine z_ald (t := 8) O rfl dX15_disconnect_33 hk hi hr ?_
      obtain ⟨hk, h⟩ := h
      refine z_callV0 (As := [.ref b7]) O zc_X15_231 h hk rfl (zRm_of hR (by decide) (by decide)) (Nat.le_of_ble_eq_true rfl) dX15_disconnect_34 rfl rfl rfl (fun M8 v h => ?_)
      obtain ⟨rfl, h⟩ := h
      refine z_iconst (v := 1) O dX15_disconnect_37 rfl ?_
      exact z_zret O dX15_disconnect_38 (by decide) h
    · replace h := h.2 c
      refine z_iconst (v := 0) O dX15_disconnect_25 rfl ?_
      exact z_zret O dX15_disconnect_26 (by decide) h
set_option maxRecDepth 100000 in
set_option maxHeartbeats 4000000 in
theorem b_X15_mayOrder_0 {G : zG} {X : zX} (O : zOK G X cX15_mayOrder 5 RX15 (some .boolean) "mayOrder") (hR : X.R = rm_X15_mayOrder) {M : zM} {n k : Nat} {a0 : Nat} {x1 : Int32} {x2 : Int32} {x3 : Int32} {x4 : Int32} (h : M.1 a0 = 15 ∧ zC G yX15_isDevice cX15_isDevice 2 (some .boolean) rm_X15_isDevice M [.ref a0, .int x1] (fun M1 v => ∃ r2 : Int32, v = some (.int r2) ∧ (r2 = 0 → X.q M1 (some (.int 0))) ∧ (¬ r2 = 0 → M1.1 a0 = 15 ∧ ∃ b3 : Nat, M1.2.2.2 a0 8 = some b3 ∧ M1.1 b3 = 110 ∧ vp_in x1 (M1.2.1 b3) ∧ ∃ b4 : Nat, M1.2.2.2 b3 x1.toNatClampNeg = some b4 ∧ M1.1 b4 = 13 ∧ (¬ (M1.2.2.1 b4 18) = 1 → X.q M1 (some (.int 0))) ∧ ((M1.2.2.1 b4 18) = 1 → M1.1 a0 = 15 ∧ ∃ b5 : Nat, M1.2.2.2 a0 8 = some b5 ∧ M1.1 b5 = 110 ∧ vp_in x1 (M1.2.1 b5) ∧ ∃ b6 : Nat, M1.2.2.2 b5 x1.toNatClampNeg = some b6 ∧ M1.1 b6 = 13 ∧ ∃ b7 : Nat, M1.2.2.2 b6 2 = some b7 ∧ M1.1 b7 = 14 ∧ (8 ≤ (M1.2.2.1 b7 5) → X.q M1 (some (.int 0))) ∧ (¬ 8 ≤ (M1.2.2.1 b7 5) → zC G yX15_in cX15_in 3 (some .boolean) rm_X15_in M1 [.int x2, .int 0, .int 65535] (fun M8 v => ∃ r9 : Int32, v = some (.int r9) ∧ (r9 = 0 → X.q M8 (some (.int 0))) ∧ (¬ r9 = 0 → zC G yX15_in cX15_in 3 (some .boolean) rm_X15_in M8 [.int x3, .int 1, .int x4] (fun M10 v => ∃ r11 : Int32, v = some (.int r11) ∧ (r11 = 0 → X.q M10 (some (.int 0))) ∧ (¬ r11 = 0 → X.q M10 (some (.int 1))))))))))) : zW G X 5 M n k 0 [(0, .ref a0), (1, .int x1), (2, .int x2), (3, .int x3), (4, .int x4)] [] := by
  refine z_aload_n O dX15_mayOrder_0 rfl 0 rfl ?_
  refine z_iload_n O dX15_mayOrder_1 rfl 1 rfl ?_
  obtain ⟨hk, h⟩ := h
  refine z_callV0 (As := [.int x1]) O zc_X15_145 h hk rfl (zRm_of hR (by decide) (by decide)) (Nat.le_of_ble_eq_true rfl) dX15_mayOrder_2 rfl rfl rfl (fun M1 v h => ?_)
  obtain ⟨r2, rfl, h⟩ := h
  refine z_if_eq O 63 dX15_mayOrder_5 (by decide) (fun c => ?_) (fun c => ?_)
  · replace h := h.1 c
    refine z_iconst (v := 0) O dX15_mayOrder_63 rfl ?_
    exact z_zret O dX15_mayOrder_64 (by decide) h
  · replace h := h.2 c
    refine z_aload_n O dX15_mayOrder_8 rfl 0 rfl ?_
    obtain ⟨hk, b3, hr, h⟩ := h
    refine z_getr O zf_X15_21_14 dX15_mayOrder_9 hk hr ?_
    refine z_iload_n O dX15_mayOrder_12 rfl 1 rfl ?_
    obtain ⟨hk, hi, b4, hr, h⟩ := h
    refine z_ald (t := 8) O rfl dX15_mayOrder_13 hk hi hr ?_
    obtain ⟨hk, h⟩ := h
    refine z_geti O zf_X15_210_12 dX15_mayOrder_14 hk ?_
    refine z_iconst (v := 1) O dX15_mayOrder_17 rfl ?_
    refine z_icmp_ne O 63 dX15_mayOrder_18 (by decide) (fun c => ?_) (fun c => ?_)
    · replace h := h.1 c
      refine z_iconst (v := 0) O dX15_mayOrder_63 rfl ?_
      exact z_zret O dX15_mayOrder_64 (by decide) h
    · replace h := h.2 c
      refine z_aload_n O dX15_mayOrder_21 rfl 0 rfl ?_
      obtain ⟨hk, b5, hr, h⟩ := h
      refine z_getr O zf_X15_21_14 dX15_mayOrder_22 hk hr ?_
      refine z_iload_n O dX15_mayOrder_25 rfl 1 rfl ?_
      obtain ⟨hk, hi, b6, hr, h⟩ := h
      refine z_ald (t := 8) O rfl dX15_mayOrder_26 hk hi hr ?_
      obtain ⟨hk, b7, hr, h⟩ := h
      refine z_getr O zf_X15_155_12 dX15_mayOrder_27 hk hr ?_
      obtain ⟨hk, h⟩ := h
      refine z_geti O zf_X15_96_13 dX15_mayOrder_30 hk ?_
      refine z_bipush (v := 8) O dX15_mayOrder_33 rfl ?_
      refine z_icmp_ge O 63 dX15_mayOrder_35 (by decide) (fun c => ?_) (fun c => ?_)
      · replace h := h.1 c
        refine z_iconst (v := 0) O dX15_mayOrder_63 rfl ?_
        exact z_zret O dX15_mayOrder_64 (by decide) h
      · replace h := h.2 c
        refine z_iload_n O dX15_mayOrder_38 rfl 2 rfl ?_
        refine z_iconst (v := 0) O dX15_mayOrder_39 rfl ?_
        refine z_ldc_w O dX15_mayOrder_40 zk_X15_405 ?_
        refine z_callS0 (As := [.int x2, .int 0, .int 65535]) O zc_X15_135 h rfl (zRm_of hR (by decide) (by decide)) (Nat.le_of_ble_eq_true rfl) dX15_mayOrder_43 rfl rfl rfl (fun M8 v h => ?_)
        obtain ⟨r9, rfl, h⟩ := h
        refine z_if_eq O 63 dX15_mayOrder_46 (by decide) (fun c => ?_) (fun c => ?_)
        · replace h := h.1 c
          refine z_iconst (v := 0) O dX15_mayOrder_63 rfl ?_
          exact z_zret O dX15_mayOrder_64 (by decide) h
        · replace h := h.2 c
          refine z_iload_n O dX15_mayOrder_49 rfl 3 rfl ?_
          refine z_iconst (v := 1) O dX15_mayOrder_50 rfl ?_
          refine z_iload O dX15_mayOrder_51 4 rfl ?_
          refine z_callS0 (As := [.int x3, .int 1, .int x4]) O zc_X15_135 h rfl (zRm_of hR (by decide) (by decide)) (Nat.le_of_ble_eq_true rfl) dX15_mayOrder_53 rfl rfl rfl (fun M10 v h => ?_)
          obtain ⟨r11, rfl, h⟩ := h
          refine z_if_eq O 63 dX15_mayOrder_56 (by decide) (fun c => ?_) (fun c => ?_)
          · replace h := h.1 c
            refine z_iconst (v := 0) O dX15_mayOrder_63 rfl ?_
            exact z_zret O dX15_mayOrder_64 (by decide) h
          · replace h := h.2 c
            refine z_iconst (v := 1) O dX15_mayOrder_59 rfl ?_
            refine z_goto O 64 dX15_mayOrder_60 (by decide) ?_
            exact z_zret O dX15_mayOrder_64 (by decide) h
set_option maxRecDepth 100000 in
set_option maxHeartbeats 4000000 in
theorem b_X15_peek_0 {G : zG} {X : zX} (O : zOK G X cX15_peek 4 RX15 (some .boolean) "peek") (hR : X.R = rm_X15_peek) {M : zM} {n k : Nat} {a0 : Nat} {x1 : Int32} {x2 : Int32} {x3 : Int32} (h : M.1 a0 = 15 ∧ ∀ M1 : zM, M1 = zi M a0 0 0 → M1.1 a0 = 15 ∧ zC G yX15_mayOrder cX15_mayOrder 5 (some .boolean) rm_X15_mayOrder M1 [.ref a0, .int x1, .int x2, .int x3, .int 12] (fun M2 v => ∃ r3 : Int32, v = some (.int r3) ∧ (¬ r3 = 0 → M2.1 a0 = 15 ∧ ∃ b4 : Nat, M2.2.2.2 a0 37 = some b4 ∧ M2.1 b4 = 100 ∧ vp_in (1 : Int32) (M2.2.1 b4) ∧ ∀ M5 : zM, M5 = zi M2 b4 ((1 : Int32).toNatClampNeg) x3 → M5.1 a0 = 15 ∧ ∃ b6 : Nat, M5.2.2.2 a0 37 = some b6 ∧ M5.1 b6 = 100 ∧ vp_in (2 : Int32) (M5.2.1 b6) ∧ ∀ M7 : zM, M7 = zi M5 b6 ((2 : Int32).toNatClampNeg) (x2 / 256) → M7.1 a0 = 15 ∧ ∃ b8 : Nat, M7.2.2.2 a0 37 = some b8 ∧ M7.1 b8 = 100 ∧ vp_in (3 : Int32) (M7.2.1 b8) ∧ ∀ M9 : zM, M9 = zi M7 b8 ((3 : Int32).toNatClampNeg) (x2 - x2 / 256 * 256) → M9.1 a0 = 15 ∧ ∃ b10 : Nat, M9.2.2.2 a0 8 = some b10 ∧ M9.1 b10 = 110 ∧ vp_in x1 (M9.2.1 b10) ∧ ∃ b11 : Nat, M9.2.2.2 b10 x1.toNatClampNeg = some b11 ∧ M9.1 a0 = 15 ∧ ∃ b12 : Nat, M9.2.2.2 a0 37 = some b12 ∧ M9.1 a0 = 15 ∧ zC G yX15_sendsData cX15_sendsData 5 none rm_X15_sendsData M9 [.ref a0, .ref b11, .ref b12, .int 4] (fun M13 v => v = none ∧ X.q M13 (some (.int 1)))) ∧ (r3 = 0 → X.q M2 (some (.int 0))))) : zW G X 4 M n k 0 [(0, .ref a0), (1, .int x1), (2, .int x2), (3, .int x3)] [] := by
  refine z_aload_n O dX15_peek_0 rfl 0 rfl ?_
  refine z_iconst (v := 0) O dX15_peek_1 rfl ?_
  obtain ⟨hk, h⟩ := h
  refine z_puti O zp_X15_93_14 dX15_peek_2 hk ?_
  generalize eM1 : zi M a0 0 0 = M1
  replace h := h M1 eM1.symm
  refine z_aload_n O dX15_peek_5 rfl 0 rfl ?_
  refine z_iload_n O dX15_peek_6 rfl 1 rfl ?_
  refine z_iload_n O dX15_peek_7 rfl 2 rfl ?_
  refine z_iload_n O dX15_peek_8 rfl 3 rfl ?_
  refine z_bipush (v := 12) O dX15_peek_9 rfl ?_
  obtain ⟨hk, h⟩ := h
  refine z_callV0 (As := [.int x1, .int x2, .int x3, .int 12]) O zc_X15_429 h hk rfl (zRm_of hR (by decide) (by decide)) (Nat.le_of_ble_eq_true rfl) dX15_peek_11 rfl rfl rfl (fun M2 v h => ?_)
  obtain ⟨r3, rfl, h⟩ := h
  refine z_if_ne O 19 dX15_peek_14 (by decide) (fun c => ?_) (fun c => ?_)
  · replace h := h.1 c
    refine z_aload_n O dX15_peek_19 rfl 0 rfl ?_
    obtain ⟨hk, b4, hr, h⟩ := h
    refine z_getr O zf_X15_84_14 dX15_peek_20 hk hr ?_
    refine z_iconst (v := 1) O dX15_peek_23 rfl ?_
    refine z_iload_n O dX15_peek_24 rfl 3 rfl ?_
    obtain ⟨hk, hi, h⟩ := h
    refine z_iast O dX15_peek_25 hk hi ?_
    generalize eM5 : zi M2 b4 ((1 : Int32).toNatClampNeg) x3 = M5
    replace h := h M5 eM5.symm
    refine z_aload_n O dX15_peek_26 rfl 0 rfl ?_
    obtain ⟨hk, b6, hr, h⟩ := h
    refine z_getr O zf_X15_84_14 dX15_peek_27 hk hr ?_
    refine z_iconst (v := 2) O dX15_peek_30 rfl ?_
    refine z_iload_n O dX15_peek_31 rfl 2 rfl ?_
    refine z_sipush (v := 256) O dX15_peek_32 rfl ?_
    refine z_idiv O dX15_peek_35 (by decide) ?_
    obtain ⟨hk, hi, h⟩ := h
    refine z_iast O dX15_peek_36 hk hi ?_
    generalize eM7 : zi M5 b6 ((2 : Int32).toNatClampNeg) (x2 / 256) = M7
    replace h := h M7 eM7.symm
    refine z_aload_n O dX15_peek_37 rfl 0 rfl ?_
    obtain ⟨hk, b8, hr, h⟩ := h
    refine z_getr O zf_X15_84_14 dX15_peek_38 hk hr ?_
    refine z_iconst (v := 3) O dX15_peek_41 rfl ?_
    refine z_iload_n O dX15_peek_42 rfl 2 rfl ?_
    refine z_sipush (v := 256) O dX15_peek_43 rfl ?_
    refine z_irem O dX15_peek_46 (by decide) ?_
    obtain ⟨hk, hi, h⟩ := h
    refine z_iast O dX15_peek_47 hk hi ?_
    generalize eM9 : zi M7 b8 ((3 : Int32).toNatClampNeg) (x2 - x2 / 256 * 256) = M9
    replace h := h M9 eM9.symm
    refine z_aload_n O dX15_peek_48 rfl 0 rfl ?_
    refine z_aload_n O dX15_peek_49 rfl 0 rfl ?_
    obtain ⟨hk, b10, hr, h⟩ := h
    refine z_getr O zf_X15_21_14 dX15_peek_50 hk hr ?_
    refine z_iload_n O dX15_peek_53 rfl 1 rfl ?_
    obtain ⟨hk, hi, b11, hr, h⟩ := h
    refine z_ald (t := 8) O rfl dX15_peek_54 hk hi hr ?_
    refine z_aload_n O dX15_peek_55 rfl 0 rfl ?_
    obtain ⟨hk, b12, hr, h⟩ := h
    refine z_getr O zf_X15_84_14 dX15_peek_56 hk hr ?_
    refine z_iconst (v := 4) O dX15_peek_59 rfl ?_
    obtain ⟨hk, h⟩ := h
    refine z_callV0 (As := [.ref b11, .ref b12, .int 4]) O zc_X15_259 h hk rfl (zRm_of hR (by decide) (by decide)) (Nat.le_of_ble_eq_true rfl) dX15_peek_60 rfl rfl rfl (fun M13 v h => ?_)
    obtain ⟨rfl, h⟩ := h
    refine z_iconst (v := 1) O dX15_peek_63 rfl ?_
    exact z_zret O dX15_peek_64 (by decide) h
  · replace h := h.2 c
    refine z_iconst (v := 0) O dX15_peek_17 rfl ?_
    exact z_zret O dX15_peek_18 (by decide) h
set_option maxRecDepth 100000 in
set_option maxHeartbeats 4000000 in
theorem b_X15_poke_0 {G : zG} {X : zX} (O : zOK G X cX15_poke 6 RX15 (some .boolean) "poke") (hR : X.R = rm_X15_poke) {M : zM} {n k : Nat} {a0 : Nat} {x1 : Int32} {x2 : Int32} {x3 : Int32} {x4 : Int32} (h : M.1 a0 = 15 ∧ ∀ M1 : zM, M1 = zi M a0 0 0 → M1.1 a0 = 15 ∧ zC G yX15_mayOrder cX15_mayOrder 5 (some .boolean) rm_X15_mayOrder M1 [.ref a0, .int x1, .int x2, .int x3, .int 4] (fun M2 v => ∃ r3 : Int32, v = some (.int r3) ∧ (¬ r3 = 0 → M2.1 a0 = 15 ∧ ∃ b4 : Nat, M2.2.2.2 a0 37 = some b4 ∧ M2.1 b4 = 100 ∧ vp_in (1 : Int32) (M2.2.1 b4) ∧ ∀ M5 : zM, M5 = zi M2 b4 ((1 : Int32).toNatClampNeg) (128 + x3) → M5.1 a0 = 15 ∧ ∃ b6 : Nat, M5.2.2.2 a0 37 = some b6 ∧ M5.1 b6 = 100 ∧ vp_in (2 : Int32) (M5.2.1 b6) ∧ ∀ M7 : zM, M7 = zi M5 b6 ((2 : Int32).toNatClampNeg) (x2 / 256) → M7.1 a0 = 15 ∧ ∃ b8 : Nat, M7.2.2.2 a0 37 = some b8 ∧ M7.1 b8 = 100 ∧ vp_in (3 : Int32) (M7.2.1 b8) ∧ ∀ M9 : zM, M9 = zi M7 b8 ((3 : Int32).toNatClampNeg) (x2 - x2 / 256 * 256) → zW G X 6 M9 n k 54 [(0, .ref a0), (1, .int x1), (3, .int x3), (4, .int x4), (5, .int 0)] []) ∧ (r3 = 0 → X.q M2 (some (.int 0))))) : zW G X 6 M n k 0 [(0, .ref a0), (1, .int x1), (2, .int x2), (3, .int x3), (4, .int x4)] [] := by
  refine z_aload_n O dX15_poke_0 rfl 0 rfl ?_
  refine z_iconst (v := 0) O dX15_poke_1 rfl ?_
  obtain ⟨hk, h⟩ := h
  refine z_puti O zp_X15_93_14 dX15_poke_2 hk ?_
  generalize eM1 : zi M a0 0 0 = M1
  replace h := h M1 eM1.symm
  refine z_aload_n O dX15_poke_5 rfl 0 rfl ?_
  refine z_iload_n O dX15_poke_6 rfl 1 rfl ?_
  refine z_iload_n O dX15_poke_7 rfl 2 rfl ?_
  refine z_iload_n O dX15_poke_8 rfl 3 rfl ?_
  refine z_iconst (v := 4) O dX15_poke_9 rfl ?_
  obtain ⟨hk, h⟩ := h
  refine z_callV0 (As := [.int x1, .int x2, .int x3, .int 4]) O zc_X15_429 h hk rfl (zRm_of hR (by decide) (by decide)) (Nat.le_of_ble_eq_true rfl) dX15_poke_10 rfl rfl rfl (fun M2 v h => ?_)
  obtain ⟨r3, rfl, h⟩ := h
  refine z_if_ne O 18 dX15_poke_13 (by decide) (fun c => ?_) (fun c => ?_)
  · replace h := h.1 c
    refine z_aload_n O dX15_poke_18 rfl 0 rfl ?_
    obtain ⟨hk, b4, hr, h⟩ := h
    refine z_getr O zf_X15_84_14 dX15_poke_19 hk hr ?_
    refine z_iconst (v := 1) O dX15_poke_22 rfl ?_
    refine z_sipush (v := 128) O dX15_poke_23 rfl ?_
    refine z_iload_n O dX15_poke_26 rfl 3 rfl ?_
    refine z_iadd O dX15_poke_27 ?_
    obtain ⟨hk, hi, h⟩ := h
    refine z_iast O dX15_poke_28 hk hi ?_
    generalize eM5 : zi M2 b4 ((1 : Int32).toNatClampNeg) (128 + x3) = M5
    replace h := h M5 eM5.symm
    refine z_aload_n O dX15_poke_29 rfl 0 rfl ?_
    obtain ⟨hk, b6, hr, h⟩ := h
    refine z_getr O zf_X15_84_14 dX15_poke_30 hk hr ?_
    refine z_iconst (v := 2) O dX15_poke_33 rfl ?_
    refine z_iload_n O dX15_poke_34 rfl 2 rfl ?_
    refine z_sipush (v := 256) O dX15_poke_35 rfl ?_
    refine z_idiv O dX15_poke_38 (by decide) ?_
    obtain ⟨hk, hi, h⟩ := h
    refine z_iast O dX15_poke_39 hk hi ?_
    generalize eM7 : zi M5 b6 ((2 : Int32).toNatClampNeg) (x2 / 256) = M7
    replace h := h M7 eM7.symm
    refine z_aload_n O dX15_poke_40 rfl 0 rfl ?_
    obtain ⟨hk, b8, hr, h⟩ := h
    refine z_getr O zf_X15_84_14 dX15_poke_41 hk hr ?_
    refine z_iconst (v := 3) O dX15_poke_44 rfl ?_
    refine z_iload_n O dX15_poke_45 rfl 2 rfl ?_
    refine z_sipush (v := 256) O dX15_poke_46 rfl ?_
    refine z_irem O dX15_poke_49 (by decide) ?_
    obtain ⟨hk, hi, h⟩ := h
    refine z_iast O dX15_poke_50 hk hi ?_
    generalize eM9 : zi M7 b8 ((3 : Int32).toNatClampNeg) (x2 - x2 / 256 * 256) = M9
    replace h := h M9 eM9.symm
    refine z_iconst (v := 0) O dX15_poke_51 rfl ?_
    refine z_istore (lv' := [(5, .int 0), (0, .ref a0), (1, .int x1), (2, .int x2), (3, .int x3), (4, .int x4)]) O dX15_poke_52 (by decide) rfl ?_
    exact z_to [1, 2, 4, 5, 0] rfl h
  · replace h := h.2 c
    refine z_iconst (v := 0) O dX15_poke_16 rfl ?_
    exact z_zret O dX15_poke_17 (by decide) h
set_option maxRecDepth 100000 in
set_option maxHeartbeats 4000000 in
theorem b_X15_poke_54 {G : zG} {X : zX} (O : zOK G X cX15_poke 6 RX15 (some .boolean) "poke") (hR : X.R = rm_X15_poke) {M : zM} {n k : Nat} {a0 : Nat} {x1 : Int32} {x3 : Int32} {x4 : Int32} {x5 : Int32} (h : (x3 ≤ x5 → M.1 a0 = 15 ∧ ∃ b1 : Nat, M.2.2.2 a0 8 = some b1 ∧ M.1 b1 = 110 ∧ vp_in x1 (M.2.1 b1) ∧ ∃ b2 : Nat, M.2.2.2 b1 x1.toNatClampNeg = some b2 ∧ M.1 a0 = 15 ∧ ∃ b3 : Nat, M.2.2.2 a0 37 = some b3 ∧ M.1 a0 = 15 ∧ zC G yX15_sendsData cX15_sendsData 5 none rm_X15_sendsData M [.ref a0, .ref b2, .ref b3, .int (4 + x3)] (fun M4 v => v = none ∧ X.q M4 (some (.int 1)))) ∧ (¬ x3 ≤ x5 → M.1 a0 = 15 ∧ ∃ b5 : Nat, M.2.2.2 a0 37 = some b5 ∧ M.1 b5 = 100 ∧ vp_in ((4 + x5)) (M.2.1 b5) ∧ ∀ M6 : zM, M6 = zi M b5 (((4 + x5)).toNatClampNeg) ((x4 >>> ((8 * ((x3 - 1) - x5)) &&& 31)) &&& 255) → ∀ y7 : Int32, y7 = x5 + 1 → zW G X 6 M6 n k 54 [(0, .ref a0), (1, .int x1), (3, .int x3), (4, .int x4), (5, .int y7)] [])) : zW G X 6 M n k 54 [(0, .ref a0), (1, .int x1), (3, .int x3), (4, .int x4), (5, .int x5)] [] := by
  refine z_iload O dX15_poke_54 4 rfl ?_
  refine z_iload_n O dX15_poke_56 rfl 2 rfl ?_
  refine z_icmp_ge O 91 dX15_poke_57 (by decide) (fun c => ?_) (fun c => ?_)
  · replace h := h.1 c
    refine z_aload_n O dX15_poke_91 rfl 0 rfl ?_
    refine z_aload_n O dX15_poke_92 rfl 0 rfl ?_
    obtain ⟨hk, b1, hr, h⟩ := h
    refine z_getr O zf_X15_21_14 dX15_poke_93 hk hr ?_
    refine z_iload_n O dX15_poke_96 rfl 1 rfl ?_
    obtain ⟨hk, hi, b2, hr, h⟩ := h
    refine z_ald (t := 8) O rfl dX15_poke_97 hk hi hr ?_
    refine z_aload_n O dX15_poke_98 rfl 0 rfl ?_
    obtain ⟨hk, b3, hr, h⟩ := h
    refine z_getr O zf_X15_84_14 dX15_poke_99 hk hr ?_
    refine z_iconst (v := 4) O dX15_poke_102 rfl ?_
    refine z_iload_n O dX15_poke_103 rfl 2 rfl ?_
    refine z_iadd O dX15_poke_104 ?_
    obtain ⟨hk, h⟩ := h
    refine z_callV0 (As := [.ref b2, .ref b3, .int (4 + x3)]) O zc_X15_259 h hk rfl (zRm_of hR (by decide) (by decide)) (Nat.le_of_ble_eq_true rfl) dX15_poke_105 rfl rfl rfl (fun M4 v h => ?_)
    obtain ⟨rfl, h⟩ := h
    refine z_iconst (v := 1) O dX15_poke_108 rfl ?_
    exact z_zret O dX15_poke_109 (by decide) h
  · replace h := h.2 c
    refine z_aload_n O dX15_poke_60 rfl 0 rfl ?_
    obtain ⟨hk, b5, hr, h⟩ := h
    refine z_getr O zf_X15_84_14 dX15_poke_61 hk hr ?_
    refine z_iconst (v := 4) O dX15_poke_64 rfl ?_
    refine z_iload O dX15_poke_65 4 rfl ?_
    refine z_iadd O dX15_poke_67 ?_
    refine z_iload O dX15_poke_68 3 rfl ?_
    refine z_bipush (v := 8) O dX15_poke_70 rfl ?_
    refine z_iload_n O dX15_poke_72 rfl 2 rfl ?_
    refine z_iconst (v := 1) O dX15_poke_73 rfl ?_
    refine z_isub O dX15_poke_74 ?_
    refine z_iload O dX15_poke_75 4 rfl ?_
    refine z_isub O dX15_poke_77 ?_
    refine z_imul O dX15_poke_78 ?_
    refine z_ishr O dX15_poke_79 ?_
    refine z_sipush (v := 255) O dX15_poke_80 rfl ?_
    refine z_iand O dX15_poke_83 ?_
    obtain ⟨hk, hi, h⟩ := h
    refine z_iast O dX15_poke_84 hk hi ?_
    generalize eM6 : zi M b5 (((4 + x5)).toNatClampNeg) ((x4 >>> ((8 * ((x3 - 1) - x5)) &&& 31)) &&& 255) = M6
    replace h := h M6 eM6.symm
    obtain ⟨y7, ey7⟩ : ∃ y : Int32, y = x5 + 1 := ⟨_, rfl⟩
    replace h := h y7 ey7
    refine z_iinc (v := y7) (lv' := [(5, .int y7), (0, .ref a0), (1, .int x1), (3, .int x3), (4, .int x4)]) O dX15_poke_85 (q := 4) rfl (by rw [ey7]; rfl) (by decide) rfl ?_
    refine z_goto O 54 dX15_poke_88 (by decide) ?_
    exact z_to [1, 2, 3, 4, 0] rfl h
set_option maxRecDepth 100000 in
set_option maxHeartbeats 4000000 in
theorem b_X15_memory_0 {G : zG} {X : zX} (O : zOK G X cX15_memory 3 RX15 (some .int) "memory") (hR : X.R = rm_X15_memory) {M : zM} {n k : Nat} {a0 : Nat} {x1 : Int32} {x2 : Int32} (h : M.1 a0 = 15 ∧ ∀ M1 : zM, M1 = zi M a0 0 0 → M1.1 a0 = 15 ∧ zC G yX15_isDevice cX15_isDevice 2 (some .boolean) rm_X15_isDevice M1 [.ref a0, .int x1] (fun M2 v => ∃ r3 : Int32, v = some (.int r3) ∧ (r3 = 0 → X.q M2 (some (.int (-1)))) ∧ (¬ r3 = 0 → zC G yX15_in cX15_in 3 (some .boolean) rm_X15_in M2 [.int x2, .int 0, .int 63] (fun M4 v => ∃ r5 : Int32, v = some (.int r5) ∧ (r5 = 0 → X.q M4 (some (.int (-1)))) ∧ (¬ r5 = 0 → M4.1 a0 = 15 ∧ ∃ b6 : Nat, M4.2.2.2 a0 8 = some b6 ∧ M4.1 b6 = 110 ∧ vp_in x1 (M4.2.1 b6) ∧ ∃ b7 : Nat, M4.2.2.2 b6 x1.toNatClampNeg = some b7 ∧ M4.1 b7 = 13 ∧ ∃ b8 : Nat, M4.2.2.2 b7 15 = some b8 ∧ M4.1 b8 = 100 ∧ vp_in x2 (M4.2.1 b8) ∧ X.q M4 (some (.int (M4.2.2.1 b8 x2.toNatClampNeg)))))))) : zW G X 3 M n k 0 [(0, .ref a0), (1, .int x1), (2, .int x2)] [] := by
  refine z_aload_n O dX15_memory_0 rfl 0 rfl ?_
  refine z_iconst (v := 0) O dX15_memory_1 rfl ?_
  obtain ⟨hk, h⟩ := h
  refine z_puti O zp_X15_93_14 dX15_memory_2 hk ?_
  generalize eM1 : zi M a0 0 0 = M1
  replace h := h M1 eM1.symm
  refine z_aload_n O dX15_memory_5 rfl 0 rfl ?_
  refine z_iload_n O dX15_memory_6 rfl 1 rfl ?_
  obtain ⟨hk, h⟩ := h
  refine z_callV0 (As := [.int x1]) O zc_X15_145 h hk rfl (zRm_of hR (by decide) (by decide)) (Nat.le_of_ble_eq_true rfl) dX15_memory_7 rfl rfl rfl (fun M2 v h => ?_)
  obtain ⟨r3, rfl, h⟩ := h
  refine z_if_eq O 37 dX15_memory_10 (by decide) (fun c => ?_) (fun c => ?_)
  · replace h := h.1 c
    refine z_iconst (v := (-1)) O dX15_memory_37 rfl ?_
    exact z_iret O dX15_memory_38 h
  · replace h := h.2 c
    refine z_iload_n O dX15_memory_13 rfl 2 rfl ?_
    refine z_iconst (v := 0) O dX15_memory_14 rfl ?_
    refine z_bipush (v := 63) O dX15_memory_15 rfl ?_
    refine z_callS0 (As := [.int x2, .int 0, .int 63]) O zc_X15_135 h rfl (zRm_of hR (by decide) (by decide)) (Nat.le_of_ble_eq_true rfl) dX15_memory_17 rfl rfl rfl (fun M4 v h => ?_)
    obtain ⟨r5, rfl, h⟩ := h
    refine z_if_eq O 37 dX15_memory_20 (by decide) (fun c => ?_) (fun c => ?_)
    · replace h := h.1 c
      refine z_iconst (v := (-1)) O dX15_memory_37 rfl ?_
      exact z_iret O dX15_memory_38 h
    · replace h := h.2 c
      refine z_aload_n O dX15_memory_23 rfl 0 rfl ?_
      obtain ⟨hk, b6, hr, h⟩ := h
      refine z_getr O zf_X15_21_14 dX15_memory_24 hk hr ?_
      refine z_iload_n O dX15_memory_27 rfl 1 rfl ?_
      obtain ⟨hk, hi, b7, hr, h⟩ := h
      refine z_ald (t := 8) O rfl dX15_memory_28 hk hi hr ?_
      obtain ⟨hk, b8, hr, h⟩ := h
      refine z_getr O zf_X15_256_12 dX15_memory_29 hk hr ?_
      refine z_iload_n O dX15_memory_32 rfl 2 rfl ?_
      obtain ⟨hk, hi, h⟩ := h
      refine z_iald O dX15_memory_33 hk hi ?_
      refine z_goto O 38 dX15_memory_34 (by decide) ?_
      exact z_iret O dX15_memory_38 h
set_option maxRecDepth 100000 in
set_option maxHeartbeats 4000000 in
theorem b_X15_store_0 {G : zG} {X : zX} (O : zOK G X cX15_store 4 RX15 (some .boolean) "store") (hR : X.R = rm_X15_store) {M : zM} {n k : Nat} {a0 : Nat} {x1 : Int32} {x2 : Int32} {x3 : Int32} (h : M.1 a0 = 15 ∧ ∀ M1 : zM, M1 = zi M a0 0 0 → M1.1 a0 = 15 ∧ zC G yX15_isDevice cX15_isDevice 2 (some .boolean) rm_X15_isDevice M1 [.ref a0, .int x1] (fun M2 v => ∃ r3 : Int32, v = some (.int r3) ∧ (r3 = 0 → X.q M2 (some (.int 0))) ∧ (¬ r3 = 0 → zC G yX15_in cX15_in 3 (some .boolean) rm_X15_in M2 [.int x2, .int 0, .int 63] (fun M4 v => ∃ r5 : Int32, v = some (.int r5) ∧ (¬ r5 = 0 → M4.1 a0 = 15 ∧ ∃ b6 : Nat, M4.2.2.2 a0 8 = some b6 ∧ M4.1 b6 = 110 ∧ vp_in x1 (M4.2.1 b6) ∧ ∃ b7 : Nat, M4.2.2.2 b6 x1.toNatClampNeg = some b7 ∧ M4.1 b7 = 13 ∧ ∃ b8 : Nat, M4.2.2.2 b7 15 = some b8 ∧ M4.1 b8 = 100 ∧ vp_in x2 (M4.2.1 b8) ∧ ∀ M9 : zM, M9 = zi M4 b8 (x2.toNatClampNeg) (x3 &&& 255) → X.q M9 (some (.int 1))) ∧ (r5 = 0 → X.q M4 (some (.int 0))))))) : zW G X 4 M n k 0 [(0, .ref a0), (1, .int x1), (2, .int x2), (3, .int x3)] [] := by
  refine z_aload_n O dX15_store_0 rfl 0 rfl ?_
  refine z_iconst (v := 0) O dX15_store_1 rfl ?_
  obtain ⟨hk, h⟩ := h
  refine z_puti O zp_X15_93_14 dX15_store_2 hk ?_
  generalize eM1 : zi M a0 0 0 = M1
  replace h := h M1 eM1.symm
  refine z_aload_n O dX15_store_5 rfl 0 rfl ?_
  refine z_iload_n O dX15_store_6 rfl 1 rfl ?_
  obtain ⟨hk, h⟩ := h
  refine z_callV0 (As := [.int x1]) O zc_X15_145 h hk rfl (zRm_of hR (by decide) (by decide)) (Nat.le_of_ble_eq_true rfl) dX15_store_7 rfl rfl rfl (fun M2 v h => ?_)
  obtain ⟨r3, rfl, h⟩ := h
  refine z_if_eq O 23 dX15_store_10 (by decide) (fun c => ?_) (fun c => ?_)
  · replace h := h.1 c
    refine z_iconst (v := 0) O dX15_store_23 rfl ?_
    exact z_zret O dX15_store_24 (by decide) h
  · replace h := h.2 c
    refine z_iload_n O dX15_store_13 rfl 2 rfl ?_
    refine z_iconst (v := 0) O dX15_store_14 rfl ?_
    refine z_bipush (v := 63) O dX15_store_15 rfl ?_
    refine z_callS0 (As := [.int x2, .int 0, .int 63]) O zc_X15_135 h rfl (zRm_of hR (by decide) (by decide)) (Nat.le_of_ble_eq_true rfl) dX15_store_17 rfl rfl rfl (fun M4 v h => ?_)
    obtain ⟨r5, rfl, h⟩ := h
    refine z_if_ne O 25 dX15_store_20 (by decide) (fun c => ?_) (fun c => ?_)
    · replace h := h.1 c
      refine z_aload_n O dX15_store_25 rfl 0 rfl ?_
      obtain ⟨hk, b6, hr, h⟩ := h
      refine z_getr O zf_X15_21_14 dX15_store_26 hk hr ?_
      refine z_iload_n O dX15_store_29 rfl 1 rfl ?_
      obtain ⟨hk, hi, b7, hr, h⟩ := h
      refine z_ald (t := 8) O rfl dX15_store_30 hk hi hr ?_
      obtain ⟨hk, b8, hr, h⟩ := h
      refine z_getr O zf_X15_256_12 dX15_store_31 hk hr ?_
      refine z_iload_n O dX15_store_34 rfl 2 rfl ?_
      refine z_iload_n O dX15_store_35 rfl 3 rfl ?_
      refine z_sipush (v := 255) O dX15_store_36 rfl ?_
      refine z_iand O dX15_store_39 ?_
      obtain ⟨hk, hi, h⟩ := h
      refine z_iast O dX15_store_40 hk hi ?_
      generalize eM9 : zi M4 b8 (x2.toNatClampNeg) (x3 &&& 255) = M9
      replace h := h M9 eM9.symm
      refine z_iconst (v := 1) O dX15_store_41 rfl ?_
      exact z_zret O dX15_store_42 (by decide) h
    · replace h := h.2 c
      refine z_iconst (v := 0) O dX15_store_23 rfl ?_
      exact z_zret O dX15_store_24 (by decide) h
set_option maxRecDepth 100000 in
set_option maxHeartbeats 4000000 in
theorem b_X15_reply_0 {G : zG} {X : zX} (O : zOK G X cX15_reply 3 RX15 (some .int) "reply") (hR : X.R = rm_X15_reply) {M : zM} {n k : Nat} {a0 : Nat} {x1 : Int32} {x2 : Int32} (h : M.1 a0 = 15 ∧ ∀ M1 : zM, M1 = zi M a0 0 0 → M1.1 a0 = 15 ∧ zC G yX15_isDevice cX15_isDevice 2 (some .boolean) rm_X15_isDevice M1 [.ref a0, .int x1] (fun M2 v => ∃ r3 : Int32, v = some (.int r3) ∧ (¬ r3 = 0 → (¬ x2 = (-1) → M2.1 a0 = 15 ∧ ∃ b4 : Nat, M2.2.2.2 a0 8 = some b4 ∧ M2.1 b4 = 110 ∧ vp_in x1 (M2.2.1 b4) ∧ ∃ b5 : Nat, M2.2.2.2 b4 x1.toNatClampNeg = some b5 ∧ M2.1 b5 = 13 ∧ zC G yX15_in cX15_in 3 (some .boolean) rm_X15_in M2 [.int x2, .int 0, .int ((M2.2.2.1 b5 17) - 1)] (fun M6 v => ∃ r7 : Int32, v = some (.int r7) ∧ (r7 = 0 → X.q M6 (some (.int (-1)))) ∧ (¬ r7 = 0 → M6.1 a0 = 15 ∧ ∃ b8 : Nat, M6.2.2.2 a0 8 = some b8 ∧ M6.1 b8 = 110 ∧ vp_in x1 (M6.2.1 b8) ∧ ∃ b9 : Nat, M6.2.2.2 b8 x1.toNatClampNeg = some b9 ∧ M6.1 b9 = 13 ∧ ∃ b10 : Nat, M6.2.2.2 b9 16 = some b10 ∧ M6.1 b10 = 100 ∧ vp_in x2 (M6.2.1 b10) ∧ X.q M6 (some (.int (M6.2.2.1 b10 x2.toNatClampNeg)))))) ∧ (x2 = (-1) → M2.1 a0 = 15 ∧ ∃ b11 : Nat, M2.2.2.2 a0 8 = some b11 ∧ M2.1 b11 = 110 ∧ vp_in x1 (M2.2.1 b11) ∧ ∃ b12 : Nat, M2.2.2.2 b11 x1.toNatClampNeg = some b12 ∧ M2.1 b12 = 13 ∧ X.q M2 (some (.int (M2.2.2.1 b12 17))))) ∧ (r3 = 0 → X.q M2 (some (.int (-1)))))) : zW G X 3 M n k 0 [(0, .ref a0), (1, .int x1), (2, .int x2)] [] := by
  refine z_aload_n O dX15_reply_0 rfl 0 rfl ?_
  refine z_iconst (v := 0) O dX15_reply_1 rfl ?_
  obtain ⟨hk, h⟩ := h
  refine z_puti O zp_X15_93_14 dX15_reply_2 hk ?_
  generalize eM1 : zi M a0 0 0 = M1
  replace h := h M1 eM1.symm
  refine z_aload_n O dX15_reply_5 rfl 0 rfl ?_
  refine z_iload_n O dX15_reply_6 rfl 1 rfl ?_
  obtain ⟨hk, h⟩ := h
  refine z_callV0 (As := [.int x1]) O zc_X15_145 h hk rfl (zRm_of hR (by decide) (by decide)) (Nat.le_of_ble_eq_true rfl) dX15_reply_7 rfl rfl rfl (fun M2 v h => ?_)
  obtain ⟨r3, rfl, h⟩ := h
  refine z_if_ne O 15 dX15_reply_10 (by decide) (fun c => ?_) (fun c => ?_)
  · replace h := h.1 c
    refine z_iload_n O dX15_reply_15 rfl 2 rfl ?_
    refine z_iconst (v := (-1)) O dX15_reply_16 rfl ?_
    refine z_icmp_ne O 32 dX15_reply_17 (by decide) (fun c => ?_) (fun c => ?_)
    · replace h := h.1 c
      refine z_iload_n O dX15_reply_32 rfl 2 rfl ?_
      refine z_iconst (v := 0) O dX15_reply_33 rfl ?_
      refine z_aload_n O dX15_reply_34 rfl 0 rfl ?_
      obtain ⟨hk, b4, hr, h⟩ := h
      refine z_getr O zf_X15_21_14 dX15_reply_35 hk hr ?_
      refine z_iload_n O dX15_reply_38 rfl 1 rfl ?_
      obtain ⟨hk, hi, b5, hr, h⟩ := h
      refine z_ald (t := 8) O rfl dX15_reply_39 hk hi hr ?_
      obtain ⟨hk, h⟩ := h
      refine z_geti O zf_X15_262_12 dX15_reply_40 hk ?_
      refine z_iconst (v := 1) O dX15_reply_43 rfl ?_
      refine z_isub O dX15_reply_44 ?_
      refine z_callS0 (As := [.int x2, .int 0, .int ((M2.2.2.1 b5 17) - 1)]) O zc_X15_135 h rfl (zRm_of hR (by decide) (by decide)) (Nat.le_of_ble_eq_true rfl) dX15_reply_45 rfl rfl rfl (fun M6 v h => ?_)
      obtain ⟨r7, rfl, h⟩ := h
      refine z_if_eq O 65 dX15_reply_48 (by decide) (fun c => ?_) (fun c => ?_)
      · replace h := h.1 c
        refine z_iconst (v := (-1)) O dX15_reply_65 rfl ?_
        exact z_iret O dX15_reply_66 h
      · replace h := h.2 c
        refine z_aload_n O dX15_reply_51 rfl 0 rfl ?_
        obtain ⟨hk, b8, hr, h⟩ := h
        refine z_getr O zf_X15_21_14 dX15_reply_52 hk hr ?_
        refine z_iload_n O dX15_reply_55 rfl 1 rfl ?_
        obtain ⟨hk, hi, b9, hr, h⟩ := h
        refine z_ald (t := 8) O rfl dX15_reply_56 hk hi hr ?_
        obtain ⟨hk, b10, hr, h⟩ := h
        refine z_getr O zf_X15_265_12 dX15_reply_57 hk hr ?_
        refine z_iload_n O dX15_reply_60 rfl 2 rfl ?_
        obtain ⟨hk, hi, h⟩ := h
        refine z_iald O dX15_reply_61 hk hi ?_
        refine z_goto O 66 dX15_reply_62 (by decide) ?_
        exact z_iret O dX15_reply_66 h
    · replace h := h.2 c
      refine z_aload_n O dX15_reply_20 rfl 0 rfl ?_
      obtain ⟨hk, b11, hr, h⟩ := h
      refine z_getr O zf_X15_21_14 dX15_reply_21 hk hr ?_
      refine z_iload_n O dX15_reply_24 rfl 1 rfl ?_
      obtain ⟨hk, hi, b12, hr, h⟩ := h
      refine z_ald (t := 8) O rfl dX15_reply_25 hk hi hr ?_
      obtain ⟨hk, h⟩ := h
      refine z_geti O zf_X15_262_12 dX15_reply_26 hk ?_
      refine z_goto O 66 dX15_reply_29 (by decide) ?_
      exact z_iret O dX15_reply_66 h
  · replace h := h.2 c
    refine z_iconst (v := (-1)) O dX15_reply_13 rfl ?_
    exact z_iret O dX15_reply_14 h
set_option maxRecDepth 100000 in
set_option maxHeartbeats 4000000 in
theorem b_X15_connection_0 {G : zG} {X : zX} (O : zOK G X cX15_connection 4 RX15 (some .int) "connection") (hR : X.R = rm_X15_connection) {M : zM} {n k : Nat} {a0 : Nat} {x1 : Int32} {x2 : Int32} (h : M.1 a0 = 15 ∧ ∀ M1 : zM, M1 = zi M a0 0 0 → M1.1 a0 = 15 ∧ zC G yX15_isDevice cX15_isDevice 2 (some .boolean) rm_X15_isDevice M1 [.ref a0, .int x1] (fun M2 v => ∃ r3 : Int32, v = some (.int r3) ∧ (¬ r3 = 0 → M2.1 a0 = 15 ∧ ∃ b4 : Nat, M2.2.2.2 a0 8 = some b4 ∧ M2.1 b4 = 110 ∧ vp_in x1 (M2.2.1 b4) ∧ ∃ b5 : Nat, M2.2.2.2 b4 x1.toNatClampNeg = some b5 ∧ (x2.toInt < 0 ∨ 11 < x2.toInt → X.q M2 (some (.int (-1)))) ∧ (x2.toInt = 0 → M2.1 b5 = 13 ∧ X.q M2 (some (.int (M2.2.2.1 b5 18)))) ∧ (x2.toInt = 1 → M2.1 b5 = 13 ∧ (¬ (M2.2.2.1 b5 18) = 0 → M2.1 b5 = 13 ∧ X.q M2 (some (.int (M2.2.2.1 b5 19)))) ∧ ((M2.2.2.1 b5 18) = 0 → X.q M2 (some (.int (-1))))) ∧ (x2.toInt = 2 → M2.1 b5 = 13 ∧ (¬ (M2.2.2.1 b5 18) = 0 → M2.1 b5 = 13 ∧ X.q M2 (some (.int (M2.2.2.1 b5 20)))) ∧ ((M2.2.2.1 b5 18) = 0 → X.q M2 (some (.int 0)))) ∧ (x2.toInt = 3 → M2.1 b5 = 13 ∧ (¬ (M2.2.2.1 b5 18) = 0 → M2.1 b5 = 13 ∧ X.q M2 (some (.int (M2.2.2.1 b5 21)))) ∧ ((M2.2.2.1 b5 18) = 0 → X.q M2 (some (.int 0)))) ∧ (x2.toInt = 4 → M2.1 b5 = 13 ∧ (¬ (M2.2.2.1 b5 18) = 2 → X.q M2 (some (.int 0))) ∧ ((M2.2.2.1 b5 18) = 2 → M2.1 b5 = 13 ∧ X.q M2 (some (.int (M2.2.2.1 b5 22))))) ∧ (x2.toInt = 5 → M2.1 b5 = 13 ∧ (¬ (M2.2.2.1 b5 18) = 2 → X.q M2 (some (.int 0))) ∧ ((M2.2.2.1 b5 18) = 2 → M2.1 b5 = 13 ∧ X.q M2 (some (.int (M2.2.2.1 b5 23))))) ∧ (x2.toInt = 6 → M2.1 b5 = 13 ∧ ((M2.2.2.1 b5 18) = 1 → M2.1 b5 = 13 ∧ X.q M2 (some (.int (M2.2.2.1 b5 24)))) ∧ (¬ (M2.2.2.1 b5 18) = 1 → M2.1 b5 = 13 ∧ (¬ (M2.2.2.1 b5 18) = 2 → X.q M2 (some (.int 0))) ∧ ((M2.2.2.1 b5 18) = 2 → M2.1 b5 = 13 ∧ X.q M2 (some (.int (M2.2.2.1 b5 24)))))) ∧ (x2.toInt = 7 → M2.1 b5 = 13 ∧ ∃ b6 : Nat, M2.2.2.2 b5 2 = some b6 ∧ M2.1 b6 = 14 ∧ X.q M2 (some (.int (M2.2.2.1 b6 5)))) ∧ (x2.toInt = 8 → M2.1 b5 = 13 ∧ X.q M2 (some (.int (M2.2.2.1 b5 1)))) ∧ (x2.toInt = 9 → M2.1 b5 = 13 ∧ X.q M2 (some (.int (M2.2.2.1 b5 3)))) ∧ (x2.toInt = 10 → M2.1 b5 = 13 ∧ X.q M2 (some (.int (M2.2.2.1 b5 6)))) ∧ (x2.toInt = 11 → M2.1 b5 = 13 ∧ X.q M2 (some (.int (M2.2.2.1 b5 12))))) ∧ (r3 = 0 → X.q M2 (some (.int (-1)))))) : zW G X 4 M n k 0 [(0, .ref a0), (1, .int x1), (2, .int x2)] [] := by
  refine z_aload_n O dX15_connection_0 rfl 0 rfl ?_
  refine z_iconst (v := 0) O dX15_connection_1 rfl ?_
  obtain ⟨hk, h⟩ := h
  refine z_puti O zp_X15_93_14 dX15_connection_2 hk ?_
  generalize eM1 : zi M a0 0 0 = M1
  replace h := h M1 eM1.symm
  refine z_aload_n O dX15_connection_5 rfl 0 rfl ?_
  refine z_iload_n O dX15_connection_6 rfl 1 rfl ?_
  obtain ⟨hk, h⟩ := h
  refine z_callV0 (As := [.int x1]) O zc_X15_145 h hk rfl (zRm_of hR (by decide) (by decide)) (Nat.le_of_ble_eq_true rfl) dX15_connection_7 rfl rfl rfl (fun M2 v h => ?_)
  obtain ⟨r3, rfl, h⟩ := h
  refine z_if_ne O 15 dX15_connection_10 (by decide) (fun c => ?_) (fun c => ?_)
  · replace h := h.1 c
    refine z_aload_n O dX15_connection_15 rfl 0 rfl ?_
    obtain ⟨hk, b4, hr, h⟩ := h
    refine z_getr O zf_X15_21_14 dX15_connection_16 hk hr ?_
    refine z_iload_n O dX15_connection_19 rfl 1 rfl ?_
    obtain ⟨hk, hi, b5, hr, h⟩ := h
    refine z_ald (t := 8) O rfl dX15_connection_20 hk hi hr ?_
    refine z_astore_n (lv' := [(3, .ref b5), (0, .ref a0), (1, .int x1), (2, .int x2)]) O dX15_connection_21 rfl (by decide) rfl ?_
    refine z_iload_n O dX15_connection_22 rfl 3 rfl ?_
    rcases zsw x2 0 11 (by decide) with c | ⟨j, hj, c⟩
    · refine z_tsOut O 224 dX15_connection_23 c (by decide) ?_
      replace h := h.1 c
      refine z_iconst (v := (-1)) O dX15_connection_224 rfl ?_
      exact z_iret O dX15_connection_225 h
    · replace h := h.2
      rcases zcas j 0 with hz | hz
      · subst hz
        replace h := h.1 (by rw [c]; rfl)
        refine z_tsIn (off := 61) O 84 dX15_connection_23 (by rw [c]; decide) (by rw [c]; decide) (by rw [c]; rfl) (by decide) ?_
        refine z_aload_n O dX15_connection_84 rfl 0 rfl ?_
        obtain ⟨hk, h⟩ := h
        refine z_geti O zf_X15_210_12 dX15_connection_85 hk ?_
        exact z_iret O dX15_connection_88 h
      · replace h := h.2
        rcases zcas j 1 with hz | hz
        · subst hz
          replace h := h.1 (by rw [c]; rfl)
          refine z_tsIn (off := 66) O 89 dX15_connection_23 (by rw [c]; decide) (by rw [c]; decide) (by rw [c]; rfl) (by decide) ?_
          refine z_aload_n O dX15_connection_89 rfl 0 rfl ?_
          obtain ⟨hk, h⟩ := h
          refine z_geti O zf_X15_210_12 dX15_connection_90 hk ?_
          refine z_if_ne O 100 dX15_connection_93 (by decide) (fun c => ?_) (fun c => ?_)
          · replace h := h.1 c
            refine z_aload_n O dX15_connection_100 rfl 0 rfl ?_
            obtain ⟨hk, h⟩ := h
            refine z_geti O zf_X15_203_12 dX15_connection_101 hk ?_
            exact z_iret O dX15_connection_104 h
          · replace h := h.2 c
            refine z_iconst (v := (-1)) O dX15_connection_96 rfl ?_
            refine z_goto O 104 dX15_connection_97 (by decide) ?_
            exact z_iret O dX15_connection_104 h
        · replace h := h.2
          rcases zcas j 2 with hz | hz
          · subst hz
            replace h := h.1 (by rw [c]; rfl)
            refine z_tsIn (off := 82) O 105 dX15_connection_23 (by rw [c]; decide) (by rw [c]; decide) (by rw [c]; rfl) (by decide) ?_
            refine z_aload_n O dX15_connection_105 rfl 0 rfl ?_
            obtain ⟨hk, h⟩ := h
            refine z_geti O zf_X15_210_12 dX15_connection_106 hk ?_
            refine z_if_ne O 116 dX15_connection_109 (by decide) (fun c => ?_) (fun c => ?_)
            · replace h := h.1 c
              refine z_aload_n O dX15_connection_116 rfl 0 rfl ?_
              obtain ⟨hk, h⟩ := h
              refine z_geti O zf_X15_216_12 dX15_connection_117 hk ?_
              exact z_iret O dX15_connection_120 h
            · replace h := h.2 c
              refine z_iconst (v := 0) O dX15_connection_112 rfl ?_
              refine z_goto O 120 dX15_connection_113 (by decide) ?_
              exact z_iret O dX15_connection_120 h
          · replace h := h.2
            rcases zcas j 3 with hz | hz
            · subst hz
              replace h := h.1 (by rw [c]; rfl)
              refine z_tsIn (off := 98) O 121 dX15_connection_23 (by rw [c]; decide) (by rw [c]; decide) (by rw [c]; rfl) (by decide) ?_
              refine z_aload_n O dX15_connection_121 rfl 0 rfl ?_
              obtain ⟨hk, h⟩ := h
              refine z_geti O zf_X15_210_12 dX15_connection_122 hk ?_
              refine z_if_ne O 132 dX15_connection_125 (by decide) (fun c => ?_) (fun c => ?_)
              · replace h := h.1 c
                refine z_aload_n O dX15_connection_132 rfl 0 rfl ?_
                obtain ⟨hk, h⟩ := h
                refine z_geti O zf_X15_246_12 dX15_connection_133 hk ?_
                exact z_iret O dX15_connection_136 h
              · replace h := h.2 c
                refine z_iconst (v := 0) O dX15_connection_128 rfl ?_
                refine z_goto O 136 dX15_connection_129 (by decide) ?_
                exact z_iret O dX15_connection_136 h
            · replace h := h.2
              rcases zcas j 4 with hz | hz
              · subst hz
                replace h := h.1 (by rw [c]; rfl)
                refine z_tsIn (off := 114) O 137 dX15_connection_23 (by rw [c]; decide) (by rw [c]; decide) (by rw [c]; rfl) (by decide) ?_
                refine z_aload_n O dX15_connection_137 rfl 0 rfl ?_
                obtain ⟨hk, h⟩ := h
                refine z_geti O zf_X15_210_12 dX15_connection_138 hk ?_
                refine z_iconst (v := 2) O dX15_connection_141 rfl ?_
                refine z_icmp_ne O 152 dX15_connection_142 (by decide) (fun c => ?_) (fun c => ?_)
                · replace h := h.1 c
                  refine z_iconst (v := 0) O dX15_connection_152 rfl ?_
                  exact z_iret O dX15_connection_153 h
                · replace h := h.2 c
                  refine z_aload_n O dX15_connection_145 rfl 0 rfl ?_
                  obtain ⟨hk, h⟩ := h
                  refine z_geti O zf_X15_222_12 dX15_connection_146 hk ?_
                  refine z_goto O 153 dX15_connection_149 (by decide) ?_
                  exact z_iret O dX15_connection_153 h
              · replace h := h.2
                rcases zcas j 5 with hz | hz
                · subst hz
                  replace h := h.1 (by rw [c]; rfl)
                  refine z_tsIn (off := 131) O 154 dX15_connection_23 (by rw [c]; decide) (by rw [c]; decide) (by rw [c]; rfl) (by decide) ?_
                  refine z_aload_n O dX15_connection_154 rfl 0 rfl ?_
                  obtain ⟨hk, h⟩ := h
                  refine z_geti O zf_X15_210_12 dX15_connection_155 hk ?_
                  refine z_iconst (v := 2) O dX15_connection_158 rfl ?_
                  refine z_icmp_ne O 169 dX15_connection_159 (by decide) (fun c => ?_) (fun c => ?_)
                  · replace h := h.1 c
                    refine z_iconst (v := 0) O dX15_connection_169 rfl ?_
                    exact z_iret O dX15_connection_170 h
                  · replace h := h.2 c
                    refine z_aload_n O dX15_connection_162 rfl 0 rfl ?_
                    obtain ⟨hk, h⟩ := h
                    refine z_geti O zf_X15_225_12 dX15_connection_163 hk ?_
                    refine z_goto O 170 dX15_connection_166 (by decide) ?_
                    exact z_iret O dX15_connection_170 h
                · replace h := h.2
                  rcases zcas j 6 with hz | hz
                  · subst hz
                    replace h := h.1 (by rw [c]; rfl)
                    refine z_tsIn (off := 148) O 171 dX15_connection_23 (by rw [c]; decide) (by rw [c]; decide) (by rw [c]; rfl) (by decide) ?_
                    refine z_aload_n O dX15_connection_171 rfl 0 rfl ?_
                    obtain ⟨hk, h⟩ := h
                    refine z_geti O zf_X15_210_12 dX15_connection_172 hk ?_
                    refine z_iconst (v := 1) O dX15_connection_175 rfl ?_
                    refine z_icmp_eq O 187 dX15_connection_176 (by decide) (fun c => ?_) (fun c => ?_)
                    · replace h := h.1 c
                      refine z_aload_n O dX15_connection_187 rfl 0 rfl ?_
                      obtain ⟨hk, h⟩ := h
                      refine z_geti O zf_X15_228_12 dX15_connection_188 hk ?_
                      refine z_goto O 195 dX15_connection_191 (by decide) ?_
                      exact z_iret O dX15_connection_195 h
                    · replace h := h.2 c
                      refine z_aload_n O dX15_connection_179 rfl 0 rfl ?_
                      obtain ⟨hk, h⟩ := h
                      refine z_geti O zf_X15_210_12 dX15_connection_180 hk ?_
                      refine z_iconst (v := 2) O dX15_connection_183 rfl ?_
                      refine z_icmp_ne O 194 dX15_connection_184 (by decide) (fun c => ?_) (fun c => ?_)
                      · replace h := h.1 c
                        refine z_iconst (v := 0) O dX15_connection_194 rfl ?_
                        exact z_iret O dX15_connection_195 h
                      · replace h := h.2 c
                        refine z_aload_n O dX15_connection_187 rfl 0 rfl ?_
                        obtain ⟨hk, h⟩ := h
                        refine z_geti O zf_X15_228_12 dX15_connection_188 hk ?_
                        refine z_goto O 195 dX15_connection_191 (by decide) ?_
                        exact z_iret O dX15_connection_195 h
                  · replace h := h.2
                    rcases zcas j 7 with hz | hz
                    · subst hz
                      replace h := h.1 (by rw [c]; rfl)
                      refine z_tsIn (off := 173) O 196 dX15_connection_23 (by rw [c]; decide) (by rw [c]; decide) (by rw [c]; rfl) (by decide) ?_
                      refine z_aload_n O dX15_connection_196 rfl 0 rfl ?_
                      obtain ⟨hk, b6, hr, h⟩ := h
                      refine z_getr O zf_X15_155_12 dX15_connection_197 hk hr ?_
                      obtain ⟨hk, h⟩ := h
                      refine z_geti O zf_X15_96_13 dX15_connection_200 hk ?_
                      exact z_iret O dX15_connection_203 h
                    · replace h := h.2
                      rcases zcas j 8 with hz | hz
                      · subst hz
                        replace h := h.1 (by rw [c]; rfl)
                        refine z_tsIn (off := 181) O 204 dX15_connection_23 (by rw [c]; decide) (by rw [c]; decide) (by rw [c]; rfl) (by decide) ?_
                        refine z_aload_n O dX15_connection_204 rfl 0 rfl ?_
                        obtain ⟨hk, h⟩ := h
                        refine z_geti O zf_X15_152_12 dX15_connection_205 hk ?_
                        exact z_iret O dX15_connection_208 h
                      · replace h := h.2
                        rcases zcas j 9 with hz | hz
                        · subst hz
                          replace h := h.1 (by rw [c]; rfl)
                          refine z_tsIn (off := 186) O 209 dX15_connection_23 (by rw [c]; decide) (by rw [c]; decide) (by rw [c]; rfl) (by decide) ?_
                          refine z_aload_n O dX15_connection_209 rfl 0 rfl ?_
                          obtain ⟨hk, h⟩ := h
                          refine z_geti O zf_X15_317_12 dX15_connection_210 hk ?_
                          exact z_iret O dX15_connection_213 h
                        · replace h := h.2
                          rcases zcas j 10 with hz | hz
                          · subst hz
                            replace h := h.1 (by rw [c]; rfl)
                            refine z_tsIn (off := 191) O 214 dX15_connection_23 (by rw [c]; decide) (by rw [c]; decide) (by rw [c]; rfl) (by decide) ?_
                            refine z_aload_n O dX15_connection_214 rfl 0 rfl ?_
                            obtain ⟨hk, h⟩ := h
                            refine z_geti O zf_X15_149_12 dX15_connection_215 hk ?_
                            exact z_iret O dX15_connection_218 h
                          · replace h := h.2
                            have hz : j = 11 := by omega
                            subst hz
                            replace h := h (by rw [c]; rfl)
                            refine z_tsIn (off := 196) O 219 dX15_connection_23 (by rw [c]; decide) (by rw [c]; decide) (by rw [c]; rfl) (by decide) ?_
                            refine z_aload_n O dX15_connection_219 rfl 0 rfl ?_
                            obtain ⟨hk, h⟩ := h
                            refine z_geti O zf_X15_180_12 dX15_connection_220 hk ?_
                            exact z_iret O dX15_connection_223 h
  · replace h := h.2 c
    refine z_iconst (v := (-1)) O dX15_connection_13 rfl ?_
    exact z_iret O dX15_connection_14 h
set_option maxRecDepth 100000 in
set_option maxHeartbeats 4000000 in
theorem b_X15_busy_0 {G : zG} {X : zX} (O : zOK G X cX15_busy 3 RX15 (some .boolean) "busy") (hR : X.R = rm_X15_busy) {M : zM} {n k : Nat} {a0 : Nat} {x1 : Int32} {x2 : Int32} (h : M.1 a0 = 15 ∧ ∀ M1 : zM, M1 = zi M a0 0 0 → M1.1 a0 = 15 ∧ zC G yX15_isDevice cX15_isDevice 2 (some .boolean) rm_X15_isDevice M1 [.ref a0, .int x1] (fun M2 v => ∃ r3 : Int32, v = some (.int r3) ∧ (r3 = 0 → X.q M2 (some (.int 0))) ∧ (¬ r3 = 0 → zC G yX15_in cX15_in 3 (some .boolean) rm_X15_in M2 [.int x2, .int 0, .int 20] (fun M4 v => ∃ r5 : Int32, v = some (.int r5) ∧ (¬ r5 = 0 → M4.1 a0 = 15 ∧ ∃ b6 : Nat, M4.2.2.2 a0 8 = some b6 ∧ M4.1 b6 = 110 ∧ vp_in x1 (M4.2.1 b6) ∧ ∃ b7 : Nat, M4.2.2.2 b6 x1.toNatClampNeg = some b7 ∧ M4.1 b7 = 13 ∧ ∀ M8 : zM, M8 = zi M4 b7 3 x2 → X.q M8 (some (.int 1))) ∧ (r5 = 0 → X.q M4 (some (.int 0))))))) : zW G X 3 M n k 0 [(0, .ref a0), (1, .int x1), (2, .int x2)] [] := by
  refine z_aload_n O dX15_busy_0 rfl 0 rfl ?_
  refine z_iconst (v := 0) O dX15_busy_1 rfl ?_
  obtain ⟨hk, h⟩ := h
  refine z_puti O zp_X15_93_14 dX15_busy_2 hk ?_
  generalize eM1 : zi M a0 0 0 = M1
  replace h := h M1 eM1.symm
  refine z_aload_n O dX15_busy_5 rfl 0 rfl ?_
  refine z_iload_n O dX15_busy_6 rfl 1 rfl ?_
  obtain ⟨hk, h⟩ := h
  refine z_callV0 (As := [.int x1]) O zc_X15_145 h hk rfl (zRm_of hR (by decide) (by decide)) (Nat.le_of_ble_eq_true rfl) dX15_busy_7 rfl rfl rfl (fun M2 v h => ?_)
  obtain ⟨r3, rfl, h⟩ := h
  refine z_if_eq O 23 dX15_busy_10 (by decide) (fun c => ?_) (fun c => ?_)
  · replace h := h.1 c
    refine z_iconst (v := 0) O dX15_busy_23 rfl ?_
    exact z_zret O dX15_busy_24 (by decide) h
  · replace h := h.2 c
    refine z_iload_n O dX15_busy_13 rfl 2 rfl ?_
    refine z_iconst (v := 0) O dX15_busy_14 rfl ?_
    refine z_bipush (v := 20) O dX15_busy_15 rfl ?_
    refine z_callS0 (As := [.int x2, .int 0, .int 20]) O zc_X15_135 h rfl (zRm_of hR (by decide) (by decide)) (Nat.le_of_ble_eq_true rfl) dX15_busy_17 rfl rfl rfl (fun M4 v h => ?_)
    obtain ⟨r5, rfl, h⟩ := h
    refine z_if_ne O 25 dX15_busy_20 (by decide) (fun c => ?_) (fun c => ?_)
    · replace h := h.1 c
      refine z_aload_n O dX15_busy_25 rfl 0 rfl ?_
      obtain ⟨hk, b6, hr, h⟩ := h
      refine z_getr O zf_X15_21_14 dX15_busy_26 hk hr ?_
      refine z_iload_n O dX15_busy_29 rfl 1 rfl ?_
      obtain ⟨hk, hi, b7, hr, h⟩ := h
      refine z_ald (t := 8) O rfl dX15_busy_30 hk hi hr ?_
      refine z_iload_n O dX15_busy_31 rfl 2 rfl ?_
      obtain ⟨hk, h⟩ := h
      refine z_puti O zp_X15_317_12 dX15_busy_32 hk ?_
      generalize eM8 : zi M4 b7 3 x2 = M8
      replace h := h M8 eM8.symm
      refine z_iconst (v := 1) O dX15_busy_35 rfl ?_
      exact z_zret O dX15_busy_36 (by decide) h
    · replace h := h.2 c
      refine z_iconst (v := 0) O dX15_busy_23 rfl ?_
      exact z_zret O dX15_busy_24 (by decide) h
set_option maxRecDepth 100000 in
set_option maxHeartbeats 4000000 in
theorem b_X15_feed_0 {G : zG} {X : zX} (O : zOK G X cX15_feed 8 RX15 (some .int) "feed") (hR : X.R = rm_X15_feed) {M : zM} {n k : Nat} {a0 : Nat} {x1 : Int32} {x2 : Int32} {x3 : Int32} {x4 : Int32} {x5 : Int32} (h : M.1 a0 = 15 ∧ ∀ M1 : zM, M1 = zi M a0 0 0 → M1.1 a0 = 15 ∧ (((M1.2.2.1 a0 39) + 20) ≤ 60 → zW G X 8 M1 n k 22 [(0, .ref a0), (1, .int x1), (2, .int x2), (3, .int x3), (4, .int x4), (5, .int x5), (6, .int 0)] []) ∧ (¬ ((M1.2.2.1 a0 39) + 20) ≤ 60 → X.q M1 (some (.int (-1))))) : zW G X 8 M n k 0 [(0, .ref a0), (1, .int x1), (2, .int x2), (3, .int x3), (4, .int x4), (5, .int x5)] [] := by
  refine z_aload_n O dX15_feed_0 rfl 0 rfl ?_
  refine z_iconst (v := 0) O dX15_feed_1 rfl ?_
  obtain ⟨hk, h⟩ := h
  refine z_puti O zp_X15_93_14 dX15_feed_2 hk ?_
  generalize eM1 : zi M a0 0 0 = M1
  replace h := h M1 eM1.symm
  refine z_aload_n O dX15_feed_5 rfl 0 rfl ?_
  obtain ⟨hk, h⟩ := h
  refine z_geti O zf_X15_433_14 dX15_feed_6 hk ?_
  refine z_bipush (v := 20) O dX15_feed_9 rfl ?_
  refine z_iadd O dX15_feed_11 ?_
  refine z_bipush (v := 60) O dX15_feed_12 rfl ?_
  refine z_icmp_le O 19 dX15_feed_14 (by decide) (fun c => ?_) (fun c => ?_)
  · replace h := h.1 c
    refine z_iconst (v := 0) O dX15_feed_19 rfl ?_
    refine z_istore (lv' := [(6, .int 0), (0, .ref a0), (1, .int x1), (2, .int x2), (3, .int x3), (4, .int x4), (5, .int x5)]) O dX15_feed_20 (by decide) rfl ?_
    exact z_to [1, 2, 3, 4, 5, 6, 0] rfl h
  · replace h := h.2 c
    refine z_iconst (v := (-1)) O dX15_feed_17 rfl ?_
    exact z_iret O dX15_feed_18 h
set_option maxRecDepth 100000 in
set_option maxHeartbeats 4000000 in
theorem b_X15_feed_22 {G : zG} {X : zX} (O : zOK G X cX15_feed 8 RX15 (some .int) "feed") (hR : X.R = rm_X15_feed) {M : zM} {n k : Nat} {a0 : Nat} {x1 : Int32} {x2 : Int32} {x3 : Int32} {x4 : Int32} {x5 : Int32} {x6 : Int32} (h : (20 ≤ x6 → M.1 a0 = 15 ∧ X.q M (some (.int (M.2.2.1 a0 39)))) ∧ (¬ 20 ≤ x6 → (4 ≤ x6 → (8 ≤ x6 → (12 ≤ x6 → (16 ≤ x6 → zW G X 8 M n k 75 [(0, .ref a0), (1, .int x1), (2, .int x2), (3, .int x3), (4, .int x4), (5, .int x5), (6, .int x6)] [.int x5]) ∧ (¬ 16 ≤ x6 → zW G X 8 M n k 75 [(0, .ref a0), (1, .int x1), (2, .int x2), (3, .int x3), (4, .int x4), (5, .int x5), (6, .int x6)] [.int x4])) ∧ (¬ 12 ≤ x6 → zW G X 8 M n k 75 [(0, .ref a0), (1, .int x1), (2, .int x2), (3, .int x3), (4, .int x4), (5, .int x5), (6, .int x6)] [.int x3])) ∧ (¬ 8 ≤ x6 → zW G X 8 M n k 75 [(0, .ref a0), (1, .int x1), (2, .int x2), (3, .int x3), (4, .int x4), (5, .int x5), (6, .int x6)] [.int x2])) ∧ (¬ 4 ≤ x6 → zW G X 8 M n k 75 [(0, .ref a0), (1, .int x1), (2, .int x2), (3, .int x3), (4, .int x4), (5, .int x5), (6, .int x6)] [.int x1]))) : zW G X 8 M n k 22 [(0, .ref a0), (1, .int x1), (2, .int x2), (3, .int x3), (4, .int x4), (5, .int x5), (6, .int x6)] [] := by
  refine z_iload O dX15_feed_22 6 rfl ?_
  refine z_bipush (v := 20) O dX15_feed_24 rfl ?_
  refine z_icmp_ge O 119 dX15_feed_26 (by decide) (fun c => ?_) (fun c => ?_)
  · replace h := h.1 c
    refine z_aload_n O dX15_feed_119 rfl 0 rfl ?_
    obtain ⟨hk, h⟩ := h
    refine z_geti O zf_X15_433_14 dX15_feed_120 hk ?_
    exact z_iret O dX15_feed_123 h
  · replace h := h.2 c
    refine z_iload O dX15_feed_29 6 rfl ?_
    refine z_iconst (v := 4) O dX15_feed_31 rfl ?_
    refine z_icmp_ge O 39 dX15_feed_32 (by decide) (fun c => ?_) (fun c => ?_)
    · replace h := h.1 c
      refine z_iload O dX15_feed_39 6 rfl ?_
      refine z_bipush (v := 8) O dX15_feed_41 rfl ?_
      refine z_icmp_ge O 50 dX15_feed_43 (by decide) (fun c => ?_) (fun c => ?_)
      · replace h := h.1 c
        refine z_iload O dX15_feed_50 6 rfl ?_
        refine z_bipush (v := 12) O dX15_feed_52 rfl ?_
        refine z_icmp_ge O 61 dX15_feed_54 (by decide) (fun c => ?_) (fun c => ?_)
        · replace h := h.1 c
          refine z_iload O dX15_feed_61 6 rfl ?_
          refine z_bipush (v := 16) O dX15_feed_63 rfl ?_
          refine z_icmp_ge O 73 dX15_feed_65 (by decide) (fun c => ?_) (fun c => ?_)
          · replace h := h.1 c
            refine z_iload O dX15_feed_73 5 rfl ?_
            exact h
          · replace h := h.2 c
            refine z_iload O dX15_feed_68 4 rfl ?_
            refine z_goto O 75 dX15_feed_70 (by decide) ?_
            exact h
        · replace h := h.2 c
          refine z_iload_n O dX15_feed_57 rfl 3 rfl ?_
          refine z_goto O 75 dX15_feed_58 (by decide) ?_
          exact h
      · replace h := h.2 c
        refine z_iload_n O dX15_feed_46 rfl 2 rfl ?_
        refine z_goto O 75 dX15_feed_47 (by decide) ?_
        exact h
    · replace h := h.2 c
      refine z_iload_n O dX15_feed_35 rfl 1 rfl ?_
      refine z_goto O 75 dX15_feed_36 (by decide) ?_
      exact h
set_option maxRecDepth 100000 in
set_option maxHeartbeats 4000000 in
theorem b_X15_feed_75 {G : zG} {X : zX} (O : zOK G X cX15_feed 8 RX15 (some .int) "feed") (hR : X.R = rm_X15_feed) {M : zM} {n k : Nat} {a0 : Nat} {x1 : Int32} {x2 : Int32} {x3 : Int32} {x4 : Int32} {x5 : Int32} {x6 : Int32} {s0 : Int32} (h : M.1 a0 = 15 ∧ ∃ b1 : Nat, M.2.2.2 a0 38 = some b1 ∧ M.1 a0 = 15 ∧ M.1 b1 = 100 ∧ vp_in ((M.2.2.1 a0 39)) (M.2.1 b1) ∧ ∀ M2 : zM, M2 = zi M b1 (((M.2.2.1 a0 39)).toNatClampNeg) ((s0 >>> ((24 - (8 * (x6 - x6 / 4 * 4))) &&& 31)) &&& 255) → M2.1 a0 = 15 ∧ M2.1 a0 = 15 ∧ ∀ M3 : zM, M3 = zi M2 a0 39 ((M2.2.2.1 a0 39) + 1) → ∀ y4 : Int32, y4 = x6 + 1 → zW G X 8 M3 n k 22 [(0, .ref a0), (1, .int x1), (2, .int x2), (3, .int x3), (4, .int x4), (5, .int x5), (6, .int y4)] []) : zW G X 8 M n k 75 [(0, .ref a0), (1, .int x1), (2, .int x2), (3, .int x3), (4, .int x4), (5, .int x5), (6, .int x6)] [.int s0] := by
  refine z_istore (lv' := [(7, .int s0), (0, .ref a0), (1, .int x1), (2, .int x2), (3, .int x3), (4, .int x4), (5, .int x5), (6, .int x6)]) O dX15_feed_75 (by decide) rfl ?_
  refine z_aload_n O dX15_feed_77 rfl 1 rfl ?_
  obtain ⟨hk, b1, hr, h⟩ := h
  refine z_getr O zf_X15_87_14 dX15_feed_78 hk hr ?_
  refine z_aload_n O dX15_feed_81 rfl 1 rfl ?_
  obtain ⟨hk, h⟩ := h
  refine z_geti O zf_X15_433_14 dX15_feed_82 hk ?_
  refine z_iload O dX15_feed_85 0 rfl ?_
  refine z_bipush (v := 24) O dX15_feed_87 rfl ?_
  refine z_bipush (v := 8) O dX15_feed_89 rfl ?_
  refine z_iload O dX15_feed_91 7 rfl ?_
  refine z_iconst (v := 4) O dX15_feed_93 rfl ?_
  refine z_irem O dX15_feed_94 (by decide) ?_
  refine z_imul O dX15_feed_95 ?_
  refine z_isub O dX15_feed_96 ?_
  refine z_ishr O dX15_feed_97 ?_
  refine z_sipush (v := 255) O dX15_feed_98 rfl ?_
  refine z_iand O dX15_feed_101 ?_
  obtain ⟨hk, hi, h⟩ := h
  refine z_iast O dX15_feed_102 hk hi ?_
  generalize eM2 : zi M b1 (((M.2.2.1 a0 39)).toNatClampNeg) ((s0 >>> ((24 - (8 * (x6 - x6 / 4 * 4))) &&& 31)) &&& 255) = M2
  replace h := h M2 eM2.symm
  refine z_aload_n O dX15_feed_103 rfl 1 rfl ?_
  refine z_dup O dX15_feed_104 rfl ?_
  obtain ⟨hk, h⟩ := h
  refine z_geti O zf_X15_433_14 dX15_feed_105 hk ?_
  refine z_iconst (v := 1) O dX15_feed_108 rfl ?_
  refine z_iadd O dX15_feed_109 ?_
  obtain ⟨hk, h⟩ := h
  refine z_puti O zp_X15_433_14 dX15_feed_110 hk ?_
  generalize eM3 : zi M2 a0 39 ((M2.2.2.1 a0 39) + 1) = M3
  replace h := h M3 eM3.symm
  obtain ⟨y4, ey4⟩ : ∃ y : Int32, y = x6 + 1 := ⟨_, rfl⟩
  replace h := h y4 ey4
  refine z_iinc (v := y4) (lv' := [(6, .int y4), (7, .int s0), (0, .ref a0), (1, .int x1), (2, .int x2), (3, .int x3), (4, .int x4), (5, .int x5)]) O dX15_feed_113 (q := 7) rfl (by rw [ey4]; rfl) (by decide) rfl ?_
  refine z_goto O 22 dX15_feed_116 (by decide) ?_
  exact z_to [2, 3, 4, 5, 6, 7, 0] rfl h
set_option maxRecDepth 100000 in
set_option maxHeartbeats 4000000 in
theorem b_X15_end_0 {G : zG} {X : zX} (O : zOK G X cX15_end 2 RX15 (some .int) "end") (hR : X.R = rm_X15_end) {M : zM} {n k : Nat} {a0 : Nat} {x1 : Int32} (h : M.1 a0 = 15 ∧ ∀ M1 : zM, M1 = zi M a0 0 0 → M1.1 a0 = 15 ∧ zC G yX15_in cX15_in 3 (some .boolean) rm_X15_in M1 [.int x1, .int 0, .int (M1.2.2.1 a0 39)] (fun M2 v => ∃ r3 : Int32, v = some (.int r3) ∧ (¬ r3 = 0 → M2.1 a0 = 15 ∧ ∀ M4 : zM, M4 = zi M2 a0 39 x1 → X.q M4 (some (.int x1))) ∧ (r3 = 0 → X.q M2 (some (.int (-1)))))) : zW G X 2 M n k 0 [(0, .ref a0), (1, .int x1)] [] := by
  refine z_aload_n O dX15_end_0 rfl 0 rfl ?_
  refine z_iconst (v := 0) O dX15_end_1 rfl ?_
  obtain ⟨hk, h⟩ := h
  refine z_puti O zp_X15_93_14 dX15_end_2 hk ?_
  generalize eM1 : zi M a0 0 0 = M1
  replace h := h M1 eM1.symm
  refine z_iload_n O dX15_end_5 rfl 1 rfl ?_
  refine z_iconst (v := 0) O dX15_end_6 rfl ?_
  refine z_aload_n O dX15_end_7 rfl 0 rfl ?_
  obtain ⟨hk, h⟩ := h
  refine z_geti O zf_X15_433_14 dX15_end_8 hk ?_
  refine z_callS0 (As := [.int x1, .int 0, .int (M1.2.2.1 a0 39)]) O zc_X15_135 h rfl (zRm_of hR (by decide) (by decide)) (Nat.le_of_ble_eq_true rfl) dX15_end_11 rfl rfl rfl (fun M2 v h => ?_)
  obtain ⟨r3, rfl, h⟩ := h
  refine z_if_ne O 19 dX15_end_14 (by decide) (fun c => ?_) (fun c => ?_)
  · replace h := h.1 c
    refine z_aload_n O dX15_end_19 rfl 0 rfl ?_
    refine z_iload_n O dX15_end_20 rfl 1 rfl ?_
    obtain ⟨hk, h⟩ := h
    refine z_puti O zp_X15_433_14 dX15_end_21 hk ?_
    generalize eM4 : zi M2 a0 39 x1 = M4
    replace h := h M4 eM4.symm
    refine z_iload_n O dX15_end_24 rfl 1 rfl ?_
    exact z_iret O dX15_end_25 h
  · replace h := h.2 c
    refine z_iconst (v := (-1)) O dX15_end_17 rfl ?_
    exact z_iret O dX15_end_18 h
set_option maxRecDepth 100000 in
set_option maxHeartbeats 4000000 in
theorem b_X15_raw_0 {G : zG} {X : zX} (O : zOK G X cX15_raw 3 RX15 (some .int) "raw") (hR : X.R = rm_X15_raw) {M : zM} {n k : Nat} {a0 : Nat} {x1 : Int32} (h : M.1 a0 = 15 ∧ ∀ M1 : zM, M1 = zi M a0 0 0 → M1.1 a0 = 15 ∧ zC G yX15_isLine cX15_isLine 2 (some .boolean) rm_X15_isLine M1 [.ref a0, .int x1] (fun M2 v => ∃ r3 : Int32, v = some (.int r3) ∧ (r3 = 0 → X.q M2 (some (.int (-1)))) ∧ (¬ r3 = 0 → M2.1 a0 = 15 ∧ zC G yX15_in cX15_in 3 (some .boolean) rm_X15_in M2 [.int (M2.2.2.1 a0 39), .int 8, .int 23] (fun M4 v => ∃ r5 : Int32, v = some (.int r5) ∧ (¬ r5 = 0 → M4.1 a0 = 15 ∧ ∃ b6 : Nat, M4.2.2.2 a0 6 = some b6 ∧ M4.1 b6 = 109 ∧ vp_in x1 (M4.2.1 b6) ∧ ∃ b7 : Nat, M4.2.2.2 b6 x1.toNatClampNeg = some b7 ∧ M4.1 b7 = 14 ∧ (¬ (M4.2.2.1 b7 5) = 8 → M4.1 a0 = 15 ∧ ∃ b8 : Nat, M4.2.2.2 a0 6 = some b8 ∧ M4.1 b8 = 109 ∧ vp_in x1 (M4.2.1 b8) ∧ ∃ b9 : Nat, M4.2.2.2 b8 x1.toNatClampNeg = some b9 ∧ M4.1 a0 = 15 ∧ ∃ b10 : Nat, M4.2.2.2 a0 38 = some b10 ∧ M4.1 a0 = 15 ∧ M4.1 a0 = 15 ∧ zC G yX15_comes cX15_comes 5 (some .int) rm_X15_comes M4 [.ref a0, .ref b9, .ref b10, .int (M4.2.2.1 a0 39)] (fun M11 v => ∃ r12 : Int32, v = some (.int r12) ∧ M11.1 a0 = 15 ∧ ∀ M13 : zM, M13 = zi M11 a0 39 0 → M13.1 a0 = 15 ∧ ∃ b14 : Nat, M13.2.2.2 a0 6 = some b14 ∧ M13.1 b14 = 109 ∧ vp_in x1 (M13.2.1 b14) ∧ ∃ b15 : Nat, M13.2.2.2 b14 x1.toNatClampNeg = some b15 ∧ M13.1 b15 = 14 ∧ X.q M13 (some (.int (M13.2.2.1 b15 5))))) ∧ ((M4.2.2.1 b7 5) = 8 → X.q M4 (some (.int (-2))))) ∧ (r5 = 0 → X.q M4 (some (.int (-1)))))))) : zW G X 3 M n k 0 [(0, .ref a0), (1, .int x1)] [] := by
  refine z_aload_n O dX15_raw_0 rfl 0 rfl ?_
  refine z_iconst (v := 0) O dX15_raw_1 rfl ?_
  obtain ⟨hk, h⟩ := h
  refine z_puti O zp_X15_93_14 dX15_raw_2 hk ?_
  generalize eM1 : zi M a0 0 0 = M1
  replace h := h M1 eM1.symm
  refine z_aload_n O dX15_raw_5 rfl 0 rfl ?_
  refine z_iload_n O dX15_raw_6 rfl 1 rfl ?_
  obtain ⟨hk, h⟩ := h
  refine z_callV0 (As := [.int x1]) O zc_X15_399 h hk rfl (zRm_of hR (by decide) (by decide)) (Nat.le_of_ble_eq_true rfl) dX15_raw_7 rfl rfl rfl (fun M2 v h => ?_)
  obtain ⟨r3, rfl, h⟩ := h
  refine z_if_eq O 27 dX15_raw_10 (by decide) (fun c => ?_) (fun c => ?_)
  · replace h := h.1 c
    refine z_iconst (v := (-1)) O dX15_raw_27 rfl ?_
    exact z_iret O dX15_raw_28 h
  · replace h := h.2 c
    refine z_aload_n O dX15_raw_13 rfl 0 rfl ?_
    obtain ⟨hk, h⟩ := h
    refine z_geti O zf_X15_433_14 dX15_raw_14 hk ?_
    refine z_bipush (v := 8) O dX15_raw_17 rfl ?_
    refine z_bipush (v := 23) O dX15_raw_19 rfl ?_
    refine z_callS0 (As := [.int (M2.2.2.1 a0 39), .int 8, .int 23]) O zc_X15_135 h rfl (zRm_of hR (by decide) (by decide)) (Nat.le_of_ble_eq_true rfl) dX15_raw_21 rfl rfl rfl (fun M4 v h => ?_)
    obtain ⟨r5, rfl, h⟩ := h
    refine z_if_ne O 29 dX15_raw_24 (by decide) (fun c => ?_) (fun c => ?_)
    · replace h := h.1 c
      refine z_aload_n O dX15_raw_29 rfl 0 rfl ?_
      obtain ⟨hk, b6, hr, h⟩ := h
      refine z_getr O zf_X15_15_14 dX15_raw_30 hk hr ?_
      refine z_iload_n O dX15_raw_33 rfl 1 rfl ?_
      obtain ⟨hk, hi, b7, hr, h⟩ := h
      refine z_ald (t := 7) O rfl dX15_raw_34 hk hi hr ?_
      obtain ⟨hk, h⟩ := h
      refine z_geti O zf_X15_96_13 dX15_raw_35 hk ?_
      refine z_bipush (v := 8) O dX15_raw_38 rfl ?_
      refine z_icmp_ne O 46 dX15_raw_40 (by decide) (fun c => ?_) (fun c => ?_)
      · replace h := h.1 c
        refine z_aload_n O dX15_raw_46 rfl 0 rfl ?_
        refine z_aload_n O dX15_raw_47 rfl 0 rfl ?_
        obtain ⟨hk, b8, hr, h⟩ := h
        refine z_getr O zf_X15_15_14 dX15_raw_48 hk hr ?_
        refine z_iload_n O dX15_raw_51 rfl 1 rfl ?_
        obtain ⟨hk, hi, b9, hr, h⟩ := h
        refine z_ald (t := 7) O rfl dX15_raw_52 hk hi hr ?_
        refine z_aload_n O dX15_raw_53 rfl 0 rfl ?_
        obtain ⟨hk, b10, hr, h⟩ := h
        refine z_getr O zf_X15_87_14 dX15_raw_54 hk hr ?_
        refine z_aload_n O dX15_raw_57 rfl 0 rfl ?_
        obtain ⟨hk, h⟩ := h
        refine z_geti O zf_X15_433_14 dX15_raw_58 hk ?_
        obtain ⟨hk, h⟩ := h
        refine z_callV0 (As := [.ref b9, .ref b10, .int (M4.2.2.1 a0 39)]) O zc_X15_159 h hk rfl (zRm_of hR (by decide) (by decide)) (Nat.le_of_ble_eq_true rfl) dX15_raw_61 rfl rfl rfl (fun M11 v h => ?_)
        obtain ⟨r12, rfl, h⟩ := h
        refine z_istore_n (lv' := [(2, .int r12), (0, .ref a0), (1, .int x1)]) O dX15_raw_64 rfl (by decide) rfl ?_
        refine z_aload_n O dX15_raw_65 rfl 1 rfl ?_
        refine z_iconst (v := 0) O dX15_raw_66 rfl ?_
        obtain ⟨hk, h⟩ := h
        refine z_puti O zp_X15_433_14 dX15_raw_67 hk ?_
        generalize eM13 : zi M11 a0 39 0 = M13
        replace h := h M13 eM13.symm
        refine z_aload_n O dX15_raw_70 rfl 1 rfl ?_
        obtain ⟨hk, b14, hr, h⟩ := h
        refine z_getr O zf_X15_15_14 dX15_raw_71 hk hr ?_
        refine z_iload_n O dX15_raw_74 rfl 2 rfl ?_
        obtain ⟨hk, hi, b15, hr, h⟩ := h
        refine z_ald (t := 7) O rfl dX15_raw_75 hk hi hr ?_
        obtain ⟨hk, h⟩ := h
        refine z_geti O zf_X15_96_13 dX15_raw_76 hk ?_
        exact z_iret O dX15_raw_79 h
      · replace h := h.2 c
        refine z_bipush (v := (-2)) O dX15_raw_43 rfl ?_
        exact z_iret O dX15_raw_45 h
    · replace h := h.2 c
      refine z_iconst (v := (-1)) O dX15_raw_27 rfl ?_
      exact z_iret O dX15_raw_28 h
set_option maxRecDepth 100000 in
set_option maxHeartbeats 4000000 in
theorem b_X15_harm_0 {G : zG} {X : zX} (O : zOK G X cX15_harm 5 RX15 (some .boolean) "harm") (hR : X.R = rm_X15_harm) {M : zM} {n k : Nat} {a0 : Nat} {x1 : Int32} {x2 : Int32} {x3 : Int32} (h : M.1 a0 = 15 ∧ ∀ M1 : zM, M1 = zi M a0 0 0 → zC G yX15_in cX15_in 3 (some .boolean) rm_X15_in M1 [.int x1, .int 0, .int 500] (fun M2 v => ∃ r3 : Int32, v = some (.int r3) ∧ (r3 = 0 → X.q M2 (some (.int 0))) ∧ (¬ r3 = 0 → zC G yX15_in cX15_in 3 (some .boolean) rm_X15_in M2 [.int x2, .int 0, .int 22] (fun M4 v => ∃ r5 : Int32, v = some (.int r5) ∧ (r5 = 0 → X.q M4 (some (.int 0))) ∧ (¬ r5 = 0 → zC G yX15_in cX15_in 3 (some .boolean) rm_X15_in M4 [.int x3, .int 1, .int 255] (fun M6 v => ∃ r7 : Int32, v = some (.int r7) ∧ (¬ r7 = 0 → zW G X 5 M6 n k 42 [(0, .ref a0), (1, .int x1), (2, .int x2), (3, .int x3), (4, .int 0)] []) ∧ (r7 = 0 → X.q M6 (some (.int 0))))))))) : zW G X 5 M n k 0 [(0, .ref a0), (1, .int x1), (2, .int x2), (3, .int x3)] [] := by
  refine z_aload_n O dX15_harm_0 rfl 0 rfl ?_
  refine z_iconst (v := 0) O dX15_harm_1 rfl ?_
  obtain ⟨hk, h⟩ := h
  refine z_puti O zp_X15_93_14 dX15_harm_2 hk ?_
  generalize eM1 : zi M a0 0 0 = M1
  replace h := h M1 eM1.symm
  refine z_iload_n O dX15_harm_5 rfl 1 rfl ?_
  refine z_iconst (v := 0) O dX15_harm_6 rfl ?_
  refine z_sipush (v := 500) O dX15_harm_7 rfl ?_
  refine z_callS0 (As := [.int x1, .int 0, .int 500]) O zc_X15_135 h rfl (zRm_of hR (by decide) (by decide)) (Nat.le_of_ble_eq_true rfl) dX15_harm_10 rfl rfl rfl (fun M2 v h => ?_)
  obtain ⟨r3, rfl, h⟩ := h
  refine z_if_eq O 37 dX15_harm_13 (by decide) (fun c => ?_) (fun c => ?_)
  · replace h := h.1 c
    refine z_iconst (v := 0) O dX15_harm_37 rfl ?_
    exact z_zret O dX15_harm_38 (by decide) h
  · replace h := h.2 c
    refine z_iload_n O dX15_harm_16 rfl 2 rfl ?_
    refine z_iconst (v := 0) O dX15_harm_17 rfl ?_
    refine z_bipush (v := 22) O dX15_harm_18 rfl ?_
    refine z_callS0 (As := [.int x2, .int 0, .int 22]) O zc_X15_135 h rfl (zRm_of hR (by decide) (by decide)) (Nat.le_of_ble_eq_true rfl) dX15_harm_20 rfl rfl rfl (fun M4 v h => ?_)
    obtain ⟨r5, rfl, h⟩ := h
    refine z_if_eq O 37 dX15_harm_23 (by decide) (fun c => ?_) (fun c => ?_)
    · replace h := h.1 c
      refine z_iconst (v := 0) O dX15_harm_37 rfl ?_
      exact z_zret O dX15_harm_38 (by decide) h
    · replace h := h.2 c
      refine z_iload_n O dX15_harm_26 rfl 3 rfl ?_
      refine z_iconst (v := 1) O dX15_harm_27 rfl ?_
      refine z_sipush (v := 255) O dX15_harm_28 rfl ?_
      refine z_callS0 (As := [.int x3, .int 1, .int 255]) O zc_X15_135 h rfl (zRm_of hR (by decide) (by decide)) (Nat.le_of_ble_eq_true rfl) dX15_harm_31 rfl rfl rfl (fun M6 v h => ?_)
      obtain ⟨r7, rfl, h⟩ := h
      refine z_if_ne O 39 dX15_harm_34 (by decide) (fun c => ?_) (fun c => ?_)
      · replace h := h.1 c
        refine z_iconst (v := 0) O dX15_harm_39 rfl ?_
        refine z_istore (lv' := [(4, .int 0), (0, .ref a0), (1, .int x1), (2, .int x2), (3, .int x3)]) O dX15_harm_40 (by decide) rfl ?_
        exact z_to [1, 2, 3, 4, 0] rfl h
      · replace h := h.2 c
        refine z_iconst (v := 0) O dX15_harm_37 rfl ?_
        exact z_zret O dX15_harm_38 (by decide) h
set_option maxRecDepth 100000 in
set_option maxHeartbeats 4000000 in
theorem b_X15_harm_42 {G : zG} {X : zX} (O : zOK G X cX15_harm 5 RX15 (some .boolean) "harm") (hR : X.R = rm_X15_harm) {M : zM} {n k : Nat} {a0 : Nat} {x1 : Int32} {x2 : Int32} {x3 : Int32} {x4 : Int32} (h : M.1 a0 = 15 ∧ ((M.2.2.1 a0 26) ≤ x4 → zW G X 5 M n k 84 [(0, .ref a0), (1, .int x1), (2, .int x2), (3, .int x3), (4, .int x4)] []) ∧ (¬ (M.2.2.1 a0 26) ≤ x4 → M.1 a0 = 15 ∧ ∃ b1 : Nat, M.2.2.2 a0 23 = some b1 ∧ M.1 b1 = 100 ∧ vp_in x4 (M.2.1 b1) ∧ M.1 a0 = 15 ∧ (¬ (M.2.2.1 b1 x4.toNatClampNeg) = ((M.2.2.1 a0 15) + x1) → ∀ y2 : Int32, y2 = x4 + 1 → zW G X 5 M n k 42 [(0, .ref a0), (1, .int x1), (2, .int x2), (3, .int x3), (4, .int y2)] []) ∧ ((M.2.2.1 b1 x4.toNatClampNeg) = ((M.2.2.1 a0 15) + x1) → M.1 a0 = 15 ∧ ∃ b3 : Nat, M.2.2.2 a0 24 = some b3 ∧ M.1 b3 = 100 ∧ vp_in x4 (M.2.1 b3) ∧ ((M.2.2.1 b3 x4.toNatClampNeg) = x2 → zW G X 5 M n k 84 [(0, .ref a0), (1, .int x1), (2, .int x2), (3, .int x3), (4, .int x4)] []) ∧ (¬ (M.2.2.1 b3 x4.toNatClampNeg) = x2 → ∀ y4 : Int32, y4 = x4 + 1 → zW G X 5 M n k 42 [(0, .ref a0), (1, .int x1), (2, .int x2), (3, .int x3), (4, .int y4)] [])))) : zW G X 5 M n k 42 [(0, .ref a0), (1, .int x1), (2, .int x2), (3, .int x3), (4, .int x4)] [] := by
  refine z_iload O dX15_harm_42 4 rfl ?_
  refine z_aload_n O dX15_harm_44 rfl 0 rfl ?_
  obtain ⟨hk, h⟩ := h
  refine z_geti O zf_X15_295_14 dX15_harm_45 hk ?_
  refine z_icmp_ge O 84 dX15_harm_48 (by decide) (fun c => ?_) (fun c => ?_)
  · replace h := h.1 c
    exact h
  · replace h := h.2 c
    refine z_aload_n O dX15_harm_51 rfl 0 rfl ?_
    obtain ⟨hk, b1, hr, h⟩ := h
    refine z_getr O zf_X15_50_14 dX15_harm_52 hk hr ?_
    refine z_iload O dX15_harm_55 4 rfl ?_
    obtain ⟨hk, hi, h⟩ := h
    refine z_iald O dX15_harm_57 hk hi ?_
    refine z_aload_n O dX15_harm_58 rfl 0 rfl ?_
    obtain ⟨hk, h⟩ := h
    refine z_geti O zf_X15_298_14 dX15_harm_59 hk ?_
    refine z_iload_n O dX15_harm_62 rfl 1 rfl ?_
    refine z_iadd O dX15_harm_63 ?_
    refine z_icmp_ne O 78 dX15_harm_64 (by decide) (fun c => ?_) (fun c => ?_)
    · replace h := h.1 c
      obtain ⟨y2, ey2⟩ : ∃ y : Int32, y = x4 + 1 := ⟨_, rfl⟩
      replace h := h y2 ey2
      refine z_iinc (v := y2) (lv' := [(4, .int y2), (0, .ref a0), (1, .int x1), (2, .int x2), (3, .int x3)]) O dX15_harm_78 (q := 4) rfl (by rw [ey2]; rfl) (by decide) rfl ?_
      refine z_goto O 42 dX15_harm_81 (by decide) ?_
      exact z_to [1, 2, 3, 4, 0] rfl h
    · replace h := h.2 c
      refine z_aload_n O dX15_harm_67 rfl 0 rfl ?_
      obtain ⟨hk, b3, hr, h⟩ := h
      refine z_getr O zf_X15_53_14 dX15_harm_68 hk hr ?_
      refine z_iload O dX15_harm_71 4 rfl ?_
      obtain ⟨hk, hi, h⟩ := h
      refine z_iald O dX15_harm_73 hk hi ?_
      refine z_iload_n O dX15_harm_74 rfl 2 rfl ?_
      refine z_icmp_eq O 84 dX15_harm_75 (by decide) (fun c => ?_) (fun c => ?_)
      · replace h := h.1 c
        exact h
      · replace h := h.2 c
        obtain ⟨y4, ey4⟩ : ∃ y : Int32, y = x4 + 1 := ⟨_, rfl⟩
        replace h := h y4 ey4
        refine z_iinc (v := y4) (lv' := [(4, .int y4), (0, .ref a0), (1, .int x1), (2, .int x2), (3, .int x3)]) O dX15_harm_78 (q := 4) rfl (by rw [ey4]; rfl) (by decide) rfl ?_
        refine z_goto O 42 dX15_harm_81 (by decide) ?_
        exact z_to [1, 2, 3, 4, 0] rfl h
set_option maxRecDepth 100000 in
set_option maxHeartbeats 4000000 in
theorem b_X15_harm_84 {G : zG} {X : zX} (O : zOK G X cX15_harm 5 RX15 (some .boolean) "harm") (hR : X.R = rm_X15_harm) {M : zM} {n k : Nat} {a0 : Nat} {x1 : Int32} {x2 : Int32} {x3 : Int32} {x4 : Int32} (h : (¬ x4 = 64 → M.1 a0 = 15 ∧ (¬ x4 = (M.2.2.1 a0 26) → zW G X 5 M n k 112 [(0, .ref a0), (1, .int x1), (2, .int x2), (3, .int x3), (4, .int x4)] []) ∧ (x4 = (M.2.2.1 a0 26) → M.1 a0 = 15 ∧ M.1 a0 = 15 ∧ ∀ M1 : zM, M1 = zi M a0 26 ((M.2.2.1 a0 26) + 1) → zW G X 5 M1 n k 112 [(0, .ref a0), (1, .int x1), (2, .int x2), (3, .int x3), (4, .int x4)] [])) ∧ (x4 = 64 → X.q M (some (.int 0)))) : zW G X 5 M n k 84 [(0, .ref a0), (1, .int x1), (2, .int x2), (3, .int x3), (4, .int x4)] [] := by
  refine z_iload O dX15_harm_84 4 rfl ?_
  refine z_bipush (v := 64) O dX15_harm_86 rfl ?_
  refine z_icmp_ne O 93 dX15_harm_88 (by decide) (fun c => ?_) (fun c => ?_)
  · replace h := h.1 c
    refine z_iload O dX15_harm_93 4 rfl ?_
    refine z_aload_n O dX15_harm_95 rfl 0 rfl ?_
    obtain ⟨hk, h⟩ := h
    refine z_geti O zf_X15_295_14 dX15_harm_96 hk ?_
    refine z_icmp_ne O 112 dX15_harm_99 (by decide) (fun c => ?_) (fun c => ?_)
    · replace h := h.1 c
      exact h
    · replace h := h.2 c
      refine z_aload_n O dX15_harm_102 rfl 0 rfl ?_
      refine z_dup O dX15_harm_103 rfl ?_
      obtain ⟨hk, h⟩ := h
      refine z_geti O zf_X15_295_14 dX15_harm_104 hk ?_
      refine z_iconst (v := 1) O dX15_harm_107 rfl ?_
      refine z_iadd O dX15_harm_108 ?_
      obtain ⟨hk, h⟩ := h
      refine z_puti O zp_X15_295_14 dX15_harm_109 hk ?_
      generalize eM1 : zi M a0 26 ((M.2.2.1 a0 26) + 1) = M1
      replace h := h M1 eM1.symm
      exact h
  · replace h := h.2 c
    refine z_iconst (v := 0) O dX15_harm_91 rfl ?_
    exact z_zret O dX15_harm_92 (by decide) h
set_option maxRecDepth 100000 in
set_option maxHeartbeats 4000000 in
theorem b_X15_harm_112 {G : zG} {X : zX} (O : zOK G X cX15_harm 5 RX15 (some .boolean) "harm") (hR : X.R = rm_X15_harm) {M : zM} {n k : Nat} {a0 : Nat} {x1 : Int32} {x2 : Int32} {x3 : Int32} {x4 : Int32} (h : M.1 a0 = 15 ∧ ∃ b1 : Nat, M.2.2.2 a0 23 = some b1 ∧ M.1 a0 = 15 ∧ M.1 b1 = 100 ∧ vp_in x4 (M.2.1 b1) ∧ ∀ M2 : zM, M2 = zi M b1 (x4.toNatClampNeg) ((M.2.2.1 a0 15) + x1) → M2.1 a0 = 15 ∧ ∃ b3 : Nat, M2.2.2.2 a0 24 = some b3 ∧ M2.1 b3 = 100 ∧ vp_in x4 (M2.2.1 b3) ∧ ∀ M4 : zM, M4 = zi M2 b3 (x4.toNatClampNeg) x2 → M4.1 a0 = 15 ∧ ∃ b5 : Nat, M4.2.2.2 a0 25 = some b5 ∧ M4.1 b5 = 100 ∧ vp_in x4 (M4.2.1 b5) ∧ ∀ M6 : zM, M6 = zi M4 b5 (x4.toNatClampNeg) x3 → X.q M6 (some (.int 1))) : zW G X 5 M n k 112 [(0, .ref a0), (1, .int x1), (2, .int x2), (3, .int x3), (4, .int x4)] [] := by
  refine z_aload_n O dX15_harm_112 rfl 0 rfl ?_
  obtain ⟨hk, b1, hr, h⟩ := h
  refine z_getr O zf_X15_50_14 dX15_harm_113 hk hr ?_
  refine z_iload O dX15_harm_116 4 rfl ?_
  refine z_aload_n O dX15_harm_118 rfl 0 rfl ?_
  obtain ⟨hk, h⟩ := h
  refine z_geti O zf_X15_298_14 dX15_harm_119 hk ?_
  refine z_iload_n O dX15_harm_122 rfl 1 rfl ?_
  refine z_iadd O dX15_harm_123 ?_
  obtain ⟨hk, hi, h⟩ := h
  refine z_iast O dX15_harm_124 hk hi ?_
  generalize eM2 : zi M b1 (x4.toNatClampNeg) ((M.2.2.1 a0 15) + x1) = M2
  replace h := h M2 eM2.symm
  refine z_aload_n O dX15_harm_125 rfl 0 rfl ?_
  obtain ⟨hk, b3, hr, h⟩ := h
  refine z_getr O zf_X15_53_14 dX15_harm_126 hk hr ?_
  refine z_iload O dX15_harm_129 4 rfl ?_
  refine z_iload_n O dX15_harm_131 rfl 2 rfl ?_
  obtain ⟨hk, hi, h⟩ := h
  refine z_iast O dX15_harm_132 hk hi ?_
  generalize eM4 : zi M2 b3 (x4.toNatClampNeg) x2 = M4
  replace h := h M4 eM4.symm
  refine z_aload_n O dX15_harm_133 rfl 0 rfl ?_
  obtain ⟨hk, b5, hr, h⟩ := h
  refine z_getr O zf_X15_56_14 dX15_harm_134 hk hr ?_
  refine z_iload O dX15_harm_137 4 rfl ?_
  refine z_iload_n O dX15_harm_139 rfl 3 rfl ?_
  obtain ⟨hk, hi, h⟩ := h
  refine z_iast O dX15_harm_140 hk hi ?_
  generalize eM6 : zi M4 b5 (x4.toNatClampNeg) x3 = M6
  replace h := h M6 eM6.symm
  refine z_iconst (v := 1) O dX15_harm_141 rfl ?_
  exact z_zret O dX15_harm_142 (by decide) h
set_option maxRecDepth 100000 in
set_option maxHeartbeats 4000000 in
theorem b_X15_step_0 {G : zG} {X : zX} (O : zOK G X cX15_step 5 RX15 (some .int) "step") (hR : X.R = rm_X15_step) {M : zM} {n k : Nat} {a0 : Nat} {x1 : Int32} (h : zC G yX15_in cX15_in 3 (some .boolean) rm_X15_in M [.int x1, .int 1, .int 200] (fun M1 v => ∃ r2 : Int32, v = some (.int r2) ∧ (r2 = 0 → zW G X 5 M1 n k 17 [(0, .ref a0), (1, .int x1)] [.int 1, .ref a0]) ∧ (¬ r2 = 0 → zW G X 5 M1 n k 17 [(0, .ref a0), (1, .int x1)] [.int 0, .ref a0]))) : zW G X 5 M n k 0 [(0, .ref a0), (1, .int x1)] [] := by
  refine z_aload_n O dX15_step_0 rfl 0 rfl ?_
  refine z_iload_n O dX15_step_1 rfl 1 rfl ?_
  refine z_iconst (v := 1) O dX15_step_2 rfl ?_
  refine z_sipush (v := 200) O dX15_step_3 rfl ?_
  refine z_callS0 (As := [.int x1, .int 1, .int 200]) O zc_X15_135 h rfl (zRm_of hR (by decide) (by decide)) (Nat.le_of_ble_eq_true rfl) dX15_step_6 rfl rfl rfl (fun M1 v h => ?_)
  obtain ⟨r2, rfl, h⟩ := h
  refine z_if_eq O 16 dX15_step_9 (by decide) (fun c => ?_) (fun c => ?_)
  · replace h := h.1 c
    refine z_iconst (v := 1) O dX15_step_16 rfl ?_
    exact h
  · replace h := h.2 c
    refine z_iconst (v := 0) O dX15_step_12 rfl ?_
    refine z_goto O 17 dX15_step_13 (by decide) ?_
    exact h
set_option maxRecDepth 100000 in
set_option maxHeartbeats 4000000 in
theorem b_X15_step_17 {G : zG} {X : zX} (O : zOK G X cX15_step 5 RX15 (some .int) "step") (hR : X.R = rm_X15_step) {M : zM} {n k : Nat} {a0 : Nat} {x1 : Int32} {s0 : Int32} {b1 : Nat} (h : M.1 b1 = 15 ∧ ∀ M1 : zM, M1 = zi M b1 0 s0 → M1.1 a0 = 15 ∧ ((M1.2.2.1 a0 0) ≤ 0 → M1.1 a0 = 15 ∧ ∀ y2 : Int32, y2 = (M1.2.2.1 a0 15) → zW G X 5 M1 n k 36 [(0, .ref a0), (1, .int x1), (2, .int y2), (3, .int 0)] []) ∧ (¬ (M1.2.2.1 a0 0) ≤ 0 → X.q M1 (some (.int 0)))) : zW G X 5 M n k 17 [(0, .ref a0), (1, .int x1)] [.int s0, .ref b1] := by
  obtain ⟨hk, h⟩ := h
  refine z_puti O zp_X15_93_14 dX15_step_17 hk ?_
  generalize eM1 : zi M b1 0 s0 = M1
  replace h := h M1 eM1.symm
  refine z_aload_n O dX15_step_20 rfl 0 rfl ?_
  obtain ⟨hk, h⟩ := h
  refine z_geti O zf_X15_93_14 dX15_step_21 hk ?_
  refine z_if_le O 29 dX15_step_24 (by decide) (fun c => ?_) (fun c => ?_)
  · replace h := h.1 c
    refine z_aload_n O dX15_step_29 rfl 0 rfl ?_
    obtain ⟨hk, h⟩ := h
    refine z_geti O zf_X15_298_14 dX15_step_30 hk ?_
    refine z_topi (fun y2 ey2 => ?_)
    replace h := h y2 ey2
    refine z_istore_n (lv' := [(2, .int y2), (0, .ref a0), (1, .int x1)]) O dX15_step_33 rfl (by decide) rfl ?_
    refine z_iconst (v := 0) O dX15_step_34 rfl ?_
    refine z_istore_n (lv' := [(3, .int 0), (2, .int y2), (0, .ref a0), (1, .int x1)]) O dX15_step_35 rfl (by decide) rfl ?_
    exact z_to [2, 3, 1, 0] rfl h
  · replace h := h.2 c
    refine z_iconst (v := 0) O dX15_step_27 rfl ?_
    exact z_iret O dX15_step_28 h
set_option maxRecDepth 100000 in
set_option maxHeartbeats 4000000 in
theorem b_X15_step_36 {G : zG} {X : zX} (O : zOK G X cX15_step 5 RX15 (some .int) "step") (hR : X.R = rm_X15_step) {M : zM} {n k : Nat} {a0 : Nat} {x1 : Int32} {x2 : Int32} {x3 : Int32} (h : (x1 ≤ x3 → M.1 a0 = 15 ∧ X.q M (some (.int ((M.2.2.1 a0 15) - x2)))) ∧ (¬ x1 ≤ x3 → M.1 a0 = 15 ∧ M.1 a0 = 15 ∧ ∀ M1 : zM, M1 = zi M a0 1 ((M.2.2.1 a0 1) + 1) → zW G X 5 M1 n k 54 [(0, .ref a0), (1, .int x1), (2, .int x2), (3, .int x3), (4, .int 0)] [])) : zW G X 5 M n k 36 [(0, .ref a0), (1, .int x1), (2, .int x2), (3, .int x3)] [] := by
  refine z_iload_n O dX15_step_36 rfl 3 rfl ?_
  refine z_iload_n O dX15_step_37 rfl 1 rfl ?_
  refine z_icmp_ge O 110 dX15_step_38 (by decide) (fun c => ?_) (fun c => ?_)
  · replace h := h.1 c
    refine z_aload_n O dX15_step_110 rfl 0 rfl ?_
    obtain ⟨hk, h⟩ := h
    refine z_geti O zf_X15_298_14 dX15_step_111 hk ?_
    refine z_iload_n O dX15_step_114 rfl 2 rfl ?_
    refine z_isub O dX15_step_115 ?_
    exact z_iret O dX15_step_116 h
  · replace h := h.2 c
    refine z_aload_n O dX15_step_41 rfl 0 rfl ?_
    refine z_dup O dX15_step_42 rfl ?_
    obtain ⟨hk, h⟩ := h
    refine z_geti O zf_X15_112_14 dX15_step_43 hk ?_
    refine z_iconst (v := 1) O dX15_step_46 rfl ?_
    refine z_iadd O dX15_step_47 ?_
    obtain ⟨hk, h⟩ := h
    refine z_puti O zp_X15_112_14 dX15_step_48 hk ?_
    generalize eM1 : zi M a0 1 ((M.2.2.1 a0 1) + 1) = M1
    replace h := h M1 eM1.symm
    refine z_iconst (v := 0) O dX15_step_51 rfl ?_
    refine z_istore (lv' := [(4, .int 0), (0, .ref a0), (1, .int x1), (2, .int x2), (3, .int x3)]) O dX15_step_52 (by decide) rfl ?_
    exact z_to [1, 2, 3, 4, 0] rfl h
set_option maxRecDepth 100000 in
set_option maxHeartbeats 4000000 in
theorem b_X15_step_54 {G : zG} {X : zX} (O : zOK G X cX15_step 5 RX15 (some .int) "step") (hR : X.R = rm_X15_step) {M : zM} {n k : Nat} {a0 : Nat} {x1 : Int32} {x2 : Int32} {x3 : Int32} {x4 : Int32} (h : M.1 a0 = 15 ∧ ((M.2.2.1 a0 4) ≤ x4 → zW G X 5 M n k 78 [(0, .ref a0), (1, .int x1), (2, .int x2), (3, .int x3), (4, .int 0)] []) ∧ (¬ (M.2.2.1 a0 4) ≤ x4 → M.1 a0 = 15 ∧ zC G yX15_goesOn cX15_goesOn 7 none rm_X15_goesOn M [.ref a0, .int x4] (fun M1 v => v = none ∧ ∀ y2 : Int32, y2 = x4 + 1 → zW G X 5 M1 n k 54 [(0, .ref a0), (1, .int x1), (2, .int x2), (3, .int x3), (4, .int y2)] []))) : zW G X 5 M n k 54 [(0, .ref a0), (1, .int x1), (2, .int x2), (3, .int x3), (4, .int x4)] [] := by
  refine z_iload O dX15_step_54 4 rfl ?_
  refine z_aload_n O dX15_step_56 rfl 0 rfl ?_
  obtain ⟨hk, h⟩ := h
  refine z_geti O zf_X15_132_14 dX15_step_57 hk ?_
  refine z_icmp_ge O 75 dX15_step_60 (by decide) (fun c => ?_) (fun c => ?_)
  · replace h := h.1 c
    refine z_iconst (v := 0) O dX15_step_75 rfl ?_
    refine z_istore (lv' := [(4, .int 0), (0, .ref a0), (1, .int x1), (2, .int x2), (3, .int x3)]) O dX15_step_76 (by decide) rfl ?_
    exact z_to [1, 2, 3, 4, 0] rfl h
  · replace h := h.2 c
    refine z_aload_n O dX15_step_63 rfl 0 rfl ?_
    refine z_iload O dX15_step_64 4 rfl ?_
    obtain ⟨hk, h⟩ := h
    refine z_callV0 (As := [.int x4]) O zc_X15_436 h hk rfl (zRm_of hR (by decide) (by decide)) (Nat.le_of_ble_eq_true rfl) dX15_step_66 rfl rfl rfl (fun M1 v h => ?_)
    obtain ⟨rfl, h⟩ := h
    obtain ⟨y2, ey2⟩ : ∃ y : Int32, y = x4 + 1 := ⟨_, rfl⟩
    replace h := h y2 ey2
    refine z_iinc (v := y2) (lv' := [(4, .int y2), (0, .ref a0), (1, .int x1), (2, .int x2), (3, .int x3)]) O dX15_step_69 (q := 4) rfl (by rw [ey2]; rfl) (by decide) rfl ?_
    refine z_goto O 54 dX15_step_72 (by decide) ?_
    exact z_to [1, 2, 3, 4, 0] rfl h
set_option maxRecDepth 100000 in
set_option maxHeartbeats 4000000 in
theorem b_X15_step_78 {G : zG} {X : zX} (O : zOK G X cX15_step 5 RX15 (some .int) "step") (hR : X.R = rm_X15_step) {M : zM} {n k : Nat} {a0 : Nat} {x1 : Int32} {x2 : Int32} {x3 : Int32} {x4 : Int32} (h : M.1 a0 = 15 ∧ ((M.2.2.1 a0 7) ≤ x4 → ∀ y1 : Int32, y1 = x3 + 1 → zW G X 5 M n k 36 [(0, .ref a0), (1, .int x1), (2, .int x2), (3, .int y1)] []) ∧ (¬ (M.2.2.1 a0 7) ≤ x4 → M.1 a0 = 15 ∧ ∃ b2 : Nat, M.2.2.2 a0 8 = some b2 ∧ M.1 b2 = 110 ∧ vp_in x4 (M.2.1 b2) ∧ ∃ b3 : Nat, M.2.2.2 b2 x4.toNatClampNeg = some b3 ∧ M.1 a0 = 15 ∧ zC G yX15_times cX15_times 2 none rm_X15_times M [.ref a0, .ref b3] (fun M4 v => v = none ∧ ∀ y5 : Int32, y5 = x4 + 1 → zW G X 5 M4 n k 78 [(0, .ref a0), (1, .int x1), (2, .int x2), (3, .int x3), (4, .int y5)] []))) : zW G X 5 M n k 78 [(0, .ref a0), (1, .int x1), (2, .int x2), (3, .int x3), (4, .int x4)] [] := by
  refine z_iload O dX15_step_78 4 rfl ?_
  refine z_aload_n O dX15_step_80 rfl 0 rfl ?_
  obtain ⟨hk, h⟩ := h
  refine z_geti O zf_X15_139_14 dX15_step_81 hk ?_
  refine z_icmp_ge O 104 dX15_step_84 (by decide) (fun c => ?_) (fun c => ?_)
  · replace h := h.1 c
    obtain ⟨y1, ey1⟩ : ∃ y : Int32, y = x3 + 1 := ⟨_, rfl⟩
    replace h := h y1 ey1
    refine z_iinc (v := y1) (lv' := [(3, .int y1), (0, .ref a0), (1, .int x1), (2, .int x2), (4, .int x4)]) O dX15_step_104 (q := 3) rfl (by rw [ey1]; rfl) (by decide) rfl ?_
    refine z_goto O 36 dX15_step_107 (by decide) ?_
    exact z_to [1, 2, 3, 0] rfl h
  · replace h := h.2 c
    refine z_aload_n O dX15_step_87 rfl 0 rfl ?_
    refine z_aload_n O dX15_step_88 rfl 0 rfl ?_
    obtain ⟨hk, b2, hr, h⟩ := h
    refine z_getr O zf_X15_21_14 dX15_step_89 hk hr ?_
    refine z_iload O dX15_step_92 4 rfl ?_
    obtain ⟨hk, hi, b3, hr, h⟩ := h
    refine z_ald (t := 8) O rfl dX15_step_94 hk hi hr ?_
    obtain ⟨hk, h⟩ := h
    refine z_callV0 (As := [.ref b3]) O zc_X15_439 h hk rfl (zRm_of hR (by decide) (by decide)) (Nat.le_of_ble_eq_true rfl) dX15_step_95 rfl rfl rfl (fun M4 v h => ?_)
    obtain ⟨rfl, h⟩ := h
    obtain ⟨y5, ey5⟩ : ∃ y : Int32, y = x4 + 1 := ⟨_, rfl⟩
    replace h := h y5 ey5
    refine z_iinc (v := y5) (lv' := [(4, .int y5), (0, .ref a0), (1, .int x1), (2, .int x2), (3, .int x3)]) O dX15_step_98 (q := 4) rfl (by rw [ey5]; rfl) (by decide) rfl ?_
    refine z_goto O 78 dX15_step_101 (by decide) ?_
    exact z_to [1, 2, 3, 4, 0] rfl h
set_option maxRecDepth 100000 in
set_option maxHeartbeats 4000000 in
theorem b_X15_sent_0 {G : zG} {X : zX} (O : zOK G X cX15_sent 2 RX15 (some .int) "sent") (hR : X.R = rm_X15_sent) {M : zM} {n k : Nat} {a0 : Nat} {x1 : Int32} (h : M.1 a0 = 15 ∧ ((M.2.2.1 a0 22) ≤ 0 → zW G X 2 M n k 31 [(0, .ref a0), (1, .int x1)] [.ref a0]) ∧ (¬ (M.2.2.1 a0 22) ≤ 0 → (x1 = (-1) → zW G X 2 M n k 27 [(0, .ref a0), (1, .int x1)] [.ref a0]) ∧ (¬ x1 = (-1) → M.1 a0 = 15 ∧ zC G yX15_in cX15_in 3 (some .boolean) rm_X15_in M [.int x1, .int 0, .int ((M.2.2.1 a0 22) - 1)] (fun M1 v => ∃ r2 : Int32, v = some (.int r2) ∧ (r2 = 0 → zW G X 2 M1 n k 31 [(0, .ref a0), (1, .int x1)] [.ref a0]) ∧ (¬ r2 = 0 → zW G X 2 M1 n k 27 [(0, .ref a0), (1, .int x1)] [.ref a0]))))) : zW G X 2 M n k 0 [(0, .ref a0), (1, .int x1)] [] := by
  refine z_aload_n O dX15_sent_0 rfl 0 rfl ?_
  refine z_aload_n O dX15_sent_1 rfl 0 rfl ?_
  obtain ⟨hk, h⟩ := h
  refine z_geti O zf_X15_292_14 dX15_sent_2 hk ?_
  refine z_if_le O 31 dX15_sent_5 (by decide) (fun c => ?_) (fun c => ?_)
  · replace h := h.1 c
    exact h
  · replace h := h.2 c
    refine z_iload_n O dX15_sent_8 rfl 1 rfl ?_
    refine z_iconst (v := (-1)) O dX15_sent_9 rfl ?_
    refine z_icmp_eq O 27 dX15_sent_10 (by decide) (fun c => ?_) (fun c => ?_)
    · replace h := h.1 c
      exact h
    · replace h := h.2 c
      refine z_iload_n O dX15_sent_13 rfl 1 rfl ?_
      refine z_iconst (v := 0) O dX15_sent_14 rfl ?_
      refine z_aload_n O dX15_sent_15 rfl 0 rfl ?_
      obtain ⟨hk, h⟩ := h
      refine z_geti O zf_X15_292_14 dX15_sent_16 hk ?_
      refine z_iconst (v := 1) O dX15_sent_19 rfl ?_
      refine z_isub O dX15_sent_20 ?_
      refine z_callS0 (As := [.int x1, .int 0, .int ((M.2.2.1 a0 22) - 1)]) O zc_X15_135 h rfl (zRm_of hR (by decide) (by decide)) (Nat.le_of_ble_eq_true rfl) dX15_sent_21 rfl rfl rfl (fun M1 v h => ?_)
      obtain ⟨r2, rfl, h⟩ := h
      refine z_if_eq O 31 dX15_sent_24 (by decide) (fun c => ?_) (fun c => ?_)
      · replace h := h.1 c
        exact h
      · replace h := h.2 c
        exact h
set_option maxRecDepth 100000 in
set_option maxHeartbeats 4000000 in
theorem b_X15_sent_31 {G : zG} {X : zX} (O : zOK G X cX15_sent 2 RX15 (some .int) "sent") (hR : X.R = rm_X15_sent) {M : zM} {n k : Nat} {a0 : Nat} {x1 : Int32} {b0 : Nat} (h : zW G X 2 M n k 32 [(0, .ref a0), (1, .int x1)] [.int 1, .ref b0]) : zW G X 2 M n k 31 [(0, .ref a0), (1, .int x1)] [.ref b0] := by
  refine z_iconst (v := 1) O dX15_sent_31 rfl ?_
  exact h
set_option maxRecDepth 100000 in
set_option maxHeartbeats 4000000 in
theorem b_X15_sent_27 {G : zG} {X : zX} (O : zOK G X cX15_sent 2 RX15 (some .int) "sent") (hR : X.R = rm_X15_sent) {M : zM} {n k : Nat} {a0 : Nat} {x1 : Int32} {b0 : Nat} (h : zW G X 2 M n k 32 [(0, .ref a0), (1, .int x1)] [.int 0, .ref b0]) : zW G X 2 M n k 27 [(0, .ref a0), (1, .int x1)] [.ref b0] := by
  refine z_iconst (v := 0) O dX15_sent_27 rfl ?_
  refine z_goto O 32 dX15_sent_28 (by decide) ?_
  exact h
set_option maxRecDepth 100000 in
set_option maxHeartbeats 4000000 in
theorem b_X15_sent_32 {G : zG} {X : zX} (O : zOK G X cX15_sent 2 RX15 (some .int) "sent") (hR : X.R = rm_X15_sent) {M : zM} {n k : Nat} {a0 : Nat} {x1 : Int32} {s0 : Int32} {b1 : Nat} (h : M.1 b1 = 15 ∧ ∀ M1 : zM, M1 = zi M b1 0 s0 → M1.1 a0 = 15 ∧ ((M1.2.2.1 a0 0) ≤ 0 → (¬ x1 = (-1) → M1.1 a0 = 15 ∧ ∃ b2 : Nat, M1.2.2.2 a0 21 = some b2 ∧ M1.1 b2 = 100 ∧ vp_in x1 (M1.2.1 b2) ∧ X.q M1 (some (.int (M1.2.2.1 b2 x1.toNatClampNeg)))) ∧ (x1 = (-1) → M1.1 a0 = 15 ∧ X.q M1 (some (.int (M1.2.2.1 a0 22))))) ∧ (¬ (M1.2.2.1 a0 0) ≤ 0 → X.q M1 (some (.int 0)))) : zW G X 2 M n k 32 [(0, .ref a0), (1, .int x1)] [.int s0, .ref b1] := by
  obtain ⟨hk, h⟩ := h
  refine z_puti O zp_X15_93_14 dX15_sent_32 hk ?_
  generalize eM1 : zi M b1 0 s0 = M1
  replace h := h M1 eM1.symm
  refine z_aload_n O dX15_sent_35 rfl 0 rfl ?_
  obtain ⟨hk, h⟩ := h
  refine z_geti O zf_X15_93_14 dX15_sent_36 hk ?_
  refine z_if_le O 46 dX15_sent_39 (by decide) (fun c => ?_) (fun c => ?_)
  · replace h := h.1 c
    refine z_iload_n O dX15_sent_46 rfl 1 rfl ?_
    refine z_iconst (v := (-1)) O dX15_sent_47 rfl ?_
    refine z_icmp_ne O 58 dX15_sent_48 (by decide) (fun c => ?_) (fun c => ?_)
    · replace h := h.1 c
      refine z_aload_n O dX15_sent_58 rfl 0 rfl ?_
      obtain ⟨hk, b2, hr, h⟩ := h
      refine z_getr O zf_X15_47_14 dX15_sent_59 hk hr ?_
      refine z_iload_n O dX15_sent_62 rfl 1 rfl ?_
      obtain ⟨hk, hi, h⟩ := h
      refine z_iald O dX15_sent_63 hk hi ?_
      exact z_iret O dX15_sent_64 h
    · replace h := h.2 c
      refine z_aload_n O dX15_sent_51 rfl 0 rfl ?_
      obtain ⟨hk, h⟩ := h
      refine z_geti O zf_X15_292_14 dX15_sent_52 hk ?_
      refine z_goto O 64 dX15_sent_55 (by decide) ?_
      exact z_iret O dX15_sent_64 h
  · replace h := h.2 c
    refine z_iconst (v := 0) O dX15_sent_42 rfl ?_
    refine z_goto O 64 dX15_sent_43 (by decide) ?_
    exact z_iret O dX15_sent_64 h
set_option maxRecDepth 100000 in
set_option maxHeartbeats 4000000 in
theorem b_X15_count_0 {G : zG} {X : zX} (O : zOK G X cX15_count 4 RX15 (some .int) "count") (hR : X.R = rm_X15_count) {M : zM} {n k : Nat} {a0 : Nat} {x1 : Int32} (h : M.1 a0 = 15 ∧ ∀ M1 : zM, M1 = zi M a0 0 0 → (x1.toInt < 0 ∨ 13 < x1.toInt → X.q M1 (some (.int (-1)))) ∧ (x1.toInt = 0 → M1.1 a0 = 15 ∧ X.q M1 (some (.int (M1.2.2.1 a0 1)))) ∧ (x1.toInt = 1 → M1.1 a0 = 15 ∧ X.q M1 (some (.int (M1.2.2.1 a0 4)))) ∧ (x1.toInt = 2 → M1.1 a0 = 15 ∧ X.q M1 (some (.int (M1.2.2.1 a0 7)))) ∧ (x1.toInt = 3 → M1.1 a0 = 15 ∧ X.q M1 (some (.int (M1.2.2.1 a0 9)))) ∧ (x1.toInt = 4 → M1.1 a0 = 15 ∧ X.q M1 (some (.int (M1.2.2.1 a0 15)))) ∧ (x1.toInt = 5 → M1.1 a0 = 15 ∧ X.q M1 (some (.int (M1.2.2.1 a0 16)))) ∧ (x1.toInt = 6 → M1.1 a0 = 15 ∧ X.q M1 (some (.int (M1.2.2.1 a0 17)))) ∧ (x1.toInt = 7 → M1.1 a0 = 15 ∧ X.q M1 (some (.int (M1.2.2.1 a0 3)))) ∧ (x1.toInt = 8 → M1.1 a0 = 15 ∧ X.q M1 (some (.int (M1.2.2.1 a0 18)))) ∧ (x1.toInt = 9 → M1.1 a0 = 15 ∧ X.q M1 (some (.int (M1.2.2.1 a0 19)))) ∧ (x1.toInt = 10 → M1.1 a0 = 15 ∧ X.q M1 (some (.int (M1.2.2.1 a0 20)))) ∧ (x1.toInt = 11 → zW G X 4 M1 n k 137 [(0, .ref a0), (2, .int 0), (3, .int 0)] []) ∧ (x1.toInt = 12 → M1.1 a0 = 15 ∧ X.q M1 (some (.int (M1.2.2.1 a0 26)))) ∧ (x1.toInt = 13 → M1.1 a0 = 15 ∧ X.q M1 (some (.int (M1.2.2.1 a0 39))))) : zW G X 4 M n k 0 [(0, .ref a0), (1, .int x1)] [] := by
  refine z_aload_n O dX15_count_0 rfl 0 rfl ?_
  refine z_iconst (v := 0) O dX15_count_1 rfl ?_
  obtain ⟨hk, h⟩ := h
  refine z_puti O zp_X15_93_14 dX15_count_2 hk ?_
  generalize eM1 : zi M a0 0 0 = M1
  replace h := h M1 eM1.symm
  refine z_iconst (v := 0) O dX15_count_5 rfl ?_
  refine z_istore_n (lv' := [(2, .int 0), (0, .ref a0), (1, .int x1)]) O dX15_count_6 rfl (by decide) rfl ?_
  refine z_iload_n O dX15_count_7 rfl 2 rfl ?_
  rcases zsw x1 0 13 (by decide) with c | ⟨j, hj, c⟩
  · refine z_tsOut O 254 dX15_count_8 c (by decide) ?_
    replace h := h.1 c
    refine z_iconst (v := (-1)) O dX15_count_254 rfl ?_
    exact z_iret O dX15_count_255 h
  · replace h := h.2
    rcases zcas j 0 with hz | hz
    · subst hz
      replace h := h.1 (by rw [c]; rfl)
      refine z_tsIn (off := 72) O 80 dX15_count_8 (by rw [c]; decide) (by rw [c]; decide) (by rw [c]; rfl) (by decide) ?_
      refine z_aload_n O dX15_count_80 rfl 1 rfl ?_
      obtain ⟨hk, h⟩ := h
      refine z_geti O zf_X15_112_14 dX15_count_81 hk ?_
      exact z_iret O dX15_count_84 h
    · replace h := h.2
      rcases zcas j 1 with hz | hz
      · subst hz
        replace h := h.1 (by rw [c]; rfl)
        refine z_tsIn (off := 77) O 85 dX15_count_8 (by rw [c]; decide) (by rw [c]; decide) (by rw [c]; rfl) (by decide) ?_
        refine z_aload_n O dX15_count_85 rfl 1 rfl ?_
        obtain ⟨hk, h⟩ := h
        refine z_geti O zf_X15_132_14 dX15_count_86 hk ?_
        exact z_iret O dX15_count_89 h
      · replace h := h.2
        rcases zcas j 2 with hz | hz
        · subst hz
          replace h := h.1 (by rw [c]; rfl)
          refine z_tsIn (off := 82) O 90 dX15_count_8 (by rw [c]; decide) (by rw [c]; decide) (by rw [c]; rfl) (by decide) ?_
          refine z_aload_n O dX15_count_90 rfl 1 rfl ?_
          obtain ⟨hk, h⟩ := h
          refine z_geti O zf_X15_139_14 dX15_count_91 hk ?_
          exact z_iret O dX15_count_94 h
        · replace h := h.2
          rcases zcas j 3 with hz | hz
          · subst hz
            replace h := h.1 (by rw [c]; rfl)
            refine z_tsIn (off := 87) O 95 dX15_count_8 (by rw [c]; decide) (by rw [c]; decide) (by rw [c]; rfl) (by decide) ?_
            refine z_aload_n O dX15_count_95 rfl 1 rfl ?_
            obtain ⟨hk, h⟩ := h
            refine z_geti O zf_X15_142_14 dX15_count_96 hk ?_
            exact z_iret O dX15_count_99 h
          · replace h := h.2
            rcases zcas j 4 with hz | hz
            · subst hz
              replace h := h.1 (by rw [c]; rfl)
              refine z_tsIn (off := 92) O 100 dX15_count_8 (by rw [c]; decide) (by rw [c]; decide) (by rw [c]; rfl) (by decide) ?_
              refine z_aload_n O dX15_count_100 rfl 1 rfl ?_
              obtain ⟨hk, h⟩ := h
              refine z_geti O zf_X15_298_14 dX15_count_101 hk ?_
              exact z_iret O dX15_count_104 h
            · replace h := h.2
              rcases zcas j 5 with hz | hz
              · subst hz
                replace h := h.1 (by rw [c]; rfl)
                refine z_tsIn (off := 97) O 105 dX15_count_8 (by rw [c]; decide) (by rw [c]; decide) (by rw [c]; rfl) (by decide) ?_
                refine z_aload_n O dX15_count_105 rfl 1 rfl ?_
                obtain ⟨hk, h⟩ := h
                refine z_geti O zf_X15_390_14 dX15_count_106 hk ?_
                exact z_iret O dX15_count_109 h
              · replace h := h.2
                rcases zcas j 6 with hz | hz
                · subst hz
                  replace h := h.1 (by rw [c]; rfl)
                  refine z_tsIn (off := 102) O 110 dX15_count_8 (by rw [c]; decide) (by rw [c]; decide) (by rw [c]; rfl) (by decide) ?_
                  refine z_aload_n O dX15_count_110 rfl 1 rfl ?_
                  obtain ⟨hk, h⟩ := h
                  refine z_geti O zf_X15_393_14 dX15_count_111 hk ?_
                  exact z_iret O dX15_count_114 h
                · replace h := h.2
                  rcases zcas j 7 with hz | hz
                  · subst hz
                    replace h := h.1 (by rw [c]; rfl)
                    refine z_tsIn (off := 107) O 115 dX15_count_8 (by rw [c]; decide) (by rw [c]; decide) (by rw [c]; rfl) (by decide) ?_
                    refine z_aload_n O dX15_count_115 rfl 1 rfl ?_
                    obtain ⟨hk, h⟩ := h
                    refine z_geti O zf_X15_99_14 dX15_count_116 hk ?_
                    exact z_iret O dX15_count_119 h
                  · replace h := h.2
                    rcases zcas j 8 with hz | hz
                    · subst hz
                      replace h := h.1 (by rw [c]; rfl)
                      refine z_tsIn (off := 112) O 120 dX15_count_8 (by rw [c]; decide) (by rw [c]; decide) (by rw [c]; rfl) (by decide) ?_
                      refine z_aload_n O dX15_count_120 rfl 1 rfl ?_
                      obtain ⟨hk, h⟩ := h
                      refine z_geti O zf_X15_343_14 dX15_count_121 hk ?_
                      exact z_iret O dX15_count_124 h
                    · replace h := h.2
                      rcases zcas j 9 with hz | hz
                      · subst hz
                        replace h := h.1 (by rw [c]; rfl)
                        refine z_tsIn (off := 117) O 125 dX15_count_8 (by rw [c]; decide) (by rw [c]; decide) (by rw [c]; rfl) (by decide) ?_
                        refine z_aload_n O dX15_count_125 rfl 1 rfl ?_
                        obtain ⟨hk, h⟩ := h
                        refine z_geti O zf_X15_381_14 dX15_count_126 hk ?_
                        exact z_iret O dX15_count_129 h
                      · replace h := h.2
                        rcases zcas j 10 with hz | hz
                        · subst hz
                          replace h := h.1 (by rw [c]; rfl)
                          refine z_tsIn (off := 122) O 130 dX15_count_8 (by rw [c]; decide) (by rw [c]; decide) (by rw [c]; rfl) (by decide) ?_
                          refine z_aload_n O dX15_count_130 rfl 1 rfl ?_
                          obtain ⟨hk, h⟩ := h
                          refine z_geti O zf_X15_43_14 dX15_count_131 hk ?_
                          exact z_iret O dX15_count_134 h
                        · replace h := h.2
                          rcases zcas j 11 with hz | hz
                          · subst hz
                            replace h := h.1 (by rw [c]; rfl)
                            refine z_tsIn (off := 127) O 135 dX15_count_8 (by rw [c]; decide) (by rw [c]; decide) (by rw [c]; rfl) (by decide) ?_
                            refine z_iconst (v := 0) O dX15_count_135 rfl ?_
                            refine z_istore_n (lv' := [(3, .int 0), (2, .int 0), (0, .ref a0), (1, .int x1)]) O dX15_count_136 rfl (by decide) rfl ?_
                            exact z_to [2, 1, 0] rfl h
                          · replace h := h.2
                            rcases zcas j 12 with hz | hz
                            · subst hz
                              replace h := h.1 (by rw [c]; rfl)
                              refine z_tsIn (off := 236) O 244 dX15_count_8 (by rw [c]; decide) (by rw [c]; decide) (by rw [c]; rfl) (by decide) ?_
                              refine z_aload_n O dX15_count_244 rfl 1 rfl ?_
                              obtain ⟨hk, h⟩ := h
                              refine z_geti O zf_X15_295_14 dX15_count_245 hk ?_
                              exact z_iret O dX15_count_248 h
                            · replace h := h.2
                              have hz : j = 13 := by omega
                              subst hz
                              replace h := h (by rw [c]; rfl)
                              refine z_tsIn (off := 241) O 249 dX15_count_8 (by rw [c]; decide) (by rw [c]; decide) (by rw [c]; rfl) (by decide) ?_
                              refine z_aload_n O dX15_count_249 rfl 1 rfl ?_
                              obtain ⟨hk, h⟩ := h
                              refine z_geti O zf_X15_433_14 dX15_count_250 hk ?_
                              exact z_iret O dX15_count_253 h
set_option maxRecDepth 100000 in
set_option maxHeartbeats 4000000 in
theorem b_X15_count_137 {G : zG} {X : zX} (O : zOK G X cX15_count 4 RX15 (some .int) "count") (hR : X.R = rm_X15_count) {M : zM} {n k : Nat} {a0 : Nat} {x2 : Int32} {x3 : Int32} (h : M.1 a0 = 15 ∧ ((M.2.2.1 a0 7) ≤ x3 → zW G X 4 M n k 168 [(0, .ref a0), (2, .int x2), (3, .int 0)] []) ∧ (¬ (M.2.2.1 a0 7) ≤ x3 → M.1 a0 = 15 ∧ ∃ b1 : Nat, M.2.2.2 a0 8 = some b1 ∧ M.1 b1 = 110 ∧ vp_in x3 (M.2.1 b1) ∧ ∃ b2 : Nat, M.2.2.2 b1 x3.toNatClampNeg = some b2 ∧ M.1 b2 = 13 ∧ ∃ b3 : Nat, M.2.2.2 b2 2 = some b3 ∧ M.1 b3 = 14 ∧ ∀ y4 : Int32, y4 = (x2 + (M.2.2.1 b3 5)) → ∀ y5 : Int32, y5 = x3 + 1 → zW G X 4 M n k 137 [(0, .ref a0), (2, .int y4), (3, .int y5)] [])) : zW G X 4 M n k 137 [(0, .ref a0), (2, .int x2), (3, .int x3)] [] := by
  refine z_iload_n O dX15_count_137 rfl 2 rfl ?_
  refine z_aload_n O dX15_count_138 rfl 0 rfl ?_
  obtain ⟨hk, h⟩ := h
  refine z_geti O zf_X15_139_14 dX15_count_139 hk ?_
  refine z_icmp_ge O 166 dX15_count_142 (by decide) (fun c => ?_) (fun c => ?_)
  · replace h := h.1 c
    refine z_iconst (v := 0) O dX15_count_166 rfl ?_
    refine z_istore_n (lv' := [(3, .int 0), (0, .ref a0), (2, .int x2)]) O dX15_count_167 rfl (by decide) rfl ?_
    exact z_to [1, 2, 0] rfl h
  · replace h := h.2 c
    refine z_iload_n O dX15_count_145 rfl 1 rfl ?_
    refine z_aload_n O dX15_count_146 rfl 0 rfl ?_
    obtain ⟨hk, b1, hr, h⟩ := h
    refine z_getr O zf_X15_21_14 dX15_count_147 hk hr ?_
    refine z_iload_n O dX15_count_150 rfl 2 rfl ?_
    obtain ⟨hk, hi, b2, hr, h⟩ := h
    refine z_ald (t := 8) O rfl dX15_count_151 hk hi hr ?_
    obtain ⟨hk, b3, hr, h⟩ := h
    refine z_getr O zf_X15_155_12 dX15_count_152 hk hr ?_
    obtain ⟨hk, h⟩ := h
    refine z_geti O zf_X15_96_13 dX15_count_155 hk ?_
    refine z_iadd O dX15_count_158 ?_
    refine z_topi (fun y4 ey4 => ?_)
    replace h := h y4 ey4
    refine z_istore_n (lv' := [(2, .int y4), (0, .ref a0), (3, .int x3)]) O dX15_count_159 rfl (by decide) rfl ?_
    obtain ⟨y5, ey5⟩ : ∃ y : Int32, y = x3 + 1 := ⟨_, rfl⟩
    replace h := h y5 ey5
    refine z_iinc (v := y5) (lv' := [(3, .int y5), (2, .int y4), (0, .ref a0)]) O dX15_count_160 (q := 2) rfl (by rw [ey5]; rfl) (by decide) rfl ?_
    refine z_goto O 137 dX15_count_163 (by decide) ?_
    exact z_to [2, 1, 0] rfl h
set_option maxRecDepth 100000 in
set_option maxHeartbeats 4000000 in
theorem b_X15_count_168 {G : zG} {X : zX} (O : zOK G X cX15_count 4 RX15 (some .int) "count") (hR : X.R = rm_X15_count) {M : zM} {n k : Nat} {a0 : Nat} {x2 : Int32} {x3 : Int32} (h : M.1 a0 = 15 ∧ ((M.2.2.1 a0 9) ≤ x3 → zW G X 4 M n k 216 [(0, .ref a0), (2, .int x2), (3, .int 0)] []) ∧ (¬ (M.2.2.1 a0 9) ≤ x3 → M.1 a0 = 15 ∧ ∃ b1 : Nat, M.2.2.2 a0 10 = some b1 ∧ M.1 b1 = 111 ∧ vp_in x3 (M.2.1 b1) ∧ ∃ b2 : Nat, M.2.2.2 b1 x3.toNatClampNeg = some b2 ∧ M.1 b2 = 12 ∧ ∃ b3 : Nat, M.2.2.2 b2 4 = some b3 ∧ M.1 b3 = 109 ∧ vp_in (0 : Int32) (M.2.1 b3) ∧ ∃ b4 : Nat, M.2.2.2 b3 (0 : Int32).toNatClampNeg = some b4 ∧ M.1 b4 = 14 ∧ M.1 a0 = 15 ∧ ∃ b5 : Nat, M.2.2.2 a0 10 = some b5 ∧ M.1 b5 = 111 ∧ vp_in x3 (M.2.1 b5) ∧ ∃ b6 : Nat, M.2.2.2 b5 x3.toNatClampNeg = some b6 ∧ M.1 b6 = 12 ∧ ∃ b7 : Nat, M.2.2.2 b6 4 = some b7 ∧ M.1 b7 = 109 ∧ vp_in (1 : Int32) (M.2.1 b7) ∧ ∃ b8 : Nat, M.2.2.2 b7 (1 : Int32).toNatClampNeg = some b8 ∧ M.1 b8 = 14 ∧ ∀ y9 : Int32, y9 = (x2 + ((M.2.2.1 b4 5) + (M.2.2.1 b8 5))) → ∀ y10 : Int32, y10 = x3 + 1 → zW G X 4 M n k 168 [(0, .ref a0), (2, .int y9), (3, .int y10)] [])) : zW G X 4 M n k 168 [(0, .ref a0), (2, .int x2), (3, .int x3)] [] := by
  refine z_iload_n O dX15_count_168 rfl 2 rfl ?_
  refine z_aload_n O dX15_count_169 rfl 0 rfl ?_
  obtain ⟨hk, h⟩ := h
  refine z_geti O zf_X15_142_14 dX15_count_170 hk ?_
  refine z_icmp_ge O 214 dX15_count_173 (by decide) (fun c => ?_) (fun c => ?_)
  · replace h := h.1 c
    refine z_iconst (v := 0) O dX15_count_214 rfl ?_
    refine z_istore_n (lv' := [(3, .int 0), (0, .ref a0), (2, .int x2)]) O dX15_count_215 rfl (by decide) rfl ?_
    exact z_to [1, 2, 0] rfl h
  · replace h := h.2 c
    refine z_iload_n O dX15_count_176 rfl 1 rfl ?_
    refine z_aload_n O dX15_count_177 rfl 0 rfl ?_
    obtain ⟨hk, b1, hr, h⟩ := h
    refine z_getr O zf_X15_27_14 dX15_count_178 hk hr ?_
    refine z_iload_n O dX15_count_181 rfl 2 rfl ?_
    obtain ⟨hk, hi, b2, hr, h⟩ := h
    refine z_ald (t := 9) O rfl dX15_count_182 hk hi hr ?_
    obtain ⟨hk, b3, hr, h⟩ := h
    refine z_getr O zf_X15_280_11 dX15_count_183 hk hr ?_
    refine z_iconst (v := 0) O dX15_count_186 rfl ?_
    obtain ⟨hk, hi, b4, hr, h⟩ := h
    refine z_ald (t := 7) O rfl dX15_count_187 hk hi hr ?_
    obtain ⟨hk, h⟩ := h
    refine z_geti O zf_X15_96_13 dX15_count_188 hk ?_
    refine z_aload_n O dX15_count_191 rfl 0 rfl ?_
    obtain ⟨hk, b5, hr, h⟩ := h
    refine z_getr O zf_X15_27_14 dX15_count_192 hk hr ?_
    refine z_iload_n O dX15_count_195 rfl 2 rfl ?_
    obtain ⟨hk, hi, b6, hr, h⟩ := h
    refine z_ald (t := 9) O rfl dX15_count_196 hk hi hr ?_
    obtain ⟨hk, b7, hr, h⟩ := h
    refine z_getr O zf_X15_280_11 dX15_count_197 hk hr ?_
    refine z_iconst (v := 1) O dX15_count_200 rfl ?_
    obtain ⟨hk, hi, b8, hr, h⟩ := h
    refine z_ald (t := 7) O rfl dX15_count_201 hk hi hr ?_
    obtain ⟨hk, h⟩ := h
    refine z_geti O zf_X15_96_13 dX15_count_202 hk ?_
    refine z_iadd O dX15_count_205 ?_
    refine z_iadd O dX15_count_206 ?_
    refine z_topi (fun y9 ey9 => ?_)
    replace h := h y9 ey9
    refine z_istore_n (lv' := [(2, .int y9), (0, .ref a0), (3, .int x3)]) O dX15_count_207 rfl (by decide) rfl ?_
    obtain ⟨y10, ey10⟩ : ∃ y : Int32, y = x3 + 1 := ⟨_, rfl⟩
    replace h := h y10 ey10
    refine z_iinc (v := y10) (lv' := [(3, .int y10), (2, .int y9), (0, .ref a0)]) O dX15_count_208 (q := 2) rfl (by rw [ey10]; rfl) (by decide) rfl ?_
    refine z_goto O 168 dX15_count_211 (by decide) ?_
    exact z_to [2, 1, 0] rfl h
set_option maxRecDepth 100000 in
set_option maxHeartbeats 4000000 in
theorem b_X15_count_216 {G : zG} {X : zX} (O : zOK G X cX15_count 4 RX15 (some .int) "count") (hR : X.R = rm_X15_count) {M : zM} {n k : Nat} {a0 : Nat} {x2 : Int32} {x3 : Int32} (h : M.1 a0 = 15 ∧ ((M.2.2.1 a0 4) ≤ x3 → X.q M (some (.int x2))) ∧ (¬ (M.2.2.1 a0 4) ≤ x3 → M.1 a0 = 15 ∧ ∃ b1 : Nat, M.2.2.2 a0 6 = some b1 ∧ M.1 b1 = 109 ∧ vp_in x3 (M.2.1 b1) ∧ ∃ b2 : Nat, M.2.2.2 b1 x3.toNatClampNeg = some b2 ∧ M.1 b2 = 14 ∧ ∀ y3 : Int32, y3 = (x2 + (M.2.2.1 b2 5)) → ∀ y4 : Int32, y4 = x3 + 1 → zW G X 4 M n k 216 [(0, .ref a0), (2, .int y3), (3, .int y4)] [])) : zW G X 4 M n k 216 [(0, .ref a0), (2, .int x2), (3, .int x3)] [] := by
  refine z_iload_n O dX15_count_216 rfl 2 rfl ?_
  refine z_aload_n O dX15_count_217 rfl 0 rfl ?_
  obtain ⟨hk, h⟩ := h
  refine z_geti O zf_X15_132_14 dX15_count_218 hk ?_
  refine z_icmp_ge O 242 dX15_count_221 (by decide) (fun c => ?_) (fun c => ?_)
  · replace h := h.1 c
    refine z_iload_n O dX15_count_242 rfl 1 rfl ?_
    exact z_iret O dX15_count_243 h
  · replace h := h.2 c
    refine z_iload_n O dX15_count_224 rfl 1 rfl ?_
    refine z_aload_n O dX15_count_225 rfl 0 rfl ?_
    obtain ⟨hk, b1, hr, h⟩ := h
    refine z_getr O zf_X15_15_14 dX15_count_226 hk hr ?_
    refine z_iload_n O dX15_count_229 rfl 2 rfl ?_
    obtain ⟨hk, hi, b2, hr, h⟩ := h
    refine z_ald (t := 7) O rfl dX15_count_230 hk hi hr ?_
    obtain ⟨hk, h⟩ := h
    refine z_geti O zf_X15_96_13 dX15_count_231 hk ?_
    refine z_iadd O dX15_count_234 ?_
    refine z_topi (fun y3 ey3 => ?_)
    replace h := h y3 ey3
    refine z_istore_n (lv' := [(2, .int y3), (0, .ref a0), (3, .int x3)]) O dX15_count_235 rfl (by decide) rfl ?_
    obtain ⟨y4, ey4⟩ : ∃ y : Int32, y = x3 + 1 := ⟨_, rfl⟩
    replace h := h y4 ey4
    refine z_iinc (v := y4) (lv' := [(3, .int y4), (2, .int y3), (0, .ref a0)]) O dX15_count_236 (q := 2) rfl (by rw [ey4]; rfl) (by decide) rfl ?_
    refine z_goto O 216 dX15_count_239 (by decide) ?_
    exact z_to [2, 1, 0] rfl h
