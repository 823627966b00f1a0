/-! What the tables say of the classes: their fields, that they can be made. -/
def cw_LU_0 : List (Nat × Nat × Nat) := [(247, 0, 0), (249, 0, 1), (251, 0, 2), (253, 0, 3), (255, 0, 4), (257, 0, 5), (313, 1, 0), (315, 1, 1), (317, 1, 2), (115, 2, 0), (117, 2, 1), (119, 2, 2), (121, 2, 3), (289, 3, 0), (291, 3, 1), (293, 3, 2), (295, 3, 3), (297, 3, 4), (299, 3, 5), (301, 3, 6), (303, 3, 7), (305, 3, 8), (193, 4, 0), (195, 4, 1), (197, 4, 2), (199, 4, 3), (201, 4, 4), (203, 4, 5), (205, 4, 6), (207, 4, 7), (209, 4, 8), (338, 5, 0), (340, 5, 1), (342, 5, 2), (344, 5, 3), (346, 5, 4), (348, 5, 5), (222, 6, 0), (224, 6, 1), (163, 7, 0)]
def cw_LU_1 : List (Nat × Nat × Nat) := [(165, 7, 1), (167, 7, 2), (169, 7, 3), (171, 7, 4), (173, 7, 5), (175, 7, 6), (177, 7, 7), (70, 8, 0), (72, 8, 1), (74, 8, 2), (76, 8, 3), (78, 8, 4), (80, 8, 5), (82, 8, 6), (84, 8, 7), (86, 8, 8), (88, 8, 9), (90, 8, 10), (92, 8, 11), (94, 8, 12), (96, 8, 13), (371, 9, 0), (373, 9, 1), (375, 9, 2), (377, 9, 3), (379, 9, 4), (381, 9, 5), (383, 9, 6), (385, 9, 7), (387, 9, 8), (389, 9, 9), (391, 9, 10), (393, 9, 11), (395, 9, 12), (397, 9, 13), (399, 9, 14), (401, 9, 15), (403, 9, 16), (405, 9, 17), (407, 9, 18)]
def cw_LU_2 : List (Nat × Nat × Nat) := [(409, 9, 19), (1039, 10, 0), (1041, 10, 1), (1043, 10, 2), (1045, 10, 3), (1047, 10, 4), (1049, 10, 5), (1051, 10, 6), (1053, 10, 7), (1055, 10, 8), (1057, 10, 9), (1059, 10, 10), (1061, 10, 11), (1063, 10, 12), (1065, 10, 13), (1067, 10, 14), (1069, 10, 15), (1071, 10, 16), (1073, 10, 17), (1075, 10, 18), (1077, 10, 19), (1079, 10, 20), (1081, 10, 21), (1083, 10, 22), (1085, 10, 23), (1087, 10, 24), (1089, 10, 25), (1091, 10, 26), (1093, 10, 27), (1095, 10, 28), (1097, 10, 29), (1099, 10, 30), (1101, 10, 31), (1103, 10, 32), (1105, 10, 33), (1107, 10, 34), (1109, 10, 35), (1111, 10, 36), (1113, 10, 37), (1115, 10, 38)]
def cw_LU_3 : List (Nat × Nat × Nat) := [(1117, 10, 39), (1119, 10, 40), (1121, 10, 41), (1123, 10, 42), (1125, 10, 43), (1127, 10, 44), (1129, 10, 45), (1131, 10, 46), (1133, 10, 47), (1135, 10, 48), (1137, 10, 49), (1139, 10, 50), (1141, 10, 51), (1143, 10, 52), (1145, 10, 53), (1147, 10, 54)]
def cw_LU : List (Nat × Nat × Nat) := cw_LU_0 ++ cw_LU_1 ++ cw_LU_2 ++ cw_LU_3
theorem cw_LU_ok : ∀ e ∈ cw_LU, tables_1[e.1]? = some (u_lay (cw_cn e.2.1) (cw_TT e.2.1) e.2.2) ∧ goodWord (u_lay (cw_cn e.2.1) (cw_TT e.2.1) e.2.2) = true := by decide +kernel
theorem cw_LU_all : ∀ t : Nat, t < 11 → ∀ k : Nat, k < cw_N t → (cw_LU.any fun e => e.2 == (t, k)) = true := by decide +kernel
theorem cw_uws {t : Nat} (ht : t < 11) : ∀ w ∈ u_ws (cw_cn t) (cw_TT t) (cw_N t), w ∈ cw_T := by
  intro w hw
  obtain ⟨k, hk, rfl⟩ := List.mem_map.mp hw
  obtain ⟨e, he, h⟩ := List.any_eq_true.mp (cw_LU_all t ht k (List.mem_range.mp hk))
  have h : e.2 = (t, k) := by simpa using h
  obtain ⟨h1, h2⟩ := cw_LU_ok e he
  rw [h] at h1 h2
  exact cw_ix h1 h2
def cw_LV : List (Nat × Nat × Nat) := [(228, 7, 0), (262, 8, 1), (102, 3, 2), (268, 9, 3), (125, 4, 4), (324, 10, 5), (213, 6, 6), (131, 5, 7), (28, 2, 8), (20, 1, 9), (979, 11, 10)]
theorem cw_LV_ok : ∀ e ∈ cw_LV, tables_1[e.1]? = some (Cond.instantiable (cw_cn e.2.2) (cw_N e.2.2)) ∧ tables_1[e.2.1]? = some (Cond.initialized (cw_cn e.2.2)) := by decide +kernel
theorem cw_LV_all : ∀ t : Nat, t < 11 → (cw_LV.any fun e => e.2.2 == t) = true := by decide +kernel
theorem cw_inst {t : Nat} (ht : t < 11) : Cond.instantiable (cw_cn t) (cw_N t) ∈ cw_T ∧ Cond.initialized (cw_cn t) ∈ cw_T := by
  obtain ⟨e, he, h⟩ := List.any_eq_true.mp (cw_LV_all t ht)
  have h : e.2.2 = t := by simpa using h
  obtain ⟨h1, h2⟩ := cw_LV_ok e he
  rw [h] at h1 h2
  exact ⟨cw_ix h1 rfl, cw_ix h2 rfl⟩
theorem cw_tyok {t : Nat} (ht : t < 11) : ∀ k, k < cw_N t → parseFieldDescriptor (cw_TT t k).2.2.1 = some (cw_ty t k) := by
  match t, ht with
  | 0, _ => exact tyX0_ok
  | 1, _ => exact tyX1_ok
  | 2, _ => exact tyX2_ok
  | 3, _ => exact tyX3_ok
  | 4, _ => exact tyX4_ok
  | 5, _ => exact tyX5_ok
  | 6, _ => exact tyX6_ok
  | 7, _ => exact tyX7_ok
  | 8, _ => exact tyX8_ok
  | 9, _ => exact tyX9_ok
  | 10, _ => exact tyX10_ok
theorem cw_nmok {t : Nat} (ht : t < 11) : ∀ a, a < cw_N t → ∀ b, b < cw_N t → a ≠ b → (cw_TT t a).2.1 ≠ (cw_TT t b).2.1 := by
  match t, ht with
  | 0, _ => exact nmX0
  | 1, _ => exact nmX1
  | 2, _ => exact nmX2
  | 3, _ => exact nmX3
  | 4, _ => exact nmX4
  | 5, _ => exact nmX5
  | 6, _ => exact nmX6
  | 7, _ => exact nmX7
  | 8, _ => exact nmX8
  | 9, _ => exact nmX9
  | 10, _ => exact nmX10
theorem cw_clsat {t : Nat} (ht : t < 11) : cw_cls[t]? = some (cw_cn t, cw_TT t, cw_N t) := by
  match t, ht with
  | 0, _ => rfl
  | 1, _ => rfl
  | 2, _ => rfl
  | 3, _ => rfl
  | 4, _ => rfl
  | 5, _ => rfl
  | 6, _ => rfl
  | 7, _ => rfl
  | 8, _ => rfl
  | 9, _ => rfl
  | 10, _ => rfl
theorem cw_own1 {t : Nat} (ht : t < 11) : ∀ k, k < cw_N t → (cw_TT t k).1 = cw_cn t := by
  revert t; decide +kernel
theorem cw_ac_int : Cond.arrayClass .int ∈ cw_T := cw_ix (i := 99) (by decide +kernel) (by decide +kernel)
theorem cw_ac_long : Cond.arrayClass .long ∈ cw_T := cw_ix (i := 260) (by decide +kernel) (by decide +kernel)
theorem cw_ac_boolean : Cond.arrayClass .boolean ∈ cw_T := cw_ix (i := 320) (by decide +kernel) (by decide +kernel)
theorem cw_ac_byte : Cond.arrayClass .byte ∈ cw_T := cw_ix (i := 709) (by decide +kernel) (by decide +kernel)
theorem cw_ay_nat : Cond.native arraycopyName ∈ cw_T := cw_ix (i := 708) (by decide +kernel) (by decide +kernel)
theorem cw_ay_stat : Cond.static arraycopyName ∈ cw_T := cw_ix (i := 707) (by decide +kernel) (by decide +kernel)
theorem cw_ay_ini : Cond.initialized "java/lang/System" ∈ cw_T := cw_ix (i := 17) (by decide +kernel) (by decide +kernel)
theorem cw_ob_in : Cond.instanceMethod objectInit ∈ cw_T := cw_ix (i := 25) (by decide +kernel) (by decide +kernel)
theorem cw_ob_co : Cond.code objectInit ⟨#[0xb1]⟩ 1 none ∈ cw_T := cw_ix (i := 26) (by decide +kernel) (by decide +kernel)
theorem cw_gs_1 : Cond.fieldLink "CommaWill" 165 "CommaWill" "TERM_MOST" "[I" ∈ cw_T := cw_ix (i := 534) (by decide +kernel) (by decide +kernel)
theorem cw_gs_2 : Cond.fieldLink "java/lang/String" 38 "java/lang/String" "COMPACT_STRINGS" "Z" ∈ cw_T := cw_ix (i := 589) (by decide +kernel) (by decide +kernel)
theorem cw_gs_3 : Cond.fieldLink "java/lang/String" 1053 "jdk/internal/util/Preconditions" "SIOOBE_FORMATTER" "Ljava/util/function/BiFunction;" ∈ cw_T := cw_ix (i := 605) (by decide +kernel) (by decide +kernel)
theorem cw_gs_4 : Cond.fieldLink "java/lang/String" 9 "java/lang/String" "value" "[B" ∈ cw_T := cw_ix (i := 1686) (by decide +kernel) (by decide +kernel)
theorem cw_gs_5 : Cond.fieldLink "java/lang/String" 15 "java/lang/String" "coder" "B" ∈ cw_T := cw_ix (i := 1687) (by decide +kernel) (by decide +kernel)
