theorem fc_0 : (p_B0 p_FS : va_E) = p_e p_S0 p_I0 p_L0 p_T0 p_Λ0 0 := rfl
theorem fc_1 : (.inr (7, [.int (nI 0), .int (nI 0), .int (nI 1), .ref (1 + 1), .ref (1 + 2), .ref (1 + 3)]) : va_E) = p_e p_S0 p_I0 p_L0 p_T0 p_Λ0 1 := rfl
theorem fc_2 : (.inl (4, 6, p_rr (p_R0 (1 + 4) 2 6)) : va_E) = p_e p_S0 p_I0 p_L0 p_T0 p_Λ0 2 := rfl
theorem fc_3 : (.inl (5, 14, p_rr fun _ => none) : va_E) = p_e p_S0 p_I0 p_L0 p_T0 p_Λ0 3 := rfl
theorem fc_4 : (.inl (0, 96, .inl fun _ => 0) : va_E) = p_e p_S0 p_I0 p_L0 p_T0 p_Λ0 4 := rfl
theorem fc_5 : (.inr (0, [.int (nI 0), .ref (5 + 2 * 0 + 1)]) : va_E) = p_e p_S0 p_I0 p_L0 p_T0 p_Λ0 5 := rfl
theorem fc_6 : (.inl (0, 15, .inl fun _ => 0) : va_E) = p_e p_S0 p_I0 p_L0 p_T0 p_Λ0 6 := rfl
theorem fc_7 : (.inr (0, [.int (nI 0), .ref (5 + 2 * 1 + 1)]) : va_E) = p_e p_S0 p_I0 p_L0 p_T0 p_Λ0 7 := rfl
theorem fc_8 : (.inl (0, 15, .inl fun _ => 0) : va_E) = p_e p_S0 p_I0 p_L0 p_T0 p_Λ0 8 := rfl
theorem fc_9 : (.inr (0, [.int (nI 0), .ref (5 + 2 * 2 + 1)]) : va_E) = p_e p_S0 p_I0 p_L0 p_T0 p_Λ0 9 := rfl
theorem fc_10 : (.inl (0, 15, .inl fun _ => 0) : va_E) = p_e p_S0 p_I0 p_L0 p_T0 p_Λ0 10 := rfl
theorem fc_11 : (.inr (0, [.int (nI 0), .ref (5 + 2 * 3 + 1)]) : va_E) = p_e p_S0 p_I0 p_L0 p_T0 p_Λ0 11 := rfl
theorem fc_12 : (.inl (0, 15, .inl fun _ => 0) : va_E) = p_e p_S0 p_I0 p_L0 p_T0 p_Λ0 12 := rfl
theorem fc_13 : (.inr (0, [.int (nI 0), .ref (5 + 2 * 4 + 1)]) : va_E) = p_e p_S0 p_I0 p_L0 p_T0 p_Λ0 13 := rfl
theorem fc_14 : (.inl (0, 15, .inl fun _ => 0) : va_E) = p_e p_S0 p_I0 p_L0 p_T0 p_Λ0 14 := rfl
theorem fc_15 : (.inr (0, [.int (nI 0), .ref (5 + 2 * 5 + 1)]) : va_E) = p_e p_S0 p_I0 p_L0 p_T0 p_Λ0 15 := rfl
theorem fc_16 : (.inl (0, 15, .inl fun _ => 0) : va_E) = p_e p_S0 p_I0 p_L0 p_T0 p_Λ0 16 := rfl
theorem fc_17 : (.inr (7, [.int (nI 0), .int (nI 0), .int (nI 1), .ref (17 + 1), .ref (17 + 2), .ref (17 + 3)]) : va_E) = p_e p_S0 p_I0 p_L0 p_T0 p_Λ0 17 := rfl
theorem fc_18 : (.inl (4, 6, p_rr (p_R0 (17 + 4) 2 6)) : va_E) = p_e p_S0 p_I0 p_L0 p_T0 p_Λ0 18 := rfl
theorem fc_19 : (.inl (5, 14, p_rr fun _ => none) : va_E) = p_e p_S0 p_I0 p_L0 p_T0 p_Λ0 19 := rfl
theorem fc_20 : (.inl (0, 96, .inl fun _ => 0) : va_E) = p_e p_S0 p_I0 p_L0 p_T0 p_Λ0 20 := rfl
theorem fc_21 : (.inr (0, [.int (nI 0), .ref (21 + 2 * 0 + 1)]) : va_E) = p_e p_S0 p_I0 p_L0 p_T0 p_Λ0 21 := rfl
theorem fc_22 : (.inl (0, 15, .inl fun _ => 0) : va_E) = p_e p_S0 p_I0 p_L0 p_T0 p_Λ0 22 := rfl
theorem fc_23 : (.inr (0, [.int (nI 0), .ref (21 + 2 * 1 + 1)]) : va_E) = p_e p_S0 p_I0 p_L0 p_T0 p_Λ0 23 := rfl
theorem fc_24 : (.inl (0, 15, .inl fun _ => 0) : va_E) = p_e p_S0 p_I0 p_L0 p_T0 p_Λ0 24 := rfl
theorem fc_25 : (.inr (0, [.int (nI 0), .ref (21 + 2 * 2 + 1)]) : va_E) = p_e p_S0 p_I0 p_L0 p_T0 p_Λ0 25 := rfl
theorem fc_26 : (.inl (0, 15, .inl fun _ => 0) : va_E) = p_e p_S0 p_I0 p_L0 p_T0 p_Λ0 26 := rfl
theorem fc_27 : (.inr (0, [.int (nI 0), .ref (21 + 2 * 3 + 1)]) : va_E) = p_e p_S0 p_I0 p_L0 p_T0 p_Λ0 27 := rfl
theorem fc_28 : (.inl (0, 15, .inl fun _ => 0) : va_E) = p_e p_S0 p_I0 p_L0 p_T0 p_Λ0 28 := rfl
theorem fc_29 : (.inr (0, [.int (nI 0), .ref (21 + 2 * 4 + 1)]) : va_E) = p_e p_S0 p_I0 p_L0 p_T0 p_Λ0 29 := rfl
theorem fc_30 : (.inl (0, 15, .inl fun _ => 0) : va_E) = p_e p_S0 p_I0 p_L0 p_T0 p_Λ0 30 := rfl
theorem fc_31 : (.inr (0, [.int (nI 0), .ref (21 + 2 * 5 + 1)]) : va_E) = p_e p_S0 p_I0 p_L0 p_T0 p_Λ0 31 := rfl
theorem fc_32 : (.inl (0, 15, .inl fun _ => 0) : va_E) = p_e p_S0 p_I0 p_L0 p_T0 p_Λ0 32 := rfl
theorem fc_33 : (.inr (6, [.int (nI 0), .int (nI 0), .int (nI 0), .ref 1, .ref (33 + 1), .ref (33 + 2), .ref (33 + 3), .ref (33 + 4), .ref (33 + 5)]) : va_E) = p_e p_S0 p_I0 p_L0 p_T0 p_Λ0 33 := rfl
theorem fc_34 : (.inl (0, 15, .inl fun _ => 0) : va_E) = p_e p_S0 p_I0 p_L0 p_T0 p_Λ0 34 := rfl
theorem fc_35 : (.inl (0, 121, .inl fun _ => 0) : va_E) = p_e p_S0 p_I0 p_L0 p_T0 p_Λ0 35 := rfl
theorem fc_36 : (.inl (0, 121, .inl fun _ => 0) : va_E) = p_e p_S0 p_I0 p_L0 p_T0 p_Λ0 36 := rfl
theorem fc_37 : (.inl (8, 3, p_rr (p_R0 (33 + 6) 2 3)) : va_E) = p_e p_S0 p_I0 p_L0 p_T0 p_Λ0 37 := rfl
theorem fc_38 : (.inl (1, 5, .inr (.inl fun _ => 0)) : va_E) = p_e p_S0 p_I0 p_L0 p_T0 p_Λ0 38 := rfl
theorem fc_39 : (.inr (3, [.ref (39 + 2 * 0 + 1)]) : va_E) = p_e p_S0 p_I0 p_L0 p_T0 p_Λ0 39 := rfl
theorem fc_40 : (.inl (1, 85, .inr (.inl fun _ => 0)) : va_E) = p_e p_S0 p_I0 p_L0 p_T0 p_Λ0 40 := rfl
theorem fc_41 : (.inr (3, [.ref (39 + 2 * 1 + 1)]) : va_E) = p_e p_S0 p_I0 p_L0 p_T0 p_Λ0 41 := rfl
theorem fc_42 : (.inl (1, 85, .inr (.inl fun _ => 0)) : va_E) = p_e p_S0 p_I0 p_L0 p_T0 p_Λ0 42 := rfl
theorem fc_43 : (.inr (3, [.ref (39 + 2 * 2 + 1)]) : va_E) = p_e p_S0 p_I0 p_L0 p_T0 p_Λ0 43 := rfl
theorem fc_44 : (.inl (1, 85, .inr (.inl fun _ => 0)) : va_E) = p_e p_S0 p_I0 p_L0 p_T0 p_Λ0 44 := rfl
theorem fc_45 : (.inr (6, [.int (nI 0), .int (nI 0), .int (nI 0), .ref 17, .ref (45 + 1), .ref (45 + 2), .ref (45 + 3), .ref (45 + 4), .ref (45 + 5)]) : va_E) = p_e p_S0 p_I0 p_L0 p_T0 p_Λ0 45 := rfl
theorem fc_46 : (.inl (0, 15, .inl fun _ => 0) : va_E) = p_e p_S0 p_I0 p_L0 p_T0 p_Λ0 46 := rfl
theorem fc_47 : (.inl (0, 121, .inl fun _ => 0) : va_E) = p_e p_S0 p_I0 p_L0 p_T0 p_Λ0 47 := rfl
theorem fc_48 : (.inl (0, 121, .inl fun _ => 0) : va_E) = p_e p_S0 p_I0 p_L0 p_T0 p_Λ0 48 := rfl
theorem fc_49 : (.inl (8, 3, p_rr (p_R0 (45 + 6) 2 3)) : va_E) = p_e p_S0 p_I0 p_L0 p_T0 p_Λ0 49 := rfl
theorem fc_50 : (.inl (1, 5, .inr (.inl fun _ => 0)) : va_E) = p_e p_S0 p_I0 p_L0 p_T0 p_Λ0 50 := rfl
theorem fc_51 : (.inr (3, [.ref (51 + 2 * 0 + 1)]) : va_E) = p_e p_S0 p_I0 p_L0 p_T0 p_Λ0 51 := rfl
theorem fc_52 : (.inl (1, 85, .inr (.inl fun _ => 0)) : va_E) = p_e p_S0 p_I0 p_L0 p_T0 p_Λ0 52 := rfl
theorem fc_53 : (.inr (3, [.ref (51 + 2 * 1 + 1)]) : va_E) = p_e p_S0 p_I0 p_L0 p_T0 p_Λ0 53 := rfl
theorem fc_54 : (.inl (1, 85, .inr (.inl fun _ => 0)) : va_E) = p_e p_S0 p_I0 p_L0 p_T0 p_Λ0 54 := rfl
theorem fc_55 : (.inr (3, [.ref (51 + 2 * 2 + 1)]) : va_E) = p_e p_S0 p_I0 p_L0 p_T0 p_Λ0 55 := rfl
theorem fc_56 : (.inl (1, 85, .inr (.inl fun _ => 0)) : va_E) = p_e p_S0 p_I0 p_L0 p_T0 p_Λ0 56 := rfl
theorem fc_57 : (.inr (5, [.int (nI 0), .ref 58, .ref 59, .int (nI 0), .int (nI 0), .int (-1), .int (nI 0)]) : va_E) = p_e p_S0 p_I0 p_L0 p_T0 p_Λ0 57 := rfl
theorem fc_58 : (.inl (0, 96, .inl fun _ => 0) : va_E) = p_e p_S0 p_I0 p_L0 p_T0 p_Λ0 58 := rfl
theorem fc_59 : (.inl (0, 96, .inl fun _ => 0) : va_E) = p_e p_S0 p_I0 p_L0 p_T0 p_Λ0 59 := rfl
theorem fc_60 : (.inl (6, 4, p_rr (p_R0 63 2 4)) : va_E) = p_e p_S0 p_I0 p_L0 p_T0 p_Λ0 60 := rfl
theorem fc_61 : (.inl (7, 5, p_rr (p_R0 71 5 5)) : va_E) = p_e p_S0 p_I0 p_L0 p_T0 p_Λ0 61 := rfl
theorem fc_62 : (.inl (0, 60, .inl fun _ => 0) : va_E) = p_e p_S0 p_I0 p_L0 p_T0 p_Λ0 62 := rfl
theorem fc_63 : (.inr (2, [.int (-1), .int (nI 0), .ref (63 + 2 * 0 + 1)]) : va_E) = p_e p_S0 p_I0 p_L0 p_T0 p_Λ0 63 := rfl
theorem fc_64 : (.inl (0, 24, .inl fun _ => 0) : va_E) = p_e p_S0 p_I0 p_L0 p_T0 p_Λ0 64 := rfl
theorem fc_65 : (.inr (2, [.int (-1), .int (nI 0), .ref (63 + 2 * 1 + 1)]) : va_E) = p_e p_S0 p_I0 p_L0 p_T0 p_Λ0 65 := rfl
theorem fc_66 : (.inl (0, 24, .inl fun _ => 0) : va_E) = p_e p_S0 p_I0 p_L0 p_T0 p_Λ0 66 := rfl
theorem fc_67 : (.inr (2, [.int (-1), .int (nI 0), .ref (63 + 2 * 2 + 1)]) : va_E) = p_e p_S0 p_I0 p_L0 p_T0 p_Λ0 67 := rfl
theorem fc_68 : (.inl (0, 24, .inl fun _ => 0) : va_E) = p_e p_S0 p_I0 p_L0 p_T0 p_Λ0 68 := rfl
theorem fc_69 : (.inr (2, [.int (-1), .int (nI 0), .ref (63 + 2 * 3 + 1)]) : va_E) = p_e p_S0 p_I0 p_L0 p_T0 p_Λ0 69 := rfl
theorem fc_70 : (.inl (0, 24, .inl fun _ => 0) : va_E) = p_e p_S0 p_I0 p_L0 p_T0 p_Λ0 70 := rfl
theorem fc_71 : (.inr (4, [.int (nI 0), .int (nI 0), .ref (71 + 5 * 0 + 1), .ref (71 + 5 * 0 + 3)]) : va_E) = p_e p_S0 p_I0 p_L0 p_T0 p_Λ0 71 := rfl
theorem fc_72 : (.inr (0, [.int (nI 0), .ref (71 + 5 * 0 + 2)]) : va_E) = p_e p_S0 p_I0 p_L0 p_T0 p_Λ0 72 := rfl
theorem fc_73 : (.inl (0, 15, .inl fun _ => 0) : va_E) = p_e p_S0 p_I0 p_L0 p_T0 p_Λ0 73 := rfl
theorem fc_74 : (.inr (2, [.int (-1), .int (nI 0), .ref (71 + 5 * 0 + 4)]) : va_E) = p_e p_S0 p_I0 p_L0 p_T0 p_Λ0 74 := rfl
theorem fc_75 : (.inl (0, 24, .inl fun _ => 0) : va_E) = p_e p_S0 p_I0 p_L0 p_T0 p_Λ0 75 := rfl
theorem fc_76 : (.inr (4, [.int (nI 0), .int (nI 0), .ref (71 + 5 * 1 + 1), .ref (71 + 5 * 1 + 3)]) : va_E) = p_e p_S0 p_I0 p_L0 p_T0 p_Λ0 76 := rfl
theorem fc_77 : (.inr (0, [.int (nI 0), .ref (71 + 5 * 1 + 2)]) : va_E) = p_e p_S0 p_I0 p_L0 p_T0 p_Λ0 77 := rfl
theorem fc_78 : (.inl (0, 15, .inl fun _ => 0) : va_E) = p_e p_S0 p_I0 p_L0 p_T0 p_Λ0 78 := rfl
theorem fc_79 : (.inr (2, [.int (-1), .int (nI 0), .ref (71 + 5 * 1 + 4)]) : va_E) = p_e p_S0 p_I0 p_L0 p_T0 p_Λ0 79 := rfl
theorem fc_80 : (.inl (0, 24, .inl fun _ => 0) : va_E) = p_e p_S0 p_I0 p_L0 p_T0 p_Λ0 80 := rfl
theorem fc_81 : (.inr (4, [.int (nI 0), .int (nI 0), .ref (71 + 5 * 2 + 1), .ref (71 + 5 * 2 + 3)]) : va_E) = p_e p_S0 p_I0 p_L0 p_T0 p_Λ0 81 := rfl
theorem fc_82 : (.inr (0, [.int (nI 0), .ref (71 + 5 * 2 + 2)]) : va_E) = p_e p_S0 p_I0 p_L0 p_T0 p_Λ0 82 := rfl
theorem fc_83 : (.inl (0, 15, .inl fun _ => 0) : va_E) = p_e p_S0 p_I0 p_L0 p_T0 p_Λ0 83 := rfl
theorem fc_84 : (.inr (2, [.int (-1), .int (nI 0), .ref (71 + 5 * 2 + 4)]) : va_E) = p_e p_S0 p_I0 p_L0 p_T0 p_Λ0 84 := rfl
theorem fc_85 : (.inl (0, 24, .inl fun _ => 0) : va_E) = p_e p_S0 p_I0 p_L0 p_T0 p_Λ0 85 := rfl
theorem fc_86 : (.inr (4, [.int (nI 0), .int (nI 0), .ref (71 + 5 * 3 + 1), .ref (71 + 5 * 3 + 3)]) : va_E) = p_e p_S0 p_I0 p_L0 p_T0 p_Λ0 86 := rfl
theorem fc_87 : (.inr (0, [.int (nI 0), .ref (71 + 5 * 3 + 2)]) : va_E) = p_e p_S0 p_I0 p_L0 p_T0 p_Λ0 87 := rfl
theorem fc_88 : (.inl (0, 15, .inl fun _ => 0) : va_E) = p_e p_S0 p_I0 p_L0 p_T0 p_Λ0 88 := rfl
theorem fc_89 : (.inr (2, [.int (-1), .int (nI 0), .ref (71 + 5 * 3 + 4)]) : va_E) = p_e p_S0 p_I0 p_L0 p_T0 p_Λ0 89 := rfl
theorem fc_90 : (.inl (0, 24, .inl fun _ => 0) : va_E) = p_e p_S0 p_I0 p_L0 p_T0 p_Λ0 90 := rfl
theorem fc_91 : (.inr (4, [.int (nI 0), .int (nI 0), .ref (71 + 5 * 4 + 1), .ref (71 + 5 * 4 + 3)]) : va_E) = p_e p_S0 p_I0 p_L0 p_T0 p_Λ0 91 := rfl
theorem fc_92 : (.inr (0, [.int (nI 0), .ref (71 + 5 * 4 + 2)]) : va_E) = p_e p_S0 p_I0 p_L0 p_T0 p_Λ0 92 := rfl
theorem fc_93 : (.inl (0, 15, .inl fun _ => 0) : va_E) = p_e p_S0 p_I0 p_L0 p_T0 p_Λ0 93 := rfl
theorem fc_94 : (.inr (2, [.int (-1), .int (nI 0), .ref (71 + 5 * 4 + 4)]) : va_E) = p_e p_S0 p_I0 p_L0 p_T0 p_Λ0 94 := rfl
theorem fc_95 : (.inl (0, 24, .inl fun _ => 0) : va_E) = p_e p_S0 p_I0 p_L0 p_T0 p_Λ0 95 := rfl
theorem fc_96 : (.inr (9, [.ref (96 + 1), .ref (96 + 2), .ref (96 + 3), .int 0, .ref (96 + 4), .ref (96 + 5), .ref (96 + 6), .int 0, .int 0, .int 0, .ref (96 + 7), .ref (96 + 8), .ref (96 + 9), .int 0, .int 0, .int 0, .int 0, .int 0, .int 0, .int 0, .ref (96 + 10), .ref (96 + 11), .ref (96 + 12), .int 0, .int 0, .ref (96 + 13), .int 0, .ref (96 + 14), .ref (96 + 15), .ref (96 + 16), .ref (96 + 17), .ref (96 + 18), .ref (96 + 19), .ref (96 + 20), .ref (96 + 21), .ref (96 + 22), .ref (96 + 23), .ref (96 + 24), .ref (96 + 25), .int 0]) : va_E) = p_e p_S0 p_I0 p_L0 p_T0 p_Λ0 96 := rfl
theorem fc_97 : (.inl (0, 1471, .inl (upd (fun _ => 0) 0 (nI 1))) : va_E) = p_e p_S0 p_I0 p_L0 p_T0 p_Λ0 97 := rfl
theorem fc_98 : (.inl (0, 1471, .inl fun _ => 0) : va_E) = p_e p_S0 p_I0 p_L0 p_T0 p_Λ0 98 := rfl
theorem fc_99 : (.inl (0, 1471, .inl fun _ => 0) : va_E) = p_e p_S0 p_I0 p_L0 p_T0 p_Λ0 99 := rfl
theorem fc_100 : (.inl (0, 25, .inl fun _ => 0) : va_E) = p_e p_S0 p_I0 p_L0 p_T0 p_Λ0 100 := rfl
theorem fc_101 : (.inl (1, 3400, .inr (.inl fun _ => 0)) : va_E) = p_e p_S0 p_I0 p_L0 p_T0 p_Λ0 101 := rfl
theorem fc_102 : (.inl (1, 5, .inr (.inl fun _ => 0)) : va_E) = p_e p_S0 p_I0 p_L0 p_T0 p_Λ0 102 := rfl
theorem fc_103 : (.inl (0, 40, .inl fun _ => 0) : va_E) = p_e p_S0 p_I0 p_L0 p_T0 p_Λ0 103 := rfl
theorem fc_104 : (.inl (3, 121, .inl fun _ => 0) : va_E) = p_e p_S0 p_I0 p_L0 p_T0 p_Λ0 104 := rfl
theorem fc_105 : (.inl (0, 96, .inl fun _ => 0) : va_E) = p_e p_S0 p_I0 p_L0 p_T0 p_Λ0 105 := rfl
theorem fc_106 : (.inl (2, 13, .inl (upd (upd (upd (upd (upd (upd (upd (upd (upd (upd (upd (upd (upd (fun _ => 0) 0 (nI 116)) 1 (nI 101)) 2 (nI 114)) 3 (nI 109)) 4 (nI 115)) 5 (nI 108)) 6 (nI 111)) 7 (nI 112)) 8 (nI 101)) 9 (nI 109)) 10 (nI 97)) 11 (nI 114)) 12 (nI 107))) : va_E) = p_e p_S0 p_I0 p_L0 p_T0 p_Λ0 106 := rfl
theorem fc_107 : (.inl (0, 4, .inl (upd (upd (upd (upd (fun _ => 0) 0 (nI 0)) 1 (nI 4)) 2 (nI 9)) 3 (nI 13))) : va_E) = p_e p_S0 p_I0 p_L0 p_T0 p_Λ0 107 := rfl
theorem fc_108 : (.inl (0, 96, .inl fun _ => 0) : va_E) = p_e p_S0 p_I0 p_L0 p_T0 p_Λ0 108 := rfl
theorem fc_109 : (.inl (0, 96, .inl fun _ => 0) : va_E) = p_e p_S0 p_I0 p_L0 p_T0 p_Λ0 109 := rfl
theorem fc_110 : (.inl (3, 10, .inl fun _ => 0) : va_E) = p_e p_S0 p_I0 p_L0 p_T0 p_Λ0 110 := rfl
theorem fc_111 : (.inl (0, 96, .inl fun _ => 0) : va_E) = p_e p_S0 p_I0 p_L0 p_T0 p_Λ0 111 := rfl
theorem fc_112 : (.inl (0, 4, .inl fun _ => 0) : va_E) = p_e p_S0 p_I0 p_L0 p_T0 p_Λ0 112 := rfl
theorem fc_113 : (.inl (0, 4, .inl (upd (upd (upd (upd (fun _ => 0) 0 (-1)) 1 (-1)) 2 (-1)) 3 (-1))) : va_E) = p_e p_S0 p_I0 p_L0 p_T0 p_Λ0 113 := rfl
theorem fc_114 : (.inl (0, 4, .inl fun _ => 0) : va_E) = p_e p_S0 p_I0 p_L0 p_T0 p_Λ0 114 := rfl
theorem fc_115 : (.inl (0, 96, .inl fun _ => 0) : va_E) = p_e p_S0 p_I0 p_L0 p_T0 p_Λ0 115 := rfl
theorem fc_116 : (.inl (0, 5, .inl fun _ => 0) : va_E) = p_e p_S0 p_I0 p_L0 p_T0 p_Λ0 116 := rfl
theorem fc_117 : (.inl (0, 5, .inl fun _ => 0) : va_E) = p_e p_S0 p_I0 p_L0 p_T0 p_Λ0 117 := rfl
theorem fc_118 : (.inl (0, 5, .inl fun _ => 0) : va_E) = p_e p_S0 p_I0 p_L0 p_T0 p_Λ0 118 := rfl
theorem fc_119 : (.inl (0, 120, .inl fun _ => 0) : va_E) = p_e p_S0 p_I0 p_L0 p_T0 p_Λ0 119 := rfl
theorem fc_120 : (.inl (0, 24, .inl fun _ => 0) : va_E) = p_e p_S0 p_I0 p_L0 p_T0 p_Λ0 120 := rfl
theorem fc_121 : (.inl (0, 60, .inl fun _ => 0) : va_E) = p_e p_S0 p_I0 p_L0 p_T0 p_Λ0 121 := rfl
