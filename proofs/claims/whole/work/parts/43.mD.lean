set_option maxRecDepth 100000 in
set_option maxHeartbeats 4000000 in
theorem mX9_init {l : Launch} {G : e_G} (l0 : Nat) (h : e_H) (res : e_H) (hM : fX9_init l0 h = some res) : Met l yX9_init (e_W yX9_init cX9_init 1 none) (e_rc 1 40 25 8742) (e_Pc G h [.ref (e_ad G l0)]) (e_Q G res (none)) 25 8742 (e_A G) := by
  refine Met.ofW (cc := cX9_init) (maxL := 1) (ret := none) (by decide) rfl ?_
  intro p e s m args below meth c s₁ B hml hv
  obtain ⟨rfl, hS, hP⟩ := hv
  have E := e_enter (own := RX9) (ret := none) B hml rfl hS hP
  have J : e_J G s h s.heap [] := ⟨hP, va_S.rf⟩
  have hin0 : meth.name = "<init>" := (name_of_methodNamed B.named B.method).1
  have hl := lv_entry ([.ref (e_ad G l0)]) (n := 1) (Nat.le_of_ble_eq_true rfl)
  rw [lg_entry_eq]
  generalize (lg_sl ([.ref (e_ad G l0)]) ++ List.replicate (1 - (lg_sl ([.ref (e_ad G l0)])).length) Slot.unset).toArray = ls at hl ⊢
  have hl : lv_has ls 1 [(0, .ref (e_ad G l0))] := hl
  obtain ⟨hx, hb, hr, hml, hown, hts, hlocks, hES, hbs⟩ := id E
  unfold fX9_init at hM
  obtain ⟨fs_, hk_, hM⟩ := e_bs hM
  refine lv_aload_n hx hb dX9_init_0 rfl (lv_at hl 0 rfl) ?_
  refine e_oinit E q_5_9 q_1_25 q_1_26 hl.1 (Nat.le_of_ble_eq_true rfl) (Nat.le_of_ble_eq_true rfl) dX9_init_1 ?_
  refine lv_aload_n hx hb dX9_init_4 rfl (lv_at hl 0 rfl) ?_
  refine lv_sipush (v := nI 1471) hx hb dX9_init_5 (by decide) ?_
  obtain ⟨p1, hv, hM⟩ := e_bs hM
  refine e_newA (top := 1471) (atype := .int) (ty := .int) E J hv rfl rfl (fun _ => rfl) (fun _ => ⟨_, rfl⟩) (fun h => h) q_1_50 (Nat.le_of_ble_eq_true rfl) (e_rcc (by omega)) (e_rcs (by omega)) dX9_init_8 (fun H J => ?_)
  obtain ⟨h2, hv, hM⟩ := e_bs hM
  refine e_putF (C := RX9) (T := TX9) (N := 40) E J hv rfl rfl inX9 tyX9 tyX9_ok nmX9 (by decide) q_5_10 rfl hin0 rfl rfl rfl rfl dX9_init_10 (fun H locs J => ?_)
  refine lv_aload_n hx hb dX9_init_13 rfl (lv_at hl 0 rfl) ?_
  refine lv_sipush (v := nI 1471) hx hb dX9_init_14 (by decide) ?_
  obtain ⟨p3, hv, hM⟩ := e_bs hM
  refine e_newA (top := 1471) (atype := .int) (ty := .int) E J hv rfl rfl (fun _ => rfl) (fun _ => ⟨_, rfl⟩) (fun h => h) q_1_50 (Nat.le_of_ble_eq_true rfl) (e_rcc (by omega)) (e_rcs (by omega)) dX9_init_17 (fun H J => ?_)
  obtain ⟨h4, hv, hM⟩ := e_bs hM
  refine e_putF (C := RX9) (T := TX9) (N := 40) E J hv rfl rfl inX9 tyX9 tyX9_ok nmX9 (by decide) q_5_11 rfl hin0 rfl rfl rfl rfl dX9_init_19 (fun H locs J => ?_)
  refine lv_aload_n hx hb dX9_init_22 rfl (lv_at hl 0 rfl) ?_
  refine lv_sipush (v := nI 1471) hx hb dX9_init_23 (by decide) ?_
  obtain ⟨p5, hv, hM⟩ := e_bs hM
  refine e_newA (top := 1471) (atype := .int) (ty := .int) E J hv rfl rfl (fun _ => rfl) (fun _ => ⟨_, rfl⟩) (fun h => h) q_1_50 (Nat.le_of_ble_eq_true rfl) (e_rcc (by omega)) (e_rcs (by omega)) dX9_init_26 (fun H J => ?_)
  obtain ⟨h6, hv, hM⟩ := e_bs hM
  refine e_putF (C := RX9) (T := TX9) (N := 40) E J hv rfl rfl inX9 tyX9 tyX9_ok nmX9 (by decide) q_5_12 rfl hin0 rfl rfl rfl rfl dX9_init_28 (fun H locs J => ?_)
  refine lv_aload_n hx hb dX9_init_31 rfl (lv_at hl 0 rfl) ?_
  refine lv_bipush (v := nI 25) hx hb dX9_init_32 (by decide) ?_
  obtain ⟨p7, hv, hM⟩ := e_bs hM
  refine e_newA (top := 25) (atype := .int) (ty := .int) E J hv rfl rfl (fun _ => rfl) (fun _ => ⟨_, rfl⟩) (fun h => h) q_1_50 (Nat.le_of_ble_eq_true rfl) (e_rcc (by omega)) (e_rcs (by omega)) dX9_init_34 (fun H J => ?_)
  obtain ⟨h8, hv, hM⟩ := e_bs hM
  refine e_putF (C := RX9) (T := TX9) (N := 40) E J hv rfl rfl inX9 tyX9 tyX9_ok nmX9 (by decide) q_5_14 rfl hin0 rfl rfl rfl rfl dX9_init_36 (fun H locs J => ?_)
  refine lv_aload_n hx hb dX9_init_39 rfl (lv_at hl 0 rfl) ?_
  refine lv_sipush (v := nI 3400) hx hb dX9_init_40 (by decide) ?_
  obtain ⟨p9, hv, hM⟩ := e_bs hM
  refine e_newA (top := 3400) (atype := .long) (ty := .long) E J hv rfl rfl (fun _ => rfl) (fun _ => ⟨_, rfl⟩) (fun h => h) q_1_90 (Nat.le_of_ble_eq_true rfl) (e_rcc (by omega)) (e_rcs (by omega)) dX9_init_43 (fun H J => ?_)
  obtain ⟨h10, hv, hM⟩ := e_bs hM
  refine e_putF (C := RX9) (T := TX9) (N := 40) E J hv rfl rfl inX9 tyX9 tyX9_ok nmX9 (by decide) q_5_15 rfl hin0 rfl rfl rfl rfl dX9_init_45 (fun H locs J => ?_)
  refine lv_aload_n hx hb dX9_init_48 rfl (lv_at hl 0 rfl) ?_
  refine lv_iconst (v := nI 5) hx hb dX9_init_49 (by decide) ?_
  obtain ⟨p11, hv, hM⟩ := e_bs hM
  refine e_newA (top := 5) (atype := .long) (ty := .long) E J hv rfl rfl (fun _ => rfl) (fun _ => ⟨_, rfl⟩) (fun h => h) q_1_90 (Nat.le_of_ble_eq_true rfl) (e_rcc (by omega)) (e_rcs (by omega)) dX9_init_50 (fun H J => ?_)
  obtain ⟨h12, hv, hM⟩ := e_bs hM
  refine e_putF (C := RX9) (T := TX9) (N := 40) E J hv rfl rfl inX9 tyX9 tyX9_ok nmX9 (by decide) q_5_16 rfl hin0 rfl rfl rfl rfl dX9_init_52 (fun H locs J => ?_)
  refine lv_aload_n hx hb dX9_init_55 rfl (lv_at hl 0 rfl) ?_
  refine lv_bipush (v := nI 40) hx hb dX9_init_56 (by decide) ?_
  obtain ⟨p13, hv, hM⟩ := e_bs hM
  refine e_newA (top := 40) (atype := .int) (ty := .int) E J hv rfl rfl (fun _ => rfl) (fun _ => ⟨_, rfl⟩) (fun h => h) q_1_50 (Nat.le_of_ble_eq_true rfl) (e_rcc (by omega)) (e_rcs (by omega)) dX9_init_58 (fun H J => ?_)
  obtain ⟨h14, hv, hM⟩ := e_bs hM
  refine e_putF (C := RX9) (T := TX9) (N := 40) E J hv rfl rfl inX9 tyX9 tyX9_ok nmX9 (by decide) q_5_20 rfl hin0 rfl rfl rfl rfl dX9_init_60 (fun H locs J => ?_)
  refine lv_aload_n hx hb dX9_init_63 rfl (lv_at hl 0 rfl) ?_
  refine lv_bipush (v := nI 121) hx hb dX9_init_64 (by decide) ?_
  obtain ⟨p15, hv, hM⟩ := e_bs hM
  refine e_newA (top := 121) (atype := .boolean) (ty := .boolean) E J hv rfl rfl (fun _ => rfl) (fun _ => ⟨_, rfl⟩) (fun h => h) q_5_131 (Nat.le_of_ble_eq_true rfl) (e_rcc (by omega)) (e_rcs (by omega)) dX9_init_66 (fun H J => ?_)
  obtain ⟨h16, hv, hM⟩ := e_bs hM
  refine e_putF (C := RX9) (T := TX9) (N := 40) E J hv rfl rfl inX9 tyX9 tyX9_ok nmX9 (by decide) q_5_21 rfl hin0 rfl rfl rfl rfl dX9_init_68 (fun H locs J => ?_)
  refine lv_aload_n hx hb dX9_init_71 rfl (lv_at hl 0 rfl) ?_
  refine lv_bipush (v := nI 96) hx hb dX9_init_72 (by decide) ?_
  obtain ⟨p17, hv, hM⟩ := e_bs hM
  refine e_newA (top := 96) (atype := .int) (ty := .int) E J hv rfl rfl (fun _ => rfl) (fun _ => ⟨_, rfl⟩) (fun h => h) q_1_50 (Nat.le_of_ble_eq_true rfl) (e_rcc (by omega)) (e_rcs (by omega)) dX9_init_74 (fun H J => ?_)
  obtain ⟨h18, hv, hM⟩ := e_bs hM
  refine e_putF (C := RX9) (T := TX9) (N := 40) E J hv rfl rfl inX9 tyX9 tyX9_ok nmX9 (by decide) q_5_22 rfl hin0 rfl rfl rfl rfl dX9_init_76 (fun H locs J => ?_)
  refine lv_aload_n hx hb dX9_init_79 rfl (lv_at hl 0 rfl) ?_
  refine lv_bipush (v := nI 13) hx hb dX9_init_80 (by decide) ?_
  obtain ⟨p19, hv, hM⟩ := e_bs hM
  refine e_newA (top := 13) (atype := .char) (ty := .char) E J hv rfl rfl (fun _ => rfl) (fun _ => ⟨_, rfl⟩) (fun h => h) q_5_132 (Nat.le_of_ble_eq_true rfl) (e_rcc (by omega)) (e_rcs (by omega)) dX9_init_82 (fun H J => ?_)
  refine lv_dup hx hb dX9_init_84 rfl ?_
  refine lv_iconst (v := nI 0) hx hb dX9_init_85 (by decide) ?_
  refine lv_bipush (v := nI 116) hx hb dX9_init_86 (by decide) ?_
  obtain ⟨h20, hv, hM⟩ := e_bs hM
  refine e_cast E J hv dX9_init_88 (fun H locs J => ?_)
  refine lv_dup hx hb dX9_init_89 rfl ?_
  refine lv_iconst (v := nI 1) hx hb dX9_init_90 (by decide) ?_
  refine lv_bipush (v := nI 101) hx hb dX9_init_91 (by decide) ?_
  obtain ⟨h21, hv, hM⟩ := e_bs hM
  refine e_cast E J hv dX9_init_93 (fun H locs J => ?_)
  refine lv_dup hx hb dX9_init_94 rfl ?_
  refine lv_iconst (v := nI 2) hx hb dX9_init_95 (by decide) ?_
  refine lv_bipush (v := nI 114) hx hb dX9_init_96 (by decide) ?_
  obtain ⟨h22, hv, hM⟩ := e_bs hM
  refine e_cast E J hv dX9_init_98 (fun H locs J => ?_)
  refine lv_dup hx hb dX9_init_99 rfl ?_
  refine lv_iconst (v := nI 3) hx hb dX9_init_100 (by decide) ?_
  refine lv_bipush (v := nI 109) hx hb dX9_init_101 (by decide) ?_
  obtain ⟨h23, hv, hM⟩ := e_bs hM
  refine e_cast E J hv dX9_init_103 (fun H locs J => ?_)
  refine lv_dup hx hb dX9_init_104 rfl ?_
  refine lv_iconst (v := nI 4) hx hb dX9_init_105 (by decide) ?_
  refine lv_bipush (v := nI 115) hx hb dX9_init_106 (by decide) ?_
  obtain ⟨h24, hv, hM⟩ := e_bs hM
  refine e_cast E J hv dX9_init_108 (fun H locs J => ?_)
  refine lv_dup hx hb dX9_init_109 rfl ?_
  refine lv_iconst (v := nI 5) hx hb dX9_init_110 (by decide) ?_
  refine lv_bipush (v := nI 108) hx hb dX9_init_111 (by decide) ?_
  obtain ⟨h25, hv, hM⟩ := e_bs hM
  refine e_cast E J hv dX9_init_113 (fun H locs J => ?_)
  refine lv_dup hx hb dX9_init_114 rfl ?_
  refine lv_bipush (v := nI 6) hx hb dX9_init_115 (by decide) ?_
  refine lv_bipush (v := nI 111) hx hb dX9_init_117 (by decide) ?_
  obtain ⟨h26, hv, hM⟩ := e_bs hM
  refine e_cast E J hv dX9_init_119 (fun H locs J => ?_)
  refine lv_dup hx hb dX9_init_120 rfl ?_
  refine lv_bipush (v := nI 7) hx hb dX9_init_121 (by decide) ?_
  refine lv_bipush (v := nI 112) hx hb dX9_init_123 (by decide) ?_
  obtain ⟨h27, hv, hM⟩ := e_bs hM
  refine e_cast E J hv dX9_init_125 (fun H locs J => ?_)
  refine lv_dup hx hb dX9_init_126 rfl ?_
  refine lv_bipush (v := nI 8) hx hb dX9_init_127 (by decide) ?_
  refine lv_bipush (v := nI 101) hx hb dX9_init_129 (by decide) ?_
  obtain ⟨h28, hv, hM⟩ := e_bs hM
  refine e_cast E J hv dX9_init_131 (fun H locs J => ?_)
  refine lv_dup hx hb dX9_init_132 rfl ?_
  refine lv_bipush (v := nI 9) hx hb dX9_init_133 (by decide) ?_
  refine lv_bipush (v := nI 109) hx hb dX9_init_135 (by decide) ?_
  obtain ⟨h29, hv, hM⟩ := e_bs hM
  refine e_cast E J hv dX9_init_137 (fun H locs J => ?_)
  refine lv_dup hx hb dX9_init_138 rfl ?_
  refine lv_bipush (v := nI 10) hx hb dX9_init_139 (by decide) ?_
  refine lv_bipush (v := nI 97) hx hb dX9_init_141 (by decide) ?_
  obtain ⟨h30, hv, hM⟩ := e_bs hM
  refine e_cast E J hv dX9_init_143 (fun H locs J => ?_)
  refine lv_dup hx hb dX9_init_144 rfl ?_
  refine lv_bipush (v := nI 11) hx hb dX9_init_145 (by decide) ?_
  refine lv_bipush (v := nI 114) hx hb dX9_init_147 (by decide) ?_
  obtain ⟨h31, hv, hM⟩ := e_bs hM
  refine e_cast E J hv dX9_init_149 (fun H locs J => ?_)
  refine lv_dup hx hb dX9_init_150 rfl ?_
  refine lv_bipush (v := nI 12) hx hb dX9_init_151 (by decide) ?_
  refine lv_bipush (v := nI 107) hx hb dX9_init_153 (by decide) ?_
  obtain ⟨h32, hv, hM⟩ := e_bs hM
  refine e_cast E J hv dX9_init_155 (fun H locs J => ?_)
  obtain ⟨h33, hv, hM⟩ := e_bs hM
  refine e_putF (C := RX9) (T := TX9) (N := 40) E J hv rfl rfl inX9 tyX9 tyX9_ok nmX9 (by decide) q_5_30 rfl hin0 rfl rfl rfl rfl dX9_init_156 (fun H locs J => ?_)
  refine lv_aload_n hx hb dX9_init_159 rfl (lv_at hl 0 rfl) ?_
  refine lv_iconst (v := nI 4) hx hb dX9_init_160 (by decide) ?_
  obtain ⟨p34, hv, hM⟩ := e_bs hM
  refine e_newA (top := 4) (atype := .int) (ty := .int) E J hv rfl rfl (fun _ => rfl) (fun _ => ⟨_, rfl⟩) (fun h => h) q_1_50 (Nat.le_of_ble_eq_true rfl) (e_rcc (by omega)) (e_rcs (by omega)) dX9_init_161 (fun H J => ?_)
  refine lv_dup hx hb dX9_init_163 rfl ?_
  refine lv_iconst (v := nI 0) hx hb dX9_init_164 (by decide) ?_
  refine lv_iconst (v := nI 0) hx hb dX9_init_165 (by decide) ?_
  obtain ⟨h35, hv, hM⟩ := e_bs hM
  refine e_iast E J hv dX9_init_166 (fun H locs J => ?_)
  refine lv_dup hx hb dX9_init_167 rfl ?_
  refine lv_iconst (v := nI 1) hx hb dX9_init_168 (by decide) ?_
  refine lv_iconst (v := nI 4) hx hb dX9_init_169 (by decide) ?_
  obtain ⟨h36, hv, hM⟩ := e_bs hM
  refine e_iast E J hv dX9_init_170 (fun H locs J => ?_)
  refine lv_dup hx hb dX9_init_171 rfl ?_
  refine lv_iconst (v := nI 2) hx hb dX9_init_172 (by decide) ?_
  refine lv_bipush (v := nI 9) hx hb dX9_init_173 (by decide) ?_
  obtain ⟨h37, hv, hM⟩ := e_bs hM
  refine e_iast E J hv dX9_init_175 (fun H locs J => ?_)
  refine lv_dup hx hb dX9_init_176 rfl ?_
  refine lv_iconst (v := nI 3) hx hb dX9_init_177 (by decide) ?_
  refine lv_bipush (v := nI 13) hx hb dX9_init_178 (by decide) ?_
  obtain ⟨h38, hv, hM⟩ := e_bs hM
  refine e_iast E J hv dX9_init_180 (fun H locs J => ?_)
  obtain ⟨h39, hv, hM⟩ := e_bs hM
  refine e_putF (C := RX9) (T := TX9) (N := 40) E J hv rfl rfl inX9 tyX9 tyX9_ok nmX9 (by decide) q_5_31 rfl hin0 rfl rfl rfl rfl dX9_init_181 (fun H locs J => ?_)
  refine lv_aload_n hx hb dX9_init_184 rfl (lv_at hl 0 rfl) ?_
  refine lv_bipush (v := nI 96) hx hb dX9_init_185 (by decide) ?_
  obtain ⟨p40, hv, hM⟩ := e_bs hM
  refine e_newA (top := 96) (atype := .int) (ty := .int) E J hv rfl rfl (fun _ => rfl) (fun _ => ⟨_, rfl⟩) (fun h => h) q_1_50 (Nat.le_of_ble_eq_true rfl) (e_rcc (by omega)) (e_rcs (by omega)) dX9_init_187 (fun H J => ?_)
  obtain ⟨h41, hv, hM⟩ := e_bs hM
  refine e_putF (C := RX9) (T := TX9) (N := 40) E J hv rfl rfl inX9 tyX9 tyX9_ok nmX9 (by decide) q_5_32 rfl hin0 rfl rfl rfl rfl dX9_init_189 (fun H locs J => ?_)
  refine lv_aload_n hx hb dX9_init_192 rfl (lv_at hl 0 rfl) ?_
  refine lv_bipush (v := nI 96) hx hb dX9_init_193 (by decide) ?_
  obtain ⟨p42, hv, hM⟩ := e_bs hM
  refine e_newA (top := 96) (atype := .int) (ty := .int) E J hv rfl rfl (fun _ => rfl) (fun _ => ⟨_, rfl⟩) (fun h => h) q_1_50 (Nat.le_of_ble_eq_true rfl) (e_rcc (by omega)) (e_rcs (by omega)) dX9_init_195 (fun H J => ?_)
  obtain ⟨h43, hv, hM⟩ := e_bs hM
  refine e_putF (C := RX9) (T := TX9) (N := 40) E J hv rfl rfl inX9 tyX9 tyX9_ok nmX9 (by decide) q_5_35 rfl hin0 rfl rfl rfl rfl dX9_init_197 (fun H locs J => ?_)
  refine lv_aload_n hx hb dX9_init_200 rfl (lv_at hl 0 rfl) ?_
  refine lv_bipush (v := nI 10) hx hb dX9_init_201 (by decide) ?_
  obtain ⟨p44, hv, hM⟩ := e_bs hM
  refine e_newA (top := 10) (atype := .boolean) (ty := .boolean) E J hv rfl rfl (fun _ => rfl) (fun _ => ⟨_, rfl⟩) (fun h => h) q_5_131 (Nat.le_of_ble_eq_true rfl) (e_rcc (by omega)) (e_rcs (by omega)) dX9_init_203 (fun H J => ?_)
  obtain ⟨h45, hv, hM⟩ := e_bs hM
  refine e_putF (C := RX9) (T := TX9) (N := 40) E J hv rfl rfl inX9 tyX9 tyX9_ok nmX9 (by decide) q_5_37 rfl hin0 rfl rfl rfl rfl dX9_init_205 (fun H locs J => ?_)
  refine lv_aload_n hx hb dX9_init_208 rfl (lv_at hl 0 rfl) ?_
  refine lv_bipush (v := nI 96) hx hb dX9_init_209 (by decide) ?_
  obtain ⟨p46, hv, hM⟩ := e_bs hM
  refine e_newA (top := 96) (atype := .int) (ty := .int) E J hv rfl rfl (fun _ => rfl) (fun _ => ⟨_, rfl⟩) (fun h => h) q_1_50 (Nat.le_of_ble_eq_true rfl) (e_rcc (by omega)) (e_rcs (by omega)) dX9_init_211 (fun H J => ?_)
  obtain ⟨h47, hv, hM⟩ := e_bs hM
  refine e_putF (C := RX9) (T := TX9) (N := 40) E J hv rfl rfl inX9 tyX9 tyX9_ok nmX9 (by decide) q_5_38 rfl hin0 rfl rfl rfl rfl dX9_init_213 (fun H locs J => ?_)
  refine lv_aload_n hx hb dX9_init_216 rfl (lv_at hl 0 rfl) ?_
  refine lv_iconst (v := nI 4) hx hb dX9_init_217 (by decide) ?_
  obtain ⟨p48, hv, hM⟩ := e_bs hM
  refine e_newA (top := 4) (atype := .int) (ty := .int) E J hv rfl rfl (fun _ => rfl) (fun _ => ⟨_, rfl⟩) (fun h => h) q_1_50 (Nat.le_of_ble_eq_true rfl) (e_rcc (by omega)) (e_rcs (by omega)) dX9_init_218 (fun H J => ?_)
  obtain ⟨h49, hv, hM⟩ := e_bs hM
  refine e_putF (C := RX9) (T := TX9) (N := 40) E J hv rfl rfl inX9 tyX9 tyX9_ok nmX9 (by decide) q_5_39 rfl hin0 rfl rfl rfl rfl dX9_init_220 (fun H locs J => ?_)
  refine lv_aload_n hx hb dX9_init_223 rfl (lv_at hl 0 rfl) ?_
  refine lv_iconst (v := nI 4) hx hb dX9_init_224 (by decide) ?_
  obtain ⟨p50, hv, hM⟩ := e_bs hM
  refine e_newA (top := 4) (atype := .int) (ty := .int) E J hv rfl rfl (fun _ => rfl) (fun _ => ⟨_, rfl⟩) (fun h => h) q_1_50 (Nat.le_of_ble_eq_true rfl) (e_rcc (by omega)) (e_rcs (by omega)) dX9_init_225 (fun H J => ?_)
  refine lv_dup hx hb dX9_init_227 rfl ?_
  refine lv_iconst (v := nI 0) hx hb dX9_init_228 (by decide) ?_
  refine lv_iconst (v := -1) hx hb dX9_init_229 (by decide) ?_
  obtain ⟨h51, hv, hM⟩ := e_bs hM
  refine e_iast E J hv dX9_init_230 (fun H locs J => ?_)
  refine lv_dup hx hb dX9_init_231 rfl ?_
  refine lv_iconst (v := nI 1) hx hb dX9_init_232 (by decide) ?_
  refine lv_iconst (v := -1) hx hb dX9_init_233 (by decide) ?_
  obtain ⟨h52, hv, hM⟩ := e_bs hM
  refine e_iast E J hv dX9_init_234 (fun H locs J => ?_)
  refine lv_dup hx hb dX9_init_235 rfl ?_
  refine lv_iconst (v := nI 2) hx hb dX9_init_236 (by decide) ?_
  refine lv_iconst (v := -1) hx hb dX9_init_237 (by decide) ?_
  obtain ⟨h53, hv, hM⟩ := e_bs hM
  refine e_iast E J hv dX9_init_238 (fun H locs J => ?_)
  refine lv_dup hx hb dX9_init_239 rfl ?_
  refine lv_iconst (v := nI 3) hx hb dX9_init_240 (by decide) ?_
  refine lv_iconst (v := -1) hx hb dX9_init_241 (by decide) ?_
  obtain ⟨h54, hv, hM⟩ := e_bs hM
  refine e_iast E J hv dX9_init_242 (fun H locs J => ?_)
  obtain ⟨h55, hv, hM⟩ := e_bs hM
  refine e_putF (C := RX9) (T := TX9) (N := 40) E J hv rfl rfl inX9 tyX9 tyX9_ok nmX9 (by decide) q_5_40 rfl hin0 rfl rfl rfl rfl dX9_init_243 (fun H locs J => ?_)
  refine lv_aload_n hx hb dX9_init_246 rfl (lv_at hl 0 rfl) ?_
  refine lv_iconst (v := nI 4) hx hb dX9_init_247 (by decide) ?_
  obtain ⟨p56, hv, hM⟩ := e_bs hM
  refine e_newA (top := 4) (atype := .int) (ty := .int) E J hv rfl rfl (fun _ => rfl) (fun _ => ⟨_, rfl⟩) (fun h => h) q_1_50 (Nat.le_of_ble_eq_true rfl) (e_rcc (by omega)) (e_rcs (by omega)) dX9_init_248 (fun H J => ?_)
  obtain ⟨h57, hv, hM⟩ := e_bs hM
  refine e_putF (C := RX9) (T := TX9) (N := 40) E J hv rfl rfl inX9 tyX9 tyX9_ok nmX9 (by decide) q_5_41 rfl hin0 rfl rfl rfl rfl dX9_init_250 (fun H locs J => ?_)
  refine lv_aload_n hx hb dX9_init_253 rfl (lv_at hl 0 rfl) ?_
  refine lv_bipush (v := nI 96) hx hb dX9_init_254 (by decide) ?_
  obtain ⟨p58, hv, hM⟩ := e_bs hM
  refine e_newA (top := 96) (atype := .int) (ty := .int) E J hv rfl rfl (fun _ => rfl) (fun _ => ⟨_, rfl⟩) (fun h => h) q_1_50 (Nat.le_of_ble_eq_true rfl) (e_rcc (by omega)) (e_rcs (by omega)) dX9_init_256 (fun H J => ?_)
  obtain ⟨h59, hv, hM⟩ := e_bs hM
  refine e_putF (C := RX9) (T := TX9) (N := 40) E J hv rfl rfl inX9 tyX9 tyX9_ok nmX9 (by decide) q_5_42 rfl hin0 rfl rfl rfl rfl dX9_init_258 (fun H locs J => ?_)
  refine lv_aload_n hx hb dX9_init_261 rfl (lv_at hl 0 rfl) ?_
  refine lv_iconst (v := nI 5) hx hb dX9_init_262 (by decide) ?_
  obtain ⟨p60, hv, hM⟩ := e_bs hM
  refine e_newA (top := 5) (atype := .int) (ty := .int) E J hv rfl rfl (fun _ => rfl) (fun _ => ⟨_, rfl⟩) (fun h => h) q_1_50 (Nat.le_of_ble_eq_true rfl) (e_rcc (by omega)) (e_rcs (by omega)) dX9_init_263 (fun H J => ?_)
  obtain ⟨h61, hv, hM⟩ := e_bs hM
  refine e_putF (C := RX9) (T := TX9) (N := 40) E J hv rfl rfl inX9 tyX9 tyX9_ok nmX9 (by decide) q_5_43 rfl hin0 rfl rfl rfl rfl dX9_init_265 (fun H locs J => ?_)
  refine lv_aload_n hx hb dX9_init_268 rfl (lv_at hl 0 rfl) ?_
  refine lv_iconst (v := nI 5) hx hb dX9_init_269 (by decide) ?_
  obtain ⟨p62, hv, hM⟩ := e_bs hM
  refine e_newA (top := 5) (atype := .int) (ty := .int) E J hv rfl rfl (fun _ => rfl) (fun _ => ⟨_, rfl⟩) (fun h => h) q_1_50 (Nat.le_of_ble_eq_true rfl) (e_rcc (by omega)) (e_rcs (by omega)) dX9_init_270 (fun H J => ?_)
  obtain ⟨h63, hv, hM⟩ := e_bs hM
  refine e_putF (C := RX9) (T := TX9) (N := 40) E J hv rfl rfl inX9 tyX9 tyX9_ok nmX9 (by decide) q_5_44 rfl hin0 rfl rfl rfl rfl dX9_init_272 (fun H locs J => ?_)
  refine lv_aload_n hx hb dX9_init_275 rfl (lv_at hl 0 rfl) ?_
  refine lv_iconst (v := nI 5) hx hb dX9_init_276 (by decide) ?_
  obtain ⟨p64, hv, hM⟩ := e_bs hM
  refine e_newA (top := 5) (atype := .int) (ty := .int) E J hv rfl rfl (fun _ => rfl) (fun _ => ⟨_, rfl⟩) (fun h => h) q_1_50 (Nat.le_of_ble_eq_true rfl) (e_rcc (by omega)) (e_rcs (by omega)) dX9_init_277 (fun H J => ?_)
  obtain ⟨h65, hv, hM⟩ := e_bs hM
  refine e_putF (C := RX9) (T := TX9) (N := 40) E J hv rfl rfl inX9 tyX9 tyX9_ok nmX9 (by decide) q_5_45 rfl hin0 rfl rfl rfl rfl dX9_init_279 (fun H locs J => ?_)
  refine lv_aload_n hx hb dX9_init_282 rfl (lv_at hl 0 rfl) ?_
  refine lv_bipush (v := nI 120) hx hb dX9_init_283 (by decide) ?_
  obtain ⟨p66, hv, hM⟩ := e_bs hM
  refine e_newA (top := 120) (atype := .int) (ty := .int) E J hv rfl rfl (fun _ => rfl) (fun _ => ⟨_, rfl⟩) (fun h => h) q_1_50 (Nat.le_of_ble_eq_true rfl) (e_rcc (by omega)) (e_rcs (by omega)) dX9_init_285 (fun H J => ?_)
  obtain ⟨h67, hv, hM⟩ := e_bs hM
  refine e_putF (C := RX9) (T := TX9) (N := 40) E J hv rfl rfl inX9 tyX9 tyX9_ok nmX9 (by decide) q_5_46 rfl hin0 rfl rfl rfl rfl dX9_init_287 (fun H locs J => ?_)
  refine lv_aload_n hx hb dX9_init_290 rfl (lv_at hl 0 rfl) ?_
  refine lv_bipush (v := nI 24) hx hb dX9_init_291 (by decide) ?_
  obtain ⟨p68, hv, hM⟩ := e_bs hM
  refine e_newA (top := 24) (atype := .int) (ty := .int) E J hv rfl rfl (fun _ => rfl) (fun _ => ⟨_, rfl⟩) (fun h => h) q_1_50 (Nat.le_of_ble_eq_true rfl) (e_rcc (by omega)) (e_rcs (by omega)) dX9_init_293 (fun H J => ?_)
  obtain ⟨h69, hv, hM⟩ := e_bs hM
  refine e_putF (C := RX9) (T := TX9) (N := 40) E J hv rfl rfl inX9 tyX9 tyX9_ok nmX9 (by decide) q_5_47 rfl hin0 rfl rfl rfl rfl dX9_init_295 (fun H locs J => ?_)
  refine lv_aload_n hx hb dX9_init_298 rfl (lv_at hl 0 rfl) ?_
  refine lv_bipush (v := nI 60) hx hb dX9_init_299 (by decide) ?_
  obtain ⟨p70, hv, hM⟩ := e_bs hM
  refine e_newA (top := 60) (atype := .int) (ty := .int) E J hv rfl rfl (fun _ => rfl) (fun _ => ⟨_, rfl⟩) (fun h => h) q_1_50 (Nat.le_of_ble_eq_true rfl) (e_rcc (by omega)) (e_rcs (by omega)) dX9_init_301 (fun H J => ?_)
  obtain ⟨h71, hv, hM⟩ := e_bs hM
  refine e_putF (C := RX9) (T := TX9) (N := 40) E J hv rfl rfl inX9 tyX9 tyX9_ok nmX9 (by decide) q_5_48 rfl hin0 rfl rfl rfl rfl dX9_init_303 (fun H locs J => ?_)
  refine lv_aload_n hx hb dX9_init_306 rfl (lv_at hl 0 rfl) ?_
  obtain ⟨v72, hv, hM⟩ := e_bs hM
  refine e_getR (C := RX9) (T := TX9) (N := 40) E J hv rfl inX9 (by decide) q_5_10 dX9_init_307 ?_
  rcases v72 with _ | a73
  · have hM := e_on0 hM
    refine W.eq (g2 := F0 m 310 ls [.null]) rfl ?_
    refine lv_iconst (v := nI 0) hx hb dX9_init_310 (by decide) ?_
    refine lv_iconst (v := nI 1) hx hb dX9_init_311 (by decide) ?_
    exact e_no hM
  · have hM := e_on1 hM
    refine W.eq (g2 := F0 m 310 ls [.ref (e_ad G a73)]) rfl ?_
    refine lv_iconst (v := nI 0) hx hb dX9_init_310 (by decide) ?_
    refine lv_iconst (v := nI 1) hx hb dX9_init_311 (by decide) ?_
    obtain ⟨h75, hv, hM⟩ := e_bs hM
    refine e_iast E J hv dX9_init_312 (fun H locs J => ?_)
    obtain rfl := e_so hM
    refine W.widen (k := 25) (n := 8742) (by omega) (by omega) ?_
    exact e_vret E J dX9_init_313
set_option maxRecDepth 100000 in
set_option maxHeartbeats 4000000 in
theorem mX9_in {l : Launch} {G : e_G} (l0 : Int32) (l1 : Int32) (l2 : Int32) (h : e_H) (res : Bool) (hM : fX9_in l0 l1 l2 = some res) : Met l yX9_in (e_W yX9_in cX9_in 3 (some FieldType.boolean)) (e_rm 0 0) (e_Pc G h [.int l0, .int l1, .int l2]) (e_Q G h (some (.int (e_b res)))) 0 0 (e_A G) := by
  refine Met.ofW (cc := cX9_in) (maxL := 3) (ret := (some FieldType.boolean)) (by decide) rfl ?_
  intro p e s m args below meth c s₁ B hml hv
  obtain ⟨rfl, hS, hP⟩ := hv
  have E := e_enter (own := RX9) (ret := (some FieldType.boolean)) B hml rfl hS hP
  have J : e_J G s h s.heap [] := ⟨hP, va_S.rf⟩
  have hl := lv_entry ([.int l0, .int l1, .int l2]) (n := 3) (Nat.le_of_ble_eq_true rfl)
  rw [lg_entry_eq]
  generalize (lg_sl ([.int l0, .int l1, .int l2]) ++ List.replicate (3 - (lg_sl ([.int l0, .int l1, .int l2])).length) Slot.unset).toArray = ls at hl ⊢
  have hl : lv_has ls 3 [(0, .int l0), (1, .int l1), (2, .int l2)] := hl
  obtain ⟨hx, hb, hr, hml, hown, hts, hlocks, hES, hbs⟩ := id E
  unfold fX9_in at hM
  refine lv_iload_n hx hb dX9_in_0 rfl (lv_at hl 0 rfl) ?_
  refine lv_iload_n hx hb dX9_in_1 rfl (lv_at hl 1 rfl) ?_
  refine lv_icmp_lt (tgt := 14) hx hb dX9_in_2 (by decide) (fun hc => ?_) (fun hc => ?_)
  · have hM := e_ip hc hM
    refine lv_iconst (v := nI 0) hx hb dX9_in_14 (by decide) ?_
    obtain rfl := e_so hM
    exact e_zret E J (false) rfl dX9_in_15
  · have hM := e_in hc hM
    refine lv_iload_n hx hb dX9_in_5 rfl (lv_at hl 0 rfl) ?_
    refine lv_iload_n hx hb dX9_in_6 rfl (lv_at hl 2 rfl) ?_
    refine lv_icmp_gt (tgt := 14) hx hb dX9_in_7 (by decide) (fun hc => ?_) (fun hc => ?_)
    · have hM := e_ip hc hM
      refine lv_iconst (v := nI 0) hx hb dX9_in_14 (by decide) ?_
      obtain rfl := e_so hM
      exact e_zret E J (false) rfl dX9_in_15
    · have hM := e_in hc hM
      refine lv_iconst (v := nI 1) hx hb dX9_in_10 (by decide) ?_
      refine lv_goto (tgt := 15) hx hb dX9_in_11 (by decide) ?_
      obtain rfl := e_so hM
      exact e_zret E J (true) rfl dX9_in_15
set_option maxRecDepth 100000 in
set_option maxHeartbeats 4000000 in
theorem mX9_comes_b14 {p : Program} {l : Launch} {e : Env} {s : State} {m : MethodId} {args : Array Value} {below : List Frame} {meth : Method} {c : Code} {G : e_G} {res : (Int32 × e_H)} {k14 : Nat → Int32 → Int32 → Int32 → e_H → Option (Int32 × e_H)} (E : e_M G p s args m meth c cX9_comes 4 (some FieldType.int) RX9) (K14 : ∀ (l0 : Nat) (l1 : Int32) (l2 : Int32) (l3 : Int32) (h : e_H), k14 l0 l1 l2 l3 h = some res → ∀ (H : Heap) (locs : List Loc), e_J G s h H locs → ∀ (ls : Array Slot), lv_has ls 4 [(0, .ref (e_ad G l0)), (1, .int l1), (2, .int l2), (3, .int l3)] → W p l e (e_rm 0 0) s m args below meth c H locs 0 0 (MQ below (e_Q G res.2 (some (.int res.1))) args s 0 0 (e_A G)) (F0 m 14 ls [])) (l0 : Nat) (l1 : Int32) (l2 : Int32) (l3 : Int32) (h : e_H) (hM : fX9_comes_b14 k14 l0 l1 l2 l3 h = some res) {H : Heap} {locs : List Loc} (J : e_J G s h H locs) {ls : Array Slot} (hl : lv_has ls 4 [(0, .ref (e_ad G l0)), (1, .int l1), (2, .int l2), (3, .int l3)]) : W p l e (e_rm 0 0) s m args below meth c H locs 0 0 (MQ below (e_Q G res.2 (some (.int res.1))) args s 0 0 (e_A G)) (F0 m 14 ls []) := by
  obtain ⟨hx, hb, hr, hml, hown, hts, hlocks, hES, hbs⟩ := id E
  unfold fX9_comes_b14 at hM
  refine lv_iload_n hx hb dX9_comes_14 rfl (lv_at hl 3 rfl) ?_
  refine lv_bipush (v := nI 16) hx hb dX9_comes_15 (by decide) ?_
  refine lv_icmp_ge (tgt := 35) hx hb dX9_comes_17 (by decide) (fun hc => ?_) (fun hc => ?_)
  · have hM := e_ip hc hM
    refine lv_aload_n hx hb dX9_comes_35 rfl (lv_at hl 0 rfl) ?_
    obtain ⟨v1, hv, hM⟩ := e_bs hM
    refine e_getR (C := RX9) (T := TX9) (N := 40) E J hv rfl inX9 (by decide) q_5_10 dX9_comes_36 ?_
    rcases v1 with _ | a2
    · have hM := e_on0 hM
      refine W.eq (g2 := F0 m 39 ls [.null]) rfl ?_
      refine lv_iload_n hx hb dX9_comes_39 rfl (lv_at hl 2 rfl) ?_
      refine lv_iload_n hx hb dX9_comes_40 rfl (lv_at hl 1 rfl) ?_
      exact e_no hM
    · have hM := e_on1 hM
      refine W.eq (g2 := F0 m 39 ls [.ref (e_ad G a2)]) rfl ?_
      refine lv_iload_n hx hb dX9_comes_39 rfl (lv_at hl 2 rfl) ?_
      refine lv_iload_n hx hb dX9_comes_40 rfl (lv_at hl 1 rfl) ?_
      obtain ⟨h4, hv, hM⟩ := e_bs hM
      refine e_iast E J hv dX9_comes_41 (fun H locs J => ?_)
      refine lv_aload_n hx hb dX9_comes_42 rfl (lv_at hl 0 rfl) ?_
      obtain ⟨v5, hv, hM⟩ := e_bs hM
      refine e_getR (C := RX9) (T := TX9) (N := 40) E J hv rfl inX9 (by decide) q_5_10 dX9_comes_43 ?_
      rcases v5 with _ | a6
      · have hM := e_on0 hM
        refine W.eq (g2 := F0 m 46 ls [.null]) rfl ?_
        refine lv_iconst (v := nI 1) hx hb dX9_comes_46 (by decide) ?_
        refine lv_dup2_11 hx hb dX9_comes_47 rfl rfl ?_
        exact e_no hM
      · have hM := e_on1 hM
        refine W.eq (g2 := F0 m 46 ls [.ref (e_ad G a6)]) rfl ?_
        refine lv_iconst (v := nI 1) hx hb dX9_comes_46 (by decide) ?_
        refine lv_dup2_11 hx hb dX9_comes_47 rfl rfl ?_
        obtain ⟨v7, hv, hM⟩ := e_bs hM
        refine e_iald E J hv dX9_comes_48 ?_
        refine lv_iconst (v := nI 1) hx hb dX9_comes_49 (by decide) ?_
        refine lv_iadd hx hb dX9_comes_50 ?_
        obtain ⟨h8, hv, hM⟩ := e_bs hM
        refine e_iast E J hv dX9_comes_51 (fun H locs J => ?_)
        refine lv_aload_n hx hb dX9_comes_52 rfl (lv_at hl 0 rfl) ?_
        obtain ⟨v9, hv, hM⟩ := e_bs hM
        refine e_getR (C := RX9) (T := TX9) (N := 40) E J hv rfl inX9 (by decide) q_5_10 dX9_comes_53 ?_
        rcases v9 with _ | a10
        · have hM := e_on0 hM
          refine W.eq (g2 := F0 m 56 ls [.null]) rfl ?_
          refine lv_iconst (v := nI 1) hx hb dX9_comes_56 (by decide) ?_
          exact e_no hM
        · have hM := e_on1 hM
          refine W.eq (g2 := F0 m 56 ls [.ref (e_ad G a10)]) rfl ?_
          refine lv_iconst (v := nI 1) hx hb dX9_comes_56 (by decide) ?_
          obtain ⟨v11, hv, hM⟩ := e_bs hM
          refine e_iald E J hv dX9_comes_57 ?_
          refine lv_iconst (v := nI 1) hx hb dX9_comes_58 (by decide) ?_
          refine lv_isub hx hb dX9_comes_59 ?_
          obtain rfl := e_so hM
          exact e_iret E J dX9_comes_60
  · have hM := e_in hc hM
    refine lv_aload_n hx hb dX9_comes_20 rfl (lv_at hl 0 rfl) ?_
    obtain ⟨v12, hv, hM⟩ := e_bs hM
    refine e_getR (C := RX9) (T := TX9) (N := 40) E J hv rfl inX9 (by decide) q_5_10 dX9_comes_21 ?_
    rcases v12 with _ | a13
    · have hM := e_on0 hM
      refine W.eq (g2 := F0 m 24 ls [.null]) rfl ?_
      refine lv_iload_n hx hb dX9_comes_24 rfl (lv_at hl 2 rfl) ?_
      refine lv_iload_n hx hb dX9_comes_25 rfl (lv_at hl 3 rfl) ?_
      refine lv_iadd hx hb dX9_comes_26 ?_
      refine lv_iconst (v := nI 0) hx hb dX9_comes_27 (by decide) ?_
      exact e_no hM
    · have hM := e_on1 hM
      refine W.eq (g2 := F0 m 24 ls [.ref (e_ad G a13)]) rfl ?_
      refine lv_iload_n hx hb dX9_comes_24 rfl (lv_at hl 2 rfl) ?_
      refine lv_iload_n hx hb dX9_comes_25 rfl (lv_at hl 3 rfl) ?_
      refine lv_iadd hx hb dX9_comes_26 ?_
      refine lv_iconst (v := nI 0) hx hb dX9_comes_27 (by decide) ?_
      obtain ⟨h15, hv, hM⟩ := e_bs hM
      refine e_iast E J hv dX9_comes_28 (fun H locs J => ?_)
      refine lv_iinc (v := (l3 + (nI 1))) (lv' := [(3, .int (l3 + (nI 1))), (0, .ref (e_ad G l0)), (1, .int l1), (2, .int l2)]) hx hb dX9_comes_29 hl (k := 3) rfl rfl (by decide) rfl (fun ls hl => ?_)
      refine lv_goto (tgt := 14) hx hb dX9_comes_32 (by decide) ?_
      exact K14 l0 l1 l2 (l3 + (nI 1)) h15 hM _ _ J _ (lv_sub hl [1, 2, 3, 0] rfl)
set_option maxRecDepth 100000 in
set_option maxHeartbeats 4000000 in
theorem mX9_comes_L14 {p : Program} {l : Launch} {e : Env} {s : State} {m : MethodId} {args : Array Value} {below : List Frame} {meth : Method} {c : Code} {G : e_G} {res : (Int32 × e_H)} (E : e_M G p s args m meth c cX9_comes 4 (some FieldType.int) RX9) (n : Nat) (l0 : Nat) (l1 : Int32) (l2 : Int32) (l3 : Int32) (h : e_H) (hM : fX9_comes_L14 n l0 l1 l2 l3 h = some res) {H : Heap} {locs : List Loc} (J : e_J G s h H locs) {ls : Array Slot} (hl : lv_has ls 4 [(0, .ref (e_ad G l0)), (1, .int l1), (2, .int l2), (3, .int l3)]) : W p l e (e_rm 0 0) s m args below meth c H locs 0 0 (MQ below (e_Q G res.2 (some (.int res.1))) args s 0 0 (e_A G)) (F0 m 14 ls []) := by
  induction n generalizing l0 l1 l2 l3 h H locs ls with
  | zero => exact e_no hM
  | succ n ih => exact mX9_comes_b14 (k14 := (fX9_comes_L14 n)) E   (fun l0 l1 l2 l3 h hM H locs J ls hl => ih l0 l1 l2 l3 h hM J hl) l0 l1 l2 l3 h hM J hl
set_option maxRecDepth 100000 in
set_option maxHeartbeats 4000000 in
theorem mX9_comes {l : Launch} {G : e_G} (l0 : Nat) (l1 : Int32) (h : e_H) (res : (Int32 × e_H)) (hM : fX9_comes l0 l1 h = some res) : Met l yX9_comes (e_W yX9_comes cX9_comes 4 (some FieldType.int)) (e_rm 0 0) (e_Pc G h [.ref (e_ad G l0), .int l1]) (e_Q G res.2 (some (.int res.1))) 0 0 (e_A G) := by
  refine Met.ofW (cc := cX9_comes) (maxL := 4) (ret := (some FieldType.int)) (by decide) rfl ?_
  intro p e s m args below meth c s₁ B hml hv
  obtain ⟨rfl, hS, hP⟩ := hv
  have E := e_enter (own := RX9) (ret := (some FieldType.int)) B hml rfl hS hP
  have J : e_J G s h s.heap [] := ⟨hP, va_S.rf⟩
  have hl := lv_entry ([.ref (e_ad G l0), .int l1]) (n := 4) (Nat.le_of_ble_eq_true rfl)
  rw [lg_entry_eq]
  generalize (lg_sl ([.ref (e_ad G l0), .int l1]) ++ List.replicate (4 - (lg_sl ([.ref (e_ad G l0), .int l1])).length) Slot.unset).toArray = ls at hl ⊢
  have hl : lv_has ls 4 [(0, .ref (e_ad G l0)), (1, .int l1)] := hl
  obtain ⟨hx, hb, hr, hml, hown, hts, hlocks, hES, hbs⟩ := id E
  unfold fX9_comes at hM
  obtain ⟨fs_, hk_, hM⟩ := e_bs hM
  refine lv_iconst (v := nI 3) hx hb dX9_comes_0 (by decide) ?_
  refine lv_bipush (v := nI 16) hx hb dX9_comes_1 (by decide) ?_
  refine lv_aload_n hx hb dX9_comes_3 rfl (lv_at hl 0 rfl) ?_
  obtain ⟨v1, hv, hM⟩ := e_bs hM
  refine e_getR (C := RX9) (T := TX9) (N := 40) E J hv rfl inX9 (by decide) q_5_10 dX9_comes_4 ?_
  rcases v1 with _ | a2
  · have hM := e_on0 hM
    refine W.eq (g2 := F0 m 7 ls [.null, .int (nI 16), .int (nI 3)]) rfl ?_
    refine lv_iconst (v := nI 1) hx hb dX9_comes_7 (by decide) ?_
    exact e_no hM
  · have hM := e_on1 hM
    refine W.eq (g2 := F0 m 7 ls [.ref (e_ad G a2), .int (nI 16), .int (nI 3)]) rfl ?_
    refine lv_iconst (v := nI 1) hx hb dX9_comes_7 (by decide) ?_
    obtain ⟨v3, hv, hM⟩ := e_bs hM
    refine e_iald E J hv dX9_comes_8 ?_
    refine lv_imul hx hb dX9_comes_9 ?_
    refine lv_iadd hx hb dX9_comes_10 ?_
    refine lv_istore_n (lv' := [(2, .int ((nI 3) + ((nI 16) * v3))), (0, .ref (e_ad G l0)), (1, .int l1)]) hx hb dX9_comes_11 rfl hl (by decide) rfl (fun ls hl => ?_)
    refine lv_iconst (v := nI 1) hx hb dX9_comes_12 (by decide) ?_
    refine lv_istore_n (lv' := [(3, .int (nI 1)), (2, .int ((nI 3) + ((nI 16) * v3))), (0, .ref (e_ad G l0)), (1, .int l1)]) hx hb dX9_comes_13 rfl hl (by decide) rfl (fun ls hl => ?_)
    exact mX9_comes_L14 E 200 l0 l1 ((nI 3) + ((nI 16) * v3)) (nI 1) h hM J (lv_sub hl [2, 3, 1, 0] rfl)
set_option maxRecDepth 100000 in
set_option maxHeartbeats 4000000 in
theorem mX9_curve {l : Launch} {G : e_G} (l0 : Nat) (l1 : Int32) (h : e_H) (res : (Int32 × e_H)) (hM : fX9_curve l0 l1 h = some res) : Met l yX9_curve (e_W yX9_curve cX9_curve 2 (some FieldType.int)) (e_rm 1 23) (e_Pc G h [.ref (e_ad G l0), .int l1]) (e_Q G res.2 (some (.int res.1))) 0 0 (e_A G) := by
  refine Met.ofW (cc := cX9_curve) (maxL := 2) (ret := (some FieldType.int)) (by decide) rfl ?_
  intro p e s m args below meth c s₁ B hml hv
  obtain ⟨rfl, hS, hP⟩ := hv
  have E := e_enter (own := RX9) (ret := (some FieldType.int)) B hml rfl hS hP
  have J : e_J G s h s.heap [] := ⟨hP, va_S.rf⟩
  have hl := lv_entry ([.ref (e_ad G l0), .int l1]) (n := 2) (Nat.le_of_ble_eq_true rfl)
  rw [lg_entry_eq]
  generalize (lg_sl ([.ref (e_ad G l0), .int l1]) ++ List.replicate (2 - (lg_sl ([.ref (e_ad G l0), .int l1])).length) Slot.unset).toArray = ls at hl ⊢
  have hl : lv_has ls 2 [(0, .ref (e_ad G l0)), (1, .int l1)] := hl
  obtain ⟨hx, hb, hr, hml, hown, hts, hlocks, hES, hbs⟩ := id E
  unfold fX9_curve at hM
  obtain ⟨fs_, hk_, hM⟩ := e_bs hM
  refine lv_iload_n hx hb dX9_curve_0 rfl (lv_at hl 1 rfl) ?_
  refine lv_iconst (v := nI 0) hx hb dX9_curve_1 (by decide) ?_
  refine lv_iconst (v := nI 5) hx hb dX9_curve_2 (by decide) ?_
  obtain ⟨v1, hv, hM⟩ := e_bs hM
  refine e_callS (As := [.int l1, .int (nI 0), .int (nI 5)]) (rest := []) (n := 3) E J (mX9_in (l := l) (G := G) l1 (nI 0) (nI 5) h _ hv) q_5_137 q_5_138 q_1_9 q_5_139 (by decide +kernel) rfl ⟨Nat.le_of_ble_eq_true rfl, Nat.le_of_ble_eq_true rfl⟩ (st0 := [.int (nI 5), .int (nI 0), .int l1]) (st1 := [.int (e_b v1)]) rfl rfl hl.1 (Nat.le_of_ble_eq_true rfl) dX9_curve_3 ⟨Nat.le_refl _, Nat.le_refl _⟩ (fun H locs J => ?_)
  refine lv_if_ne (tgt := 12) hx hb dX9_curve_6 (by decide) (fun hc => ?_) (fun hc => ?_)
  · have hM := e_in hc hM
    refine lv_aload_n hx hb dX9_curve_12 rfl (lv_at hl 0 rfl) ?_
    obtain ⟨v2, hv, hM⟩ := e_bs hM
    refine e_getR (C := RX9) (T := TX9) (N := 40) E J hv rfl inX9 (by decide) q_5_10 dX9_curve_13 ?_
    rcases v2 with _ | a3
    · have hM := e_on0 hM
      refine W.eq (g2 := F0 m 16 ls [.null]) rfl ?_
      refine lv_iconst (v := nI 1) hx hb dX9_curve_16 (by decide) ?_
      exact e_no hM
    · have hM := e_on1 hM
      refine W.eq (g2 := F0 m 16 ls [.ref (e_ad G a3)]) rfl ?_
      refine lv_iconst (v := nI 1) hx hb dX9_curve_16 (by decide) ?_
      obtain ⟨v4, hv, hM⟩ := e_bs hM
      refine e_iald E J hv dX9_curve_17 ?_
      refine lv_bipush (v := nI 6) hx hb dX9_curve_18 (by decide) ?_
      refine lv_icmp_ne (tgt := 28) hx hb dX9_curve_20 (by decide) (fun hc => ?_) (fun hc => ?_)
      · have hM := e_in hc hM
        refine lv_aload_n hx hb dX9_curve_28 rfl (lv_at hl 0 rfl) ?_
        refine lv_iload_n hx hb dX9_curve_29 rfl (lv_at hl 1 rfl) ?_
        obtain ⟨p5, hv, hM⟩ := e_bs hM
        obtain ⟨fs_, hk, -⟩ := e_bs hv
        refine e_callV (ci := 9) (As := [.int l1]) (rest := []) (n := 1) E J hk rfl (mX9_comes (l := l) (G := G) l0 l1 h _ hv) q_5_142 q_5_144 q_p_15 q_1_9 q_5_145 (by decide +kernel) rfl ⟨Nat.le_of_ble_eq_true rfl, Nat.le_of_ble_eq_true rfl⟩ (st0 := [.int l1, .ref (e_ad G l0)]) (st1 := [.int p5.1]) rfl rfl hl.1 (Nat.le_of_ble_eq_true rfl) dX9_curve_30 ⟨Nat.le_refl _, Nat.le_refl _⟩ (fun H locs J => ?_)
        obtain rfl := e_so hM
        exact e_iret E J dX9_curve_33
      · have hM := e_ip hc hM
        refine lv_ldc (v := -1000000003) hx hb hown (hts _ q_5_141) dX9_curve_23 ?_
        refine lv_goto (tgt := 33) hx hb dX9_curve_25 (by decide) ?_
        obtain rfl := e_so hM
        exact e_iret E J dX9_curve_33
  · have hM := e_ip hc hM
    refine lv_ldc (v := -1000000001) hx hb hown (hts _ q_5_140) dX9_curve_9 ?_
    obtain rfl := e_so hM
    exact e_iret E J dX9_curve_11
set_option maxRecDepth 100000 in
set_option maxHeartbeats 4000000 in
theorem mX9_isCurve {l : Launch} {G : e_G} (l0 : Nat) (l1 : Int32) (h : e_H) (res : Bool) (hM : fX9_isCurve l0 l1 h = some res) : Met l yX9_isCurve (e_W yX9_isCurve cX9_isCurve 2 (some FieldType.boolean)) (e_rm 1 22) (e_Pc G h [.ref (e_ad G l0), .int l1]) (e_Q G h (some (.int (e_b res)))) 0 0 (e_A G) := by
  refine Met.ofW (cc := cX9_isCurve) (maxL := 2) (ret := (some FieldType.boolean)) (by decide) rfl ?_
  intro p e s m args below meth c s₁ B hml hv
  obtain ⟨rfl, hS, hP⟩ := hv
  have E := e_enter (own := RX9) (ret := (some FieldType.boolean)) B hml rfl hS hP
  have J : e_J G s h s.heap [] := ⟨hP, va_S.rf⟩
  have hl := lv_entry ([.ref (e_ad G l0), .int l1]) (n := 2) (Nat.le_of_ble_eq_true rfl)
  rw [lg_entry_eq]
  generalize (lg_sl ([.ref (e_ad G l0), .int l1]) ++ List.replicate (2 - (lg_sl ([.ref (e_ad G l0), .int l1])).length) Slot.unset).toArray = ls at hl ⊢
  have hl : lv_has ls 2 [(0, .ref (e_ad G l0)), (1, .int l1)] := hl
  obtain ⟨hx, hb, hr, hml, hown, hts, hlocks, hES, hbs⟩ := id E
  unfold fX9_isCurve at hM
  obtain ⟨fs_, hk_, hM⟩ := e_bs hM
  refine lv_iload_n hx hb dX9_isCurve_0 rfl (lv_at hl 1 rfl) ?_
  refine lv_iconst (v := nI 0) hx hb dX9_isCurve_1 (by decide) ?_
  refine lv_aload_n hx hb dX9_isCurve_2 rfl (lv_at hl 0 rfl) ?_
  obtain ⟨v1, hv, hM⟩ := e_bs hM
  refine e_getR (C := RX9) (T := TX9) (N := 40) E J hv rfl inX9 (by decide) q_5_10 dX9_isCurve_3 ?_
  rcases v1 with _ | a2
  · have hM := e_on0 hM
    refine W.eq (g2 := F0 m 6 ls [.null, .int (nI 0), .int l1]) rfl ?_
    refine lv_iconst (v := nI 1) hx hb dX9_isCurve_6 (by decide) ?_
    exact e_no hM
  · have hM := e_on1 hM
    refine W.eq (g2 := F0 m 6 ls [.ref (e_ad G a2), .int (nI 0), .int l1]) rfl ?_
    refine lv_iconst (v := nI 1) hx hb dX9_isCurve_6 (by decide) ?_
    obtain ⟨v3, hv, hM⟩ := e_bs hM
    refine e_iald E J hv dX9_isCurve_7 ?_
    refine lv_iconst (v := nI 1) hx hb dX9_isCurve_8 (by decide) ?_
    refine lv_isub hx hb dX9_isCurve_9 ?_
    obtain ⟨v4, hv, hM⟩ := e_bs hM
    refine e_callS (As := [.int l1, .int (nI 0), .int (v3 - (nI 1))]) (rest := []) (n := 3) E J (mX9_in (l := l) (G := G) l1 (nI 0) (v3 - (nI 1)) h _ hv) q_5_137 q_5_138 q_1_9 q_5_139 (by decide +kernel) rfl ⟨Nat.le_of_ble_eq_true rfl, Nat.le_of_ble_eq_true rfl⟩ (st0 := [.int (v3 - (nI 1)), .int (nI 0), .int l1]) (st1 := [.int (e_b v4)]) rfl rfl hl.1 (Nat.le_of_ble_eq_true rfl) dX9_isCurve_10 ⟨Nat.le_refl _, Nat.le_refl _⟩ (fun H locs J => ?_)
    obtain rfl := e_so hM
    exact e_zret E J (v4) rfl dX9_isCurve_13
set_option maxRecDepth 100000 in
set_option maxHeartbeats 4000000 in
theorem mX9_isAt {l : Launch} {G : e_G} (l0 : Int32) (h : e_H) (res : Bool) (hM : fX9_isAt l0 = some res) : Met l yX9_isAt (e_W yX9_isAt cX9_isAt 1 (some FieldType.boolean)) (e_rm 0 0) (e_Pc G h [.int l0]) (e_Q G h (some (.int (e_b res)))) 0 0 (e_A G) := by
  refine Met.ofW (cc := cX9_isAt) (maxL := 1) (ret := (some FieldType.boolean)) (by decide) rfl ?_
  intro p e s m args below meth c s₁ B hml hv
  obtain ⟨rfl, hS, hP⟩ := hv
  have E := e_enter (own := RX9) (ret := (some FieldType.boolean)) B hml rfl hS hP
  have J : e_J G s h s.heap [] := ⟨hP, va_S.rf⟩
  have hl := lv_entry ([.int l0]) (n := 1) (Nat.le_of_ble_eq_true rfl)
  rw [lg_entry_eq]
  generalize (lg_sl ([.int l0]) ++ List.replicate (1 - (lg_sl ([.int l0])).length) Slot.unset).toArray = ls at hl ⊢
  have hl : lv_has ls 1 [(0, .int l0)] := hl
  obtain ⟨hx, hb, hr, hml, hown, hts, hlocks, hES, hbs⟩ := id E
  unfold fX9_isAt at hM
  refine lv_iload_n hx hb dX9_isAt_0 rfl (lv_at hl 0 rfl) ?_
  refine lv_if_lt (tgt := 21) hx hb dX9_isAt_1 (by decide) (fun hc => ?_) (fun hc => ?_)
  · have hM := e_ip hc hM
    refine lv_iconst (v := nI 0) hx hb dX9_isAt_21 (by decide) ?_
    obtain rfl := e_so hM
    exact e_zret E J (false) rfl dX9_isAt_22
  · have hM := e_in hc hM
    refine lv_iload_n hx hb dX9_isAt_4 rfl (lv_at hl 0 rfl) ?_
    refine lv_bipush (v := nI 10) hx hb dX9_isAt_5 (by decide) ?_
    refine lv_idiv hx hb dX9_isAt_7 (by decide) ?_
    refine lv_iload_n hx hb dX9_isAt_8 rfl (lv_at hl 0 rfl) ?_
    refine lv_bipush (v := nI 10) hx hb dX9_isAt_9 (by decide) ?_
    refine lv_irem hx hb dX9_isAt_11 (by decide) ?_
    refine lv_iadd hx hb dX9_isAt_12 ?_
    refine lv_iconst (v := nI 4) hx hb dX9_isAt_13 (by decide) ?_
    refine lv_icmp_gt (tgt := 21) hx hb dX9_isAt_14 (by decide) (fun hc => ?_) (fun hc => ?_)
    · have hM := e_ip hc hM
      refine lv_iconst (v := nI 0) hx hb dX9_isAt_21 (by decide) ?_
      obtain rfl := e_so hM
      exact e_zret E J (false) rfl dX9_isAt_22
    · have hM := e_in hc hM
      refine lv_iconst (v := nI 1) hx hb dX9_isAt_17 (by decide) ?_
      refine lv_goto (tgt := 22) hx hb dX9_isAt_18 (by decide) ?_
      obtain rfl := e_so hM
      exact e_zret E J (true) rfl dX9_isAt_22
set_option maxRecDepth 100000 in
set_option maxHeartbeats 4000000 in
theorem mX9_spot {l : Launch} {G : e_G} (l0 : Int32) (l1 : Int32) (l2 : Int32) (h : e_H) (res : Int32) (hM : fX9_spot l0 l1 l2 = some res) : Met l yX9_spot (e_W yX9_spot cX9_spot 3 (some FieldType.int)) (e_rm 0 0) (e_Pc G h [.int l0, .int l1, .int l2]) (e_Q G h (some (.int res))) 0 0 (e_A G) := by
  refine Met.ofW (cc := cX9_spot) (maxL := 3) (ret := (some FieldType.int)) (by decide) rfl ?_
  intro p e s m args below meth c s₁ B hml hv
  obtain ⟨rfl, hS, hP⟩ := hv
  have E := e_enter (own := RX9) (ret := (some FieldType.int)) B hml rfl hS hP
  have J : e_J G s h s.heap [] := ⟨hP, va_S.rf⟩
  have hl := lv_entry ([.int l0, .int l1, .int l2]) (n := 3) (Nat.le_of_ble_eq_true rfl)
  rw [lg_entry_eq]
  generalize (lg_sl ([.int l0, .int l1, .int l2]) ++ List.replicate (3 - (lg_sl ([.int l0, .int l1, .int l2])).length) Slot.unset).toArray = ls at hl ⊢
  have hl : lv_has ls 3 [(0, .int l0), (1, .int l1), (2, .int l2)] := hl
  obtain ⟨hx, hb, hr, hml, hown, hts, hlocks, hES, hbs⟩ := id E
  unfold fX9_spot at hM
  refine lv_iconst (v := nI 3) hx hb dX9_spot_0 (by decide) ?_
  refine lv_bipush (v := nI 16) hx hb dX9_spot_1 (by decide) ?_
  refine lv_iload_n hx hb dX9_spot_3 rfl (lv_at hl 0 rfl) ?_
  refine lv_imul hx hb dX9_spot_4 ?_
  refine lv_iadd hx hb dX9_spot_5 ?_
  refine lv_iconst (v := nI 1) hx hb dX9_spot_6 (by decide) ?_
  refine lv_iadd hx hb dX9_spot_7 ?_
  refine lv_iload_n hx hb dX9_spot_8 rfl (lv_at hl 1 rfl) ?_
  refine lv_if_ne (tgt := 16) hx hb dX9_spot_9 (by decide) (fun hc => ?_) (fun hc => ?_)
  · have hM := e_in hc hM
    refine lv_iload_n hx hb dX9_spot_16 rfl (lv_at hl 1 rfl) ?_
    refine lv_iconst (v := nI 1) hx hb dX9_spot_17 (by decide) ?_
    refine lv_icmp_ne (tgt := 25) hx hb dX9_spot_18 (by decide) (fun hc => ?_) (fun hc => ?_)
    · have hM := e_in hc hM
      refine lv_iload_n hx hb dX9_spot_25 rfl (lv_at hl 1 rfl) ?_
      refine lv_iconst (v := nI 2) hx hb dX9_spot_26 (by decide) ?_
      refine lv_icmp_ne (tgt := 35) hx hb dX9_spot_27 (by decide) (fun hc => ?_) (fun hc => ?_)
      · have hM := e_in hc hM
        refine lv_iload_n hx hb dX9_spot_35 rfl (lv_at hl 1 rfl) ?_
        refine lv_iconst (v := nI 3) hx hb dX9_spot_36 (by decide) ?_
        refine lv_icmp_ne (tgt := 45) hx hb dX9_spot_37 (by decide) (fun hc => ?_) (fun hc => ?_)
        · have hM := e_in hc hM
          refine lv_bipush (v := nI 14) hx hb dX9_spot_45 (by decide) ?_
          refine lv_iadd hx hb dX9_spot_47 ?_
          refine lv_iload_n hx hb dX9_spot_48 rfl (lv_at hl 2 rfl) ?_
          refine lv_iadd hx hb dX9_spot_49 ?_
          obtain rfl := e_so hM
          exact e_iret E J dX9_spot_50
        · have hM := e_ip hc hM
          refine lv_bipush (v := nI 12) hx hb dX9_spot_40 (by decide) ?_
          refine lv_goto (tgt := 47) hx hb dX9_spot_42 (by decide) ?_
          refine lv_iadd hx hb dX9_spot_47 ?_
          refine lv_iload_n hx hb dX9_spot_48 rfl (lv_at hl 2 rfl) ?_
          refine lv_iadd hx hb dX9_spot_49 ?_
          obtain rfl := e_so hM
          exact e_iret E J dX9_spot_50
      · have hM := e_ip hc hM
        refine lv_bipush (v := nI 9) hx hb dX9_spot_30 (by decide) ?_
        refine lv_goto (tgt := 47) hx hb dX9_spot_32 (by decide) ?_
        refine lv_iadd hx hb dX9_spot_47 ?_
        refine lv_iload_n hx hb dX9_spot_48 rfl (lv_at hl 2 rfl) ?_
        refine lv_iadd hx hb dX9_spot_49 ?_
        obtain rfl := e_so hM
        exact e_iret E J dX9_spot_50
    · have hM := e_ip hc hM
      refine lv_iconst (v := nI 5) hx hb dX9_spot_21 (by decide) ?_
      refine lv_goto (tgt := 47) hx hb dX9_spot_22 (by decide) ?_
      refine lv_iadd hx hb dX9_spot_47 ?_
      refine lv_iload_n hx hb dX9_spot_48 rfl (lv_at hl 2 rfl) ?_
      refine lv_iadd hx hb dX9_spot_49 ?_
      obtain rfl := e_so hM
      exact e_iret E J dX9_spot_50
  · have hM := e_ip hc hM
    refine lv_iconst (v := nI 0) hx hb dX9_spot_12 (by decide) ?_
    refine lv_goto (tgt := 47) hx hb dX9_spot_13 (by decide) ?_
    refine lv_iadd hx hb dX9_spot_47 ?_
    refine lv_iload_n hx hb dX9_spot_48 rfl (lv_at hl 2 rfl) ?_
    refine lv_iadd hx hb dX9_spot_49 ?_
    obtain rfl := e_so hM
    exact e_iret E J dX9_spot_50
set_option maxRecDepth 100000 in
set_option maxHeartbeats 4000000 in
theorem mX9_put {l : Launch} {G : e_G} (l0 : Nat) (l1 : Int32) (l2 : Int32) (l3 : Int32) (h : e_H) (res : (Int32 × e_H)) (hM : fX9_put l0 l1 l2 l3 h = some res) : Met l yX9_put (e_W yX9_put cX9_put 6 (some FieldType.int)) (e_rm 2 43) (e_Pc G h [.ref (e_ad G l0), .int l1, .int l2, .int l3]) (e_Q G res.2 (some (.int res.1))) 0 0 (e_A G) := by
  refine Met.ofW (cc := cX9_put) (maxL := 6) (ret := (some FieldType.int)) (by decide) rfl ?_
  intro p e s m args below meth c s₁ B hml hv
  obtain ⟨rfl, hS, hP⟩ := hv
  have E := e_enter (own := RX9) (ret := (some FieldType.int)) B hml rfl hS hP
  have J : e_J G s h s.heap [] := ⟨hP, va_S.rf⟩
  have hl := lv_entry ([.ref (e_ad G l0), .int l1, .int l2, .int l3]) (n := 6) (Nat.le_of_ble_eq_true rfl)
  rw [lg_entry_eq]
  generalize (lg_sl ([.ref (e_ad G l0), .int l1, .int l2, .int l3]) ++ List.replicate (6 - (lg_sl ([.ref (e_ad G l0), .int l1, .int l2, .int l3])).length) Slot.unset).toArray = ls at hl ⊢
  have hl : lv_has ls 6 [(0, .ref (e_ad G l0)), (1, .int l1), (2, .int l2), (3, .int l3)] := hl
  obtain ⟨hx, hb, hr, hml, hown, hts, hlocks, hES, hbs⟩ := id E
  unfold fX9_put at hM
  obtain ⟨fs_, hk_, hM⟩ := e_bs hM
  refine lv_aload_n hx hb dX9_put_0 rfl (lv_at hl 0 rfl) ?_
  refine lv_iload_n hx hb dX9_put_1 rfl (lv_at hl 1 rfl) ?_
  obtain ⟨v1, hv, hM⟩ := e_bs hM
  obtain ⟨fs_, hk, -⟩ := e_bs hv
  refine e_callV (ci := 9) (As := [.int l1]) (rest := []) (n := 1) E J hk rfl (mX9_isCurve (l := l) (G := G) l0 l1 h _ hv) q_5_150 q_5_152 q_p_16 q_1_9 q_5_153 (by decide +kernel) rfl ⟨Nat.le_of_ble_eq_true rfl, Nat.le_of_ble_eq_true rfl⟩ (st0 := [.int l1, .ref (e_ad G l0)]) (st1 := [.int (e_b v1)]) rfl rfl hl.1 (Nat.le_of_ble_eq_true rfl) dX9_put_2 ⟨Nat.le_refl _, Nat.le_refl _⟩ (fun H locs J => ?_)
  refine lv_if_eq (tgt := 26) hx hb dX9_put_5 (by decide) (fun hc => ?_) (fun hc => ?_)
  · have hM := e_ip hc hM
    refine lv_ldc (v := -1000000001) hx hb hown (hts _ q_5_140) dX9_put_26 ?_
    obtain rfl := e_so hM
    exact e_iret E J dX9_put_28
  · have hM := e_in hc hM
    refine lv_iload_n hx hb dX9_put_8 rfl (lv_at hl 2 rfl) ?_
    obtain ⟨v2, hv, hM⟩ := e_bs hM
    refine e_callS (As := [.int l2]) (rest := []) (n := 1) E J (mX9_isAt (l := l) (G := G) l2 h _ hv) q_5_154 q_5_155 q_1_9 q_5_156 (by decide +kernel) rfl ⟨Nat.le_of_ble_eq_true rfl, Nat.le_of_ble_eq_true rfl⟩ (st0 := [.int l2]) (st1 := [.int (e_b v2)]) rfl rfl hl.1 (Nat.le_of_ble_eq_true rfl) dX9_put_9 ⟨Nat.le_refl _, Nat.le_refl _⟩ (fun H locs J => ?_)
    refine lv_if_eq (tgt := 26) hx hb dX9_put_12 (by decide) (fun hc => ?_) (fun hc => ?_)
    · have hM := e_ip hc hM
      refine lv_ldc (v := -1000000001) hx hb hown (hts _ q_5_140) dX9_put_26 ?_
      obtain rfl := e_so hM
      exact e_iret E J dX9_put_28
    · have hM := e_in hc hM
      refine lv_iload_n hx hb dX9_put_15 rfl (lv_at hl 3 rfl) ?_
      refine lv_bipush (v := -99) hx hb dX9_put_16 (by decide) ?_
      refine lv_bipush (v := nI 99) hx hb dX9_put_18 (by decide) ?_
      obtain ⟨v3, hv, hM⟩ := e_bs hM
      refine e_callS (As := [.int l3, .int (-99 : Int32), .int (nI 99)]) (rest := []) (n := 3) E J (mX9_in (l := l) (G := G) l3 (-99 : Int32) (nI 99) h _ hv) q_5_137 q_5_138 q_1_9 q_5_139 (by decide +kernel) rfl ⟨Nat.le_of_ble_eq_true rfl, Nat.le_of_ble_eq_true rfl⟩ (st0 := [.int (nI 99), .int (-99 : Int32), .int l3]) (st1 := [.int (e_b v3)]) rfl rfl hl.1 (Nat.le_of_ble_eq_true rfl) dX9_put_20 ⟨Nat.le_refl _, Nat.le_refl _⟩ (fun H locs J => ?_)
      refine lv_if_ne (tgt := 29) hx hb dX9_put_23 (by decide) (fun hc => ?_) (fun hc => ?_)
      · have hM := e_in hc hM
        refine lv_iload_n hx hb dX9_put_29 rfl (lv_at hl 1 rfl) ?_
        refine lv_iload_n hx hb dX9_put_30 rfl (lv_at hl 2 rfl) ?_
        refine lv_bipush (v := nI 10) hx hb dX9_put_31 (by decide) ?_
        refine lv_idiv hx hb dX9_put_33 (by decide) ?_
        refine lv_iload_n hx hb dX9_put_34 rfl (lv_at hl 2 rfl) ?_
        refine lv_bipush (v := nI 10) hx hb dX9_put_35 (by decide) ?_
        refine lv_irem hx hb dX9_put_37 (by decide) ?_
        obtain ⟨v4, hv, hM⟩ := e_bs hM
        refine e_callS (As := [.int l1, .int (l2 / (nI 10)), .int (l2 - l2 / (nI 10) * (nI 10))]) (rest := []) (n := 3) E J (mX9_spot (l := l) (G := G) l1 (l2 / (nI 10)) (l2 - l2 / (nI 10) * (nI 10)) h _ hv) q_5_157 q_5_158 q_1_9 q_5_159 (by decide +kernel) rfl ⟨Nat.le_of_ble_eq_true rfl, Nat.le_of_ble_eq_true rfl⟩ (st0 := [.int (l2 - l2 / (nI 10) * (nI 10)), .int (l2 / (nI 10)), .int l1]) (st1 := [.int v4]) rfl rfl hl.1 (Nat.le_of_ble_eq_true rfl) dX9_put_38 ⟨Nat.le_refl _, Nat.le_refl _⟩ (fun H locs J => ?_)
        refine lv_istore (lv' := [(4, .int v4), (0, .ref (e_ad G l0)), (1, .int l1), (2, .int l2), (3, .int l3)]) hx hb dX9_put_41 hl (by decide) rfl (fun ls hl => ?_)
        refine lv_aload_n hx hb dX9_put_43 rfl (lv_at hl 1 rfl) ?_
        obtain ⟨v5, hv, hM⟩ := e_bs hM
        refine e_getR (C := RX9) (T := TX9) (N := 40) E J hv rfl inX9 (by decide) q_5_10 dX9_put_44 ?_
        rcases v5 with _ | a6
        · have hM := e_on0 hM
          refine W.eq (g2 := F0 m 47 ls [.null]) rfl ?_
          refine lv_iload hx hb dX9_put_47 (lv_at hl 0 rfl) ?_
          exact e_no hM
        · have hM := e_on1 hM
          refine W.eq (g2 := F0 m 47 ls [.ref (e_ad G a6)]) rfl ?_
          refine lv_iload hx hb dX9_put_47 (lv_at hl 0 rfl) ?_
          obtain ⟨v7, hv, hM⟩ := e_bs hM
          refine e_iald E J hv dX9_put_49 ?_
          refine lv_istore (lv' := [(5, .int v7), (4, .int v4), (0, .ref (e_ad G l0)), (1, .int l1), (2, .int l2), (3, .int l3)]) hx hb dX9_put_50 hl (by decide) rfl (fun ls hl => ?_)
          refine lv_aload_n hx hb dX9_put_52 rfl (lv_at hl 2 rfl) ?_
          obtain ⟨v8, hv, hM⟩ := e_bs hM
          refine e_getR (C := RX9) (T := TX9) (N := 40) E J hv rfl inX9 (by decide) q_5_10 dX9_put_53 ?_
          rcases v8 with _ | a9
          · have hM := e_on0 hM
            refine W.eq (g2 := F0 m 56 ls [.null]) rfl ?_
            refine lv_iload hx hb dX9_put_56 (lv_at hl 1 rfl) ?_
            refine lv_iload_n hx hb dX9_put_58 rfl (lv_at hl 5 rfl) ?_
            exact e_no hM
          · have hM := e_on1 hM
            refine W.eq (g2 := F0 m 56 ls [.ref (e_ad G a9)]) rfl ?_
            refine lv_iload hx hb dX9_put_56 (lv_at hl 1 rfl) ?_
            refine lv_iload_n hx hb dX9_put_58 rfl (lv_at hl 5 rfl) ?_
            obtain ⟨h11, hv, hM⟩ := e_bs hM
            refine e_iast E J hv dX9_put_59 (fun H locs J => ?_)
            refine lv_iload hx hb dX9_put_60 (lv_at hl 0 rfl) ?_
            obtain rfl := e_so hM
            exact e_iret E J dX9_put_62
      · have hM := e_ip hc hM
        refine lv_ldc (v := -1000000001) hx hb hown (hts _ q_5_140) dX9_put_26 ?_
        obtain rfl := e_so hM
        exact e_iret E J dX9_put_28
set_option maxRecDepth 100000 in
set_option maxHeartbeats 4000000 in
theorem mX9_kindOf {l : Launch} {G : e_G} (l0 : Nat) (l1 : Int32) (h : e_H) (res : Int32) (hM : fX9_kindOf l0 l1 h = some res) : Met l yX9_kindOf (e_W yX9_kindOf cX9_kindOf 2 (some FieldType.int)) (e_rm 0 0) (e_Pc G h [.ref (e_ad G l0), .int l1]) (e_Q G h (some (.int res))) 0 0 (e_A G) := by
  refine Met.ofW (cc := cX9_kindOf) (maxL := 2) (ret := (some FieldType.int)) (by decide) rfl ?_
  intro p e s m args below meth c s₁ B hml hv
  obtain ⟨rfl, hS, hP⟩ := hv
  have E := e_enter (own := RX9) (ret := (some FieldType.int)) B hml rfl hS hP
  have J : e_J G s h s.heap [] := ⟨hP, va_S.rf⟩
  have hl := lv_entry ([.ref (e_ad G l0), .int l1]) (n := 2) (Nat.le_of_ble_eq_true rfl)
  rw [lg_entry_eq]
  generalize (lg_sl ([.ref (e_ad G l0), .int l1]) ++ List.replicate (2 - (lg_sl ([.ref (e_ad G l0), .int l1])).length) Slot.unset).toArray = ls at hl ⊢
  have hl : lv_has ls 2 [(0, .ref (e_ad G l0)), (1, .int l1)] := hl
  obtain ⟨hx, hb, hr, hml, hown, hts, hlocks, hES, hbs⟩ := id E
  unfold fX9_kindOf at hM
  obtain ⟨fs_, hk_, hM⟩ := e_bs hM
  refine lv_aload_n hx hb dX9_kindOf_0 rfl (lv_at hl 0 rfl) ?_
  obtain ⟨v1, hv, hM⟩ := e_bs hM
  refine e_getR (C := RX9) (T := TX9) (N := 40) E J hv rfl inX9 (by decide) q_5_10 dX9_kindOf_1 ?_
  rcases v1 with _ | a2
  · have hM := e_on0 hM
    refine W.eq (g2 := F0 m 4 ls [.null]) rfl ?_
    refine lv_iconst (v := nI 3) hx hb dX9_kindOf_4 (by decide) ?_
    refine lv_bipush (v := nI 16) hx hb dX9_kindOf_5 (by decide) ?_
    refine lv_iload_n hx hb dX9_kindOf_7 rfl (lv_at hl 1 rfl) ?_
    refine lv_imul hx hb dX9_kindOf_8 ?_
    refine lv_iadd hx hb dX9_kindOf_9 ?_
    exact e_no hM
  · have hM := e_on1 hM
    refine W.eq (g2 := F0 m 4 ls [.ref (e_ad G a2)]) rfl ?_
    refine lv_iconst (v := nI 3) hx hb dX9_kindOf_4 (by decide) ?_
    refine lv_bipush (v := nI 16) hx hb dX9_kindOf_5 (by decide) ?_
    refine lv_iload_n hx hb dX9_kindOf_7 rfl (lv_at hl 1 rfl) ?_
    refine lv_imul hx hb dX9_kindOf_8 ?_
    refine lv_iadd hx hb dX9_kindOf_9 ?_
    obtain ⟨v3, hv, hM⟩ := e_bs hM
    refine e_iald E J hv dX9_kindOf_10 ?_
    obtain rfl := e_so hM
    exact e_iret E J dX9_kindOf_11
set_option maxRecDepth 100000 in
set_option maxHeartbeats 4000000 in
theorem mX9_counts_b9 {p : Program} {l : Launch} {e : Env} {s : State} {m : MethodId} {args : Array Value} {below : List Frame} {meth : Method} {c : Code} {G : e_G} {res : Int32} {k9 : Nat → Int32 → Int32 → Option Int32} (E : e_M G p s args m meth c cX9_counts 3 (some FieldType.int) RX9) (h : e_H) (K9 : ∀ (l0 : Nat) (l1 : Int32) (l2 : Int32), k9 l0 l1 l2 = some res → ∀ (H : Heap) (locs : List Loc), e_J G s h H locs → ∀ (ls : Array Slot), lv_has ls 3 [(0, .ref (e_ad G l0)), (1, .int l1), (2, .int l2)] → W p l e (e_rm 0 0) s m args below meth c H locs 0 0 (MQ below (e_Q G h (some (.int res))) args s 0 0 (e_A G)) (F0 m 9 ls [])) (l0 : Nat) (l1 : Int32) (l2 : Int32) (hM : fX9_counts_b9 h k9 l0 l1 l2 = some res) {H : Heap} {locs : List Loc} (J : e_J G s h H locs) {ls : Array Slot} (hl : lv_has ls 3 [(0, .ref (e_ad G l0)), (1, .int l1), (2, .int l2)]) : W p l e (e_rm 0 0) s m args below meth c H locs 0 0 (MQ below (e_Q G h (some (.int res))) args s 0 0 (e_A G)) (F0 m 9 ls []) := by
  obtain ⟨hx, hb, hr, hml, hown, hts, hlocks, hES, hbs⟩ := id E
  unfold fX9_counts_b9 at hM
  refine lv_iload_n hx hb dX9_counts_9 rfl (lv_at hl 2 rfl) ?_
  refine lv_if_lt (tgt := 40) hx hb dX9_counts_10 (by decide) (fun hc => ?_) (fun hc => ?_)
  · have hM := e_ip hc hM
    refine lv_iconst (v := -1) hx hb dX9_counts_40 (by decide) ?_
    obtain rfl := e_so hM
    exact e_iret E J dX9_counts_41
  · have hM := e_in hc hM
    refine lv_aload_n hx hb dX9_counts_13 rfl (lv_at hl 0 rfl) ?_
    obtain ⟨v1, hv, hM⟩ := e_bs hM
    refine e_getR (C := RX9) (T := TX9) (N := 40) E J hv rfl inX9 (by decide) q_5_10 dX9_counts_14 ?_
    rcases v1 with _ | a2
    · have hM := e_on0 hM
      refine W.eq (g2 := F0 m 17 ls [.null]) rfl ?_
      refine lv_bipush (v := nI 99) hx hb dX9_counts_17 (by decide) ?_
      refine lv_iconst (v := nI 2) hx hb dX9_counts_19 (by decide) ?_
      refine lv_iload_n hx hb dX9_counts_20 rfl (lv_at hl 2 rfl) ?_
      refine lv_imul hx hb dX9_counts_21 ?_
      refine lv_iadd hx hb dX9_counts_22 ?_
      exact e_no hM
    · have hM := e_on1 hM
      refine W.eq (g2 := F0 m 17 ls [.ref (e_ad G a2)]) rfl ?_
      refine lv_bipush (v := nI 99) hx hb dX9_counts_17 (by decide) ?_
      refine lv_iconst (v := nI 2) hx hb dX9_counts_19 (by decide) ?_
      refine lv_iload_n hx hb dX9_counts_20 rfl (lv_at hl 2 rfl) ?_
      refine lv_imul hx hb dX9_counts_21 ?_
      refine lv_iadd hx hb dX9_counts_22 ?_
      obtain ⟨v3, hv, hM⟩ := e_bs hM
      refine e_iald E J hv dX9_counts_23 ?_
      refine lv_sipush (v := nI 1000) hx hb dX9_counts_24 (by decide) ?_
      refine lv_idiv hx hb dX9_counts_27 (by decide) ?_
      refine lv_iload_n hx hb dX9_counts_28 rfl (lv_at hl 1 rfl) ?_
      refine lv_icmp_ne (tgt := 34) hx hb dX9_counts_29 (by decide) (fun hc => ?_) (fun hc => ?_)
      · have hM := e_in hc hM
        refine lv_iinc (v := (l2 + (-1 : Int32))) (lv' := [(2, .int (l2 + (-1 : Int32))), (0, .ref (e_ad G l0)), (1, .int l1)]) hx hb dX9_counts_34 hl (k := 2) rfl rfl (by decide) rfl (fun ls hl => ?_)
        refine lv_goto (tgt := 9) hx hb dX9_counts_37 (by decide) ?_
        exact K9 l0 l1 (l2 + (-1 : Int32)) hM _ _ J _ (lv_sub hl [1, 2, 0] rfl)
      · have hM := e_ip hc hM
        refine lv_iload_n hx hb dX9_counts_32 rfl (lv_at hl 2 rfl) ?_
        obtain rfl := e_so hM
        exact e_iret E J dX9_counts_33
set_option maxRecDepth 100000 in
set_option maxHeartbeats 4000000 in
theorem mX9_counts_L9 {p : Program} {l : Launch} {e : Env} {s : State} {m : MethodId} {args : Array Value} {below : List Frame} {meth : Method} {c : Code} {G : e_G} {res : Int32} (E : e_M G p s args m meth c cX9_counts 3 (some FieldType.int) RX9) (h : e_H) (n : Nat) (l0 : Nat) (l1 : Int32) (l2 : Int32) (hM : fX9_counts_L9 h n l0 l1 l2 = some res) {H : Heap} {locs : List Loc} (J : e_J G s h H locs) {ls : Array Slot} (hl : lv_has ls 3 [(0, .ref (e_ad G l0)), (1, .int l1), (2, .int l2)]) : W p l e (e_rm 0 0) s m args below meth c H locs 0 0 (MQ below (e_Q G h (some (.int res))) args s 0 0 (e_A G)) (F0 m 9 ls []) := by
  induction n generalizing l0 l1 l2 H locs ls with
  | zero => exact e_no hM
  | succ n ih => exact mX9_counts_b9 (k9 := (fX9_counts_L9 h n)) E h  (fun l0 l1 l2 hM H locs J ls hl => ih l0 l1 l2 hM J hl) l0 l1 l2 hM J hl
set_option maxRecDepth 100000 in
set_option maxHeartbeats 4000000 in
theorem mX9_counts {l : Launch} {G : e_G} (l0 : Nat) (l1 : Int32) (h : e_H) (res : Int32) (hM : fX9_counts l0 l1 h = some res) : Met l yX9_counts (e_W yX9_counts cX9_counts 3 (some FieldType.int)) (e_rm 0 0) (e_Pc G h [.ref (e_ad G l0), .int l1]) (e_Q G h (some (.int res))) 0 0 (e_A G) := by
  refine Met.ofW (cc := cX9_counts) (maxL := 3) (ret := (some FieldType.int)) (by decide) rfl ?_
  intro p e s m args below meth c s₁ B hml hv
  obtain ⟨rfl, hS, hP⟩ := hv
  have E := e_enter (own := RX9) (ret := (some FieldType.int)) B hml rfl hS hP
  have J : e_J G s h s.heap [] := ⟨hP, va_S.rf⟩
  have hl := lv_entry ([.ref (e_ad G l0), .int l1]) (n := 3) (Nat.le_of_ble_eq_true rfl)
  rw [lg_entry_eq]
  generalize (lg_sl ([.ref (e_ad G l0), .int l1]) ++ List.replicate (3 - (lg_sl ([.ref (e_ad G l0), .int l1])).length) Slot.unset).toArray = ls at hl ⊢
  have hl : lv_has ls 3 [(0, .ref (e_ad G l0)), (1, .int l1)] := hl
  obtain ⟨hx, hb, hr, hml, hown, hts, hlocks, hES, hbs⟩ := id E
  unfold fX9_counts at hM
  obtain ⟨fs_, hk_, hM⟩ := e_bs hM
  refine lv_aload_n hx hb dX9_counts_0 rfl (lv_at hl 0 rfl) ?_
  obtain ⟨v1, hv, hM⟩ := e_bs hM
  refine e_getR (C := RX9) (T := TX9) (N := 40) E J hv rfl inX9 (by decide) q_5_10 dX9_counts_1 ?_
  rcases v1 with _ | a2
  · have hM := e_on0 hM
    refine W.eq (g2 := F0 m 4 ls [.null]) rfl ?_
    refine lv_iconst (v := nI 2) hx hb dX9_counts_4 (by decide) ?_
    exact e_no hM
  · have hM := e_on1 hM
    refine W.eq (g2 := F0 m 4 ls [.ref (e_ad G a2)]) rfl ?_
    refine lv_iconst (v := nI 2) hx hb dX9_counts_4 (by decide) ?_
    obtain ⟨v3, hv, hM⟩ := e_bs hM
    refine e_iald E J hv dX9_counts_5 ?_
    refine lv_iconst (v := nI 1) hx hb dX9_counts_6 (by decide) ?_
    refine lv_isub hx hb dX9_counts_7 ?_
    refine lv_istore_n (lv' := [(2, .int (v3 - (nI 1))), (0, .ref (e_ad G l0)), (1, .int l1)]) hx hb dX9_counts_8 rfl hl (by decide) rfl (fun ls hl => ?_)
    exact mX9_counts_L9 E h 200 l0 l1 (v3 - (nI 1)) hM J (lv_sub hl [1, 2, 0] rfl)
set_option maxRecDepth 100000 in
set_option maxHeartbeats 4000000 in
theorem mX9_two {l : Launch} {G : e_G} (l0 : Int32) (l1 : Int32) (l2 : Int32) (h : e_H) (res : Int32) (hM : fX9_two l0 l1 l2 = some res) : Met l yX9_two (e_W yX9_two cX9_two 3 (some FieldType.int)) (e_rm 0 0) (e_Pc G h [.int l0, .int l1, .int l2]) (e_Q G h (some (.int res))) 0 0 (e_A G) := by
  refine Met.ofW (cc := cX9_two) (maxL := 3) (ret := (some FieldType.int)) (by decide) rfl ?_
  intro p e s m args below meth c s₁ B hml hv
  obtain ⟨rfl, hS, hP⟩ := hv
  have E := e_enter (own := RX9) (ret := (some FieldType.int)) B hml rfl hS hP
  have J : e_J G s h s.heap [] := ⟨hP, va_S.rf⟩
  have hl := lv_entry ([.int l0, .int l1, .int l2]) (n := 3) (Nat.le_of_ble_eq_true rfl)
  rw [lg_entry_eq]
  generalize (lg_sl ([.int l0, .int l1, .int l2]) ++ List.replicate (3 - (lg_sl ([.int l0, .int l1, .int l2])).length) Slot.unset).toArray = ls at hl ⊢
  have hl : lv_has ls 3 [(0, .int l0), (1, .int l1), (2, .int l2)] := hl
  obtain ⟨hx, hb, hr, hml, hown, hts, hlocks, hES, hbs⟩ := id E
  unfold fX9_two at hM
  refine lv_iload_n hx hb dX9_two_0 rfl (lv_at hl 0 rfl) ?_
  by_cases hc0 : l0 = -8
  · have hM := e_ip hc0 hM
    refine e_tin (y := -8) (off := 116) (tgt := 117) hx hb dX9_two_1 hc0 (by decide) (by decide) (by decide +kernel) (by decide) ?_
    refine lv_iload_n hx hb dX9_two_117 rfl (lv_at hl 1 rfl) ?_
    refine lv_iload_n hx hb dX9_two_118 rfl (lv_at hl 2 rfl) ?_
    refine lv_imul hx hb dX9_two_119 ?_
    obtain rfl := e_so hM
    exact e_iret E J dX9_two_120
  have hM := e_in hc0 hM
  by_cases hc1 : l0 = -7
  · have hM := e_ip hc1 hM
    refine e_tin (y := -7) (off := 112) (tgt := 113) hx hb dX9_two_1 hc1 (by decide) (by decide) (by decide +kernel) (by decide) ?_
    refine lv_iload_n hx hb dX9_two_113 rfl (lv_at hl 1 rfl) ?_
    refine lv_iload_n hx hb dX9_two_114 rfl (lv_at hl 2 rfl) ?_
    refine lv_isub hx hb dX9_two_115 ?_
    obtain rfl := e_so hM
    exact e_iret E J dX9_two_116
  have hM := e_in hc1 hM
  by_cases hc2 : l0 = -6
  · have hM := e_ip hc2 hM
    refine e_tin (y := -6) (off := 108) (tgt := 109) hx hb dX9_two_1 hc2 (by decide) (by decide) (by decide +kernel) (by decide) ?_
    refine lv_iload_n hx hb dX9_two_109 rfl (lv_at hl 1 rfl) ?_
    refine lv_iload_n hx hb dX9_two_110 rfl (lv_at hl 2 rfl) ?_
    refine lv_iadd hx hb dX9_two_111 ?_
    obtain rfl := e_so hM
    exact e_iret E J dX9_two_112
  have hM := e_in hc2 hM
  by_cases hc3 : l0 = -5
  · have hM := e_ip hc3 hM
    refine e_tin (y := -5) (off := 97) (tgt := 98) hx hb dX9_two_1 hc3 (by decide) (by decide) (by decide +kernel) (by decide) ?_
    refine lv_iload_n hx hb dX9_two_98 rfl (lv_at hl 1 rfl) ?_
    refine lv_iload_n hx hb dX9_two_99 rfl (lv_at hl 2 rfl) ?_
    refine lv_icmp_le (tgt := 107) hx hb dX9_two_100 (by decide) (fun hc => ?_) (fun hc => ?_)
    · have hM := e_ip hc hM
      refine lv_iconst (v := nI 0) hx hb dX9_two_107 (by decide) ?_
      obtain rfl := e_so hM
      exact e_iret E J dX9_two_108
    · have hM := e_in hc hM
      refine lv_iconst (v := nI 1) hx hb dX9_two_103 (by decide) ?_
      refine lv_goto (tgt := 108) hx hb dX9_two_104 (by decide) ?_
      obtain rfl := e_so hM
      exact e_iret E J dX9_two_108
  have hM := e_in hc3 hM
  by_cases hc4 : l0 = -4
  · have hM := e_ip hc4 hM
    refine e_tin (y := -4) (off := 86) (tgt := 87) hx hb dX9_two_1 hc4 (by decide) (by decide) (by decide +kernel) (by decide) ?_
    refine lv_iload_n hx hb dX9_two_87 rfl (lv_at hl 1 rfl) ?_
    refine lv_iload_n hx hb dX9_two_88 rfl (lv_at hl 2 rfl) ?_
    refine lv_icmp_ne (tgt := 96) hx hb dX9_two_89 (by decide) (fun hc => ?_) (fun hc => ?_)
    · have hM := e_in hc hM
      refine lv_iconst (v := nI 0) hx hb dX9_two_96 (by decide) ?_
      obtain rfl := e_so hM
      exact e_iret E J dX9_two_97
    · have hM := e_ip hc hM
      refine lv_iconst (v := nI 1) hx hb dX9_two_92 (by decide) ?_
      refine lv_goto (tgt := 97) hx hb dX9_two_93 (by decide) ?_
      obtain rfl := e_so hM
      exact e_iret E J dX9_two_97
  have hM := e_in hc4 hM
  by_cases hc5 : l0 = -3
  · have hM := e_ip hc5 hM
    refine e_tin (y := -3) (off := 75) (tgt := 76) hx hb dX9_two_1 hc5 (by decide) (by decide) (by decide +kernel) (by decide) ?_
    refine lv_iload_n hx hb dX9_two_76 rfl (lv_at hl 1 rfl) ?_
    refine lv_iload_n hx hb dX9_two_77 rfl (lv_at hl 2 rfl) ?_
    refine lv_icmp_ge (tgt := 85) hx hb dX9_two_78 (by decide) (fun hc => ?_) (fun hc => ?_)
    · have hM := e_ip hc hM
      refine lv_iconst (v := nI 0) hx hb dX9_two_85 (by decide) ?_
      obtain rfl := e_so hM
      exact e_iret E J dX9_two_86
    · have hM := e_in hc hM
      refine lv_iconst (v := nI 1) hx hb dX9_two_81 (by decide) ?_
      refine lv_goto (tgt := 86) hx hb dX9_two_82 (by decide) ?_
      obtain rfl := e_so hM
      exact e_iret E J dX9_two_86
  have hM := e_in hc5 hM
  by_cases hc6 : l0 = -2
  · have hM := e_ip hc6 hM
    refine e_tin (y := -2) (off := 61) (tgt := 62) hx hb dX9_two_1 hc6 (by decide) (by decide) (by decide +kernel) (by decide) ?_
    refine lv_iload_n hx hb dX9_two_62 rfl (lv_at hl 1 rfl) ?_
    refine lv_if_eq (tgt := 74) hx hb dX9_two_63 (by decide) (fun hc => ?_) (fun hc => ?_)
    · have hM := e_ip hc hM
      refine lv_iconst (v := nI 0) hx hb dX9_two_74 (by decide) ?_
      obtain rfl := e_so hM
      exact e_iret E J dX9_two_75
    · have hM := e_in hc hM
      refine lv_iload_n hx hb dX9_two_66 rfl (lv_at hl 2 rfl) ?_
      refine lv_if_eq (tgt := 74) hx hb dX9_two_67 (by decide) (fun hc => ?_) (fun hc => ?_)
      · have hM := e_ip hc hM
        refine lv_iconst (v := nI 0) hx hb dX9_two_74 (by decide) ?_
        obtain rfl := e_so hM
        exact e_iret E J dX9_two_75
      · have hM := e_in hc hM
        refine lv_iconst (v := nI 1) hx hb dX9_two_70 (by decide) ?_
        refine lv_goto (tgt := 75) hx hb dX9_two_71 (by decide) ?_
        obtain rfl := e_so hM
        exact e_iret E J dX9_two_75
  have hM := e_in hc6 hM
  by_cases hc7 : l0 = -1
  · have hM := e_ip hc7 hM
    refine e_tin (y := -1) (off := 47) (tgt := 48) hx hb dX9_two_1 hc7 (by decide) (by decide) (by decide +kernel) (by decide) ?_
    refine lv_iload_n hx hb dX9_two_48 rfl (lv_at hl 1 rfl) ?_
    refine lv_if_ne (tgt := 56) hx hb dX9_two_49 (by decide) (fun hc => ?_) (fun hc => ?_)
    · have hM := e_in hc hM
      refine lv_iconst (v := nI 1) hx hb dX9_two_56 (by decide) ?_
      refine lv_goto (tgt := 61) hx hb dX9_two_57 (by decide) ?_
      obtain rfl := e_so hM
      exact e_iret E J dX9_two_61
    · have hM := e_ip hc hM
      refine lv_iload_n hx hb dX9_two_52 rfl (lv_at hl 2 rfl) ?_
      refine lv_if_eq (tgt := 60) hx hb dX9_two_53 (by decide) (fun hc => ?_) (fun hc => ?_)
      · have hM := e_ip hc hM
        refine lv_iconst (v := nI 0) hx hb dX9_two_60 (by decide) ?_
        obtain rfl := e_so hM
        exact e_iret E J dX9_two_61
      · have hM := e_in hc hM
        refine lv_iconst (v := nI 1) hx hb dX9_two_56 (by decide) ?_
        refine lv_goto (tgt := 61) hx hb dX9_two_57 (by decide) ?_
        obtain rfl := e_so hM
        exact e_iret E J dX9_two_61
  have hM := e_in hc7 hM
  refine lv_tableOut (tgt := 121) hx hb dX9_two_1 (Classical.byContradiction fun hn => by
      have h9 : l0.toInt = -8 ∨ l0.toInt = -7 ∨ l0.toInt = -6 ∨ l0.toInt = -5 ∨ l0.toInt = -4 ∨ l0.toInt = -3 ∨ l0.toInt = -2 ∨ l0.toInt = -1 := by omega
      rcases h9 with h9 | h9 | h9 | h9 | h9 | h9 | h9 | h9
      · exact hc0 (e_i32 (h9.trans (by decide)))
      · exact hc1 (e_i32 (h9.trans (by decide)))
      · exact hc2 (e_i32 (h9.trans (by decide)))
      · exact hc3 (e_i32 (h9.trans (by decide)))
      · exact hc4 (e_i32 (h9.trans (by decide)))
      · exact hc5 (e_i32 (h9.trans (by decide)))
      · exact hc6 (e_i32 (h9.trans (by decide)))
      · exact hc7 (e_i32 (h9.trans (by decide)))) (by decide) ?_
  refine lv_iload_n hx hb dX9_two_121 rfl (lv_at hl 2 rfl) ?_
  refine lv_if_ne (tgt := 129) hx hb dX9_two_122 (by decide) (fun hc => ?_) (fun hc => ?_)
  · have hM := e_in hc hM
    refine lv_iload_n hx hb dX9_two_129 rfl (lv_at hl 1 rfl) ?_
    refine lv_iload_n hx hb dX9_two_130 rfl (lv_at hl 2 rfl) ?_
    obtain ⟨hz, hM⟩ := e_if0 hM
    refine lv_idiv hx hb dX9_two_131 hz ?_
    obtain rfl := e_so hM
    exact e_iret E J dX9_two_132
  · have hM := e_ip hc hM
    refine lv_iconst (v := nI 0) hx hb dX9_two_125 (by decide) ?_
    refine lv_goto (tgt := 132) hx hb dX9_two_126 (by decide) ?_
    obtain rfl := e_so hM
    exact e_iret E J dX9_two_132
set_option maxRecDepth 100000 in
set_option maxHeartbeats 4000000 in
theorem mX9_worksOut_b115 {p : Program} {l : Launch} {e : Env} {s : State} {m : MethodId} {args : Array Value} {below : List Frame} {meth : Method} {c : Code} {G : e_G} {res : (Int32 × e_H)} {k21 : Nat → Int32 → Int32 → Int32 → Int32 → e_H → Option (Int32 × e_H)} (E : e_M G p s args m meth c cX9_worksOut 6 (some FieldType.int) RX9) (K21 : ∀ (l0 : Nat) (l1 : Int32) (l2 : Int32) (l3 : Int32) (l4 : Int32) (h : e_H), k21 l0 l1 l2 l3 l4 h = some res → ∀ (H : Heap) (locs : List Loc), e_J G s h H locs → ∀ (ls : Array Slot), lv_has ls 6 [(0, .ref (e_ad G l0)), (1, .int l1), (2, .int l2), (3, .int l3), (4, .int l4)] → W p l e (e_rm 1 22) s m args below meth c H locs 0 0 (MQ below (e_Q G res.2 (some (.int res.1))) args s 0 0 (e_A G)) (F0 m 21 ls [])) (l0 : Nat) (l1 : Int32) (l2 : Int32) (l3 : Int32) (l4 : Int32) (t0 : Int32) (t1 : Int32) (h : e_H) (hM : fX9_worksOut_b115 k21 l0 l1 l2 l3 l4 t0 t1 h = some res) {H : Heap} {locs : List Loc} (J : e_J G s h H locs) {ls : Array Slot} (hl : lv_has ls 6 [(0, .ref (e_ad G l0)), (1, .int l1), (2, .int l2), (3, .int l3), (4, .int l4)]) : W p l e (e_rm 1 22) s m args below meth c H locs 0 0 (MQ below (e_Q G res.2 (some (.int res.1))) args s 0 0 (e_A G)) (F0 m 115 ls [.int t0, .int t1, .null]) := by
  obtain ⟨hx, hb, hr, hml, hown, hts, hlocks, hES, hbs⟩ := id E
  unfold fX9_worksOut_b115 at hM
  exact e_no hM
set_option maxRecDepth 100000 in
set_option maxHeartbeats 4000000 in
theorem mX9_worksOut_b149 {p : Program} {l : Launch} {e : Env} {s : State} {m : MethodId} {args : Array Value} {below : List Frame} {meth : Method} {c : Code} {G : e_G} {res : (Int32 × e_H)} {k21 : Nat → Int32 → Int32 → Int32 → Int32 → e_H → Option (Int32 × e_H)} (E : e_M G p s args m meth c cX9_worksOut 6 (some FieldType.int) RX9) (K21 : ∀ (l0 : Nat) (l1 : Int32) (l2 : Int32) (l3 : Int32) (l4 : Int32) (h : e_H), k21 l0 l1 l2 l3 l4 h = some res → ∀ (H : Heap) (locs : List Loc), e_J G s h H locs → ∀ (ls : Array Slot), lv_has ls 6 [(0, .ref (e_ad G l0)), (1, .int l1), (2, .int l2), (3, .int l3), (4, .int l4)] → W p l e (e_rm 1 22) s m args below meth c H locs 0 0 (MQ below (e_Q G res.2 (some (.int res.1))) args s 0 0 (e_A G)) (F0 m 21 ls [])) (l0 : Nat) (l1 : Int32) (l2 : Int32) (l3 : Int32) (l4 : Int32) (h : e_H) (hM : fX9_worksOut_b149 k21 l0 l1 l2 l3 l4 h = some res) {H : Heap} {locs : List Loc} (J : e_J G s h H locs) {ls : Array Slot} (hl : lv_has ls 6 [(0, .ref (e_ad G l0)), (1, .int l1), (2, .int l2), (3, .int l3), (4, .int l4)]) : W p l e (e_rm 1 22) s m args below meth c H locs 0 0 (MQ below (e_Q G res.2 (some (.int res.1))) args s 0 0 (e_A G)) (F0 m 149 ls []) := by
  obtain ⟨hx, hb, hr, hml, hown, hts, hlocks, hES, hbs⟩ := id E
  unfold fX9_worksOut_b149 at hM
  refine lv_iinc (v := (l4 + (nI 1))) (lv' := [(4, .int (l4 + (nI 1))), (0, .ref (e_ad G l0)), (1, .int l1), (2, .int l2), (3, .int l3)]) hx hb dX9_worksOut_149 hl (k := 4) rfl rfl (by decide) rfl (fun ls hl => ?_)
  refine lv_goto (tgt := 21) hx hb dX9_worksOut_152 (by decide) ?_
  exact K21 l0 l1 l2 l3 (l4 + (nI 1)) h hM _ _ J _ (lv_sub hl [1, 2, 3, 4, 0] rfl)
set_option maxRecDepth 100000 in
set_option maxHeartbeats 4000000 in
theorem mX9_worksOut_b115x1 {p : Program} {l : Launch} {e : Env} {s : State} {m : MethodId} {args : Array Value} {below : List Frame} {meth : Method} {c : Code} {G : e_G} {res : (Int32 × e_H)} {k21 : Nat → Int32 → Int32 → Int32 → Int32 → e_H → Option (Int32 × e_H)} (E : e_M G p s args m meth c cX9_worksOut 6 (some FieldType.int) RX9) (K21 : ∀ (l0 : Nat) (l1 : Int32) (l2 : Int32) (l3 : Int32) (l4 : Int32) (h : e_H), k21 l0 l1 l2 l3 l4 h = some res → ∀ (H : Heap) (locs : List Loc), e_J G s h H locs → ∀ (ls : Array Slot), lv_has ls 6 [(0, .ref (e_ad G l0)), (1, .int l1), (2, .int l2), (3, .int l3), (4, .int l4)] → W p l e (e_rm 1 22) s m args below meth c H locs 0 0 (MQ below (e_Q G res.2 (some (.int res.1))) args s 0 0 (e_A G)) (F0 m 21 ls [])) (l0 : Nat) (l1 : Int32) (l2 : Int32) (l3 : Int32) (l4 : Int32) (t0 : Int32) (t1 : Int32) (t2 : Nat) (h : e_H) (hM : fX9_worksOut_b115x1 k21 l0 l1 l2 l3 l4 t0 t1 t2 h = some res) {H : Heap} {locs : List Loc} (J : e_J G s h H locs) {ls : Array Slot} (hl : lv_has ls 6 [(0, .ref (e_ad G l0)), (1, .int l1), (2, .int l2), (3, .int l3), (4, .int l4)]) : W p l e (e_rm 1 22) s m args below meth c H locs 0 0 (MQ below (e_Q G res.2 (some (.int res.1))) args s 0 0 (e_A G)) (F0 m 115 ls [.int t0, .int t1, .ref (e_ad G t2)]) := by
  obtain ⟨hx, hb, hr, hml, hown, hts, hlocks, hES, hbs⟩ := id E
  unfold fX9_worksOut_b115x1 at hM
  obtain ⟨h1, hv, hM⟩ := e_bs hM
  refine e_iast E J hv dX9_worksOut_115 (fun H locs J => ?_)
  refine lv_goto (tgt := 149) hx hb dX9_worksOut_116 (by decide) ?_
  exact mX9_worksOut_b149 E K21 l0 l1 l2 l3 l4 h1 hM J (lv_sub hl [0, 1, 2, 3, 4] rfl)
set_option maxRecDepth 100000 in
set_option maxHeartbeats 4000000 in
theorem mX9_worksOut_b78 {p : Program} {l : Launch} {e : Env} {s : State} {m : MethodId} {args : Array Value} {below : List Frame} {meth : Method} {c : Code} {G : e_G} {res : (Int32 × e_H)} {k21 : Nat → Int32 → Int32 → Int32 → Int32 → e_H → Option (Int32 × e_H)} (E : e_M G p s args m meth c cX9_worksOut 6 (some FieldType.int) RX9) (K21 : ∀ (l0 : Nat) (l1 : Int32) (l2 : Int32) (l3 : Int32) (l4 : Int32) (h : e_H), k21 l0 l1 l2 l3 l4 h = some res → ∀ (H : Heap) (locs : List Loc), e_J G s h H locs → ∀ (ls : Array Slot), lv_has ls 6 [(0, .ref (e_ad G l0)), (1, .int l1), (2, .int l2), (3, .int l3), (4, .int l4)] → W p l e (e_rm 1 22) s m args below meth c H locs 0 0 (MQ below (e_Q G res.2 (some (.int res.1))) args s 0 0 (e_A G)) (F0 m 21 ls [])) (l0 : Nat) (l1 : Int32) (l2 : Int32) (l3 : Int32) (l4 : Int32) (t0 : Int32) (t1 : Int32) (h : e_H) (hM : fX9_worksOut_b78 k21 l0 l1 l2 l3 l4 t0 t1 h = some res) {H : Heap} {locs : List Loc} (J : e_J G s h H locs) {ls : Array Slot} (hl : lv_has ls 6 [(0, .ref (e_ad G l0)), (1, .int l1), (2, .int l2), (3, .int l3), (4, .int l4)]) : W p l e (e_rm 1 22) s m args below meth c H locs 0 0 (MQ below (e_Q G res.2 (some (.int res.1))) args s 0 0 (e_A G)) (F0 m 78 ls [.int t0, .int t1, .null]) := by
  obtain ⟨hx, hb, hr, hml, hown, hts, hlocks, hES, hbs⟩ := id E
  unfold fX9_worksOut_b78 at hM
  exact e_no hM
set_option maxRecDepth 100000 in
set_option maxHeartbeats 4000000 in
theorem mX9_worksOut_b78x1 {p : Program} {l : Launch} {e : Env} {s : State} {m : MethodId} {args : Array Value} {below : List Frame} {meth : Method} {c : Code} {G : e_G} {res : (Int32 × e_H)} {k21 : Nat → Int32 → Int32 → Int32 → Int32 → e_H → Option (Int32 × e_H)} (E : e_M G p s args m meth c cX9_worksOut 6 (some FieldType.int) RX9) (K21 : ∀ (l0 : Nat) (l1 : Int32) (l2 : Int32) (l3 : Int32) (l4 : Int32) (h : e_H), k21 l0 l1 l2 l3 l4 h = some res → ∀ (H : Heap) (locs : List Loc), e_J G s h H locs → ∀ (ls : Array Slot), lv_has ls 6 [(0, .ref (e_ad G l0)), (1, .int l1), (2, .int l2), (3, .int l3), (4, .int l4)] → W p l e (e_rm 1 22) s m args below meth c H locs 0 0 (MQ below (e_Q G res.2 (some (.int res.1))) args s 0 0 (e_A G)) (F0 m 21 ls [])) (l0 : Nat) (l1 : Int32) (l2 : Int32) (l3 : Int32) (l4 : Int32) (t0 : Int32) (t1 : Int32) (t2 : Nat) (h : e_H) (hM : fX9_worksOut_b78x1 k21 l0 l1 l2 l3 l4 t0 t1 t2 h = some res) {H : Heap} {locs : List Loc} (J : e_J G s h H locs) {ls : Array Slot} (hl : lv_has ls 6 [(0, .ref (e_ad G l0)), (1, .int l1), (2, .int l2), (3, .int l3), (4, .int l4)]) : W p l e (e_rm 1 22) s m args below meth c H locs 0 0 (MQ below (e_Q G res.2 (some (.int res.1))) args s 0 0 (e_A G)) (F0 m 78 ls [.int t0, .int t1, .ref (e_ad G t2)]) := by
  obtain ⟨hx, hb, hr, hml, hown, hts, hlocks, hES, hbs⟩ := id E
  unfold fX9_worksOut_b78x1 at hM
  obtain ⟨h1, hv, hM⟩ := e_bs hM
  refine e_iast E J hv dX9_worksOut_78 (fun H locs J => ?_)
  refine lv_iinc (v := (l2 + (nI 1))) (lv' := [(2, .int (l2 + (nI 1))), (0, .ref (e_ad G l0)), (1, .int l1), (3, .int l3), (4, .int l4)]) hx hb dX9_worksOut_79 hl (k := 2) rfl rfl (by decide) rfl (fun ls hl => ?_)
  refine lv_goto (tgt := 149) hx hb dX9_worksOut_82 (by decide) ?_
  exact mX9_worksOut_b149 E K21 l0 l1 (l2 + (nI 1)) l3 l4 h1 hM J (lv_sub hl [1, 2, 0, 3, 4] rfl)
set_option maxRecDepth 100000 in
set_option maxHeartbeats 4000000 in
theorem mX9_worksOut_b21 {p : Program} {l : Launch} {e : Env} {s : State} {m : MethodId} {args : Array Value} {below : List Frame} {meth : Method} {c : Code} {G : e_G} {res : (Int32 × e_H)} {k21 : Nat → Int32 → Int32 → Int32 → Int32 → e_H → Option (Int32 × e_H)} (E : e_M G p s args m meth c cX9_worksOut 6 (some FieldType.int) RX9) (K21 : ∀ (l0 : Nat) (l1 : Int32) (l2 : Int32) (l3 : Int32) (l4 : Int32) (h : e_H), k21 l0 l1 l2 l3 l4 h = some res → ∀ (H : Heap) (locs : List Loc), e_J G s h H locs → ∀ (ls : Array Slot), lv_has ls 6 [(0, .ref (e_ad G l0)), (1, .int l1), (2, .int l2), (3, .int l3), (4, .int l4)] → W p l e (e_rm 1 22) s m args below meth c H locs 0 0 (MQ below (e_Q G res.2 (some (.int res.1))) args s 0 0 (e_A G)) (F0 m 21 ls [])) (l0 : Nat) (l1 : Int32) (l2 : Int32) (l3 : Int32) (l4 : Int32) (h : e_H) (hM : fX9_worksOut_b21 k21 l0 l1 l2 l3 l4 h = some res) {H : Heap} {locs : List Loc} (J : e_J G s h H locs) {ls : Array Slot} (hl : lv_has ls 6 [(0, .ref (e_ad G l0)), (1, .int l1), (2, .int l2), (3, .int l3), (4, .int l4)]) : W p l e (e_rm 1 22) s m args below meth c H locs 0 0 (MQ below (e_Q G res.2 (some (.int res.1))) args s 0 0 (e_A G)) (F0 m 21 ls []) := by
  obtain ⟨hx, hb, hr, hml, hown, hts, hlocks, hES, hbs⟩ := id E
  unfold fX9_worksOut_b21 at hM
  refine lv_iload hx hb dX9_worksOut_21 (lv_at hl 4 rfl) ?_
  refine lv_iload_n hx hb dX9_worksOut_23 rfl (lv_at hl 3 rfl) ?_
  refine lv_icmp_ge (tgt := 155) hx hb dX9_worksOut_24 (by decide) (fun hc => ?_) (fun hc => ?_)
  · have hM := e_ip hc hM
    refine lv_aload_n hx hb dX9_worksOut_155 rfl (lv_at hl 0 rfl) ?_
    obtain ⟨v1, hv, hM⟩ := e_bs hM
    refine e_getR (C := RX9) (T := TX9) (N := 40) E J hv rfl inX9 (by decide) q_5_38 dX9_worksOut_156 ?_
    rcases v1 with _ | a2
    · have hM := e_on0 hM
      refine W.eq (g2 := F0 m 159 ls [.null]) rfl ?_
      refine lv_iconst (v := nI 0) hx hb dX9_worksOut_159 (by decide) ?_
      exact e_no hM
    · have hM := e_on1 hM
      refine W.eq (g2 := F0 m 159 ls [.ref (e_ad G a2)]) rfl ?_
      refine lv_iconst (v := nI 0) hx hb dX9_worksOut_159 (by decide) ?_
      obtain ⟨v3, hv, hM⟩ := e_bs hM
      refine e_iald E J hv dX9_worksOut_160 ?_
      obtain rfl := e_so hM
      exact e_iret E J dX9_worksOut_161
  · have hM := e_in hc hM
    refine lv_aload_n hx hb dX9_worksOut_27 rfl (lv_at hl 0 rfl) ?_
    obtain ⟨v4, hv, hM⟩ := e_bs hM
    refine e_getR (C := RX9) (T := TX9) (N := 40) E J hv rfl inX9 (by decide) q_5_10 dX9_worksOut_28 ?_
    rcases v4 with _ | a5
    · have hM := e_on0 hM
      refine W.eq (g2 := F0 m 31 ls [.null]) rfl ?_
      refine lv_bipush (v := nI 127) hx hb dX9_worksOut_31 (by decide) ?_
      refine lv_bipush (v := nI 96) hx hb dX9_worksOut_33 (by decide) ?_
      refine lv_iload_n hx hb dX9_worksOut_35 rfl (lv_at hl 1 rfl) ?_
      refine lv_imul hx hb dX9_worksOut_36 ?_
      refine lv_iadd hx hb dX9_worksOut_37 ?_
      refine lv_iload hx hb dX9_worksOut_38 (lv_at hl 4 rfl) ?_
      refine lv_iadd hx hb dX9_worksOut_40 ?_
      exact e_no hM
    · have hM := e_on1 hM
      refine W.eq (g2 := F0 m 31 ls [.ref (e_ad G a5)]) rfl ?_
      refine lv_bipush (v := nI 127) hx hb dX9_worksOut_31 (by decide) ?_
      refine lv_bipush (v := nI 96) hx hb dX9_worksOut_33 (by decide) ?_
      refine lv_iload_n hx hb dX9_worksOut_35 rfl (lv_at hl 1 rfl) ?_
      refine lv_imul hx hb dX9_worksOut_36 ?_
      refine lv_iadd hx hb dX9_worksOut_37 ?_
      refine lv_iload hx hb dX9_worksOut_38 (lv_at hl 4 rfl) ?_
      refine lv_iadd hx hb dX9_worksOut_40 ?_
      obtain ⟨v6, hv, hM⟩ := e_bs hM
      refine e_iald E J hv dX9_worksOut_41 ?_
      refine lv_istore (lv' := [(5, .int v6), (0, .ref (e_ad G l0)), (1, .int l1), (2, .int l2), (3, .int l3), (4, .int l4)]) hx hb dX9_worksOut_42 hl (by decide) rfl (fun ls hl => ?_)
      refine lv_iload hx hb dX9_worksOut_44 (lv_at hl 0 rfl) ?_
      refine lv_if_lt (tgt := 85) hx hb dX9_worksOut_46 (by decide) (fun hc => ?_) (fun hc => ?_)
      · have hM := e_ip hc hM
        refine lv_iload hx hb dX9_worksOut_85 (lv_at hl 0 rfl) ?_
        refine lv_bipush (v := -10) hx hb dX9_worksOut_87 (by decide) ?_
        refine lv_icmp_ne (tgt := 119) hx hb dX9_worksOut_89 (by decide) (fun hc => ?_) (fun hc => ?_)
        · have hM := e_in hc hM
          refine lv_iinc (v := (l2 + (-1 : Int32))) (lv' := [(2, .int (l2 + (-1 : Int32))), (5, .int v6), (0, .ref (e_ad G l0)), (1, .int l1), (3, .int l3), (4, .int l4)]) hx hb dX9_worksOut_119 hl (k := 3) rfl rfl (by decide) rfl (fun ls hl => ?_)
          refine lv_aload_n hx hb dX9_worksOut_122 rfl (lv_at hl 2 rfl) ?_
          obtain ⟨v15, hv, hM⟩ := e_bs hM
          refine e_getR (C := RX9) (T := TX9) (N := 40) E J hv rfl inX9 (by decide) q_5_38 dX9_worksOut_123 ?_
          rcases v15 with _ | a16
          · have hM := e_on0 hM
            refine W.eq (g2 := F0 m 126 ls [.null]) rfl ?_
            refine lv_iload_n hx hb dX9_worksOut_126 rfl (lv_at hl 0 rfl) ?_
            refine lv_iconst (v := nI 1) hx hb dX9_worksOut_127 (by decide) ?_
            refine lv_isub hx hb dX9_worksOut_128 ?_
            refine lv_iload hx hb dX9_worksOut_129 (lv_at hl 1 rfl) ?_
            refine lv_aload_n hx hb dX9_worksOut_131 rfl (lv_at hl 2 rfl) ?_
            obtain ⟨v17, hv, hM⟩ := e_bs hM
            refine e_getR (C := RX9) (T := TX9) (N := 40) E J hv rfl inX9 (by decide) q_5_38 dX9_worksOut_132 ?_
            rcases v17 with _ | a18
            · have hM := e_on0 hM
              refine W.eq (g2 := F0 m 135 ls [.null, .int v6, .int ((l2 + (-1 : Int32)) - (nI 1)), .null]) rfl ?_
              refine lv_iload_n hx hb dX9_worksOut_135 rfl (lv_at hl 0 rfl) ?_
              refine lv_iconst (v := nI 1) hx hb dX9_worksOut_136 (by decide) ?_
              refine lv_isub hx hb dX9_worksOut_137 ?_
              exact e_no hM
            · have hM := e_on1 hM
              refine W.eq (g2 := F0 m 135 ls [.ref (e_ad G a18), .int v6, .int ((l2 + (-1 : Int32)) - (nI 1)), .null]) rfl ?_
              refine lv_iload_n hx hb dX9_worksOut_135 rfl (lv_at hl 0 rfl) ?_
              refine lv_iconst (v := nI 1) hx hb dX9_worksOut_136 (by decide) ?_
              refine lv_isub hx hb dX9_worksOut_137 ?_
              obtain ⟨v19, hv, hM⟩ := e_bs hM
              refine e_iald E J hv dX9_worksOut_138 ?_
              refine lv_aload_n hx hb dX9_worksOut_139 rfl (lv_at hl 2 rfl) ?_
              obtain ⟨v20, hv, hM⟩ := e_bs hM
              refine e_getR (C := RX9) (T := TX9) (N := 40) E J hv rfl inX9 (by decide) q_5_38 dX9_worksOut_140 ?_
              rcases v20 with _ | a21
              · have hM := e_on0 hM
                refine W.eq (g2 := F0 m 143 ls [.null, .int v19, .int v6, .int ((l2 + (-1 : Int32)) - (nI 1)), .null]) rfl ?_
                refine lv_iload_n hx hb dX9_worksOut_143 rfl (lv_at hl 0 rfl) ?_
                exact e_no hM
              · have hM := e_on1 hM
                refine W.eq (g2 := F0 m 143 ls [.ref (e_ad G a21), .int v19, .int v6, .int ((l2 + (-1 : Int32)) - (nI 1)), .null]) rfl ?_
                refine lv_iload_n hx hb dX9_worksOut_143 rfl (lv_at hl 0 rfl) ?_
                obtain ⟨v22, hv, hM⟩ := e_bs hM
                refine e_iald E J hv dX9_worksOut_144 ?_
                obtain ⟨v23, hv, hM⟩ := e_bs hM
                refine e_callS (As := [.int v6, .int v19, .int v22]) (rest := [.int ((l2 + (-1 : Int32)) - (nI 1)), .null]) (n := 3) E J (mX9_two (l := l) (G := G) v6 v19 v22 h _ hv) q_5_184 q_5_185 q_1_9 q_5_186 (by decide +kernel) rfl ⟨Nat.le_of_ble_eq_true rfl, Nat.le_of_ble_eq_true rfl⟩ (st0 := [.int v22, .int v19, .int v6, .int ((l2 + (-1 : Int32)) - (nI 1)), .null]) (st1 := [.int v23, .int ((l2 + (-1 : Int32)) - (nI 1)), .null]) rfl rfl hl.1 (Nat.le_of_ble_eq_true rfl) dX9_worksOut_145 ⟨Nat.le_refl _, Nat.le_refl _⟩ (fun H locs J => ?_)
                exact e_no hM
          · have hM := e_on1 hM
            refine W.eq (g2 := F0 m 126 ls [.ref (e_ad G a16)]) rfl ?_
            refine lv_iload_n hx hb dX9_worksOut_126 rfl (lv_at hl 0 rfl) ?_
            refine lv_iconst (v := nI 1) hx hb dX9_worksOut_127 (by decide) ?_
            refine lv_isub hx hb dX9_worksOut_128 ?_
            refine lv_iload hx hb dX9_worksOut_129 (lv_at hl 1 rfl) ?_
            refine lv_aload_n hx hb dX9_worksOut_131 rfl (lv_at hl 2 rfl) ?_
            obtain ⟨v25, hv, hM⟩ := e_bs hM
            refine e_getR (C := RX9) (T := TX9) (N := 40) E J hv rfl inX9 (by decide) q_5_38 dX9_worksOut_132 ?_
            rcases v25 with _ | a26
            · have hM := e_on0 hM
              refine W.eq (g2 := F0 m 135 ls [.null, .int v6, .int ((l2 + (-1 : Int32)) - (nI 1)), .ref (e_ad G a16)]) rfl ?_
              refine lv_iload_n hx hb dX9_worksOut_135 rfl (lv_at hl 0 rfl) ?_
              refine lv_iconst (v := nI 1) hx hb dX9_worksOut_136 (by decide) ?_
              refine lv_isub hx hb dX9_worksOut_137 ?_
              exact e_no hM
            · have hM := e_on1 hM
              refine W.eq (g2 := F0 m 135 ls [.ref (e_ad G a26), .int v6, .int ((l2 + (-1 : Int32)) - (nI 1)), .ref (e_ad G a16)]) rfl ?_
              refine lv_iload_n hx hb dX9_worksOut_135 rfl (lv_at hl 0 rfl) ?_
              refine lv_iconst (v := nI 1) hx hb dX9_worksOut_136 (by decide) ?_
              refine lv_isub hx hb dX9_worksOut_137 ?_
              obtain ⟨v27, hv, hM⟩ := e_bs hM
              refine e_iald E J hv dX9_worksOut_138 ?_
              refine lv_aload_n hx hb dX9_worksOut_139 rfl (lv_at hl 2 rfl) ?_
              obtain ⟨v28, hv, hM⟩ := e_bs hM
              refine e_getR (C := RX9) (T := TX9) (N := 40) E J hv rfl inX9 (by decide) q_5_38 dX9_worksOut_140 ?_
              rcases v28 with _ | a29
              · have hM := e_on0 hM
                refine W.eq (g2 := F0 m 143 ls [.null, .int v27, .int v6, .int ((l2 + (-1 : Int32)) - (nI 1)), .ref (e_ad G a16)]) rfl ?_
                refine lv_iload_n hx hb dX9_worksOut_143 rfl (lv_at hl 0 rfl) ?_
                exact e_no hM
              · have hM := e_on1 hM
                refine W.eq (g2 := F0 m 143 ls [.ref (e_ad G a29), .int v27, .int v6, .int ((l2 + (-1 : Int32)) - (nI 1)), .ref (e_ad G a16)]) rfl ?_
                refine lv_iload_n hx hb dX9_worksOut_143 rfl (lv_at hl 0 rfl) ?_
                obtain ⟨v30, hv, hM⟩ := e_bs hM
                refine e_iald E J hv dX9_worksOut_144 ?_
                obtain ⟨v31, hv, hM⟩ := e_bs hM
                refine e_callS (As := [.int v6, .int v27, .int v30]) (rest := [.int ((l2 + (-1 : Int32)) - (nI 1)), .ref (e_ad G a16)]) (n := 3) E J (mX9_two (l := l) (G := G) v6 v27 v30 h _ hv) q_5_184 q_5_185 q_1_9 q_5_186 (by decide +kernel) rfl ⟨Nat.le_of_ble_eq_true rfl, Nat.le_of_ble_eq_true rfl⟩ (st0 := [.int v30, .int v27, .int v6, .int ((l2 + (-1 : Int32)) - (nI 1)), .ref (e_ad G a16)]) (st1 := [.int v31, .int ((l2 + (-1 : Int32)) - (nI 1)), .ref (e_ad G a16)]) rfl rfl hl.1 (Nat.le_of_ble_eq_true rfl) dX9_worksOut_145 ⟨Nat.le_refl _, Nat.le_refl _⟩ (fun H locs J => ?_)
                obtain ⟨h32, hv, hM⟩ := e_bs hM
                refine e_iast E J hv dX9_worksOut_148 (fun H locs J => ?_)
                exact mX9_worksOut_b149 E K21 l0 l1 (l2 + (-1 : Int32)) l3 l4 h32 hM J (lv_sub hl [2, 3, 0, 4, 5] rfl)
        · have hM := e_ip hc hM
          refine lv_aload_n hx hb dX9_worksOut_92 rfl (lv_at hl 1 rfl) ?_
          obtain ⟨v7, hv, hM⟩ := e_bs hM
          refine e_getR (C := RX9) (T := TX9) (N := 40) E J hv rfl inX9 (by decide) q_5_38 dX9_worksOut_93 ?_
          rcases v7 with _ | a8
          · have hM := e_on0 hM
            refine W.eq (g2 := F0 m 96 ls [.null]) rfl ?_
            refine lv_iload_n hx hb dX9_worksOut_96 rfl (lv_at hl 3 rfl) ?_
            refine lv_iconst (v := nI 1) hx hb dX9_worksOut_97 (by decide) ?_
            refine lv_isub hx hb dX9_worksOut_98 ?_
            refine lv_aload_n hx hb dX9_worksOut_99 rfl (lv_at hl 1 rfl) ?_
            obtain ⟨v9, hv, hM⟩ := e_bs hM
            refine e_getR (C := RX9) (T := TX9) (N := 40) E J hv rfl inX9 (by decide) q_5_38 dX9_worksOut_100 ?_
            rcases v9 with _ | a10
            · have hM := e_on0 hM
              refine W.eq (g2 := F0 m 103 ls [.null, .int (l2 - (nI 1)), .null]) rfl ?_
              refine lv_iload_n hx hb dX9_worksOut_103 rfl (lv_at hl 3 rfl) ?_
              refine lv_iconst (v := nI 1) hx hb dX9_worksOut_104 (by decide) ?_
              refine lv_isub hx hb dX9_worksOut_105 ?_
              exact e_no hM
            · have hM := e_on1 hM
              refine W.eq (g2 := F0 m 103 ls [.ref (e_ad G a10), .int (l2 - (nI 1)), .null]) rfl ?_
              refine lv_iload_n hx hb dX9_worksOut_103 rfl (lv_at hl 3 rfl) ?_
              refine lv_iconst (v := nI 1) hx hb dX9_worksOut_104 (by decide) ?_
              refine lv_isub hx hb dX9_worksOut_105 ?_
              obtain ⟨v11, hv, hM⟩ := e_bs hM
              refine e_iald E J hv dX9_worksOut_106 ?_
              refine lv_if_ne (tgt := 114) hx hb dX9_worksOut_107 (by decide) (fun hc => ?_) (fun hc => ?_)
              · have hM := e_in hc hM
                refine lv_iconst (v := nI 0) hx hb dX9_worksOut_114 (by decide) ?_
                exact mX9_worksOut_b115 E K21 l0 l1 l2 l3 l4 (nI 0) (l2 - (nI 1)) h hM J (lv_sub hl [1, 2, 3, 4, 5] rfl)
              · have hM := e_ip hc hM
                refine lv_iconst (v := nI 1) hx hb dX9_worksOut_110 (by decide) ?_
                refine lv_goto (tgt := 115) hx hb dX9_worksOut_111 (by decide) ?_
                exact mX9_worksOut_b115 E K21 l0 l1 l2 l3 l4 (nI 1) (l2 - (nI 1)) h hM J (lv_sub hl [1, 2, 3, 4, 5] rfl)
          · have hM := e_on1 hM
            refine W.eq (g2 := F0 m 96 ls [.ref (e_ad G a8)]) rfl ?_
            refine lv_iload_n hx hb dX9_worksOut_96 rfl (lv_at hl 3 rfl) ?_
            refine lv_iconst (v := nI 1) hx hb dX9_worksOut_97 (by decide) ?_
            refine lv_isub hx hb dX9_worksOut_98 ?_
            refine lv_aload_n hx hb dX9_worksOut_99 rfl (lv_at hl 1 rfl) ?_
            obtain ⟨v12, hv, hM⟩ := e_bs hM
            refine e_getR (C := RX9) (T := TX9) (N := 40) E J hv rfl inX9 (by decide) q_5_38 dX9_worksOut_100 ?_
            rcases v12 with _ | a13
            · have hM := e_on0 hM
              refine W.eq (g2 := F0 m 103 ls [.null, .int (l2 - (nI 1)), .ref (e_ad G a8)]) rfl ?_
              refine lv_iload_n hx hb dX9_worksOut_103 rfl (lv_at hl 3 rfl) ?_
              refine lv_iconst (v := nI 1) hx hb dX9_worksOut_104 (by decide) ?_
              refine lv_isub hx hb dX9_worksOut_105 ?_
              exact e_no hM
            · have hM := e_on1 hM
              refine W.eq (g2 := F0 m 103 ls [.ref (e_ad G a13), .int (l2 - (nI 1)), .ref (e_ad G a8)]) rfl ?_
              refine lv_iload_n hx hb dX9_worksOut_103 rfl (lv_at hl 3 rfl) ?_
              refine lv_iconst (v := nI 1) hx hb dX9_worksOut_104 (by decide) ?_
              refine lv_isub hx hb dX9_worksOut_105 ?_
              obtain ⟨v14, hv, hM⟩ := e_bs hM
              refine e_iald E J hv dX9_worksOut_106 ?_
              refine lv_if_ne (tgt := 114) hx hb dX9_worksOut_107 (by decide) (fun hc => ?_) (fun hc => ?_)
              · have hM := e_in hc hM
                refine lv_iconst (v := nI 0) hx hb dX9_worksOut_114 (by decide) ?_
                exact mX9_worksOut_b115x1 E K21 l0 l1 l2 l3 l4 (nI 0) (l2 - (nI 1)) a8 h hM J (lv_sub hl [1, 2, 3, 4, 5] rfl)
              · have hM := e_ip hc hM
                refine lv_iconst (v := nI 1) hx hb dX9_worksOut_110 (by decide) ?_
                refine lv_goto (tgt := 115) hx hb dX9_worksOut_111 (by decide) ?_
                exact mX9_worksOut_b115x1 E K21 l0 l1 l2 l3 l4 (nI 1) (l2 - (nI 1)) a8 h hM J (lv_sub hl [1, 2, 3, 4, 5] rfl)
      · have hM := e_in hc hM
        refine lv_aload_n hx hb dX9_worksOut_49 rfl (lv_at hl 1 rfl) ?_
        obtain ⟨v33, hv, hM⟩ := e_bs hM
        refine e_getR (C := RX9) (T := TX9) (N := 40) E J hv rfl inX9 (by decide) q_5_38 dX9_worksOut_50 ?_
        rcases v33 with _ | a34
        · have hM := e_on0 hM
          refine W.eq (g2 := F0 m 53 ls [.null]) rfl ?_
          refine lv_iload_n hx hb dX9_worksOut_53 rfl (lv_at hl 3 rfl) ?_
          refine lv_iload hx hb dX9_worksOut_54 (lv_at hl 0 rfl) ?_
          refine lv_sipush (v := nI 10000) hx hb dX9_worksOut_56 (by decide) ?_
          refine lv_icmp_ge (tgt := 67) hx hb dX9_worksOut_59 (by decide) (fun hc => ?_) (fun hc => ?_)
          · have hM := e_ip hc hM
            refine lv_aload_n hx hb dX9_worksOut_67 rfl (lv_at hl 1 rfl) ?_
            obtain ⟨v35, hv, hM⟩ := e_bs hM
            refine e_getR (C := RX9) (T := TX9) (N := 40) E J hv rfl inX9 (by decide) q_5_39 dX9_worksOut_68 ?_
            rcases v35 with _ | a36
            · have hM := e_on0 hM
              refine W.eq (g2 := F0 m 71 ls [.null, .int l2, .null]) rfl ?_
              refine lv_iload hx hb dX9_worksOut_71 (lv_at hl 0 rfl) ?_
              refine lv_sipush (v := nI 10000) hx hb dX9_worksOut_73 (by decide) ?_
              refine lv_isub hx hb dX9_worksOut_76 ?_
              exact e_no hM
            · have hM := e_on1 hM
              refine W.eq (g2 := F0 m 71 ls [.ref (e_ad G a36), .int l2, .null]) rfl ?_
              refine lv_iload hx hb dX9_worksOut_71 (lv_at hl 0 rfl) ?_
              refine lv_sipush (v := nI 10000) hx hb dX9_worksOut_73 (by decide) ?_
              refine lv_isub hx hb dX9_worksOut_76 ?_
              obtain ⟨v37, hv, hM⟩ := e_bs hM
              refine e_iald E J hv dX9_worksOut_77 ?_
              exact mX9_worksOut_b78 E K21 l0 l1 l2 l3 l4 v37 l2 h hM J (lv_sub hl [1, 2, 3, 4, 5] rfl)
          · have hM := e_in hc hM
            refine lv_iload hx hb dX9_worksOut_62 (lv_at hl 0 rfl) ?_
            refine lv_goto (tgt := 78) hx hb dX9_worksOut_64 (by decide) ?_
            exact mX9_worksOut_b78 E K21 l0 l1 l2 l3 l4 v6 l2 h hM J (lv_sub hl [1, 2, 3, 4, 5] rfl)
        · have hM := e_on1 hM
          refine W.eq (g2 := F0 m 53 ls [.ref (e_ad G a34)]) rfl ?_
          refine lv_iload_n hx hb dX9_worksOut_53 rfl (lv_at hl 3 rfl) ?_
          refine lv_iload hx hb dX9_worksOut_54 (lv_at hl 0 rfl) ?_
          refine lv_sipush (v := nI 10000) hx hb dX9_worksOut_56 (by decide) ?_
          refine lv_icmp_ge (tgt := 67) hx hb dX9_worksOut_59 (by decide) (fun hc => ?_) (fun hc => ?_)
          · have hM := e_ip hc hM
            refine lv_aload_n hx hb dX9_worksOut_67 rfl (lv_at hl 1 rfl) ?_
            obtain ⟨v38, hv, hM⟩ := e_bs hM
            refine e_getR (C := RX9) (T := TX9) (N := 40) E J hv rfl inX9 (by decide) q_5_39 dX9_worksOut_68 ?_
            rcases v38 with _ | a39
            · have hM := e_on0 hM
              refine W.eq (g2 := F0 m 71 ls [.null, .int l2, .ref (e_ad G a34)]) rfl ?_
              refine lv_iload hx hb dX9_worksOut_71 (lv_at hl 0 rfl) ?_
              refine lv_sipush (v := nI 10000) hx hb dX9_worksOut_73 (by decide) ?_
              refine lv_isub hx hb dX9_worksOut_76 ?_
              exact e_no hM
            · have hM := e_on1 hM
              refine W.eq (g2 := F0 m 71 ls [.ref (e_ad G a39), .int l2, .ref (e_ad G a34)]) rfl ?_
              refine lv_iload hx hb dX9_worksOut_71 (lv_at hl 0 rfl) ?_
              refine lv_sipush (v := nI 10000) hx hb dX9_worksOut_73 (by decide) ?_
              refine lv_isub hx hb dX9_worksOut_76 ?_
              obtain ⟨v40, hv, hM⟩ := e_bs hM
              refine e_iald E J hv dX9_worksOut_77 ?_
              exact mX9_worksOut_b78x1 E K21 l0 l1 l2 l3 l4 v40 l2 a34 h hM J (lv_sub hl [1, 2, 3, 4, 5] rfl)
          · have hM := e_in hc hM
            refine lv_iload hx hb dX9_worksOut_62 (lv_at hl 0 rfl) ?_
            refine lv_goto (tgt := 78) hx hb dX9_worksOut_64 (by decide) ?_
            exact mX9_worksOut_b78x1 E K21 l0 l1 l2 l3 l4 v6 l2 a34 h hM J (lv_sub hl [1, 2, 3, 4, 5] rfl)
set_option maxRecDepth 100000 in
set_option maxHeartbeats 4000000 in
theorem mX9_worksOut_L21 {p : Program} {l : Launch} {e : Env} {s : State} {m : MethodId} {args : Array Value} {below : List Frame} {meth : Method} {c : Code} {G : e_G} {res : (Int32 × e_H)} (E : e_M G p s args m meth c cX9_worksOut 6 (some FieldType.int) RX9) (n : Nat) (l0 : Nat) (l1 : Int32) (l2 : Int32) (l3 : Int32) (l4 : Int32) (h : e_H) (hM : fX9_worksOut_L21 n l0 l1 l2 l3 l4 h = some res) {H : Heap} {locs : List Loc} (J : e_J G s h H locs) {ls : Array Slot} (hl : lv_has ls 6 [(0, .ref (e_ad G l0)), (1, .int l1), (2, .int l2), (3, .int l3), (4, .int l4)]) : W p l e (e_rm 1 22) s m args below meth c H locs 0 0 (MQ below (e_Q G res.2 (some (.int res.1))) args s 0 0 (e_A G)) (F0 m 21 ls []) := by
  induction n generalizing l0 l1 l2 l3 l4 h H locs ls with
  | zero => exact e_no hM
  | succ n ih => exact mX9_worksOut_b21 (k21 := (fX9_worksOut_L21 n)) E   (fun l0 l1 l2 l3 l4 h hM H locs J ls hl => ih l0 l1 l2 l3 l4 h hM J hl) l0 l1 l2 l3 l4 h hM J hl
set_option maxRecDepth 100000 in
set_option maxHeartbeats 4000000 in
theorem mX9_worksOut {l : Launch} {G : e_G} (l0 : Nat) (l1 : Int32) (h : e_H) (res : (Int32 × e_H)) (hM : fX9_worksOut l0 l1 h = some res) : Met l yX9_worksOut (e_W yX9_worksOut cX9_worksOut 6 (some FieldType.int)) (e_rm 1 22) (e_Pc G h [.ref (e_ad G l0), .int l1]) (e_Q G res.2 (some (.int res.1))) 0 0 (e_A G) := by
  refine Met.ofW (cc := cX9_worksOut) (maxL := 6) (ret := (some FieldType.int)) (by decide) rfl ?_
  intro p e s m args below meth c s₁ B hml hv
  obtain ⟨rfl, hS, hP⟩ := hv
  have E := e_enter (own := RX9) (ret := (some FieldType.int)) B hml rfl hS hP
  have J : e_J G s h s.heap [] := ⟨hP, va_S.rf⟩
  have hl := lv_entry ([.ref (e_ad G l0), .int l1]) (n := 6) (Nat.le_of_ble_eq_true rfl)
  rw [lg_entry_eq]
  generalize (lg_sl ([.ref (e_ad G l0), .int l1]) ++ List.replicate (6 - (lg_sl ([.ref (e_ad G l0), .int l1])).length) Slot.unset).toArray = ls at hl ⊢
  have hl : lv_has ls 6 [(0, .ref (e_ad G l0)), (1, .int l1)] := hl
  obtain ⟨hx, hb, hr, hml, hown, hts, hlocks, hES, hbs⟩ := id E
  unfold fX9_worksOut at hM
  obtain ⟨fs_, hk_, hM⟩ := e_bs hM
  refine lv_iconst (v := nI 0) hx hb dX9_worksOut_0 (by decide) ?_
  refine lv_istore_n (lv' := [(2, .int (nI 0)), (0, .ref (e_ad G l0)), (1, .int l1)]) hx hb dX9_worksOut_1 rfl hl (by decide) rfl (fun ls hl => ?_)
  refine lv_aload_n hx hb dX9_worksOut_2 rfl (lv_at hl 1 rfl) ?_
  obtain ⟨v1, hv, hM⟩ := e_bs hM
  refine e_getR (C := RX9) (T := TX9) (N := 40) E J hv rfl inX9 (by decide) q_5_10 dX9_worksOut_3 ?_
  rcases v1 with _ | a2
  · have hM := e_on0 hM
    refine W.eq (g2 := F0 m 6 ls [.null]) rfl ?_
    refine lv_bipush (v := nI 99) hx hb dX9_worksOut_6 (by decide) ?_
    refine lv_iconst (v := nI 2) hx hb dX9_worksOut_8 (by decide) ?_
    refine lv_iload_n hx hb dX9_worksOut_9 rfl (lv_at hl 2 rfl) ?_
    refine lv_imul hx hb dX9_worksOut_10 ?_
    refine lv_iadd hx hb dX9_worksOut_11 ?_
    exact e_no hM
  · have hM := e_on1 hM
    refine W.eq (g2 := F0 m 6 ls [.ref (e_ad G a2)]) rfl ?_
    refine lv_bipush (v := nI 99) hx hb dX9_worksOut_6 (by decide) ?_
    refine lv_iconst (v := nI 2) hx hb dX9_worksOut_8 (by decide) ?_
    refine lv_iload_n hx hb dX9_worksOut_9 rfl (lv_at hl 2 rfl) ?_
    refine lv_imul hx hb dX9_worksOut_10 ?_
    refine lv_iadd hx hb dX9_worksOut_11 ?_
    obtain ⟨v3, hv, hM⟩ := e_bs hM
    refine e_iald E J hv dX9_worksOut_12 ?_
    refine lv_sipush (v := nI 1000) hx hb dX9_worksOut_13 (by decide) ?_
    refine lv_irem hx hb dX9_worksOut_16 (by decide) ?_
    refine lv_istore_n (lv' := [(3, .int (v3 - v3 / (nI 1000) * (nI 1000))), (2, .int (nI 0)), (0, .ref (e_ad G l0)), (1, .int l1)]) hx hb dX9_worksOut_17 rfl hl (by decide) rfl (fun ls hl => ?_)
    refine lv_iconst (v := nI 0) hx hb dX9_worksOut_18 (by decide) ?_
    refine lv_istore (lv' := [(4, .int (nI 0)), (3, .int (v3 - v3 / (nI 1000) * (nI 1000))), (2, .int (nI 0)), (0, .ref (e_ad G l0)), (1, .int l1)]) hx hb dX9_worksOut_19 hl (by decide) rfl (fun ls hl => ?_)
    exact mX9_worksOut_L21 E 200 l0 l1 (nI 0) (v3 - v3 / (nI 1000) * (nI 1000)) (nI 0) h hM J (lv_sub hl [3, 4, 2, 1, 0] rfl)
set_option maxRecDepth 100000 in
set_option maxHeartbeats 4000000 in
theorem mX9_within {l : Launch} {G : e_G} (l0 : Int32) (l1 : Int32) (l2 : Int32) (h : e_H) (res : Int32) (hM : fX9_within l0 l1 l2 = some res) : Met l yX9_within (e_W yX9_within cX9_within 3 (some FieldType.int)) (e_rm 0 0) (e_Pc G h [.int l0, .int l1, .int l2]) (e_Q G h (some (.int res))) 0 0 (e_A G) := by
  refine Met.ofW (cc := cX9_within) (maxL := 3) (ret := (some FieldType.int)) (by decide) rfl ?_
  intro p e s m args below meth c s₁ B hml hv
  obtain ⟨rfl, hS, hP⟩ := hv
  have E := e_enter (own := RX9) (ret := (some FieldType.int)) B hml rfl hS hP
  have J : e_J G s h s.heap [] := ⟨hP, va_S.rf⟩
  have hl := lv_entry ([.int l0, .int l1, .int l2]) (n := 3) (Nat.le_of_ble_eq_true rfl)
  rw [lg_entry_eq]
  generalize (lg_sl ([.int l0, .int l1, .int l2]) ++ List.replicate (3 - (lg_sl ([.int l0, .int l1, .int l2])).length) Slot.unset).toArray = ls at hl ⊢
  have hl : lv_has ls 3 [(0, .int l0), (1, .int l1), (2, .int l2)] := hl
  obtain ⟨hx, hb, hr, hml, hown, hts, hlocks, hES, hbs⟩ := id E
  unfold fX9_within at hM
  refine lv_iload_n hx hb dX9_within_0 rfl (lv_at hl 0 rfl) ?_
  refine lv_iload_n hx hb dX9_within_1 rfl (lv_at hl 1 rfl) ?_
  refine lv_icmp_ge (tgt := 9) hx hb dX9_within_2 (by decide) (fun hc => ?_) (fun hc => ?_)
  · have hM := e_ip hc hM
    refine lv_iload_n hx hb dX9_within_9 rfl (lv_at hl 0 rfl) ?_
    refine lv_iload_n hx hb dX9_within_10 rfl (lv_at hl 2 rfl) ?_
    refine lv_icmp_le (tgt := 18) hx hb dX9_within_11 (by decide) (fun hc => ?_) (fun hc => ?_)
    · have hM := e_ip hc hM
      refine lv_iload_n hx hb dX9_within_18 rfl (lv_at hl 0 rfl) ?_
      obtain rfl := e_so hM
      exact e_iret E J dX9_within_19
    · have hM := e_in hc hM
      refine lv_iload_n hx hb dX9_within_14 rfl (lv_at hl 2 rfl) ?_
      refine lv_goto (tgt := 19) hx hb dX9_within_15 (by decide) ?_
      obtain rfl := e_so hM
      exact e_iret E J dX9_within_19
  · have hM := e_in hc hM
    refine lv_iload_n hx hb dX9_within_5 rfl (lv_at hl 1 rfl) ?_
    refine lv_goto (tgt := 19) hx hb dX9_within_6 (by decide) ?_
    obtain rfl := e_so hM
    exact e_iret E J dX9_within_19
set_option maxRecDepth 100000 in
set_option maxHeartbeats 4000000 in
theorem mX9_plain {l : Launch} {G : e_G} (l0 : Nat) (l1 : Int32) (l2 : Int32) (l3 : Int32) (h : e_H) (res : (Int32 × e_H)) (hM : fX9_plain l0 l1 l2 l3 h = some res) : Met l yX9_plain (e_W yX9_plain cX9_plain 6 (some FieldType.int)) (e_rm 2 47) (e_Pc G h [.ref (e_ad G l0), .int l1, .int l2, .int l3]) (e_Q G res.2 (some (.int res.1))) 0 0 (e_A G) := by
  refine Met.ofW (cc := cX9_plain) (maxL := 6) (ret := (some FieldType.int)) (by decide) rfl ?_
  intro p e s m args below meth c s₁ B hml hv
  obtain ⟨rfl, hS, hP⟩ := hv
  have E := e_enter (own := RX9) (ret := (some FieldType.int)) B hml rfl hS hP
  have J : e_J G s h s.heap [] := ⟨hP, va_S.rf⟩
  have hl := lv_entry ([.ref (e_ad G l0), .int l1, .int l2, .int l3]) (n := 6) (Nat.le_of_ble_eq_true rfl)
  rw [lg_entry_eq]
  generalize (lg_sl ([.ref (e_ad G l0), .int l1, .int l2, .int l3]) ++ List.replicate (6 - (lg_sl ([.ref (e_ad G l0), .int l1, .int l2, .int l3])).length) Slot.unset).toArray = ls at hl ⊢
  have hl : lv_has ls 6 [(0, .ref (e_ad G l0)), (1, .int l1), (2, .int l2), (3, .int l3)] := hl
  obtain ⟨hx, hb, hr, hml, hown, hts, hlocks, hES, hbs⟩ := id E
  unfold fX9_plain at hM
  obtain ⟨fs_, hk_, hM⟩ := e_bs hM
  refine lv_aload_n hx hb dX9_plain_0 rfl (lv_at hl 0 rfl) ?_
  obtain ⟨v1, hv, hM⟩ := e_bs hM
  refine e_getR (C := RX9) (T := TX9) (N := 40) E J hv rfl inX9 (by decide) q_5_10 dX9_plain_1 ?_
  rcases v1 with _ | a2
  · have hM := e_on0 hM
    refine W.eq (g2 := F0 m 4 ls [.null]) rfl ?_
    refine lv_iload_n hx hb dX9_plain_4 rfl (lv_at hl 1 rfl) ?_
    refine lv_iload_n hx hb dX9_plain_5 rfl (lv_at hl 2 rfl) ?_
    refine lv_iload_n hx hb dX9_plain_6 rfl (lv_at hl 3 rfl) ?_
    obtain ⟨v3, hv, hM⟩ := e_bs hM
    refine e_callS (As := [.int l1, .int l2, .int l3]) (rest := [.null]) (n := 3) E J (mX9_spot (l := l) (G := G) l1 l2 l3 h _ hv) q_5_157 q_5_158 q_1_9 q_5_159 (by decide +kernel) rfl ⟨Nat.le_of_ble_eq_true rfl, Nat.le_of_ble_eq_true rfl⟩ (st0 := [.int l3, .int l2, .int l1, .null]) (st1 := [.int v3, .null]) rfl rfl hl.1 (Nat.le_of_ble_eq_true rfl) dX9_plain_7 ⟨Nat.le_refl _, Nat.le_refl _⟩ (fun H locs J => ?_)
    exact e_no hM
  · have hM := e_on1 hM
    refine W.eq (g2 := F0 m 4 ls [.ref (e_ad G a2)]) rfl ?_
    refine lv_iload_n hx hb dX9_plain_4 rfl (lv_at hl 1 rfl) ?_
    refine lv_iload_n hx hb dX9_plain_5 rfl (lv_at hl 2 rfl) ?_
    refine lv_iload_n hx hb dX9_plain_6 rfl (lv_at hl 3 rfl) ?_
    obtain ⟨v4, hv, hM⟩ := e_bs hM
    refine e_callS (As := [.int l1, .int l2, .int l3]) (rest := [.ref (e_ad G a2)]) (n := 3) E J (mX9_spot (l := l) (G := G) l1 l2 l3 h _ hv) q_5_157 q_5_158 q_1_9 q_5_159 (by decide +kernel) rfl ⟨Nat.le_of_ble_eq_true rfl, Nat.le_of_ble_eq_true rfl⟩ (st0 := [.int l3, .int l2, .int l1, .ref (e_ad G a2)]) (st1 := [.int v4, .ref (e_ad G a2)]) rfl rfl hl.1 (Nat.le_of_ble_eq_true rfl) dX9_plain_7 ⟨Nat.le_refl _, Nat.le_refl _⟩ (fun H locs J => ?_)
    obtain ⟨v5, hv, hM⟩ := e_bs hM
    refine e_iald E J hv dX9_plain_10 ?_
    refine lv_istore (lv' := [(4, .int v5), (0, .ref (e_ad G l0)), (1, .int l1), (2, .int l2), (3, .int l3)]) hx hb dX9_plain_11 hl (by decide) rfl (fun ls hl => ?_)
    refine lv_aload_n hx hb dX9_plain_13 rfl (lv_at hl 1 rfl) ?_
    refine lv_iconst (v := nI 0) hx hb dX9_plain_14 (by decide) ?_
    obtain ⟨v6, hv, hM⟩ := e_bs hM
    obtain ⟨fs_, hk, -⟩ := e_bs hv
    refine e_callV (ci := 9) (As := [.int (nI 0)]) (rest := []) (n := 1) E J hk rfl (mX9_counts (l := l) (G := G) l0 (nI 0) h _ hv) q_5_176 q_5_178 q_p_20 q_1_9 q_5_179 (by decide +kernel) rfl ⟨Nat.le_of_ble_eq_true rfl, Nat.le_of_ble_eq_true rfl⟩ (st0 := [.int (nI 0), .ref (e_ad G l0)]) (st1 := [.int v6]) rfl rfl hl.1 (Nat.le_of_ble_eq_true rfl) dX9_plain_15 ⟨Nat.le_refl _, Nat.le_refl _⟩ (fun H locs J => ?_)
    refine lv_istore (lv' := [(5, .int v6), (4, .int v5), (0, .ref (e_ad G l0)), (1, .int l1), (2, .int l2), (3, .int l3)]) hx hb dX9_plain_18 hl (by decide) rfl (fun ls hl => ?_)
    refine lv_aload_n hx hb dX9_plain_20 rfl (lv_at hl 2 rfl) ?_
    obtain ⟨v7, hv, hM⟩ := e_bs hM
    refine e_getR (C := RX9) (T := TX9) (N := 40) E J hv rfl inX9 (by decide) q_5_39 dX9_plain_21 ?_
    rcases v7 with _ | a8
    · have hM := e_on0 hM
      refine W.eq (g2 := F0 m 24 ls [.null]) rfl ?_
      refine lv_iconst (v := nI 0) hx hb dX9_plain_24 (by decide) ?_
      refine lv_iload_n hx hb dX9_plain_25 rfl (lv_at hl 4 rfl) ?_
      exact e_no hM
    · have hM := e_on1 hM
      refine W.eq (g2 := F0 m 24 ls [.ref (e_ad G a8)]) rfl ?_
      refine lv_iconst (v := nI 0) hx hb dX9_plain_24 (by decide) ?_
      refine lv_iload_n hx hb dX9_plain_25 rfl (lv_at hl 4 rfl) ?_
      obtain ⟨h10, hv, hM⟩ := e_bs hM
      refine e_iast E J hv dX9_plain_26 (fun H locs J => ?_)
      refine lv_aload_n hx hb dX9_plain_27 rfl (lv_at hl 2 rfl) ?_
      obtain ⟨v11, hv, hM⟩ := e_bs hM
      refine e_getR (C := RX9) (T := TX9) (N := 40) E J hv rfl inX9 (by decide) q_5_39 dX9_plain_28 ?_
      rcases v11 with _ | a12
      · have hM := e_on0 hM
        refine W.eq (g2 := F0 m 31 ls [.null]) rfl ?_
        refine lv_iconst (v := nI 1) hx hb dX9_plain_31 (by decide) ?_
        refine lv_iload_n hx hb dX9_plain_32 rfl (lv_at hl 5 rfl) ?_
        exact e_no hM
      · have hM := e_on1 hM
        refine W.eq (g2 := F0 m 31 ls [.ref (e_ad G a12)]) rfl ?_
        refine lv_iconst (v := nI 1) hx hb dX9_plain_31 (by decide) ?_
        refine lv_iload_n hx hb dX9_plain_32 rfl (lv_at hl 5 rfl) ?_
        obtain ⟨h14, hv, hM⟩ := e_bs hM
        refine e_iast E J hv dX9_plain_33 (fun H locs J => ?_)
        refine lv_aload_n hx hb dX9_plain_34 rfl (lv_at hl 2 rfl) ?_
        obtain ⟨v15, hv, hM⟩ := e_bs hM
        refine e_getR (C := RX9) (T := TX9) (N := 40) E J hv rfl inX9 (by decide) q_5_39 dX9_plain_35 ?_
        rcases v15 with _ | a16
        · have hM := e_on0 hM
          refine W.eq (g2 := F0 m 38 ls [.null]) rfl ?_
          refine lv_iconst (v := nI 2) hx hb dX9_plain_38 (by decide) ?_
          refine lv_iload hx hb dX9_plain_39 (lv_at hl 1 rfl) ?_
          exact e_no hM
        · have hM := e_on1 hM
          refine W.eq (g2 := F0 m 38 ls [.ref (e_ad G a16)]) rfl ?_
          refine lv_iconst (v := nI 2) hx hb dX9_plain_38 (by decide) ?_
          refine lv_iload hx hb dX9_plain_39 (lv_at hl 1 rfl) ?_
          obtain ⟨h18, hv, hM⟩ := e_bs hM
          refine e_iast E J hv dX9_plain_41 (fun H locs J => ?_)
          refine lv_iload hx hb dX9_plain_42 (lv_at hl 0 rfl) ?_
          refine lv_if_ge (tgt := 52) hx hb dX9_plain_44 (by decide) (fun hc => ?_) (fun hc => ?_)
          · have hM := e_ip hc hM
            refine lv_aload_n hx hb dX9_plain_52 rfl (lv_at hl 2 rfl) ?_
            refine lv_iload hx hb dX9_plain_53 (lv_at hl 0 rfl) ?_
            obtain ⟨p19, hv, hM⟩ := e_bs hM
            obtain ⟨fs_, hk, -⟩ := e_bs hv
            refine e_callV (ci := 9) (As := [.int v6]) (rest := []) (n := 1) E J hk rfl (mX9_worksOut (l := l) (G := G) l0 v6 h18 _ hv) q_5_180 q_5_182 q_p_21 q_1_9 q_5_183 (by decide +kernel) rfl ⟨Nat.le_of_ble_eq_true rfl, Nat.le_of_ble_eq_true rfl⟩ (st0 := [.int v6, .ref (e_ad G l0)]) (st1 := [.int p19.1]) rfl rfl hl.1 (Nat.le_of_ble_eq_true rfl) dX9_plain_55 ⟨Nat.le_refl _, Nat.le_refl _⟩ (fun H locs J => ?_)
            refine lv_bipush (v := -99) hx hb dX9_plain_58 (by decide) ?_
            refine lv_bipush (v := nI 99) hx hb dX9_plain_60 (by decide) ?_
            obtain ⟨v20, hv, hM⟩ := e_bs hM
            refine e_callS (As := [.int p19.1, .int (-99 : Int32), .int (nI 99)]) (rest := []) (n := 3) E J (mX9_within (l := l) (G := G) p19.1 (-99 : Int32) (nI 99) p19.2 _ hv) q_5_187 q_5_188 q_1_9 q_5_189 (by decide +kernel) rfl ⟨Nat.le_of_ble_eq_true rfl, Nat.le_of_ble_eq_true rfl⟩ (st0 := [.int (nI 99), .int (-99 : Int32), .int p19.1]) (st1 := [.int v20]) rfl rfl hl.1 (Nat.le_of_ble_eq_true rfl) dX9_plain_62 ⟨Nat.le_refl _, Nat.le_refl _⟩ (fun H locs J => ?_)
            obtain rfl := e_so hM
            exact e_iret E J dX9_plain_65
          · have hM := e_in hc hM
            refine lv_iload hx hb dX9_plain_47 (lv_at hl 1 rfl) ?_
            refine lv_goto (tgt := 65) hx hb dX9_plain_49 (by decide) ?_
            obtain rfl := e_so hM
            exact e_iret E J dX9_plain_65
set_option maxRecDepth 100000 in
set_option maxHeartbeats 4000000 in
theorem mX9_termOf {l : Launch} {G : e_G} (l0 : Nat) (l1 : Int32) (l2 : Int32) (l3 : Int32) (h : e_H) (res : (Int32 × e_H)) (hM : fX9_termOf l0 l1 l2 l3 h = some res) : Met l yX9_termOf (e_W yX9_termOf cX9_termOf 4 (some FieldType.int)) (e_rm 3 72) (e_Pc G h [.ref (e_ad G l0), .int l1, .int l2, .int l3]) (e_Q G res.2 (some (.int res.1))) 0 0 (e_A G) := by
  refine Met.ofW (cc := cX9_termOf) (maxL := 4) (ret := (some FieldType.int)) (by decide) rfl ?_
  intro p e s m args below meth c s₁ B hml hv
  obtain ⟨rfl, hS, hP⟩ := hv
  have E := e_enter (own := RX9) (ret := (some FieldType.int)) B hml rfl hS hP
  have J : e_J G s h s.heap [] := ⟨hP, va_S.rf⟩
  have hl := lv_entry ([.ref (e_ad G l0), .int l1, .int l2, .int l3]) (n := 4) (Nat.le_of_ble_eq_true rfl)
  rw [lg_entry_eq]
  generalize (lg_sl ([.ref (e_ad G l0), .int l1, .int l2, .int l3]) ++ List.replicate (4 - (lg_sl ([.ref (e_ad G l0), .int l1, .int l2, .int l3])).length) Slot.unset).toArray = ls at hl ⊢
  have hl : lv_has ls 4 [(0, .ref (e_ad G l0)), (1, .int l1), (2, .int l2), (3, .int l3)] := hl
  obtain ⟨hx, hb, hr, hml, hown, hts, hlocks, hES, hbs⟩ := id E
  unfold fX9_termOf at hM
  obtain ⟨fs_, hk_, hM⟩ := e_bs hM
  refine lv_aload_n hx hb dX9_termOf_0 rfl (lv_at hl 0 rfl) ?_
  refine lv_iload_n hx hb dX9_termOf_1 rfl (lv_at hl 1 rfl) ?_
  obtain ⟨v1, hv, hM⟩ := e_bs hM
  obtain ⟨fs_, hk, -⟩ := e_bs hv
  refine e_callV (ci := 9) (As := [.int l1]) (rest := []) (n := 1) E J hk rfl (mX9_kindOf (l := l) (G := G) l0 l1 h _ hv) q_5_168 q_5_170 q_p_18 q_1_9 q_5_171 (by decide +kernel) rfl ⟨Nat.le_of_ble_eq_true rfl, Nat.le_of_ble_eq_true rfl⟩ (st0 := [.int l1, .ref (e_ad G l0)]) (st1 := [.int v1]) rfl rfl hl.1 (Nat.le_of_ble_eq_true rfl) dX9_termOf_2 ⟨Nat.le_refl _, Nat.le_refl _⟩ (fun H locs J => ?_)
  by_cases hc0 : v1 = nI 1
  · have hM := e_ip hc0 hM
    refine e_tin (y := nI 1) (off := 35) (tgt := 40) hx hb dX9_termOf_5 hc0 (by decide) (by decide) (by decide +kernel) (by decide) ?_
    refine lv_aload_n hx hb dX9_termOf_40 rfl (lv_at hl 0 rfl) ?_
    refine lv_iload_n hx hb dX9_termOf_41 rfl (lv_at hl 1 rfl) ?_
    refine lv_iload_n hx hb dX9_termOf_42 rfl (lv_at hl 3 rfl) ?_
    refine lv_iload_n hx hb dX9_termOf_43 rfl (lv_at hl 2 rfl) ?_
    obtain ⟨p2, hv, hM⟩ := e_bs hM
    obtain ⟨fs_, hk, -⟩ := e_bs hv
    refine e_callV (ci := 9) (As := [.int l1, .int l3, .int l2]) (rest := []) (n := 3) E J hk rfl (mX9_plain (l := l) (G := G) l0 l1 l3 l2 h _ hv) q_5_172 q_5_174 q_p_19 q_1_9 q_5_175 (by decide +kernel) rfl ⟨Nat.le_of_ble_eq_true rfl, Nat.le_of_ble_eq_true rfl⟩ (st0 := [.int l2, .int l3, .int l1, .ref (e_ad G l0)]) (st1 := [.int p2.1]) rfl rfl hl.1 (Nat.le_of_ble_eq_true rfl) dX9_termOf_44 ⟨Nat.le_refl _, Nat.le_refl _⟩ (fun H locs J => ?_)
    obtain rfl := e_so hM
    exact e_iret E J dX9_termOf_47
  have hM := e_in hc0 hM
  by_cases hc1 : v1 = nI 2
  · have hM := e_ip hc1 hM
    refine e_tin (y := nI 2) (off := 43) (tgt := 48) hx hb dX9_termOf_5 hc1 (by decide) (by decide) (by decide +kernel) (by decide) ?_
    refine lv_iload_n hx hb dX9_termOf_48 rfl (lv_at hl 2 rfl) ?_
    refine lv_iconst (v := nI 2) hx hb dX9_termOf_49 (by decide) ?_
    refine lv_irem hx hb dX9_termOf_50 (by decide) ?_
    refine lv_iconst (v := nI 1) hx hb dX9_termOf_51 (by decide) ?_
    refine lv_icmp_ne (tgt := 66) hx hb dX9_termOf_52 (by decide) (fun hc => ?_) (fun hc => ?_)
    · have hM := e_in hc hM
      refine lv_aload_n hx hb dX9_termOf_66 rfl (lv_at hl 0 rfl) ?_
      refine lv_iload_n hx hb dX9_termOf_67 rfl (lv_at hl 1 rfl) ?_
      refine lv_iload_n hx hb dX9_termOf_68 rfl (lv_at hl 2 rfl) ?_
      refine lv_iload_n hx hb dX9_termOf_69 rfl (lv_at hl 3 rfl) ?_
      obtain ⟨p4, hv, hM⟩ := e_bs hM
      obtain ⟨fs_, hk, -⟩ := e_bs hv
      refine e_callV (ci := 9) (As := [.int l1, .int l2, .int l3]) (rest := []) (n := 3) E J hk rfl (mX9_plain (l := l) (G := G) l0 l1 l2 l3 h _ hv) q_5_172 q_5_174 q_p_19 q_1_9 q_5_175 (by decide +kernel) rfl ⟨Nat.le_of_ble_eq_true rfl, Nat.le_of_ble_eq_true rfl⟩ (st0 := [.int l3, .int l2, .int l1, .ref (e_ad G l0)]) (st1 := [.int p4.1]) rfl rfl hl.1 (Nat.le_of_ble_eq_true rfl) dX9_termOf_70 ⟨Nat.le_refl _, Nat.le_refl _⟩ (fun H locs J => ?_)
      obtain rfl := e_so hM
      exact e_iret E J dX9_termOf_73
    · have hM := e_ip hc hM
      refine lv_aload_n hx hb dX9_termOf_55 rfl (lv_at hl 0 rfl) ?_
      refine lv_iload_n hx hb dX9_termOf_56 rfl (lv_at hl 1 rfl) ?_
      refine lv_iload_n hx hb dX9_termOf_57 rfl (lv_at hl 2 rfl) ?_
      refine lv_iload_n hx hb dX9_termOf_58 rfl (lv_at hl 3 rfl) ?_
      obtain ⟨p3, hv, hM⟩ := e_bs hM
      obtain ⟨fs_, hk, -⟩ := e_bs hv
      refine e_callV (ci := 9) (As := [.int l1, .int l2, .int l3]) (rest := []) (n := 3) E J hk rfl (mX9_plain (l := l) (G := G) l0 l1 l2 l3 h _ hv) q_5_172 q_5_174 q_p_19 q_1_9 q_5_175 (by decide +kernel) rfl ⟨Nat.le_of_ble_eq_true rfl, Nat.le_of_ble_eq_true rfl⟩ (st0 := [.int l3, .int l2, .int l1, .ref (e_ad G l0)]) (st1 := [.int p3.1]) rfl rfl hl.1 (Nat.le_of_ble_eq_true rfl) dX9_termOf_59 ⟨Nat.le_refl _, Nat.le_refl _⟩ (fun H locs J => ?_)
      refine lv_ineg hx hb dX9_termOf_62 ?_
      refine lv_goto (tgt := 73) hx hb dX9_termOf_63 (by decide) ?_
      obtain rfl := e_so hM
      exact e_iret E J dX9_termOf_73
  have hM := e_in hc1 hM
  by_cases hc2 : v1 = nI 3
  · have hM := e_ip hc2 hM
    refine e_tin (y := nI 3) (off := 69) (tgt := 74) hx hb dX9_termOf_5 hc2 (by decide) (by decide) (by decide +kernel) (by decide) ?_
    refine lv_aload_n hx hb dX9_termOf_74 rfl (lv_at hl 0 rfl) ?_
    refine lv_iload_n hx hb dX9_termOf_75 rfl (lv_at hl 1 rfl) ?_
    refine lv_iload_n hx hb dX9_termOf_76 rfl (lv_at hl 3 rfl) ?_
    refine lv_iload_n hx hb dX9_termOf_77 rfl (lv_at hl 2 rfl) ?_
    obtain ⟨p5, hv, hM⟩ := e_bs hM
    obtain ⟨fs_, hk, -⟩ := e_bs hv
    refine e_callV (ci := 9) (As := [.int l1, .int l3, .int l2]) (rest := []) (n := 3) E J hk rfl (mX9_plain (l := l) (G := G) l0 l1 l3 l2 h _ hv) q_5_172 q_5_174 q_p_19 q_1_9 q_5_175 (by decide +kernel) rfl ⟨Nat.le_of_ble_eq_true rfl, Nat.le_of_ble_eq_true rfl⟩ (st0 := [.int l2, .int l3, .int l1, .ref (e_ad G l0)]) (st1 := [.int p5.1]) rfl rfl hl.1 (Nat.le_of_ble_eq_true rfl) dX9_termOf_78 ⟨Nat.le_refl _, Nat.le_refl _⟩ (fun H locs J => ?_)
    refine lv_ineg hx hb dX9_termOf_81 ?_
    obtain rfl := e_so hM
    exact e_iret E J dX9_termOf_82
  have hM := e_in hc2 hM
  by_cases hc3 : v1 = nI 4
  · have hM := e_ip hc3 hM
    refine e_tin (y := nI 4) (off := 78) (tgt := 83) hx hb dX9_termOf_5 hc3 (by decide) (by decide) (by decide +kernel) (by decide) ?_
    refine lv_iconst (v := nI 2) hx hb dX9_termOf_83 (by decide) ?_
    refine lv_iload_n hx hb dX9_termOf_84 rfl (lv_at hl 2 rfl) ?_
    refine lv_iconst (v := nI 2) hx hb dX9_termOf_85 (by decide) ?_
    refine lv_irem hx hb dX9_termOf_86 (by decide) ?_
    refine lv_iconst (v := nI 1) hx hb dX9_termOf_87 (by decide) ?_
    refine lv_icmp_ne (tgt := 102) hx hb dX9_termOf_88 (by decide) (fun hc => ?_) (fun hc => ?_)
    · have hM := e_in hc hM
      refine lv_aload_n hx hb dX9_termOf_102 rfl (lv_at hl 0 rfl) ?_
      refine lv_iload_n hx hb dX9_termOf_103 rfl (lv_at hl 1 rfl) ?_
      refine lv_iload_n hx hb dX9_termOf_104 rfl (lv_at hl 2 rfl) ?_
      refine lv_iload_n hx hb dX9_termOf_105 rfl (lv_at hl 3 rfl) ?_
      obtain ⟨p7, hv, hM⟩ := e_bs hM
      obtain ⟨fs_, hk, -⟩ := e_bs hv
      refine e_callV (ci := 9) (As := [.int l1, .int l2, .int l3]) (rest := [.int (nI 2)]) (n := 3) E J hk rfl (mX9_plain (l := l) (G := G) l0 l1 l2 l3 h _ hv) q_5_172 q_5_174 q_p_19 q_1_9 q_5_175 (by decide +kernel) rfl ⟨Nat.le_of_ble_eq_true rfl, Nat.le_of_ble_eq_true rfl⟩ (st0 := [.int l3, .int l2, .int l1, .ref (e_ad G l0), .int (nI 2)]) (st1 := [.int p7.1, .int (nI 2)]) rfl rfl hl.1 (Nat.le_of_ble_eq_true rfl) dX9_termOf_106 ⟨Nat.le_refl _, Nat.le_refl _⟩ (fun H locs J => ?_)
      refine lv_imul hx hb dX9_termOf_109 ?_
      obtain rfl := e_so hM
      exact e_iret E J dX9_termOf_110
    · have hM := e_ip hc hM
      refine lv_aload_n hx hb dX9_termOf_91 rfl (lv_at hl 0 rfl) ?_
      refine lv_iload_n hx hb dX9_termOf_92 rfl (lv_at hl 1 rfl) ?_
      refine lv_iload_n hx hb dX9_termOf_93 rfl (lv_at hl 2 rfl) ?_
      refine lv_iload_n hx hb dX9_termOf_94 rfl (lv_at hl 3 rfl) ?_
      obtain ⟨p6, hv, hM⟩ := e_bs hM
      obtain ⟨fs_, hk, -⟩ := e_bs hv
      refine e_callV (ci := 9) (As := [.int l1, .int l2, .int l3]) (rest := [.int (nI 2)]) (n := 3) E J hk rfl (mX9_plain (l := l) (G := G) l0 l1 l2 l3 h _ hv) q_5_172 q_5_174 q_p_19 q_1_9 q_5_175 (by decide +kernel) rfl ⟨Nat.le_of_ble_eq_true rfl, Nat.le_of_ble_eq_true rfl⟩ (st0 := [.int l3, .int l2, .int l1, .ref (e_ad G l0), .int (nI 2)]) (st1 := [.int p6.1, .int (nI 2)]) rfl rfl hl.1 (Nat.le_of_ble_eq_true rfl) dX9_termOf_95 ⟨Nat.le_refl _, Nat.le_refl _⟩ (fun H locs J => ?_)
      refine lv_ineg hx hb dX9_termOf_98 ?_
      refine lv_goto (tgt := 109) hx hb dX9_termOf_99 (by decide) ?_
      refine lv_imul hx hb dX9_termOf_109 ?_
      obtain rfl := e_so hM
      exact e_iret E J dX9_termOf_110
  have hM := e_in hc3 hM
  by_cases hc4 : v1 = nI 5
  · have hM := e_ip hc4 hM
    refine e_tin (y := nI 5) (off := 106) (tgt := 111) hx hb dX9_termOf_5 hc4 (by decide) (by decide) (by decide +kernel) (by decide) ?_
    refine lv_iload_n hx hb dX9_termOf_111 rfl (lv_at hl 3 rfl) ?_
    refine lv_if_ne (tgt := 125) hx hb dX9_termOf_112 (by decide) (fun hc => ?_) (fun hc => ?_)
    · have hM := e_in hc hM
      refine lv_iconst (v := nI 0) hx hb dX9_termOf_125 (by decide) ?_
      obtain rfl := e_so hM
      exact e_iret E J dX9_termOf_126
    · have hM := e_ip hc hM
      refine lv_aload_n hx hb dX9_termOf_115 rfl (lv_at hl 0 rfl) ?_
      refine lv_iload_n hx hb dX9_termOf_116 rfl (lv_at hl 1 rfl) ?_
      refine lv_iload_n hx hb dX9_termOf_117 rfl (lv_at hl 2 rfl) ?_
      refine lv_iload_n hx hb dX9_termOf_118 rfl (lv_at hl 3 rfl) ?_
      obtain ⟨p8, hv, hM⟩ := e_bs hM
      obtain ⟨fs_, hk, -⟩ := e_bs hv
      refine e_callV (ci := 9) (As := [.int l1, .int l2, .int l3]) (rest := []) (n := 3) E J hk rfl (mX9_plain (l := l) (G := G) l0 l1 l2 l3 h _ hv) q_5_172 q_5_174 q_p_19 q_1_9 q_5_175 (by decide +kernel) rfl ⟨Nat.le_of_ble_eq_true rfl, Nat.le_of_ble_eq_true rfl⟩ (st0 := [.int l3, .int l2, .int l1, .ref (e_ad G l0)]) (st1 := [.int p8.1]) rfl rfl hl.1 (Nat.le_of_ble_eq_true rfl) dX9_termOf_119 ⟨Nat.le_refl _, Nat.le_refl _⟩ (fun H locs J => ?_)
      refine lv_goto (tgt := 126) hx hb dX9_termOf_122 (by decide) ?_
      obtain rfl := e_so hM
      exact e_iret E J dX9_termOf_126
  have hM := e_in hc4 hM
  refine lv_tableOut (tgt := 127) hx hb dX9_termOf_5 (Classical.byContradiction fun hn => by
      have h9 : v1.toInt = 1 ∨ v1.toInt = 2 ∨ v1.toInt = 3 ∨ v1.toInt = 4 ∨ v1.toInt = 5 := by omega
      rcases h9 with h9 | h9 | h9 | h9 | h9
      · exact hc0 (e_i32 (h9.trans (by decide)))
      · exact hc1 (e_i32 (h9.trans (by decide)))
      · exact hc2 (e_i32 (h9.trans (by decide)))
      · exact hc3 (e_i32 (h9.trans (by decide)))
      · exact hc4 (e_i32 (h9.trans (by decide)))) (by decide) ?_
  refine lv_aload_n hx hb dX9_termOf_127 rfl (lv_at hl 0 rfl) ?_
  refine lv_iload_n hx hb dX9_termOf_128 rfl (lv_at hl 1 rfl) ?_
  refine lv_iload_n hx hb dX9_termOf_129 rfl (lv_at hl 2 rfl) ?_
  refine lv_iload_n hx hb dX9_termOf_130 rfl (lv_at hl 3 rfl) ?_
  obtain ⟨p9, hv, hM⟩ := e_bs hM
  obtain ⟨fs_, hk, -⟩ := e_bs hv
  refine e_callV (ci := 9) (As := [.int l1, .int l2, .int l3]) (rest := []) (n := 3) E J hk rfl (mX9_plain (l := l) (G := G) l0 l1 l2 l3 h _ hv) q_5_172 q_5_174 q_p_19 q_1_9 q_5_175 (by decide +kernel) rfl ⟨Nat.le_of_ble_eq_true rfl, Nat.le_of_ble_eq_true rfl⟩ (st0 := [.int l3, .int l2, .int l1, .ref (e_ad G l0)]) (st1 := [.int p9.1]) rfl rfl hl.1 (Nat.le_of_ble_eq_true rfl) dX9_termOf_131 ⟨Nat.le_refl _, Nat.le_refl _⟩ (fun H locs J => ?_)
  obtain rfl := e_so hM
  exact e_iret E J dX9_termOf_134
set_option maxRecDepth 100000 in
set_option maxHeartbeats 4000000 in
theorem mX9_term {l : Launch} {G : e_G} (l0 : Nat) (l1 : Int32) (l2 : Int32) (l3 : Int32) (h : e_H) (res : (Int32 × e_H)) (hM : fX9_term l0 l1 l2 l3 h = some res) : Met l yX9_term (e_W yX9_term cX9_term 4 (some FieldType.int)) (e_rm 4 95) (e_Pc G h [.ref (e_ad G l0), .int l1, .int l2, .int l3]) (e_Q G res.2 (some (.int res.1))) 0 0 (e_A G) := by
  refine Met.ofW (cc := cX9_term) (maxL := 4) (ret := (some FieldType.int)) (by decide) rfl ?_
  intro p e s m args below meth c s₁ B hml hv
  obtain ⟨rfl, hS, hP⟩ := hv
  have E := e_enter (own := RX9) (ret := (some FieldType.int)) B hml rfl hS hP
  have J : e_J G s h s.heap [] := ⟨hP, va_S.rf⟩
  have hl := lv_entry ([.ref (e_ad G l0), .int l1, .int l2, .int l3]) (n := 4) (Nat.le_of_ble_eq_true rfl)
  rw [lg_entry_eq]
  generalize (lg_sl ([.ref (e_ad G l0), .int l1, .int l2, .int l3]) ++ List.replicate (4 - (lg_sl ([.ref (e_ad G l0), .int l1, .int l2, .int l3])).length) Slot.unset).toArray = ls at hl ⊢
  have hl : lv_has ls 4 [(0, .ref (e_ad G l0)), (1, .int l1), (2, .int l2), (3, .int l3)] := hl
  obtain ⟨hx, hb, hr, hml, hown, hts, hlocks, hES, hbs⟩ := id E
  unfold fX9_term at hM
  obtain ⟨fs_, hk_, hM⟩ := e_bs hM
  refine lv_aload_n hx hb dX9_term_0 rfl (lv_at hl 0 rfl) ?_
  refine lv_iload_n hx hb dX9_term_1 rfl (lv_at hl 1 rfl) ?_
  obtain ⟨v1, hv, hM⟩ := e_bs hM
  obtain ⟨fs_, hk, -⟩ := e_bs hv
  refine e_callV (ci := 9) (As := [.int l1]) (rest := []) (n := 1) E J hk rfl (mX9_isCurve (l := l) (G := G) l0 l1 h _ hv) q_5_150 q_5_152 q_p_16 q_1_9 q_5_153 (by decide +kernel) rfl ⟨Nat.le_of_ble_eq_true rfl, Nat.le_of_ble_eq_true rfl⟩ (st0 := [.int l1, .ref (e_ad G l0)]) (st1 := [.int (e_b v1)]) rfl rfl hl.1 (Nat.le_of_ble_eq_true rfl) dX9_term_2 ⟨Nat.le_refl _, Nat.le_refl _⟩ (fun H locs J => ?_)
  refine lv_if_eq (tgt := 24) hx hb dX9_term_5 (by decide) (fun hc => ?_) (fun hc => ?_)
  · have hM := e_ip hc hM
    refine lv_ldc (v := -1000000001) hx hb hown (hts _ q_5_140) dX9_term_24 ?_
    obtain rfl := e_so hM
    exact e_iret E J dX9_term_26
  · have hM := e_in hc hM
    refine lv_iload_n hx hb dX9_term_8 rfl (lv_at hl 2 rfl) ?_
    obtain ⟨v2, hv, hM⟩ := e_bs hM
    refine e_callS (As := [.int l2]) (rest := []) (n := 1) E J (mX9_isAt (l := l) (G := G) l2 h _ hv) q_5_154 q_5_155 q_1_9 q_5_156 (by decide +kernel) rfl ⟨Nat.le_of_ble_eq_true rfl, Nat.le_of_ble_eq_true rfl⟩ (st0 := [.int l2]) (st1 := [.int (e_b v2)]) rfl rfl hl.1 (Nat.le_of_ble_eq_true rfl) dX9_term_9 ⟨Nat.le_refl _, Nat.le_refl _⟩ (fun H locs J => ?_)
    refine lv_if_eq (tgt := 24) hx hb dX9_term_12 (by decide) (fun hc => ?_) (fun hc => ?_)
    · have hM := e_ip hc hM
      refine lv_ldc (v := -1000000001) hx hb hown (hts _ q_5_140) dX9_term_24 ?_
      obtain rfl := e_so hM
      exact e_iret E J dX9_term_26
    · have hM := e_in hc hM
      refine lv_iload_n hx hb dX9_term_15 rfl (lv_at hl 3 rfl) ?_
      refine lv_iconst (v := nI 0) hx hb dX9_term_16 (by decide) ?_
      refine lv_iconst (v := nI 1) hx hb dX9_term_17 (by decide) ?_
      obtain ⟨v3, hv, hM⟩ := e_bs hM
      refine e_callS (As := [.int l3, .int (nI 0), .int (nI 1)]) (rest := []) (n := 3) E J (mX9_in (l := l) (G := G) l3 (nI 0) (nI 1) h _ hv) q_5_137 q_5_138 q_1_9 q_5_139 (by decide +kernel) rfl ⟨Nat.le_of_ble_eq_true rfl, Nat.le_of_ble_eq_true rfl⟩ (st0 := [.int (nI 1), .int (nI 0), .int l3]) (st1 := [.int (e_b v3)]) rfl rfl hl.1 (Nat.le_of_ble_eq_true rfl) dX9_term_18 ⟨Nat.le_refl _, Nat.le_refl _⟩ (fun H locs J => ?_)
      refine lv_if_ne (tgt := 27) hx hb dX9_term_21 (by decide) (fun hc => ?_) (fun hc => ?_)
      · have hM := e_in hc hM
        refine lv_iload_n hx hb dX9_term_27 rfl (lv_at hl 3 rfl) ?_
        refine lv_if_ne (tgt := 51) hx hb dX9_term_28 (by decide) (fun hc => ?_) (fun hc => ?_)
        · have hM := e_in hc hM
          refine lv_aload_n hx hb dX9_term_51 rfl (lv_at hl 0 rfl) ?_
          refine lv_iload_n hx hb dX9_term_52 rfl (lv_at hl 1 rfl) ?_
          refine lv_iload_n hx hb dX9_term_53 rfl (lv_at hl 2 rfl) ?_
          refine lv_bipush (v := nI 10) hx hb dX9_term_54 (by decide) ?_
          refine lv_idiv hx hb dX9_term_56 (by decide) ?_
          refine lv_iload_n hx hb dX9_term_57 rfl (lv_at hl 2 rfl) ?_
          refine lv_bipush (v := nI 10) hx hb dX9_term_58 (by decide) ?_
          refine lv_irem hx hb dX9_term_60 (by decide) ?_
          obtain ⟨p9, hv, hM⟩ := e_bs hM
          obtain ⟨fs_, hk, -⟩ := e_bs hv
          refine e_callV (ci := 9) (As := [.int l1, .int (l2 / (nI 10)), .int (l2 - l2 / (nI 10) * (nI 10))]) (rest := []) (n := 3) E J hk rfl (mX9_termOf (l := l) (G := G) l0 l1 (l2 / (nI 10)) (l2 - l2 / (nI 10) * (nI 10)) h _ hv) q_5_164 q_5_166 q_p_17 q_1_9 q_5_167 (by decide +kernel) rfl ⟨Nat.le_of_ble_eq_true rfl, Nat.le_of_ble_eq_true rfl⟩ (st0 := [.int (l2 - l2 / (nI 10) * (nI 10)), .int (l2 / (nI 10)), .int l1, .ref (e_ad G l0)]) (st1 := [.int p9.1]) rfl rfl hl.1 (Nat.le_of_ble_eq_true rfl) dX9_term_61 ⟨Nat.le_refl _, Nat.le_refl _⟩ (fun H locs J => ?_)
          obtain rfl := e_so hM
          exact e_iret E J dX9_term_64
        · have hM := e_ip hc hM
          refine lv_aload_n hx hb dX9_term_31 rfl (lv_at hl 0 rfl) ?_
          obtain ⟨v4, hv, hM⟩ := e_bs hM
          refine e_getR (C := RX9) (T := TX9) (N := 40) E J hv rfl inX9 (by decide) q_5_10 dX9_term_32 ?_
          rcases v4 with _ | a5
          · have hM := e_on0 hM
            refine W.eq (g2 := F0 m 35 ls [.null]) rfl ?_
            refine lv_iload_n hx hb dX9_term_35 rfl (lv_at hl 1 rfl) ?_
            refine lv_iload_n hx hb dX9_term_36 rfl (lv_at hl 2 rfl) ?_
            refine lv_bipush (v := nI 10) hx hb dX9_term_37 (by decide) ?_
            refine lv_idiv hx hb dX9_term_39 (by decide) ?_
            refine lv_iload_n hx hb dX9_term_40 rfl (lv_at hl 2 rfl) ?_
            refine lv_bipush (v := nI 10) hx hb dX9_term_41 (by decide) ?_
            refine lv_irem hx hb dX9_term_43 (by decide) ?_
            obtain ⟨v6, hv, hM⟩ := e_bs hM
            refine e_callS (As := [.int l1, .int (l2 / (nI 10)), .int (l2 - l2 / (nI 10) * (nI 10))]) (rest := [.null]) (n := 3) E J (mX9_spot (l := l) (G := G) l1 (l2 / (nI 10)) (l2 - l2 / (nI 10) * (nI 10)) h _ hv) q_5_157 q_5_158 q_1_9 q_5_159 (by decide +kernel) rfl ⟨Nat.le_of_ble_eq_true rfl, Nat.le_of_ble_eq_true rfl⟩ (st0 := [.int (l2 - l2 / (nI 10) * (nI 10)), .int (l2 / (nI 10)), .int l1, .null]) (st1 := [.int v6, .null]) rfl rfl hl.1 (Nat.le_of_ble_eq_true rfl) dX9_term_44 ⟨Nat.le_refl _, Nat.le_refl _⟩ (fun H locs J => ?_)
            exact e_no hM
          · have hM := e_on1 hM
            refine W.eq (g2 := F0 m 35 ls [.ref (e_ad G a5)]) rfl ?_
            refine lv_iload_n hx hb dX9_term_35 rfl (lv_at hl 1 rfl) ?_
            refine lv_iload_n hx hb dX9_term_36 rfl (lv_at hl 2 rfl) ?_
            refine lv_bipush (v := nI 10) hx hb dX9_term_37 (by decide) ?_
            refine lv_idiv hx hb dX9_term_39 (by decide) ?_
            refine lv_iload_n hx hb dX9_term_40 rfl (lv_at hl 2 rfl) ?_
            refine lv_bipush (v := nI 10) hx hb dX9_term_41 (by decide) ?_
            refine lv_irem hx hb dX9_term_43 (by decide) ?_
            obtain ⟨v7, hv, hM⟩ := e_bs hM
            refine e_callS (As := [.int l1, .int (l2 / (nI 10)), .int (l2 - l2 / (nI 10) * (nI 10))]) (rest := [.ref (e_ad G a5)]) (n := 3) E J (mX9_spot (l := l) (G := G) l1 (l2 / (nI 10)) (l2 - l2 / (nI 10) * (nI 10)) h _ hv) q_5_157 q_5_158 q_1_9 q_5_159 (by decide +kernel) rfl ⟨Nat.le_of_ble_eq_true rfl, Nat.le_of_ble_eq_true rfl⟩ (st0 := [.int (l2 - l2 / (nI 10) * (nI 10)), .int (l2 / (nI 10)), .int l1, .ref (e_ad G a5)]) (st1 := [.int v7, .ref (e_ad G a5)]) rfl rfl hl.1 (Nat.le_of_ble_eq_true rfl) dX9_term_44 ⟨Nat.le_refl _, Nat.le_refl _⟩ (fun H locs J => ?_)
            obtain ⟨v8, hv, hM⟩ := e_bs hM
            refine e_iald E J hv dX9_term_47 ?_
            refine lv_goto (tgt := 64) hx hb dX9_term_48 (by decide) ?_
            obtain rfl := e_so hM
            exact e_iret E J dX9_term_64
      · have hM := e_ip hc hM
        refine lv_ldc (v := -1000000001) hx hb hown (hts _ q_5_140) dX9_term_24 ?_
        obtain rfl := e_so hM
        exact e_iret E J dX9_term_26
set_option maxRecDepth 100000 in
set_option maxHeartbeats 4000000 in
theorem mX9_manyOf_b32 {p : Program} {l : Launch} {e : Env} {s : State} {m : MethodId} {args : Array Value} {below : List Frame} {meth : Method} {c : Code} {G : e_G} {res : Int32} {k4 : Nat → Int32 → Int32 → Int32 → Option Int32} (E : e_M G p s args m meth c cX9_manyOf 4 (some FieldType.int) RX9) (h : e_H) (K4 : ∀ (l0 : Nat) (l1 : Int32) (l2 : Int32) (l3 : Int32), k4 l0 l1 l2 l3 = some res → ∀ (H : Heap) (locs : List Loc), e_J G s h H locs → ∀ (ls : Array Slot), lv_has ls 4 [(0, .ref (e_ad G l0)), (1, .int l1), (2, .int l2), (3, .int l3)] → W p l e (e_rm 0 0) s m args below meth c H locs 0 0 (MQ below (e_Q G h (some (.int res))) args s 0 0 (e_A G)) (F0 m 4 ls [])) (l0 : Nat) (l1 : Int32) (l3 : Int32) (t0 : Int32) (t1 : Int32) (hM : fX9_manyOf_b32 h k4 l0 l1 l3 t0 t1 = some res) {H : Heap} {locs : List Loc} (J : e_J G s h H locs) {ls : Array Slot} (hl : lv_has ls 4 [(0, .ref (e_ad G l0)), (1, .int l1), (3, .int l3)]) : W p l e (e_rm 0 0) s m args below meth c H locs 0 0 (MQ below (e_Q G h (some (.int res))) args s 0 0 (e_A G)) (F0 m 32 ls [.int t0, .int t1]) := by
  obtain ⟨hx, hb, hr, hml, hown, hts, hlocks, hES, hbs⟩ := id E
  unfold fX9_manyOf_b32 at hM
  refine lv_iadd hx hb dX9_manyOf_32 ?_
  refine lv_istore_n (lv' := [(2, .int (t1 + t0)), (0, .ref (e_ad G l0)), (1, .int l1), (3, .int l3)]) hx hb dX9_manyOf_33 rfl hl (by decide) rfl (fun ls hl => ?_)
  refine lv_iinc (v := (l3 + (nI 1))) (lv' := [(3, .int (l3 + (nI 1))), (2, .int (t1 + t0)), (0, .ref (e_ad G l0)), (1, .int l1)]) hx hb dX9_manyOf_34 hl (k := 3) rfl rfl (by decide) rfl (fun ls hl => ?_)
  refine lv_goto (tgt := 4) hx hb dX9_manyOf_37 (by decide) ?_
  exact K4 l0 l1 (t1 + t0) (l3 + (nI 1)) hM _ _ J _ (lv_sub hl [2, 3, 1, 0] rfl)
set_option maxRecDepth 100000 in
set_option maxHeartbeats 4000000 in
theorem mX9_manyOf_b4 {p : Program} {l : Launch} {e : Env} {s : State} {m : MethodId} {args : Array Value} {below : List Frame} {meth : Method} {c : Code} {G : e_G} {res : Int32} {k4 : Nat → Int32 → Int32 → Int32 → Option Int32} (E : e_M G p s args m meth c cX9_manyOf 4 (some FieldType.int) RX9) (h : e_H) (K4 : ∀ (l0 : Nat) (l1 : Int32) (l2 : Int32) (l3 : Int32), k4 l0 l1 l2 l3 = some res → ∀ (H : Heap) (locs : List Loc), e_J G s h H locs → ∀ (ls : Array Slot), lv_has ls 4 [(0, .ref (e_ad G l0)), (1, .int l1), (2, .int l2), (3, .int l3)] → W p l e (e_rm 0 0) s m args below meth c H locs 0 0 (MQ below (e_Q G h (some (.int res))) args s 0 0 (e_A G)) (F0 m 4 ls [])) (l0 : Nat) (l1 : Int32) (l2 : Int32) (l3 : Int32) (hM : fX9_manyOf_b4 h k4 l0 l1 l2 l3 = some res) {H : Heap} {locs : List Loc} (J : e_J G s h H locs) {ls : Array Slot} (hl : lv_has ls 4 [(0, .ref (e_ad G l0)), (1, .int l1), (2, .int l2), (3, .int l3)]) : W p l e (e_rm 0 0) s m args below meth c H locs 0 0 (MQ below (e_Q G h (some (.int res))) args s 0 0 (e_A G)) (F0 m 4 ls []) := by
  obtain ⟨hx, hb, hr, hml, hown, hts, hlocks, hES, hbs⟩ := id E
  unfold fX9_manyOf_b4 at hM
  refine lv_iload_n hx hb dX9_manyOf_4 rfl (lv_at hl 3 rfl) ?_
  refine lv_bipush (v := nI 16) hx hb dX9_manyOf_5 (by decide) ?_
  refine lv_icmp_ge (tgt := 40) hx hb dX9_manyOf_7 (by decide) (fun hc => ?_) (fun hc => ?_)
  · have hM := e_ip hc hM
    refine lv_iload_n hx hb dX9_manyOf_40 rfl (lv_at hl 2 rfl) ?_
    obtain rfl := e_so hM
    exact e_iret E J dX9_manyOf_41
  · have hM := e_in hc hM
    refine lv_iload_n hx hb dX9_manyOf_10 rfl (lv_at hl 2 rfl) ?_
    refine lv_aload_n hx hb dX9_manyOf_11 rfl (lv_at hl 0 rfl) ?_
    obtain ⟨v1, hv, hM⟩ := e_bs hM
    refine e_getR (C := RX9) (T := TX9) (N := 40) E J hv rfl inX9 (by decide) q_5_10 dX9_manyOf_12 ?_
    rcases v1 with _ | a2
    · have hM := e_on0 hM
      refine W.eq (g2 := F0 m 15 ls [.null, .int l2]) rfl ?_
      refine lv_iconst (v := nI 3) hx hb dX9_manyOf_15 (by decide) ?_
      refine lv_bipush (v := nI 16) hx hb dX9_manyOf_16 (by decide) ?_
      refine lv_iload_n hx hb dX9_manyOf_18 rfl (lv_at hl 1 rfl) ?_
      refine lv_imul hx hb dX9_manyOf_19 ?_
      refine lv_iadd hx hb dX9_manyOf_20 ?_
      refine lv_iload_n hx hb dX9_manyOf_21 rfl (lv_at hl 3 rfl) ?_
      refine lv_iadd hx hb dX9_manyOf_22 ?_
      exact e_no hM
    · have hM := e_on1 hM
      refine W.eq (g2 := F0 m 15 ls [.ref (e_ad G a2), .int l2]) rfl ?_
      refine lv_iconst (v := nI 3) hx hb dX9_manyOf_15 (by decide) ?_
      refine lv_bipush (v := nI 16) hx hb dX9_manyOf_16 (by decide) ?_
      refine lv_iload_n hx hb dX9_manyOf_18 rfl (lv_at hl 1 rfl) ?_
      refine lv_imul hx hb dX9_manyOf_19 ?_
      refine lv_iadd hx hb dX9_manyOf_20 ?_
      refine lv_iload_n hx hb dX9_manyOf_21 rfl (lv_at hl 3 rfl) ?_
      refine lv_iadd hx hb dX9_manyOf_22 ?_
      obtain ⟨v3, hv, hM⟩ := e_bs hM
      refine e_iald E J hv dX9_manyOf_23 ?_
      refine lv_if_eq (tgt := 31) hx hb dX9_manyOf_24 (by decide) (fun hc => ?_) (fun hc => ?_)
      · have hM := e_ip hc hM
        refine lv_iconst (v := nI 0) hx hb dX9_manyOf_31 (by decide) ?_
        exact mX9_manyOf_b32 E h K4 l0 l1 l3 (nI 0) l2 hM J (lv_sub hl [0, 1, 3] rfl)
      · have hM := e_in hc hM
        refine lv_iconst (v := nI 1) hx hb dX9_manyOf_27 (by decide) ?_
        refine lv_goto (tgt := 32) hx hb dX9_manyOf_28 (by decide) ?_
        exact mX9_manyOf_b32 E h K4 l0 l1 l3 (nI 1) l2 hM J (lv_sub hl [0, 1, 3] rfl)
set_option maxRecDepth 100000 in
set_option maxHeartbeats 4000000 in
theorem mX9_manyOf_L4 {p : Program} {l : Launch} {e : Env} {s : State} {m : MethodId} {args : Array Value} {below : List Frame} {meth : Method} {c : Code} {G : e_G} {res : Int32} (E : e_M G p s args m meth c cX9_manyOf 4 (some FieldType.int) RX9) (h : e_H) (n : Nat) (l0 : Nat) (l1 : Int32) (l2 : Int32) (l3 : Int32) (hM : fX9_manyOf_L4 h n l0 l1 l2 l3 = some res) {H : Heap} {locs : List Loc} (J : e_J G s h H locs) {ls : Array Slot} (hl : lv_has ls 4 [(0, .ref (e_ad G l0)), (1, .int l1), (2, .int l2), (3, .int l3)]) : W p l e (e_rm 0 0) s m args below meth c H locs 0 0 (MQ below (e_Q G h (some (.int res))) args s 0 0 (e_A G)) (F0 m 4 ls []) := by
  induction n generalizing l0 l1 l2 l3 H locs ls with
  | zero => exact e_no hM
  | succ n ih => exact mX9_manyOf_b4 (k4 := (fX9_manyOf_L4 h n)) E h  (fun l0 l1 l2 l3 hM H locs J ls hl => ih l0 l1 l2 l3 hM J hl) l0 l1 l2 l3 hM J hl
set_option maxRecDepth 100000 in
set_option maxHeartbeats 4000000 in
theorem mX9_manyOf {l : Launch} {G : e_G} (l0 : Nat) (l1 : Int32) (h : e_H) (res : Int32) (hM : fX9_manyOf l0 l1 h = some res) : Met l yX9_manyOf (e_W yX9_manyOf cX9_manyOf 4 (some FieldType.int)) (e_rm 0 0) (e_Pc G h [.ref (e_ad G l0), .int l1]) (e_Q G h (some (.int res))) 0 0 (e_A G) := by
  refine Met.ofW (cc := cX9_manyOf) (maxL := 4) (ret := (some FieldType.int)) (by decide) rfl ?_
  intro p e s m args below meth c s₁ B hml hv
  obtain ⟨rfl, hS, hP⟩ := hv
  have E := e_enter (own := RX9) (ret := (some FieldType.int)) B hml rfl hS hP
  have J : e_J G s h s.heap [] := ⟨hP, va_S.rf⟩
  have hl := lv_entry ([.ref (e_ad G l0), .int l1]) (n := 4) (Nat.le_of_ble_eq_true rfl)
  rw [lg_entry_eq]
  generalize (lg_sl ([.ref (e_ad G l0), .int l1]) ++ List.replicate (4 - (lg_sl ([.ref (e_ad G l0), .int l1])).length) Slot.unset).toArray = ls at hl ⊢
  have hl : lv_has ls 4 [(0, .ref (e_ad G l0)), (1, .int l1)] := hl
  obtain ⟨hx, hb, hr, hml, hown, hts, hlocks, hES, hbs⟩ := id E
  unfold fX9_manyOf at hM
  obtain ⟨fs_, hk_, hM⟩ := e_bs hM
  refine lv_iconst (v := nI 0) hx hb dX9_manyOf_0 (by decide) ?_
  refine lv_istore_n (lv' := [(2, .int (nI 0)), (0, .ref (e_ad G l0)), (1, .int l1)]) hx hb dX9_manyOf_1 rfl hl (by decide) rfl (fun ls hl => ?_)
  refine lv_iconst (v := nI 1) hx hb dX9_manyOf_2 (by decide) ?_
  refine lv_istore_n (lv' := [(3, .int (nI 1)), (2, .int (nI 0)), (0, .ref (e_ad G l0)), (1, .int l1)]) hx hb dX9_manyOf_3 rfl hl (by decide) rfl (fun ls hl => ?_)
  exact mX9_manyOf_L4 E h 200 l0 l1 (nI 0) (nI 1) hM J (lv_sub hl [2, 3, 1, 0] rfl)
set_option maxRecDepth 100000 in
set_option maxHeartbeats 4000000 in
theorem mX9_worthOf {l : Launch} {G : e_G} (l0 : Nat) (l1 : Int32) (h : e_H) (res : Int32) (hM : fX9_worthOf l0 l1 h = some res) : Met l yX9_worthOf (e_W yX9_worthOf cX9_worthOf 4 (some FieldType.int)) (e_rm 1 23) (e_Pc G h [.ref (e_ad G l0), .int l1]) (e_Q G h (some (.int res))) 0 0 (e_A G) := by
  refine Met.ofW (cc := cX9_worthOf) (maxL := 4) (ret := (some FieldType.int)) (by decide) rfl ?_
  intro p e s m args below meth c s₁ B hml hv
  obtain ⟨rfl, hS, hP⟩ := hv
  have E := e_enter (own := RX9) (ret := (some FieldType.int)) B hml rfl hS hP
  have J : e_J G s h s.heap [] := ⟨hP, va_S.rf⟩
  have hl := lv_entry ([.ref (e_ad G l0), .int l1]) (n := 4) (Nat.le_of_ble_eq_true rfl)
  rw [lg_entry_eq]
  generalize (lg_sl ([.ref (e_ad G l0), .int l1]) ++ List.replicate (4 - (lg_sl ([.ref (e_ad G l0), .int l1])).length) Slot.unset).toArray = ls at hl ⊢
  have hl : lv_has ls 4 [(0, .ref (e_ad G l0)), (1, .int l1)] := hl
  obtain ⟨hx, hb, hr, hml, hown, hts, hlocks, hES, hbs⟩ := id E
  unfold fX9_worthOf at hM
  obtain ⟨fs_, hk_, hM⟩ := e_bs hM
  refine lv_aload_n hx hb dX9_worthOf_0 rfl (lv_at hl 0 rfl) ?_
  refine lv_iload_n hx hb dX9_worthOf_1 rfl (lv_at hl 1 rfl) ?_
  obtain ⟨v1, hv, hM⟩ := e_bs hM
  obtain ⟨fs_, hk, -⟩ := e_bs hv
  refine e_callV (ci := 9) (As := [.int l1]) (rest := []) (n := 1) E J hk rfl (mX9_manyOf (l := l) (G := G) l0 l1 h _ hv) q_5_198 q_5_200 q_p_23 q_1_9 q_5_201 (by decide +kernel) rfl ⟨Nat.le_of_ble_eq_true rfl, Nat.le_of_ble_eq_true rfl⟩ (st0 := [.int l1, .ref (e_ad G l0)]) (st1 := [.int v1]) rfl rfl hl.1 (Nat.le_of_ble_eq_true rfl) dX9_worthOf_2 ⟨Nat.le_refl _, Nat.le_refl _⟩ (fun H locs J => ?_)
  refine lv_istore_n (lv' := [(2, .int v1), (0, .ref (e_ad G l0)), (1, .int l1)]) hx hb dX9_worthOf_5 rfl hl (by decide) rfl (fun ls hl => ?_)
  refine lv_iload_n hx hb dX9_worthOf_6 rfl (lv_at hl 0 rfl) ?_
  refine lv_aload_n hx hb dX9_worthOf_7 rfl (lv_at hl 1 rfl) ?_
  obtain ⟨v2, hv, hM⟩ := e_bs hM
  refine e_getR (C := RX9) (T := TX9) (N := 40) E J hv rfl inX9 (by decide) q_5_10 dX9_worthOf_8 ?_
  rcases v2 with _ | a3
  · have hM := e_on0 hM
    refine W.eq (g2 := F0 m 11 ls [.null, .int v1]) rfl ?_
    refine lv_iload_n hx hb dX9_worthOf_11 rfl (lv_at hl 2 rfl) ?_
    refine lv_iconst (v := nI 1) hx hb dX9_worthOf_12 (by decide) ?_
    refine lv_iconst (v := nI 0) hx hb dX9_worthOf_13 (by decide) ?_
    obtain ⟨v4, hv, hM⟩ := e_bs hM
    refine e_callS (As := [.int l1, .int (nI 1), .int (nI 0)]) (rest := [.null, .int v1]) (n := 3) E J (mX9_spot (l := l) (G := G) l1 (nI 1) (nI 0) h _ hv) q_5_157 q_5_158 q_1_9 q_5_159 (by decide +kernel) rfl ⟨Nat.le_of_ble_eq_true rfl, Nat.le_of_ble_eq_true rfl⟩ (st0 := [.int (nI 0), .int (nI 1), .int l1, .null, .int v1]) (st1 := [.int v4, .null, .int v1]) rfl rfl hl.1 (Nat.le_of_ble_eq_true rfl) dX9_worthOf_14 ⟨Nat.le_refl _, Nat.le_refl _⟩ (fun H locs J => ?_)
    exact e_no hM
  · have hM := e_on1 hM
    refine W.eq (g2 := F0 m 11 ls [.ref (e_ad G a3), .int v1]) rfl ?_
    refine lv_iload_n hx hb dX9_worthOf_11 rfl (lv_at hl 2 rfl) ?_
    refine lv_iconst (v := nI 1) hx hb dX9_worthOf_12 (by decide) ?_
    refine lv_iconst (v := nI 0) hx hb dX9_worthOf_13 (by decide) ?_
    obtain ⟨v5, hv, hM⟩ := e_bs hM
    refine e_callS (As := [.int l1, .int (nI 1), .int (nI 0)]) (rest := [.ref (e_ad G a3), .int v1]) (n := 3) E J (mX9_spot (l := l) (G := G) l1 (nI 1) (nI 0) h _ hv) q_5_157 q_5_158 q_1_9 q_5_159 (by decide +kernel) rfl ⟨Nat.le_of_ble_eq_true rfl, Nat.le_of_ble_eq_true rfl⟩ (st0 := [.int (nI 0), .int (nI 1), .int l1, .ref (e_ad G a3), .int v1]) (st1 := [.int v5, .ref (e_ad G a3), .int v1]) rfl rfl hl.1 (Nat.le_of_ble_eq_true rfl) dX9_worthOf_14 ⟨Nat.le_refl _, Nat.le_refl _⟩ (fun H locs J => ?_)
    obtain ⟨v6, hv, hM⟩ := e_bs hM
    refine e_iald E J hv dX9_worthOf_17 ?_
    refine lv_iadd hx hb dX9_worthOf_18 ?_
    refine lv_istore_n (lv' := [(3, .int (v1 + v6)), (2, .int v1), (0, .ref (e_ad G l0)), (1, .int l1)]) hx hb dX9_worthOf_19 rfl hl (by decide) rfl (fun ls hl => ?_)
    refine lv_aload_n hx hb dX9_worthOf_20 rfl (lv_at hl 2 rfl) ?_
    refine lv_iload_n hx hb dX9_worthOf_21 rfl (lv_at hl 3 rfl) ?_
    obtain ⟨v7, hv, hM⟩ := e_bs hM
    obtain ⟨fs_, hk, -⟩ := e_bs hv
    refine e_callV (ci := 9) (As := [.int l1]) (rest := []) (n := 1) E J hk rfl (mX9_kindOf (l := l) (G := G) l0 l1 h _ hv) q_5_168 q_5_170 q_p_18 q_1_9 q_5_171 (by decide +kernel) rfl ⟨Nat.le_of_ble_eq_true rfl, Nat.le_of_ble_eq_true rfl⟩ (st0 := [.int l1, .ref (e_ad G l0)]) (st1 := [.int v7]) rfl rfl hl.1 (Nat.le_of_ble_eq_true rfl) dX9_worthOf_22 ⟨Nat.le_refl _, Nat.le_refl _⟩ (fun H locs J => ?_)
    by_cases hc0 : v7 = nI 1
    · have hM := e_ip hc0 hM
      refine e_tin (y := nI 1) (off := 35) (tgt := 60) hx hb dX9_worthOf_25 hc0 (by decide) (by decide) (by decide +kernel) (by decide) ?_
      refine lv_iload_n hx hb dX9_worthOf_60 rfl (lv_at hl 0 rfl) ?_
      obtain rfl := e_so hM
      exact e_iret E J dX9_worthOf_61
    have hM := e_in hc0 hM
    by_cases hc1 : v7 = nI 2
    · have hM := e_ip hc1 hM
      refine e_tin (y := nI 2) (off := 37) (tgt := 62) hx hb dX9_worthOf_25 hc1 (by decide) (by decide) (by decide +kernel) (by decide) ?_
      refine lv_iconst (v := nI 2) hx hb dX9_worthOf_62 (by decide) ?_
      refine lv_iload_n hx hb dX9_worthOf_63 rfl (lv_at hl 1 rfl) ?_
      refine lv_imul hx hb dX9_worthOf_64 ?_
      obtain rfl := e_so hM
      exact e_iret E J dX9_worthOf_65
    have hM := e_in hc1 hM
    by_cases hc2 : v7 = nI 3
    · have hM := e_ip hc2 hM
      refine e_tin (y := nI 3) (off := 41) (tgt := 66) hx hb dX9_worthOf_25 hc2 (by decide) (by decide) (by decide +kernel) (by decide) ?_
      refine lv_iload_n hx hb dX9_worthOf_66 rfl (lv_at hl 0 rfl) ?_
      refine lv_ineg hx hb dX9_worthOf_67 ?_
      obtain rfl := e_so hM
      exact e_iret E J dX9_worthOf_68
    have hM := e_in hc2 hM
    by_cases hc3 : v7 = nI 4
    · have hM := e_ip hc3 hM
      refine e_tin (y := nI 4) (off := 44) (tgt := 69) hx hb dX9_worthOf_25 hc3 (by decide) (by decide) (by decide +kernel) (by decide) ?_
      refine lv_iconst (v := nI 2) hx hb dX9_worthOf_69 (by decide) ?_
      refine lv_iload_n hx hb dX9_worthOf_70 rfl (lv_at hl 1 rfl) ?_
      refine lv_imul hx hb dX9_worthOf_71 ?_
      refine lv_iconst (v := nI 1) hx hb dX9_worthOf_72 (by decide) ?_
      refine lv_iadd hx hb dX9_worthOf_73 ?_
      obtain rfl := e_so hM
      exact e_iret E J dX9_worthOf_74
    have hM := e_in hc3 hM
    by_cases hc4 : v7 = nI 5
    · have hM := e_ip hc4 hM
      refine e_tin (y := nI 5) (off := 50) (tgt := 75) hx hb dX9_worthOf_25 hc4 (by decide) (by decide) (by decide +kernel) (by decide) ?_
      refine lv_aload_n hx hb dX9_worthOf_75 rfl (lv_at hl 2 rfl) ?_
      obtain ⟨v8, hv, hM⟩ := e_bs hM
      refine e_getR (C := RX9) (T := TX9) (N := 40) E J hv rfl inX9 (by decide) q_5_10 dX9_worthOf_76 ?_
      rcases v8 with _ | a9
      · have hM := e_on0 hM
        refine W.eq (g2 := F0 m 79 ls [.null]) rfl ?_
        refine lv_iload_n hx hb dX9_worthOf_79 rfl (lv_at hl 3 rfl) ?_
        refine lv_iconst (v := nI 0) hx hb dX9_worthOf_80 (by decide) ?_
        refine lv_iconst (v := nI 0) hx hb dX9_worthOf_81 (by decide) ?_
        obtain ⟨v10, hv, hM⟩ := e_bs hM
        refine e_callS (As := [.int l1, .int (nI 0), .int (nI 0)]) (rest := [.null]) (n := 3) E J (mX9_spot (l := l) (G := G) l1 (nI 0) (nI 0) h _ hv) q_5_157 q_5_158 q_1_9 q_5_159 (by decide +kernel) rfl ⟨Nat.le_of_ble_eq_true rfl, Nat.le_of_ble_eq_true rfl⟩ (st0 := [.int (nI 0), .int (nI 0), .int l1, .null]) (st1 := [.int v10, .null]) rfl rfl hl.1 (Nat.le_of_ble_eq_true rfl) dX9_worthOf_82 ⟨Nat.le_refl _, Nat.le_refl _⟩ (fun H locs J => ?_)
        exact e_no hM
      · have hM := e_on1 hM
        refine W.eq (g2 := F0 m 79 ls [.ref (e_ad G a9)]) rfl ?_
        refine lv_iload_n hx hb dX9_worthOf_79 rfl (lv_at hl 3 rfl) ?_
        refine lv_iconst (v := nI 0) hx hb dX9_worthOf_80 (by decide) ?_
        refine lv_iconst (v := nI 0) hx hb dX9_worthOf_81 (by decide) ?_
        obtain ⟨v11, hv, hM⟩ := e_bs hM
        refine e_callS (As := [.int l1, .int (nI 0), .int (nI 0)]) (rest := [.ref (e_ad G a9)]) (n := 3) E J (mX9_spot (l := l) (G := G) l1 (nI 0) (nI 0) h _ hv) q_5_157 q_5_158 q_1_9 q_5_159 (by decide +kernel) rfl ⟨Nat.le_of_ble_eq_true rfl, Nat.le_of_ble_eq_true rfl⟩ (st0 := [.int (nI 0), .int (nI 0), .int l1, .ref (e_ad G a9)]) (st1 := [.int v11, .ref (e_ad G a9)]) rfl rfl hl.1 (Nat.le_of_ble_eq_true rfl) dX9_worthOf_82 ⟨Nat.le_refl _, Nat.le_refl _⟩ (fun H locs J => ?_)
        obtain ⟨v12, hv, hM⟩ := e_bs hM
        refine e_iald E J hv dX9_worthOf_85 ?_
        obtain rfl := e_so hM
        exact e_iret E J dX9_worthOf_86
    have hM := e_in hc4 hM
    refine lv_tableOut (tgt := 87) hx hb dX9_worthOf_25 (Classical.byContradiction fun hn => by
        have h9 : v7.toInt = 1 ∨ v7.toInt = 2 ∨ v7.toInt = 3 ∨ v7.toInt = 4 ∨ v7.toInt = 5 := by omega
        rcases h9 with h9 | h9 | h9 | h9 | h9
        · exact hc0 (e_i32 (h9.trans (by decide)))
        · exact hc1 (e_i32 (h9.trans (by decide)))
        · exact hc2 (e_i32 (h9.trans (by decide)))
        · exact hc3 (e_i32 (h9.trans (by decide)))
        · exact hc4 (e_i32 (h9.trans (by decide)))) (by decide) ?_
    refine lv_iload_n hx hb dX9_worthOf_87 rfl (lv_at hl 1 rfl) ?_
    obtain rfl := e_so hM
    exact e_iret E J dX9_worthOf_88
set_option maxRecDepth 100000 in
set_option maxHeartbeats 4000000 in
theorem mX9_findTerms_b48 {p : Program} {l : Launch} {e : Env} {s : State} {m : MethodId} {args : Array Value} {below : List Frame} {meth : Method} {c : Code} {G : e_G} {res : (Int32 × e_H)} {k4 : Nat → Int32 → Int32 → Int32 → e_H → Option (Int32 × e_H)} {k12 : Nat → Int32 → Int32 → Int32 → Int32 → e_H → Option (Int32 × e_H)} (E : e_M G p s args m meth c cX9_findTerms 5 (some FieldType.int) RX9) (K4 : ∀ (l0 : Nat) (l1 : Int32) (l2 : Int32) (l3 : Int32) (h : e_H), k4 l0 l1 l2 l3 h = some res → ∀ (H : Heap) (locs : List Loc), e_J G s h H locs → ∀ (ls : Array Slot), lv_has ls 5 [(0, .ref (e_ad G l0)), (1, .int l1), (2, .int l2), (3, .int l3)] → W p l e (e_rm 4 95) s m args below meth c H locs 0 0 (MQ below (e_Q G res.2 (some (.int res.1))) args s 0 0 (e_A G)) (F0 m 4 ls [])) (K12 : ∀ (l0 : Nat) (l1 : Int32) (l2 : Int32) (l3 : Int32) (l4 : Int32) (h : e_H), k12 l0 l1 l2 l3 l4 h = some res → ∀ (H : Heap) (locs : List Loc), e_J G s h H locs → ∀ (ls : Array Slot), lv_has ls 5 [(0, .ref (e_ad G l0)), (1, .int l1), (2, .int l2), (3, .int l3), (4, .int l4)] → W p l e (e_rm 4 95) s m args below meth c H locs 0 0 (MQ below (e_Q G res.2 (some (.int res.1))) args s 0 0 (e_A G)) (F0 m 12 ls [])) (l0 : Nat) (l1 : Int32) (l2 : Int32) (l3 : Int32) (l4 : Int32) (t0 : Int32) (t1 : Int32) (h : e_H) (hM : fX9_findTerms_b48 k4 k12 l0 l1 l2 l3 l4 t0 t1 h = some res) {H : Heap} {locs : List Loc} (J : e_J G s h H locs) {ls : Array Slot} (hl : lv_has ls 5 [(0, .ref (e_ad G l0)), (1, .int l1), (2, .int l2), (3, .int l3), (4, .int l4)]) : W p l e (e_rm 4 95) s m args below meth c H locs 0 0 (MQ below (e_Q G res.2 (some (.int res.1))) args s 0 0 (e_A G)) (F0 m 48 ls [.int t0, .int t1, .null]) := by
  obtain ⟨hx, hb, hr, hml, hown, hts, hlocks, hES, hbs⟩ := id E
  unfold fX9_findTerms_b48 at hM
  exact e_no hM
set_option maxRecDepth 100000 in
set_option maxHeartbeats 4000000 in
theorem mX9_findTerms_b69 {p : Program} {l : Launch} {e : Env} {s : State} {m : MethodId} {args : Array Value} {below : List Frame} {meth : Method} {c : Code} {G : e_G} {res : (Int32 × e_H)} {k4 : Nat → Int32 → Int32 → Int32 → e_H → Option (Int32 × e_H)} {k12 : Nat → Int32 → Int32 → Int32 → Int32 → e_H → Option (Int32 × e_H)} (E : e_M G p s args m meth c cX9_findTerms 5 (some FieldType.int) RX9) (K4 : ∀ (l0 : Nat) (l1 : Int32) (l2 : Int32) (l3 : Int32) (h : e_H), k4 l0 l1 l2 l3 h = some res → ∀ (H : Heap) (locs : List Loc), e_J G s h H locs → ∀ (ls : Array Slot), lv_has ls 5 [(0, .ref (e_ad G l0)), (1, .int l1), (2, .int l2), (3, .int l3)] → W p l e (e_rm 4 95) s m args below meth c H locs 0 0 (MQ below (e_Q G res.2 (some (.int res.1))) args s 0 0 (e_A G)) (F0 m 4 ls [])) (K12 : ∀ (l0 : Nat) (l1 : Int32) (l2 : Int32) (l3 : Int32) (l4 : Int32) (h : e_H), k12 l0 l1 l2 l3 l4 h = some res → ∀ (H : Heap) (locs : List Loc), e_J G s h H locs → ∀ (ls : Array Slot), lv_has ls 5 [(0, .ref (e_ad G l0)), (1, .int l1), (2, .int l2), (3, .int l3), (4, .int l4)] → W p l e (e_rm 4 95) s m args below meth c H locs 0 0 (MQ below (e_Q G res.2 (some (.int res.1))) args s 0 0 (e_A G)) (F0 m 12 ls [])) (l0 : Nat) (l1 : Int32) (l3 : Int32) (l4 : Int32) (t0 : Int32) (t1 : Int32) (h : e_H) (hM : fX9_findTerms_b69 k4 k12 l0 l1 l3 l4 t0 t1 h = some res) {H : Heap} {locs : List Loc} (J : e_J G s h H locs) {ls : Array Slot} (hl : lv_has ls 5 [(0, .ref (e_ad G l0)), (1, .int l1), (3, .int l3), (4, .int l4)]) : W p l e (e_rm 4 95) s m args below meth c H locs 0 0 (MQ below (e_Q G res.2 (some (.int res.1))) args s 0 0 (e_A G)) (F0 m 69 ls [.int t0, .int t1]) := by
  obtain ⟨hx, hb, hr, hml, hown, hts, hlocks, hES, hbs⟩ := id E
  unfold fX9_findTerms_b69 at hM
  refine lv_iadd hx hb dX9_findTerms_69 ?_
  refine lv_istore_n (lv' := [(2, .int (t1 + t0)), (0, .ref (e_ad G l0)), (1, .int l1), (3, .int l3), (4, .int l4)]) hx hb dX9_findTerms_70 rfl hl (by decide) rfl (fun ls hl => ?_)
  refine lv_iinc (v := (l4 + (nI 1))) (lv' := [(4, .int (l4 + (nI 1))), (2, .int (t1 + t0)), (0, .ref (e_ad G l0)), (1, .int l1), (3, .int l3)]) hx hb dX9_findTerms_71 hl (k := 4) rfl rfl (by decide) rfl (fun ls hl => ?_)
  refine lv_goto (tgt := 12) hx hb dX9_findTerms_74 (by decide) ?_
  exact K12 l0 l1 (t1 + t0) l3 (l4 + (nI 1)) h hM _ _ J _ (lv_sub hl [2, 3, 1, 4, 0] rfl)
set_option maxRecDepth 100000 in
set_option maxHeartbeats 4000000 in
theorem mX9_findTerms_b48x1 {p : Program} {l : Launch} {e : Env} {s : State} {m : MethodId} {args : Array Value} {below : List Frame} {meth : Method} {c : Code} {G : e_G} {res : (Int32 × e_H)} {k4 : Nat → Int32 → Int32 → Int32 → e_H → Option (Int32 × e_H)} {k12 : Nat → Int32 → Int32 → Int32 → Int32 → e_H → Option (Int32 × e_H)} (E : e_M G p s args m meth c cX9_findTerms 5 (some FieldType.int) RX9) (K4 : ∀ (l0 : Nat) (l1 : Int32) (l2 : Int32) (l3 : Int32) (h : e_H), k4 l0 l1 l2 l3 h = some res → ∀ (H : Heap) (locs : List Loc), e_J G s h H locs → ∀ (ls : Array Slot), lv_has ls 5 [(0, .ref (e_ad G l0)), (1, .int l1), (2, .int l2), (3, .int l3)] → W p l e (e_rm 4 95) s m args below meth c H locs 0 0 (MQ below (e_Q G res.2 (some (.int res.1))) args s 0 0 (e_A G)) (F0 m 4 ls [])) (K12 : ∀ (l0 : Nat) (l1 : Int32) (l2 : Int32) (l3 : Int32) (l4 : Int32) (h : e_H), k12 l0 l1 l2 l3 l4 h = some res → ∀ (H : Heap) (locs : List Loc), e_J G s h H locs → ∀ (ls : Array Slot), lv_has ls 5 [(0, .ref (e_ad G l0)), (1, .int l1), (2, .int l2), (3, .int l3), (4, .int l4)] → W p l e (e_rm 4 95) s m args below meth c H locs 0 0 (MQ below (e_Q G res.2 (some (.int res.1))) args s 0 0 (e_A G)) (F0 m 12 ls [])) (l0 : Nat) (l1 : Int32) (l2 : Int32) (l3 : Int32) (l4 : Int32) (t0 : Int32) (t1 : Int32) (t2 : Nat) (h : e_H) (hM : fX9_findTerms_b48x1 k4 k12 l0 l1 l2 l3 l4 t0 t1 t2 h = some res) {H : Heap} {locs : List Loc} (J : e_J G s h H locs) {ls : Array Slot} (hl : lv_has ls 5 [(0, .ref (e_ad G l0)), (1, .int l1), (2, .int l2), (3, .int l3), (4, .int l4)]) : W p l e (e_rm 4 95) s m args below meth c H locs 0 0 (MQ below (e_Q G res.2 (some (.int res.1))) args s 0 0 (e_A G)) (F0 m 48 ls [.int t0, .int t1, .ref (e_ad G t2)]) := by
  obtain ⟨hx, hb, hr, hml, hown, hts, hlocks, hES, hbs⟩ := id E
  unfold fX9_findTerms_b48x1 at hM
  obtain ⟨h1, hv, hM⟩ := e_bs hM
  refine e_iast E J hv dX9_findTerms_48 (fun H locs J => ?_)
  refine lv_iload_n hx hb dX9_findTerms_49 rfl (lv_at hl 2 rfl) ?_
  refine lv_aload_n hx hb dX9_findTerms_50 rfl (lv_at hl 0 rfl) ?_
  obtain ⟨v2, hv, hM⟩ := e_bs hM
  refine e_getR (C := RX9) (T := TX9) (N := 40) E J hv rfl inX9 (by decide) q_5_14 dX9_findTerms_51 ?_
  rcases v2 with _ | a3
  · have hM := e_on0 hM
    refine W.eq (g2 := F0 m 54 ls [.null, .int l2]) rfl ?_
    refine lv_iconst (v := nI 5) hx hb dX9_findTerms_54 (by decide) ?_
    refine lv_iload_n hx hb dX9_findTerms_55 rfl (lv_at hl 3 rfl) ?_
    refine lv_imul hx hb dX9_findTerms_56 ?_
    refine lv_iload hx hb dX9_findTerms_57 (lv_at hl 4 rfl) ?_
    refine lv_iadd hx hb dX9_findTerms_59 ?_
    exact e_no hM
  · have hM := e_on1 hM
    refine W.eq (g2 := F0 m 54 ls [.ref (e_ad G a3), .int l2]) rfl ?_
    refine lv_iconst (v := nI 5) hx hb dX9_findTerms_54 (by decide) ?_
    refine lv_iload_n hx hb dX9_findTerms_55 rfl (lv_at hl 3 rfl) ?_
    refine lv_imul hx hb dX9_findTerms_56 ?_
    refine lv_iload hx hb dX9_findTerms_57 (lv_at hl 4 rfl) ?_
    refine lv_iadd hx hb dX9_findTerms_59 ?_
    obtain ⟨v4, hv, hM⟩ := e_bs hM
    refine e_iald E J hv dX9_findTerms_60 ?_
    refine lv_if_eq (tgt := 68) hx hb dX9_findTerms_61 (by decide) (fun hc => ?_) (fun hc => ?_)
    · have hM := e_ip hc hM
      refine lv_iconst (v := nI 0) hx hb dX9_findTerms_68 (by decide) ?_
      exact mX9_findTerms_b69 E K4 K12 l0 l1 l3 l4 (nI 0) l2 h1 hM J (lv_sub hl [0, 1, 3, 4] rfl)
    · have hM := e_in hc hM
      refine lv_iconst (v := nI 1) hx hb dX9_findTerms_64 (by decide) ?_
      refine lv_goto (tgt := 69) hx hb dX9_findTerms_65 (by decide) ?_
      exact mX9_findTerms_b69 E K4 K12 l0 l1 l3 l4 (nI 1) l2 h1 hM J (lv_sub hl [0, 1, 3, 4] rfl)
set_option maxRecDepth 100000 in
set_option maxHeartbeats 4000000 in
theorem mX9_findTerms_b12 {p : Program} {l : Launch} {e : Env} {s : State} {m : MethodId} {args : Array Value} {below : List Frame} {meth : Method} {c : Code} {G : e_G} {res : (Int32 × e_H)} {k4 : Nat → Int32 → Int32 → Int32 → e_H → Option (Int32 × e_H)} {k12 : Nat → Int32 → Int32 → Int32 → Int32 → e_H → Option (Int32 × e_H)} (E : e_M G p s args m meth c cX9_findTerms 5 (some FieldType.int) RX9) (K4 : ∀ (l0 : Nat) (l1 : Int32) (l2 : Int32) (l3 : Int32) (h : e_H), k4 l0 l1 l2 l3 h = some res → ∀ (H : Heap) (locs : List Loc), e_J G s h H locs → ∀ (ls : Array Slot), lv_has ls 5 [(0, .ref (e_ad G l0)), (1, .int l1), (2, .int l2), (3, .int l3)] → W p l e (e_rm 4 95) s m args below meth c H locs 0 0 (MQ below (e_Q G res.2 (some (.int res.1))) args s 0 0 (e_A G)) (F0 m 4 ls [])) (K12 : ∀ (l0 : Nat) (l1 : Int32) (l2 : Int32) (l3 : Int32) (l4 : Int32) (h : e_H), k12 l0 l1 l2 l3 l4 h = some res → ∀ (H : Heap) (locs : List Loc), e_J G s h H locs → ∀ (ls : Array Slot), lv_has ls 5 [(0, .ref (e_ad G l0)), (1, .int l1), (2, .int l2), (3, .int l3), (4, .int l4)] → W p l e (e_rm 4 95) s m args below meth c H locs 0 0 (MQ below (e_Q G res.2 (some (.int res.1))) args s 0 0 (e_A G)) (F0 m 12 ls [])) (l0 : Nat) (l1 : Int32) (l2 : Int32) (l3 : Int32) (l4 : Int32) (h : e_H) (hM : fX9_findTerms_b12 k4 k12 l0 l1 l2 l3 l4 h = some res) {H : Heap} {locs : List Loc} (J : e_J G s h H locs) {ls : Array Slot} (hl : lv_has ls 5 [(0, .ref (e_ad G l0)), (1, .int l1), (2, .int l2), (3, .int l3), (4, .int l4)]) : W p l e (e_rm 4 95) s m args below meth c H locs 0 0 (MQ below (e_Q G res.2 (some (.int res.1))) args s 0 0 (e_A G)) (F0 m 12 ls []) := by
  obtain ⟨hx, hb, hr, hml, hown, hts, hlocks, hES, hbs⟩ := id E
  unfold fX9_findTerms_b12 at hM
  refine lv_iload hx hb dX9_findTerms_12 (lv_at hl 4 rfl) ?_
  refine lv_iconst (v := nI 5) hx hb dX9_findTerms_14 (by decide) ?_
  refine lv_icmp_ge (tgt := 77) hx hb dX9_findTerms_15 (by decide) (fun hc => ?_) (fun hc => ?_)
  · have hM := e_ip hc hM
    refine lv_iinc (v := (l3 + (nI 1))) (lv' := [(3, .int (l3 + (nI 1))), (0, .ref (e_ad G l0)), (1, .int l1), (2, .int l2), (4, .int l4)]) hx hb dX9_findTerms_77 hl (k := 3) rfl rfl (by decide) rfl (fun ls hl => ?_)
    refine lv_goto (tgt := 4) hx hb dX9_findTerms_80 (by decide) ?_
    exact K4 l0 l1 l2 (l3 + (nI 1)) h hM _ _ J _ (lv_sub hl [1, 2, 3, 0] rfl)
  · have hM := e_in hc hM
    refine lv_aload_n hx hb dX9_findTerms_18 rfl (lv_at hl 0 rfl) ?_
    obtain ⟨v1, hv, hM⟩ := e_bs hM
    refine e_getR (C := RX9) (T := TX9) (N := 40) E J hv rfl inX9 (by decide) q_5_14 dX9_findTerms_19 ?_
    rcases v1 with _ | a2
    · have hM := e_on0 hM
      refine W.eq (g2 := F0 m 22 ls [.null]) rfl ?_
      refine lv_iconst (v := nI 5) hx hb dX9_findTerms_22 (by decide) ?_
      refine lv_iload_n hx hb dX9_findTerms_23 rfl (lv_at hl 3 rfl) ?_
      refine lv_imul hx hb dX9_findTerms_24 ?_
      refine lv_iload hx hb dX9_findTerms_25 (lv_at hl 4 rfl) ?_
      refine lv_iadd hx hb dX9_findTerms_27 ?_
      refine lv_iload_n hx hb dX9_findTerms_28 rfl (lv_at hl 3 rfl) ?_
      refine lv_iload hx hb dX9_findTerms_29 (lv_at hl 4 rfl) ?_
      refine lv_iadd hx hb dX9_findTerms_31 ?_
      refine lv_iconst (v := nI 4) hx hb dX9_findTerms_32 (by decide) ?_
      refine lv_icmp_le (tgt := 40) hx hb dX9_findTerms_33 (by decide) (fun hc => ?_) (fun hc => ?_)
      · have hM := e_ip hc hM
        refine lv_aload_n hx hb dX9_findTerms_40 rfl (lv_at hl 0 rfl) ?_
        refine lv_iload_n hx hb dX9_findTerms_41 rfl (lv_at hl 1 rfl) ?_
        refine lv_iload_n hx hb dX9_findTerms_42 rfl (lv_at hl 3 rfl) ?_
        refine lv_iload hx hb dX9_findTerms_43 (lv_at hl 4 rfl) ?_
        obtain ⟨p3, hv, hM⟩ := e_bs hM
        obtain ⟨fs_, hk, -⟩ := e_bs hv
        refine e_callV (ci := 9) (As := [.int l1, .int l3, .int l4]) (rest := [.int (((nI 5) * l3) + l4), .null]) (n := 3) E J hk rfl (mX9_termOf (l := l) (G := G) l0 l1 l3 l4 h _ hv) q_5_164 q_5_166 q_p_17 q_1_9 q_5_167 (by decide +kernel) rfl ⟨Nat.le_of_ble_eq_true rfl, Nat.le_of_ble_eq_true rfl⟩ (st0 := [.int l4, .int l3, .int l1, .ref (e_ad G l0), .int (((nI 5) * l3) + l4), .null]) (st1 := [.int p3.1, .int (((nI 5) * l3) + l4), .null]) rfl rfl hl.1 (Nat.le_of_ble_eq_true rfl) dX9_findTerms_45 ⟨Nat.le_refl _, Nat.le_refl _⟩ (fun H locs J => ?_)
        exact mX9_findTerms_b48 E K4 K12 l0 l1 l2 l3 l4 p3.1 (((nI 5) * l3) + l4) p3.2 hM J (lv_sub hl [0, 1, 2, 3, 4] rfl)
      · have hM := e_in hc hM
        refine lv_iconst (v := nI 0) hx hb dX9_findTerms_36 (by decide) ?_
        refine lv_goto (tgt := 48) hx hb dX9_findTerms_37 (by decide) ?_
        exact mX9_findTerms_b48 E K4 K12 l0 l1 l2 l3 l4 (nI 0) (((nI 5) * l3) + l4) h hM J (lv_sub hl [0, 1, 2, 3, 4] rfl)
    · have hM := e_on1 hM
      refine W.eq (g2 := F0 m 22 ls [.ref (e_ad G a2)]) rfl ?_
      refine lv_iconst (v := nI 5) hx hb dX9_findTerms_22 (by decide) ?_
      refine lv_iload_n hx hb dX9_findTerms_23 rfl (lv_at hl 3 rfl) ?_
      refine lv_imul hx hb dX9_findTerms_24 ?_
      refine lv_iload hx hb dX9_findTerms_25 (lv_at hl 4 rfl) ?_
      refine lv_iadd hx hb dX9_findTerms_27 ?_
      refine lv_iload_n hx hb dX9_findTerms_28 rfl (lv_at hl 3 rfl) ?_
      refine lv_iload hx hb dX9_findTerms_29 (lv_at hl 4 rfl) ?_
      refine lv_iadd hx hb dX9_findTerms_31 ?_
      refine lv_iconst (v := nI 4) hx hb dX9_findTerms_32 (by decide) ?_
      refine lv_icmp_le (tgt := 40) hx hb dX9_findTerms_33 (by decide) (fun hc => ?_) (fun hc => ?_)
      · have hM := e_ip hc hM
        refine lv_aload_n hx hb dX9_findTerms_40 rfl (lv_at hl 0 rfl) ?_
        refine lv_iload_n hx hb dX9_findTerms_41 rfl (lv_at hl 1 rfl) ?_
        refine lv_iload_n hx hb dX9_findTerms_42 rfl (lv_at hl 3 rfl) ?_
        refine lv_iload hx hb dX9_findTerms_43 (lv_at hl 4 rfl) ?_
        obtain ⟨p4, hv, hM⟩ := e_bs hM
        obtain ⟨fs_, hk, -⟩ := e_bs hv
        refine e_callV (ci := 9) (As := [.int l1, .int l3, .int l4]) (rest := [.int (((nI 5) * l3) + l4), .ref (e_ad G a2)]) (n := 3) E J hk rfl (mX9_termOf (l := l) (G := G) l0 l1 l3 l4 h _ hv) q_5_164 q_5_166 q_p_17 q_1_9 q_5_167 (by decide +kernel) rfl ⟨Nat.le_of_ble_eq_true rfl, Nat.le_of_ble_eq_true rfl⟩ (st0 := [.int l4, .int l3, .int l1, .ref (e_ad G l0), .int (((nI 5) * l3) + l4), .ref (e_ad G a2)]) (st1 := [.int p4.1, .int (((nI 5) * l3) + l4), .ref (e_ad G a2)]) rfl rfl hl.1 (Nat.le_of_ble_eq_true rfl) dX9_findTerms_45 ⟨Nat.le_refl _, Nat.le_refl _⟩ (fun H locs J => ?_)
        exact mX9_findTerms_b48x1 E K4 K12 l0 l1 l2 l3 l4 p4.1 (((nI 5) * l3) + l4) a2 p4.2 hM J (lv_sub hl [0, 1, 2, 3, 4] rfl)
      · have hM := e_in hc hM
        refine lv_iconst (v := nI 0) hx hb dX9_findTerms_36 (by decide) ?_
        refine lv_goto (tgt := 48) hx hb dX9_findTerms_37 (by decide) ?_
        exact mX9_findTerms_b48x1 E K4 K12 l0 l1 l2 l3 l4 (nI 0) (((nI 5) * l3) + l4) a2 h hM J (lv_sub hl [0, 1, 2, 3, 4] rfl)
set_option maxRecDepth 100000 in
set_option maxHeartbeats 4000000 in
theorem mX9_findTerms_L12 {p : Program} {l : Launch} {e : Env} {s : State} {m : MethodId} {args : Array Value} {below : List Frame} {meth : Method} {c : Code} {G : e_G} {res : (Int32 × e_H)} {k4 : Nat → Int32 → Int32 → Int32 → e_H → Option (Int32 × e_H)} (E : e_M G p s args m meth c cX9_findTerms 5 (some FieldType.int) RX9) (K4 : ∀ (l0 : Nat) (l1 : Int32) (l2 : Int32) (l3 : Int32) (h : e_H), k4 l0 l1 l2 l3 h = some res → ∀ (H : Heap) (locs : List Loc), e_J G s h H locs → ∀ (ls : Array Slot), lv_has ls 5 [(0, .ref (e_ad G l0)), (1, .int l1), (2, .int l2), (3, .int l3)] → W p l e (e_rm 4 95) s m args below meth c H locs 0 0 (MQ below (e_Q G res.2 (some (.int res.1))) args s 0 0 (e_A G)) (F0 m 4 ls [])) (n : Nat) (l0 : Nat) (l1 : Int32) (l2 : Int32) (l3 : Int32) (l4 : Int32) (h : e_H) (hM : fX9_findTerms_L12 k4 n l0 l1 l2 l3 l4 h = some res) {H : Heap} {locs : List Loc} (J : e_J G s h H locs) {ls : Array Slot} (hl : lv_has ls 5 [(0, .ref (e_ad G l0)), (1, .int l1), (2, .int l2), (3, .int l3), (4, .int l4)]) : W p l e (e_rm 4 95) s m args below meth c H locs 0 0 (MQ below (e_Q G res.2 (some (.int res.1))) args s 0 0 (e_A G)) (F0 m 12 ls []) := by
  induction n generalizing l0 l1 l2 l3 l4 h H locs ls with
  | zero => exact e_no hM
  | succ n ih => exact mX9_findTerms_b12 (k12 := (fX9_findTerms_L12 k4 n)) E  K4 (fun l0 l1 l2 l3 l4 h hM H locs J ls hl => ih l0 l1 l2 l3 l4 h hM J hl) l0 l1 l2 l3 l4 h hM J hl
set_option maxRecDepth 100000 in
set_option maxHeartbeats 4000000 in
theorem mX9_findTerms_b4 {p : Program} {l : Launch} {e : Env} {s : State} {m : MethodId} {args : Array Value} {below : List Frame} {meth : Method} {c : Code} {G : e_G} {res : (Int32 × e_H)} {k4 : Nat → Int32 → Int32 → Int32 → e_H → Option (Int32 × e_H)} (E : e_M G p s args m meth c cX9_findTerms 5 (some FieldType.int) RX9) (K4 : ∀ (l0 : Nat) (l1 : Int32) (l2 : Int32) (l3 : Int32) (h : e_H), k4 l0 l1 l2 l3 h = some res → ∀ (H : Heap) (locs : List Loc), e_J G s h H locs → ∀ (ls : Array Slot), lv_has ls 5 [(0, .ref (e_ad G l0)), (1, .int l1), (2, .int l2), (3, .int l3)] → W p l e (e_rm 4 95) s m args below meth c H locs 0 0 (MQ below (e_Q G res.2 (some (.int res.1))) args s 0 0 (e_A G)) (F0 m 4 ls [])) (l0 : Nat) (l1 : Int32) (l2 : Int32) (l3 : Int32) (h : e_H) (hM : fX9_findTerms_b4 k4 l0 l1 l2 l3 h = some res) {H : Heap} {locs : List Loc} (J : e_J G s h H locs) {ls : Array Slot} (hl : lv_has ls 5 [(0, .ref (e_ad G l0)), (1, .int l1), (2, .int l2), (3, .int l3)]) : W p l e (e_rm 4 95) s m args below meth c H locs 0 0 (MQ below (e_Q G res.2 (some (.int res.1))) args s 0 0 (e_A G)) (F0 m 4 ls []) := by
  obtain ⟨hx, hb, hr, hml, hown, hts, hlocks, hES, hbs⟩ := id E
  unfold fX9_findTerms_b4 at hM
  refine lv_iload_n hx hb dX9_findTerms_4 rfl (lv_at hl 3 rfl) ?_
  refine lv_iconst (v := nI 5) hx hb dX9_findTerms_5 (by decide) ?_
  refine lv_icmp_ge (tgt := 83) hx hb dX9_findTerms_6 (by decide) (fun hc => ?_) (fun hc => ?_)
  · have hM := e_ip hc hM
    refine lv_iload_n hx hb dX9_findTerms_83 rfl (lv_at hl 2 rfl) ?_
    obtain rfl := e_so hM
    exact e_iret E J dX9_findTerms_84
  · have hM := e_in hc hM
    refine lv_iconst (v := nI 0) hx hb dX9_findTerms_9 (by decide) ?_
    refine lv_istore (lv' := [(4, .int (nI 0)), (0, .ref (e_ad G l0)), (1, .int l1), (2, .int l2), (3, .int l3)]) hx hb dX9_findTerms_10 hl (by decide) rfl (fun ls hl => ?_)
    exact mX9_findTerms_L12 E K4 200 l0 l1 l2 l3 (nI 0) h hM J (lv_sub hl [1, 2, 3, 4, 0] rfl)
set_option maxRecDepth 100000 in
set_option maxHeartbeats 4000000 in
theorem mX9_findTerms_L4 {p : Program} {l : Launch} {e : Env} {s : State} {m : MethodId} {args : Array Value} {below : List Frame} {meth : Method} {c : Code} {G : e_G} {res : (Int32 × e_H)} (E : e_M G p s args m meth c cX9_findTerms 5 (some FieldType.int) RX9) (n : Nat) (l0 : Nat) (l1 : Int32) (l2 : Int32) (l3 : Int32) (h : e_H) (hM : fX9_findTerms_L4 n l0 l1 l2 l3 h = some res) {H : Heap} {locs : List Loc} (J : e_J G s h H locs) {ls : Array Slot} (hl : lv_has ls 5 [(0, .ref (e_ad G l0)), (1, .int l1), (2, .int l2), (3, .int l3)]) : W p l e (e_rm 4 95) s m args below meth c H locs 0 0 (MQ below (e_Q G res.2 (some (.int res.1))) args s 0 0 (e_A G)) (F0 m 4 ls []) := by
  induction n generalizing l0 l1 l2 l3 h H locs ls with
  | zero => exact e_no hM
  | succ n ih => exact mX9_findTerms_b4 (k4 := (fX9_findTerms_L4 n)) E   (fun l0 l1 l2 l3 h hM H locs J ls hl => ih l0 l1 l2 l3 h hM J hl) l0 l1 l2 l3 h hM J hl
set_option maxRecDepth 100000 in
set_option maxHeartbeats 4000000 in
theorem mX9_findTerms {l : Launch} {G : e_G} (l0 : Nat) (l1 : Int32) (h : e_H) (res : (Int32 × e_H)) (hM : fX9_findTerms l0 l1 h = some res) : Met l yX9_findTerms (e_W yX9_findTerms cX9_findTerms 5 (some FieldType.int)) (e_rm 4 95) (e_Pc G h [.ref (e_ad G l0), .int l1]) (e_Q G res.2 (some (.int res.1))) 0 0 (e_A G) := by
  refine Met.ofW (cc := cX9_findTerms) (maxL := 5) (ret := (some FieldType.int)) (by decide) rfl ?_
  intro p e s m args below meth c s₁ B hml hv
  obtain ⟨rfl, hS, hP⟩ := hv
  have E := e_enter (own := RX9) (ret := (some FieldType.int)) B hml rfl hS hP
  have J : e_J G s h s.heap [] := ⟨hP, va_S.rf⟩
  have hl := lv_entry ([.ref (e_ad G l0), .int l1]) (n := 5) (Nat.le_of_ble_eq_true rfl)
  rw [lg_entry_eq]
  generalize (lg_sl ([.ref (e_ad G l0), .int l1]) ++ List.replicate (5 - (lg_sl ([.ref (e_ad G l0), .int l1])).length) Slot.unset).toArray = ls at hl ⊢
  have hl : lv_has ls 5 [(0, .ref (e_ad G l0)), (1, .int l1)] := hl
  obtain ⟨hx, hb, hr, hml, hown, hts, hlocks, hES, hbs⟩ := id E
  unfold fX9_findTerms at hM
  obtain ⟨fs_, hk_, hM⟩ := e_bs hM
  refine lv_iconst (v := nI 0) hx hb dX9_findTerms_0 (by decide) ?_
  refine lv_istore_n (lv' := [(2, .int (nI 0)), (0, .ref (e_ad G l0)), (1, .int l1)]) hx hb dX9_findTerms_1 rfl hl (by decide) rfl (fun ls hl => ?_)
  refine lv_iconst (v := nI 0) hx hb dX9_findTerms_2 (by decide) ?_
  refine lv_istore_n (lv' := [(3, .int (nI 0)), (2, .int (nI 0)), (0, .ref (e_ad G l0)), (1, .int l1)]) hx hb dX9_findTerms_3 rfl hl (by decide) rfl (fun ls hl => ?_)
  exact mX9_findTerms_L4 E 200 l0 l1 (nI 0) (nI 0) h hM J (lv_sub hl [2, 3, 1, 0] rfl)
set_option maxRecDepth 100000 in
set_option maxHeartbeats 4000000 in
theorem mX9_degreeNow_b41 {p : Program} {l : Launch} {e : Env} {s : State} {m : MethodId} {args : Array Value} {below : List Frame} {meth : Method} {c : Code} {G : e_G} {res : Int32} {k4 : Nat → Int32 → Int32 → Option Int32} (E : e_M G p s args m meth c cX9_degreeNow 3 (some FieldType.int) RX9) (h : e_H) (K4 : ∀ (l0 : Nat) (l1 : Int32) (l2 : Int32), k4 l0 l1 l2 = some res → ∀ (H : Heap) (locs : List Loc), e_J G s h H locs → ∀ (ls : Array Slot), lv_has ls 3 [(0, .ref (e_ad G l0)), (1, .int l1), (2, .int l2)] → W p l e (e_rm 0 0) s m args below meth c H locs 0 0 (MQ below (e_Q G h (some (.int res))) args s 0 0 (e_A G)) (F0 m 4 ls [])) (l0 : Nat) (l2 : Int32) (t0 : Int32) (hM : fX9_degreeNow_b41 h k4 l0 l2 t0 = some res) {H : Heap} {locs : List Loc} (J : e_J G s h H locs) {ls : Array Slot} (hl : lv_has ls 3 [(0, .ref (e_ad G l0)), (2, .int l2)]) : W p l e (e_rm 0 0) s m args below meth c H locs 0 0 (MQ below (e_Q G h (some (.int res))) args s 0 0 (e_A G)) (F0 m 41 ls [.int t0]) := by
  obtain ⟨hx, hb, hr, hml, hown, hts, hlocks, hES, hbs⟩ := id E
  unfold fX9_degreeNow_b41 at hM
  refine lv_istore_n (lv' := [(1, .int t0), (0, .ref (e_ad G l0)), (2, .int l2)]) hx hb dX9_degreeNow_41 rfl hl (by decide) rfl (fun ls hl => ?_)
  refine lv_iinc (v := (l2 + (nI 1))) (lv' := [(2, .int (l2 + (nI 1))), (1, .int t0), (0, .ref (e_ad G l0))]) hx hb dX9_degreeNow_42 hl (k := 2) rfl rfl (by decide) rfl (fun ls hl => ?_)
  refine lv_goto (tgt := 4) hx hb dX9_degreeNow_45 (by decide) ?_
  exact K4 l0 t0 (l2 + (nI 1)) hM _ _ J _ (lv_sub hl [2, 1, 0] rfl)
set_option maxRecDepth 100000 in
set_option maxHeartbeats 4000000 in
theorem mX9_degreeNow_b40 {p : Program} {l : Launch} {e : Env} {s : State} {m : MethodId} {args : Array Value} {below : List Frame} {meth : Method} {c : Code} {G : e_G} {res : Int32} {k4 : Nat → Int32 → Int32 → Option Int32} (E : e_M G p s args m meth c cX9_degreeNow 3 (some FieldType.int) RX9) (h : e_H) (K4 : ∀ (l0 : Nat) (l1 : Int32) (l2 : Int32), k4 l0 l1 l2 = some res → ∀ (H : Heap) (locs : List Loc), e_J G s h H locs → ∀ (ls : Array Slot), lv_has ls 3 [(0, .ref (e_ad G l0)), (1, .int l1), (2, .int l2)] → W p l e (e_rm 0 0) s m args below meth c H locs 0 0 (MQ below (e_Q G h (some (.int res))) args s 0 0 (e_A G)) (F0 m 4 ls [])) (l0 : Nat) (l1 : Int32) (l2 : Int32) (hM : fX9_degreeNow_b40 h k4 l0 l1 l2 = some res) {H : Heap} {locs : List Loc} (J : e_J G s h H locs) {ls : Array Slot} (hl : lv_has ls 3 [(0, .ref (e_ad G l0)), (1, .int l1), (2, .int l2)]) : W p l e (e_rm 0 0) s m args below meth c H locs 0 0 (MQ below (e_Q G h (some (.int res))) args s 0 0 (e_A G)) (F0 m 40 ls []) := by
  obtain ⟨hx, hb, hr, hml, hown, hts, hlocks, hES, hbs⟩ := id E
  unfold fX9_degreeNow_b40 at hM
  refine lv_iload_n hx hb dX9_degreeNow_40 rfl (lv_at hl 1 rfl) ?_
  exact mX9_degreeNow_b41 E h K4 l0 l2 l1 hM J (lv_sub hl [0, 2] rfl)
set_option maxRecDepth 100000 in
set_option maxHeartbeats 4000000 in
theorem mX9_degreeNow_b4 {p : Program} {l : Launch} {e : Env} {s : State} {m : MethodId} {args : Array Value} {below : List Frame} {meth : Method} {c : Code} {G : e_G} {res : Int32} {k4 : Nat → Int32 → Int32 → Option Int32} (E : e_M G p s args m meth c cX9_degreeNow 3 (some FieldType.int) RX9) (h : e_H) (K4 : ∀ (l0 : Nat) (l1 : Int32) (l2 : Int32), k4 l0 l1 l2 = some res → ∀ (H : Heap) (locs : List Loc), e_J G s h H locs → ∀ (ls : Array Slot), lv_has ls 3 [(0, .ref (e_ad G l0)), (1, .int l1), (2, .int l2)] → W p l e (e_rm 0 0) s m args below meth c H locs 0 0 (MQ below (e_Q G h (some (.int res))) args s 0 0 (e_A G)) (F0 m 4 ls [])) (l0 : Nat) (l1 : Int32) (l2 : Int32) (hM : fX9_degreeNow_b4 h k4 l0 l1 l2 = some res) {H : Heap} {locs : List Loc} (J : e_J G s h H locs) {ls : Array Slot} (hl : lv_has ls 3 [(0, .ref (e_ad G l0)), (1, .int l1), (2, .int l2)]) : W p l e (e_rm 0 0) s m args below meth c H locs 0 0 (MQ below (e_Q G h (some (.int res))) args s 0 0 (e_A G)) (F0 m 4 ls []) := by
  obtain ⟨hx, hb, hr, hml, hown, hts, hlocks, hES, hbs⟩ := id E
  unfold fX9_degreeNow_b4 at hM
  refine lv_iload_n hx hb dX9_degreeNow_4 rfl (lv_at hl 2 rfl) ?_
  refine lv_bipush (v := nI 25) hx hb dX9_degreeNow_5 (by decide) ?_
  refine lv_icmp_ge (tgt := 48) hx hb dX9_degreeNow_7 (by decide) (fun hc => ?_) (fun hc => ?_)
  · have hM := e_ip hc hM
    refine lv_iload_n hx hb dX9_degreeNow_48 rfl (lv_at hl 1 rfl) ?_
    obtain rfl := e_so hM
    exact e_iret E J dX9_degreeNow_49
  · have hM := e_in hc hM
    refine lv_aload_n hx hb dX9_degreeNow_10 rfl (lv_at hl 0 rfl) ?_
    obtain ⟨v1, hv, hM⟩ := e_bs hM
    refine e_getR (C := RX9) (T := TX9) (N := 40) E J hv rfl inX9 (by decide) q_5_14 dX9_degreeNow_11 ?_
    rcases v1 with _ | a2
    · have hM := e_on0 hM
      refine W.eq (g2 := F0 m 14 ls [.null]) rfl ?_
      refine lv_iload_n hx hb dX9_degreeNow_14 rfl (lv_at hl 2 rfl) ?_
      exact e_no hM
    · have hM := e_on1 hM
      refine W.eq (g2 := F0 m 14 ls [.ref (e_ad G a2)]) rfl ?_
      refine lv_iload_n hx hb dX9_degreeNow_14 rfl (lv_at hl 2 rfl) ?_
      obtain ⟨v3, hv, hM⟩ := e_bs hM
      refine e_iald E J hv dX9_degreeNow_15 ?_
      refine lv_if_eq (tgt := 40) hx hb dX9_degreeNow_16 (by decide) (fun hc => ?_) (fun hc => ?_)
      · have hM := e_ip hc hM
        exact mX9_degreeNow_b40 E h K4 l0 l1 l2 hM J (lv_sub hl [0, 1, 2] rfl)
      · have hM := e_in hc hM
        refine lv_iload_n hx hb dX9_degreeNow_19 rfl (lv_at hl 2 rfl) ?_
        refine lv_iconst (v := nI 5) hx hb dX9_degreeNow_20 (by decide) ?_
        refine lv_idiv hx hb dX9_degreeNow_21 (by decide) ?_
        refine lv_iload_n hx hb dX9_degreeNow_22 rfl (lv_at hl 2 rfl) ?_
        refine lv_iconst (v := nI 5) hx hb dX9_degreeNow_23 (by decide) ?_
        refine lv_irem hx hb dX9_degreeNow_24 (by decide) ?_
        refine lv_iadd hx hb dX9_degreeNow_25 ?_
        refine lv_iload_n hx hb dX9_degreeNow_26 rfl (lv_at hl 1 rfl) ?_
        refine lv_icmp_le (tgt := 40) hx hb dX9_degreeNow_27 (by decide) (fun hc => ?_) (fun hc => ?_)
        · have hM := e_ip hc hM
          exact mX9_degreeNow_b40 E h K4 l0 l1 l2 hM J (lv_sub hl [0, 1, 2] rfl)
        · have hM := e_in hc hM
          refine lv_iload_n hx hb dX9_degreeNow_30 rfl (lv_at hl 2 rfl) ?_
          refine lv_iconst (v := nI 5) hx hb dX9_degreeNow_31 (by decide) ?_
          refine lv_idiv hx hb dX9_degreeNow_32 (by decide) ?_
          refine lv_iload_n hx hb dX9_degreeNow_33 rfl (lv_at hl 2 rfl) ?_
          refine lv_iconst (v := nI 5) hx hb dX9_degreeNow_34 (by decide) ?_
          refine lv_irem hx hb dX9_degreeNow_35 (by decide) ?_
          refine lv_iadd hx hb dX9_degreeNow_36 ?_
          refine lv_goto (tgt := 41) hx hb dX9_degreeNow_37 (by decide) ?_
          exact mX9_degreeNow_b41 E h K4 l0 l2 ((l2 / (nI 5)) + (l2 - l2 / (nI 5) * (nI 5))) hM J (lv_sub hl [0, 2] rfl)
set_option maxRecDepth 100000 in
set_option maxHeartbeats 4000000 in
theorem mX9_degreeNow_L4 {p : Program} {l : Launch} {e : Env} {s : State} {m : MethodId} {args : Array Value} {below : List Frame} {meth : Method} {c : Code} {G : e_G} {res : Int32} (E : e_M G p s args m meth c cX9_degreeNow 3 (some FieldType.int) RX9) (h : e_H) (n : Nat) (l0 : Nat) (l1 : Int32) (l2 : Int32) (hM : fX9_degreeNow_L4 h n l0 l1 l2 = some res) {H : Heap} {locs : List Loc} (J : e_J G s h H locs) {ls : Array Slot} (hl : lv_has ls 3 [(0, .ref (e_ad G l0)), (1, .int l1), (2, .int l2)]) : W p l e (e_rm 0 0) s m args below meth c H locs 0 0 (MQ below (e_Q G h (some (.int res))) args s 0 0 (e_A G)) (F0 m 4 ls []) := by
  induction n generalizing l0 l1 l2 H locs ls with
  | zero => exact e_no hM
  | succ n ih => exact mX9_degreeNow_b4 (k4 := (fX9_degreeNow_L4 h n)) E h  (fun l0 l1 l2 hM H locs J ls hl => ih l0 l1 l2 hM J hl) l0 l1 l2 hM J hl
set_option maxRecDepth 100000 in
set_option maxHeartbeats 4000000 in
theorem mX9_degreeNow {l : Launch} {G : e_G} (l0 : Nat) (h : e_H) (res : Int32) (hM : fX9_degreeNow l0 h = some res) : Met l yX9_degreeNow (e_W yX9_degreeNow cX9_degreeNow 3 (some FieldType.int)) (e_rm 0 0) (e_Pc G h [.ref (e_ad G l0)]) (e_Q G h (some (.int res))) 0 0 (e_A G) := by
  refine Met.ofW (cc := cX9_degreeNow) (maxL := 3) (ret := (some FieldType.int)) (by decide) rfl ?_
  intro p e s m args below meth c s₁ B hml hv
  obtain ⟨rfl, hS, hP⟩ := hv
  have E := e_enter (own := RX9) (ret := (some FieldType.int)) B hml rfl hS hP
  have J : e_J G s h s.heap [] := ⟨hP, va_S.rf⟩
  have hl := lv_entry ([.ref (e_ad G l0)]) (n := 3) (Nat.le_of_ble_eq_true rfl)
  rw [lg_entry_eq]
  generalize (lg_sl ([.ref (e_ad G l0)]) ++ List.replicate (3 - (lg_sl ([.ref (e_ad G l0)])).length) Slot.unset).toArray = ls at hl ⊢
  have hl : lv_has ls 3 [(0, .ref (e_ad G l0))] := hl
  obtain ⟨hx, hb, hr, hml, hown, hts, hlocks, hES, hbs⟩ := id E
  unfold fX9_degreeNow at hM
  obtain ⟨fs_, hk_, hM⟩ := e_bs hM
  refine lv_iconst (v := -1) hx hb dX9_degreeNow_0 (by decide) ?_
  refine lv_istore_n (lv' := [(1, .int (-1 : Int32)), (0, .ref (e_ad G l0))]) hx hb dX9_degreeNow_1 rfl hl (by decide) rfl (fun ls hl => ?_)
  refine lv_iconst (v := nI 0) hx hb dX9_degreeNow_2 (by decide) ?_
  refine lv_istore_n (lv' := [(2, .int (nI 0)), (1, .int (-1 : Int32)), (0, .ref (e_ad G l0))]) hx hb dX9_degreeNow_3 rfl hl (by decide) rfl (fun ls hl => ?_)
  exact mX9_degreeNow_L4 E h 200 l0 (-1 : Int32) (nI 0) hM J (lv_sub hl [2, 1, 0] rfl)
set_option maxRecDepth 100000 in
set_option maxHeartbeats 4000000 in
theorem mX9_told_b29 {p : Program} {l : Launch} {e : Env} {s : State} {m : MethodId} {args : Array Value} {below : List Frame} {meth : Method} {c : Code} {G : e_G} {res : (Int32 × e_H)} (E : e_M G p s args m meth c cX9_told 4 (some FieldType.int) RX9) (l0 : Nat) (l1 : Int32) (l2 : Int32) (h : e_H) (hM : fX9_told_b29 l0 l1 l2 h = some res) {H : Heap} {locs : List Loc} (J : e_J G s h H locs) {ls : Array Slot} (hl : lv_has ls 4 [(0, .ref (e_ad G l0)), (1, .int l1), (2, .int l2)]) : W p l e (e_rm 5 119) s m args below meth c H locs 0 0 (MQ below (e_Q G res.2 (some (.int res.1))) args s 0 0 (e_A G)) (F0 m 29 ls []) := by
  obtain ⟨hx, hb, hr, hml, hown, hts, hlocks, hES, hbs⟩ := id E
  unfold fX9_told_b29 at hM
  refine lv_iload_n hx hb dX9_told_29 rfl (lv_at hl 2 rfl) ?_
  refine lv_if_ne (tgt := 41) hx hb dX9_told_30 (by decide) (fun hc => ?_) (fun hc => ?_)
  · have hM := e_in hc hM
    refine lv_aload_n hx hb dX9_told_41 rfl (lv_at hl 0 rfl) ?_
    refine lv_iload_n hx hb dX9_told_42 rfl (lv_at hl 1 rfl) ?_
    obtain ⟨v2, hv, hM⟩ := e_bs hM
    obtain ⟨fs_, hk, -⟩ := e_bs hv
    refine e_callV (ci := 9) (As := [.int l1]) (rest := []) (n := 1) E J hk rfl (mX9_worthOf (l := l) (G := G) l0 l1 h _ hv) q_5_194 q_5_196 q_p_22 q_1_9 q_5_197 (by decide +kernel) rfl ⟨Nat.le_of_ble_eq_true rfl, Nat.le_of_ble_eq_true rfl⟩ (st0 := [.int l1, .ref (e_ad G l0)]) (st1 := [.int v2]) rfl rfl hl.1 (Nat.le_of_ble_eq_true rfl) dX9_told_43 ⟨Nat.le_refl _, Nat.le_refl _⟩ (fun H locs J => ?_)
    obtain rfl := e_so hM
    exact e_iret E J dX9_told_46
  · have hM := e_ip hc hM
    refine lv_aload_n hx hb dX9_told_33 rfl (lv_at hl 0 rfl) ?_
    refine lv_iload_n hx hb dX9_told_34 rfl (lv_at hl 1 rfl) ?_
    obtain ⟨v1, hv, hM⟩ := e_bs hM
    obtain ⟨fs_, hk, -⟩ := e_bs hv
    refine e_callV (ci := 9) (As := [.int l1]) (rest := []) (n := 1) E J hk rfl (mX9_kindOf (l := l) (G := G) l0 l1 h _ hv) q_5_168 q_5_170 q_p_18 q_1_9 q_5_171 (by decide +kernel) rfl ⟨Nat.le_of_ble_eq_true rfl, Nat.le_of_ble_eq_true rfl⟩ (st0 := [.int l1, .ref (e_ad G l0)]) (st1 := [.int v1]) rfl rfl hl.1 (Nat.le_of_ble_eq_true rfl) dX9_told_35 ⟨Nat.le_refl _, Nat.le_refl _⟩ (fun H locs J => ?_)
    refine lv_goto (tgt := 46) hx hb dX9_told_38 (by decide) ?_
    obtain rfl := e_so hM
    exact e_iret E J dX9_told_46
set_option maxRecDepth 100000 in
set_option maxHeartbeats 4000000 in
theorem mX9_told {l : Launch} {G : e_G} (l0 : Nat) (l1 : Int32) (l2 : Int32) (h : e_H) (res : (Int32 × e_H)) (hM : fX9_told l0 l1 l2 h = some res) : Met l yX9_told (e_W yX9_told cX9_told 4 (some FieldType.int)) (e_rm 5 119) (e_Pc G h [.ref (e_ad G l0), .int l1, .int l2]) (e_Q G res.2 (some (.int res.1))) 0 0 (e_A G) := by
  refine Met.ofW (cc := cX9_told) (maxL := 4) (ret := (some FieldType.int)) (by decide) rfl ?_
  intro p e s m args below meth c s₁ B hml hv
  obtain ⟨rfl, hS, hP⟩ := hv
  have E := e_enter (own := RX9) (ret := (some FieldType.int)) B hml rfl hS hP
  have J : e_J G s h s.heap [] := ⟨hP, va_S.rf⟩
  have hl := lv_entry ([.ref (e_ad G l0), .int l1, .int l2]) (n := 4) (Nat.le_of_ble_eq_true rfl)
  rw [lg_entry_eq]
  generalize (lg_sl ([.ref (e_ad G l0), .int l1, .int l2]) ++ List.replicate (4 - (lg_sl ([.ref (e_ad G l0), .int l1, .int l2])).length) Slot.unset).toArray = ls at hl ⊢
  have hl : lv_has ls 4 [(0, .ref (e_ad G l0)), (1, .int l1), (2, .int l2)] := hl
  obtain ⟨hx, hb, hr, hml, hown, hts, hlocks, hES, hbs⟩ := id E
  unfold fX9_told at hM
  obtain ⟨fs_, hk_, hM⟩ := e_bs hM
  refine lv_aload_n hx hb dX9_told_0 rfl (lv_at hl 0 rfl) ?_
  refine lv_iload_n hx hb dX9_told_1 rfl (lv_at hl 1 rfl) ?_
  obtain ⟨v1, hv, hM⟩ := e_bs hM
  obtain ⟨fs_, hk, -⟩ := e_bs hv
  refine e_callV (ci := 9) (As := [.int l1]) (rest := []) (n := 1) E J hk rfl (mX9_isCurve (l := l) (G := G) l0 l1 h _ hv) q_5_150 q_5_152 q_p_16 q_1_9 q_5_153 (by decide +kernel) rfl ⟨Nat.le_of_ble_eq_true rfl, Nat.le_of_ble_eq_true rfl⟩ (st0 := [.int l1, .ref (e_ad G l0)]) (st1 := [.int (e_b v1)]) rfl rfl hl.1 (Nat.le_of_ble_eq_true rfl) dX9_told_2 ⟨Nat.le_refl _, Nat.le_refl _⟩ (fun H locs J => ?_)
  refine lv_if_eq (tgt := 17) hx hb dX9_told_5 (by decide) (fun hc => ?_) (fun hc => ?_)
  · have hM := e_ip hc hM
    refine lv_ldc (v := -1000000001) hx hb hown (hts _ q_5_140) dX9_told_17 ?_
    obtain rfl := e_so hM
    exact e_iret E J dX9_told_19
  · have hM := e_in hc hM
    refine lv_iload_n hx hb dX9_told_8 rfl (lv_at hl 2 rfl) ?_
    refine lv_iconst (v := nI 0) hx hb dX9_told_9 (by decide) ?_
    refine lv_iconst (v := nI 3) hx hb dX9_told_10 (by decide) ?_
    obtain ⟨v2, hv, hM⟩ := e_bs hM
    refine e_callS (As := [.int l2, .int (nI 0), .int (nI 3)]) (rest := []) (n := 3) E J (mX9_in (l := l) (G := G) l2 (nI 0) (nI 3) h _ hv) q_5_137 q_5_138 q_1_9 q_5_139 (by decide +kernel) rfl ⟨Nat.le_of_ble_eq_true rfl, Nat.le_of_ble_eq_true rfl⟩ (st0 := [.int (nI 3), .int (nI 0), .int l2]) (st1 := [.int (e_b v2)]) rfl rfl hl.1 (Nat.le_of_ble_eq_true rfl) dX9_told_11 ⟨Nat.le_refl _, Nat.le_refl _⟩ (fun H locs J => ?_)
    refine lv_if_ne (tgt := 20) hx hb dX9_told_14 (by decide) (fun hc => ?_) (fun hc => ?_)
    · have hM := e_in hc hM
      refine lv_iload_n hx hb dX9_told_20 rfl (lv_at hl 2 rfl) ?_
      refine lv_if_eq (tgt := 29) hx hb dX9_told_21 (by decide) (fun hc => ?_) (fun hc => ?_)
      · have hM := e_ip hc hM
        exact mX9_told_b29 E l0 l1 l2 h hM J (lv_sub hl [0, 1, 2] rfl)
      · have hM := e_in hc hM
        refine lv_iload_n hx hb dX9_told_24 rfl (lv_at hl 2 rfl) ?_
        refine lv_iconst (v := nI 2) hx hb dX9_told_25 (by decide) ?_
        refine lv_icmp_ne (tgt := 47) hx hb dX9_told_26 (by decide) (fun hc => ?_) (fun hc => ?_)
        · have hM := e_in hc hM
          refine lv_aload_n hx hb dX9_told_47 rfl (lv_at hl 0 rfl) ?_
          refine lv_iload_n hx hb dX9_told_48 rfl (lv_at hl 1 rfl) ?_
          obtain ⟨p3, hv, hM⟩ := e_bs hM
          obtain ⟨fs_, hk, -⟩ := e_bs hv
          refine e_callV (ci := 9) (As := [.int l1]) (rest := []) (n := 1) E J hk rfl (mX9_findTerms (l := l) (G := G) l0 l1 h _ hv) q_5_202 q_5_204 q_p_24 q_1_9 q_5_205 (by decide +kernel) rfl ⟨Nat.le_of_ble_eq_true rfl, Nat.le_of_ble_eq_true rfl⟩ (st0 := [.int l1, .ref (e_ad G l0)]) (st1 := [.int p3.1]) rfl rfl hl.1 (Nat.le_of_ble_eq_true rfl) dX9_told_49 ⟨Nat.le_refl _, Nat.le_refl _⟩ (fun H locs J => ?_)
          refine lv_istore_n (lv' := [(3, .int p3.1), (0, .ref (e_ad G l0)), (1, .int l1), (2, .int l2)]) hx hb dX9_told_52 rfl hl (by decide) rfl (fun ls hl => ?_)
          refine lv_iload_n hx hb dX9_told_53 rfl (lv_at hl 3 rfl) ?_
          refine lv_iconst (v := nI 1) hx hb dX9_told_54 (by decide) ?_
          refine lv_icmp_ne (tgt := 65) hx hb dX9_told_55 (by decide) (fun hc => ?_) (fun hc => ?_)
          · have hM := e_in hc hM
            refine lv_iload_n hx hb dX9_told_65 rfl (lv_at hl 0 rfl) ?_
            obtain rfl := e_so hM
            exact e_iret E J dX9_told_66
          · have hM := e_ip hc hM
            refine lv_aload_n hx hb dX9_told_58 rfl (lv_at hl 1 rfl) ?_
            obtain ⟨v4, hv, hM⟩ := e_bs hM
            obtain ⟨fs_, hk, -⟩ := e_bs hv
            refine e_callV (ci := 9) (As := []) (rest := []) (n := 0) E J hk rfl (mX9_degreeNow (l := l) (G := G) l0 p3.2 _ hv) q_5_206 q_5_208 q_p_25 q_1_9 q_5_209 (by decide +kernel) rfl ⟨Nat.le_of_ble_eq_true rfl, Nat.le_of_ble_eq_true rfl⟩ (st0 := [.ref (e_ad G l0)]) (st1 := [.int v4]) rfl rfl hl.1 (Nat.le_of_ble_eq_true rfl) dX9_told_59 ⟨Nat.le_refl _, Nat.le_refl _⟩ (fun H locs J => ?_)
            refine lv_goto (tgt := 66) hx hb dX9_told_62 (by decide) ?_
            obtain rfl := e_so hM
            exact e_iret E J dX9_told_66
        · have hM := e_ip hc hM
          exact mX9_told_b29 E l0 l1 l2 h hM J (lv_sub hl [0, 1, 2] rfl)
    · have hM := e_ip hc hM
      refine lv_ldc (v := -1000000001) hx hb hown (hts _ q_5_140) dX9_told_17 ?_
      obtain rfl := e_so hM
      exact e_iret E J dX9_told_19
set_option maxRecDepth 100000 in
set_option maxHeartbeats 4000000 in
theorem mX9_isUnder_b19 {p : Program} {l : Launch} {e : Env} {s : State} {m : MethodId} {args : Array Value} {below : List Frame} {meth : Method} {c : Code} {G : e_G} {res : Bool} (E : e_M G p s args m meth c cX9_isUnder 2 (some FieldType.boolean) RX9) (h : e_H) (l0 : Int32) (l1 : Int32) (hM : fX9_isUnder_b19 l0 l1 = some res) {H : Heap} {locs : List Loc} (J : e_J G s h H locs) {ls : Array Slot} (hl : lv_has ls 2 [(0, .int l0), (1, .int l1)]) : W p l e (e_rm 0 0) s m args below meth c H locs 0 0 (MQ below (e_Q G h (some (.int (e_b res)))) args s 0 0 (e_A G)) (F0 m 19 ls []) := by
  obtain ⟨hx, hb, hr, hml, hown, hts, hlocks, hES, hbs⟩ := id E
  unfold fX9_isUnder_b19 at hM
  refine lv_iload_n hx hb dX9_isUnder_19 rfl (lv_at hl 1 rfl) ?_
  refine lv_iconst (v := nI 2) hx hb dX9_isUnder_20 (by decide) ?_
  refine lv_icmp_ne (tgt := 33) hx hb dX9_isUnder_21 (by decide) (fun hc => ?_) (fun hc => ?_)
  · have hM := e_in hc hM
    refine lv_iconst (v := nI 0) hx hb dX9_isUnder_33 (by decide) ?_
    obtain rfl := e_so hM
    exact e_zret E J (false) rfl dX9_isUnder_34
  · have hM := e_ip hc hM
    refine lv_iload_n hx hb dX9_isUnder_24 rfl (lv_at hl 0 rfl) ?_
    refine lv_iconst (v := nI 4) hx hb dX9_isUnder_25 (by decide) ?_
    refine lv_icmp_ne (tgt := 33) hx hb dX9_isUnder_26 (by decide) (fun hc => ?_) (fun hc => ?_)
    · have hM := e_in hc hM
      refine lv_iconst (v := nI 0) hx hb dX9_isUnder_33 (by decide) ?_
      obtain rfl := e_so hM
      exact e_zret E J (false) rfl dX9_isUnder_34
    · have hM := e_ip hc hM
      refine lv_iconst (v := nI 1) hx hb dX9_isUnder_29 (by decide) ?_
      refine lv_goto (tgt := 34) hx hb dX9_isUnder_30 (by decide) ?_
      obtain rfl := e_so hM
      exact e_zret E J (true) rfl dX9_isUnder_34
set_option maxRecDepth 100000 in
set_option maxHeartbeats 4000000 in
theorem mX9_isUnder {l : Launch} {G : e_G} (l0 : Int32) (l1 : Int32) (h : e_H) (res : Bool) (hM : fX9_isUnder l0 l1 = some res) : Met l yX9_isUnder (e_W yX9_isUnder cX9_isUnder 2 (some FieldType.boolean)) (e_rm 0 0) (e_Pc G h [.int l0, .int l1]) (e_Q G h (some (.int (e_b res)))) 0 0 (e_A G) := by
  refine Met.ofW (cc := cX9_isUnder) (maxL := 2) (ret := (some FieldType.boolean)) (by decide) rfl ?_
  intro p e s m args below meth c s₁ B hml hv
  obtain ⟨rfl, hS, hP⟩ := hv
  have E := e_enter (own := RX9) (ret := (some FieldType.boolean)) B hml rfl hS hP
  have J : e_J G s h s.heap [] := ⟨hP, va_S.rf⟩
  have hl := lv_entry ([.int l0, .int l1]) (n := 2) (Nat.le_of_ble_eq_true rfl)
  rw [lg_entry_eq]
  generalize (lg_sl ([.int l0, .int l1]) ++ List.replicate (2 - (lg_sl ([.int l0, .int l1])).length) Slot.unset).toArray = ls at hl ⊢
  have hl : lv_has ls 2 [(0, .int l0), (1, .int l1)] := hl
  obtain ⟨hx, hb, hr, hml, hown, hts, hlocks, hES, hbs⟩ := id E
  unfold fX9_isUnder at hM
  refine lv_iload_n hx hb dX9_isUnder_0 rfl (lv_at hl 1 rfl) ?_
  refine lv_if_eq (tgt := 29) hx hb dX9_isUnder_1 (by decide) (fun hc => ?_) (fun hc => ?_)
  · have hM := e_ip hc hM
    refine lv_iconst (v := nI 1) hx hb dX9_isUnder_29 (by decide) ?_
    refine lv_goto (tgt := 34) hx hb dX9_isUnder_30 (by decide) ?_
    obtain rfl := e_so hM
    exact e_zret E J (true) rfl dX9_isUnder_34
  · have hM := e_in hc hM
    refine lv_iload_n hx hb dX9_isUnder_4 rfl (lv_at hl 0 rfl) ?_
    refine lv_iload_n hx hb dX9_isUnder_5 rfl (lv_at hl 1 rfl) ?_
    refine lv_icmp_eq (tgt := 29) hx hb dX9_isUnder_6 (by decide) (fun hc => ?_) (fun hc => ?_)
    · have hM := e_ip hc hM
      refine lv_iconst (v := nI 1) hx hb dX9_isUnder_29 (by decide) ?_
      refine lv_goto (tgt := 34) hx hb dX9_isUnder_30 (by decide) ?_
      obtain rfl := e_so hM
      exact e_zret E J (true) rfl dX9_isUnder_34
    · have hM := e_in hc hM
      refine lv_iload_n hx hb dX9_isUnder_9 rfl (lv_at hl 1 rfl) ?_
      refine lv_iconst (v := nI 1) hx hb dX9_isUnder_10 (by decide) ?_
      refine lv_icmp_ne (tgt := 19) hx hb dX9_isUnder_11 (by decide) (fun hc => ?_) (fun hc => ?_)
      · have hM := e_in hc hM
        exact mX9_isUnder_b19 E h l0 l1 hM J (lv_sub hl [0, 1] rfl)
      · have hM := e_ip hc hM
        refine lv_iload_n hx hb dX9_isUnder_14 rfl (lv_at hl 0 rfl) ?_
        refine lv_iconst (v := nI 3) hx hb dX9_isUnder_15 (by decide) ?_
        refine lv_icmp_eq (tgt := 29) hx hb dX9_isUnder_16 (by decide) (fun hc => ?_) (fun hc => ?_)
        · have hM := e_ip hc hM
          refine lv_iconst (v := nI 1) hx hb dX9_isUnder_29 (by decide) ?_
          refine lv_goto (tgt := 34) hx hb dX9_isUnder_30 (by decide) ?_
          obtain rfl := e_so hM
          exact e_zret E J (true) rfl dX9_isUnder_34
        · have hM := e_in hc hM
          exact mX9_isUnder_b19 E h l0 l1 hM J (lv_sub hl [0, 1] rfl)
set_option maxRecDepth 100000 in
set_option maxHeartbeats 4000000 in
theorem mX9_as {l : Launch} {G : e_G} (l0 : Nat) (l1 : Int32) (l2 : Int32) (h : e_H) (res : Int32) (hM : fX9_as l0 l1 l2 h = some res) : Met l yX9_as (e_W yX9_as cX9_as 3 (some FieldType.int)) (e_rm 2 43) (e_Pc G h [.ref (e_ad G l0), .int l1, .int l2]) (e_Q G h (some (.int res))) 0 0 (e_A G) := by
  refine Met.ofW (cc := cX9_as) (maxL := 3) (ret := (some FieldType.int)) (by decide) rfl ?_
  intro p e s m args below meth c s₁ B hml hv
  obtain ⟨rfl, hS, hP⟩ := hv
  have E := e_enter (own := RX9) (ret := (some FieldType.int)) B hml rfl hS hP
  have J : e_J G s h s.heap [] := ⟨hP, va_S.rf⟩
  have hl := lv_entry ([.ref (e_ad G l0), .int l1, .int l2]) (n := 3) (Nat.le_of_ble_eq_true rfl)
  rw [lg_entry_eq]
  generalize (lg_sl ([.ref (e_ad G l0), .int l1, .int l2]) ++ List.replicate (3 - (lg_sl ([.ref (e_ad G l0), .int l1, .int l2])).length) Slot.unset).toArray = ls at hl ⊢
  have hl : lv_has ls 3 [(0, .ref (e_ad G l0)), (1, .int l1), (2, .int l2)] := hl
  obtain ⟨hx, hb, hr, hml, hown, hts, hlocks, hES, hbs⟩ := id E
  unfold fX9_as at hM
  obtain ⟨fs_, hk_, hM⟩ := e_bs hM
  refine lv_aload_n hx hb dX9_as_0 rfl (lv_at hl 0 rfl) ?_
  refine lv_iload_n hx hb dX9_as_1 rfl (lv_at hl 1 rfl) ?_
  obtain ⟨v1, hv, hM⟩ := e_bs hM
  obtain ⟨fs_, hk, -⟩ := e_bs hv
  refine e_callV (ci := 9) (As := [.int l1]) (rest := []) (n := 1) E J hk rfl (mX9_isCurve (l := l) (G := G) l0 l1 h _ hv) q_5_150 q_5_152 q_p_16 q_1_9 q_5_153 (by decide +kernel) rfl ⟨Nat.le_of_ble_eq_true rfl, Nat.le_of_ble_eq_true rfl⟩ (st0 := [.int l1, .ref (e_ad G l0)]) (st1 := [.int (e_b v1)]) rfl rfl hl.1 (Nat.le_of_ble_eq_true rfl) dX9_as_2 ⟨Nat.le_refl _, Nat.le_refl _⟩ (fun H locs J => ?_)
  refine lv_if_eq (tgt := 17) hx hb dX9_as_5 (by decide) (fun hc => ?_) (fun hc => ?_)
  · have hM := e_ip hc hM
    refine lv_ldc (v := -1000000001) hx hb hown (hts _ q_5_140) dX9_as_17 ?_
    obtain rfl := e_so hM
    exact e_iret E J dX9_as_19
  · have hM := e_in hc hM
    refine lv_iload_n hx hb dX9_as_8 rfl (lv_at hl 2 rfl) ?_
    refine lv_iconst (v := nI 0) hx hb dX9_as_9 (by decide) ?_
    refine lv_iconst (v := nI 5) hx hb dX9_as_10 (by decide) ?_
    obtain ⟨v2, hv, hM⟩ := e_bs hM
    refine e_callS (As := [.int l2, .int (nI 0), .int (nI 5)]) (rest := []) (n := 3) E J (mX9_in (l := l) (G := G) l2 (nI 0) (nI 5) h _ hv) q_5_137 q_5_138 q_1_9 q_5_139 (by decide +kernel) rfl ⟨Nat.le_of_ble_eq_true rfl, Nat.le_of_ble_eq_true rfl⟩ (st0 := [.int (nI 5), .int (nI 0), .int l2]) (st1 := [.int (e_b v2)]) rfl rfl hl.1 (Nat.le_of_ble_eq_true rfl) dX9_as_11 ⟨Nat.le_refl _, Nat.le_refl _⟩ (fun H locs J => ?_)
    refine lv_if_ne (tgt := 20) hx hb dX9_as_14 (by decide) (fun hc => ?_) (fun hc => ?_)
    · have hM := e_in hc hM
      refine lv_aload_n hx hb dX9_as_20 rfl (lv_at hl 0 rfl) ?_
      refine lv_iload_n hx hb dX9_as_21 rfl (lv_at hl 1 rfl) ?_
      obtain ⟨v3, hv, hM⟩ := e_bs hM
      obtain ⟨fs_, hk, -⟩ := e_bs hv
      refine e_callV (ci := 9) (As := [.int l1]) (rest := []) (n := 1) E J hk rfl (mX9_kindOf (l := l) (G := G) l0 l1 h _ hv) q_5_168 q_5_170 q_p_18 q_1_9 q_5_171 (by decide +kernel) rfl ⟨Nat.le_of_ble_eq_true rfl, Nat.le_of_ble_eq_true rfl⟩ (st0 := [.int l1, .ref (e_ad G l0)]) (st1 := [.int v3]) rfl rfl hl.1 (Nat.le_of_ble_eq_true rfl) dX9_as_22 ⟨Nat.le_refl _, Nat.le_refl _⟩ (fun H locs J => ?_)
      refine lv_iload_n hx hb dX9_as_25 rfl (lv_at hl 2 rfl) ?_
      obtain ⟨v4, hv, hM⟩ := e_bs hM
      refine e_callS (As := [.int v3, .int l2]) (rest := []) (n := 2) E J (mX9_isUnder (l := l) (G := G) v3 l2 h _ hv) q_5_214 q_5_215 q_1_9 q_5_216 (by decide +kernel) rfl ⟨Nat.le_of_ble_eq_true rfl, Nat.le_of_ble_eq_true rfl⟩ (st0 := [.int l2, .int v3]) (st1 := [.int (e_b v4)]) rfl rfl hl.1 (Nat.le_of_ble_eq_true rfl) dX9_as_26 ⟨Nat.le_refl _, Nat.le_refl _⟩ (fun H locs J => ?_)
      refine lv_if_eq (tgt := 46) hx hb dX9_as_29 (by decide) (fun hc => ?_) (fun hc => ?_)
      · have hM := e_ip hc hM
        refine lv_ldc (v := -1000000012) hx hb hown (hts _ q_5_217) dX9_as_46 ?_
        obtain rfl := e_so hM
        exact e_iret E J dX9_as_48
      · have hM := e_in hc hM
        refine lv_aload_n hx hb dX9_as_32 rfl (lv_at hl 0 rfl) ?_
        obtain ⟨v5, hv, hM⟩ := e_bs hM
        refine e_getR (C := RX9) (T := TX9) (N := 40) E J hv rfl inX9 (by decide) q_5_10 dX9_as_33 ?_
        rcases v5 with _ | a6
        · have hM := e_on0 hM
          refine W.eq (g2 := F0 m 36 ls [.null]) rfl ?_
          refine lv_iload_n hx hb dX9_as_36 rfl (lv_at hl 1 rfl) ?_
          refine lv_iconst (v := nI 0) hx hb dX9_as_37 (by decide) ?_
          refine lv_iconst (v := nI 0) hx hb dX9_as_38 (by decide) ?_
          obtain ⟨v7, hv, hM⟩ := e_bs hM
          refine e_callS (As := [.int l1, .int (nI 0), .int (nI 0)]) (rest := [.null]) (n := 3) E J (mX9_spot (l := l) (G := G) l1 (nI 0) (nI 0) h _ hv) q_5_157 q_5_158 q_1_9 q_5_159 (by decide +kernel) rfl ⟨Nat.le_of_ble_eq_true rfl, Nat.le_of_ble_eq_true rfl⟩ (st0 := [.int (nI 0), .int (nI 0), .int l1, .null]) (st1 := [.int v7, .null]) rfl rfl hl.1 (Nat.le_of_ble_eq_true rfl) dX9_as_39 ⟨Nat.le_refl _, Nat.le_refl _⟩ (fun H locs J => ?_)
          exact e_no hM
        · have hM := e_on1 hM
          refine W.eq (g2 := F0 m 36 ls [.ref (e_ad G a6)]) rfl ?_
          refine lv_iload_n hx hb dX9_as_36 rfl (lv_at hl 1 rfl) ?_
          refine lv_iconst (v := nI 0) hx hb dX9_as_37 (by decide) ?_
          refine lv_iconst (v := nI 0) hx hb dX9_as_38 (by decide) ?_
          obtain ⟨v8, hv, hM⟩ := e_bs hM
          refine e_callS (As := [.int l1, .int (nI 0), .int (nI 0)]) (rest := [.ref (e_ad G a6)]) (n := 3) E J (mX9_spot (l := l) (G := G) l1 (nI 0) (nI 0) h _ hv) q_5_157 q_5_158 q_1_9 q_5_159 (by decide +kernel) rfl ⟨Nat.le_of_ble_eq_true rfl, Nat.le_of_ble_eq_true rfl⟩ (st0 := [.int (nI 0), .int (nI 0), .int l1, .ref (e_ad G a6)]) (st1 := [.int v8, .ref (e_ad G a6)]) rfl rfl hl.1 (Nat.le_of_ble_eq_true rfl) dX9_as_39 ⟨Nat.le_refl _, Nat.le_refl _⟩ (fun H locs J => ?_)
          obtain ⟨v9, hv, hM⟩ := e_bs hM
          refine e_iald E J hv dX9_as_42 ?_
          refine lv_goto (tgt := 48) hx hb dX9_as_43 (by decide) ?_
          obtain rfl := e_so hM
          exact e_iret E J dX9_as_48
    · have hM := e_ip hc hM
      refine lv_ldc (v := -1000000001) hx hb hown (hts _ q_5_140) dX9_as_17 ?_
      obtain rfl := e_so hM
      exact e_iret E J dX9_as_19
set_option maxRecDepth 100000 in
set_option maxHeartbeats 4000000 in
theorem mX9_turns {l : Launch} {G : e_G} (l0 : Nat) (l1 : Int32) (l2 : Int32) (h : e_H) (res : (Int32 × e_H)) (hM : fX9_turns l0 l1 l2 h = some res) : Met l yX9_turns (e_W yX9_turns cX9_turns 4 (some FieldType.int)) (e_rm 2 43) (e_Pc G h [.ref (e_ad G l0), .int l1, .int l2]) (e_Q G res.2 (some (.int res.1))) 0 0 (e_A G) := by
  refine Met.ofW (cc := cX9_turns) (maxL := 4) (ret := (some FieldType.int)) (by decide) rfl ?_
  intro p e s m args below meth c s₁ B hml hv
  obtain ⟨rfl, hS, hP⟩ := hv
  have E := e_enter (own := RX9) (ret := (some FieldType.int)) B hml rfl hS hP
  have J : e_J G s h s.heap [] := ⟨hP, va_S.rf⟩
  have hl := lv_entry ([.ref (e_ad G l0), .int l1, .int l2]) (n := 4) (Nat.le_of_ble_eq_true rfl)
  rw [lg_entry_eq]
  generalize (lg_sl ([.ref (e_ad G l0), .int l1, .int l2]) ++ List.replicate (4 - (lg_sl ([.ref (e_ad G l0), .int l1, .int l2])).length) Slot.unset).toArray = ls at hl ⊢
  have hl : lv_has ls 4 [(0, .ref (e_ad G l0)), (1, .int l1), (2, .int l2)] := hl
  obtain ⟨hx, hb, hr, hml, hown, hts, hlocks, hES, hbs⟩ := id E
  unfold fX9_turns at hM
  obtain ⟨fs_, hk_, hM⟩ := e_bs hM
  refine lv_aload_n hx hb dX9_turns_0 rfl (lv_at hl 0 rfl) ?_
  refine lv_iload_n hx hb dX9_turns_1 rfl (lv_at hl 1 rfl) ?_
  obtain ⟨v1, hv, hM⟩ := e_bs hM
  obtain ⟨fs_, hk, -⟩ := e_bs hv
  refine e_callV (ci := 9) (As := [.int l1]) (rest := []) (n := 1) E J hk rfl (mX9_isCurve (l := l) (G := G) l0 l1 h _ hv) q_5_150 q_5_152 q_p_16 q_1_9 q_5_153 (by decide +kernel) rfl ⟨Nat.le_of_ble_eq_true rfl, Nat.le_of_ble_eq_true rfl⟩ (st0 := [.int l1, .ref (e_ad G l0)]) (st1 := [.int (e_b v1)]) rfl rfl hl.1 (Nat.le_of_ble_eq_true rfl) dX9_turns_2 ⟨Nat.le_refl _, Nat.le_refl _⟩ (fun H locs J => ?_)
  refine lv_if_eq (tgt := 17) hx hb dX9_turns_5 (by decide) (fun hc => ?_) (fun hc => ?_)
  · have hM := e_ip hc hM
    refine lv_ldc (v := -1000000001) hx hb hown (hts _ q_5_140) dX9_turns_17 ?_
    obtain rfl := e_so hM
    exact e_iret E J dX9_turns_19
  · have hM := e_in hc hM
    refine lv_iload_n hx hb dX9_turns_8 rfl (lv_at hl 2 rfl) ?_
    refine lv_iconst (v := nI 0) hx hb dX9_turns_9 (by decide) ?_
    refine lv_iconst (v := nI 5) hx hb dX9_turns_10 (by decide) ?_
    obtain ⟨v2, hv, hM⟩ := e_bs hM
    refine e_callS (As := [.int l2, .int (nI 0), .int (nI 5)]) (rest := []) (n := 3) E J (mX9_in (l := l) (G := G) l2 (nI 0) (nI 5) h _ hv) q_5_137 q_5_138 q_1_9 q_5_139 (by decide +kernel) rfl ⟨Nat.le_of_ble_eq_true rfl, Nat.le_of_ble_eq_true rfl⟩ (st0 := [.int (nI 5), .int (nI 0), .int l2]) (st1 := [.int (e_b v2)]) rfl rfl hl.1 (Nat.le_of_ble_eq_true rfl) dX9_turns_11 ⟨Nat.le_refl _, Nat.le_refl _⟩ (fun H locs J => ?_)
    refine lv_if_ne (tgt := 20) hx hb dX9_turns_14 (by decide) (fun hc => ?_) (fun hc => ?_)
    · have hM := e_in hc hM
      refine lv_aload_n hx hb dX9_turns_20 rfl (lv_at hl 0 rfl) ?_
      refine lv_iload_n hx hb dX9_turns_21 rfl (lv_at hl 1 rfl) ?_
      obtain ⟨v3, hv, hM⟩ := e_bs hM
      obtain ⟨fs_, hk, -⟩ := e_bs hv
      refine e_callV (ci := 9) (As := [.int l1]) (rest := []) (n := 1) E J hk rfl (mX9_kindOf (l := l) (G := G) l0 l1 h _ hv) q_5_168 q_5_170 q_p_18 q_1_9 q_5_171 (by decide +kernel) rfl ⟨Nat.le_of_ble_eq_true rfl, Nat.le_of_ble_eq_true rfl⟩ (st0 := [.int l1, .ref (e_ad G l0)]) (st1 := [.int v3]) rfl rfl hl.1 (Nat.le_of_ble_eq_true rfl) dX9_turns_22 ⟨Nat.le_refl _, Nat.le_refl _⟩ (fun H locs J => ?_)
      refine lv_istore_n (lv' := [(3, .int v3), (0, .ref (e_ad G l0)), (1, .int l1), (2, .int l2)]) hx hb dX9_turns_25 rfl hl (by decide) rfl (fun ls hl => ?_)
      refine lv_aload_n hx hb dX9_turns_26 rfl (lv_at hl 1 rfl) ?_
      obtain ⟨v4, hv, hM⟩ := e_bs hM
      refine e_getR (C := RX9) (T := TX9) (N := 40) E J hv rfl inX9 (by decide) q_5_10 dX9_turns_27 ?_
      rcases v4 with _ | a5
      · have hM := e_on0 hM
        refine W.eq (g2 := F0 m 30 ls [.null]) rfl ?_
        refine lv_iconst (v := nI 3) hx hb dX9_turns_30 (by decide) ?_
        refine lv_bipush (v := nI 16) hx hb dX9_turns_31 (by decide) ?_
        refine lv_iload_n hx hb dX9_turns_33 rfl (lv_at hl 2 rfl) ?_
        refine lv_imul hx hb dX9_turns_34 ?_
        refine lv_iadd hx hb dX9_turns_35 ?_
        refine lv_iload_n hx hb dX9_turns_36 rfl (lv_at hl 3 rfl) ?_
        exact e_no hM
      · have hM := e_on1 hM
        refine W.eq (g2 := F0 m 30 ls [.ref (e_ad G a5)]) rfl ?_
        refine lv_iconst (v := nI 3) hx hb dX9_turns_30 (by decide) ?_
        refine lv_bipush (v := nI 16) hx hb dX9_turns_31 (by decide) ?_
        refine lv_iload_n hx hb dX9_turns_33 rfl (lv_at hl 2 rfl) ?_
        refine lv_imul hx hb dX9_turns_34 ?_
        refine lv_iadd hx hb dX9_turns_35 ?_
        refine lv_iload_n hx hb dX9_turns_36 rfl (lv_at hl 3 rfl) ?_
        obtain ⟨h7, hv, hM⟩ := e_bs hM
        refine e_iast E J hv dX9_turns_37 (fun H locs J => ?_)
        refine lv_iload_n hx hb dX9_turns_38 rfl (lv_at hl 0 rfl) ?_
        obtain rfl := e_so hM
        exact e_iret E J dX9_turns_39
    · have hM := e_ip hc hM
      refine lv_ldc (v := -1000000001) hx hb hown (hts _ q_5_140) dX9_turns_17 ?_
      obtain rfl := e_so hM
      exact e_iret E J dX9_turns_19
set_option maxRecDepth 100000 in
set_option maxHeartbeats 4000000 in
theorem mX9_mix_b110 {p : Program} {l : Launch} {e : Env} {s : State} {m : MethodId} {args : Array Value} {below : List Frame} {meth : Method} {c : Code} {G : e_G} {res : (Int32 × e_H)} {k40 : Nat → Int32 → Int32 → Int32 → Int32 → Int32 → e_H → Option (Int32 × e_H)} (E : e_M G p s args m meth c cX9_mix 8 (some FieldType.int) RX9) (K40 : ∀ (l0 : Nat) (l1 : Int32) (l2 : Int32) (l3 : Int32) (l4 : Int32) (l5 : Int32) (h : e_H), k40 l0 l1 l2 l3 l4 l5 h = some res → ∀ (H : Heap) (locs : List Loc), e_J G s h H locs → ∀ (ls : Array Slot), lv_has ls 8 [(0, .ref (e_ad G l0)), (1, .int l1), (2, .int l2), (3, .int l3), (4, .int l4), (5, .int l5)] → W p l e (e_rm 2 43) s m args below meth c H locs 0 0 (MQ below (e_Q G res.2 (some (.int res.1))) args s 0 0 (e_A G)) (F0 m 40 ls [])) (l0 : Nat) (l1 : Int32) (l2 : Int32) (l3 : Int32) (l4 : Int32) (l5 : Int32) (t0 : Int32) (t1 : Int32) (h : e_H) (hM : fX9_mix_b110 k40 l0 l1 l2 l3 l4 l5 t0 t1 h = some res) {H : Heap} {locs : List Loc} (J : e_J G s h H locs) {ls : Array Slot} (hl : lv_has ls 8 [(0, .ref (e_ad G l0)), (1, .int l1), (2, .int l2), (3, .int l3), (4, .int l4), (5, .int l5)]) : W p l e (e_rm 2 43) s m args below meth c H locs 0 0 (MQ below (e_Q G res.2 (some (.int res.1))) args s 0 0 (e_A G)) (F0 m 110 ls [.int t0, .int t1, .null]) := by
  obtain ⟨hx, hb, hr, hml, hown, hts, hlocks, hES, hbs⟩ := id E
  unfold fX9_mix_b110 at hM
  refine lv_bipush (v := -99) hx hb dX9_mix_110 (by decide) ?_
  refine lv_bipush (v := nI 99) hx hb dX9_mix_112 (by decide) ?_
  obtain ⟨v1, hv, hM⟩ := e_bs hM
  refine e_callS (As := [.int t0, .int (-99 : Int32), .int (nI 99)]) (rest := [.int t1, .null]) (n := 3) E J (mX9_within (l := l) (G := G) t0 (-99 : Int32) (nI 99) h _ hv) q_5_187 q_5_188 q_1_9 q_5_189 (by decide +kernel) rfl ⟨Nat.le_of_ble_eq_true rfl, Nat.le_of_ble_eq_true rfl⟩ (st0 := [.int (nI 99), .int (-99 : Int32), .int t0, .int t1, .null]) (st1 := [.int v1, .int t1, .null]) rfl rfl hl.1 (Nat.le_of_ble_eq_true rfl) dX9_mix_114 ⟨Nat.le_refl _, Nat.le_refl _⟩ (fun H locs J => ?_)
  exact e_no hM
set_option maxRecDepth 100000 in
set_option maxHeartbeats 4000000 in
theorem mX9_mix_b110x1 {p : Program} {l : Launch} {e : Env} {s : State} {m : MethodId} {args : Array Value} {below : List Frame} {meth : Method} {c : Code} {G : e_G} {res : (Int32 × e_H)} {k40 : Nat → Int32 → Int32 → Int32 → Int32 → Int32 → e_H → Option (Int32 × e_H)} (E : e_M G p s args m meth c cX9_mix 8 (some FieldType.int) RX9) (K40 : ∀ (l0 : Nat) (l1 : Int32) (l2 : Int32) (l3 : Int32) (l4 : Int32) (l5 : Int32) (h : e_H), k40 l0 l1 l2 l3 l4 l5 h = some res → ∀ (H : Heap) (locs : List Loc), e_J G s h H locs → ∀ (ls : Array Slot), lv_has ls 8 [(0, .ref (e_ad G l0)), (1, .int l1), (2, .int l2), (3, .int l3), (4, .int l4), (5, .int l5)] → W p l e (e_rm 2 43) s m args below meth c H locs 0 0 (MQ below (e_Q G res.2 (some (.int res.1))) args s 0 0 (e_A G)) (F0 m 40 ls [])) (l0 : Nat) (l1 : Int32) (l2 : Int32) (l3 : Int32) (l4 : Int32) (l5 : Int32) (t0 : Int32) (t1 : Int32) (t2 : Nat) (h : e_H) (hM : fX9_mix_b110x1 k40 l0 l1 l2 l3 l4 l5 t0 t1 t2 h = some res) {H : Heap} {locs : List Loc} (J : e_J G s h H locs) {ls : Array Slot} (hl : lv_has ls 8 [(0, .ref (e_ad G l0)), (1, .int l1), (2, .int l2), (3, .int l3), (4, .int l4), (5, .int l5)]) : W p l e (e_rm 2 43) s m args below meth c H locs 0 0 (MQ below (e_Q G res.2 (some (.int res.1))) args s 0 0 (e_A G)) (F0 m 110 ls [.int t0, .int t1, .ref (e_ad G t2)]) := by
  obtain ⟨hx, hb, hr, hml, hown, hts, hlocks, hES, hbs⟩ := id E
  unfold fX9_mix_b110x1 at hM
  refine lv_bipush (v := -99) hx hb dX9_mix_110 (by decide) ?_
  refine lv_bipush (v := nI 99) hx hb dX9_mix_112 (by decide) ?_
  obtain ⟨v1, hv, hM⟩ := e_bs hM
  refine e_callS (As := [.int t0, .int (-99 : Int32), .int (nI 99)]) (rest := [.int t1, .ref (e_ad G t2)]) (n := 3) E J (mX9_within (l := l) (G := G) t0 (-99 : Int32) (nI 99) h _ hv) q_5_187 q_5_188 q_1_9 q_5_189 (by decide +kernel) rfl ⟨Nat.le_of_ble_eq_true rfl, Nat.le_of_ble_eq_true rfl⟩ (st0 := [.int (nI 99), .int (-99 : Int32), .int t0, .int t1, .ref (e_ad G t2)]) (st1 := [.int v1, .int t1, .ref (e_ad G t2)]) rfl rfl hl.1 (Nat.le_of_ble_eq_true rfl) dX9_mix_114 ⟨Nat.le_refl _, Nat.le_refl _⟩ (fun H locs J => ?_)
  obtain ⟨h2, hv, hM⟩ := e_bs hM
  refine e_iast E J hv dX9_mix_117 (fun H locs J => ?_)
  refine lv_iinc (v := (l5 + (nI 1))) (lv' := [(5, .int (l5 + (nI 1))), (0, .ref (e_ad G l0)), (1, .int l1), (2, .int l2), (3, .int l3), (4, .int l4)]) hx hb dX9_mix_118 hl (k := 5) rfl rfl (by decide) rfl (fun ls hl => ?_)
  refine lv_goto (tgt := 40) hx hb dX9_mix_121 (by decide) ?_
  exact K40 l0 l1 l2 l3 l4 (l5 + (nI 1)) h2 hM _ _ J _ (lv_sub hl [1, 2, 3, 4, 5, 0] rfl)
set_option maxRecDepth 100000 in
set_option maxHeartbeats 4000000 in
theorem mX9_mix_b40 {p : Program} {l : Launch} {e : Env} {s : State} {m : MethodId} {args : Array Value} {below : List Frame} {meth : Method} {c : Code} {G : e_G} {res : (Int32 × e_H)} {k40 : Nat → Int32 → Int32 → Int32 → Int32 → Int32 → e_H → Option (Int32 × e_H)} (E : e_M G p s args m meth c cX9_mix 8 (some FieldType.int) RX9) (K40 : ∀ (l0 : Nat) (l1 : Int32) (l2 : Int32) (l3 : Int32) (l4 : Int32) (l5 : Int32) (h : e_H), k40 l0 l1 l2 l3 l4 l5 h = some res → ∀ (H : Heap) (locs : List Loc), e_J G s h H locs → ∀ (ls : Array Slot), lv_has ls 8 [(0, .ref (e_ad G l0)), (1, .int l1), (2, .int l2), (3, .int l3), (4, .int l4), (5, .int l5)] → W p l e (e_rm 2 43) s m args below meth c H locs 0 0 (MQ below (e_Q G res.2 (some (.int res.1))) args s 0 0 (e_A G)) (F0 m 40 ls [])) (l0 : Nat) (l1 : Int32) (l2 : Int32) (l3 : Int32) (l4 : Int32) (l5 : Int32) (h : e_H) (hM : fX9_mix_b40 k40 l0 l1 l2 l3 l4 l5 h = some res) {H : Heap} {locs : List Loc} (J : e_J G s h H locs) {ls : Array Slot} (hl : lv_has ls 8 [(0, .ref (e_ad G l0)), (1, .int l1), (2, .int l2), (3, .int l3), (4, .int l4), (5, .int l5)]) : W p l e (e_rm 2 43) s m args below meth c H locs 0 0 (MQ below (e_Q G res.2 (some (.int res.1))) args s 0 0 (e_A G)) (F0 m 40 ls []) := by
  obtain ⟨hx, hb, hr, hml, hown, hts, hlocks, hES, hbs⟩ := id E
  unfold fX9_mix_b40 at hM
  refine lv_iload hx hb dX9_mix_40 (lv_at hl 5 rfl) ?_
  refine lv_bipush (v := nI 16) hx hb dX9_mix_42 (by decide) ?_
  refine lv_icmp_ge (tgt := 124) hx hb dX9_mix_44 (by decide) (fun hc => ?_) (fun hc => ?_)
  · have hM := e_ip hc hM
    refine lv_aload_n hx hb dX9_mix_124 rfl (lv_at hl 0 rfl) ?_
    refine lv_iload_n hx hb dX9_mix_125 rfl (lv_at hl 1 rfl) ?_
    obtain ⟨v1, hv, hM⟩ := e_bs hM
    obtain ⟨fs_, hk, -⟩ := e_bs hv
    refine e_callV (ci := 9) (As := [.int l1]) (rest := []) (n := 1) E J hk rfl (mX9_manyOf (l := l) (G := G) l0 l1 h _ hv) q_5_198 q_5_200 q_p_23 q_1_9 q_5_201 (by decide +kernel) rfl ⟨Nat.le_of_ble_eq_true rfl, Nat.le_of_ble_eq_true rfl⟩ (st0 := [.int l1, .ref (e_ad G l0)]) (st1 := [.int v1]) rfl rfl hl.1 (Nat.le_of_ble_eq_true rfl) dX9_mix_126 ⟨Nat.le_refl _, Nat.le_refl _⟩ (fun H locs J => ?_)
    obtain rfl := e_so hM
    exact e_iret E J dX9_mix_129
  · have hM := e_in hc hM
    refine lv_aload_n hx hb dX9_mix_47 rfl (lv_at hl 0 rfl) ?_
    obtain ⟨v2, hv, hM⟩ := e_bs hM
    refine e_getR (C := RX9) (T := TX9) (N := 40) E J hv rfl inX9 (by decide) q_5_10 dX9_mix_48 ?_
    rcases v2 with _ | a3
    · have hM := e_on0 hM
      refine W.eq (g2 := F0 m 51 ls [.null]) rfl ?_
      refine lv_iconst (v := nI 3) hx hb dX9_mix_51 (by decide) ?_
      refine lv_bipush (v := nI 16) hx hb dX9_mix_52 (by decide) ?_
      refine lv_iload_n hx hb dX9_mix_54 rfl (lv_at hl 2 rfl) ?_
      refine lv_imul hx hb dX9_mix_55 ?_
      refine lv_iadd hx hb dX9_mix_56 ?_
      refine lv_iload hx hb dX9_mix_57 (lv_at hl 5 rfl) ?_
      refine lv_iadd hx hb dX9_mix_59 ?_
      exact e_no hM
    · have hM := e_on1 hM
      refine W.eq (g2 := F0 m 51 ls [.ref (e_ad G a3)]) rfl ?_
      refine lv_iconst (v := nI 3) hx hb dX9_mix_51 (by decide) ?_
      refine lv_bipush (v := nI 16) hx hb dX9_mix_52 (by decide) ?_
      refine lv_iload_n hx hb dX9_mix_54 rfl (lv_at hl 2 rfl) ?_
      refine lv_imul hx hb dX9_mix_55 ?_
      refine lv_iadd hx hb dX9_mix_56 ?_
      refine lv_iload hx hb dX9_mix_57 (lv_at hl 5 rfl) ?_
      refine lv_iadd hx hb dX9_mix_59 ?_
      obtain ⟨v4, hv, hM⟩ := e_bs hM
      refine e_iald E J hv dX9_mix_60 ?_
      refine lv_istore (lv' := [(6, .int v4), (0, .ref (e_ad G l0)), (1, .int l1), (2, .int l2), (3, .int l3), (4, .int l4), (5, .int l5)]) hx hb dX9_mix_61 hl (by decide) rfl (fun ls hl => ?_)
      refine lv_aload_n hx hb dX9_mix_63 rfl (lv_at hl 1 rfl) ?_
      obtain ⟨v5, hv, hM⟩ := e_bs hM
      refine e_getR (C := RX9) (T := TX9) (N := 40) E J hv rfl inX9 (by decide) q_5_10 dX9_mix_64 ?_
      rcases v5 with _ | a6
      · have hM := e_on0 hM
        refine W.eq (g2 := F0 m 67 ls [.null]) rfl ?_
        refine lv_iconst (v := nI 3) hx hb dX9_mix_67 (by decide) ?_
        refine lv_bipush (v := nI 16) hx hb dX9_mix_68 (by decide) ?_
        refine lv_iload_n hx hb dX9_mix_70 rfl (lv_at hl 4 rfl) ?_
        refine lv_imul hx hb dX9_mix_71 ?_
        refine lv_iadd hx hb dX9_mix_72 ?_
        refine lv_iload hx hb dX9_mix_73 (lv_at hl 6 rfl) ?_
        refine lv_iadd hx hb dX9_mix_75 ?_
        exact e_no hM
      · have hM := e_on1 hM
        refine W.eq (g2 := F0 m 67 ls [.ref (e_ad G a6)]) rfl ?_
        refine lv_iconst (v := nI 3) hx hb dX9_mix_67 (by decide) ?_
        refine lv_bipush (v := nI 16) hx hb dX9_mix_68 (by decide) ?_
        refine lv_iload_n hx hb dX9_mix_70 rfl (lv_at hl 4 rfl) ?_
        refine lv_imul hx hb dX9_mix_71 ?_
        refine lv_iadd hx hb dX9_mix_72 ?_
        refine lv_iload hx hb dX9_mix_73 (lv_at hl 6 rfl) ?_
        refine lv_iadd hx hb dX9_mix_75 ?_
        obtain ⟨v7, hv, hM⟩ := e_bs hM
        refine e_iald E J hv dX9_mix_76 ?_
        refine lv_istore (lv' := [(7, .int v7), (6, .int v4), (0, .ref (e_ad G l0)), (1, .int l1), (2, .int l2), (3, .int l3), (4, .int l4), (5, .int l5)]) hx hb dX9_mix_77 hl (by decide) rfl (fun ls hl => ?_)
        refine lv_aload_n hx hb dX9_mix_79 rfl (lv_at hl 2 rfl) ?_
        obtain ⟨v8, hv, hM⟩ := e_bs hM
        refine e_getR (C := RX9) (T := TX9) (N := 40) E J hv rfl inX9 (by decide) q_5_10 dX9_mix_80 ?_
        rcases v8 with _ | a9
        · have hM := e_on0 hM
          refine W.eq (g2 := F0 m 83 ls [.null]) rfl ?_
          refine lv_iconst (v := nI 3) hx hb dX9_mix_83 (by decide) ?_
          refine lv_bipush (v := nI 16) hx hb dX9_mix_84 (by decide) ?_
          refine lv_iload_n hx hb dX9_mix_86 rfl (lv_at hl 3 rfl) ?_
          refine lv_imul hx hb dX9_mix_87 ?_
          refine lv_iadd hx hb dX9_mix_88 ?_
          refine lv_iload hx hb dX9_mix_89 (lv_at hl 7 rfl) ?_
          refine lv_iadd hx hb dX9_mix_91 ?_
          refine lv_iload hx hb dX9_mix_92 (lv_at hl 6 rfl) ?_
          refine lv_if_ne (tgt := 105) hx hb dX9_mix_94 (by decide) (fun hc => ?_) (fun hc => ?_)
          · have hM := e_in hc hM
            refine lv_iload hx hb dX9_mix_105 (lv_at hl 0 rfl) ?_
            refine lv_iload hx hb dX9_mix_107 (lv_at hl 1 rfl) ?_
            refine lv_isub hx hb dX9_mix_109 ?_
            exact mX9_mix_b110 E K40 l0 l1 l2 l3 l4 l5 (v7 - v4) (((nI 3) + ((nI 16) * l1)) + l5) h hM J (lv_sub hl [2, 3, 4, 5, 6, 7] rfl)
          · have hM := e_ip hc hM
            refine lv_iload hx hb dX9_mix_97 (lv_at hl 1 rfl) ?_
            refine lv_iload hx hb dX9_mix_99 (lv_at hl 0 rfl) ?_
            refine lv_iadd hx hb dX9_mix_101 ?_
            refine lv_goto (tgt := 110) hx hb dX9_mix_102 (by decide) ?_
            exact mX9_mix_b110 E K40 l0 l1 l2 l3 l4 l5 (v4 + v7) (((nI 3) + ((nI 16) * l1)) + l5) h hM J (lv_sub hl [2, 3, 4, 5, 6, 7] rfl)
        · have hM := e_on1 hM
          refine W.eq (g2 := F0 m 83 ls [.ref (e_ad G a9)]) rfl ?_
          refine lv_iconst (v := nI 3) hx hb dX9_mix_83 (by decide) ?_
          refine lv_bipush (v := nI 16) hx hb dX9_mix_84 (by decide) ?_
          refine lv_iload_n hx hb dX9_mix_86 rfl (lv_at hl 3 rfl) ?_
          refine lv_imul hx hb dX9_mix_87 ?_
          refine lv_iadd hx hb dX9_mix_88 ?_
          refine lv_iload hx hb dX9_mix_89 (lv_at hl 7 rfl) ?_
          refine lv_iadd hx hb dX9_mix_91 ?_
          refine lv_iload hx hb dX9_mix_92 (lv_at hl 6 rfl) ?_
          refine lv_if_ne (tgt := 105) hx hb dX9_mix_94 (by decide) (fun hc => ?_) (fun hc => ?_)
          · have hM := e_in hc hM
            refine lv_iload hx hb dX9_mix_105 (lv_at hl 0 rfl) ?_
            refine lv_iload hx hb dX9_mix_107 (lv_at hl 1 rfl) ?_
            refine lv_isub hx hb dX9_mix_109 ?_
            exact mX9_mix_b110x1 E K40 l0 l1 l2 l3 l4 l5 (v7 - v4) (((nI 3) + ((nI 16) * l1)) + l5) a9 h hM J (lv_sub hl [2, 3, 4, 5, 6, 7] rfl)
          · have hM := e_ip hc hM
            refine lv_iload hx hb dX9_mix_97 (lv_at hl 1 rfl) ?_
            refine lv_iload hx hb dX9_mix_99 (lv_at hl 0 rfl) ?_
            refine lv_iadd hx hb dX9_mix_101 ?_
            refine lv_goto (tgt := 110) hx hb dX9_mix_102 (by decide) ?_
            exact mX9_mix_b110x1 E K40 l0 l1 l2 l3 l4 l5 (v4 + v7) (((nI 3) + ((nI 16) * l1)) + l5) a9 h hM J (lv_sub hl [2, 3, 4, 5, 6, 7] rfl)
set_option maxRecDepth 100000 in
set_option maxHeartbeats 4000000 in
theorem mX9_mix_L40 {p : Program} {l : Launch} {e : Env} {s : State} {m : MethodId} {args : Array Value} {below : List Frame} {meth : Method} {c : Code} {G : e_G} {res : (Int32 × e_H)} (E : e_M G p s args m meth c cX9_mix 8 (some FieldType.int) RX9) (n : Nat) (l0 : Nat) (l1 : Int32) (l2 : Int32) (l3 : Int32) (l4 : Int32) (l5 : Int32) (h : e_H) (hM : fX9_mix_L40 n l0 l1 l2 l3 l4 l5 h = some res) {H : Heap} {locs : List Loc} (J : e_J G s h H locs) {ls : Array Slot} (hl : lv_has ls 8 [(0, .ref (e_ad G l0)), (1, .int l1), (2, .int l2), (3, .int l3), (4, .int l4), (5, .int l5)]) : W p l e (e_rm 2 43) s m args below meth c H locs 0 0 (MQ below (e_Q G res.2 (some (.int res.1))) args s 0 0 (e_A G)) (F0 m 40 ls []) := by
  induction n generalizing l0 l1 l2 l3 l4 l5 h H locs ls with
  | zero => exact e_no hM
  | succ n ih => exact mX9_mix_b40 (k40 := (fX9_mix_L40 n)) E   (fun l0 l1 l2 l3 l4 l5 h hM H locs J ls hl => ih l0 l1 l2 l3 l4 l5 h hM J hl) l0 l1 l2 l3 l4 l5 h hM J hl
set_option maxRecDepth 100000 in
set_option maxHeartbeats 4000000 in
theorem mX9_mix {l : Launch} {G : e_G} (l0 : Nat) (l1 : Int32) (l2 : Int32) (l3 : Int32) (l4 : Int32) (h : e_H) (res : (Int32 × e_H)) (hM : fX9_mix l0 l1 l2 l3 l4 h = some res) : Met l yX9_mix (e_W yX9_mix cX9_mix 8 (some FieldType.int)) (e_rm 2 43) (e_Pc G h [.ref (e_ad G l0), .int l1, .int l2, .int l3, .int l4]) (e_Q G res.2 (some (.int res.1))) 0 0 (e_A G) := by
  refine Met.ofW (cc := cX9_mix) (maxL := 8) (ret := (some FieldType.int)) (by decide) rfl ?_
  intro p e s m args below meth c s₁ B hml hv
  obtain ⟨rfl, hS, hP⟩ := hv
  have E := e_enter (own := RX9) (ret := (some FieldType.int)) B hml rfl hS hP
  have J : e_J G s h s.heap [] := ⟨hP, va_S.rf⟩
  have hl := lv_entry ([.ref (e_ad G l0), .int l1, .int l2, .int l3, .int l4]) (n := 8) (Nat.le_of_ble_eq_true rfl)
  rw [lg_entry_eq]
  generalize (lg_sl ([.ref (e_ad G l0), .int l1, .int l2, .int l3, .int l4]) ++ List.replicate (8 - (lg_sl ([.ref (e_ad G l0), .int l1, .int l2, .int l3, .int l4])).length) Slot.unset).toArray = ls at hl ⊢
  have hl : lv_has ls 8 [(0, .ref (e_ad G l0)), (1, .int l1), (2, .int l2), (3, .int l3), (4, .int l4)] := hl
  obtain ⟨hx, hb, hr, hml, hown, hts, hlocks, hES, hbs⟩ := id E
  unfold fX9_mix at hM
  obtain ⟨fs_, hk_, hM⟩ := e_bs hM
  refine lv_aload_n hx hb dX9_mix_0 rfl (lv_at hl 0 rfl) ?_
  refine lv_iload_n hx hb dX9_mix_1 rfl (lv_at hl 1 rfl) ?_
  obtain ⟨v1, hv, hM⟩ := e_bs hM
  obtain ⟨fs_, hk, -⟩ := e_bs hv
  refine e_callV (ci := 9) (As := [.int l1]) (rest := []) (n := 1) E J hk rfl (mX9_isCurve (l := l) (G := G) l0 l1 h _ hv) q_5_150 q_5_152 q_p_16 q_1_9 q_5_153 (by decide +kernel) rfl ⟨Nat.le_of_ble_eq_true rfl, Nat.le_of_ble_eq_true rfl⟩ (st0 := [.int l1, .ref (e_ad G l0)]) (st1 := [.int (e_b v1)]) rfl rfl hl.1 (Nat.le_of_ble_eq_true rfl) dX9_mix_2 ⟨Nat.le_refl _, Nat.le_refl _⟩ (fun H locs J => ?_)
  refine lv_if_eq (tgt := 34) hx hb dX9_mix_5 (by decide) (fun hc => ?_) (fun hc => ?_)
  · have hM := e_ip hc hM
    refine lv_ldc (v := -1000000001) hx hb hown (hts _ q_5_140) dX9_mix_34 ?_
    obtain rfl := e_so hM
    exact e_iret E J dX9_mix_36
  · have hM := e_in hc hM
    refine lv_aload_n hx hb dX9_mix_8 rfl (lv_at hl 0 rfl) ?_
    refine lv_iload_n hx hb dX9_mix_9 rfl (lv_at hl 2 rfl) ?_
    obtain ⟨v2, hv, hM⟩ := e_bs hM
    obtain ⟨fs_, hk, -⟩ := e_bs hv
    refine e_callV (ci := 9) (As := [.int l2]) (rest := []) (n := 1) E J hk rfl (mX9_isCurve (l := l) (G := G) l0 l2 h _ hv) q_5_150 q_5_152 q_p_16 q_1_9 q_5_153 (by decide +kernel) rfl ⟨Nat.le_of_ble_eq_true rfl, Nat.le_of_ble_eq_true rfl⟩ (st0 := [.int l2, .ref (e_ad G l0)]) (st1 := [.int (e_b v2)]) rfl rfl hl.1 (Nat.le_of_ble_eq_true rfl) dX9_mix_10 ⟨Nat.le_refl _, Nat.le_refl _⟩ (fun H locs J => ?_)
    refine lv_if_eq (tgt := 34) hx hb dX9_mix_13 (by decide) (fun hc => ?_) (fun hc => ?_)
    · have hM := e_ip hc hM
      refine lv_ldc (v := -1000000001) hx hb hown (hts _ q_5_140) dX9_mix_34 ?_
      obtain rfl := e_so hM
      exact e_iret E J dX9_mix_36
    · have hM := e_in hc hM
      refine lv_aload_n hx hb dX9_mix_16 rfl (lv_at hl 0 rfl) ?_
      refine lv_iload_n hx hb dX9_mix_17 rfl (lv_at hl 3 rfl) ?_
      obtain ⟨v3, hv, hM⟩ := e_bs hM
      obtain ⟨fs_, hk, -⟩ := e_bs hv
      refine e_callV (ci := 9) (As := [.int l3]) (rest := []) (n := 1) E J hk rfl (mX9_isCurve (l := l) (G := G) l0 l3 h _ hv) q_5_150 q_5_152 q_p_16 q_1_9 q_5_153 (by decide +kernel) rfl ⟨Nat.le_of_ble_eq_true rfl, Nat.le_of_ble_eq_true rfl⟩ (st0 := [.int l3, .ref (e_ad G l0)]) (st1 := [.int (e_b v3)]) rfl rfl hl.1 (Nat.le_of_ble_eq_true rfl) dX9_mix_18 ⟨Nat.le_refl _, Nat.le_refl _⟩ (fun H locs J => ?_)
      refine lv_if_eq (tgt := 34) hx hb dX9_mix_21 (by decide) (fun hc => ?_) (fun hc => ?_)
      · have hM := e_ip hc hM
        refine lv_ldc (v := -1000000001) hx hb hown (hts _ q_5_140) dX9_mix_34 ?_
        obtain rfl := e_so hM
        exact e_iret E J dX9_mix_36
      · have hM := e_in hc hM
        refine lv_iload hx hb dX9_mix_24 (lv_at hl 4 rfl) ?_
        refine lv_iconst (v := nI 0) hx hb dX9_mix_26 (by decide) ?_
        refine lv_iconst (v := nI 1) hx hb dX9_mix_27 (by decide) ?_
        obtain ⟨v4, hv, hM⟩ := e_bs hM
        refine e_callS (As := [.int l4, .int (nI 0), .int (nI 1)]) (rest := []) (n := 3) E J (mX9_in (l := l) (G := G) l4 (nI 0) (nI 1) h _ hv) q_5_137 q_5_138 q_1_9 q_5_139 (by decide +kernel) rfl ⟨Nat.le_of_ble_eq_true rfl, Nat.le_of_ble_eq_true rfl⟩ (st0 := [.int (nI 1), .int (nI 0), .int l4]) (st1 := [.int (e_b v4)]) rfl rfl hl.1 (Nat.le_of_ble_eq_true rfl) dX9_mix_28 ⟨Nat.le_refl _, Nat.le_refl _⟩ (fun H locs J => ?_)
        refine lv_if_ne (tgt := 37) hx hb dX9_mix_31 (by decide) (fun hc => ?_) (fun hc => ?_)
        · have hM := e_in hc hM
          refine lv_iconst (v := nI 1) hx hb dX9_mix_37 (by decide) ?_
          refine lv_istore (lv' := [(5, .int (nI 1)), (0, .ref (e_ad G l0)), (1, .int l1), (2, .int l2), (3, .int l3), (4, .int l4)]) hx hb dX9_mix_38 hl (by decide) rfl (fun ls hl => ?_)
          exact mX9_mix_L40 E 200 l0 l1 l2 l3 l4 (nI 1) h hM J (lv_sub hl [1, 2, 3, 4, 5, 0] rfl)
        · have hM := e_ip hc hM
          refine lv_ldc (v := -1000000001) hx hb hown (hts _ q_5_140) dX9_mix_34 ?_
          obtain rfl := e_so hM
          exact e_iret E J dX9_mix_36
set_option maxRecDepth 100000 in
set_option maxHeartbeats 4000000 in
theorem mX9_draw {l : Launch} {G : e_G} (l0 : Nat) (h : e_H) (res : (Int32 × e_H)) (hM : fX9_draw l0 h = some res) : Met l yX9_draw (e_W yX9_draw cX9_draw 1 (some FieldType.int)) (e_rm 0 0) (e_Pc G h [.ref (e_ad G l0)]) (e_Q G res.2 (some (.int res.1))) 0 0 (e_A G) := by
  refine Met.ofW (cc := cX9_draw) (maxL := 1) (ret := (some FieldType.int)) (by decide) rfl ?_
  intro p e s m args below meth c s₁ B hml hv
  obtain ⟨rfl, hS, hP⟩ := hv
  have E := e_enter (own := RX9) (ret := (some FieldType.int)) B hml rfl hS hP
  have J : e_J G s h s.heap [] := ⟨hP, va_S.rf⟩
  have hl := lv_entry ([.ref (e_ad G l0)]) (n := 1) (Nat.le_of_ble_eq_true rfl)
  rw [lg_entry_eq]
  generalize (lg_sl ([.ref (e_ad G l0)]) ++ List.replicate (1 - (lg_sl ([.ref (e_ad G l0)])).length) Slot.unset).toArray = ls at hl ⊢
  have hl : lv_has ls 1 [(0, .ref (e_ad G l0))] := hl
  obtain ⟨hx, hb, hr, hml, hown, hts, hlocks, hES, hbs⟩ := id E
  unfold fX9_draw at hM
  obtain ⟨fs_, hk_, hM⟩ := e_bs hM
  refine lv_aload_n hx hb dX9_draw_0 rfl (lv_at hl 0 rfl) ?_
  obtain ⟨v1, hv, hM⟩ := e_bs hM
  refine e_getR (C := RX9) (T := TX9) (N := 40) E J hv rfl inX9 (by decide) q_5_10 dX9_draw_1 ?_
  rcases v1 with _ | a2
  · have hM := e_on0 hM
    refine W.eq (g2 := F0 m 4 ls [.null]) rfl ?_
    refine lv_iconst (v := nI 0) hx hb dX9_draw_4 (by decide) ?_
    refine lv_aload_n hx hb dX9_draw_5 rfl (lv_at hl 0 rfl) ?_
    obtain ⟨v3, hv, hM⟩ := e_bs hM
    refine e_getR (C := RX9) (T := TX9) (N := 40) E J hv rfl inX9 (by decide) q_5_10 dX9_draw_6 ?_
    rcases v3 with _ | a4
    · have hM := e_on0 hM
      refine W.eq (g2 := F0 m 9 ls [.null, .int (nI 0), .null]) rfl ?_
      refine lv_iconst (v := nI 0) hx hb dX9_draw_9 (by decide) ?_
      exact e_no hM
    · have hM := e_on1 hM
      refine W.eq (g2 := F0 m 9 ls [.ref (e_ad G a4), .int (nI 0), .null]) rfl ?_
      refine lv_iconst (v := nI 0) hx hb dX9_draw_9 (by decide) ?_
      obtain ⟨v5, hv, hM⟩ := e_bs hM
      refine e_iald E J hv dX9_draw_10 ?_
      refine lv_ldc (v := 1103515245) hx hb hown (hts _ q_5_234) dX9_draw_11 ?_
      refine lv_imul hx hb dX9_draw_13 ?_
      refine lv_sipush (v := nI 12345) hx hb dX9_draw_14 (by decide) ?_
      refine lv_iadd hx hb dX9_draw_17 ?_
      exact e_no hM
  · have hM := e_on1 hM
    refine W.eq (g2 := F0 m 4 ls [.ref (e_ad G a2)]) rfl ?_
    refine lv_iconst (v := nI 0) hx hb dX9_draw_4 (by decide) ?_
    refine lv_aload_n hx hb dX9_draw_5 rfl (lv_at hl 0 rfl) ?_
    obtain ⟨v7, hv, hM⟩ := e_bs hM
    refine e_getR (C := RX9) (T := TX9) (N := 40) E J hv rfl inX9 (by decide) q_5_10 dX9_draw_6 ?_
    rcases v7 with _ | a8
    · have hM := e_on0 hM
      refine W.eq (g2 := F0 m 9 ls [.null, .int (nI 0), .ref (e_ad G a2)]) rfl ?_
      refine lv_iconst (v := nI 0) hx hb dX9_draw_9 (by decide) ?_
      exact e_no hM
    · have hM := e_on1 hM
      refine W.eq (g2 := F0 m 9 ls [.ref (e_ad G a8), .int (nI 0), .ref (e_ad G a2)]) rfl ?_
      refine lv_iconst (v := nI 0) hx hb dX9_draw_9 (by decide) ?_
      obtain ⟨v9, hv, hM⟩ := e_bs hM
      refine e_iald E J hv dX9_draw_10 ?_
      refine lv_ldc (v := 1103515245) hx hb hown (hts _ q_5_234) dX9_draw_11 ?_
      refine lv_imul hx hb dX9_draw_13 ?_
      refine lv_sipush (v := nI 12345) hx hb dX9_draw_14 (by decide) ?_
      refine lv_iadd hx hb dX9_draw_17 ?_
      obtain ⟨h10, hv, hM⟩ := e_bs hM
      refine e_iast E J hv dX9_draw_18 (fun H locs J => ?_)
      refine lv_aload_n hx hb dX9_draw_19 rfl (lv_at hl 0 rfl) ?_
      obtain ⟨v11, hv, hM⟩ := e_bs hM
      refine e_getR (C := RX9) (T := TX9) (N := 40) E J hv rfl inX9 (by decide) q_5_10 dX9_draw_20 ?_
      rcases v11 with _ | a12
      · have hM := e_on0 hM
        refine W.eq (g2 := F0 m 23 ls [.null]) rfl ?_
        refine lv_iconst (v := nI 0) hx hb dX9_draw_23 (by decide) ?_
        exact e_no hM
      · have hM := e_on1 hM
        refine W.eq (g2 := F0 m 23 ls [.ref (e_ad G a12)]) rfl ?_
        refine lv_iconst (v := nI 0) hx hb dX9_draw_23 (by decide) ?_
        obtain ⟨v13, hv, hM⟩ := e_bs hM
        refine e_iald E J hv dX9_draw_24 ?_
        refine lv_bipush (v := nI 8) hx hb dX9_draw_25 (by decide) ?_
        refine lv_iushr hx hb dX9_draw_27 rfl ?_
        obtain rfl := e_so hM
        exact e_iret E J dX9_draw_28
set_option maxRecDepth 100000 in
set_option maxHeartbeats 4000000 in
theorem mX9_deal_b45 {p : Program} {l : Launch} {e : Env} {s : State} {m : MethodId} {args : Array Value} {below : List Frame} {meth : Method} {c : Code} {G : e_G} {res : (Int32 × e_H)} {k15 : Nat → Int32 → Int32 → e_H → Option (Int32 × e_H)} {k45 : Nat → Int32 → Int32 → Int32 → Int32 → e_H → Option (Int32 × e_H)} (E : e_M G p s args m meth c cX9_deal 5 (some FieldType.int) RX9) (K15 : ∀ (l0 : Nat) (l1 : Int32) (l2 : Int32) (h : e_H), k15 l0 l1 l2 h = some res → ∀ (H : Heap) (locs : List Loc), e_J G s h H locs → ∀ (ls : Array Slot), lv_has ls 5 [(0, .ref (e_ad G l0)), (1, .int l1), (2, .int l2)] → W p l e (e_rm 1 23) s m args below meth c H locs 0 0 (MQ below (e_Q G res.2 (some (.int res.1))) args s 0 0 (e_A G)) (F0 m 15 ls [])) (K45 : ∀ (l0 : Nat) (l1 : Int32) (l2 : Int32) (l3 : Int32) (l4 : Int32) (h : e_H), k45 l0 l1 l2 l3 l4 h = some res → ∀ (H : Heap) (locs : List Loc), e_J G s h H locs → ∀ (ls : Array Slot), lv_has ls 5 [(0, .ref (e_ad G l0)), (1, .int l1), (2, .int l2), (3, .int l3), (4, .int l4)] → W p l e (e_rm 1 23) s m args below meth c H locs 0 0 (MQ below (e_Q G res.2 (some (.int res.1))) args s 0 0 (e_A G)) (F0 m 45 ls [])) (l0 : Nat) (l1 : Int32) (l2 : Int32) (l3 : Int32) (l4 : Int32) (h : e_H) (hM : fX9_deal_b45 k15 k45 l0 l1 l2 l3 l4 h = some res) {H : Heap} {locs : List Loc} (J : e_J G s h H locs) {ls : Array Slot} (hl : lv_has ls 5 [(0, .ref (e_ad G l0)), (1, .int l1), (2, .int l2), (3, .int l3), (4, .int l4)]) : W p l e (e_rm 1 23) s m args below meth c H locs 0 0 (MQ below (e_Q G res.2 (some (.int res.1))) args s 0 0 (e_A G)) (F0 m 45 ls []) := by
  obtain ⟨hx, hb, hr, hml, hown, hts, hlocks, hES, hbs⟩ := id E
  unfold fX9_deal_b45 at hM
  refine lv_iload hx hb dX9_deal_45 (lv_at hl 4 rfl) ?_
  refine lv_bipush (v := nI 16) hx hb dX9_deal_47 (by decide) ?_
  refine lv_icmp_ge (tgt := 76) hx hb dX9_deal_49 (by decide) (fun hc => ?_) (fun hc => ?_)
  · have hM := e_ip hc hM
    refine lv_iinc (v := (l2 + (nI 1))) (lv' := [(2, .int (l2 + (nI 1))), (0, .ref (e_ad G l0)), (1, .int l1), (3, .int l3), (4, .int l4)]) hx hb dX9_deal_76 hl (k := 2) rfl rfl (by decide) rfl (fun ls hl => ?_)
    refine lv_goto (tgt := 15) hx hb dX9_deal_79 (by decide) ?_
    exact K15 l0 l1 (l2 + (nI 1)) h hM _ _ J _ (lv_sub hl [1, 2, 0] rfl)
  · have hM := e_in hc hM
    refine lv_aload_n hx hb dX9_deal_52 rfl (lv_at hl 0 rfl) ?_
    obtain ⟨v1, hv, hM⟩ := e_bs hM
    refine e_getR (C := RX9) (T := TX9) (N := 40) E J hv rfl inX9 (by decide) q_5_10 dX9_deal_53 ?_
    rcases v1 with _ | a2
    · have hM := e_on0 hM
      refine W.eq (g2 := F0 m 56 ls [.null]) rfl ?_
      refine lv_iload_n hx hb dX9_deal_56 rfl (lv_at hl 3 rfl) ?_
      refine lv_iload hx hb dX9_deal_57 (lv_at hl 4 rfl) ?_
      refine lv_iadd hx hb dX9_deal_59 ?_
      refine lv_aload_n hx hb dX9_deal_60 rfl (lv_at hl 0 rfl) ?_
      obtain ⟨p3, hv, hM⟩ := e_bs hM
      obtain ⟨fs_, hk, -⟩ := e_bs hv
      refine e_callV (ci := 9) (As := []) (rest := [.int (l3 + l4), .null]) (n := 0) E J hk rfl (mX9_draw (l := l) (G := G) l0 h _ hv) q_5_230 q_5_232 q_p_26 q_1_9 q_5_233 (by decide +kernel) rfl ⟨Nat.le_of_ble_eq_true rfl, Nat.le_of_ble_eq_true rfl⟩ (st0 := [.ref (e_ad G l0), .int (l3 + l4), .null]) (st1 := [.int p3.1, .int (l3 + l4), .null]) rfl rfl hl.1 (Nat.le_of_ble_eq_true rfl) dX9_deal_61 ⟨Nat.le_refl _, Nat.le_refl _⟩ (fun H locs J => ?_)
      refine lv_bipush (v := nI 7) hx hb dX9_deal_64 (by decide) ?_
      refine lv_irem hx hb dX9_deal_66 (by decide) ?_
      refine lv_iconst (v := nI 3) hx hb dX9_deal_67 (by decide) ?_
      refine lv_isub hx hb dX9_deal_68 ?_
      exact e_no hM
    · have hM := e_on1 hM
      refine W.eq (g2 := F0 m 56 ls [.ref (e_ad G a2)]) rfl ?_
      refine lv_iload_n hx hb dX9_deal_56 rfl (lv_at hl 3 rfl) ?_
      refine lv_iload hx hb dX9_deal_57 (lv_at hl 4 rfl) ?_
      refine lv_iadd hx hb dX9_deal_59 ?_
      refine lv_aload_n hx hb dX9_deal_60 rfl (lv_at hl 0 rfl) ?_
      obtain ⟨p5, hv, hM⟩ := e_bs hM
      obtain ⟨fs_, hk, -⟩ := e_bs hv
      refine e_callV (ci := 9) (As := []) (rest := [.int (l3 + l4), .ref (e_ad G a2)]) (n := 0) E J hk rfl (mX9_draw (l := l) (G := G) l0 h _ hv) q_5_230 q_5_232 q_p_26 q_1_9 q_5_233 (by decide +kernel) rfl ⟨Nat.le_of_ble_eq_true rfl, Nat.le_of_ble_eq_true rfl⟩ (st0 := [.ref (e_ad G l0), .int (l3 + l4), .ref (e_ad G a2)]) (st1 := [.int p5.1, .int (l3 + l4), .ref (e_ad G a2)]) rfl rfl hl.1 (Nat.le_of_ble_eq_true rfl) dX9_deal_61 ⟨Nat.le_refl _, Nat.le_refl _⟩ (fun H locs J => ?_)
      refine lv_bipush (v := nI 7) hx hb dX9_deal_64 (by decide) ?_
      refine lv_irem hx hb dX9_deal_66 (by decide) ?_
      refine lv_iconst (v := nI 3) hx hb dX9_deal_67 (by decide) ?_
      refine lv_isub hx hb dX9_deal_68 ?_
      obtain ⟨h6, hv, hM⟩ := e_bs hM
      refine e_iast E J hv dX9_deal_69 (fun H locs J => ?_)
      refine lv_iinc (v := (l4 + (nI 1))) (lv' := [(4, .int (l4 + (nI 1))), (0, .ref (e_ad G l0)), (1, .int l1), (2, .int l2), (3, .int l3)]) hx hb dX9_deal_70 hl (k := 4) rfl rfl (by decide) rfl (fun ls hl => ?_)
      refine lv_goto (tgt := 45) hx hb dX9_deal_73 (by decide) ?_
      exact K45 l0 l1 l2 l3 (l4 + (nI 1)) h6 hM _ _ J _ (lv_sub hl [1, 2, 3, 4, 0] rfl)
set_option maxRecDepth 100000 in
set_option maxHeartbeats 4000000 in
theorem mX9_deal_L45 {p : Program} {l : Launch} {e : Env} {s : State} {m : MethodId} {args : Array Value} {below : List Frame} {meth : Method} {c : Code} {G : e_G} {res : (Int32 × e_H)} {k15 : Nat → Int32 → Int32 → e_H → Option (Int32 × e_H)} (E : e_M G p s args m meth c cX9_deal 5 (some FieldType.int) RX9) (K15 : ∀ (l0 : Nat) (l1 : Int32) (l2 : Int32) (h : e_H), k15 l0 l1 l2 h = some res → ∀ (H : Heap) (locs : List Loc), e_J G s h H locs → ∀ (ls : Array Slot), lv_has ls 5 [(0, .ref (e_ad G l0)), (1, .int l1), (2, .int l2)] → W p l e (e_rm 1 23) s m args below meth c H locs 0 0 (MQ below (e_Q G res.2 (some (.int res.1))) args s 0 0 (e_A G)) (F0 m 15 ls [])) (n : Nat) (l0 : Nat) (l1 : Int32) (l2 : Int32) (l3 : Int32) (l4 : Int32) (h : e_H) (hM : fX9_deal_L45 k15 n l0 l1 l2 l3 l4 h = some res) {H : Heap} {locs : List Loc} (J : e_J G s h H locs) {ls : Array Slot} (hl : lv_has ls 5 [(0, .ref (e_ad G l0)), (1, .int l1), (2, .int l2), (3, .int l3), (4, .int l4)]) : W p l e (e_rm 1 23) s m args below meth c H locs 0 0 (MQ below (e_Q G res.2 (some (.int res.1))) args s 0 0 (e_A G)) (F0 m 45 ls []) := by
  induction n generalizing l0 l1 l2 l3 l4 h H locs ls with
  | zero => exact e_no hM
  | succ n ih => exact mX9_deal_b45 (k45 := (fX9_deal_L45 k15 n)) E  K15 (fun l0 l1 l2 l3 l4 h hM H locs J ls hl => ih l0 l1 l2 l3 l4 h hM J hl) l0 l1 l2 l3 l4 h hM J hl
set_option maxRecDepth 100000 in
set_option maxHeartbeats 4000000 in
theorem mX9_deal_b15 {p : Program} {l : Launch} {e : Env} {s : State} {m : MethodId} {args : Array Value} {below : List Frame} {meth : Method} {c : Code} {G : e_G} {res : (Int32 × e_H)} {k15 : Nat → Int32 → Int32 → e_H → Option (Int32 × e_H)} (E : e_M G p s args m meth c cX9_deal 5 (some FieldType.int) RX9) (K15 : ∀ (l0 : Nat) (l1 : Int32) (l2 : Int32) (h : e_H), k15 l0 l1 l2 h = some res → ∀ (H : Heap) (locs : List Loc), e_J G s h H locs → ∀ (ls : Array Slot), lv_has ls 5 [(0, .ref (e_ad G l0)), (1, .int l1), (2, .int l2)] → W p l e (e_rm 1 23) s m args below meth c H locs 0 0 (MQ below (e_Q G res.2 (some (.int res.1))) args s 0 0 (e_A G)) (F0 m 15 ls [])) (l0 : Nat) (l1 : Int32) (l2 : Int32) (h : e_H) (hM : fX9_deal_b15 k15 l0 l1 l2 h = some res) {H : Heap} {locs : List Loc} (J : e_J G s h H locs) {ls : Array Slot} (hl : lv_has ls 5 [(0, .ref (e_ad G l0)), (1, .int l1), (2, .int l2)]) : W p l e (e_rm 1 23) s m args below meth c H locs 0 0 (MQ below (e_Q G res.2 (some (.int res.1))) args s 0 0 (e_A G)) (F0 m 15 ls []) := by
  obtain ⟨hx, hb, hr, hml, hown, hts, hlocks, hES, hbs⟩ := id E
  unfold fX9_deal_b15 at hM
  refine lv_iload_n hx hb dX9_deal_15 rfl (lv_at hl 2 rfl) ?_
  refine lv_iload_n hx hb dX9_deal_16 rfl (lv_at hl 1 rfl) ?_
  refine lv_icmp_ge (tgt := 82) hx hb dX9_deal_17 (by decide) (fun hc => ?_) (fun hc => ?_)
  · have hM := e_ip hc hM
    refine lv_iload_n hx hb dX9_deal_82 rfl (lv_at hl 2 rfl) ?_
    obtain rfl := e_so hM
    exact e_iret E J dX9_deal_83
  · have hM := e_in hc hM
    refine lv_aload_n hx hb dX9_deal_20 rfl (lv_at hl 0 rfl) ?_
    obtain ⟨v1, hv, hM⟩ := e_bs hM
    refine e_getR (C := RX9) (T := TX9) (N := 40) E J hv rfl inX9 (by decide) q_5_10 dX9_deal_21 ?_
    rcases v1 with _ | a2
    · have hM := e_on0 hM
      refine W.eq (g2 := F0 m 24 ls [.null]) rfl ?_
      refine lv_iconst (v := nI 1) hx hb dX9_deal_24 (by decide) ?_
      exact e_no hM
    · have hM := e_on1 hM
      refine W.eq (g2 := F0 m 24 ls [.ref (e_ad G a2)]) rfl ?_
      refine lv_iconst (v := nI 1) hx hb dX9_deal_24 (by decide) ?_
      obtain ⟨v3, hv, hM⟩ := e_bs hM
      refine e_iald E J hv dX9_deal_25 ?_
      refine lv_bipush (v := nI 6) hx hb dX9_deal_26 (by decide) ?_
      refine lv_icmp_ge (tgt := 82) hx hb dX9_deal_28 (by decide) (fun hc => ?_) (fun hc => ?_)
      · have hM := e_ip hc hM
        refine lv_iload_n hx hb dX9_deal_82 rfl (lv_at hl 2 rfl) ?_
        obtain rfl := e_so hM
        exact e_iret E J dX9_deal_83
      · have hM := e_in hc hM
        refine lv_iconst (v := nI 3) hx hb dX9_deal_31 (by decide) ?_
        refine lv_bipush (v := nI 16) hx hb dX9_deal_32 (by decide) ?_
        refine lv_aload_n hx hb dX9_deal_34 rfl (lv_at hl 0 rfl) ?_
        refine lv_iconst (v := nI 0) hx hb dX9_deal_35 (by decide) ?_
        obtain ⟨p4, hv, hM⟩ := e_bs hM
        obtain ⟨fs_, hk, -⟩ := e_bs hv
        refine e_callV (ci := 9) (As := [.int (nI 0)]) (rest := [.int (nI 16), .int (nI 3)]) (n := 1) E J hk rfl (mX9_comes (l := l) (G := G) l0 (nI 0) h _ hv) q_5_142 q_5_144 q_p_15 q_1_9 q_5_145 (by decide +kernel) rfl ⟨Nat.le_of_ble_eq_true rfl, Nat.le_of_ble_eq_true rfl⟩ (st0 := [.int (nI 0), .ref (e_ad G l0), .int (nI 16), .int (nI 3)]) (st1 := [.int p4.1, .int (nI 16), .int (nI 3)]) rfl rfl hl.1 (Nat.le_of_ble_eq_true rfl) dX9_deal_36 ⟨Nat.le_refl _, Nat.le_refl _⟩ (fun H locs J => ?_)
        refine lv_imul hx hb dX9_deal_39 ?_
        refine lv_iadd hx hb dX9_deal_40 ?_
        refine lv_istore_n (lv' := [(3, .int ((nI 3) + ((nI 16) * p4.1))), (0, .ref (e_ad G l0)), (1, .int l1), (2, .int l2)]) hx hb dX9_deal_41 rfl hl (by decide) rfl (fun ls hl => ?_)
        refine lv_iconst (v := nI 1) hx hb dX9_deal_42 (by decide) ?_
        refine lv_istore (lv' := [(4, .int (nI 1)), (3, .int ((nI 3) + ((nI 16) * p4.1))), (0, .ref (e_ad G l0)), (1, .int l1), (2, .int l2)]) hx hb dX9_deal_43 hl (by decide) rfl (fun ls hl => ?_)
        exact mX9_deal_L45 E K15 200 l0 l1 l2 ((nI 3) + ((nI 16) * p4.1)) (nI 1) p4.2 hM J (lv_sub hl [2, 3, 4, 1, 0] rfl)
set_option maxRecDepth 100000 in
set_option maxHeartbeats 4000000 in
theorem mX9_deal_L15 {p : Program} {l : Launch} {e : Env} {s : State} {m : MethodId} {args : Array Value} {below : List Frame} {meth : Method} {c : Code} {G : e_G} {res : (Int32 × e_H)} (E : e_M G p s args m meth c cX9_deal 5 (some FieldType.int) RX9) (n : Nat) (l0 : Nat) (l1 : Int32) (l2 : Int32) (h : e_H) (hM : fX9_deal_L15 n l0 l1 l2 h = some res) {H : Heap} {locs : List Loc} (J : e_J G s h H locs) {ls : Array Slot} (hl : lv_has ls 5 [(0, .ref (e_ad G l0)), (1, .int l1), (2, .int l2)]) : W p l e (e_rm 1 23) s m args below meth c H locs 0 0 (MQ below (e_Q G res.2 (some (.int res.1))) args s 0 0 (e_A G)) (F0 m 15 ls []) := by
  induction n generalizing l0 l1 l2 h H locs ls with
  | zero => exact e_no hM
  | succ n ih => exact mX9_deal_b15 (k15 := (fX9_deal_L15 n)) E   (fun l0 l1 l2 h hM H locs J ls hl => ih l0 l1 l2 h hM J hl) l0 l1 l2 h hM J hl
set_option maxRecDepth 100000 in
set_option maxHeartbeats 4000000 in
theorem mX9_deal {l : Launch} {G : e_G} (l0 : Nat) (l1 : Int32) (h : e_H) (res : (Int32 × e_H)) (hM : fX9_deal l0 l1 h = some res) : Met l yX9_deal (e_W yX9_deal cX9_deal 5 (some FieldType.int)) (e_rm 1 23) (e_Pc G h [.ref (e_ad G l0), .int l1]) (e_Q G res.2 (some (.int res.1))) 0 0 (e_A G) := by
  refine Met.ofW (cc := cX9_deal) (maxL := 5) (ret := (some FieldType.int)) (by decide) rfl ?_
  intro p e s m args below meth c s₁ B hml hv
  obtain ⟨rfl, hS, hP⟩ := hv
  have E := e_enter (own := RX9) (ret := (some FieldType.int)) B hml rfl hS hP
  have J : e_J G s h s.heap [] := ⟨hP, va_S.rf⟩
  have hl := lv_entry ([.ref (e_ad G l0), .int l1]) (n := 5) (Nat.le_of_ble_eq_true rfl)
  rw [lg_entry_eq]
  generalize (lg_sl ([.ref (e_ad G l0), .int l1]) ++ List.replicate (5 - (lg_sl ([.ref (e_ad G l0), .int l1])).length) Slot.unset).toArray = ls at hl ⊢
  have hl : lv_has ls 5 [(0, .ref (e_ad G l0)), (1, .int l1)] := hl
  obtain ⟨hx, hb, hr, hml, hown, hts, hlocks, hES, hbs⟩ := id E
  unfold fX9_deal at hM
  obtain ⟨fs_, hk_, hM⟩ := e_bs hM
  refine lv_iload_n hx hb dX9_deal_0 rfl (lv_at hl 1 rfl) ?_
  refine lv_iconst (v := nI 1) hx hb dX9_deal_1 (by decide) ?_
  refine lv_bipush (v := nI 6) hx hb dX9_deal_2 (by decide) ?_
  obtain ⟨v1, hv, hM⟩ := e_bs hM
  refine e_callS (As := [.int l1, .int (nI 1), .int (nI 6)]) (rest := []) (n := 3) E J (mX9_in (l := l) (G := G) l1 (nI 1) (nI 6) h _ hv) q_5_137 q_5_138 q_1_9 q_5_139 (by decide +kernel) rfl ⟨Nat.le_of_ble_eq_true rfl, Nat.le_of_ble_eq_true rfl⟩ (st0 := [.int (nI 6), .int (nI 1), .int l1]) (st1 := [.int (e_b v1)]) rfl rfl hl.1 (Nat.le_of_ble_eq_true rfl) dX9_deal_4 ⟨Nat.le_refl _, Nat.le_refl _⟩ (fun H locs J => ?_)
  refine lv_if_ne (tgt := 13) hx hb dX9_deal_7 (by decide) (fun hc => ?_) (fun hc => ?_)
  · have hM := e_in hc hM
    refine lv_iconst (v := nI 0) hx hb dX9_deal_13 (by decide) ?_
    refine lv_istore_n (lv' := [(2, .int (nI 0)), (0, .ref (e_ad G l0)), (1, .int l1)]) hx hb dX9_deal_14 rfl hl (by decide) rfl (fun ls hl => ?_)
    exact mX9_deal_L15 E 200 l0 l1 (nI 0) h hM J (lv_sub hl [1, 2, 0] rfl)
  · have hM := e_ip hc hM
    refine lv_ldc (v := -1000000001) hx hb hown (hts _ q_5_140) dX9_deal_10 ?_
    obtain rfl := e_so hM
    exact e_iret E J dX9_deal_12
set_option maxRecDepth 100000 in
set_option maxHeartbeats 4000000 in
theorem mX9_seed {l : Launch} {G : e_G} (l0 : Nat) (l1 : Int32) (h : e_H) (res : (Int32 × e_H)) (hM : fX9_seed l0 l1 h = some res) : Met l yX9_seed (e_W yX9_seed cX9_seed 3 (some FieldType.int)) (e_rm 0 0) (e_Pc G h [.ref (e_ad G l0), .int l1]) (e_Q G res.2 (some (.int res.1))) 0 0 (e_A G) := by
  refine Met.ofW (cc := cX9_seed) (maxL := 3) (ret := (some FieldType.int)) (by decide) rfl ?_
  intro p e s m args below meth c s₁ B hml hv
  obtain ⟨rfl, hS, hP⟩ := hv
  have E := e_enter (own := RX9) (ret := (some FieldType.int)) B hml rfl hS hP
  have J : e_J G s h s.heap [] := ⟨hP, va_S.rf⟩
  have hl := lv_entry ([.ref (e_ad G l0), .int l1]) (n := 3) (Nat.le_of_ble_eq_true rfl)
  rw [lg_entry_eq]
  generalize (lg_sl ([.ref (e_ad G l0), .int l1]) ++ List.replicate (3 - (lg_sl ([.ref (e_ad G l0), .int l1])).length) Slot.unset).toArray = ls at hl ⊢
  have hl : lv_has ls 3 [(0, .ref (e_ad G l0)), (1, .int l1)] := hl
  obtain ⟨hx, hb, hr, hml, hown, hts, hlocks, hES, hbs⟩ := id E
  unfold fX9_seed at hM
  obtain ⟨fs_, hk_, hM⟩ := e_bs hM
  refine lv_aload_n hx hb dX9_seed_0 rfl (lv_at hl 0 rfl) ?_
  obtain ⟨v1, hv, hM⟩ := e_bs hM
  refine e_getR (C := RX9) (T := TX9) (N := 40) E J hv rfl inX9 (by decide) q_5_10 dX9_seed_1 ?_
  rcases v1 with _ | a2
  · have hM := e_on0 hM
    refine W.eq (g2 := F0 m 4 ls [.null]) rfl ?_
    refine lv_iconst (v := nI 0) hx hb dX9_seed_4 (by decide) ?_
    exact e_no hM
  · have hM := e_on1 hM
    refine W.eq (g2 := F0 m 4 ls [.ref (e_ad G a2)]) rfl ?_
    refine lv_iconst (v := nI 0) hx hb dX9_seed_4 (by decide) ?_
    obtain ⟨v3, hv, hM⟩ := e_bs hM
    refine e_iald E J hv dX9_seed_5 ?_
    refine lv_istore_n (lv' := [(2, .int v3), (0, .ref (e_ad G l0)), (1, .int l1)]) hx hb dX9_seed_6 rfl hl (by decide) rfl (fun ls hl => ?_)
    refine lv_aload_n hx hb dX9_seed_7 rfl (lv_at hl 1 rfl) ?_
    obtain ⟨v4, hv, hM⟩ := e_bs hM
    refine e_getR (C := RX9) (T := TX9) (N := 40) E J hv rfl inX9 (by decide) q_5_10 dX9_seed_8 ?_
    rcases v4 with _ | a5
    · have hM := e_on0 hM
      refine W.eq (g2 := F0 m 11 ls [.null]) rfl ?_
      refine lv_iconst (v := nI 0) hx hb dX9_seed_11 (by decide) ?_
      refine lv_iload_n hx hb dX9_seed_12 rfl (lv_at hl 2 rfl) ?_
      exact e_no hM
    · have hM := e_on1 hM
      refine W.eq (g2 := F0 m 11 ls [.ref (e_ad G a5)]) rfl ?_
      refine lv_iconst (v := nI 0) hx hb dX9_seed_11 (by decide) ?_
      refine lv_iload_n hx hb dX9_seed_12 rfl (lv_at hl 2 rfl) ?_
      obtain ⟨h7, hv, hM⟩ := e_bs hM
      refine e_iast E J hv dX9_seed_13 (fun H locs J => ?_)
      refine lv_iload_n hx hb dX9_seed_14 rfl (lv_at hl 0 rfl) ?_
      obtain rfl := e_so hM
      exact e_iret E J dX9_seed_15
set_option maxRecDepth 100000 in
set_option maxHeartbeats 4000000 in
theorem mX9_raised_b5 {p : Program} {l : Launch} {e : Env} {s : State} {m : MethodId} {args : Array Value} {below : List Frame} {meth : Method} {c : Code} {G : e_G} {res : Int64} {k5 : Int64 → Int32 → Int64 → Int32 → Option Int64} (E : e_M G p s args m meth c cX9_raised 6 (some FieldType.long) RX9) (h : e_H) (K5 : ∀ (l0 : Int64) (l2 : Int32) (l3 : Int64) (l5 : Int32), k5 l0 l2 l3 l5 = some res → ∀ (H : Heap) (locs : List Loc), e_J G s h H locs → ∀ (ls : Array Slot), lv_has ls 6 [(0, .long l0), (2, .int l2), (3, .long l3), (5, .int l5)] → W p l e (e_rm 0 0) s m args below meth c H locs 0 0 (MQ below (e_Q G h (some (.long res))) args s 0 0 (e_A G)) (F0 m 5 ls [])) (l0 : Int64) (l2 : Int32) (l3 : Int64) (l5 : Int32) (hM : fX9_raised_b5 k5 l0 l2 l3 l5 = some res) {H : Heap} {locs : List Loc} (J : e_J G s h H locs) {ls : Array Slot} (hl : lv_has ls 6 [(0, .long l0), (2, .int l2), (3, .long l3), (5, .int l5)]) : W p l e (e_rm 0 0) s m args below meth c H locs 0 0 (MQ below (e_Q G h (some (.long res))) args s 0 0 (e_A G)) (F0 m 5 ls []) := by
  obtain ⟨hx, hb, hr, hml, hown, hts, hlocks, hES, hbs⟩ := id E
  unfold fX9_raised_b5 at hM
  refine lv_iload hx hb dX9_raised_5 (lv_at hl 3 rfl) ?_
  refine lv_iload_n hx hb dX9_raised_7 rfl (lv_at hl 1 rfl) ?_
  refine lv_icmp_ge (tgt := 21) hx hb dX9_raised_8 (by decide) (fun hc => ?_) (fun hc => ?_)
  · have hM := e_ip hc hM
    refine lv_lload_n hx hb dX9_raised_21 rfl (lv_at hl 2 rfl) ?_
    obtain rfl := e_so hM
    exact e_lret E J dX9_raised_22
  · have hM := e_in hc hM
    refine lv_lload_n hx hb dX9_raised_11 rfl (lv_at hl 2 rfl) ?_
    refine lv_lload_n hx hb dX9_raised_12 rfl (lv_at hl 0 rfl) ?_
    refine lv_lmul hx hb dX9_raised_13 ?_
    refine lv_lstore_n (lv' := [(3, .long (l3 * l0)), (0, .long l0), (2, .int l2), (5, .int l5)]) hx hb dX9_raised_14 rfl hl (by decide) rfl (fun ls hl => ?_)
    refine lv_iinc (v := (l5 + (nI 1))) (lv' := [(5, .int (l5 + (nI 1))), (3, .long (l3 * l0)), (0, .long l0), (2, .int l2)]) hx hb dX9_raised_15 hl (k := 3) rfl rfl (by decide) rfl (fun ls hl => ?_)
    refine lv_goto (tgt := 5) hx hb dX9_raised_18 (by decide) ?_
    exact K5 l0 l2 (l3 * l0) (l5 + (nI 1)) hM _ _ J _ (lv_sub hl [2, 3, 1, 0] rfl)
set_option maxRecDepth 100000 in
set_option maxHeartbeats 4000000 in
theorem mX9_raised_L5 {p : Program} {l : Launch} {e : Env} {s : State} {m : MethodId} {args : Array Value} {below : List Frame} {meth : Method} {c : Code} {G : e_G} {res : Int64} (E : e_M G p s args m meth c cX9_raised 6 (some FieldType.long) RX9) (h : e_H) (n : Nat) (l0 : Int64) (l2 : Int32) (l3 : Int64) (l5 : Int32) (hM : fX9_raised_L5 n l0 l2 l3 l5 = some res) {H : Heap} {locs : List Loc} (J : e_J G s h H locs) {ls : Array Slot} (hl : lv_has ls 6 [(0, .long l0), (2, .int l2), (3, .long l3), (5, .int l5)]) : W p l e (e_rm 0 0) s m args below meth c H locs 0 0 (MQ below (e_Q G h (some (.long res))) args s 0 0 (e_A G)) (F0 m 5 ls []) := by
  induction n generalizing l0 l2 l3 l5 H locs ls with
  | zero => exact e_no hM
  | succ n ih => exact mX9_raised_b5 (k5 := (fX9_raised_L5 n)) E h  (fun l0 l2 l3 l5 hM H locs J ls hl => ih l0 l2 l3 l5 hM J hl) l0 l2 l3 l5 hM J hl
set_option maxRecDepth 100000 in
set_option maxHeartbeats 4000000 in
theorem mX9_raised {l : Launch} {G : e_G} (l0 : Int64) (l2 : Int32) (h : e_H) (res : Int64) (hM : fX9_raised l0 l2 = some res) : Met l yX9_raised (e_W yX9_raised cX9_raised 6 (some FieldType.long)) (e_rm 0 0) (e_Pc G h [.long l0, .int l2]) (e_Q G h (some (.long res))) 0 0 (e_A G) := by
  refine Met.ofW (cc := cX9_raised) (maxL := 6) (ret := (some FieldType.long)) (by decide) rfl ?_
  intro p e s m args below meth c s₁ B hml hv
  obtain ⟨rfl, hS, hP⟩ := hv
  have E := e_enter (own := RX9) (ret := (some FieldType.long)) B hml rfl hS hP
  have J : e_J G s h s.heap [] := ⟨hP, va_S.rf⟩
  have hl := lv_entry ([.long l0, .int l2]) (n := 6) (Nat.le_of_ble_eq_true rfl)
  rw [lg_entry_eq]
  generalize (lg_sl ([.long l0, .int l2]) ++ List.replicate (6 - (lg_sl ([.long l0, .int l2])).length) Slot.unset).toArray = ls at hl ⊢
  have hl : lv_has ls 6 [(0, .long l0), (2, .int l2)] := hl
  obtain ⟨hx, hb, hr, hml, hown, hts, hlocks, hES, hbs⟩ := id E
  unfold fX9_raised at hM
  refine lv_lconst (v := 1) hx hb dX9_raised_0 (by decide) ?_
  refine lv_lstore_n (lv' := [(3, .long (1 : Int64)), (0, .long l0), (2, .int l2)]) hx hb dX9_raised_1 rfl hl (by decide) rfl (fun ls hl => ?_)
  refine lv_iconst (v := nI 0) hx hb dX9_raised_2 (by decide) ?_
  refine lv_istore (lv' := [(5, .int (nI 0)), (3, .long (1 : Int64)), (0, .long l0), (2, .int l2)]) hx hb dX9_raised_3 hl (by decide) rfl (fun ls hl => ?_)
  exact mX9_raised_L5 E h 200 l0 l2 (1 : Int64) (nI 0) hM J (lv_sub hl [2, 3, 1, 0] rfl)
set_option maxRecDepth 100000 in
set_option maxHeartbeats 4000000 in
theorem mX9_value_b47 {p : Program} {l : Launch} {e : Env} {s : State} {m : MethodId} {args : Array Value} {below : List Frame} {meth : Method} {c : Code} {G : e_G} {res : (Int64 × e_H)} {k47 : Nat → Int32 → Int32 → Int64 → Int32 → e_H → Option (Int64 × e_H)} (E : e_M G p s args m meth c cX9_value 8 (some FieldType.long) RX9) (K47 : ∀ (l0 : Nat) (l2 : Int32) (l3 : Int32) (l5 : Int64) (l7 : Int32) (h : e_H), k47 l0 l2 l3 l5 l7 h = some res → ∀ (H : Heap) (locs : List Loc), e_J G s h H locs → ∀ (ls : Array Slot), lv_has ls 8 [(0, .ref (e_ad G l0)), (2, .int l2), (3, .int l3), (5, .long l5), (7, .int l7)] → W p l e (e_rm 5 119) s m args below meth c H locs 0 0 (MQ below (e_Q G res.2 (some (.long res.1))) args s 0 0 (e_A G)) (F0 m 47 ls [])) (l0 : Nat) (l2 : Int32) (l3 : Int32) (l5 : Int64) (l7 : Int32) (h : e_H) (hM : fX9_value_b47 k47 l0 l2 l3 l5 l7 h = some res) {H : Heap} {locs : List Loc} (J : e_J G s h H locs) {ls : Array Slot} (hl : lv_has ls 8 [(0, .ref (e_ad G l0)), (2, .int l2), (3, .int l3), (5, .long l5), (7, .int l7)]) : W p l e (e_rm 5 119) s m args below meth c H locs 0 0 (MQ below (e_Q G res.2 (some (.long res.1))) args s 0 0 (e_A G)) (F0 m 47 ls []) := by
  obtain ⟨hx, hb, hr, hml, hown, hts, hlocks, hES, hbs⟩ := id E
  unfold fX9_value_b47 at hM
  refine lv_iload hx hb dX9_value_47 (lv_at hl 4 rfl) ?_
  refine lv_bipush (v := nI 25) hx hb dX9_value_49 (by decide) ?_
  refine lv_icmp_ge (tgt := 93) hx hb dX9_value_51 (by decide) (fun hc => ?_) (fun hc => ?_)
  · have hM := e_ip hc hM
    refine lv_lload hx hb dX9_value_93 (lv_at hl 3 rfl) ?_
    obtain rfl := e_so hM
    exact e_lret E J dX9_value_95
  · have hM := e_in hc hM
    refine lv_lload hx hb dX9_value_54 (lv_at hl 3 rfl) ?_
    refine lv_aload_n hx hb dX9_value_56 rfl (lv_at hl 0 rfl) ?_
    obtain ⟨v1, hv, hM⟩ := e_bs hM
    refine e_getR (C := RX9) (T := TX9) (N := 40) E J hv rfl inX9 (by decide) q_5_14 dX9_value_57 ?_
    rcases v1 with _ | a2
    · have hM := e_on0 hM
      refine W.eq (g2 := F0 m 60 ls [.null, .long l5]) rfl ?_
      refine lv_iload hx hb dX9_value_60 (lv_at hl 4 rfl) ?_
      exact e_no hM
    · have hM := e_on1 hM
      refine W.eq (g2 := F0 m 60 ls [.ref (e_ad G a2), .long l5]) rfl ?_
      refine lv_iload hx hb dX9_value_60 (lv_at hl 4 rfl) ?_
      obtain ⟨v3, hv, hM⟩ := e_bs hM
      refine e_iald E J hv dX9_value_62 ?_
      refine lv_i2l hx hb dX9_value_63 rfl ?_
      refine lv_iload_n hx hb dX9_value_64 rfl (lv_at hl 1 rfl) ?_
      refine lv_i2l hx hb dX9_value_65 rfl ?_
      refine lv_iload hx hb dX9_value_66 (lv_at hl 4 rfl) ?_
      refine lv_iconst (v := nI 5) hx hb dX9_value_68 (by decide) ?_
      refine lv_idiv hx hb dX9_value_69 (by decide) ?_
      obtain ⟨v4, hv, hM⟩ := e_bs hM
      refine e_callS (As := [.long (l2).toInt64, .int (l7 / (nI 5))]) (rest := [.long (v3).toInt64, .long l5]) (n := 2) E J (mX9_raised (l := l) (G := G) (l2).toInt64 (l7 / (nI 5)) h _ hv) q_6_4 q_6_5 q_1_9 q_6_6 (by decide +kernel) rfl ⟨Nat.le_of_ble_eq_true rfl, Nat.le_of_ble_eq_true rfl⟩ (st0 := [.int (l7 / (nI 5)), .long (l2).toInt64, .long (v3).toInt64, .long l5]) (st1 := [.long v4, .long (v3).toInt64, .long l5]) rfl rfl hl.1 (Nat.le_of_ble_eq_true rfl) dX9_value_70 ⟨Nat.le_refl _, Nat.le_refl _⟩ (fun H locs J => ?_)
      refine lv_lmul hx hb dX9_value_73 ?_
      refine lv_iload_n hx hb dX9_value_74 rfl (lv_at hl 2 rfl) ?_
      refine lv_i2l hx hb dX9_value_75 rfl ?_
      refine lv_iload hx hb dX9_value_76 (lv_at hl 4 rfl) ?_
      refine lv_iconst (v := nI 5) hx hb dX9_value_78 (by decide) ?_
      refine lv_irem hx hb dX9_value_79 (by decide) ?_
      obtain ⟨v5, hv, hM⟩ := e_bs hM
      refine e_callS (As := [.long (l3).toInt64, .int (l7 - l7 / (nI 5) * (nI 5))]) (rest := [.long ((v3).toInt64 * v4), .long l5]) (n := 2) E J (mX9_raised (l := l) (G := G) (l3).toInt64 (l7 - l7 / (nI 5) * (nI 5)) h _ hv) q_6_4 q_6_5 q_1_9 q_6_6 (by decide +kernel) rfl ⟨Nat.le_of_ble_eq_true rfl, Nat.le_of_ble_eq_true rfl⟩ (st0 := [.int (l7 - l7 / (nI 5) * (nI 5)), .long (l3).toInt64, .long ((v3).toInt64 * v4), .long l5]) (st1 := [.long v5, .long ((v3).toInt64 * v4), .long l5]) rfl rfl hl.1 (Nat.le_of_ble_eq_true rfl) dX9_value_80 ⟨Nat.le_refl _, Nat.le_refl _⟩ (fun H locs J => ?_)
      refine lv_lmul hx hb dX9_value_83 ?_
      refine lv_ladd hx hb dX9_value_84 ?_
      refine lv_lstore (lv' := [(5, .long (l5 + (((v3).toInt64 * v4) * v5))), (0, .ref (e_ad G l0)), (2, .int l2), (3, .int l3), (7, .int l7)]) hx hb dX9_value_85 hl (by decide) rfl (fun ls hl => ?_)
      refine lv_iinc (v := (l7 + (nI 1))) (lv' := [(7, .int (l7 + (nI 1))), (5, .long (l5 + (((v3).toInt64 * v4) * v5))), (0, .ref (e_ad G l0)), (2, .int l2), (3, .int l3)]) hx hb dX9_value_87 hl (k := 4) rfl rfl (by decide) rfl (fun ls hl => ?_)
      refine lv_goto (tgt := 47) hx hb dX9_value_90 (by decide) ?_
      exact K47 l0 l2 l3 (l5 + (((v3).toInt64 * v4) * v5)) (l7 + (nI 1)) h hM _ _ J _ (lv_sub hl [2, 3, 4, 1, 0] rfl)
set_option maxRecDepth 100000 in
set_option maxHeartbeats 4000000 in
theorem mX9_value_L47 {p : Program} {l : Launch} {e : Env} {s : State} {m : MethodId} {args : Array Value} {below : List Frame} {meth : Method} {c : Code} {G : e_G} {res : (Int64 × e_H)} (E : e_M G p s args m meth c cX9_value 8 (some FieldType.long) RX9) (n : Nat) (l0 : Nat) (l2 : Int32) (l3 : Int32) (l5 : Int64) (l7 : Int32) (h : e_H) (hM : fX9_value_L47 n l0 l2 l3 l5 l7 h = some res) {H : Heap} {locs : List Loc} (J : e_J G s h H locs) {ls : Array Slot} (hl : lv_has ls 8 [(0, .ref (e_ad G l0)), (2, .int l2), (3, .int l3), (5, .long l5), (7, .int l7)]) : W p l e (e_rm 5 119) s m args below meth c H locs 0 0 (MQ below (e_Q G res.2 (some (.long res.1))) args s 0 0 (e_A G)) (F0 m 47 ls []) := by
  induction n generalizing l0 l2 l3 l5 l7 h H locs ls with
  | zero => exact e_no hM
  | succ n ih => exact mX9_value_b47 (k47 := (fX9_value_L47 n)) E   (fun l0 l2 l3 l5 l7 h hM H locs J ls hl => ih l0 l2 l3 l5 l7 h hM J hl) l0 l2 l3 l5 l7 h hM J hl
set_option maxRecDepth 100000 in
set_option maxHeartbeats 4000000 in
theorem mX9_value {l : Launch} {G : e_G} (l0 : Nat) (l1 : Int32) (l2 : Int32) (l3 : Int32) (h : e_H) (res : (Int64 × e_H)) (hM : fX9_value l0 l1 l2 l3 h = some res) : Met l yX9_value (e_W yX9_value cX9_value 8 (some FieldType.long)) (e_rm 5 119) (e_Pc G h [.ref (e_ad G l0), .int l1, .int l2, .int l3]) (e_Q G res.2 (some (.long res.1))) 0 0 (e_A G) := by
  refine Met.ofW (cc := cX9_value) (maxL := 8) (ret := (some FieldType.long)) (by decide) rfl ?_
  intro p e s m args below meth c s₁ B hml hv
  obtain ⟨rfl, hS, hP⟩ := hv
  have E := e_enter (own := RX9) (ret := (some FieldType.long)) B hml rfl hS hP
  have J : e_J G s h s.heap [] := ⟨hP, va_S.rf⟩
  have hl := lv_entry ([.ref (e_ad G l0), .int l1, .int l2, .int l3]) (n := 8) (Nat.le_of_ble_eq_true rfl)
  rw [lg_entry_eq]
  generalize (lg_sl ([.ref (e_ad G l0), .int l1, .int l2, .int l3]) ++ List.replicate (8 - (lg_sl ([.ref (e_ad G l0), .int l1, .int l2, .int l3])).length) Slot.unset).toArray = ls at hl ⊢
  have hl : lv_has ls 8 [(0, .ref (e_ad G l0)), (1, .int l1), (2, .int l2), (3, .int l3)] := hl
  obtain ⟨hx, hb, hr, hml, hown, hts, hlocks, hES, hbs⟩ := id E
  unfold fX9_value at hM
  obtain ⟨fs_, hk_, hM⟩ := e_bs hM
  refine lv_aload_n hx hb dX9_value_0 rfl (lv_at hl 0 rfl) ?_
  refine lv_iload_n hx hb dX9_value_1 rfl (lv_at hl 1 rfl) ?_
  obtain ⟨v1, hv, hM⟩ := e_bs hM
  obtain ⟨fs_, hk, -⟩ := e_bs hv
  refine e_callV (ci := 9) (As := [.int l1]) (rest := []) (n := 1) E J hk rfl (mX9_isCurve (l := l) (G := G) l0 l1 h _ hv) q_5_150 q_5_152 q_p_16 q_1_9 q_5_153 (by decide +kernel) rfl ⟨Nat.le_of_ble_eq_true rfl, Nat.le_of_ble_eq_true rfl⟩ (st0 := [.int l1, .ref (e_ad G l0)]) (st1 := [.int (e_b v1)]) rfl rfl hl.1 (Nat.le_of_ble_eq_true rfl) dX9_value_2 ⟨Nat.le_refl _, Nat.le_refl _⟩ (fun H locs J => ?_)
  refine lv_if_eq (tgt := 30) hx hb dX9_value_5 (by decide) (fun hc => ?_) (fun hc => ?_)
  · have hM := e_ip hc hM
    refine lv_ldc2 (v := -1000000001) hx hb hown (hts _ q_6_3) dX9_value_30 ?_
    obtain rfl := e_so hM
    exact e_lret E J dX9_value_33
  · have hM := e_in hc hM
    refine lv_iload_n hx hb dX9_value_8 rfl (lv_at hl 2 rfl) ?_
    refine lv_bipush (v := -9) hx hb dX9_value_9 (by decide) ?_
    refine lv_bipush (v := nI 9) hx hb dX9_value_11 (by decide) ?_
    obtain ⟨v2, hv, hM⟩ := e_bs hM
    refine e_callS (As := [.int l2, .int (-9 : Int32), .int (nI 9)]) (rest := []) (n := 3) E J (mX9_in (l := l) (G := G) l2 (-9 : Int32) (nI 9) h _ hv) q_5_137 q_5_138 q_1_9 q_5_139 (by decide +kernel) rfl ⟨Nat.le_of_ble_eq_true rfl, Nat.le_of_ble_eq_true rfl⟩ (st0 := [.int (nI 9), .int (-9 : Int32), .int l2]) (st1 := [.int (e_b v2)]) rfl rfl hl.1 (Nat.le_of_ble_eq_true rfl) dX9_value_13 ⟨Nat.le_refl _, Nat.le_refl _⟩ (fun H locs J => ?_)
    refine lv_if_eq (tgt := 30) hx hb dX9_value_16 (by decide) (fun hc => ?_) (fun hc => ?_)
    · have hM := e_ip hc hM
      refine lv_ldc2 (v := -1000000001) hx hb hown (hts _ q_6_3) dX9_value_30 ?_
      obtain rfl := e_so hM
      exact e_lret E J dX9_value_33
    · have hM := e_in hc hM
      refine lv_iload_n hx hb dX9_value_19 rfl (lv_at hl 3 rfl) ?_
      refine lv_bipush (v := -9) hx hb dX9_value_20 (by decide) ?_
      refine lv_bipush (v := nI 9) hx hb dX9_value_22 (by decide) ?_
      obtain ⟨v3, hv, hM⟩ := e_bs hM
      refine e_callS (As := [.int l3, .int (-9 : Int32), .int (nI 9)]) (rest := []) (n := 3) E J (mX9_in (l := l) (G := G) l3 (-9 : Int32) (nI 9) h _ hv) q_5_137 q_5_138 q_1_9 q_5_139 (by decide +kernel) rfl ⟨Nat.le_of_ble_eq_true rfl, Nat.le_of_ble_eq_true rfl⟩ (st0 := [.int (nI 9), .int (-9 : Int32), .int l3]) (st1 := [.int (e_b v3)]) rfl rfl hl.1 (Nat.le_of_ble_eq_true rfl) dX9_value_24 ⟨Nat.le_refl _, Nat.le_refl _⟩ (fun H locs J => ?_)
      refine lv_if_ne (tgt := 34) hx hb dX9_value_27 (by decide) (fun hc => ?_) (fun hc => ?_)
      · have hM := e_in hc hM
        refine lv_aload_n hx hb dX9_value_34 rfl (lv_at hl 0 rfl) ?_
        refine lv_iload_n hx hb dX9_value_35 rfl (lv_at hl 1 rfl) ?_
        obtain ⟨p4, hv, hM⟩ := e_bs hM
        obtain ⟨fs_, hk, -⟩ := e_bs hv
        refine e_callV (ci := 9) (As := [.int l1]) (rest := []) (n := 1) E J hk rfl (mX9_findTerms (l := l) (G := G) l0 l1 h _ hv) q_5_202 q_5_204 q_p_24 q_1_9 q_5_205 (by decide +kernel) rfl ⟨Nat.le_of_ble_eq_true rfl, Nat.le_of_ble_eq_true rfl⟩ (st0 := [.int l1, .ref (e_ad G l0)]) (st1 := [.int p4.1]) rfl rfl hl.1 (Nat.le_of_ble_eq_true rfl) dX9_value_36 ⟨Nat.le_refl _, Nat.le_refl _⟩ (fun H locs J => ?_)
        refine lv_istore (lv' := [(4, .int p4.1), (0, .ref (e_ad G l0)), (1, .int l1), (2, .int l2), (3, .int l3)]) hx hb dX9_value_39 hl (by decide) rfl (fun ls hl => ?_)
        refine lv_lconst (v := 0) hx hb dX9_value_41 (by decide) ?_
        refine lv_lstore (lv' := [(5, .long (0 : Int64)), (4, .int p4.1), (0, .ref (e_ad G l0)), (1, .int l1), (2, .int l2), (3, .int l3)]) hx hb dX9_value_42 hl (by decide) rfl (fun ls hl => ?_)
        refine lv_iconst (v := nI 0) hx hb dX9_value_44 (by decide) ?_
        refine lv_istore (lv' := [(7, .int (nI 0)), (5, .long (0 : Int64)), (4, .int p4.1), (0, .ref (e_ad G l0)), (1, .int l1), (2, .int l2), (3, .int l3)]) hx hb dX9_value_45 hl (by decide) rfl (fun ls hl => ?_)
        exact mX9_value_L47 E 200 l0 l2 l3 (0 : Int64) (nI 0) p4.2 hM J (lv_sub hl [3, 5, 6, 1, 0] rfl)
      · have hM := e_ip hc hM
        refine lv_ldc2 (v := -1000000001) hx hb hown (hts _ q_6_3) dX9_value_30 ?_
        obtain rfl := e_so hM
        exact e_lret E J dX9_value_33
set_option maxRecDepth 100000 in
set_option maxHeartbeats 4000000 in
theorem mX9_isPlace {l : Launch} {G : e_G} (l0 : Int32) (h : e_H) (res : Bool) (hM : fX9_isPlace l0 = some res) : Met l yX9_isPlace (e_W yX9_isPlace cX9_isPlace 1 (some FieldType.boolean)) (e_rm 0 0) (e_Pc G h [.int l0]) (e_Q G h (some (.int (e_b res)))) 0 0 (e_A G) := by
  refine Met.ofW (cc := cX9_isPlace) (maxL := 1) (ret := (some FieldType.boolean)) (by decide) rfl ?_
  intro p e s m args below meth c s₁ B hml hv
  obtain ⟨rfl, hS, hP⟩ := hv
  have E := e_enter (own := RX9) (ret := (some FieldType.boolean)) B hml rfl hS hP
  have J : e_J G s h s.heap [] := ⟨hP, va_S.rf⟩
  have hl := lv_entry ([.int l0]) (n := 1) (Nat.le_of_ble_eq_true rfl)
  rw [lg_entry_eq]
  generalize (lg_sl ([.int l0]) ++ List.replicate (1 - (lg_sl ([.int l0])).length) Slot.unset).toArray = ls at hl ⊢
  have hl : lv_has ls 1 [(0, .int l0)] := hl
  obtain ⟨hx, hb, hr, hml, hown, hts, hlocks, hES, hbs⟩ := id E
  unfold fX9_isPlace at hM
  refine lv_iload_n hx hb dX9_isPlace_0 rfl (lv_at hl 0 rfl) ?_
  refine lv_if_lt (tgt := 26) hx hb dX9_isPlace_1 (by decide) (fun hc => ?_) (fun hc => ?_)
  · have hM := e_ip hc hM
    refine lv_iconst (v := nI 0) hx hb dX9_isPlace_26 (by decide) ?_
    obtain rfl := e_so hM
    exact e_zret E J (false) rfl dX9_isPlace_27
  · have hM := e_in hc hM
    refine lv_iload_n hx hb dX9_isPlace_4 rfl (lv_at hl 0 rfl) ?_
    refine lv_bipush (v := nI 100) hx hb dX9_isPlace_5 (by decide) ?_
    refine lv_idiv hx hb dX9_isPlace_7 (by decide) ?_
    refine lv_bipush (v := nI 10) hx hb dX9_isPlace_8 (by decide) ?_
    refine lv_icmp_gt (tgt := 26) hx hb dX9_isPlace_10 (by decide) (fun hc => ?_) (fun hc => ?_)
    · have hM := e_ip hc hM
      refine lv_iconst (v := nI 0) hx hb dX9_isPlace_26 (by decide) ?_
      obtain rfl := e_so hM
      exact e_zret E J (false) rfl dX9_isPlace_27
    · have hM := e_in hc hM
      refine lv_iload_n hx hb dX9_isPlace_13 rfl (lv_at hl 0 rfl) ?_
      refine lv_bipush (v := nI 100) hx hb dX9_isPlace_14 (by decide) ?_
      refine lv_irem hx hb dX9_isPlace_16 (by decide) ?_
      refine lv_bipush (v := nI 10) hx hb dX9_isPlace_17 (by decide) ?_
      refine lv_icmp_gt (tgt := 26) hx hb dX9_isPlace_19 (by decide) (fun hc => ?_) (fun hc => ?_)
      · have hM := e_ip hc hM
        refine lv_iconst (v := nI 0) hx hb dX9_isPlace_26 (by decide) ?_
        obtain rfl := e_so hM
        exact e_zret E J (false) rfl dX9_isPlace_27
      · have hM := e_in hc hM
        refine lv_iconst (v := nI 1) hx hb dX9_isPlace_22 (by decide) ?_
        refine lv_goto (tgt := 27) hx hb dX9_isPlace_23 (by decide) ?_
        obtain rfl := e_so hM
        exact e_zret E J (true) rfl dX9_isPlace_27
set_option maxRecDepth 100000 in
set_option maxHeartbeats 4000000 in
theorem mX9_choices_b5 {p : Program} {l : Launch} {e : Env} {s : State} {m : MethodId} {args : Array Value} {below : List Frame} {meth : Method} {c : Code} {G : e_G} {res : Int64} {k5 : Int32 → Int32 → Int64 → Int32 → Option Int64} (E : e_M G p s args m meth c cX9_choices 5 (some FieldType.long) RX9) (h : e_H) (K5 : ∀ (l0 : Int32) (l1 : Int32) (l2 : Int64) (l4 : Int32), k5 l0 l1 l2 l4 = some res → ∀ (H : Heap) (locs : List Loc), e_J G s h H locs → ∀ (ls : Array Slot), lv_has ls 5 [(0, .int l0), (1, .int l1), (2, .long l2), (4, .int l4)] → W p l e (e_rm 0 0) s m args below meth c H locs 0 0 (MQ below (e_Q G h (some (.long res))) args s 0 0 (e_A G)) (F0 m 5 ls [])) (l0 : Int32) (l1 : Int32) (l2 : Int64) (l4 : Int32) (hM : fX9_choices_b5 k5 l0 l1 l2 l4 = some res) {H : Heap} {locs : List Loc} (J : e_J G s h H locs) {ls : Array Slot} (hl : lv_has ls 5 [(0, .int l0), (1, .int l1), (2, .long l2), (4, .int l4)]) : W p l e (e_rm 0 0) s m args below meth c H locs 0 0 (MQ below (e_Q G h (some (.long res))) args s 0 0 (e_A G)) (F0 m 5 ls []) := by
  obtain ⟨hx, hb, hr, hml, hown, hts, hlocks, hES, hbs⟩ := id E
  unfold fX9_choices_b5 at hM
  refine lv_iload hx hb dX9_choices_5 (lv_at hl 3 rfl) ?_
  refine lv_iload_n hx hb dX9_choices_7 rfl (lv_at hl 1 rfl) ?_
  refine lv_icmp_gt (tgt := 31) hx hb dX9_choices_8 (by decide) (fun hc => ?_) (fun hc => ?_)
  · have hM := e_ip hc hM
    refine lv_lload_n hx hb dX9_choices_31 rfl (lv_at hl 2 rfl) ?_
    obtain rfl := e_so hM
    exact e_lret E J dX9_choices_32
  · have hM := e_in hc hM
    refine lv_lload_n hx hb dX9_choices_11 rfl (lv_at hl 2 rfl) ?_
    refine lv_iload_n hx hb dX9_choices_12 rfl (lv_at hl 0 rfl) ?_
    refine lv_iload_n hx hb dX9_choices_13 rfl (lv_at hl 1 rfl) ?_
    refine lv_isub hx hb dX9_choices_14 ?_
    refine lv_iload hx hb dX9_choices_15 (lv_at hl 3 rfl) ?_
    refine lv_iadd hx hb dX9_choices_17 ?_
    refine lv_i2l hx hb dX9_choices_18 rfl ?_
    refine lv_lmul hx hb dX9_choices_19 ?_
    refine lv_iload hx hb dX9_choices_20 (lv_at hl 3 rfl) ?_
    refine lv_i2l hx hb dX9_choices_22 rfl ?_
    obtain ⟨hz, hM⟩ := e_if0 hM
    refine lv_ldiv hx hb dX9_choices_23 hz ?_
    refine lv_lstore_n (lv' := [(2, .long ((l2 * (((l0 - l1) + l4)).toInt64) / (l4).toInt64)), (0, .int l0), (1, .int l1), (4, .int l4)]) hx hb dX9_choices_24 rfl hl (by decide) rfl (fun ls hl => ?_)
    refine lv_iinc (v := (l4 + (nI 1))) (lv' := [(4, .int (l4 + (nI 1))), (2, .long ((l2 * (((l0 - l1) + l4)).toInt64) / (l4).toInt64)), (0, .int l0), (1, .int l1)]) hx hb dX9_choices_25 hl (k := 3) rfl rfl (by decide) rfl (fun ls hl => ?_)
    refine lv_goto (tgt := 5) hx hb dX9_choices_28 (by decide) ?_
    exact K5 l0 l1 ((l2 * (((l0 - l1) + l4)).toInt64) / (l4).toInt64) (l4 + (nI 1)) hM _ _ J _ (lv_sub hl [2, 3, 1, 0] rfl)
set_option maxRecDepth 100000 in
set_option maxHeartbeats 4000000 in
theorem mX9_choices_L5 {p : Program} {l : Launch} {e : Env} {s : State} {m : MethodId} {args : Array Value} {below : List Frame} {meth : Method} {c : Code} {G : e_G} {res : Int64} (E : e_M G p s args m meth c cX9_choices 5 (some FieldType.long) RX9) (h : e_H) (n : Nat) (l0 : Int32) (l1 : Int32) (l2 : Int64) (l4 : Int32) (hM : fX9_choices_L5 n l0 l1 l2 l4 = some res) {H : Heap} {locs : List Loc} (J : e_J G s h H locs) {ls : Array Slot} (hl : lv_has ls 5 [(0, .int l0), (1, .int l1), (2, .long l2), (4, .int l4)]) : W p l e (e_rm 0 0) s m args below meth c H locs 0 0 (MQ below (e_Q G h (some (.long res))) args s 0 0 (e_A G)) (F0 m 5 ls []) := by
  induction n generalizing l0 l1 l2 l4 H locs ls with
  | zero => exact e_no hM
  | succ n ih => exact mX9_choices_b5 (k5 := (fX9_choices_L5 n)) E h  (fun l0 l1 l2 l4 hM H locs J ls hl => ih l0 l1 l2 l4 hM J hl) l0 l1 l2 l4 hM J hl
set_option maxRecDepth 100000 in
set_option maxHeartbeats 4000000 in
theorem mX9_choices {l : Launch} {G : e_G} (l0 : Int32) (l1 : Int32) (h : e_H) (res : Int64) (hM : fX9_choices l0 l1 = some res) : Met l yX9_choices (e_W yX9_choices cX9_choices 5 (some FieldType.long)) (e_rm 0 0) (e_Pc G h [.int l0, .int l1]) (e_Q G h (some (.long res))) 0 0 (e_A G) := by
  refine Met.ofW (cc := cX9_choices) (maxL := 5) (ret := (some FieldType.long)) (by decide) rfl ?_
  intro p e s m args below meth c s₁ B hml hv
  obtain ⟨rfl, hS, hP⟩ := hv
  have E := e_enter (own := RX9) (ret := (some FieldType.long)) B hml rfl hS hP
  have J : e_J G s h s.heap [] := ⟨hP, va_S.rf⟩
  have hl := lv_entry ([.int l0, .int l1]) (n := 5) (Nat.le_of_ble_eq_true rfl)
  rw [lg_entry_eq]
  generalize (lg_sl ([.int l0, .int l1]) ++ List.replicate (5 - (lg_sl ([.int l0, .int l1])).length) Slot.unset).toArray = ls at hl ⊢
  have hl : lv_has ls 5 [(0, .int l0), (1, .int l1)] := hl
  obtain ⟨hx, hb, hr, hml, hown, hts, hlocks, hES, hbs⟩ := id E
  unfold fX9_choices at hM
  refine lv_lconst (v := 1) hx hb dX9_choices_0 (by decide) ?_
  refine lv_lstore_n (lv' := [(2, .long (1 : Int64)), (0, .int l0), (1, .int l1)]) hx hb dX9_choices_1 rfl hl (by decide) rfl (fun ls hl => ?_)
  refine lv_iconst (v := nI 1) hx hb dX9_choices_2 (by decide) ?_
  refine lv_istore (lv' := [(4, .int (nI 1)), (2, .long (1 : Int64)), (0, .int l0), (1, .int l1)]) hx hb dX9_choices_3 hl (by decide) rfl (fun ls hl => ?_)
  exact mX9_choices_L5 E h 200 l0 l1 (1 : Int64) (nI 1) hM J (lv_sub hl [2, 3, 1, 0] rfl)
set_option maxRecDepth 100000 in
set_option maxHeartbeats 4000000 in
theorem mX9_findShape_b140 {p : Program} {l : Launch} {e : Env} {s : State} {m : MethodId} {args : Array Value} {below : List Frame} {meth : Method} {c : Code} {G : e_G} {res : e_H} {k23 : Nat → Int32 → Int32 → Int32 → e_H → Option e_H} (E : e_M G p s args m meth c cX9_findShape 8 none RX9) (K23 : ∀ (l0 : Nat) (l1 : Int32) (l2 : Int32) (l3 : Int32) (h : e_H), k23 l0 l1 l2 l3 h = some res → ∀ (H : Heap) (locs : List Loc), e_J G s h H locs → ∀ (ls : Array Slot), lv_has ls 8 [(0, .ref (e_ad G l0)), (1, .int l1), (2, .int l2), (3, .int l3)] → W p l e (e_rm 1 25) s m args below meth c H locs 0 0 (MQ below (e_Q G res (none)) args s 0 0 (e_A G)) (F0 m 23 ls [])) (l0 : Nat) (l1 : Int32) (l2 : Int32) (l3 : Int32) (h : e_H) (hM : fX9_findShape_b140 k23 l0 l1 l2 l3 h = some res) {H : Heap} {locs : List Loc} (J : e_J G s h H locs) {ls : Array Slot} (hl : lv_has ls 8 [(0, .ref (e_ad G l0)), (1, .int l1), (2, .int l2), (3, .int l3)]) : W p l e (e_rm 1 25) s m args below meth c H locs 0 0 (MQ below (e_Q G res (none)) args s 0 0 (e_A G)) (F0 m 140 ls []) := by
  obtain ⟨hx, hb, hr, hml, hown, hts, hlocks, hES, hbs⟩ := id E
  unfold fX9_findShape_b140 at hM
  refine lv_iinc (v := (l3 + (nI 1))) (lv' := [(3, .int (l3 + (nI 1))), (0, .ref (e_ad G l0)), (1, .int l1), (2, .int l2)]) hx hb dX9_findShape_140 hl (k := 3) rfl rfl (by decide) rfl (fun ls hl => ?_)
  refine lv_goto (tgt := 23) hx hb dX9_findShape_143 (by decide) ?_
  exact K23 l0 l1 l2 (l3 + (nI 1)) h hM _ _ J _ (lv_sub hl [1, 2, 3, 0] rfl)
set_option maxRecDepth 100000 in
set_option maxHeartbeats 4000000 in
theorem mX9_findShape_b52 {p : Program} {l : Launch} {e : Env} {s : State} {m : MethodId} {args : Array Value} {below : List Frame} {meth : Method} {c : Code} {G : e_G} {res : e_H} {k23 : Nat → Int32 → Int32 → Int32 → e_H → Option e_H} {k41 : Nat → Int32 → Int32 → Int32 → Int32 → e_H → Option e_H} {k52 : Nat → Int32 → Int32 → Int32 → Int32 → Int32 → e_H → Option e_H} (E : e_M G p s args m meth c cX9_findShape 8 none RX9) (K23 : ∀ (l0 : Nat) (l1 : Int32) (l2 : Int32) (l3 : Int32) (h : e_H), k23 l0 l1 l2 l3 h = some res → ∀ (H : Heap) (locs : List Loc), e_J G s h H locs → ∀ (ls : Array Slot), lv_has ls 8 [(0, .ref (e_ad G l0)), (1, .int l1), (2, .int l2), (3, .int l3)] → W p l e (e_rm 1 25) s m args below meth c H locs 0 0 (MQ below (e_Q G res (none)) args s 0 0 (e_A G)) (F0 m 23 ls [])) (K41 : ∀ (l0 : Nat) (l1 : Int32) (l2 : Int32) (l3 : Int32) (l4 : Int32) (h : e_H), k41 l0 l1 l2 l3 l4 h = some res → ∀ (H : Heap) (locs : List Loc), e_J G s h H locs → ∀ (ls : Array Slot), lv_has ls 8 [(0, .ref (e_ad G l0)), (1, .int l1), (2, .int l2), (3, .int l3), (4, .int l4)] → W p l e (e_rm 1 25) s m args below meth c H locs 0 0 (MQ below (e_Q G res (none)) args s 0 0 (e_A G)) (F0 m 41 ls [])) (K52 : ∀ (l0 : Nat) (l1 : Int32) (l2 : Int32) (l3 : Int32) (l4 : Int32) (l5 : Int32) (h : e_H), k52 l0 l1 l2 l3 l4 l5 h = some res → ∀ (H : Heap) (locs : List Loc), e_J G s h H locs → ∀ (ls : Array Slot), lv_has ls 8 [(0, .ref (e_ad G l0)), (1, .int l1), (2, .int l2), (3, .int l3), (4, .int l4), (5, .int l5)] → W p l e (e_rm 1 25) s m args below meth c H locs 0 0 (MQ below (e_Q G res (none)) args s 0 0 (e_A G)) (F0 m 52 ls [])) (l0 : Nat) (l1 : Int32) (l2 : Int32) (l3 : Int32) (l4 : Int32) (l5 : Int32) (h : e_H) (hM : fX9_findShape_b52 k23 k41 k52 l0 l1 l2 l3 l4 l5 h = some res) {H : Heap} {locs : List Loc} (J : e_J G s h H locs) {ls : Array Slot} (hl : lv_has ls 8 [(0, .ref (e_ad G l0)), (1, .int l1), (2, .int l2), (3, .int l3), (4, .int l4), (5, .int l5)]) : W p l e (e_rm 1 25) s m args below meth c H locs 0 0 (MQ below (e_Q G res (none)) args s 0 0 (e_A G)) (F0 m 52 ls []) := by
  obtain ⟨hx, hb, hr, hml, hown, hts, hlocks, hES, hbs⟩ := id E
  unfold fX9_findShape_b52 at hM
  refine lv_iload hx hb dX9_findShape_52 (lv_at hl 5 rfl) ?_
  refine lv_iload_n hx hb dX9_findShape_54 rfl (lv_at hl 3 rfl) ?_
  refine lv_iconst (v := nI 5) hx hb dX9_findShape_55 (by decide) ?_
  refine lv_irem hx hb dX9_findShape_56 (by decide) ?_
  refine lv_icmp_gt (tgt := 134) hx hb dX9_findShape_57 (by decide) (fun hc => ?_) (fun hc => ?_)
  · have hM := e_ip hc hM
    refine lv_iinc (v := (l4 + (nI 1))) (lv' := [(4, .int (l4 + (nI 1))), (0, .ref (e_ad G l0)), (1, .int l1), (2, .int l2), (3, .int l3), (5, .int l5)]) hx hb dX9_findShape_134 hl (k := 4) rfl rfl (by decide) rfl (fun ls hl => ?_)
    refine lv_goto (tgt := 41) hx hb dX9_findShape_137 (by decide) ?_
    exact K41 l0 l1 l2 l3 (l4 + (nI 1)) h hM _ _ J _ (lv_sub hl [1, 2, 3, 4, 0] rfl)
  · have hM := e_in hc hM
    refine lv_iload_n hx hb dX9_findShape_60 rfl (lv_at hl 3 rfl) ?_
    refine lv_iconst (v := nI 5) hx hb dX9_findShape_61 (by decide) ?_
    refine lv_idiv hx hb dX9_findShape_62 (by decide) ?_
    refine lv_iload hx hb dX9_findShape_63 (lv_at hl 4 rfl) ?_
    obtain ⟨v1, hv, hM⟩ := e_bs hM
    refine e_callS (As := [.int (l3 / (nI 5)), .int l4]) (rest := []) (n := 2) E J (mX9_choices (l := l) (G := G) (l3 / (nI 5)) l4 h _ hv) q_6_22 q_6_23 q_1_9 q_6_24 (by decide +kernel) rfl ⟨Nat.le_of_ble_eq_true rfl, Nat.le_of_ble_eq_true rfl⟩ (st0 := [.int l4, .int (l3 / (nI 5))]) (st1 := [.long v1]) rfl rfl hl.1 (Nat.le_of_ble_eq_true rfl) dX9_findShape_65 ⟨Nat.le_refl _, Nat.le_refl _⟩ (fun H locs J => ?_)
    refine lv_iload_n hx hb dX9_findShape_68 rfl (lv_at hl 3 rfl) ?_
    refine lv_iconst (v := nI 5) hx hb dX9_findShape_69 (by decide) ?_
    refine lv_irem hx hb dX9_findShape_70 (by decide) ?_
    refine lv_iload hx hb dX9_findShape_71 (lv_at hl 5 rfl) ?_
    obtain ⟨v2, hv, hM⟩ := e_bs hM
    refine e_callS (As := [.int (l3 - l3 / (nI 5) * (nI 5)), .int l5]) (rest := [.long v1]) (n := 2) E J (mX9_choices (l := l) (G := G) (l3 - l3 / (nI 5) * (nI 5)) l5 h _ hv) q_6_22 q_6_23 q_1_9 q_6_24 (by decide +kernel) rfl ⟨Nat.le_of_ble_eq_true rfl, Nat.le_of_ble_eq_true rfl⟩ (st0 := [.int l5, .int (l3 - l3 / (nI 5) * (nI 5)), .long v1]) (st1 := [.long v2, .long v1]) rfl rfl hl.1 (Nat.le_of_ble_eq_true rfl) dX9_findShape_73 ⟨Nat.le_refl _, Nat.le_refl _⟩ (fun H locs J => ?_)
    refine lv_lmul hx hb dX9_findShape_76 ?_
    refine lv_lstore (lv' := [(6, .long (v1 * v2)), (0, .ref (e_ad G l0)), (1, .int l1), (2, .int l2), (3, .int l3), (4, .int l4), (5, .int l5)]) hx hb dX9_findShape_77 hl (by decide) rfl (fun ls hl => ?_)
    refine lv_aload_n hx hb dX9_findShape_79 rfl (lv_at hl 1 rfl) ?_
    obtain ⟨v3, hv, hM⟩ := e_bs hM
    refine e_getR (C := RX9) (T := TX9) (N := 40) E J hv rfl inX9 (by decide) q_5_15 dX9_findShape_80 ?_
    rcases v3 with _ | a4
    · have hM := e_on0 hM
      refine W.eq (g2 := F0 m 83 ls [.null]) rfl ?_
      refine lv_iconst (v := nI 5) hx hb dX9_findShape_83 (by decide) ?_
      refine lv_iload hx hb dX9_findShape_84 (lv_at hl 5 rfl) ?_
      refine lv_imul hx hb dX9_findShape_86 ?_
      refine lv_iload hx hb dX9_findShape_87 (lv_at hl 6 rfl) ?_
      refine lv_iadd hx hb dX9_findShape_89 ?_
      refine lv_dup2_11 hx hb dX9_findShape_90 rfl rfl ?_
      exact e_no hM
    · have hM := e_on1 hM
      refine W.eq (g2 := F0 m 83 ls [.ref (e_ad G a4)]) rfl ?_
      refine lv_iconst (v := nI 5) hx hb dX9_findShape_83 (by decide) ?_
      refine lv_iload hx hb dX9_findShape_84 (lv_at hl 5 rfl) ?_
      refine lv_imul hx hb dX9_findShape_86 ?_
      refine lv_iload hx hb dX9_findShape_87 (lv_at hl 6 rfl) ?_
      refine lv_iadd hx hb dX9_findShape_89 ?_
      refine lv_dup2_11 hx hb dX9_findShape_90 rfl rfl ?_
      obtain ⟨v6, hv, hM⟩ := e_bs hM
      refine e_lald E J hv dX9_findShape_91 ?_
      refine lv_aload_n hx hb dX9_findShape_92 rfl (lv_at hl 1 rfl) ?_
      obtain ⟨v7, hv, hM⟩ := e_bs hM
      refine e_getR (C := RX9) (T := TX9) (N := 40) E J hv rfl inX9 (by decide) q_5_14 dX9_findShape_93 ?_
      rcases v7 with _ | a8
      · have hM := e_on0 hM
        refine W.eq (g2 := F0 m 96 ls [.null, .long v6, .int (((nI 5) * l4) + l5), .ref (e_ad G a4)]) rfl ?_
        refine lv_iload_n hx hb dX9_findShape_96 rfl (lv_at hl 4 rfl) ?_
        exact e_no hM
      · have hM := e_on1 hM
        refine W.eq (g2 := F0 m 96 ls [.ref (e_ad G a8), .long v6, .int (((nI 5) * l4) + l5), .ref (e_ad G a4)]) rfl ?_
        refine lv_iload_n hx hb dX9_findShape_96 rfl (lv_at hl 4 rfl) ?_
        obtain ⟨v9, hv, hM⟩ := e_bs hM
        refine e_iald E J hv dX9_findShape_97 ?_
        refine lv_i2l hx hb dX9_findShape_98 rfl ?_
        refine lv_lload hx hb dX9_findShape_99 (lv_at hl 0 rfl) ?_
        refine lv_lmul hx hb dX9_findShape_101 ?_
        refine lv_iload_n hx hb dX9_findShape_102 rfl (lv_at hl 2 rfl) ?_
        refine lv_i2l hx hb dX9_findShape_103 rfl ?_
        refine lv_iload_n hx hb dX9_findShape_104 rfl (lv_at hl 4 rfl) ?_
        refine lv_iconst (v := nI 5) hx hb dX9_findShape_105 (by decide) ?_
        refine lv_idiv hx hb dX9_findShape_106 (by decide) ?_
        refine lv_iload hx hb dX9_findShape_107 (lv_at hl 5 rfl) ?_
        refine lv_isub hx hb dX9_findShape_109 ?_
        obtain ⟨v10, hv, hM⟩ := e_bs hM
        refine e_callS (As := [.long (l1).toInt64, .int ((l3 / (nI 5)) - l4)]) (rest := [.long ((v9).toInt64 * (v1 * v2)), .long v6, .int (((nI 5) * l4) + l5), .ref (e_ad G a4)]) (n := 2) E J (mX9_raised (l := l) (G := G) (l1).toInt64 ((l3 / (nI 5)) - l4) h _ hv) q_6_4 q_6_5 q_1_9 q_6_6 (by decide +kernel) rfl ⟨Nat.le_of_ble_eq_true rfl, Nat.le_of_ble_eq_true rfl⟩ (st0 := [.int ((l3 / (nI 5)) - l4), .long (l1).toInt64, .long ((v9).toInt64 * (v1 * v2)), .long v6, .int (((nI 5) * l4) + l5), .ref (e_ad G a4)]) (st1 := [.long v10, .long ((v9).toInt64 * (v1 * v2)), .long v6, .int (((nI 5) * l4) + l5), .ref (e_ad G a4)]) rfl rfl hl.1 (Nat.le_of_ble_eq_true rfl) dX9_findShape_110 ⟨Nat.le_refl _, Nat.le_refl _⟩ (fun H locs J => ?_)
        refine lv_lmul hx hb dX9_findShape_113 ?_
        refine lv_iload_n hx hb dX9_findShape_114 rfl (lv_at hl 3 rfl) ?_
        refine lv_i2l hx hb dX9_findShape_115 rfl ?_
        refine lv_iload_n hx hb dX9_findShape_116 rfl (lv_at hl 4 rfl) ?_
        refine lv_iconst (v := nI 5) hx hb dX9_findShape_117 (by decide) ?_
        refine lv_irem hx hb dX9_findShape_118 (by decide) ?_
        refine lv_iload hx hb dX9_findShape_119 (lv_at hl 6 rfl) ?_
        refine lv_isub hx hb dX9_findShape_121 ?_
        obtain ⟨v11, hv, hM⟩ := e_bs hM
        refine e_callS (As := [.long (l2).toInt64, .int ((l3 - l3 / (nI 5) * (nI 5)) - l5)]) (rest := [.long (((v9).toInt64 * (v1 * v2)) * v10), .long v6, .int (((nI 5) * l4) + l5), .ref (e_ad G a4)]) (n := 2) E J (mX9_raised (l := l) (G := G) (l2).toInt64 ((l3 - l3 / (nI 5) * (nI 5)) - l5) h _ hv) q_6_4 q_6_5 q_1_9 q_6_6 (by decide +kernel) rfl ⟨Nat.le_of_ble_eq_true rfl, Nat.le_of_ble_eq_true rfl⟩ (st0 := [.int ((l3 - l3 / (nI 5) * (nI 5)) - l5), .long (l2).toInt64, .long (((v9).toInt64 * (v1 * v2)) * v10), .long v6, .int (((nI 5) * l4) + l5), .ref (e_ad G a4)]) (st1 := [.long v11, .long (((v9).toInt64 * (v1 * v2)) * v10), .long v6, .int (((nI 5) * l4) + l5), .ref (e_ad G a4)]) rfl rfl hl.1 (Nat.le_of_ble_eq_true rfl) dX9_findShape_122 ⟨Nat.le_refl _, Nat.le_refl _⟩ (fun H locs J => ?_)
        refine lv_lmul hx hb dX9_findShape_125 ?_
        refine lv_ladd hx hb dX9_findShape_126 ?_
        obtain ⟨h12, hv, hM⟩ := e_bs hM
        refine e_last E J hv dX9_findShape_127 (fun H locs J => ?_)
        refine lv_iinc (v := (l5 + (nI 1))) (lv' := [(5, .int (l5 + (nI 1))), (6, .long (v1 * v2)), (0, .ref (e_ad G l0)), (1, .int l1), (2, .int l2), (3, .int l3), (4, .int l4)]) hx hb dX9_findShape_128 hl (k := 6) rfl rfl (by decide) rfl (fun ls hl => ?_)
        refine lv_goto (tgt := 52) hx hb dX9_findShape_131 (by decide) ?_
        exact K52 l0 l1 l2 l3 l4 (l5 + (nI 1)) h12 hM _ _ J _ (lv_sub hl [2, 3, 4, 5, 6, 0] rfl)
set_option maxRecDepth 100000 in
set_option maxHeartbeats 4000000 in
theorem mX9_findShape_L52 {p : Program} {l : Launch} {e : Env} {s : State} {m : MethodId} {args : Array Value} {below : List Frame} {meth : Method} {c : Code} {G : e_G} {res : e_H} {k23 : Nat → Int32 → Int32 → Int32 → e_H → Option e_H} {k41 : Nat → Int32 → Int32 → Int32 → Int32 → e_H → Option e_H} (E : e_M G p s args m meth c cX9_findShape 8 none RX9) (K23 : ∀ (l0 : Nat) (l1 : Int32) (l2 : Int32) (l3 : Int32) (h : e_H), k23 l0 l1 l2 l3 h = some res → ∀ (H : Heap) (locs : List Loc), e_J G s h H locs → ∀ (ls : Array Slot), lv_has ls 8 [(0, .ref (e_ad G l0)), (1, .int l1), (2, .int l2), (3, .int l3)] → W p l e (e_rm 1 25) s m args below meth c H locs 0 0 (MQ below (e_Q G res (none)) args s 0 0 (e_A G)) (F0 m 23 ls [])) (K41 : ∀ (l0 : Nat) (l1 : Int32) (l2 : Int32) (l3 : Int32) (l4 : Int32) (h : e_H), k41 l0 l1 l2 l3 l4 h = some res → ∀ (H : Heap) (locs : List Loc), e_J G s h H locs → ∀ (ls : Array Slot), lv_has ls 8 [(0, .ref (e_ad G l0)), (1, .int l1), (2, .int l2), (3, .int l3), (4, .int l4)] → W p l e (e_rm 1 25) s m args below meth c H locs 0 0 (MQ below (e_Q G res (none)) args s 0 0 (e_A G)) (F0 m 41 ls [])) (n : Nat) (l0 : Nat) (l1 : Int32) (l2 : Int32) (l3 : Int32) (l4 : Int32) (l5 : Int32) (h : e_H) (hM : fX9_findShape_L52 k23 k41 n l0 l1 l2 l3 l4 l5 h = some res) {H : Heap} {locs : List Loc} (J : e_J G s h H locs) {ls : Array Slot} (hl : lv_has ls 8 [(0, .ref (e_ad G l0)), (1, .int l1), (2, .int l2), (3, .int l3), (4, .int l4), (5, .int l5)]) : W p l e (e_rm 1 25) s m args below meth c H locs 0 0 (MQ below (e_Q G res (none)) args s 0 0 (e_A G)) (F0 m 52 ls []) := by
  induction n generalizing l0 l1 l2 l3 l4 l5 h H locs ls with
  | zero => exact e_no hM
  | succ n ih => exact mX9_findShape_b52 (k52 := (fX9_findShape_L52 k23 k41 n)) E  K23 K41 (fun l0 l1 l2 l3 l4 l5 h hM H locs J ls hl => ih l0 l1 l2 l3 l4 l5 h hM J hl) l0 l1 l2 l3 l4 l5 h hM J hl
set_option maxRecDepth 100000 in
set_option maxHeartbeats 4000000 in
theorem mX9_findShape_b41 {p : Program} {l : Launch} {e : Env} {s : State} {m : MethodId} {args : Array Value} {below : List Frame} {meth : Method} {c : Code} {G : e_G} {res : e_H} {k23 : Nat → Int32 → Int32 → Int32 → e_H → Option e_H} {k41 : Nat → Int32 → Int32 → Int32 → Int32 → e_H → Option e_H} (E : e_M G p s args m meth c cX9_findShape 8 none RX9) (K23 : ∀ (l0 : Nat) (l1 : Int32) (l2 : Int32) (l3 : Int32) (h : e_H), k23 l0 l1 l2 l3 h = some res → ∀ (H : Heap) (locs : List Loc), e_J G s h H locs → ∀ (ls : Array Slot), lv_has ls 8 [(0, .ref (e_ad G l0)), (1, .int l1), (2, .int l2), (3, .int l3)] → W p l e (e_rm 1 25) s m args below meth c H locs 0 0 (MQ below (e_Q G res (none)) args s 0 0 (e_A G)) (F0 m 23 ls [])) (K41 : ∀ (l0 : Nat) (l1 : Int32) (l2 : Int32) (l3 : Int32) (l4 : Int32) (h : e_H), k41 l0 l1 l2 l3 l4 h = some res → ∀ (H : Heap) (locs : List Loc), e_J G s h H locs → ∀ (ls : Array Slot), lv_has ls 8 [(0, .ref (e_ad G l0)), (1, .int l1), (2, .int l2), (3, .int l3), (4, .int l4)] → W p l e (e_rm 1 25) s m args below meth c H locs 0 0 (MQ below (e_Q G res (none)) args s 0 0 (e_A G)) (F0 m 41 ls [])) (l0 : Nat) (l1 : Int32) (l2 : Int32) (l3 : Int32) (l4 : Int32) (h : e_H) (hM : fX9_findShape_b41 k23 k41 l0 l1 l2 l3 l4 h = some res) {H : Heap} {locs : List Loc} (J : e_J G s h H locs) {ls : Array Slot} (hl : lv_has ls 8 [(0, .ref (e_ad G l0)), (1, .int l1), (2, .int l2), (3, .int l3), (4, .int l4)]) : W p l e (e_rm 1 25) s m args below meth c H locs 0 0 (MQ below (e_Q G res (none)) args s 0 0 (e_A G)) (F0 m 41 ls []) := by
  obtain ⟨hx, hb, hr, hml, hown, hts, hlocks, hES, hbs⟩ := id E
  unfold fX9_findShape_b41 at hM
  refine lv_iload hx hb dX9_findShape_41 (lv_at hl 4 rfl) ?_
  refine lv_iload_n hx hb dX9_findShape_43 rfl (lv_at hl 3 rfl) ?_
  refine lv_iconst (v := nI 5) hx hb dX9_findShape_44 (by decide) ?_
  refine lv_idiv hx hb dX9_findShape_45 (by decide) ?_
  refine lv_icmp_gt (tgt := 140) hx hb dX9_findShape_46 (by decide) (fun hc => ?_) (fun hc => ?_)
  · have hM := e_ip hc hM
    exact mX9_findShape_b140 E K23 l0 l1 l2 l3 h hM J (lv_sub hl [0, 1, 2, 3] rfl)
  · have hM := e_in hc hM
    refine lv_iconst (v := nI 0) hx hb dX9_findShape_49 (by decide) ?_
    refine lv_istore (lv' := [(5, .int (nI 0)), (0, .ref (e_ad G l0)), (1, .int l1), (2, .int l2), (3, .int l3), (4, .int l4)]) hx hb dX9_findShape_50 hl (by decide) rfl (fun ls hl => ?_)
    exact mX9_findShape_L52 E K23 K41 200 l0 l1 l2 l3 l4 (nI 0) h hM J (lv_sub hl [1, 2, 3, 4, 5, 0] rfl)
set_option maxRecDepth 100000 in
set_option maxHeartbeats 4000000 in
theorem mX9_findShape_L41 {p : Program} {l : Launch} {e : Env} {s : State} {m : MethodId} {args : Array Value} {below : List Frame} {meth : Method} {c : Code} {G : e_G} {res : e_H} {k23 : Nat → Int32 → Int32 → Int32 → e_H → Option e_H} (E : e_M G p s args m meth c cX9_findShape 8 none RX9) (K23 : ∀ (l0 : Nat) (l1 : Int32) (l2 : Int32) (l3 : Int32) (h : e_H), k23 l0 l1 l2 l3 h = some res → ∀ (H : Heap) (locs : List Loc), e_J G s h H locs → ∀ (ls : Array Slot), lv_has ls 8 [(0, .ref (e_ad G l0)), (1, .int l1), (2, .int l2), (3, .int l3)] → W p l e (e_rm 1 25) s m args below meth c H locs 0 0 (MQ below (e_Q G res (none)) args s 0 0 (e_A G)) (F0 m 23 ls [])) (n : Nat) (l0 : Nat) (l1 : Int32) (l2 : Int32) (l3 : Int32) (l4 : Int32) (h : e_H) (hM : fX9_findShape_L41 k23 n l0 l1 l2 l3 l4 h = some res) {H : Heap} {locs : List Loc} (J : e_J G s h H locs) {ls : Array Slot} (hl : lv_has ls 8 [(0, .ref (e_ad G l0)), (1, .int l1), (2, .int l2), (3, .int l3), (4, .int l4)]) : W p l e (e_rm 1 25) s m args below meth c H locs 0 0 (MQ below (e_Q G res (none)) args s 0 0 (e_A G)) (F0 m 41 ls []) := by
  induction n generalizing l0 l1 l2 l3 l4 h H locs ls with
  | zero => exact e_no hM
  | succ n ih => exact mX9_findShape_b41 (k41 := (fX9_findShape_L41 k23 n)) E  K23 (fun l0 l1 l2 l3 l4 h hM H locs J ls hl => ih l0 l1 l2 l3 l4 h hM J hl) l0 l1 l2 l3 l4 h hM J hl
set_option maxRecDepth 100000 in
set_option maxHeartbeats 4000000 in
theorem mX9_findShape_b23 {p : Program} {l : Launch} {e : Env} {s : State} {m : MethodId} {args : Array Value} {below : List Frame} {meth : Method} {c : Code} {G : e_G} {res : e_H} {k23 : Nat → Int32 → Int32 → Int32 → e_H → Option e_H} (E : e_M G p s args m meth c cX9_findShape 8 none RX9) (K23 : ∀ (l0 : Nat) (l1 : Int32) (l2 : Int32) (l3 : Int32) (h : e_H), k23 l0 l1 l2 l3 h = some res → ∀ (H : Heap) (locs : List Loc), e_J G s h H locs → ∀ (ls : Array Slot), lv_has ls 8 [(0, .ref (e_ad G l0)), (1, .int l1), (2, .int l2), (3, .int l3)] → W p l e (e_rm 1 25) s m args below meth c H locs 0 0 (MQ below (e_Q G res (none)) args s 0 0 (e_A G)) (F0 m 23 ls [])) (l0 : Nat) (l1 : Int32) (l2 : Int32) (l3 : Int32) (h : e_H) (hM : fX9_findShape_b23 k23 l0 l1 l2 l3 h = some res) {H : Heap} {locs : List Loc} (J : e_J G s h H locs) {ls : Array Slot} (hl : lv_has ls 8 [(0, .ref (e_ad G l0)), (1, .int l1), (2, .int l2), (3, .int l3)]) : W p l e (e_rm 1 25) s m args below meth c H locs 0 0 (MQ below (e_Q G res (none)) args s 0 0 (e_A G)) (F0 m 23 ls []) := by
  obtain ⟨hx, hb, hr, hml, hown, hts, hlocks, hES, hbs⟩ := id E
  unfold fX9_findShape_b23 at hM
  refine lv_iload_n hx hb dX9_findShape_23 rfl (lv_at hl 3 rfl) ?_
  refine lv_bipush (v := nI 25) hx hb dX9_findShape_24 (by decide) ?_
  refine lv_icmp_ge (tgt := 146) hx hb dX9_findShape_26 (by decide) (fun hc => ?_) (fun hc => ?_)
  · have hM := e_ip hc hM
    obtain rfl := e_so hM
    exact e_vret E J dX9_findShape_146
  · have hM := e_in hc hM
    refine lv_aload_n hx hb dX9_findShape_29 rfl (lv_at hl 0 rfl) ?_
    obtain ⟨v1, hv, hM⟩ := e_bs hM
    refine e_getR (C := RX9) (T := TX9) (N := 40) E J hv rfl inX9 (by decide) q_5_14 dX9_findShape_30 ?_
    rcases v1 with _ | a2
    · have hM := e_on0 hM
      refine W.eq (g2 := F0 m 33 ls [.null]) rfl ?_
      refine lv_iload_n hx hb dX9_findShape_33 rfl (lv_at hl 3 rfl) ?_
      exact e_no hM
    · have hM := e_on1 hM
      refine W.eq (g2 := F0 m 33 ls [.ref (e_ad G a2)]) rfl ?_
      refine lv_iload_n hx hb dX9_findShape_33 rfl (lv_at hl 3 rfl) ?_
      obtain ⟨v3, hv, hM⟩ := e_bs hM
      refine e_iald E J hv dX9_findShape_34 ?_
      refine lv_if_eq (tgt := 140) hx hb dX9_findShape_35 (by decide) (fun hc => ?_) (fun hc => ?_)
      · have hM := e_ip hc hM
        exact mX9_findShape_b140 E K23 l0 l1 l2 l3 h hM J (lv_sub hl [0, 1, 2, 3] rfl)
      · have hM := e_in hc hM
        refine lv_iconst (v := nI 0) hx hb dX9_findShape_38 (by decide) ?_
        refine lv_istore (lv' := [(4, .int (nI 0)), (0, .ref (e_ad G l0)), (1, .int l1), (2, .int l2), (3, .int l3)]) hx hb dX9_findShape_39 hl (by decide) rfl (fun ls hl => ?_)
        exact mX9_findShape_L41 E K23 200 l0 l1 l2 l3 (nI 0) h hM J (lv_sub hl [1, 2, 3, 4, 0] rfl)
set_option maxRecDepth 100000 in
set_option maxHeartbeats 4000000 in
theorem mX9_findShape_L23 {p : Program} {l : Launch} {e : Env} {s : State} {m : MethodId} {args : Array Value} {below : List Frame} {meth : Method} {c : Code} {G : e_G} {res : e_H} (E : e_M G p s args m meth c cX9_findShape 8 none RX9) (n : Nat) (l0 : Nat) (l1 : Int32) (l2 : Int32) (l3 : Int32) (h : e_H) (hM : fX9_findShape_L23 n l0 l1 l2 l3 h = some res) {H : Heap} {locs : List Loc} (J : e_J G s h H locs) {ls : Array Slot} (hl : lv_has ls 8 [(0, .ref (e_ad G l0)), (1, .int l1), (2, .int l2), (3, .int l3)]) : W p l e (e_rm 1 25) s m args below meth c H locs 0 0 (MQ below (e_Q G res (none)) args s 0 0 (e_A G)) (F0 m 23 ls []) := by
  induction n generalizing l0 l1 l2 l3 h H locs ls with
  | zero => exact e_no hM
  | succ n ih => exact mX9_findShape_b23 (k23 := (fX9_findShape_L23 n)) E   (fun l0 l1 l2 l3 h hM H locs J ls hl => ih l0 l1 l2 l3 h hM J hl) l0 l1 l2 l3 h hM J hl
set_option maxRecDepth 100000 in
set_option maxHeartbeats 4000000 in
theorem mX9_findShape_b2 {p : Program} {l : Launch} {e : Env} {s : State} {m : MethodId} {args : Array Value} {below : List Frame} {meth : Method} {c : Code} {G : e_G} {res : e_H} {k2 : Nat → Int32 → Int32 → Int32 → e_H → Option e_H} (E : e_M G p s args m meth c cX9_findShape 8 none RX9) (K2 : ∀ (l0 : Nat) (l1 : Int32) (l2 : Int32) (l3 : Int32) (h : e_H), k2 l0 l1 l2 l3 h = some res → ∀ (H : Heap) (locs : List Loc), e_J G s h H locs → ∀ (ls : Array Slot), lv_has ls 8 [(0, .ref (e_ad G l0)), (1, .int l1), (2, .int l2), (3, .int l3)] → W p l e (e_rm 1 25) s m args below meth c H locs 0 0 (MQ below (e_Q G res (none)) args s 0 0 (e_A G)) (F0 m 2 ls [])) (l0 : Nat) (l1 : Int32) (l2 : Int32) (l3 : Int32) (h : e_H) (hM : fX9_findShape_b2 k2 l0 l1 l2 l3 h = some res) {H : Heap} {locs : List Loc} (J : e_J G s h H locs) {ls : Array Slot} (hl : lv_has ls 8 [(0, .ref (e_ad G l0)), (1, .int l1), (2, .int l2), (3, .int l3)]) : W p l e (e_rm 1 25) s m args below meth c H locs 0 0 (MQ below (e_Q G res (none)) args s 0 0 (e_A G)) (F0 m 2 ls []) := by
  obtain ⟨hx, hb, hr, hml, hown, hts, hlocks, hES, hbs⟩ := id E
  unfold fX9_findShape_b2 at hM
  refine lv_iload_n hx hb dX9_findShape_2 rfl (lv_at hl 3 rfl) ?_
  refine lv_bipush (v := nI 85) hx hb dX9_findShape_3 (by decide) ?_
  refine lv_icmp_ge (tgt := 21) hx hb dX9_findShape_5 (by decide) (fun hc => ?_) (fun hc => ?_)
  · have hM := e_ip hc hM
    refine lv_iconst (v := nI 0) hx hb dX9_findShape_21 (by decide) ?_
    refine lv_istore_n (lv' := [(3, .int (nI 0)), (0, .ref (e_ad G l0)), (1, .int l1), (2, .int l2)]) hx hb dX9_findShape_22 rfl hl (by decide) rfl (fun ls hl => ?_)
    exact mX9_findShape_L23 E 200 l0 l1 l2 (nI 0) h hM J (lv_sub hl [1, 2, 3, 0] rfl)
  · have hM := e_in hc hM
    refine lv_aload_n hx hb dX9_findShape_8 rfl (lv_at hl 0 rfl) ?_
    obtain ⟨v1, hv, hM⟩ := e_bs hM
    refine e_getR (C := RX9) (T := TX9) (N := 40) E J hv rfl inX9 (by decide) q_5_15 dX9_findShape_9 ?_
    rcases v1 with _ | a2
    · have hM := e_on0 hM
      refine W.eq (g2 := F0 m 12 ls [.null]) rfl ?_
      refine lv_iload_n hx hb dX9_findShape_12 rfl (lv_at hl 3 rfl) ?_
      refine lv_lconst (v := 0) hx hb dX9_findShape_13 (by decide) ?_
      exact e_no hM
    · have hM := e_on1 hM
      refine W.eq (g2 := F0 m 12 ls [.ref (e_ad G a2)]) rfl ?_
      refine lv_iload_n hx hb dX9_findShape_12 rfl (lv_at hl 3 rfl) ?_
      refine lv_lconst (v := 0) hx hb dX9_findShape_13 (by decide) ?_
      obtain ⟨h4, hv, hM⟩ := e_bs hM
      refine e_last E J hv dX9_findShape_14 (fun H locs J => ?_)
      refine lv_iinc (v := (l3 + (nI 1))) (lv' := [(3, .int (l3 + (nI 1))), (0, .ref (e_ad G l0)), (1, .int l1), (2, .int l2)]) hx hb dX9_findShape_15 hl (k := 3) rfl rfl (by decide) rfl (fun ls hl => ?_)
      refine lv_goto (tgt := 2) hx hb dX9_findShape_18 (by decide) ?_
      exact K2 l0 l1 l2 (l3 + (nI 1)) h4 hM _ _ J _ (lv_sub hl [1, 2, 3, 0] rfl)
set_option maxRecDepth 100000 in
set_option maxHeartbeats 4000000 in
theorem mX9_findShape_L2 {p : Program} {l : Launch} {e : Env} {s : State} {m : MethodId} {args : Array Value} {below : List Frame} {meth : Method} {c : Code} {G : e_G} {res : e_H} (E : e_M G p s args m meth c cX9_findShape 8 none RX9) (n : Nat) (l0 : Nat) (l1 : Int32) (l2 : Int32) (l3 : Int32) (h : e_H) (hM : fX9_findShape_L2 n l0 l1 l2 l3 h = some res) {H : Heap} {locs : List Loc} (J : e_J G s h H locs) {ls : Array Slot} (hl : lv_has ls 8 [(0, .ref (e_ad G l0)), (1, .int l1), (2, .int l2), (3, .int l3)]) : W p l e (e_rm 1 25) s m args below meth c H locs 0 0 (MQ below (e_Q G res (none)) args s 0 0 (e_A G)) (F0 m 2 ls []) := by
  induction n generalizing l0 l1 l2 l3 h H locs ls with
  | zero => exact e_no hM
  | succ n ih => exact mX9_findShape_b2 (k2 := (fX9_findShape_L2 n)) E   (fun l0 l1 l2 l3 h hM H locs J ls hl => ih l0 l1 l2 l3 h hM J hl) l0 l1 l2 l3 h hM J hl
set_option maxRecDepth 100000 in
set_option maxHeartbeats 4000000 in
theorem mX9_findShape {l : Launch} {G : e_G} (l0 : Nat) (l1 : Int32) (l2 : Int32) (h : e_H) (res : e_H) (hM : fX9_findShape l0 l1 l2 h = some res) : Met l yX9_findShape (e_W yX9_findShape cX9_findShape 8 none) (e_rm 1 25) (e_Pc G h [.ref (e_ad G l0), .int l1, .int l2]) (e_Q G res (none)) 0 0 (e_A G) := by
  refine Met.ofW (cc := cX9_findShape) (maxL := 8) (ret := none) (by decide) rfl ?_
  intro p e s m args below meth c s₁ B hml hv
  obtain ⟨rfl, hS, hP⟩ := hv
  have E := e_enter (own := RX9) (ret := none) B hml rfl hS hP
  have J : e_J G s h s.heap [] := ⟨hP, va_S.rf⟩
  have hl := lv_entry ([.ref (e_ad G l0), .int l1, .int l2]) (n := 8) (Nat.le_of_ble_eq_true rfl)
  rw [lg_entry_eq]
  generalize (lg_sl ([.ref (e_ad G l0), .int l1, .int l2]) ++ List.replicate (8 - (lg_sl ([.ref (e_ad G l0), .int l1, .int l2])).length) Slot.unset).toArray = ls at hl ⊢
  have hl : lv_has ls 8 [(0, .ref (e_ad G l0)), (1, .int l1), (2, .int l2)] := hl
  obtain ⟨hx, hb, hr, hml, hown, hts, hlocks, hES, hbs⟩ := id E
  unfold fX9_findShape at hM
  obtain ⟨fs_, hk_, hM⟩ := e_bs hM
  refine lv_iconst (v := nI 0) hx hb dX9_findShape_0 (by decide) ?_
  refine lv_istore_n (lv' := [(3, .int (nI 0)), (0, .ref (e_ad G l0)), (1, .int l1), (2, .int l2)]) hx hb dX9_findShape_1 rfl hl (by decide) rfl (fun ls hl => ?_)
  exact mX9_findShape_L2 E 200 l0 l1 l2 (nI 0) h hM J (lv_sub hl [1, 2, 3, 0] rfl)
set_option maxRecDepth 100000 in
set_option maxHeartbeats 4000000 in
theorem mX9_findPlace {l : Launch} {G : e_G} (l0 : Nat) (l1 : Int32) (l2 : Int32) (h : e_H) (res : e_H) (hM : fX9_findPlace l0 l1 l2 h = some res) : Met l yX9_findPlace (e_W yX9_findPlace cX9_findPlace 4 none) (e_rm 5 119) (e_Pc G h [.ref (e_ad G l0), .int l1, .int l2]) (e_Q G res (none)) 0 0 (e_A G) := by
  refine Met.ofW (cc := cX9_findPlace) (maxL := 4) (ret := none) (by decide) rfl ?_
  intro p e s m args below meth c s₁ B hml hv
  obtain ⟨rfl, hS, hP⟩ := hv
  have E := e_enter (own := RX9) (ret := none) B hml rfl hS hP
  have J : e_J G s h s.heap [] := ⟨hP, va_S.rf⟩
  have hl := lv_entry ([.ref (e_ad G l0), .int l1, .int l2]) (n := 4) (Nat.le_of_ble_eq_true rfl)
  rw [lg_entry_eq]
  generalize (lg_sl ([.ref (e_ad G l0), .int l1, .int l2]) ++ List.replicate (4 - (lg_sl ([.ref (e_ad G l0), .int l1, .int l2])).length) Slot.unset).toArray = ls at hl ⊢
  have hl : lv_has ls 4 [(0, .ref (e_ad G l0)), (1, .int l1), (2, .int l2)] := hl
  obtain ⟨hx, hb, hr, hml, hown, hts, hlocks, hES, hbs⟩ := id E
  unfold fX9_findPlace at hM
  obtain ⟨fs_, hk_, hM⟩ := e_bs hM
  refine lv_aload_n hx hb dX9_findPlace_0 rfl (lv_at hl 0 rfl) ?_
  refine lv_iload_n hx hb dX9_findPlace_1 rfl (lv_at hl 1 rfl) ?_
  obtain ⟨p1, hv, hM⟩ := e_bs hM
  obtain ⟨fs_, hk, -⟩ := e_bs hv
  refine e_callV (ci := 9) (As := [.int l1]) (rest := []) (n := 1) E J hk rfl (mX9_findTerms (l := l) (G := G) l0 l1 h _ hv) q_5_202 q_5_204 q_p_24 q_1_9 q_5_205 (by decide +kernel) rfl ⟨Nat.le_of_ble_eq_true rfl, Nat.le_of_ble_eq_true rfl⟩ (st0 := [.int l1, .ref (e_ad G l0)]) (st1 := [.int p1.1]) rfl rfl hl.1 (Nat.le_of_ble_eq_true rfl) dX9_findPlace_2 ⟨Nat.le_refl _, Nat.le_refl _⟩ (fun H locs J => ?_)
  refine lv_istore_n (lv' := [(3, .int p1.1), (0, .ref (e_ad G l0)), (1, .int l1), (2, .int l2)]) hx hb dX9_findPlace_5 rfl hl (by decide) rfl (fun ls hl => ?_)
  refine lv_aload_n hx hb dX9_findPlace_6 rfl (lv_at hl 1 rfl) ?_
  refine lv_iload_n hx hb dX9_findPlace_7 rfl (lv_at hl 3 rfl) ?_
  refine lv_bipush (v := nI 100) hx hb dX9_findPlace_8 (by decide) ?_
  refine lv_idiv hx hb dX9_findPlace_10 (by decide) ?_
  refine lv_iconst (v := nI 5) hx hb dX9_findPlace_11 (by decide) ?_
  refine lv_isub hx hb dX9_findPlace_12 ?_
  refine lv_iload_n hx hb dX9_findPlace_13 rfl (lv_at hl 3 rfl) ?_
  refine lv_bipush (v := nI 100) hx hb dX9_findPlace_14 (by decide) ?_
  refine lv_irem hx hb dX9_findPlace_16 (by decide) ?_
  refine lv_iconst (v := nI 5) hx hb dX9_findPlace_17 (by decide) ?_
  refine lv_isub hx hb dX9_findPlace_18 ?_
  obtain ⟨h2, hv, hM⟩ := e_bs hM
  obtain ⟨fs_, hk, -⟩ := e_bs hv
  refine e_callV (ci := 9) (As := [.int ((l2 / (nI 100)) - (nI 5)), .int ((l2 - l2 / (nI 100) * (nI 100)) - (nI 5))]) (rest := []) (n := 2) E J hk rfl (mX9_findShape (l := l) (G := G) l0 ((l2 / (nI 100)) - (nI 5)) ((l2 - l2 / (nI 100) * (nI 100)) - (nI 5)) p1.2 _ hv) q_6_18 q_6_20 q_p_28 q_1_9 q_6_21 (by decide +kernel) rfl ⟨Nat.le_of_ble_eq_true rfl, Nat.le_of_ble_eq_true rfl⟩ (st0 := [.int ((l2 - l2 / (nI 100) * (nI 100)) - (nI 5)), .int ((l2 / (nI 100)) - (nI 5)), .ref (e_ad G l0)]) (st1 := []) rfl rfl hl.1 (Nat.le_of_ble_eq_true rfl) dX9_findPlace_19 ⟨Nat.le_refl _, Nat.le_refl _⟩ (fun H locs J => ?_)
  obtain rfl := e_so hM
  exact e_vret E J dX9_findPlace_22
set_option maxRecDepth 100000 in
set_option maxHeartbeats 4000000 in
theorem mX9_timesOf_b51 {p : Program} {l : Launch} {e : Env} {s : State} {m : MethodId} {args : Array Value} {below : List Frame} {meth : Method} {c : Code} {G : e_G} {res : Int32} {k4 : Nat → Int32 → Int32 → Int32 → Option Int32} (E : e_M G p s args m meth c cX9_timesOf 5 (some FieldType.int) RX9) (h : e_H) (K4 : ∀ (l0 : Nat) (l1 : Int32) (l2 : Int32) (l3 : Int32), k4 l0 l1 l2 l3 = some res → ∀ (H : Heap) (locs : List Loc), e_J G s h H locs → ∀ (ls : Array Slot), lv_has ls 5 [(0, .ref (e_ad G l0)), (1, .int l1), (2, .int l2), (3, .int l3)] → W p l e (e_rm 0 0) s m args below meth c H locs 0 0 (MQ below (e_Q G h (some (.int res))) args s 0 0 (e_A G)) (F0 m 4 ls [])) (l0 : Nat) (l1 : Int32) (l3 : Int32) (t0 : Int32) (hM : fX9_timesOf_b51 h k4 l0 l1 l3 t0 = some res) {H : Heap} {locs : List Loc} (J : e_J G s h H locs) {ls : Array Slot} (hl : lv_has ls 5 [(0, .ref (e_ad G l0)), (1, .int l1), (3, .int l3)]) : W p l e (e_rm 0 0) s m args below meth c H locs 0 0 (MQ below (e_Q G h (some (.int res))) args s 0 0 (e_A G)) (F0 m 51 ls [.int t0]) := by
  obtain ⟨hx, hb, hr, hml, hown, hts, hlocks, hES, hbs⟩ := id E
  unfold fX9_timesOf_b51 at hM
  refine lv_istore_n (lv' := [(2, .int t0), (0, .ref (e_ad G l0)), (1, .int l1), (3, .int l3)]) hx hb dX9_timesOf_51 rfl hl (by decide) rfl (fun ls hl => ?_)
  refine lv_iinc (v := (l3 + (nI 1))) (lv' := [(3, .int (l3 + (nI 1))), (2, .int t0), (0, .ref (e_ad G l0)), (1, .int l1)]) hx hb dX9_timesOf_52 hl (k := 3) rfl rfl (by decide) rfl (fun ls hl => ?_)
  refine lv_goto (tgt := 4) hx hb dX9_timesOf_55 (by decide) ?_
  exact K4 l0 l1 t0 (l3 + (nI 1)) hM _ _ J _ (lv_sub hl [2, 3, 1, 0] rfl)
set_option maxRecDepth 100000 in
set_option maxHeartbeats 4000000 in
theorem mX9_timesOf_b50 {p : Program} {l : Launch} {e : Env} {s : State} {m : MethodId} {args : Array Value} {below : List Frame} {meth : Method} {c : Code} {G : e_G} {res : Int32} {k4 : Nat → Int32 → Int32 → Int32 → Option Int32} (E : e_M G p s args m meth c cX9_timesOf 5 (some FieldType.int) RX9) (h : e_H) (K4 : ∀ (l0 : Nat) (l1 : Int32) (l2 : Int32) (l3 : Int32), k4 l0 l1 l2 l3 = some res → ∀ (H : Heap) (locs : List Loc), e_J G s h H locs → ∀ (ls : Array Slot), lv_has ls 5 [(0, .ref (e_ad G l0)), (1, .int l1), (2, .int l2), (3, .int l3)] → W p l e (e_rm 0 0) s m args below meth c H locs 0 0 (MQ below (e_Q G h (some (.int res))) args s 0 0 (e_A G)) (F0 m 4 ls [])) (l0 : Nat) (l1 : Int32) (l2 : Int32) (l3 : Int32) (hM : fX9_timesOf_b50 h k4 l0 l1 l2 l3 = some res) {H : Heap} {locs : List Loc} (J : e_J G s h H locs) {ls : Array Slot} (hl : lv_has ls 5 [(0, .ref (e_ad G l0)), (1, .int l1), (2, .int l2), (3, .int l3)]) : W p l e (e_rm 0 0) s m args below meth c H locs 0 0 (MQ below (e_Q G h (some (.int res))) args s 0 0 (e_A G)) (F0 m 50 ls []) := by
  obtain ⟨hx, hb, hr, hml, hown, hts, hlocks, hES, hbs⟩ := id E
  unfold fX9_timesOf_b50 at hM
  refine lv_iload_n hx hb dX9_timesOf_50 rfl (lv_at hl 2 rfl) ?_
  exact mX9_timesOf_b51 E h K4 l0 l1 l3 l2 hM J (lv_sub hl [0, 1, 3] rfl)
set_option maxRecDepth 100000 in
set_option maxHeartbeats 4000000 in
theorem mX9_timesOf_b45 {p : Program} {l : Launch} {e : Env} {s : State} {m : MethodId} {args : Array Value} {below : List Frame} {meth : Method} {c : Code} {G : e_G} {res : Int32} {k4 : Nat → Int32 → Int32 → Int32 → Option Int32} (E : e_M G p s args m meth c cX9_timesOf 5 (some FieldType.int) RX9) (h : e_H) (K4 : ∀ (l0 : Nat) (l1 : Int32) (l2 : Int32) (l3 : Int32), k4 l0 l1 l2 l3 = some res → ∀ (H : Heap) (locs : List Loc), e_J G s h H locs → ∀ (ls : Array Slot), lv_has ls 5 [(0, .ref (e_ad G l0)), (1, .int l1), (2, .int l2), (3, .int l3)] → W p l e (e_rm 0 0) s m args below meth c H locs 0 0 (MQ below (e_Q G h (some (.int res))) args s 0 0 (e_A G)) (F0 m 4 ls [])) (l0 : Nat) (l1 : Int32) (l3 : Int32) (l4 : Int32) (hM : fX9_timesOf_b45 h k4 l0 l1 l3 l4 = some res) {H : Heap} {locs : List Loc} (J : e_J G s h H locs) {ls : Array Slot} (hl : lv_has ls 5 [(0, .ref (e_ad G l0)), (1, .int l1), (3, .int l3), (4, .int l4)]) : W p l e (e_rm 0 0) s m args below meth c H locs 0 0 (MQ below (e_Q G h (some (.int res))) args s 0 0 (e_A G)) (F0 m 45 ls []) := by
  obtain ⟨hx, hb, hr, hml, hown, hts, hlocks, hES, hbs⟩ := id E
  unfold fX9_timesOf_b45 at hM
  refine lv_iload hx hb dX9_timesOf_45 (lv_at hl 3 rfl) ?_
  refine lv_goto (tgt := 51) hx hb dX9_timesOf_47 (by decide) ?_
  exact mX9_timesOf_b51 E h K4 l0 l1 l3 l4 hM J (lv_sub hl [0, 1, 2] rfl)
set_option maxRecDepth 100000 in
set_option maxHeartbeats 4000000 in
theorem mX9_timesOf_b4 {p : Program} {l : Launch} {e : Env} {s : State} {m : MethodId} {args : Array Value} {below : List Frame} {meth : Method} {c : Code} {G : e_G} {res : Int32} {k4 : Nat → Int32 → Int32 → Int32 → Option Int32} (E : e_M G p s args m meth c cX9_timesOf 5 (some FieldType.int) RX9) (h : e_H) (K4 : ∀ (l0 : Nat) (l1 : Int32) (l2 : Int32) (l3 : Int32), k4 l0 l1 l2 l3 = some res → ∀ (H : Heap) (locs : List Loc), e_J G s h H locs → ∀ (ls : Array Slot), lv_has ls 5 [(0, .ref (e_ad G l0)), (1, .int l1), (2, .int l2), (3, .int l3)] → W p l e (e_rm 0 0) s m args below meth c H locs 0 0 (MQ below (e_Q G h (some (.int res))) args s 0 0 (e_A G)) (F0 m 4 ls [])) (l0 : Nat) (l1 : Int32) (l2 : Int32) (l3 : Int32) (hM : fX9_timesOf_b4 h k4 l0 l1 l2 l3 = some res) {H : Heap} {locs : List Loc} (J : e_J G s h H locs) {ls : Array Slot} (hl : lv_has ls 5 [(0, .ref (e_ad G l0)), (1, .int l1), (2, .int l2), (3, .int l3)]) : W p l e (e_rm 0 0) s m args below meth c H locs 0 0 (MQ below (e_Q G h (some (.int res))) args s 0 0 (e_A G)) (F0 m 4 ls []) := by
  obtain ⟨hx, hb, hr, hml, hown, hts, hlocks, hES, hbs⟩ := id E
  unfold fX9_timesOf_b4 at hM
  refine lv_iload_n hx hb dX9_timesOf_4 rfl (lv_at hl 3 rfl) ?_
  refine lv_bipush (v := nI 85) hx hb dX9_timesOf_5 (by decide) ?_
  refine lv_icmp_ge (tgt := 58) hx hb dX9_timesOf_7 (by decide) (fun hc => ?_) (fun hc => ?_)
  · have hM := e_ip hc hM
    refine lv_iload_n hx hb dX9_timesOf_58 rfl (lv_at hl 2 rfl) ?_
    refine lv_if_ge (tgt := 67) hx hb dX9_timesOf_59 (by decide) (fun hc => ?_) (fun hc => ?_)
    · have hM := e_ip hc hM
      refine lv_iload_n hx hb dX9_timesOf_67 rfl (lv_at hl 2 rfl) ?_
      obtain rfl := e_so hM
      exact e_iret E J dX9_timesOf_68
    · have hM := e_in hc hM
      refine lv_bipush (v := nI 17) hx hb dX9_timesOf_62 (by decide) ?_
      refine lv_goto (tgt := 68) hx hb dX9_timesOf_64 (by decide) ?_
      obtain rfl := e_so hM
      exact e_iret E J dX9_timesOf_68
  · have hM := e_in hc hM
    refine lv_iload_n hx hb dX9_timesOf_10 rfl (lv_at hl 3 rfl) ?_
    refine lv_iconst (v := nI 5) hx hb dX9_timesOf_11 (by decide) ?_
    refine lv_idiv hx hb dX9_timesOf_12 (by decide) ?_
    refine lv_iload_n hx hb dX9_timesOf_13 rfl (lv_at hl 3 rfl) ?_
    refine lv_iconst (v := nI 5) hx hb dX9_timesOf_14 (by decide) ?_
    refine lv_irem hx hb dX9_timesOf_15 (by decide) ?_
    refine lv_iadd hx hb dX9_timesOf_16 ?_
    refine lv_istore (lv' := [(4, .int ((l3 / (nI 5)) + (l3 - l3 / (nI 5) * (nI 5)))), (0, .ref (e_ad G l0)), (1, .int l1), (2, .int l2), (3, .int l3)]) hx hb dX9_timesOf_17 hl (by decide) rfl (fun ls hl => ?_)
    refine lv_aload_n hx hb dX9_timesOf_19 rfl (lv_at hl 1 rfl) ?_
    obtain ⟨v1, hv, hM⟩ := e_bs hM
    refine e_getR (C := RX9) (T := TX9) (N := 40) E J hv rfl inX9 (by decide) q_5_15 dX9_timesOf_20 ?_
    rcases v1 with _ | a2
    · have hM := e_on0 hM
      refine W.eq (g2 := F0 m 23 ls [.null]) rfl ?_
      refine lv_bipush (v := nI 85) hx hb dX9_timesOf_23 (by decide) ?_
      refine lv_iload_n hx hb dX9_timesOf_25 rfl (lv_at hl 2 rfl) ?_
      refine lv_imul hx hb dX9_timesOf_26 ?_
      refine lv_iload_n hx hb dX9_timesOf_27 rfl (lv_at hl 4 rfl) ?_
      refine lv_iadd hx hb dX9_timesOf_28 ?_
      exact e_no hM
    · have hM := e_on1 hM
      refine W.eq (g2 := F0 m 23 ls [.ref (e_ad G a2)]) rfl ?_
      refine lv_bipush (v := nI 85) hx hb dX9_timesOf_23 (by decide) ?_
      refine lv_iload_n hx hb dX9_timesOf_25 rfl (lv_at hl 2 rfl) ?_
      refine lv_imul hx hb dX9_timesOf_26 ?_
      refine lv_iload_n hx hb dX9_timesOf_27 rfl (lv_at hl 4 rfl) ?_
      refine lv_iadd hx hb dX9_timesOf_28 ?_
      obtain ⟨v4, hv, hM⟩ := e_bs hM
      refine e_lald E J hv dX9_timesOf_29 ?_
      refine lv_lconst (v := 0) hx hb dX9_timesOf_30 (by decide) ?_
      refine W.lcmp hx hb dX9_timesOf_31 ?_
      refine lv_if_eq (tgt := 50) hx hb dX9_timesOf_32 (by decide) (fun hc => ?_) (fun hc => ?_)
      · have hM := e_ip hc hM
        exact mX9_timesOf_b50 E h K4 l0 l1 l2 l3 hM J (lv_sub hl [1, 2, 3, 4] rfl)
      · have hM := e_in hc hM
        refine lv_iload_n hx hb dX9_timesOf_35 rfl (lv_at hl 3 rfl) ?_
        refine lv_if_lt (tgt := 45) hx hb dX9_timesOf_36 (by decide) (fun hc => ?_) (fun hc => ?_)
        · have hM := e_ip hc hM
          exact mX9_timesOf_b45 E h K4 l0 l1 l3 ((l3 / (nI 5)) + (l3 - l3 / (nI 5) * (nI 5))) hM J (lv_sub hl [1, 2, 4, 0] rfl)
        · have hM := e_in hc hM
          refine lv_iload hx hb dX9_timesOf_39 (lv_at hl 0 rfl) ?_
          refine lv_iload_n hx hb dX9_timesOf_41 rfl (lv_at hl 3 rfl) ?_
          refine lv_icmp_ge (tgt := 50) hx hb dX9_timesOf_42 (by decide) (fun hc => ?_) (fun hc => ?_)
          · have hM := e_ip hc hM
            exact mX9_timesOf_b50 E h K4 l0 l1 l2 l3 hM J (lv_sub hl [1, 2, 3, 4] rfl)
          · have hM := e_in hc hM
            exact mX9_timesOf_b45 E h K4 l0 l1 l3 ((l3 / (nI 5)) + (l3 - l3 / (nI 5) * (nI 5))) hM J (lv_sub hl [1, 2, 4, 0] rfl)
set_option maxRecDepth 100000 in
set_option maxHeartbeats 4000000 in
theorem mX9_timesOf_L4 {p : Program} {l : Launch} {e : Env} {s : State} {m : MethodId} {args : Array Value} {below : List Frame} {meth : Method} {c : Code} {G : e_G} {res : Int32} (E : e_M G p s args m meth c cX9_timesOf 5 (some FieldType.int) RX9) (h : e_H) (n : Nat) (l0 : Nat) (l1 : Int32) (l2 : Int32) (l3 : Int32) (hM : fX9_timesOf_L4 h n l0 l1 l2 l3 = some res) {H : Heap} {locs : List Loc} (J : e_J G s h H locs) {ls : Array Slot} (hl : lv_has ls 5 [(0, .ref (e_ad G l0)), (1, .int l1), (2, .int l2), (3, .int l3)]) : W p l e (e_rm 0 0) s m args below meth c H locs 0 0 (MQ below (e_Q G h (some (.int res))) args s 0 0 (e_A G)) (F0 m 4 ls []) := by
  induction n generalizing l0 l1 l2 l3 H locs ls with
  | zero => exact e_no hM
  | succ n ih => exact mX9_timesOf_b4 (k4 := (fX9_timesOf_L4 h n)) E h  (fun l0 l1 l2 l3 hM H locs J ls hl => ih l0 l1 l2 l3 hM J hl) l0 l1 l2 l3 hM J hl
set_option maxRecDepth 100000 in
set_option maxHeartbeats 4000000 in
theorem mX9_timesOf {l : Launch} {G : e_G} (l0 : Nat) (l1 : Int32) (h : e_H) (res : Int32) (hM : fX9_timesOf l0 l1 h = some res) : Met l yX9_timesOf (e_W yX9_timesOf cX9_timesOf 5 (some FieldType.int)) (e_rm 0 0) (e_Pc G h [.ref (e_ad G l0), .int l1]) (e_Q G h (some (.int res))) 0 0 (e_A G) := by
  refine Met.ofW (cc := cX9_timesOf) (maxL := 5) (ret := (some FieldType.int)) (by decide) rfl ?_
  intro p e s m args below meth c s₁ B hml hv
  obtain ⟨rfl, hS, hP⟩ := hv
  have E := e_enter (own := RX9) (ret := (some FieldType.int)) B hml rfl hS hP
  have J : e_J G s h s.heap [] := ⟨hP, va_S.rf⟩
  have hl := lv_entry ([.ref (e_ad G l0), .int l1]) (n := 5) (Nat.le_of_ble_eq_true rfl)
  rw [lg_entry_eq]
  generalize (lg_sl ([.ref (e_ad G l0), .int l1]) ++ List.replicate (5 - (lg_sl ([.ref (e_ad G l0), .int l1])).length) Slot.unset).toArray = ls at hl ⊢
  have hl : lv_has ls 5 [(0, .ref (e_ad G l0)), (1, .int l1)] := hl
  obtain ⟨hx, hb, hr, hml, hown, hts, hlocks, hES, hbs⟩ := id E
  unfold fX9_timesOf at hM
  obtain ⟨fs_, hk_, hM⟩ := e_bs hM
  refine lv_iconst (v := -1) hx hb dX9_timesOf_0 (by decide) ?_
  refine lv_istore_n (lv' := [(2, .int (-1 : Int32)), (0, .ref (e_ad G l0)), (1, .int l1)]) hx hb dX9_timesOf_1 rfl hl (by decide) rfl (fun ls hl => ?_)
  refine lv_iconst (v := nI 0) hx hb dX9_timesOf_2 (by decide) ?_
  refine lv_istore_n (lv' := [(3, .int (nI 0)), (2, .int (-1 : Int32)), (0, .ref (e_ad G l0)), (1, .int l1)]) hx hb dX9_timesOf_3 rfl hl (by decide) rfl (fun ls hl => ?_)
  exact mX9_timesOf_L4 E h 200 l0 l1 (-1 : Int32) (nI 0) hM J (lv_sub hl [2, 3, 1, 0] rfl)
set_option maxRecDepth 100000 in
set_option maxHeartbeats 4000000 in
theorem mX9_times {l : Launch} {G : e_G} (l0 : Nat) (l1 : Int32) (l2 : Int32) (h : e_H) (res : (Int32 × e_H)) (hM : fX9_times l0 l1 l2 h = some res) : Met l yX9_times (e_W yX9_times cX9_times 3 (some FieldType.int)) (e_rm 6 142) (e_Pc G h [.ref (e_ad G l0), .int l1, .int l2]) (e_Q G res.2 (some (.int res.1))) 0 0 (e_A G) := by
  refine Met.ofW (cc := cX9_times) (maxL := 3) (ret := (some FieldType.int)) (by decide) rfl ?_
  intro p e s m args below meth c s₁ B hml hv
  obtain ⟨rfl, hS, hP⟩ := hv
  have E := e_enter (own := RX9) (ret := (some FieldType.int)) B hml rfl hS hP
  have J : e_J G s h s.heap [] := ⟨hP, va_S.rf⟩
  have hl := lv_entry ([.ref (e_ad G l0), .int l1, .int l2]) (n := 3) (Nat.le_of_ble_eq_true rfl)
  rw [lg_entry_eq]
  generalize (lg_sl ([.ref (e_ad G l0), .int l1, .int l2]) ++ List.replicate (3 - (lg_sl ([.ref (e_ad G l0), .int l1, .int l2])).length) Slot.unset).toArray = ls at hl ⊢
  have hl : lv_has ls 3 [(0, .ref (e_ad G l0)), (1, .int l1), (2, .int l2)] := hl
  obtain ⟨hx, hb, hr, hml, hown, hts, hlocks, hES, hbs⟩ := id E
  unfold fX9_times at hM
  obtain ⟨fs_, hk_, hM⟩ := e_bs hM
  refine lv_aload_n hx hb dX9_times_0 rfl (lv_at hl 0 rfl) ?_
  refine lv_iload_n hx hb dX9_times_1 rfl (lv_at hl 1 rfl) ?_
  obtain ⟨v1, hv, hM⟩ := e_bs hM
  obtain ⟨fs_, hk, -⟩ := e_bs hv
  refine e_callV (ci := 9) (As := [.int l1]) (rest := []) (n := 1) E J hk rfl (mX9_isCurve (l := l) (G := G) l0 l1 h _ hv) q_5_150 q_5_152 q_p_16 q_1_9 q_5_153 (by decide +kernel) rfl ⟨Nat.le_of_ble_eq_true rfl, Nat.le_of_ble_eq_true rfl⟩ (st0 := [.int l1, .ref (e_ad G l0)]) (st1 := [.int (e_b v1)]) rfl rfl hl.1 (Nat.le_of_ble_eq_true rfl) dX9_times_2 ⟨Nat.le_refl _, Nat.le_refl _⟩ (fun H locs J => ?_)
  refine lv_if_eq (tgt := 15) hx hb dX9_times_5 (by decide) (fun hc => ?_) (fun hc => ?_)
  · have hM := e_ip hc hM
    refine lv_ldc (v := -1000000001) hx hb hown (hts _ q_5_140) dX9_times_15 ?_
    obtain rfl := e_so hM
    exact e_iret E J dX9_times_17
  · have hM := e_in hc hM
    refine lv_iload_n hx hb dX9_times_8 rfl (lv_at hl 2 rfl) ?_
    obtain ⟨v2, hv, hM⟩ := e_bs hM
    refine e_callS (As := [.int l2]) (rest := []) (n := 1) E J (mX9_isPlace (l := l) (G := G) l2 h _ hv) q_6_11 q_6_12 q_1_9 q_6_13 (by decide +kernel) rfl ⟨Nat.le_of_ble_eq_true rfl, Nat.le_of_ble_eq_true rfl⟩ (st0 := [.int l2]) (st1 := [.int (e_b v2)]) rfl rfl hl.1 (Nat.le_of_ble_eq_true rfl) dX9_times_9 ⟨Nat.le_refl _, Nat.le_refl _⟩ (fun H locs J => ?_)
    refine lv_if_ne (tgt := 18) hx hb dX9_times_12 (by decide) (fun hc => ?_) (fun hc => ?_)
    · have hM := e_in hc hM
      refine lv_aload_n hx hb dX9_times_18 rfl (lv_at hl 0 rfl) ?_
      refine lv_iload_n hx hb dX9_times_19 rfl (lv_at hl 1 rfl) ?_
      refine lv_iload_n hx hb dX9_times_20 rfl (lv_at hl 2 rfl) ?_
      obtain ⟨h3, hv, hM⟩ := e_bs hM
      obtain ⟨fs_, hk, -⟩ := e_bs hv
      refine e_callV (ci := 9) (As := [.int l1, .int l2]) (rest := []) (n := 2) E J hk rfl (mX9_findPlace (l := l) (G := G) l0 l1 l2 h _ hv) q_6_14 q_6_16 q_p_27 q_1_9 q_6_17 (by decide +kernel) rfl ⟨Nat.le_of_ble_eq_true rfl, Nat.le_of_ble_eq_true rfl⟩ (st0 := [.int l2, .int l1, .ref (e_ad G l0)]) (st1 := []) rfl rfl hl.1 (Nat.le_of_ble_eq_true rfl) dX9_times_21 ⟨Nat.le_refl _, Nat.le_refl _⟩ (fun H locs J => ?_)
      refine lv_aload_n hx hb dX9_times_24 rfl (lv_at hl 0 rfl) ?_
      refine lv_iconst (v := nI 0) hx hb dX9_times_25 (by decide) ?_
      obtain ⟨v4, hv, hM⟩ := e_bs hM
      obtain ⟨fs_, hk, -⟩ := e_bs hv
      refine e_callV (ci := 9) (As := [.int (nI 0)]) (rest := []) (n := 1) E J hk rfl (mX9_timesOf (l := l) (G := G) l0 (nI 0) h3 _ hv) q_6_25 q_6_27 q_p_29 q_1_9 q_6_28 (by decide +kernel) rfl ⟨Nat.le_of_ble_eq_true rfl, Nat.le_of_ble_eq_true rfl⟩ (st0 := [.int (nI 0), .ref (e_ad G l0)]) (st1 := [.int v4]) rfl rfl hl.1 (Nat.le_of_ble_eq_true rfl) dX9_times_26 ⟨Nat.le_refl _, Nat.le_refl _⟩ (fun H locs J => ?_)
      obtain rfl := e_so hM
      exact e_iret E J dX9_times_29
    · have hM := e_ip hc hM
      refine lv_ldc (v := -1000000001) hx hb hown (hts _ q_5_140) dX9_times_15 ?_
      obtain rfl := e_so hM
      exact e_iret E J dX9_times_17
set_option maxRecDepth 100000 in
set_option maxHeartbeats 4000000 in
theorem mX9_shape {l : Launch} {G : e_G} (l0 : Nat) (l1 : Int32) (l2 : Int32) (l3 : Int32) (h : e_H) (res : (Int64 × e_H)) (hM : fX9_shape l0 l1 l2 l3 h = some res) : Met l yX9_shape (e_W yX9_shape cX9_shape 4 (some FieldType.long)) (e_rm 6 142) (e_Pc G h [.ref (e_ad G l0), .int l1, .int l2, .int l3]) (e_Q G res.2 (some (.long res.1))) 0 0 (e_A G) := by
  refine Met.ofW (cc := cX9_shape) (maxL := 4) (ret := (some FieldType.long)) (by decide) rfl ?_
  intro p e s m args below meth c s₁ B hml hv
  obtain ⟨rfl, hS, hP⟩ := hv
  have E := e_enter (own := RX9) (ret := (some FieldType.long)) B hml rfl hS hP
  have J : e_J G s h s.heap [] := ⟨hP, va_S.rf⟩
  have hl := lv_entry ([.ref (e_ad G l0), .int l1, .int l2, .int l3]) (n := 4) (Nat.le_of_ble_eq_true rfl)
  rw [lg_entry_eq]
  generalize (lg_sl ([.ref (e_ad G l0), .int l1, .int l2, .int l3]) ++ List.replicate (4 - (lg_sl ([.ref (e_ad G l0), .int l1, .int l2, .int l3])).length) Slot.unset).toArray = ls at hl ⊢
  have hl : lv_has ls 4 [(0, .ref (e_ad G l0)), (1, .int l1), (2, .int l2), (3, .int l3)] := hl
  obtain ⟨hx, hb, hr, hml, hown, hts, hlocks, hES, hbs⟩ := id E
  unfold fX9_shape at hM
  obtain ⟨fs_, hk_, hM⟩ := e_bs hM
  refine lv_aload_n hx hb dX9_shape_0 rfl (lv_at hl 0 rfl) ?_
  refine lv_iload_n hx hb dX9_shape_1 rfl (lv_at hl 1 rfl) ?_
  obtain ⟨v1, hv, hM⟩ := e_bs hM
  obtain ⟨fs_, hk, -⟩ := e_bs hv
  refine e_callV (ci := 9) (As := [.int l1]) (rest := []) (n := 1) E J hk rfl (mX9_isCurve (l := l) (G := G) l0 l1 h _ hv) q_5_150 q_5_152 q_p_16 q_1_9 q_5_153 (by decide +kernel) rfl ⟨Nat.le_of_ble_eq_true rfl, Nat.le_of_ble_eq_true rfl⟩ (st0 := [.int l1, .ref (e_ad G l0)]) (st1 := [.int (e_b v1)]) rfl rfl hl.1 (Nat.le_of_ble_eq_true rfl) dX9_shape_2 ⟨Nat.le_refl _, Nat.le_refl _⟩ (fun H locs J => ?_)
  refine lv_if_eq (tgt := 36) hx hb dX9_shape_5 (by decide) (fun hc => ?_) (fun hc => ?_)
  · have hM := e_ip hc hM
    refine lv_ldc2 (v := -1000000001) hx hb hown (hts _ q_6_3) dX9_shape_36 ?_
    obtain rfl := e_so hM
    exact e_lret E J dX9_shape_39
  · have hM := e_in hc hM
    refine lv_iload_n hx hb dX9_shape_8 rfl (lv_at hl 2 rfl) ?_
    obtain ⟨v2, hv, hM⟩ := e_bs hM
    refine e_callS (As := [.int l2]) (rest := []) (n := 1) E J (mX9_isPlace (l := l) (G := G) l2 h _ hv) q_6_11 q_6_12 q_1_9 q_6_13 (by decide +kernel) rfl ⟨Nat.le_of_ble_eq_true rfl, Nat.le_of_ble_eq_true rfl⟩ (st0 := [.int l2]) (st1 := [.int (e_b v2)]) rfl rfl hl.1 (Nat.le_of_ble_eq_true rfl) dX9_shape_9 ⟨Nat.le_refl _, Nat.le_refl _⟩ (fun H locs J => ?_)
    refine lv_if_eq (tgt := 36) hx hb dX9_shape_12 (by decide) (fun hc => ?_) (fun hc => ?_)
    · have hM := e_ip hc hM
      refine lv_ldc2 (v := -1000000001) hx hb hown (hts _ q_6_3) dX9_shape_36 ?_
      obtain rfl := e_so hM
      exact e_lret E J dX9_shape_39
    · have hM := e_in hc hM
      refine lv_iload_n hx hb dX9_shape_15 rfl (lv_at hl 3 rfl) ?_
      refine lv_if_lt (tgt := 36) hx hb dX9_shape_16 (by decide) (fun hc => ?_) (fun hc => ?_)
      · have hM := e_ip hc hM
        refine lv_ldc2 (v := -1000000001) hx hb hown (hts _ q_6_3) dX9_shape_36 ?_
        obtain rfl := e_so hM
        exact e_lret E J dX9_shape_39
      · have hM := e_in hc hM
        refine lv_iload_n hx hb dX9_shape_19 rfl (lv_at hl 3 rfl) ?_
        refine lv_bipush (v := nI 10) hx hb dX9_shape_20 (by decide) ?_
        refine lv_idiv hx hb dX9_shape_22 (by decide) ?_
        refine lv_bipush (v := nI 16) hx hb dX9_shape_23 (by decide) ?_
        refine lv_icmp_gt (tgt := 36) hx hb dX9_shape_25 (by decide) (fun hc => ?_) (fun hc => ?_)
        · have hM := e_ip hc hM
          refine lv_ldc2 (v := -1000000001) hx hb hown (hts _ q_6_3) dX9_shape_36 ?_
          obtain rfl := e_so hM
          exact e_lret E J dX9_shape_39
        · have hM := e_in hc hM
          refine lv_iload_n hx hb dX9_shape_28 rfl (lv_at hl 3 rfl) ?_
          refine lv_bipush (v := nI 10) hx hb dX9_shape_29 (by decide) ?_
          refine lv_irem hx hb dX9_shape_31 (by decide) ?_
          refine lv_iconst (v := nI 4) hx hb dX9_shape_32 (by decide) ?_
          refine lv_icmp_le (tgt := 40) hx hb dX9_shape_33 (by decide) (fun hc => ?_) (fun hc => ?_)
          · have hM := e_ip hc hM
            refine lv_aload_n hx hb dX9_shape_40 rfl (lv_at hl 0 rfl) ?_
            refine lv_iload_n hx hb dX9_shape_41 rfl (lv_at hl 1 rfl) ?_
            refine lv_iload_n hx hb dX9_shape_42 rfl (lv_at hl 2 rfl) ?_
            obtain ⟨h3, hv, hM⟩ := e_bs hM
            obtain ⟨fs_, hk, -⟩ := e_bs hv
            refine e_callV (ci := 9) (As := [.int l1, .int l2]) (rest := []) (n := 2) E J hk rfl (mX9_findPlace (l := l) (G := G) l0 l1 l2 h _ hv) q_6_14 q_6_16 q_p_27 q_1_9 q_6_17 (by decide +kernel) rfl ⟨Nat.le_of_ble_eq_true rfl, Nat.le_of_ble_eq_true rfl⟩ (st0 := [.int l2, .int l1, .ref (e_ad G l0)]) (st1 := []) rfl rfl hl.1 (Nat.le_of_ble_eq_true rfl) dX9_shape_43 ⟨Nat.le_refl _, Nat.le_refl _⟩ (fun H locs J => ?_)
            refine lv_aload_n hx hb dX9_shape_46 rfl (lv_at hl 0 rfl) ?_
            obtain ⟨v4, hv, hM⟩ := e_bs hM
            refine e_getR (C := RX9) (T := TX9) (N := 40) E J hv rfl inX9 (by decide) q_5_15 dX9_shape_47 ?_
            rcases v4 with _ | a5
            · have hM := e_on0 hM
              refine W.eq (g2 := F0 m 50 ls [.null]) rfl ?_
              refine lv_iconst (v := nI 5) hx hb dX9_shape_50 (by decide) ?_
              refine lv_iload_n hx hb dX9_shape_51 rfl (lv_at hl 3 rfl) ?_
              refine lv_bipush (v := nI 10) hx hb dX9_shape_52 (by decide) ?_
              refine lv_idiv hx hb dX9_shape_54 (by decide) ?_
              refine lv_imul hx hb dX9_shape_55 ?_
              refine lv_iload_n hx hb dX9_shape_56 rfl (lv_at hl 3 rfl) ?_
              refine lv_bipush (v := nI 10) hx hb dX9_shape_57 (by decide) ?_
              refine lv_irem hx hb dX9_shape_59 (by decide) ?_
              refine lv_iadd hx hb dX9_shape_60 ?_
              exact e_no hM
            · have hM := e_on1 hM
              refine W.eq (g2 := F0 m 50 ls [.ref (e_ad G a5)]) rfl ?_
              refine lv_iconst (v := nI 5) hx hb dX9_shape_50 (by decide) ?_
              refine lv_iload_n hx hb dX9_shape_51 rfl (lv_at hl 3 rfl) ?_
              refine lv_bipush (v := nI 10) hx hb dX9_shape_52 (by decide) ?_
              refine lv_idiv hx hb dX9_shape_54 (by decide) ?_
              refine lv_imul hx hb dX9_shape_55 ?_
              refine lv_iload_n hx hb dX9_shape_56 rfl (lv_at hl 3 rfl) ?_
              refine lv_bipush (v := nI 10) hx hb dX9_shape_57 (by decide) ?_
              refine lv_irem hx hb dX9_shape_59 (by decide) ?_
              refine lv_iadd hx hb dX9_shape_60 ?_
              obtain ⟨v7, hv, hM⟩ := e_bs hM
              refine e_lald E J hv dX9_shape_61 ?_
              obtain rfl := e_so hM
              exact e_lret E J dX9_shape_62
          · have hM := e_in hc hM
            refine lv_ldc2 (v := -1000000001) hx hb hown (hts _ q_6_3) dX9_shape_36 ?_
            obtain rfl := e_so hM
            exact e_lret E J dX9_shape_39
set_option maxRecDepth 100000 in
set_option maxHeartbeats 4000000 in
theorem mX9_isSome {l : Launch} {G : e_G} (l0 : Int32) (h : e_H) (res : Bool) (hM : fX9_isSome l0 = some res) : Met l yX9_isSome (e_W yX9_isSome cX9_isSome 1 (some FieldType.boolean)) (e_rm 1 22) (e_Pc G h [.int l0]) (e_Q G h (some (.int (e_b res)))) 0 0 (e_A G) := by
  refine Met.ofW (cc := cX9_isSome) (maxL := 1) (ret := (some FieldType.boolean)) (by decide) rfl ?_
  intro p e s m args below meth c s₁ B hml hv
  obtain ⟨rfl, hS, hP⟩ := hv
  have E := e_enter (own := RX9) (ret := (some FieldType.boolean)) B hml rfl hS hP
  have J : e_J G s h s.heap [] := ⟨hP, va_S.rf⟩
  have hl := lv_entry ([.int l0]) (n := 1) (Nat.le_of_ble_eq_true rfl)
  rw [lg_entry_eq]
  generalize (lg_sl ([.int l0]) ++ List.replicate (1 - (lg_sl ([.int l0])).length) Slot.unset).toArray = ls at hl ⊢
  have hl : lv_has ls 1 [(0, .int l0)] := hl
  obtain ⟨hx, hb, hr, hml, hown, hts, hlocks, hES, hbs⟩ := id E
  unfold fX9_isSome at hM
  refine lv_iload_n hx hb dX9_isSome_0 rfl (lv_at hl 0 rfl) ?_
  refine lv_iconst (v := nI 1) hx hb dX9_isSome_1 (by decide) ?_
  refine lv_bipush (v := nI 16) hx hb dX9_isSome_2 (by decide) ?_
  obtain ⟨v1, hv, hM⟩ := e_bs hM
  refine e_callS (As := [.int l0, .int (nI 1), .int (nI 16)]) (rest := []) (n := 3) E J (mX9_in (l := l) (G := G) l0 (nI 1) (nI 16) h _ hv) q_5_137 q_5_138 q_1_9 q_5_139 (by decide +kernel) rfl ⟨Nat.le_of_ble_eq_true rfl, Nat.le_of_ble_eq_true rfl⟩ (st0 := [.int (nI 16), .int (nI 1), .int l0]) (st1 := [.int (e_b v1)]) rfl rfl hl.1 (Nat.le_of_ble_eq_true rfl) dX9_isSome_4 ⟨Nat.le_refl _, Nat.le_refl _⟩ (fun H locs J => ?_)
  obtain rfl := e_so hM
  exact e_zret E J (v1) rfl dX9_isSome_7
set_option maxRecDepth 100000 in
set_option maxHeartbeats 4000000 in
theorem mX9_lowestOf {l : Launch} {G : e_G} (l0 : Nat) (l1 : Int32) (l2 : Int32) (l3 : Int32) (h : e_H) (res : Int64) (hM : fX9_lowestOf l0 l1 l2 l3 h = some res) : Met l yX9_lowestOf (e_W yX9_lowestOf cX9_lowestOf 4 (some FieldType.long)) (e_rm 0 0) (e_Pc G h [.ref (e_ad G l0), .int l1, .int l2, .int l3]) (e_Q G h (some (.long res))) 0 0 (e_A G) := by
  refine Met.ofW (cc := cX9_lowestOf) (maxL := 4) (ret := (some FieldType.long)) (by decide) rfl ?_
  intro p e s m args below meth c s₁ B hml hv
  obtain ⟨rfl, hS, hP⟩ := hv
  have E := e_enter (own := RX9) (ret := (some FieldType.long)) B hml rfl hS hP
  have J : e_J G s h s.heap [] := ⟨hP, va_S.rf⟩
  have hl := lv_entry ([.ref (e_ad G l0), .int l1, .int l2, .int l3]) (n := 4) (Nat.le_of_ble_eq_true rfl)
  rw [lg_entry_eq]
  generalize (lg_sl ([.ref (e_ad G l0), .int l1, .int l2, .int l3]) ++ List.replicate (4 - (lg_sl ([.ref (e_ad G l0), .int l1, .int l2, .int l3])).length) Slot.unset).toArray = ls at hl ⊢
  have hl : lv_has ls 4 [(0, .ref (e_ad G l0)), (1, .int l1), (2, .int l2), (3, .int l3)] := hl
  obtain ⟨hx, hb, hr, hml, hown, hts, hlocks, hES, hbs⟩ := id E
  unfold fX9_lowestOf at hM
  obtain ⟨fs_, hk_, hM⟩ := e_bs hM
  refine lv_iload_n hx hb dX9_lowestOf_0 rfl (lv_at hl 3 rfl) ?_
  refine lv_iload_n hx hb dX9_lowestOf_1 rfl (lv_at hl 2 rfl) ?_
  refine lv_icmp_le (tgt := 9) hx hb dX9_lowestOf_2 (by decide) (fun hc => ?_) (fun hc => ?_)
  · have hM := e_ip hc hM
    refine lv_aload_n hx hb dX9_lowestOf_9 rfl (lv_at hl 0 rfl) ?_
    obtain ⟨v1, hv, hM⟩ := e_bs hM
    refine e_getR (C := RX9) (T := TX9) (N := 40) E J hv rfl inX9 (by decide) q_5_15 dX9_lowestOf_10 ?_
    rcases v1 with _ | a2
    · have hM := e_on0 hM
      refine W.eq (g2 := F0 m 13 ls [.null]) rfl ?_
      refine lv_bipush (v := nI 85) hx hb dX9_lowestOf_13 (by decide) ?_
      refine lv_iload_n hx hb dX9_lowestOf_15 rfl (lv_at hl 1 rfl) ?_
      refine lv_imul hx hb dX9_lowestOf_16 ?_
      refine lv_iconst (v := nI 5) hx hb dX9_lowestOf_17 (by decide) ?_
      refine lv_iload_n hx hb dX9_lowestOf_18 rfl (lv_at hl 2 rfl) ?_
      refine lv_iload_n hx hb dX9_lowestOf_19 rfl (lv_at hl 3 rfl) ?_
      refine lv_isub hx hb dX9_lowestOf_20 ?_
      refine lv_imul hx hb dX9_lowestOf_21 ?_
      refine lv_iadd hx hb dX9_lowestOf_22 ?_
      refine lv_iload_n hx hb dX9_lowestOf_23 rfl (lv_at hl 3 rfl) ?_
      refine lv_iadd hx hb dX9_lowestOf_24 ?_
      exact e_no hM
    · have hM := e_on1 hM
      refine W.eq (g2 := F0 m 13 ls [.ref (e_ad G a2)]) rfl ?_
      refine lv_bipush (v := nI 85) hx hb dX9_lowestOf_13 (by decide) ?_
      refine lv_iload_n hx hb dX9_lowestOf_15 rfl (lv_at hl 1 rfl) ?_
      refine lv_imul hx hb dX9_lowestOf_16 ?_
      refine lv_iconst (v := nI 5) hx hb dX9_lowestOf_17 (by decide) ?_
      refine lv_iload_n hx hb dX9_lowestOf_18 rfl (lv_at hl 2 rfl) ?_
      refine lv_iload_n hx hb dX9_lowestOf_19 rfl (lv_at hl 3 rfl) ?_
      refine lv_isub hx hb dX9_lowestOf_20 ?_
      refine lv_imul hx hb dX9_lowestOf_21 ?_
      refine lv_iadd hx hb dX9_lowestOf_22 ?_
      refine lv_iload_n hx hb dX9_lowestOf_23 rfl (lv_at hl 3 rfl) ?_
      refine lv_iadd hx hb dX9_lowestOf_24 ?_
      obtain ⟨v4, hv, hM⟩ := e_bs hM
      refine e_lald E J hv dX9_lowestOf_25 ?_
      obtain rfl := e_so hM
      exact e_lret E J dX9_lowestOf_26
  · have hM := e_in hc hM
    refine lv_lconst (v := 0) hx hb dX9_lowestOf_5 (by decide) ?_
    refine lv_goto (tgt := 26) hx hb dX9_lowestOf_6 (by decide) ?_
    obtain rfl := e_so hM
    exact e_lret E J dX9_lowestOf_26
set_option maxRecDepth 100000 in
set_option maxHeartbeats 4000000 in
theorem mX9_lowest {l : Launch} {G : e_G} (l0 : Nat) (l1 : Int32) (l2 : Int32) (l3 : Int32) (h : e_H) (res : (Int64 × e_H)) (hM : fX9_lowest l0 l1 l2 l3 h = some res) : Met l yX9_lowest (e_W yX9_lowest cX9_lowest 5 (some FieldType.long)) (e_rm 6 142) (e_Pc G h [.ref (e_ad G l0), .int l1, .int l2, .int l3]) (e_Q G res.2 (some (.long res.1))) 0 0 (e_A G) := by
  refine Met.ofW (cc := cX9_lowest) (maxL := 5) (ret := (some FieldType.long)) (by decide) rfl ?_
  intro p e s m args below meth c s₁ B hml hv
  obtain ⟨rfl, hS, hP⟩ := hv
  have E := e_enter (own := RX9) (ret := (some FieldType.long)) B hml rfl hS hP
  have J : e_J G s h s.heap [] := ⟨hP, va_S.rf⟩
  have hl := lv_entry ([.ref (e_ad G l0), .int l1, .int l2, .int l3]) (n := 5) (Nat.le_of_ble_eq_true rfl)
  rw [lg_entry_eq]
  generalize (lg_sl ([.ref (e_ad G l0), .int l1, .int l2, .int l3]) ++ List.replicate (5 - (lg_sl ([.ref (e_ad G l0), .int l1, .int l2, .int l3])).length) Slot.unset).toArray = ls at hl ⊢
  have hl : lv_has ls 5 [(0, .ref (e_ad G l0)), (1, .int l1), (2, .int l2), (3, .int l3)] := hl
  obtain ⟨hx, hb, hr, hml, hown, hts, hlocks, hES, hbs⟩ := id E
  unfold fX9_lowest at hM
  obtain ⟨fs_, hk_, hM⟩ := e_bs hM
  refine lv_aload_n hx hb dX9_lowest_0 rfl (lv_at hl 0 rfl) ?_
  refine lv_iload_n hx hb dX9_lowest_1 rfl (lv_at hl 1 rfl) ?_
  obtain ⟨v1, hv, hM⟩ := e_bs hM
  obtain ⟨fs_, hk, -⟩ := e_bs hv
  refine e_callV (ci := 9) (As := [.int l1]) (rest := []) (n := 1) E J hk rfl (mX9_isCurve (l := l) (G := G) l0 l1 h _ hv) q_5_150 q_5_152 q_p_16 q_1_9 q_5_153 (by decide +kernel) rfl ⟨Nat.le_of_ble_eq_true rfl, Nat.le_of_ble_eq_true rfl⟩ (st0 := [.int l1, .ref (e_ad G l0)]) (st1 := [.int (e_b v1)]) rfl rfl hl.1 (Nat.le_of_ble_eq_true rfl) dX9_lowest_2 ⟨Nat.le_refl _, Nat.le_refl _⟩ (fun H locs J => ?_)
  refine lv_if_eq (tgt := 24) hx hb dX9_lowest_5 (by decide) (fun hc => ?_) (fun hc => ?_)
  · have hM := e_ip hc hM
    refine lv_ldc2 (v := -1000000001) hx hb hown (hts _ q_6_3) dX9_lowest_24 ?_
    obtain rfl := e_so hM
    exact e_lret E J dX9_lowest_27
  · have hM := e_in hc hM
    refine lv_iload_n hx hb dX9_lowest_8 rfl (lv_at hl 2 rfl) ?_
    obtain ⟨v2, hv, hM⟩ := e_bs hM
    refine e_callS (As := [.int l2]) (rest := []) (n := 1) E J (mX9_isPlace (l := l) (G := G) l2 h _ hv) q_6_11 q_6_12 q_1_9 q_6_13 (by decide +kernel) rfl ⟨Nat.le_of_ble_eq_true rfl, Nat.le_of_ble_eq_true rfl⟩ (st0 := [.int l2]) (st1 := [.int (e_b v2)]) rfl rfl hl.1 (Nat.le_of_ble_eq_true rfl) dX9_lowest_9 ⟨Nat.le_refl _, Nat.le_refl _⟩ (fun H locs J => ?_)
    refine lv_if_eq (tgt := 24) hx hb dX9_lowest_12 (by decide) (fun hc => ?_) (fun hc => ?_)
    · have hM := e_ip hc hM
      refine lv_ldc2 (v := -1000000001) hx hb hown (hts _ q_6_3) dX9_lowest_24 ?_
      obtain rfl := e_so hM
      exact e_lret E J dX9_lowest_27
    · have hM := e_in hc hM
      refine lv_iload_n hx hb dX9_lowest_15 rfl (lv_at hl 3 rfl) ?_
      refine lv_iconst (v := nI 0) hx hb dX9_lowest_16 (by decide) ?_
      refine lv_iconst (v := nI 4) hx hb dX9_lowest_17 (by decide) ?_
      obtain ⟨v3, hv, hM⟩ := e_bs hM
      refine e_callS (As := [.int l3, .int (nI 0), .int (nI 4)]) (rest := []) (n := 3) E J (mX9_in (l := l) (G := G) l3 (nI 0) (nI 4) h _ hv) q_5_137 q_5_138 q_1_9 q_5_139 (by decide +kernel) rfl ⟨Nat.le_of_ble_eq_true rfl, Nat.le_of_ble_eq_true rfl⟩ (st0 := [.int (nI 4), .int (nI 0), .int l3]) (st1 := [.int (e_b v3)]) rfl rfl hl.1 (Nat.le_of_ble_eq_true rfl) dX9_lowest_18 ⟨Nat.le_refl _, Nat.le_refl _⟩ (fun H locs J => ?_)
      refine lv_if_ne (tgt := 28) hx hb dX9_lowest_21 (by decide) (fun hc => ?_) (fun hc => ?_)
      · have hM := e_in hc hM
        refine lv_aload_n hx hb dX9_lowest_28 rfl (lv_at hl 0 rfl) ?_
        refine lv_iload_n hx hb dX9_lowest_29 rfl (lv_at hl 1 rfl) ?_
        refine lv_iload_n hx hb dX9_lowest_30 rfl (lv_at hl 2 rfl) ?_
        obtain ⟨h4, hv, hM⟩ := e_bs hM
        obtain ⟨fs_, hk, -⟩ := e_bs hv
        refine e_callV (ci := 9) (As := [.int l1, .int l2]) (rest := []) (n := 2) E J hk rfl (mX9_findPlace (l := l) (G := G) l0 l1 l2 h _ hv) q_6_14 q_6_16 q_p_27 q_1_9 q_6_17 (by decide +kernel) rfl ⟨Nat.le_of_ble_eq_true rfl, Nat.le_of_ble_eq_true rfl⟩ (st0 := [.int l2, .int l1, .ref (e_ad G l0)]) (st1 := []) rfl rfl hl.1 (Nat.le_of_ble_eq_true rfl) dX9_lowest_31 ⟨Nat.le_refl _, Nat.le_refl _⟩ (fun H locs J => ?_)
        refine lv_aload_n hx hb dX9_lowest_34 rfl (lv_at hl 0 rfl) ?_
        refine lv_iconst (v := nI 0) hx hb dX9_lowest_35 (by decide) ?_
        obtain ⟨v5, hv, hM⟩ := e_bs hM
        obtain ⟨fs_, hk, -⟩ := e_bs hv
        refine e_callV (ci := 9) (As := [.int (nI 0)]) (rest := []) (n := 1) E J hk rfl (mX9_timesOf (l := l) (G := G) l0 (nI 0) h4 _ hv) q_6_25 q_6_27 q_p_29 q_1_9 q_6_28 (by decide +kernel) rfl ⟨Nat.le_of_ble_eq_true rfl, Nat.le_of_ble_eq_true rfl⟩ (st0 := [.int (nI 0), .ref (e_ad G l0)]) (st1 := [.int v5]) rfl rfl hl.1 (Nat.le_of_ble_eq_true rfl) dX9_lowest_36 ⟨Nat.le_refl _, Nat.le_refl _⟩ (fun H locs J => ?_)
        refine lv_istore (lv' := [(4, .int v5), (0, .ref (e_ad G l0)), (1, .int l1), (2, .int l2), (3, .int l3)]) hx hb dX9_lowest_39 hl (by decide) rfl (fun ls hl => ?_)
        refine lv_iload hx hb dX9_lowest_41 (lv_at hl 0 rfl) ?_
        obtain ⟨v6, hv, hM⟩ := e_bs hM
        refine e_callS (As := [.int v5]) (rest := []) (n := 1) E J (mX9_isSome (l := l) (G := G) v5 h4 _ hv) q_6_37 q_6_38 q_1_9 q_6_39 (by decide +kernel) rfl ⟨Nat.le_of_ble_eq_true rfl, Nat.le_of_ble_eq_true rfl⟩ (st0 := [.int v5]) (st1 := [.int (e_b v6)]) rfl rfl hl.1 (Nat.le_of_ble_eq_true rfl) dX9_lowest_43 ⟨Nat.le_refl _, Nat.le_refl _⟩ (fun H locs J => ?_)
        refine lv_if_eq (tgt := 60) hx hb dX9_lowest_46 (by decide) (fun hc => ?_) (fun hc => ?_)
        · have hM := e_ip hc hM
          refine lv_ldc2 (v := -1000000002) hx hb hown (hts _ q_6_44) dX9_lowest_60 ?_
          obtain rfl := e_so hM
          exact e_lret E J dX9_lowest_63
        · have hM := e_in hc hM
          refine lv_aload_n hx hb dX9_lowest_49 rfl (lv_at hl 1 rfl) ?_
          refine lv_iconst (v := nI 0) hx hb dX9_lowest_50 (by decide) ?_
          refine lv_iload hx hb dX9_lowest_51 (lv_at hl 0 rfl) ?_
          refine lv_iload_n hx hb dX9_lowest_53 rfl (lv_at hl 4 rfl) ?_
          obtain ⟨v7, hv, hM⟩ := e_bs hM
          obtain ⟨fs_, hk, -⟩ := e_bs hv
          refine e_callV (ci := 9) (As := [.int (nI 0), .int v5, .int l3]) (rest := []) (n := 3) E J hk rfl (mX9_lowestOf (l := l) (G := G) l0 (nI 0) v5 l3 h4 _ hv) q_6_40 q_6_42 q_p_30 q_1_9 q_6_43 (by decide +kernel) rfl ⟨Nat.le_of_ble_eq_true rfl, Nat.le_of_ble_eq_true rfl⟩ (st0 := [.int l3, .int v5, .int (nI 0), .ref (e_ad G l0)]) (st1 := [.long v7]) rfl rfl hl.1 (Nat.le_of_ble_eq_true rfl) dX9_lowest_54 ⟨Nat.le_refl _, Nat.le_refl _⟩ (fun H locs J => ?_)
          refine lv_goto (tgt := 63) hx hb dX9_lowest_57 (by decide) ?_
          obtain rfl := e_so hM
          exact e_lret E J dX9_lowest_63
      · have hM := e_ip hc hM
        refine lv_ldc2 (v := -1000000001) hx hb hown (hts _ q_6_3) dX9_lowest_24 ?_
        obtain rfl := e_so hM
        exact e_lret E J dX9_lowest_27
