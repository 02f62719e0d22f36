-- 11: java/util/Arrays.fill([II)V
def qc_11 : List (Nat × qa_Op) := [(0, qa_p (qp_c (.int 0) 1)), (1, qa_p (qp_ist 2 2)), (2, qa_p (qp_ald 0 3)), (3, qa_q (qh_len 0 4)), (4, qa_p (qp_ist 3 5)), (5, qa_p (qp_ild 2 6)), (6, qa_p (qp_ild 3 7)), (7, qa_p (qp_icge 20 10)), (10, qa_p (qp_ald 0 11)), (11, qa_p (qp_ild 2 12)), (12, qa_p (qp_ild 1 13)), (13, qa_q (qh_iast 14)), (14, qa_p (qp_inc 2 1 17)), (17, qa_p (qp_goto 5)), (20, qa_r qg_v)]
theorem qx_11 : qa_all (qa_SW qm qm_nw "java/util/Arrays" "fill" prog_30_method_103_code 4 none) qc_11 :=
  ⟨qa_SW.p (qs_iconst (k := 0) (by decide +kernel) (by decide +kernel)),
  qa_SW.p (qs_istore_n (q := 2) (by decide +kernel) rfl (by decide +kernel)),
  qa_SW.p (qs_aload_n (q := 0) (by decide +kernel) rfl),
  qa_SW.q (qs_len (fun _ => rfl) (by decide +kernel)),
  qa_SW.p (qs_istore_n (q := 3) (by decide +kernel) rfl (by decide +kernel)),
  qa_SW.p (qs_iload_n (q := 2) (by decide +kernel) rfl),
  qa_SW.p (qs_iload_n (q := 3) (by decide +kernel) rfl),
  qa_SW.p (qs_icge (off := 13) (by decide +kernel) (by decide +kernel)),
  qa_SW.p (qs_aload_n (q := 0) (by decide +kernel) rfl),
  qa_SW.p (qs_iload_n (q := 2) (by decide +kernel) rfl),
  qa_SW.p (qs_iload_n (q := 1) (by decide +kernel) rfl),
  qa_SW.q (qs_iast (by decide +kernel)),
  qa_SW.p (qs_iinc (k := 1) (by decide +kernel) (by decide +kernel) (by decide +kernel)),
  qa_SW.p (qs_goto (off := (-12)) (by decide +kernel) (by decide +kernel)),
  qs_return (by decide +kernel), trivial⟩
-- 24: SistersBoard$Word.withLetter(JI)J
def qc_24 : List (Nat × qa_Op) := [(0, qa_p (qp_lld 0 1)), (1, qa_p (qp_c (.long 32) 4)), (4, qa_p (qp_lmul 5)), (5, qa_p (qp_ild 2 6)), (6, qa_p (qp_c (.int 97) 8)), (8, qa_p (qp_isub 9)), (9, qa_p (qp_c (.int 1) 10)), (10, qa_p (qp_iadd 11)), (11, qa_p (qp_i2l 12)), (12, qa_p (qp_ladd 13)), (13, qa_r qg_l)]
theorem qx_24 : qa_all (qa_SW qm qm_nw "SistersBoard$Word" "withLetter" prog_12_method_4_code 3 (some .long)) qc_24 :=
  ⟨qa_SW.p (qs_lload_n (q := 0) (by decide +kernel) rfl),
  qa_SW.p (qs_ldc2 (i := 110) (qa_in3 43 rfl rfl) (by decide +kernel)),
  qa_SW.p (qs_lmul (by decide +kernel)),
  qa_SW.p (qs_iload_n (q := 2) (by decide +kernel) rfl),
  qa_SW.p (qs_bipush (k := 97) (by decide +kernel) (by decide +kernel)),
  qa_SW.p (qs_isub (by decide +kernel)),
  qa_SW.p (qs_iconst (k := 1) (by decide +kernel) (by decide +kernel)),
  qa_SW.p (qs_iadd (by decide +kernel)),
  qa_SW.p (qs_i2l (by decide +kernel)),
  qa_SW.p (qs_ladd (by decide +kernel)),
  qs_lreturn (by decide +kernel), trivial⟩
-- 25: SistersBoard$Word.spelt(J)LSistersBoard$Word;
def qc_25 : List (Nat × qa_Op) := [(0, qa_p (qp_c (.int 0) 1)), (1, qa_p (qp_ist 2 2)), (2, qa_p (qp_ild 2 3)), (3, qa_p (qp_c (.ref 24) 6)), (6, qa_p (qp_sn qw_ta 7)), (7, qa_p (qp_icge 35 10)), (10, qa_p (qp_c (.ref 24) 13)), (13, qa_p (qp_ild 2 14)), (14, qa_p (qp_sa qw_ta 15)), (15, qa_p (qp_sf qw_tl 18)), (18, qa_p (qp_lld 0 19)), (19, qa_p (qp_lcmp 20)), (20, qa_p (qp_ifne 29 23)), (23, qa_p (qp_c (.ref 24) 26)), (26, qa_p (qp_ild 2 27)), (27, qa_p (qp_sa qw_ta 28)), (28, qa_r qg_a), (29, qa_p (qp_inc 2 1 32)), (32, qa_p (qp_goto 2)), (35, qa_p (qp_c .null 36)), (36, qa_r qg_a)]
theorem qx_25 : qa_all (qa_SW qm qm_nw "SistersBoard$Word" "spelt" prog_12_method_5_code 3 (some (.object "SistersBoard$Word"))) qc_25 :=
  ⟨qa_SW.p (qs_iconst (k := 0) (by decide +kernel) (by decide +kernel)),
  qa_SW.p (qs_istore_n (q := 2) (by decide +kernel) rfl (by decide +kernel)),
  qa_SW.p (qs_iload_n (q := 2) (by decide +kernel) rfl),
  qa_SW.ps (qs_gets (C := "SistersBoard$Word") (n := "ALL") (d := "[LSistersBoard$Word;") (i := 112) (by decide +kernel) (qa_in3 47 rfl rfl) (by decide +kernel)),
  qa_SW.ps (qs_sn qw_ta_ok (by decide +kernel)),
  qa_SW.p (qs_icge (off := 28) (by decide +kernel) (by decide +kernel)),
  qa_SW.ps (qs_gets (C := "SistersBoard$Word") (n := "ALL") (d := "[LSistersBoard$Word;") (i := 112) (by decide +kernel) (qa_in3 47 rfl rfl) (by decide +kernel)),
  qa_SW.p (qs_iload_n (q := 2) (by decide +kernel) rfl),
  qa_SW.ps (qs_saa qw_ta_ok (by decide +kernel)),
  qa_SW.ps (qs_sf (i := 106) qw_tl_ok (qa_in9 22 rfl rfl) (by decide +kernel)),
  qa_SW.p (qs_lload_n (q := 0) (by decide +kernel) rfl),
  qa_SW.p (qs_lcmp (by decide +kernel)),
  qa_SW.p (qs_ifne (off := 9) (by decide +kernel) (by decide +kernel)),
  qa_SW.ps (qs_gets (C := "SistersBoard$Word") (n := "ALL") (d := "[LSistersBoard$Word;") (i := 112) (by decide +kernel) (qa_in3 47 rfl rfl) (by decide +kernel)),
  qa_SW.p (qs_iload_n (q := 2) (by decide +kernel) rfl),
  qa_SW.ps (qs_saa qw_ta_ok (by decide +kernel)),
  qs_areturn (by decide +kernel),
  qa_SW.p (qs_iinc (k := 1) (by decide +kernel) (by decide +kernel) (by decide +kernel)),
  qa_SW.p (qs_goto (off := (-30)) (by decide +kernel) (by decide +kernel)),
  qa_SW.p (qs_null (by decide +kernel)),
  qs_areturn (by decide +kernel), trivial⟩
-- 66: java/lang/Math.min(II)I
def qc_66 : List (Nat × qa_Op) := [(0, qa_p (qp_ild 0 1)), (1, qa_p (qp_ild 1 2)), (2, qa_p (qp_icgt 9 5)), (5, qa_p (qp_ild 0 6)), (6, qa_p (qp_goto 10)), (9, qa_p (qp_ild 1 10)), (10, qa_r (qg_i .int))]
theorem qx_66 : qa_all (qa_SW qm qm_nw "java/lang/Math" "min" prog_21_method_69_code 2 (some .int)) qc_66 :=
  ⟨qa_SW.p (qs_iload_n (q := 0) (by decide +kernel) rfl),
  qa_SW.p (qs_iload_n (q := 1) (by decide +kernel) rfl),
  qa_SW.p (qs_icgt (off := 7) (by decide +kernel) (by decide +kernel)),
  qa_SW.p (qs_iload_n (q := 0) (by decide +kernel) rfl),
  qa_SW.p (qs_goto (off := 4) (by decide +kernel) (by decide +kernel)),
  qa_SW.p (qs_iload_n (q := 1) (by decide +kernel) rfl),
  qs_ireturn (by decide +kernel), trivial⟩
-- 67: java/lang/Integer.bitCount(I)I
def qc_67_0 : List (Nat × qa_Op) := [(0, qa_p (qp_ild 0 1)), (1, qa_p (qp_ild 0 2)), (2, qa_p (qp_c (.int 1) 3)), (3, qa_p (qp_iushr 4)), (4, qa_p (qp_c (.int 1431655765) 7)), (7, qa_p (qp_iand 8)), (8, qa_p (qp_isub 9)), (9, qa_p (qp_ist 0 10)), (10, qa_p (qp_ild 0 11)), (11, qa_p (qp_c (.int 858993459) 14)), (14, qa_p (qp_iand 15)), (15, qa_p (qp_ild 0 16)), (16, qa_p (qp_c (.int 2) 17)), (17, qa_p (qp_iushr 18)), (18, qa_p (qp_c (.int 858993459) 21)), (21, qa_p (qp_iand 22)), (22, qa_p (qp_iadd 23)), (23, qa_p (qp_ist 0 24)), (24, qa_p (qp_ild 0 25)), (25, qa_p (qp_ild 0 26)), (26, qa_p (qp_c (.int 4) 27)), (27, qa_p (qp_iushr 28)), (28, qa_p (qp_iadd 29)), (29, qa_p (qp_c (.int 252645135) 32)), (32, qa_p (qp_iand 33)), (33, qa_p (qp_ist 0 34)), (34, qa_p (qp_ild 0 35)), (35, qa_p (qp_ild 0 36)), (36, qa_p (qp_c (.int 8) 38)), (38, qa_p (qp_iushr 39)), (39, qa_p (qp_iadd 40)), (40, qa_p (qp_ist 0 41)), (41, qa_p (qp_ild 0 42)), (42, qa_p (qp_ild 0 43)), (43, qa_p (qp_c (.int 16) 45)), (45, qa_p (qp_iushr 46)), (46, qa_p (qp_iadd 47)), (47, qa_p (qp_ist 0 48)), (48, qa_p (qp_ild 0 49)), (49, qa_p (qp_c (.int 63) 51))]
theorem qx_67_0 : qa_all (qa_SW qm qm_nw "java/lang/Integer" "bitCount" prog_20_method_49_code 1 (some .int)) qc_67_0 :=
  ⟨qa_SW.p (qs_iload_n (q := 0) (by decide +kernel) rfl),
  qa_SW.p (qs_iload_n (q := 0) (by decide +kernel) rfl),
  qa_SW.p (qs_iconst (k := 1) (by decide +kernel) (by decide +kernel)),
  qa_SW.p (qs_iushr (by decide +kernel)),
  qa_SW.p (qs_ldcw (i := 265) (qa_in3 234 rfl rfl) (by decide +kernel)),
  qa_SW.p (qs_iand (by decide +kernel)),
  qa_SW.p (qs_isub (by decide +kernel)),
  qa_SW.p (qs_istore_n (q := 0) (by decide +kernel) rfl (by decide +kernel)),
  qa_SW.p (qs_iload_n (q := 0) (by decide +kernel) rfl),
  qa_SW.p (qs_ldcw (i := 266) (qa_in3 235 rfl rfl) (by decide +kernel)),
  qa_SW.p (qs_iand (by decide +kernel)),
  qa_SW.p (qs_iload_n (q := 0) (by decide +kernel) rfl),
  qa_SW.p (qs_iconst (k := 2) (by decide +kernel) (by decide +kernel)),
  qa_SW.p (qs_iushr (by decide +kernel)),
  qa_SW.p (qs_ldcw (i := 266) (qa_in3 235 rfl rfl) (by decide +kernel)),
  qa_SW.p (qs_iand (by decide +kernel)),
  qa_SW.p (qs_iadd (by decide +kernel)),
  qa_SW.p (qs_istore_n (q := 0) (by decide +kernel) rfl (by decide +kernel)),
  qa_SW.p (qs_iload_n (q := 0) (by decide +kernel) rfl),
  qa_SW.p (qs_iload_n (q := 0) (by decide +kernel) rfl),
  qa_SW.p (qs_iconst (k := 4) (by decide +kernel) (by decide +kernel)),
  qa_SW.p (qs_iushr (by decide +kernel)),
  qa_SW.p (qs_iadd (by decide +kernel)),
  qa_SW.p (qs_ldcw (i := 267) (qa_in3 236 rfl rfl) (by decide +kernel)),
  qa_SW.p (qs_iand (by decide +kernel)),
  qa_SW.p (qs_istore_n (q := 0) (by decide +kernel) rfl (by decide +kernel)),
  qa_SW.p (qs_iload_n (q := 0) (by decide +kernel) rfl),
  qa_SW.p (qs_iload_n (q := 0) (by decide +kernel) rfl),
  qa_SW.p (qs_bipush (k := 8) (by decide +kernel) (by decide +kernel)),
  qa_SW.p (qs_iushr (by decide +kernel)),
  qa_SW.p (qs_iadd (by decide +kernel)),
  qa_SW.p (qs_istore_n (q := 0) (by decide +kernel) rfl (by decide +kernel)),
  qa_SW.p (qs_iload_n (q := 0) (by decide +kernel) rfl),
  qa_SW.p (qs_iload_n (q := 0) (by decide +kernel) rfl),
  qa_SW.p (qs_bipush (k := 16) (by decide +kernel) (by decide +kernel)),
  qa_SW.p (qs_iushr (by decide +kernel)),
  qa_SW.p (qs_iadd (by decide +kernel)),
  qa_SW.p (qs_istore_n (q := 0) (by decide +kernel) rfl (by decide +kernel)),
  qa_SW.p (qs_iload_n (q := 0) (by decide +kernel) rfl),
  qa_SW.p (qs_bipush (k := 63) (by decide +kernel) (by decide +kernel)), trivial⟩
def qc_67_1 : List (Nat × qa_Op) := [(51, qa_p (qp_iand 52)), (52, qa_r (qg_i .int))]
theorem qx_67_1 : qa_all (qa_SW qm qm_nw "java/lang/Integer" "bitCount" prog_20_method_49_code 1 (some .int)) qc_67_1 :=
  ⟨qa_SW.p (qs_iand (by decide +kernel)),
  qs_ireturn (by decide +kernel), trivial⟩
def qc_67 : List (Nat × qa_Op) := qc_67_0 ++ (qc_67_1)
theorem qx_67 : qa_all (qa_SW qm qm_nw "java/lang/Integer" "bitCount" prog_20_method_49_code 1 (some .int)) qc_67 := qa_all_app qx_67_0 (qx_67_1)
-- 104: java/util/Arrays.fill([JJ)V
def qc_104 : List (Nat × qa_Op) := [(0, qa_p (qp_c (.int 0) 1)), (1, qa_p (qp_ist 3 2)), (2, qa_p (qp_ald 0 3)), (3, qa_q (qh_len 1 4)), (4, qa_p (qp_ist 4 6)), (6, qa_p (qp_ild 3 7)), (7, qa_p (qp_ild 4 9)), (9, qa_p (qp_icge 22 12)), (12, qa_p (qp_ald 0 13)), (13, qa_p (qp_ild 3 14)), (14, qa_p (qp_lld 1 15)), (15, qa_q (qh_last 16)), (16, qa_p (qp_inc 3 1 19)), (19, qa_p (qp_goto 6)), (22, qa_r qg_v)]
theorem qx_104 : qa_all (qa_SW qm qm_nw "java/util/Arrays" "fill" prog_30_method_101_code 5 none) qc_104 :=
  ⟨qa_SW.p (qs_iconst (k := 0) (by decide +kernel) (by decide +kernel)),
  qa_SW.p (qs_istore_n (q := 3) (by decide +kernel) rfl (by decide +kernel)),
  qa_SW.p (qs_aload_n (q := 0) (by decide +kernel) rfl),
  qa_SW.q (qs_len (fun _ => rfl) (by decide +kernel)),
  qa_SW.p (qs_istore (by decide +kernel) (by decide +kernel)),
  qa_SW.p (qs_iload_n (q := 3) (by decide +kernel) rfl),
  qa_SW.p (qs_iload (by decide +kernel)),
  qa_SW.p (qs_icge (off := 13) (by decide +kernel) (by decide +kernel)),
  qa_SW.p (qs_aload_n (q := 0) (by decide +kernel) rfl),
  qa_SW.p (qs_iload_n (q := 3) (by decide +kernel) rfl),
  qa_SW.p (qs_lload_n (q := 1) (by decide +kernel) rfl),
  qa_SW.q (qs_last (by decide +kernel)),
  qa_SW.p (qs_iinc (k := 1) (by decide +kernel) (by decide +kernel) (by decide +kernel)),
  qa_SW.p (qs_goto (off := (-13)) (by decide +kernel) (by decide +kernel)),
  qs_return (by decide +kernel), trivial⟩
-- 111: java/lang/Math.max(II)I
def qc_111 : List (Nat × qa_Op) := [(0, qa_p (qp_ild 0 1)), (1, qa_p (qp_ild 1 2)), (2, qa_p (qp_iclt 9 5)), (5, qa_p (qp_ild 0 6)), (6, qa_p (qp_goto 10)), (9, qa_p (qp_ild 1 10)), (10, qa_r (qg_i .int))]
theorem qx_111 : qa_all (qa_SW qm qm_nw "java/lang/Math" "max" prog_21_method_65_code 2 (some .int)) qc_111 :=
  ⟨qa_SW.p (qs_iload_n (q := 0) (by decide +kernel) rfl),
  qa_SW.p (qs_iload_n (q := 1) (by decide +kernel) rfl),
  qa_SW.p (qs_iclt (off := 7) (by decide +kernel) (by decide +kernel)),
  qa_SW.p (qs_iload_n (q := 0) (by decide +kernel) rfl),
  qa_SW.p (qs_goto (off := 4) (by decide +kernel) (by decide +kernel)),
  qa_SW.p (qs_iload_n (q := 1) (by decide +kernel) rfl),
  qs_ireturn (by decide +kernel), trivial⟩
-- 120: java/lang/String.length()I
def qc_120 : List (Nat × qa_Op) := [(0, qa_p (qp_ald 0 1)), (1, qa_p (qp_sf qw_tv 4)), (4, qa_p (qp_sn qw_tb 5)), (5, qa_p (qp_ald 0 6)), (6, qh_call qv_s 121 1 9), (9, qa_p (qp_ishr 10)), (10, qa_r (qg_i .int))]
theorem qx_120 : qa_all (qa_SW qm qm_nw "java/lang/String" "length" prog_23_method_54_code 1 (some .int)) qc_120 :=
  ⟨qa_SW.p (qs_aload_n (q := 0) (by decide +kernel) rfl),
  qa_SW.ps (qs_sf (i := 9) qw_tv_ok (qa_in9 23 rfl rfl) (by decide +kernel)),
  qa_SW.ps (qs_sn qw_tb_ok (by decide +kernel)),
  qa_SW.p (qs_aload_n (q := 0) (by decide +kernel) rfl),
  qs_call (qz_121 (ix := 335) (qa_in4 224 rfl rfl) (by decide +kernel)),
  qa_SW.p (qs_ishr (by decide +kernel)),
  qs_ireturn (by decide +kernel), trivial⟩
-- 121: java/lang/String.coder()B
def qc_121 : List (Nat × qa_Op) := [(0, qa_p (qp_c (.int 1) 3)), (3, qa_p (qp_ifeq 13 6)), (6, qa_p (qp_ald 0 7)), (7, qa_p (qp_sf qw_tc 10)), (10, qa_p (qp_goto 14)), (13, qa_p (qp_c (.int 1) 14)), (14, qa_r (qg_i .byte))]
theorem qx_121 : qa_all (qa_SW qm qm_nw "java/lang/String" "coder" prog_23_method_152_code 1 (some .byte)) qc_121 :=
  ⟨qa_SW.ps (qs_gets (C := "java/lang/String") (n := "COMPACT_STRINGS") (d := "Z") (i := 38) (by decide +kernel) (qa_in4 228 rfl rfl) (by decide +kernel)),
  qa_SW.p (qs_ifeq (off := 10) (by decide +kernel) (by decide +kernel)),
  qa_SW.p (qs_aload_n (q := 0) (by decide +kernel) rfl),
  qa_SW.ps (qs_sf (i := 15) qw_tc_ok (qa_in9 24 rfl rfl) (by decide +kernel)),
  qa_SW.p (qs_goto (off := 4) (by decide +kernel) (by decide +kernel)),
  qa_SW.p (qs_iconst (k := 1) (by decide +kernel) (by decide +kernel)),
  qs_ireturn (by decide +kernel), trivial⟩
-- 122: java/lang/String.charAt(I)C
def qc_122 : List (Nat × qa_Op) := [(0, qa_p (qp_ald 0 1)), (1, qh_call qv_s 123 1 4), (4, qa_p (qp_ifeq 16 7)), (7, qa_p (qp_ald 0 8)), (8, qa_p (qp_sf qw_tv 11)), (11, qa_p (qp_ild 1 12)), (12, qh_call qv_n 124 2 15), (15, qa_r (qg_i .char)), (16, qa_p (qp_ald 0 17)), (17, qa_p (qp_sf qw_tv 20)), (20, qa_p (qp_ild 1 21)), (24, qa_r (qg_i .char))]
theorem qx_122 : qa_all (qa_SW qm qm_nw "java/lang/String" "charAt" prog_23_method_56_code 2 (some .char)) qc_122 :=
  ⟨qa_SW.p (qs_aload_n (q := 0) (by decide +kernel) rfl),
  qs_call (qz_123 (ix := 492) (qa_in4 234 rfl rfl) (by decide +kernel)),
  qa_SW.p (qs_ifeq (off := 12) (by decide +kernel) (by decide +kernel)),
  qa_SW.p (qs_aload_n (q := 0) (by decide +kernel) rfl),
  qa_SW.ps (qs_sf (i := 9) qw_tv_ok (qa_in9 23 rfl rfl) (by decide +kernel)),
  qa_SW.p (qs_iload_n (q := 1) (by decide +kernel) rfl),
  qs_call (qz_124 (ix := 495) (qa_in4 238 rfl rfl) (by decide +kernel)),
  qs_ireturn (by decide +kernel),
  qa_SW.p (qs_aload_n (q := 0) (by decide +kernel) rfl),
  qa_SW.ps (qs_sf (i := 9) qw_tv_ok (qa_in9 23 rfl rfl) (by decide +kernel)),
  qa_SW.p (qs_iload_n (q := 1) (by decide +kernel) rfl),
  qs_ireturn (by decide +kernel), trivial⟩
-- 123: java/lang/String.isLatin1()Z
def qc_123 : List (Nat × qa_Op) := [(0, qa_p (qp_c (.int 1) 3)), (3, qa_p (qp_ifeq 17 6)), (6, qa_p (qp_ald 0 7)), (7, qa_p (qp_sf qw_tc 10)), (10, qa_p (qp_ifne 17 13)), (13, qa_p (qp_c (.int 1) 14)), (14, qa_p (qp_goto 18)), (17, qa_p (qp_c (.int 0) 18)), (18, qa_r (qg_i .boolean))]
theorem qx_123 : qa_all (qa_SW qm qm_nw "java/lang/String" "isLatin1" prog_23_method_154_code 1 (some .boolean)) qc_123 :=
  ⟨qa_SW.ps (qs_gets (C := "java/lang/String") (n := "COMPACT_STRINGS") (d := "Z") (i := 38) (by decide +kernel) (qa_in4 228 rfl rfl) (by decide +kernel)),
  qa_SW.p (qs_ifeq (off := 14) (by decide +kernel) (by decide +kernel)),
  qa_SW.p (qs_aload_n (q := 0) (by decide +kernel) rfl),
  qa_SW.ps (qs_sf (i := 15) qw_tc_ok (qa_in9 24 rfl rfl) (by decide +kernel)),
  qa_SW.p (qs_ifne (off := 7) (by decide +kernel) (by decide +kernel)),
  qa_SW.p (qs_iconst (k := 1) (by decide +kernel) (by decide +kernel)),
  qa_SW.p (qs_goto (off := 4) (by decide +kernel) (by decide +kernel)),
  qa_SW.p (qs_iconst (k := 0) (by decide +kernel) (by decide +kernel)),
  qs_ireturn (by decide +kernel), trivial⟩
-- 124: java/lang/StringLatin1.charAt([BI)C
def qc_124 : List (Nat × qa_Op) := [(0, qa_p (qp_ild 1 1)), (1, qa_p (qp_ald 0 2)), (2, qa_p (qp_sn qw_tb 3)), (3, qh_call qv_n 294 2 6), (6, qa_p (qp_ald 0 7)), (7, qa_p (qp_ild 1 8)), (8, qa_p (qp_sa qw_tb 9)), (9, qa_p (qp_c (.int 255) 12)), (12, qa_p (qp_iand 13)), (13, qa_p (qp_i2c 14)), (14, qa_r (qg_i .char))]
theorem qx_124 : qa_all (qa_SW qm qm_nw "java/lang/StringLatin1" "charAt" prog_24_method_2_code 2 (some .char)) qc_124 :=
  ⟨qa_SW.p (qs_iload_n (q := 1) (by decide +kernel) rfl),
  qa_SW.p (qs_aload_n (q := 0) (by decide +kernel) rfl),
  qa_SW.ps (qs_sn qw_tb_ok (by decide +kernel)),
  qs_call (qz_294 (ix := 9) (qa_in5 1 rfl rfl) (by decide +kernel)),
  qa_SW.p (qs_aload_n (q := 0) (by decide +kernel) rfl),
  qa_SW.p (qs_iload_n (q := 1) (by decide +kernel) rfl),
  qa_SW.ps (qs_sab qw_tb_ok (by decide +kernel)),
  qa_SW.p (qs_sipush (k := 255) (by decide +kernel) (by decide +kernel)),
  qa_SW.p (qs_iand (by decide +kernel)),
  qa_SW.p (qs_i2c (by decide +kernel)),
  qs_ireturn (by decide +kernel), trivial⟩
-- 294: java/lang/String.checkIndex(II)V
def qc_294 : List (Nat × qa_Op) := [(0, qa_p (qp_ild 0 1)), (1, qa_p (qp_ild 1 2)), (2, qa_q (qh_ck 9)), (9, qa_r qg_v)]
theorem qx_294 : qa_all (qa_SW qm qm_nw "java/lang/String" "checkIndex" prog_23_method_155_code 2 none) qc_294 :=
  ⟨qa_SW.p (qs_iload_n (q := 0) (by decide +kernel) rfl),
  qa_SW.p (qs_iload_n (q := 1) (by decide +kernel) rfl),
  qa_SW.q qs_ck,
  qs_return (by decide +kernel), trivial⟩
