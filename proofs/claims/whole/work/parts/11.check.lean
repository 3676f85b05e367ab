/-! Every row of the tables is right: by a check that is computed, and by what the words mean. -/
def px_L : List (Nat × Nat × Nat × Nat) := [(7, 61, 152, 1001), (13, 11, 201, 1000), (15, 9, 201, 1000), (20, 11, 211, 1002)]
def pk_fn (a b : Nat) : Bool := ((vwCl.getD a ("", fun _ => ("", "", "", false), 0)).2.1 b).2.2.2
def pk_bw (i pc : Nat) (ins : Instr) (a b : Nat) (v : Int32) (ts : List Nat) : Bool := match ins with
  | .iconst n => decide (Int32.ofInt n = v)
  | .bipush n => decide ((Int8.ofInt n).toInt32 = v)
  | .sipush n => decide ((Int16.ofInt n).toInt32 = v)
  | .iinc _ n => decide (Int32.ofInt n = v)
  | .ldc2_w idx => decide ((tb_ow i, idx, a) ∈ pl_L)
  | .goto off => decide ((pc : Int) + off = (a : Int))
  | .ifCond _ off => decide ((pc : Int) + off = (a : Int))
  | .if_icmp _ off => decide ((pc : Int) + off = (a : Int))
  | .if_acmp _ off => decide ((pc : Int) + off = (a : Int))
  | .tableswitch d lo hi offs => decide (lo = 0 ∧ hi + 1 = (ts.length : Int) ∧ (pc : Int) + d = (a : Int)) && (List.range ts.length).all (fun k => match offs[k]? with
    | some off => decide ((pc : Int) + off = ((ts.getD k 0 : Nat) : Int))
    | none => false)
  | .getfield idx => decide ((tb_ow i, idx, a, b) ∈ pf_L)
  | .putfield idx => decide ((tb_ow i, idx, a, b) ∈ pf_L) && (decide (pk_fn a b = false) || decide ((tb_nm i).name = "<init>" ∧ tb_cn a = (tb_nm i).cls))
  | .getstatic idx => decide ((tb_ow i, idx, a) ∈ ps_L)
  | .new idx => if 1000 ≤ a then decide ((i, pc, idx, a) ∈ px_L) else decide ((tb_ow i, idx, a) ∈ pn_L)
  | .newarray t => decide (t = .int ∨ t = .char ∨ t = .boolean ∨ t = .long)
  | .anewarray idx => decide ((tb_ow i, idx, a) ∈ pa_L)
  | .invokevirtual idx => decide ((tb_ow i, idx, a) ∈ pj_L ∧ a ∈ md_L ∧ a ∈ im_L ∧ a ∈ sv_L ∧ tb_cn (tb_rc a) = (tb_nm a).cls ∧ (parseMethodDescriptor (tb_nm a).desc).map (fun d => d.parameters.length + 1) = some b)
  | .invokestatic idx => if 1001 ≤ a then decide ((tb_ow i, idx, a) ∈ bi_L ∧ a ≤ 1003) else decide ((tb_ow i, idx, a) ∈ pj_L ∧ a ∈ md_L ∧ a ∈ sm_L ∧ (parseMethodDescriptor (tb_nm a).desc).map (fun d => d.parameters.length) = some b)
  | .invokespecial idx => if 1000 ≤ a then decide ((tb_ow i, idx, a) ∈ bi_L ∧ a = 1000) else decide ((tb_ow i, idx, a) ∈ pj_L ∧ a ∈ md_L ∧ a ∈ im_L ∧ tb_hh a = [] ∧ tb_re a = none ∧ (tb_nm a).name = "<init>" ∧ (parseMethodDescriptor (tb_nm a).desc).map (fun d => d.parameters.length + 1) = some b)
  | _ => true
def pk_b (i : Nat) (q : tb_Row) : Bool := decide (decode (tb_by i) q.1 = .ok (q.2.1, pk_len q.2.2.2.1 q.2.1)) && pk_bw i q.1 q.2.1 q.2.2.1 q.2.2.2.1 q.2.2.2.2.1 q.2.2.2.2.2
theorem ck_0_0 : tl_0_0.all (pk_b 0) = true := by decide +kernel
theorem ck_0_1 : tl_0_1.all (pk_b 0) = true := by decide +kernel
theorem ck_0 : tl_0.all (pk_b 0) = true := by
  unfold tl_0
  simp only [List.all_append, ck_0_0, ck_0_1, Bool.and_self]
theorem ck_1_0 : tl_1_0.all (pk_b 1) = true := by decide +kernel
theorem ck_1 : tl_1.all (pk_b 1) = true := ck_1_0
theorem ck_2_0 : tl_2_0.all (pk_b 2) = true := by decide +kernel
theorem ck_2 : tl_2.all (pk_b 2) = true := ck_2_0
theorem ck_3_0 : tl_3_0.all (pk_b 3) = true := by decide +kernel
theorem ck_3 : tl_3.all (pk_b 3) = true := ck_3_0
theorem ck_4_0 : tl_4_0.all (pk_b 4) = true := by decide +kernel
theorem ck_4 : tl_4.all (pk_b 4) = true := ck_4_0
theorem ck_5_0 : tl_5_0.all (pk_b 5) = true := by decide +kernel
theorem ck_5 : tl_5.all (pk_b 5) = true := ck_5_0
theorem ck_6_0 : tl_6_0.all (pk_b 6) = true := by decide +kernel
theorem ck_6 : tl_6.all (pk_b 6) = true := ck_6_0
theorem ck_7_0 : tl_7_0.all (pk_b 7) = true := by decide +kernel
theorem ck_7 : tl_7.all (pk_b 7) = true := ck_7_0
theorem ck_8_0 : tl_8_0.all (pk_b 8) = true := by decide +kernel
theorem ck_8 : tl_8.all (pk_b 8) = true := ck_8_0
theorem ck_9_0 : tl_9_0.all (pk_b 9) = true := by decide +kernel
theorem ck_9 : tl_9.all (pk_b 9) = true := ck_9_0
theorem ck_10_0 : tl_10_0.all (pk_b 10) = true := by decide +kernel
theorem ck_10 : tl_10.all (pk_b 10) = true := ck_10_0
theorem ck_11_0 : tl_11_0.all (pk_b 11) = true := by decide +kernel
theorem ck_11 : tl_11.all (pk_b 11) = true := ck_11_0
theorem ck_12_0 : tl_12_0.all (pk_b 12) = true := by decide +kernel
theorem ck_12 : tl_12.all (pk_b 12) = true := ck_12_0
theorem ck_13_0 : tl_13_0.all (pk_b 13) = true := by decide +kernel
theorem ck_13 : tl_13.all (pk_b 13) = true := ck_13_0
theorem ck_14_0 : tl_14_0.all (pk_b 14) = true := by decide +kernel
theorem ck_14 : tl_14.all (pk_b 14) = true := ck_14_0
theorem ck_15_0 : tl_15_0.all (pk_b 15) = true := by decide +kernel
theorem ck_15 : tl_15.all (pk_b 15) = true := ck_15_0
theorem ck_16_0 : tl_16_0.all (pk_b 16) = true := by decide +kernel
theorem ck_16 : tl_16.all (pk_b 16) = true := ck_16_0
theorem ck_17_0 : tl_17_0.all (pk_b 17) = true := by decide +kernel
theorem ck_17 : tl_17.all (pk_b 17) = true := ck_17_0
theorem ck_18_0 : tl_18_0.all (pk_b 18) = true := by decide +kernel
theorem ck_18 : tl_18.all (pk_b 18) = true := ck_18_0
theorem ck_19_0 : tl_19_0.all (pk_b 19) = true := by decide +kernel
theorem ck_19 : tl_19.all (pk_b 19) = true := ck_19_0
theorem ck_20_0 : tl_20_0.all (pk_b 20) = true := by decide +kernel
theorem ck_20 : tl_20.all (pk_b 20) = true := ck_20_0
theorem ck_21_0 : tl_21_0.all (pk_b 21) = true := by decide +kernel
theorem ck_21 : tl_21.all (pk_b 21) = true := ck_21_0
theorem ck_22_0 : tl_22_0.all (pk_b 22) = true := by decide +kernel
theorem ck_22 : tl_22.all (pk_b 22) = true := ck_22_0
theorem ck_23_0 : tl_23_0.all (pk_b 23) = true := by decide +kernel
theorem ck_23 : tl_23.all (pk_b 23) = true := ck_23_0
theorem ck_24_0 : tl_24_0.all (pk_b 24) = true := by decide +kernel
theorem ck_24 : tl_24.all (pk_b 24) = true := ck_24_0
theorem ck_25_0 : tl_25_0.all (pk_b 25) = true := by decide +kernel
theorem ck_25_1 : tl_25_1.all (pk_b 25) = true := by decide +kernel
theorem ck_25 : tl_25.all (pk_b 25) = true := by
  unfold tl_25
  simp only [List.all_append, ck_25_0, ck_25_1, Bool.and_self]
theorem ck_26_0 : tl_26_0.all (pk_b 26) = true := by decide +kernel
theorem ck_26 : tl_26.all (pk_b 26) = true := ck_26_0
theorem ck_27_0 : tl_27_0.all (pk_b 27) = true := by decide +kernel
theorem ck_27 : tl_27.all (pk_b 27) = true := ck_27_0
theorem ck_28_0 : tl_28_0.all (pk_b 28) = true := by decide +kernel
theorem ck_28 : tl_28.all (pk_b 28) = true := ck_28_0
theorem ck_29_0 : tl_29_0.all (pk_b 29) = true := by decide +kernel
theorem ck_29 : tl_29.all (pk_b 29) = true := ck_29_0
theorem ck_30_0 : tl_30_0.all (pk_b 30) = true := by decide +kernel
theorem ck_30 : tl_30.all (pk_b 30) = true := ck_30_0
theorem ck_31_0 : tl_31_0.all (pk_b 31) = true := by decide +kernel
theorem ck_31 : tl_31.all (pk_b 31) = true := ck_31_0
theorem ck_32_0 : tl_32_0.all (pk_b 32) = true := by decide +kernel
theorem ck_32 : tl_32.all (pk_b 32) = true := ck_32_0
theorem ck_33_0 : tl_33_0.all (pk_b 33) = true := by decide +kernel
theorem ck_33 : tl_33.all (pk_b 33) = true := ck_33_0
theorem ck_34_0 : tl_34_0.all (pk_b 34) = true := by decide +kernel
theorem ck_34 : tl_34.all (pk_b 34) = true := ck_34_0
theorem ck_35_0 : tl_35_0.all (pk_b 35) = true := by decide +kernel
theorem ck_35 : tl_35.all (pk_b 35) = true := ck_35_0
theorem ck_36_0 : tl_36_0.all (pk_b 36) = true := by decide +kernel
theorem ck_36 : tl_36.all (pk_b 36) = true := ck_36_0
theorem ck_37_0 : tl_37_0.all (pk_b 37) = true := by decide +kernel
theorem ck_37 : tl_37.all (pk_b 37) = true := ck_37_0
theorem ck_38_0 : tl_38_0.all (pk_b 38) = true := by decide +kernel
theorem ck_38 : tl_38.all (pk_b 38) = true := ck_38_0
theorem ck_39_0 : tl_39_0.all (pk_b 39) = true := by decide +kernel
theorem ck_39_1 : tl_39_1.all (pk_b 39) = true := by decide +kernel
theorem ck_39_2 : tl_39_2.all (pk_b 39) = true := by decide +kernel
theorem ck_39 : tl_39.all (pk_b 39) = true := by
  unfold tl_39
  simp only [List.all_append, ck_39_0, ck_39_1, ck_39_2, Bool.and_self]
theorem ck_40_0 : tl_40_0.all (pk_b 40) = true := by decide +kernel
theorem ck_40 : tl_40.all (pk_b 40) = true := ck_40_0
theorem ck_41_0 : tl_41_0.all (pk_b 41) = true := by decide +kernel
theorem ck_41_1 : tl_41_1.all (pk_b 41) = true := by decide +kernel
theorem ck_41 : tl_41.all (pk_b 41) = true := by
  unfold tl_41
  simp only [List.all_append, ck_41_0, ck_41_1, Bool.and_self]
theorem ck_42_0 : tl_42_0.all (pk_b 42) = true := by decide +kernel
theorem ck_42 : tl_42.all (pk_b 42) = true := ck_42_0
theorem ck_43_0 : tl_43_0.all (pk_b 43) = true := by decide +kernel
theorem ck_43 : tl_43.all (pk_b 43) = true := ck_43_0
theorem ck_44_0 : tl_44_0.all (pk_b 44) = true := by decide +kernel
theorem ck_44 : tl_44.all (pk_b 44) = true := ck_44_0
theorem ck_45_0 : tl_45_0.all (pk_b 45) = true := by decide +kernel
theorem ck_45_1 : tl_45_1.all (pk_b 45) = true := by decide +kernel
theorem ck_45 : tl_45.all (pk_b 45) = true := by
  unfold tl_45
  simp only [List.all_append, ck_45_0, ck_45_1, Bool.and_self]
theorem ck_46_0 : tl_46_0.all (pk_b 46) = true := by decide +kernel
theorem ck_46 : tl_46.all (pk_b 46) = true := ck_46_0
theorem ck_47_0 : tl_47_0.all (pk_b 47) = true := by decide +kernel
theorem ck_47 : tl_47.all (pk_b 47) = true := ck_47_0
theorem ck_48_0 : tl_48_0.all (pk_b 48) = true := by decide +kernel
theorem ck_48 : tl_48.all (pk_b 48) = true := ck_48_0
theorem ck_49_0 : tl_49_0.all (pk_b 49) = true := by decide +kernel
theorem ck_49 : tl_49.all (pk_b 49) = true := ck_49_0
theorem ck_50_0 : tl_50_0.all (pk_b 50) = true := by decide +kernel
theorem ck_50 : tl_50.all (pk_b 50) = true := ck_50_0
theorem ck_51_0 : tl_51_0.all (pk_b 51) = true := by decide +kernel
theorem ck_51 : tl_51.all (pk_b 51) = true := ck_51_0
theorem ck_52_0 : tl_52_0.all (pk_b 52) = true := by decide +kernel
theorem ck_52 : tl_52.all (pk_b 52) = true := ck_52_0
theorem ck_53_0 : tl_53_0.all (pk_b 53) = true := by decide +kernel
theorem ck_53 : tl_53.all (pk_b 53) = true := ck_53_0
theorem ck_54_0 : tl_54_0.all (pk_b 54) = true := by decide +kernel
theorem ck_54_1 : tl_54_1.all (pk_b 54) = true := by decide +kernel
theorem ck_54 : tl_54.all (pk_b 54) = true := by
  unfold tl_54
  simp only [List.all_append, ck_54_0, ck_54_1, Bool.and_self]
theorem ck_55_0 : tl_55_0.all (pk_b 55) = true := by decide +kernel
theorem ck_55_1 : tl_55_1.all (pk_b 55) = true := by decide +kernel
theorem ck_55 : tl_55.all (pk_b 55) = true := by
  unfold tl_55
  simp only [List.all_append, ck_55_0, ck_55_1, Bool.and_self]
theorem ck_56_0 : tl_56_0.all (pk_b 56) = true := by decide +kernel
theorem ck_56 : tl_56.all (pk_b 56) = true := ck_56_0
theorem ck_57_0 : tl_57_0.all (pk_b 57) = true := by decide +kernel
theorem ck_57_1 : tl_57_1.all (pk_b 57) = true := by decide +kernel
theorem ck_57 : tl_57.all (pk_b 57) = true := by
  unfold tl_57
  simp only [List.all_append, ck_57_0, ck_57_1, Bool.and_self]
theorem ck_58_0 : tl_58_0.all (pk_b 58) = true := by decide +kernel
theorem ck_58 : tl_58.all (pk_b 58) = true := ck_58_0
theorem ck_59_0 : tl_59_0.all (pk_b 59) = true := by decide +kernel
theorem ck_59 : tl_59.all (pk_b 59) = true := ck_59_0
theorem ck_60_0 : tl_60_0.all (pk_b 60) = true := by decide +kernel
theorem ck_60_1 : tl_60_1.all (pk_b 60) = true := by decide +kernel
theorem ck_60_2 : tl_60_2.all (pk_b 60) = true := by decide +kernel
theorem ck_60_3 : tl_60_3.all (pk_b 60) = true := by decide +kernel
theorem ck_60 : tl_60.all (pk_b 60) = true := by
  unfold tl_60
  simp only [List.all_append, ck_60_0, ck_60_1, ck_60_2, ck_60_3, Bool.and_self]
theorem ck_61_0 : tl_61_0.all (pk_b 61) = true := by decide +kernel
theorem ck_61_1 : tl_61_1.all (pk_b 61) = true := by decide +kernel
theorem ck_61 : tl_61.all (pk_b 61) = true := by
  unfold tl_61
  simp only [List.all_append, ck_61_0, ck_61_1, Bool.and_self]
theorem ck_62_0 : tl_62_0.all (pk_b 62) = true := by decide +kernel
theorem ck_62_1 : tl_62_1.all (pk_b 62) = true := by decide +kernel
theorem ck_62_2 : tl_62_2.all (pk_b 62) = true := by decide +kernel
theorem ck_62 : tl_62.all (pk_b 62) = true := by
  unfold tl_62
  simp only [List.all_append, ck_62_0, ck_62_1, ck_62_2, Bool.and_self]
theorem ck_63_0 : tl_63_0.all (pk_b 63) = true := by decide +kernel
theorem ck_63 : tl_63.all (pk_b 63) = true := ck_63_0
theorem ck_64_0 : tl_64_0.all (pk_b 64) = true := by decide +kernel
theorem ck_64 : tl_64.all (pk_b 64) = true := ck_64_0
theorem ck_65_0 : tl_65_0.all (pk_b 65) = true := by decide +kernel
theorem ck_65 : tl_65.all (pk_b 65) = true := ck_65_0
theorem ck_66_0 : tl_66_0.all (pk_b 66) = true := by decide +kernel
theorem ck_66 : tl_66.all (pk_b 66) = true := ck_66_0
theorem ck_67_0 : tl_67_0.all (pk_b 67) = true := by decide +kernel
theorem ck_67_1 : tl_67_1.all (pk_b 67) = true := by decide +kernel
theorem ck_67 : tl_67.all (pk_b 67) = true := by
  unfold tl_67
  simp only [List.all_append, ck_67_0, ck_67_1, Bool.and_self]
theorem ck_68_0 : tl_68_0.all (pk_b 68) = true := by decide +kernel
theorem ck_68 : tl_68.all (pk_b 68) = true := ck_68_0
theorem ck_69_0 : tl_69_0.all (pk_b 69) = true := by decide +kernel
theorem ck_69 : tl_69.all (pk_b 69) = true := ck_69_0
theorem ck_70_0 : tl_70_0.all (pk_b 70) = true := by decide +kernel
theorem ck_70_1 : tl_70_1.all (pk_b 70) = true := by decide +kernel
theorem ck_70 : tl_70.all (pk_b 70) = true := by
  unfold tl_70
  simp only [List.all_append, ck_70_0, ck_70_1, Bool.and_self]
theorem ck_71_0 : tl_71_0.all (pk_b 71) = true := by decide +kernel
theorem ck_71 : tl_71.all (pk_b 71) = true := ck_71_0
theorem ck_72_0 : tl_72_0.all (pk_b 72) = true := by decide +kernel
theorem ck_72 : tl_72.all (pk_b 72) = true := ck_72_0
theorem ck_73_0 : tl_73_0.all (pk_b 73) = true := by decide +kernel
theorem ck_73 : tl_73.all (pk_b 73) = true := ck_73_0
theorem ck_74_0 : tl_74_0.all (pk_b 74) = true := by decide +kernel
theorem ck_74 : tl_74.all (pk_b 74) = true := ck_74_0
theorem ck_75_0 : tl_75_0.all (pk_b 75) = true := by decide +kernel
theorem ck_75 : tl_75.all (pk_b 75) = true := ck_75_0
theorem ck_76_0 : tl_76_0.all (pk_b 76) = true := by decide +kernel
theorem ck_76 : tl_76.all (pk_b 76) = true := ck_76_0
theorem ck_77_0 : tl_77_0.all (pk_b 77) = true := by decide +kernel
theorem ck_77 : tl_77.all (pk_b 77) = true := ck_77_0
theorem ck_78_0 : tl_78_0.all (pk_b 78) = true := by decide +kernel
theorem ck_78 : tl_78.all (pk_b 78) = true := ck_78_0
theorem ck_79_0 : tl_79_0.all (pk_b 79) = true := by decide +kernel
theorem ck_79 : tl_79.all (pk_b 79) = true := ck_79_0
theorem ck_80_0 : tl_80_0.all (pk_b 80) = true := by decide +kernel
theorem ck_80 : tl_80.all (pk_b 80) = true := ck_80_0
theorem ck_81_0 : tl_81_0.all (pk_b 81) = true := by decide +kernel
theorem ck_81 : tl_81.all (pk_b 81) = true := ck_81_0
theorem ck_82_0 : tl_82_0.all (pk_b 82) = true := by decide +kernel
theorem ck_82 : tl_82.all (pk_b 82) = true := ck_82_0
theorem ck_83_0 : tl_83_0.all (pk_b 83) = true := by decide +kernel
theorem ck_83 : tl_83.all (pk_b 83) = true := ck_83_0
theorem ck_84_0 : tl_84_0.all (pk_b 84) = true := by decide +kernel
theorem ck_84 : tl_84.all (pk_b 84) = true := ck_84_0
theorem ck_85_0 : tl_85_0.all (pk_b 85) = true := by decide +kernel
theorem ck_85 : tl_85.all (pk_b 85) = true := ck_85_0
theorem ck_86_0 : tl_86_0.all (pk_b 86) = true := by decide +kernel
theorem ck_86 : tl_86.all (pk_b 86) = true := ck_86_0
theorem ck_87_0 : tl_87_0.all (pk_b 87) = true := by decide +kernel
theorem ck_87 : tl_87.all (pk_b 87) = true := ck_87_0
theorem ck_88_0 : tl_88_0.all (pk_b 88) = true := by decide +kernel
theorem ck_88 : tl_88.all (pk_b 88) = true := ck_88_0
theorem ck_89_0 : tl_89_0.all (pk_b 89) = true := by decide +kernel
theorem ck_89 : tl_89.all (pk_b 89) = true := ck_89_0
theorem ck_90_0 : tl_90_0.all (pk_b 90) = true := by decide +kernel
theorem ck_90 : tl_90.all (pk_b 90) = true := ck_90_0
theorem ck_91_0 : tl_91_0.all (pk_b 91) = true := by decide +kernel
theorem ck_91 : tl_91.all (pk_b 91) = true := ck_91_0
theorem ck_92_0 : tl_92_0.all (pk_b 92) = true := by decide +kernel
theorem ck_92 : tl_92.all (pk_b 92) = true := ck_92_0
theorem ck_93_0 : tl_93_0.all (pk_b 93) = true := by decide +kernel
theorem ck_93 : tl_93.all (pk_b 93) = true := ck_93_0
theorem ck_94_0 : tl_94_0.all (pk_b 94) = true := by decide +kernel
theorem ck_94 : tl_94.all (pk_b 94) = true := ck_94_0
theorem ck_95_0 : tl_95_0.all (pk_b 95) = true := by decide +kernel
theorem ck_95 : tl_95.all (pk_b 95) = true := ck_95_0
theorem ck_96_0 : tl_96_0.all (pk_b 96) = true := by decide +kernel
theorem ck_96 : tl_96.all (pk_b 96) = true := ck_96_0
theorem ck_97_0 : tl_97_0.all (pk_b 97) = true := by decide +kernel
theorem ck_97 : tl_97.all (pk_b 97) = true := ck_97_0
theorem ck_98_0 : tl_98_0.all (pk_b 98) = true := by decide +kernel
theorem ck_98 : tl_98.all (pk_b 98) = true := ck_98_0
theorem ck_99_0 : tl_99_0.all (pk_b 99) = true := by decide +kernel
theorem ck_99 : tl_99.all (pk_b 99) = true := ck_99_0
theorem ck_100_0 : tl_100_0.all (pk_b 100) = true := by decide +kernel
theorem ck_100 : tl_100.all (pk_b 100) = true := ck_100_0
theorem ck_101_0 : tl_101_0.all (pk_b 101) = true := by decide +kernel
theorem ck_101 : tl_101.all (pk_b 101) = true := ck_101_0
theorem ck_102_0 : tl_102_0.all (pk_b 102) = true := by decide +kernel
theorem ck_102 : tl_102.all (pk_b 102) = true := ck_102_0
theorem ck_103_0 : tl_103_0.all (pk_b 103) = true := by decide +kernel
theorem ck_103 : tl_103.all (pk_b 103) = true := ck_103_0
theorem ck_104_0 : tl_104_0.all (pk_b 104) = true := by decide +kernel
theorem ck_104 : tl_104.all (pk_b 104) = true := ck_104_0
theorem ck_105_0 : tl_105_0.all (pk_b 105) = true := by decide +kernel
theorem ck_105 : tl_105.all (pk_b 105) = true := ck_105_0
theorem ck_106_0 : tl_106_0.all (pk_b 106) = true := by decide +kernel
theorem ck_106 : tl_106.all (pk_b 106) = true := ck_106_0
theorem ck_107_0 : tl_107_0.all (pk_b 107) = true := by decide +kernel
theorem ck_107 : tl_107.all (pk_b 107) = true := ck_107_0
theorem ck_108_0 : tl_108_0.all (pk_b 108) = true := by decide +kernel
theorem ck_108 : tl_108.all (pk_b 108) = true := ck_108_0
theorem ck_109_0 : tl_109_0.all (pk_b 109) = true := by decide +kernel
theorem ck_109 : tl_109.all (pk_b 109) = true := ck_109_0
theorem ck_110_0 : tl_110_0.all (pk_b 110) = true := by decide +kernel
theorem ck_110 : tl_110.all (pk_b 110) = true := ck_110_0
theorem ck_111_0 : tl_111_0.all (pk_b 111) = true := by decide +kernel
theorem ck_111 : tl_111.all (pk_b 111) = true := ck_111_0
theorem ck_112_0 : tl_112_0.all (pk_b 112) = true := by decide +kernel
theorem ck_112 : tl_112.all (pk_b 112) = true := ck_112_0
theorem ck_113_0 : tl_113_0.all (pk_b 113) = true := by decide +kernel
theorem ck_113_1 : tl_113_1.all (pk_b 113) = true := by decide +kernel
theorem ck_113_2 : tl_113_2.all (pk_b 113) = true := by decide +kernel
theorem ck_113_3 : tl_113_3.all (pk_b 113) = true := by decide +kernel
theorem ck_113_4 : tl_113_4.all (pk_b 113) = true := by decide +kernel
theorem ck_113_5 : tl_113_5.all (pk_b 113) = true := by decide +kernel
theorem ck_113_6 : tl_113_6.all (pk_b 113) = true := by decide +kernel
theorem ck_113_7 : tl_113_7.all (pk_b 113) = true := by decide +kernel
theorem ck_113_8 : tl_113_8.all (pk_b 113) = true := by decide +kernel
theorem ck_113_9 : tl_113_9.all (pk_b 113) = true := by decide +kernel
theorem ck_113 : tl_113.all (pk_b 113) = true := by
  unfold tl_113
  simp only [List.all_append, ck_113_0, ck_113_1, ck_113_2, ck_113_3, ck_113_4, ck_113_5, ck_113_6, ck_113_7, ck_113_8, ck_113_9, Bool.and_self]
theorem ck_all : ∀ i, i < 114 → (tb_li i).all (pk_b i) = true := by
  intro i hi
  match i, hi with
  | 0, _ => exact ck_0
  | 1, _ => exact ck_1
  | 2, _ => exact ck_2
  | 3, _ => exact ck_3
  | 4, _ => exact ck_4
  | 5, _ => exact ck_5
  | 6, _ => exact ck_6
  | 7, _ => exact ck_7
  | 8, _ => exact ck_8
  | 9, _ => exact ck_9
  | 10, _ => exact ck_10
  | 11, _ => exact ck_11
  | 12, _ => exact ck_12
  | 13, _ => exact ck_13
  | 14, _ => exact ck_14
  | 15, _ => exact ck_15
  | 16, _ => exact ck_16
  | 17, _ => exact ck_17
  | 18, _ => exact ck_18
  | 19, _ => exact ck_19
  | 20, _ => exact ck_20
  | 21, _ => exact ck_21
  | 22, _ => exact ck_22
  | 23, _ => exact ck_23
  | 24, _ => exact ck_24
  | 25, _ => exact ck_25
  | 26, _ => exact ck_26
  | 27, _ => exact ck_27
  | 28, _ => exact ck_28
  | 29, _ => exact ck_29
  | 30, _ => exact ck_30
  | 31, _ => exact ck_31
  | 32, _ => exact ck_32
  | 33, _ => exact ck_33
  | 34, _ => exact ck_34
  | 35, _ => exact ck_35
  | 36, _ => exact ck_36
  | 37, _ => exact ck_37
  | 38, _ => exact ck_38
  | 39, _ => exact ck_39
  | 40, _ => exact ck_40
  | 41, _ => exact ck_41
  | 42, _ => exact ck_42
  | 43, _ => exact ck_43
  | 44, _ => exact ck_44
  | 45, _ => exact ck_45
  | 46, _ => exact ck_46
  | 47, _ => exact ck_47
  | 48, _ => exact ck_48
  | 49, _ => exact ck_49
  | 50, _ => exact ck_50
  | 51, _ => exact ck_51
  | 52, _ => exact ck_52
  | 53, _ => exact ck_53
  | 54, _ => exact ck_54
  | 55, _ => exact ck_55
  | 56, _ => exact ck_56
  | 57, _ => exact ck_57
  | 58, _ => exact ck_58
  | 59, _ => exact ck_59
  | 60, _ => exact ck_60
  | 61, _ => exact ck_61
  | 62, _ => exact ck_62
  | 63, _ => exact ck_63
  | 64, _ => exact ck_64
  | 65, _ => exact ck_65
  | 66, _ => exact ck_66
  | 67, _ => exact ck_67
  | 68, _ => exact ck_68
  | 69, _ => exact ck_69
  | 70, _ => exact ck_70
  | 71, _ => exact ck_71
  | 72, _ => exact ck_72
  | 73, _ => exact ck_73
  | 74, _ => exact ck_74
  | 75, _ => exact ck_75
  | 76, _ => exact ck_76
  | 77, _ => exact ck_77
  | 78, _ => exact ck_78
  | 79, _ => exact ck_79
  | 80, _ => exact ck_80
  | 81, _ => exact ck_81
  | 82, _ => exact ck_82
  | 83, _ => exact ck_83
  | 84, _ => exact ck_84
  | 85, _ => exact ck_85
  | 86, _ => exact ck_86
  | 87, _ => exact ck_87
  | 88, _ => exact ck_88
  | 89, _ => exact ck_89
  | 90, _ => exact ck_90
  | 91, _ => exact ck_91
  | 92, _ => exact ck_92
  | 93, _ => exact ck_93
  | 94, _ => exact ck_94
  | 95, _ => exact ck_95
  | 96, _ => exact ck_96
  | 97, _ => exact ck_97
  | 98, _ => exact ck_98
  | 99, _ => exact ck_99
  | 100, _ => exact ck_100
  | 101, _ => exact ck_101
  | 102, _ => exact ck_102
  | 103, _ => exact ck_103
  | 104, _ => exact ck_104
  | 105, _ => exact ck_105
  | 106, _ => exact ck_106
  | 107, _ => exact ck_107
  | 108, _ => exact ck_108
  | 109, _ => exact ck_109
  | 110, _ => exact ck_110
  | 111, _ => exact ck_111
  | 112, _ => exact ck_112
  | 113, _ => exact ck_113
  | n + 114, h => omega
theorem tb_li_none (i : Nat) (h : 114 ≤ i) : tb_li i = [] := by
  match i, h with
  | n + 114, _ => rfl
