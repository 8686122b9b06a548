section AZL
def tb_L_law_3 : List (Nat × Instr) := [(323, .aload_n 1), (324, .aload_n 2), (325, .aload_n 3), (326, .aload 4), (328, .iload 7), (330, .iconst 3), (331, .idiv), (332, .invokestatic 134), (335, .ifCond .eq 7), (338, .iconst 1), (339, .goto 4), (342, .iconst 0), (343, .istore 5), (345, .iinc 6 1), (348, .goto (-262)), (351, .iload 5), (353, .ireturn)]
theorem tt_L_law_3_0 : az_Tb cL_law ((tb_L_law_3.drop 0).take 12) := az_Tb.of (by decide +kernel)
theorem tt_L_law_3_12 : az_Tb cL_law ((tb_L_law_3.drop 12).take 12) := az_Tb.of (by decide +kernel)
end AZL
