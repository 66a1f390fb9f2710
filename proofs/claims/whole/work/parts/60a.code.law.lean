/-! INSTRUCTIONS: printed by wip/whole/codes.py -/
set_option maxRecDepth 1000000 in
theorem ca_W_field : mx_ca mm_W_field.1 = method_3_code := rfl
theorem mf_W_field : mm_W_field.2.1 = "IdealWorksLaw" ∧ mm_W_field.2.2.1 = 5 ∧ mm_W_field.2.2.2.1 = (some .int) ∧ mm_W_field.2.2.2.2.1 = [(0, 7, 10, 13)] ∧ mm_W_field.2.2.2.2.2 = "field" := ⟨rfl, rfl, rfl, rfl, rfl⟩
theorem sg_W_field : mx_sg j_W_field = (4, 0, 99, 5) := by decide +kernel
set_option maxRecDepth 1000000 in
theorem mr_W_field : (mx_mtT[j_W_field]?).map (fun e => e.1) = some mm_W_field := rfl
theorem dc_W_field_0 : decode method_3_code 0 = .ok (.aload_n 0, 1) ∧ decode method_3_code 1 = .ok (.iload_n 1, 1) ∧ decode method_3_code 2 = .ok (.iload_n 2, 1) ∧ decode method_3_code 3 = .ok (.iload_n 3, 1) ∧ decode method_3_code 4 = .ok (.invokevirtual 7, 3) ∧ decode method_3_code 7 = .ok (.goto 7, 3) ∧ decode method_3_code 10 = .ok (.astore 4, 2) ∧ decode method_3_code 12 = .ok (.iconst 1, 1) := by decide +kernel
theorem dc_W_field_1 : decode method_3_code 13 = .ok (.ireturn, 1) ∧ decode method_3_code 14 = .ok (.iconst 0, 1) ∧ decode method_3_code 15 = .ok (.ireturn, 1) := by decide +kernel
set_option maxRecDepth 1000000 in
theorem ca_W_read : mx_ca mm_W_read.1 = method_4_code := rfl
theorem mf_W_read : mm_W_read.2.1 = "IdealWorksLaw" ∧ mm_W_read.2.2.1 = 4 ∧ mm_W_read.2.2.2.1 = (some .int) ∧ mm_W_read.2.2.2.2.1 = [(0, 9, 12, 19), (0, 9, 15, 13)] ∧ mm_W_read.2.2.2.2.2 = "read" := ⟨rfl, rfl, rfl, rfl, rfl⟩
theorem sg_W_read : mx_sg j_W_read = (3, 0, 99, 4) := by decide +kernel
set_option maxRecDepth 1000000 in
theorem mr_W_read : (mx_mtT[j_W_read]?).map (fun e => e.1) = some mm_W_read := rfl
theorem dc_W_read_0 : decode method_4_code 0 = .ok (.aload_n 2, 1) ∧ decode method_4_code 1 = .ok (.iconst 0, 1) ∧ decode method_4_code 2 = .ok (.aload_n 0, 1) ∧ decode method_4_code 3 = .ok (.iload_n 1, 1) ∧ decode method_4_code 4 = .ok (.invokevirtual 15, 3) ∧ decode method_4_code 7 = .ok (.i2l, 1) ∧ decode method_4_code 8 = .ok (.lastore, 1) ∧ decode method_4_code 9 = .ok (.goto 9, 3) := by decide +kernel
theorem dc_W_read_1 : decode method_4_code 12 = .ok (.astore_n 3, 1) ∧ decode method_4_code 13 = .ok (.iconst 1, 1) ∧ decode method_4_code 14 = .ok (.ireturn, 1) ∧ decode method_4_code 15 = .ok (.astore_n 3, 1) ∧ decode method_4_code 16 = .ok (.iconst 2, 1) ∧ decode method_4_code 17 = .ok (.ireturn, 1) ∧ decode method_4_code 18 = .ok (.iconst 0, 1) ∧ decode method_4_code 19 = .ok (.ireturn, 1) := by decide +kernel
set_option maxRecDepth 1000000 in
theorem ca_W_add : mx_ca mm_W_add.1 = method_5_code := rfl
theorem mf_W_add : mm_W_add.2.1 = "IdealWorksLaw" ∧ mm_W_add.2.2.1 = 6 ∧ mm_W_add.2.2.2.1 = (some .int) ∧ mm_W_add.2.2.2.2.1 = [(0, 9, 12, 19)] ∧ mm_W_add.2.2.2.2.2 = "add" := ⟨rfl, rfl, rfl, rfl, rfl⟩
theorem sg_W_add : mx_sg j_W_add = (5, 0, 99, 6) := by decide +kernel
set_option maxRecDepth 1000000 in
theorem mr_W_add : (mx_mtT[j_W_add]?).map (fun e => e.1) = some mm_W_add := rfl
theorem dc_W_add_0 : decode method_5_code 0 = .ok (.aload_n 0, 1) ∧ decode method_5_code 1 = .ok (.iload_n 1, 1) ∧ decode method_5_code 2 = .ok (.iload_n 2, 1) ∧ decode method_5_code 3 = .ok (.iload_n 3, 1) ∧ decode method_5_code 4 = .ok (.iload 4, 2) ∧ decode method_5_code 6 = .ok (.invokevirtual 21, 3) ∧ decode method_5_code 9 = .ok (.goto 7, 3) ∧ decode method_5_code 12 = .ok (.astore 5, 2) := by decide +kernel
theorem dc_W_add_1 : decode method_5_code 14 = .ok (.iconst 1, 1) ∧ decode method_5_code 15 = .ok (.ireturn, 1) ∧ decode method_5_code 16 = .ok (.iconst 0, 1) ∧ decode method_5_code 17 = .ok (.ireturn, 1) := by decide +kernel
set_option maxRecDepth 1000000 in
theorem ca_W_multiply : mx_ca mm_W_multiply.1 = method_6_code := rfl
theorem mf_W_multiply : mm_W_multiply.2.1 = "IdealWorksLaw" ∧ mm_W_multiply.2.2.1 = 5 ∧ mm_W_multiply.2.2.2.1 = (some .int) ∧ mm_W_multiply.2.2.2.2.1 = [(0, 7, 10, 19), (0, 7, 14, 28)] ∧ mm_W_multiply.2.2.2.2.2 = "multiply" := ⟨rfl, rfl, rfl, rfl, rfl⟩
theorem sg_W_multiply : mx_sg j_W_multiply = (4, 0, 99, 5) := by decide +kernel
set_option maxRecDepth 1000000 in
theorem mr_W_multiply : (mx_mtT[j_W_multiply]?).map (fun e => e.1) = some mm_W_multiply := rfl
theorem dc_W_multiply_0 : decode method_6_code 0 = .ok (.aload_n 0, 1) ∧ decode method_6_code 1 = .ok (.iload_n 1, 1) ∧ decode method_6_code 2 = .ok (.iload_n 2, 1) ∧ decode method_6_code 3 = .ok (.iload_n 3, 1) ∧ decode method_6_code 4 = .ok (.invokevirtual 25, 3) ∧ decode method_6_code 7 = .ok (.goto 11, 3) ∧ decode method_6_code 10 = .ok (.astore 4, 2) ∧ decode method_6_code 12 = .ok (.iconst 1, 1) := by decide +kernel
theorem dc_W_multiply_1 : decode method_6_code 13 = .ok (.ireturn, 1) ∧ decode method_6_code 14 = .ok (.astore 4, 2) ∧ decode method_6_code 16 = .ok (.iconst 2, 1) ∧ decode method_6_code 17 = .ok (.ireturn, 1) ∧ decode method_6_code 18 = .ok (.iconst 0, 1) ∧ decode method_6_code 19 = .ok (.ireturn, 1) := by decide +kernel
set_option maxRecDepth 1000000 in
theorem ca_W_derive : mx_ca mm_W_derive.1 = method_7_code := rfl
theorem mf_W_derive : mm_W_derive.2.1 = "IdealWorksLaw" ∧ mm_W_derive.2.2.1 = 5 ∧ mm_W_derive.2.2.2.1 = (some .int) ∧ mm_W_derive.2.2.2.2.1 = [(0, 7, 10, 19)] ∧ mm_W_derive.2.2.2.2.2 = "derive" := ⟨rfl, rfl, rfl, rfl, rfl⟩
theorem sg_W_derive : mx_sg j_W_derive = (4, 0, 99, 5) := by decide +kernel
set_option maxRecDepth 1000000 in
theorem mr_W_derive : (mx_mtT[j_W_derive]?).map (fun e => e.1) = some mm_W_derive := rfl
theorem dc_W_derive_0 : decode method_7_code 0 = .ok (.aload_n 0, 1) ∧ decode method_7_code 1 = .ok (.iload_n 1, 1) ∧ decode method_7_code 2 = .ok (.iload_n 2, 1) ∧ decode method_7_code 3 = .ok (.iload_n 3, 1) ∧ decode method_7_code 4 = .ok (.invokevirtual 30, 3) ∧ decode method_7_code 7 = .ok (.goto 7, 3) ∧ decode method_7_code 10 = .ok (.astore 4, 2) ∧ decode method_7_code 12 = .ok (.iconst 1, 1) := by decide +kernel
theorem dc_W_derive_1 : decode method_7_code 13 = .ok (.ireturn, 1) ∧ decode method_7_code 14 = .ok (.iconst 0, 1) ∧ decode method_7_code 15 = .ok (.ireturn, 1) := by decide +kernel
set_option maxRecDepth 1000000 in
theorem ca_W_put : mx_ca mm_W_put.1 = method_8_code := rfl
theorem mf_W_put : mm_W_put.2.1 = "IdealWorksLaw" ∧ mm_W_put.2.2.1 = 6 ∧ mm_W_put.2.2.2.1 = (some .int) ∧ mm_W_put.2.2.2.2.1 = [(0, 9, 12, 19)] ∧ mm_W_put.2.2.2.2.2 = "put" := ⟨rfl, rfl, rfl, rfl, rfl⟩
theorem sg_W_put : mx_sg j_W_put = (5, 0, 99, 6) := by decide +kernel
set_option maxRecDepth 1000000 in
theorem mr_W_put : (mx_mtT[j_W_put]?).map (fun e => e.1) = some mm_W_put := rfl
theorem dc_W_put_0 : decode method_8_code 0 = .ok (.aload_n 0, 1) ∧ decode method_8_code 1 = .ok (.iload_n 1, 1) ∧ decode method_8_code 2 = .ok (.iload_n 2, 1) ∧ decode method_8_code 3 = .ok (.iload_n 3, 1) ∧ decode method_8_code 4 = .ok (.iload 4, 2) ∧ decode method_8_code 6 = .ok (.invokevirtual 33, 3) ∧ decode method_8_code 9 = .ok (.goto 7, 3) ∧ decode method_8_code 12 = .ok (.astore 5, 2) := by decide +kernel
theorem dc_W_put_1 : decode method_8_code 14 = .ok (.iconst 1, 1) ∧ decode method_8_code 15 = .ok (.ireturn, 1) ∧ decode method_8_code 16 = .ok (.iconst 0, 1) ∧ decode method_8_code 17 = .ok (.ireturn, 1) := by decide +kernel
set_option maxRecDepth 1000000 in
theorem ca_W_print : mx_ca mm_W_print.1 = method_9_code := rfl
theorem mf_W_print : mm_W_print.2.1 = "IdealWorksLaw" ∧ mm_W_print.2.2.1 = 4 ∧ mm_W_print.2.2.2.1 = (some .int) ∧ mm_W_print.2.2.2.2.1 = [(0, 9, 12, 19)] ∧ mm_W_print.2.2.2.2.2 = "print" := ⟨rfl, rfl, rfl, rfl, rfl⟩
theorem sg_W_print : mx_sg j_W_print = (3, 0, 99, 4) := by decide +kernel
set_option maxRecDepth 1000000 in
theorem mr_W_print : (mx_mtT[j_W_print]?).map (fun e => e.1) = some mm_W_print := rfl
theorem dc_W_print_0 : decode method_9_code 0 = .ok (.aload_n 2, 1) ∧ decode method_9_code 1 = .ok (.iconst 0, 1) ∧ decode method_9_code 2 = .ok (.aload_n 0, 1) ∧ decode method_9_code 3 = .ok (.iload_n 1, 1) ∧ decode method_9_code 4 = .ok (.invokevirtual 36, 3) ∧ decode method_9_code 7 = .ok (.i2l, 1) ∧ decode method_9_code 8 = .ok (.lastore, 1) ∧ decode method_9_code 9 = .ok (.goto 6, 3) := by decide +kernel
theorem dc_W_print_1 : decode method_9_code 12 = .ok (.astore_n 3, 1) ∧ decode method_9_code 13 = .ok (.iconst 1, 1) ∧ decode method_9_code 14 = .ok (.ireturn, 1) ∧ decode method_9_code 15 = .ok (.iconst 0, 1) ∧ decode method_9_code 16 = .ok (.ireturn, 1) := by decide +kernel
set_option maxRecDepth 1000000 in
theorem ca_W_clear : mx_ca mm_W_clear.1 = method_10_code := rfl
theorem mf_W_clear : mm_W_clear.2.1 = "IdealWorksLaw" ∧ mm_W_clear.2.2.1 = 3 ∧ mm_W_clear.2.2.2.1 = (some .int) ∧ mm_W_clear.2.2.2.2.1 = [(0, 5, 8, 19)] ∧ mm_W_clear.2.2.2.2.2 = "clear" := ⟨rfl, rfl, rfl, rfl, rfl⟩
theorem sg_W_clear : mx_sg j_W_clear = (2, 0, 99, 3) := by decide +kernel
set_option maxRecDepth 1000000 in
theorem mr_W_clear : (mx_mtT[j_W_clear]?).map (fun e => e.1) = some mm_W_clear := rfl
theorem dc_W_clear_0 : decode method_10_code 0 = .ok (.aload_n 0, 1) ∧ decode method_10_code 1 = .ok (.iload_n 1, 1) ∧ decode method_10_code 2 = .ok (.invokevirtual 39, 3) ∧ decode method_10_code 5 = .ok (.goto 6, 3) ∧ decode method_10_code 8 = .ok (.astore_n 2, 1) ∧ decode method_10_code 9 = .ok (.iconst 1, 1) ∧ decode method_10_code 10 = .ok (.ireturn, 1) ∧ decode method_10_code 11 = .ok (.iconst 0, 1) := by decide +kernel
theorem dc_W_clear_1 : decode method_10_code 12 = .ok (.ireturn, 1) := by decide +kernel
set_option maxRecDepth 1000000 in
theorem ca_W_join : mx_ca mm_W_join.1 = method_11_code := rfl
theorem mf_W_join : mm_W_join.2.1 = "IdealWorksLaw" ∧ mm_W_join.2.2.1 = 5 ∧ mm_W_join.2.2.2.1 = (some .int) ∧ mm_W_join.2.2.2.2.1 = [(0, 10, 13, 19), (0, 10, 17, 13), (0, 10, 21, 28)] ∧ mm_W_join.2.2.2.2.2 = "join" := ⟨rfl, rfl, rfl, rfl, rfl⟩
theorem sg_W_join : mx_sg j_W_join = (4, 0, 99, 5) := by decide +kernel
set_option maxRecDepth 1000000 in
theorem mr_W_join : (mx_mtT[j_W_join]?).map (fun e => e.1) = some mm_W_join := rfl
theorem dc_W_join_0 : decode method_11_code 0 = .ok (.aload_n 3, 1) ∧ decode method_11_code 1 = .ok (.iconst 0, 1) ∧ decode method_11_code 2 = .ok (.aload_n 0, 1) ∧ decode method_11_code 3 = .ok (.iload_n 1, 1) ∧ decode method_11_code 4 = .ok (.iload_n 2, 1) ∧ decode method_11_code 5 = .ok (.invokevirtual 43, 3) ∧ decode method_11_code 8 = .ok (.i2l, 1) ∧ decode method_11_code 9 = .ok (.lastore, 1) := by decide +kernel
theorem dc_W_join_1 : decode method_11_code 10 = .ok (.goto 15, 3) ∧ decode method_11_code 13 = .ok (.astore 4, 2) ∧ decode method_11_code 15 = .ok (.iconst 1, 1) ∧ decode method_11_code 16 = .ok (.ireturn, 1) ∧ decode method_11_code 17 = .ok (.astore 4, 2) ∧ decode method_11_code 19 = .ok (.iconst 2, 1) ∧ decode method_11_code 20 = .ok (.ireturn, 1) ∧ decode method_11_code 21 = .ok (.astore 4, 2) := by decide +kernel
theorem dc_W_join_2 : decode method_11_code 23 = .ok (.iconst 3, 1) ∧ decode method_11_code 24 = .ok (.ireturn, 1) ∧ decode method_11_code 25 = .ok (.iconst 0, 1) ∧ decode method_11_code 26 = .ok (.ireturn, 1) := by decide +kernel
set_option maxRecDepth 1000000 in
theorem ca_W_both : mx_ca mm_W_both.1 = method_12_code := rfl
theorem mf_W_both : mm_W_both.2.1 = "IdealWorksLaw" ∧ mm_W_both.2.2.1 = 6 ∧ mm_W_both.2.2.2.1 = (some .int) ∧ mm_W_both.2.2.2.2.1 = [(0, 9, 12, 19), (0, 9, 16, 28)] ∧ mm_W_both.2.2.2.2.2 = "both" := ⟨rfl, rfl, rfl, rfl, rfl⟩
theorem sg_W_both : mx_sg j_W_both = (5, 0, 99, 6) := by decide +kernel
set_option maxRecDepth 1000000 in
theorem mr_W_both : (mx_mtT[j_W_both]?).map (fun e => e.1) = some mm_W_both := rfl
theorem dc_W_both_0 : decode method_12_code 0 = .ok (.aload_n 0, 1) ∧ decode method_12_code 1 = .ok (.iload_n 1, 1) ∧ decode method_12_code 2 = .ok (.iload_n 2, 1) ∧ decode method_12_code 3 = .ok (.iload_n 3, 1) ∧ decode method_12_code 4 = .ok (.iload 4, 2) ∧ decode method_12_code 6 = .ok (.invokevirtual 47, 3) ∧ decode method_12_code 9 = .ok (.goto 11, 3) ∧ decode method_12_code 12 = .ok (.astore 5, 2) := by decide +kernel
theorem dc_W_both_1 : decode method_12_code 14 = .ok (.iconst 1, 1) ∧ decode method_12_code 15 = .ok (.ireturn, 1) ∧ decode method_12_code 16 = .ok (.astore 5, 2) ∧ decode method_12_code 18 = .ok (.iconst 2, 1) ∧ decode method_12_code 19 = .ok (.ireturn, 1) ∧ decode method_12_code 20 = .ok (.iconst 0, 1) ∧ decode method_12_code 21 = .ok (.ireturn, 1) := by decide +kernel
set_option maxRecDepth 1000000 in
theorem ca_W_basis : mx_ca mm_W_basis.1 = method_13_code := rfl
theorem mf_W_basis : mm_W_basis.2.1 = "IdealWorksLaw" ∧ mm_W_basis.2.2.1 = 5 ∧ mm_W_basis.2.2.2.1 = (some .int) ∧ mm_W_basis.2.2.2.2.1 = [(0, 10, 13, 19), (0, 10, 17, 13)] ∧ mm_W_basis.2.2.2.2.2 = "basis" := ⟨rfl, rfl, rfl, rfl, rfl⟩
theorem sg_W_basis : mx_sg j_W_basis = (4, 0, 99, 5) := by decide +kernel
set_option maxRecDepth 1000000 in
theorem mr_W_basis : (mx_mtT[j_W_basis]?).map (fun e => e.1) = some mm_W_basis := rfl
theorem dc_W_basis_0 : decode method_13_code 0 = .ok (.aload_n 3, 1) ∧ decode method_13_code 1 = .ok (.iconst 0, 1) ∧ decode method_13_code 2 = .ok (.aload_n 0, 1) ∧ decode method_13_code 3 = .ok (.iload_n 1, 1) ∧ decode method_13_code 4 = .ok (.iload_n 2, 1) ∧ decode method_13_code 5 = .ok (.invokevirtual 51, 3) ∧ decode method_13_code 8 = .ok (.i2l, 1) ∧ decode method_13_code 9 = .ok (.lastore, 1) := by decide +kernel
theorem dc_W_basis_1 : decode method_13_code 10 = .ok (.goto 11, 3) ∧ decode method_13_code 13 = .ok (.astore 4, 2) ∧ decode method_13_code 15 = .ok (.iconst 1, 1) ∧ decode method_13_code 16 = .ok (.ireturn, 1) ∧ decode method_13_code 17 = .ok (.astore 4, 2) ∧ decode method_13_code 19 = .ok (.iconst 2, 1) ∧ decode method_13_code 20 = .ok (.ireturn, 1) ∧ decode method_13_code 21 = .ok (.iconst 0, 1) := by decide +kernel
theorem dc_W_basis_2 : decode method_13_code 22 = .ok (.ireturn, 1) := by decide +kernel
set_option maxRecDepth 1000000 in
theorem ca_W_element : mx_ca mm_W_element.1 = method_14_code := rfl
theorem mf_W_element : mm_W_element.2.1 = "IdealWorksLaw" ∧ mm_W_element.2.2.1 = 5 ∧ mm_W_element.2.2.2.1 = (some .int) ∧ mm_W_element.2.2.2.2.1 = [(0, 7, 10, 19), (0, 7, 14, 28)] ∧ mm_W_element.2.2.2.2.2 = "element" := ⟨rfl, rfl, rfl, rfl, rfl⟩
theorem sg_W_element : mx_sg j_W_element = (4, 0, 99, 5) := by decide +kernel
set_option maxRecDepth 1000000 in
theorem mr_W_element : (mx_mtT[j_W_element]?).map (fun e => e.1) = some mm_W_element := rfl
theorem dc_W_element_0 : decode method_14_code 0 = .ok (.aload_n 0, 1) ∧ decode method_14_code 1 = .ok (.iload_n 1, 1) ∧ decode method_14_code 2 = .ok (.iload_n 2, 1) ∧ decode method_14_code 3 = .ok (.iload_n 3, 1) ∧ decode method_14_code 4 = .ok (.invokevirtual 54, 3) ∧ decode method_14_code 7 = .ok (.goto 11, 3) ∧ decode method_14_code 10 = .ok (.astore 4, 2) ∧ decode method_14_code 12 = .ok (.iconst 1, 1) := by decide +kernel
theorem dc_W_element_1 : decode method_14_code 13 = .ok (.ireturn, 1) ∧ decode method_14_code 14 = .ok (.astore 4, 2) ∧ decode method_14_code 16 = .ok (.iconst 2, 1) ∧ decode method_14_code 17 = .ok (.ireturn, 1) ∧ decode method_14_code 18 = .ok (.iconst 0, 1) ∧ decode method_14_code 19 = .ok (.ireturn, 1) := by decide +kernel
set_option maxRecDepth 1000000 in
theorem ca_W_remainder : mx_ca mm_W_remainder.1 = method_15_code := rfl
theorem mf_W_remainder : mm_W_remainder.2.1 = "IdealWorksLaw" ∧ mm_W_remainder.2.2.1 = 6 ∧ mm_W_remainder.2.2.2.1 = (some .int) ∧ mm_W_remainder.2.2.2.2.1 = [(0, 19, 22, 19), (0, 19, 26, 28)] ∧ mm_W_remainder.2.2.2.2.2 = "remainder" := ⟨rfl, rfl, rfl, rfl, rfl⟩
theorem sg_W_remainder : mx_sg j_W_remainder = (5, 0, 99, 6) := by decide +kernel
set_option maxRecDepth 1000000 in
theorem mr_W_remainder : (mx_mtT[j_W_remainder]?).map (fun e => e.1) = some mm_W_remainder := rfl
theorem dc_W_remainder_0 : decode method_15_code 0 = .ok (.aload 4, 2) ∧ decode method_15_code 2 = .ok (.iconst 0, 1) ∧ decode method_15_code 3 = .ok (.aload_n 0, 1) ∧ decode method_15_code 4 = .ok (.iload_n 1, 1) ∧ decode method_15_code 5 = .ok (.iload_n 2, 1) ∧ decode method_15_code 6 = .ok (.iload_n 3, 1) ∧ decode method_15_code 7 = .ok (.invokevirtual 57, 3) ∧ decode method_15_code 10 = .ok (.ifCond .eq 7, 3) := by decide +kernel
theorem dc_W_remainder_1 : decode method_15_code 13 = .ok (.lconst 1, 1) ∧ decode method_15_code 14 = .ok (.goto 4, 3) ∧ decode method_15_code 17 = .ok (.lconst 0, 1) ∧ decode method_15_code 18 = .ok (.lastore, 1) ∧ decode method_15_code 19 = .ok (.goto 11, 3) ∧ decode method_15_code 22 = .ok (.astore 5, 2) ∧ decode method_15_code 24 = .ok (.iconst 1, 1) ∧ decode method_15_code 25 = .ok (.ireturn, 1) := by decide +kernel
theorem dc_W_remainder_2 : decode method_15_code 26 = .ok (.astore 5, 2) ∧ decode method_15_code 28 = .ok (.iconst 2, 1) ∧ decode method_15_code 29 = .ok (.ireturn, 1) ∧ decode method_15_code 30 = .ok (.iconst 0, 1) ∧ decode method_15_code 31 = .ok (.ireturn, 1) := by decide +kernel
set_option maxRecDepth 1000000 in
theorem ca_W_radical : mx_ca mm_W_radical.1 = method_16_code := rfl
theorem mf_W_radical : mm_W_radical.2.1 = "IdealWorksLaw" ∧ mm_W_radical.2.2.1 = 6 ∧ mm_W_radical.2.2.2.1 = (some .int) ∧ mm_W_radical.2.2.2.2.1 = [(0, 19, 22, 19), (0, 19, 26, 13)] ∧ mm_W_radical.2.2.2.2.2 = "radical" := ⟨rfl, rfl, rfl, rfl, rfl⟩
theorem sg_W_radical : mx_sg j_W_radical = (5, 0, 99, 6) := by decide +kernel
set_option maxRecDepth 1000000 in
theorem mr_W_radical : (mx_mtT[j_W_radical]?).map (fun e => e.1) = some mm_W_radical := rfl
theorem dc_W_radical_0 : decode method_16_code 0 = .ok (.aload 4, 2) ∧ decode method_16_code 2 = .ok (.iconst 0, 1) ∧ decode method_16_code 3 = .ok (.aload_n 0, 1) ∧ decode method_16_code 4 = .ok (.iload_n 1, 1) ∧ decode method_16_code 5 = .ok (.iload_n 2, 1) ∧ decode method_16_code 6 = .ok (.iload_n 3, 1) ∧ decode method_16_code 7 = .ok (.invokevirtual 61, 3) ∧ decode method_16_code 10 = .ok (.ifCond .eq 7, 3) := by decide +kernel
theorem dc_W_radical_1 : decode method_16_code 13 = .ok (.lconst 1, 1) ∧ decode method_16_code 14 = .ok (.goto 4, 3) ∧ decode method_16_code 17 = .ok (.lconst 0, 1) ∧ decode method_16_code 18 = .ok (.lastore, 1) ∧ decode method_16_code 19 = .ok (.goto 11, 3) ∧ decode method_16_code 22 = .ok (.astore 5, 2) ∧ decode method_16_code 24 = .ok (.iconst 1, 1) ∧ decode method_16_code 25 = .ok (.ireturn, 1) := by decide +kernel
theorem dc_W_radical_2 : decode method_16_code 26 = .ok (.astore 5, 2) ∧ decode method_16_code 28 = .ok (.iconst 2, 1) ∧ decode method_16_code 29 = .ok (.ireturn, 1) ∧ decode method_16_code 30 = .ok (.iconst 0, 1) ∧ decode method_16_code 31 = .ok (.ireturn, 1) := by decide +kernel
set_option maxRecDepth 1000000 in
theorem ca_W_dictionary : mx_ca mm_W_dictionary.1 = method_17_code := rfl
theorem mf_W_dictionary : mm_W_dictionary.2.1 = "IdealWorksLaw" ∧ mm_W_dictionary.2.2.1 = 4 ∧ mm_W_dictionary.2.2.2.1 = (some .int) ∧ mm_W_dictionary.2.2.2.2.1 = [(0, 9, 12, 19), (0, 9, 15, 28)] ∧ mm_W_dictionary.2.2.2.2.2 = "dictionary" := ⟨rfl, rfl, rfl, rfl, rfl⟩
theorem sg_W_dictionary : mx_sg j_W_dictionary = (3, 0, 99, 4) := by decide +kernel
set_option maxRecDepth 1000000 in
theorem mr_W_dictionary : (mx_mtT[j_W_dictionary]?).map (fun e => e.1) = some mm_W_dictionary := rfl
theorem dc_W_dictionary_0 : decode method_17_code 0 = .ok (.aload_n 2, 1) ∧ decode method_17_code 1 = .ok (.iconst 0, 1) ∧ decode method_17_code 2 = .ok (.aload_n 0, 1) ∧ decode method_17_code 3 = .ok (.iload_n 1, 1) ∧ decode method_17_code 4 = .ok (.invokevirtual 64, 3) ∧ decode method_17_code 7 = .ok (.i2l, 1) ∧ decode method_17_code 8 = .ok (.lastore, 1) ∧ decode method_17_code 9 = .ok (.goto 9, 3) := by decide +kernel
theorem dc_W_dictionary_1 : decode method_17_code 12 = .ok (.astore_n 3, 1) ∧ decode method_17_code 13 = .ok (.iconst 1, 1) ∧ decode method_17_code 14 = .ok (.ireturn, 1) ∧ decode method_17_code 15 = .ok (.astore_n 3, 1) ∧ decode method_17_code 16 = .ok (.iconst 2, 1) ∧ decode method_17_code 17 = .ok (.ireturn, 1) ∧ decode method_17_code 18 = .ok (.iconst 0, 1) ∧ decode method_17_code 19 = .ok (.ireturn, 1) := by decide +kernel
set_option maxRecDepth 1000000 in
theorem ca_W_zeros : mx_ca mm_W_zeros.1 = method_18_code := rfl
theorem mf_W_zeros : mm_W_zeros.2.1 = "IdealWorksLaw" ∧ mm_W_zeros.2.2.1 = 4 ∧ mm_W_zeros.2.2.2.1 = (some .int) ∧ mm_W_zeros.2.2.2.2.1 = [(0, 9, 12, 19), (0, 9, 15, 28)] ∧ mm_W_zeros.2.2.2.2.2 = "zeros" := ⟨rfl, rfl, rfl, rfl, rfl⟩
theorem sg_W_zeros : mx_sg j_W_zeros = (3, 0, 99, 4) := by decide +kernel
set_option maxRecDepth 1000000 in
theorem mr_W_zeros : (mx_mtT[j_W_zeros]?).map (fun e => e.1) = some mm_W_zeros := rfl
theorem dc_W_zeros_0 : decode method_18_code 0 = .ok (.aload_n 2, 1) ∧ decode method_18_code 1 = .ok (.iconst 0, 1) ∧ decode method_18_code 2 = .ok (.aload_n 0, 1) ∧ decode method_18_code 3 = .ok (.iload_n 1, 1) ∧ decode method_18_code 4 = .ok (.invokevirtual 67, 3) ∧ decode method_18_code 7 = .ok (.i2l, 1) ∧ decode method_18_code 8 = .ok (.lastore, 1) ∧ decode method_18_code 9 = .ok (.goto 9, 3) := by decide +kernel
theorem dc_W_zeros_1 : decode method_18_code 12 = .ok (.astore_n 3, 1) ∧ decode method_18_code 13 = .ok (.iconst 1, 1) ∧ decode method_18_code 14 = .ok (.ireturn, 1) ∧ decode method_18_code 15 = .ok (.astore_n 3, 1) ∧ decode method_18_code 16 = .ok (.iconst 2, 1) ∧ decode method_18_code 17 = .ok (.ireturn, 1) ∧ decode method_18_code 18 = .ok (.iconst 0, 1) ∧ decode method_18_code 19 = .ok (.ireturn, 1) := by decide +kernel
