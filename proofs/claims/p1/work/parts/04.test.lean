theorem t_A0 : decode prog_1_method_2_code 0 = .ok (.iload_n 1, 1) := by decide +kernel
theorem t_A1 : decode prog_1_method_2_code 1 = .ok (.ifCond .ge 10, 3) := by decide +kernel
theorem t_A4 : decode prog_1_method_2_code 4 = .ok (.aload_n 0, 1) := by decide +kernel
theorem t_A5 : decode prog_1_method_2_code 5 = .ok (.bipush (-4), 2) := by decide +kernel
theorem t_A7 : decode prog_1_method_2_code 7 = .ok (.invokevirtual 89, 3) := by decide +kernel
theorem t_A10 : decode prog_1_method_2_code 10 = .ok (.ireturn, 1) := by decide +kernel
theorem t_A11 : decode prog_1_method_2_code 11 = .ok (.iload_n 1, 1) := by decide +kernel
theorem t_A12 : decode prog_1_method_2_code 12 = .ok (.sipush 255, 3) := by decide +kernel
theorem t_A15 : decode prog_1_method_2_code 15 = .ok (.if_icmp .gt 15, 3) := by decide +kernel
theorem t_A18 : decode prog_1_method_2_code 18 = .ok (.aload_n 0, 1) := by decide +kernel
theorem t_A19 : decode prog_1_method_2_code 19 = .ok (.getfield 29, 3) := by decide +kernel
theorem t_A22 : decode prog_1_method_2_code 22 = .ok (.getfield 93, 3) := by decide +kernel
theorem t_A25 : decode prog_1_method_2_code 25 = .ok (.bipush 96, 2) := by decide +kernel
theorem t_A27 : decode prog_1_method_2_code 27 = .ok (.if_icmp .lt 10, 3) := by decide +kernel
theorem t_A30 : decode prog_1_method_2_code 30 = .ok (.aload_n 0, 1) := by decide +kernel
theorem t_A31 : decode prog_1_method_2_code 31 = .ok (.bipush (-6), 2) := by decide +kernel
theorem t_A33 : decode prog_1_method_2_code 33 = .ok (.invokevirtual 89, 3) := by decide +kernel
theorem t_A36 : decode prog_1_method_2_code 36 = .ok (.ireturn, 1) := by decide +kernel
theorem t_A37 : decode prog_1_method_2_code 37 = .ok (.aload_n 0, 1) := by decide +kernel
theorem t_A38 : decode prog_1_method_2_code 38 = .ok (.getfield 29, 3) := by decide +kernel
theorem t_A41 : decode prog_1_method_2_code 41 = .ok (.iload_n 1, 1) := by decide +kernel
theorem t_A42 : decode prog_1_method_2_code 42 = .ok (.invokevirtual 96, 3) := by decide +kernel
theorem t_A45 : decode prog_1_method_2_code 45 = .ok (.ireturn, 1) := by decide +kernel
