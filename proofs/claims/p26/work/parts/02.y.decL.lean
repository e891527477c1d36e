theorem dL_cell_0 : decode cL_cell 0 = .ok (.iload_n 1, 1) := by decide +kernel
theorem dL_cell_1 : decode cL_cell 1 = .ok (.aload_n 0, 1) := by decide +kernel
theorem dL_cell_2 : decode cL_cell 2 = .ok (.arraylength, 1) := by decide +kernel
theorem dL_cell_3 : decode cL_cell 3 = .ok (.if_icmp .ge 9, 3) := by decide +kernel
theorem dL_cell_6 : decode cL_cell 6 = .ok (.aload_n 0, 1) := by decide +kernel
theorem dL_cell_7 : decode cL_cell 7 = .ok (.iload_n 1, 1) := by decide +kernel
theorem dL_cell_8 : decode cL_cell 8 = .ok (.iaload, 1) := by decide +kernel
theorem dL_cell_9 : decode cL_cell 9 = .ok (.goto 18, 3) := by decide +kernel
theorem dL_cell_12 : decode cL_cell 12 = .ok (.sipush 7919, 3) := by decide +kernel
theorem dL_cell_15 : decode cL_cell 15 = .ok (.iload_n 1, 1) := by decide +kernel
theorem dL_cell_16 : decode cL_cell 16 = .ok (.sipush 1753, 3) := by decide +kernel
theorem dL_cell_19 : decode cL_cell 19 = .ok (.iadd, 1) := by decide +kernel
theorem dL_cell_20 : decode cL_cell 20 = .ok (.imul, 1) := by decide +kernel
theorem dL_cell_21 : decode cL_cell 21 = .ok (.iload_n 1, 1) := by decide +kernel
theorem dL_cell_22 : decode cL_cell 22 = .ok (.sipush 187, 3) := by decide +kernel
theorem dL_cell_25 : decode cL_cell 25 = .ok (.iadd, 1) := by decide +kernel
theorem dL_cell_26 : decode cL_cell 26 = .ok (.imul, 1) := by decide +kernel
theorem dL_cell_27 : decode cL_cell 27 = .ok (.ireturn, 1) := by decide +kernel
theorem dL_low_0 : decode cL_low 0 = .ok (.iload_n 0, 1) := by decide +kernel
theorem dL_low_1 : decode cL_low 1 = .ok (.ldc 7, 2) := by decide +kernel
theorem dL_low_3 : decode cL_low 3 = .ok (.iand, 1) := by decide +kernel
theorem dL_low_4 : decode cL_low 4 = .ok (.iload_n 1, 1) := by decide +kernel
theorem dL_low_5 : decode cL_low 5 = .ok (.irem, 1) := by decide +kernel
theorem dL_low_6 : decode cL_low 6 = .ok (.ireturn, 1) := by decide +kernel
theorem dL_table_0 : decode cL_table 0 = .ok (.aload_n 0, 1) := by decide +kernel
theorem dL_table_1 : decode cL_table 1 = .ok (.iload_n 1, 1) := by decide +kernel
theorem dL_table_2 : decode cL_table 2 = .ok (.invokevirtual 8, 3) := by decide +kernel
theorem dL_table_5 : decode cL_table 5 = .ok (.ireturn, 1) := by decide +kernel
theorem dL_table_6 : decode cL_table 6 = .ok (.astore_n 2, 1) := by decide +kernel
theorem dL_table_7 : decode cL_table 7 = .ok (.ldc 16, 2) := by decide +kernel
theorem dL_table_9 : decode cL_table 9 = .ok (.ireturn, 1) := by decide +kernel
theorem dL_table_10 : decode cL_table 10 = .ok (.astore_n 2, 1) := by decide +kernel
theorem dL_table_11 : decode cL_table 11 = .ok (.ldc 16, 2) := by decide +kernel
theorem dL_table_13 : decode cL_table 13 = .ok (.ireturn, 1) := by decide +kernel
theorem dL_add_0 : decode cL_add 0 = .ok (.aload_n 0, 1) := by decide +kernel
theorem dL_add_1 : decode cL_add 1 = .ok (.iload_n 1, 1) := by decide +kernel
theorem dL_add_2 : decode cL_add 2 = .ok (.iload_n 2, 1) := by decide +kernel
theorem dL_add_3 : decode cL_add 3 = .ok (.iload_n 3, 1) := by decide +kernel
theorem dL_add_4 : decode cL_add 4 = .ok (.iload 4, 2) := by decide +kernel
theorem dL_add_6 : decode cL_add 6 = .ok (.invokevirtual 19, 3) := by decide +kernel
theorem dL_add_9 : decode cL_add 9 = .ok (.ireturn, 1) := by decide +kernel
theorem dL_add_10 : decode cL_add 10 = .ok (.astore 5, 2) := by decide +kernel
theorem dL_add_12 : decode cL_add 12 = .ok (.ldc 16, 2) := by decide +kernel
theorem dL_add_14 : decode cL_add 14 = .ok (.ireturn, 1) := by decide +kernel
theorem dL_add_15 : decode cL_add 15 = .ok (.astore 5, 2) := by decide +kernel
theorem dL_add_17 : decode cL_add 17 = .ok (.ldc 16, 2) := by decide +kernel
theorem dL_add_19 : decode cL_add 19 = .ok (.ireturn, 1) := by decide +kernel
theorem dL_add_20 : decode cL_add 20 = .ok (.astore 5, 2) := by decide +kernel
theorem dL_add_22 : decode cL_add 22 = .ok (.ldc 16, 2) := by decide +kernel
theorem dL_add_24 : decode cL_add 24 = .ok (.ireturn, 1) := by decide +kernel
theorem dL_take_0 : decode cL_take 0 = .ok (.aload_n 0, 1) := by decide +kernel
theorem dL_take_1 : decode cL_take 1 = .ok (.iload_n 1, 1) := by decide +kernel
theorem dL_take_2 : decode cL_take 2 = .ok (.iload_n 2, 1) := by decide +kernel
theorem dL_take_3 : decode cL_take 3 = .ok (.invokevirtual 25, 3) := by decide +kernel
theorem dL_take_6 : decode cL_take 6 = .ok (.ireturn, 1) := by decide +kernel
theorem dL_take_7 : decode cL_take 7 = .ok (.astore_n 3, 1) := by decide +kernel
theorem dL_take_8 : decode cL_take 8 = .ok (.ldc 16, 2) := by decide +kernel
theorem dL_take_10 : decode cL_take 10 = .ok (.ireturn, 1) := by decide +kernel
theorem dL_scan_0 : decode cL_scan 0 = .ok (.aload_n 0, 1) := by decide +kernel
theorem dL_scan_1 : decode cL_scan 1 = .ok (.iload_n 1, 1) := by decide +kernel
theorem dL_scan_2 : decode cL_scan 2 = .ok (.invokevirtual 29, 3) := by decide +kernel
theorem dL_scan_5 : decode cL_scan 5 = .ok (.ireturn, 1) := by decide +kernel
theorem dL_scan_6 : decode cL_scan 6 = .ok (.astore_n 2, 1) := by decide +kernel
theorem dL_scan_7 : decode cL_scan 7 = .ok (.ldc 16, 2) := by decide +kernel
theorem dL_scan_9 : decode cL_scan 9 = .ok (.ireturn, 1) := by decide +kernel
theorem dL_scan_10 : decode cL_scan 10 = .ok (.astore_n 2, 1) := by decide +kernel
theorem dL_scan_11 : decode cL_scan 11 = .ok (.ldc 16, 2) := by decide +kernel
theorem dL_scan_13 : decode cL_scan 13 = .ok (.ireturn, 1) := by decide +kernel
theorem dL_filter_0 : decode cL_filter 0 = .ok (.aload_n 0, 1) := by decide +kernel
theorem dL_filter_1 : decode cL_filter 1 = .ok (.iload_n 1, 1) := by decide +kernel
theorem dL_filter_2 : decode cL_filter 2 = .ok (.iload_n 2, 1) := by decide +kernel
theorem dL_filter_3 : decode cL_filter 3 = .ok (.iload_n 3, 1) := by decide +kernel
theorem dL_filter_4 : decode cL_filter 4 = .ok (.iload 4, 2) := by decide +kernel
theorem dL_filter_6 : decode cL_filter 6 = .ok (.invokevirtual 32, 3) := by decide +kernel
theorem dL_filter_9 : decode cL_filter 9 = .ok (.ireturn, 1) := by decide +kernel
theorem dL_filter_10 : decode cL_filter 10 = .ok (.astore 5, 2) := by decide +kernel
theorem dL_filter_12 : decode cL_filter 12 = .ok (.ldc 16, 2) := by decide +kernel
theorem dL_filter_14 : decode cL_filter 14 = .ok (.ireturn, 1) := by decide +kernel
theorem dL_filter_15 : decode cL_filter 15 = .ok (.astore 5, 2) := by decide +kernel
theorem dL_filter_17 : decode cL_filter 17 = .ok (.ldc 16, 2) := by decide +kernel
theorem dL_filter_19 : decode cL_filter 19 = .ok (.ireturn, 1) := by decide +kernel
theorem dL_filter_20 : decode cL_filter 20 = .ok (.astore 5, 2) := by decide +kernel
theorem dL_filter_22 : decode cL_filter 22 = .ok (.ldc 16, 2) := by decide +kernel
theorem dL_filter_24 : decode cL_filter 24 = .ok (.ireturn, 1) := by decide +kernel
theorem dL_join_0 : decode cL_join 0 = .ok (.aload_n 0, 1) := by decide +kernel
theorem dL_join_1 : decode cL_join 1 = .ok (.iload_n 1, 1) := by decide +kernel
theorem dL_join_2 : decode cL_join 2 = .ok (.iload_n 2, 1) := by decide +kernel
theorem dL_join_3 : decode cL_join 3 = .ok (.iload_n 3, 1) := by decide +kernel
theorem dL_join_4 : decode cL_join 4 = .ok (.iload 4, 2) := by decide +kernel
theorem dL_join_6 : decode cL_join 6 = .ok (.iload 5, 2) := by decide +kernel
theorem dL_join_8 : decode cL_join 8 = .ok (.invokevirtual 35, 3) := by decide +kernel
theorem dL_join_11 : decode cL_join 11 = .ok (.ireturn, 1) := by decide +kernel
theorem dL_join_12 : decode cL_join 12 = .ok (.astore 6, 2) := by decide +kernel
theorem dL_join_14 : decode cL_join 14 = .ok (.ldc 16, 2) := by decide +kernel
theorem dL_join_16 : decode cL_join 16 = .ok (.ireturn, 1) := by decide +kernel
theorem dL_join_17 : decode cL_join 17 = .ok (.astore 6, 2) := by decide +kernel
theorem dL_join_19 : decode cL_join 19 = .ok (.ldc 16, 2) := by decide +kernel
theorem dL_join_21 : decode cL_join 21 = .ok (.ireturn, 1) := by decide +kernel
theorem dL_join_22 : decode cL_join 22 = .ok (.astore 6, 2) := by decide +kernel
theorem dL_join_24 : decode cL_join 24 = .ok (.ldc 16, 2) := by decide +kernel
theorem dL_join_26 : decode cL_join 26 = .ok (.ireturn, 1) := by decide +kernel
theorem dL_group_0 : decode cL_group 0 = .ok (.aload_n 0, 1) := by decide +kernel
theorem dL_group_1 : decode cL_group 1 = .ok (.iload_n 1, 1) := by decide +kernel
theorem dL_group_2 : decode cL_group 2 = .ok (.iload_n 2, 1) := by decide +kernel
theorem dL_group_3 : decode cL_group 3 = .ok (.iload_n 3, 1) := by decide +kernel
theorem dL_group_4 : decode cL_group 4 = .ok (.iload 4, 2) := by decide +kernel
theorem dL_group_6 : decode cL_group 6 = .ok (.invokevirtual 39, 3) := by decide +kernel
theorem dL_group_9 : decode cL_group 9 = .ok (.ireturn, 1) := by decide +kernel
theorem dL_group_10 : decode cL_group 10 = .ok (.astore 5, 2) := by decide +kernel
theorem dL_group_12 : decode cL_group 12 = .ok (.ldc 16, 2) := by decide +kernel
theorem dL_group_14 : decode cL_group 14 = .ok (.ireturn, 1) := by decide +kernel
theorem dL_group_15 : decode cL_group 15 = .ok (.astore 5, 2) := by decide +kernel
theorem dL_group_17 : decode cL_group 17 = .ok (.ldc 16, 2) := by decide +kernel
theorem dL_group_19 : decode cL_group 19 = .ok (.ireturn, 1) := by decide +kernel
theorem dL_group_20 : decode cL_group 20 = .ok (.astore 5, 2) := by decide +kernel
theorem dL_group_22 : decode cL_group 22 = .ok (.ldc 16, 2) := by decide +kernel
theorem dL_group_24 : decode cL_group 24 = .ok (.ireturn, 1) := by decide +kernel
theorem dL_bag_0 : decode cL_bag 0 = .ok (.aload_n 0, 1) := by decide +kernel
theorem dL_bag_1 : decode cL_bag 1 = .ok (.iload_n 1, 1) := by decide +kernel
theorem dL_bag_2 : decode cL_bag 2 = .ok (.iload_n 2, 1) := by decide +kernel
theorem dL_bag_3 : decode cL_bag 3 = .ok (.iload_n 3, 1) := by decide +kernel
theorem dL_bag_4 : decode cL_bag 4 = .ok (.invokevirtual 42, 3) := by decide +kernel
theorem dL_bag_7 : decode cL_bag 7 = .ok (.ireturn, 1) := by decide +kernel
theorem dL_bag_8 : decode cL_bag 8 = .ok (.astore 4, 2) := by decide +kernel
theorem dL_bag_10 : decode cL_bag 10 = .ok (.ldc 16, 2) := by decide +kernel
theorem dL_bag_12 : decode cL_bag 12 = .ok (.ireturn, 1) := by decide +kernel
theorem dL_bag_13 : decode cL_bag 13 = .ok (.astore 4, 2) := by decide +kernel
theorem dL_bag_15 : decode cL_bag 15 = .ok (.ldc 16, 2) := by decide +kernel
theorem dL_bag_17 : decode cL_bag 17 = .ok (.ireturn, 1) := by decide +kernel
theorem dL_bag_18 : decode cL_bag 18 = .ok (.astore 4, 2) := by decide +kernel
theorem dL_bag_20 : decode cL_bag 20 = .ok (.ldc 16, 2) := by decide +kernel
theorem dL_bag_22 : decode cL_bag 22 = .ok (.ireturn, 1) := by decide +kernel
theorem dL_rows_0 : decode cL_rows 0 = .ok (.aload_n 0, 1) := by decide +kernel
theorem dL_rows_1 : decode cL_rows 1 = .ok (.iload_n 1, 1) := by decide +kernel
theorem dL_rows_2 : decode cL_rows 2 = .ok (.invokevirtual 46, 3) := by decide +kernel
theorem dL_rows_5 : decode cL_rows 5 = .ok (.ireturn, 1) := by decide +kernel
theorem dL_rows_6 : decode cL_rows 6 = .ok (.astore_n 2, 1) := by decide +kernel
theorem dL_rows_7 : decode cL_rows 7 = .ok (.ldc 16, 2) := by decide +kernel
theorem dL_rows_9 : decode cL_rows 9 = .ok (.ireturn, 1) := by decide +kernel
theorem dL_rows_10 : decode cL_rows 10 = .ok (.astore_n 2, 1) := by decide +kernel
theorem dL_rows_11 : decode cL_rows 11 = .ok (.ldc 16, 2) := by decide +kernel
theorem dL_rows_13 : decode cL_rows 13 = .ok (.ireturn, 1) := by decide +kernel
theorem dL_value_0 : decode cL_value 0 = .ok (.aload_n 0, 1) := by decide +kernel
theorem dL_value_1 : decode cL_value 1 = .ok (.iload_n 1, 1) := by decide +kernel
theorem dL_value_2 : decode cL_value 2 = .ok (.iload_n 2, 1) := by decide +kernel
theorem dL_value_3 : decode cL_value 3 = .ok (.iload_n 3, 1) := by decide +kernel
theorem dL_value_4 : decode cL_value 4 = .ok (.invokevirtual 49, 3) := by decide +kernel
theorem dL_value_7 : decode cL_value 7 = .ok (.ireturn, 1) := by decide +kernel
theorem dL_value_8 : decode cL_value 8 = .ok (.astore 4, 2) := by decide +kernel
theorem dL_value_10 : decode cL_value 10 = .ok (.ldc 16, 2) := by decide +kernel
theorem dL_value_12 : decode cL_value 12 = .ok (.ireturn, 1) := by decide +kernel
theorem dL_value_13 : decode cL_value 13 = .ok (.astore 4, 2) := by decide +kernel
theorem dL_value_15 : decode cL_value 15 = .ok (.ldc 16, 2) := by decide +kernel
theorem dL_value_17 : decode cL_value 17 = .ok (.ireturn, 1) := by decide +kernel
theorem dL_same_0 : decode cL_same 0 = .ok (.aload_n 0, 1) := by decide +kernel
theorem dL_same_1 : decode cL_same 1 = .ok (.iload_n 1, 1) := by decide +kernel
theorem dL_same_2 : decode cL_same 2 = .ok (.iload_n 2, 1) := by decide +kernel
theorem dL_same_3 : decode cL_same 3 = .ok (.invokevirtual 52, 3) := by decide +kernel
theorem dL_same_6 : decode cL_same 6 = .ok (.ifCond .eq 7, 3) := by decide +kernel
theorem dL_same_9 : decode cL_same 9 = .ok (.iconst 1, 1) := by decide +kernel
theorem dL_same_10 : decode cL_same 10 = .ok (.goto 4, 3) := by decide +kernel
theorem dL_same_13 : decode cL_same 13 = .ok (.iconst 0, 1) := by decide +kernel
theorem dL_same_14 : decode cL_same 14 = .ok (.ireturn, 1) := by decide +kernel
theorem dL_same_15 : decode cL_same 15 = .ok (.astore_n 3, 1) := by decide +kernel
theorem dL_same_16 : decode cL_same 16 = .ok (.ldc 16, 2) := by decide +kernel
theorem dL_same_18 : decode cL_same 18 = .ok (.ireturn, 1) := by decide +kernel
theorem dL_same_19 : decode cL_same 19 = .ok (.astore_n 3, 1) := by decide +kernel
theorem dL_same_20 : decode cL_same 20 = .ok (.ldc 16, 2) := by decide +kernel
theorem dL_same_22 : decode cL_same 22 = .ok (.ireturn, 1) := by decide +kernel
theorem dL_steps_0 : decode cL_steps 0 = .ok (.aload_n 0, 1) := by decide +kernel
theorem dL_steps_1 : decode cL_steps 1 = .ok (.iload_n 1, 1) := by decide +kernel
theorem dL_steps_2 : decode cL_steps 2 = .ok (.invokevirtual 56, 3) := by decide +kernel
theorem dL_steps_5 : decode cL_steps 5 = .ok (.ireturn, 1) := by decide +kernel
theorem dL_steps_6 : decode cL_steps 6 = .ok (.astore_n 2, 1) := by decide +kernel
theorem dL_steps_7 : decode cL_steps 7 = .ok (.ldc 16, 2) := by decide +kernel
theorem dL_steps_9 : decode cL_steps 9 = .ok (.ireturn, 1) := by decide +kernel
theorem dL_steps_10 : decode cL_steps 10 = .ok (.astore_n 2, 1) := by decide +kernel
theorem dL_steps_11 : decode cL_steps 11 = .ok (.ldc 16, 2) := by decide +kernel
theorem dL_steps_13 : decode cL_steps 13 = .ok (.ireturn, 1) := by decide +kernel
theorem dL_budget_0 : decode cL_budget 0 = .ok (.aload_n 0, 1) := by decide +kernel
theorem dL_budget_1 : decode cL_budget 1 = .ok (.iload_n 1, 1) := by decide +kernel
theorem dL_budget_2 : decode cL_budget 2 = .ok (.invokevirtual 59, 3) := by decide +kernel
theorem dL_budget_5 : decode cL_budget 5 = .ok (.ireturn, 1) := by decide +kernel
theorem dL_budget_6 : decode cL_budget 6 = .ok (.astore_n 2, 1) := by decide +kernel
theorem dL_budget_7 : decode cL_budget 7 = .ok (.ldc 16, 2) := by decide +kernel
theorem dL_budget_9 : decode cL_budget 9 = .ok (.ireturn, 1) := by decide +kernel
theorem dL_rewrite_0 : decode cL_rewrite 0 = .ok (.aload_n 0, 1) := by decide +kernel
theorem dL_rewrite_1 : decode cL_rewrite 1 = .ok (.iload_n 1, 1) := by decide +kernel
theorem dL_rewrite_2 : decode cL_rewrite 2 = .ok (.invokevirtual 62, 3) := by decide +kernel
theorem dL_rewrite_5 : decode cL_rewrite 5 = .ok (.ireturn, 1) := by decide +kernel
theorem dL_rewrite_6 : decode cL_rewrite 6 = .ok (.astore_n 2, 1) := by decide +kernel
theorem dL_rewrite_7 : decode cL_rewrite 7 = .ok (.ldc 16, 2) := by decide +kernel
theorem dL_rewrite_9 : decode cL_rewrite 9 = .ok (.ireturn, 1) := by decide +kernel
theorem dL_rewrite_10 : decode cL_rewrite 10 = .ok (.astore_n 2, 1) := by decide +kernel
theorem dL_rewrite_11 : decode cL_rewrite 11 = .ok (.ldc 16, 2) := by decide +kernel
theorem dL_rewrite_13 : decode cL_rewrite 13 = .ok (.ireturn, 1) := by decide +kernel
theorem dL_node_0 : decode cL_node 0 = .ok (.aload_n 0, 1) := by decide +kernel
theorem dL_node_1 : decode cL_node 1 = .ok (.iload_n 1, 1) := by decide +kernel
theorem dL_node_2 : decode cL_node 2 = .ok (.iload_n 2, 1) := by decide +kernel
theorem dL_node_3 : decode cL_node 3 = .ok (.invokevirtual 65, 3) := by decide +kernel
theorem dL_node_6 : decode cL_node 6 = .ok (.ireturn, 1) := by decide +kernel
theorem dL_node_7 : decode cL_node 7 = .ok (.astore_n 3, 1) := by decide +kernel
theorem dL_node_8 : decode cL_node 8 = .ok (.ldc 16, 2) := by decide +kernel
theorem dL_node_10 : decode cL_node 10 = .ok (.ireturn, 1) := by decide +kernel
theorem dL_node_11 : decode cL_node 11 = .ok (.astore_n 3, 1) := by decide +kernel
theorem dL_node_12 : decode cL_node 12 = .ok (.ldc 16, 2) := by decide +kernel
theorem dL_node_14 : decode cL_node 14 = .ok (.ireturn, 1) := by decide +kernel
theorem dL_link_0 : decode cL_link 0 = .ok (.aload_n 0, 1) := by decide +kernel
theorem dL_link_1 : decode cL_link 1 = .ok (.iload_n 1, 1) := by decide +kernel
theorem dL_link_2 : decode cL_link 2 = .ok (.iload_n 2, 1) := by decide +kernel
theorem dL_link_3 : decode cL_link 3 = .ok (.iload_n 3, 1) := by decide +kernel
theorem dL_link_4 : decode cL_link 4 = .ok (.iload 4, 2) := by decide +kernel
theorem dL_link_6 : decode cL_link 6 = .ok (.invokevirtual 68, 3) := by decide +kernel
theorem dL_link_9 : decode cL_link 9 = .ok (.ireturn, 1) := by decide +kernel
theorem dL_link_10 : decode cL_link 10 = .ok (.astore 5, 2) := by decide +kernel
theorem dL_link_12 : decode cL_link 12 = .ok (.ldc 16, 2) := by decide +kernel
theorem dL_link_14 : decode cL_link 14 = .ok (.ireturn, 1) := by decide +kernel
theorem dL_link_15 : decode cL_link 15 = .ok (.astore 5, 2) := by decide +kernel
theorem dL_link_17 : decode cL_link 17 = .ok (.ldc 16, 2) := by decide +kernel
theorem dL_link_19 : decode cL_link 19 = .ok (.ireturn, 1) := by decide +kernel
theorem dL_link_20 : decode cL_link 20 = .ok (.astore 5, 2) := by decide +kernel
theorem dL_link_22 : decode cL_link 22 = .ok (.ldc 16, 2) := by decide +kernel
theorem dL_link_24 : decode cL_link 24 = .ok (.ireturn, 1) := by decide +kernel
theorem dL_estimate_0 : decode cL_estimate 0 = .ok (.aload_n 0, 1) := by decide +kernel
theorem dL_estimate_1 : decode cL_estimate 1 = .ok (.iload_n 1, 1) := by decide +kernel
theorem dL_estimate_2 : decode cL_estimate 2 = .ok (.invokevirtual 71, 3) := by decide +kernel
theorem dL_estimate_5 : decode cL_estimate 5 = .ok (.ireturn, 1) := by decide +kernel
theorem dL_estimate_6 : decode cL_estimate 6 = .ok (.astore_n 2, 1) := by decide +kernel
theorem dL_estimate_7 : decode cL_estimate 7 = .ok (.ldc 16, 2) := by decide +kernel
theorem dL_estimate_9 : decode cL_estimate 9 = .ok (.ireturn, 1) := by decide +kernel
theorem dL_cost_0 : decode cL_cost 0 = .ok (.aload_n 0, 1) := by decide +kernel
theorem dL_cost_1 : decode cL_cost 1 = .ok (.iload_n 1, 1) := by decide +kernel
theorem dL_cost_2 : decode cL_cost 2 = .ok (.invokevirtual 74, 3) := by decide +kernel
theorem dL_cost_5 : decode cL_cost 5 = .ok (.ireturn, 1) := by decide +kernel
theorem dL_cost_6 : decode cL_cost 6 = .ok (.astore_n 2, 1) := by decide +kernel
theorem dL_cost_7 : decode cL_cost 7 = .ok (.ldc 16, 2) := by decide +kernel
theorem dL_cost_9 : decode cL_cost 9 = .ok (.ireturn, 1) := by decide +kernel
theorem dL_split_0 : decode cL_split 0 = .ok (.aload_n 0, 1) := by decide +kernel
theorem dL_split_1 : decode cL_split 1 = .ok (.iload_n 1, 1) := by decide +kernel
theorem dL_split_2 : decode cL_split 2 = .ok (.invokevirtual 77, 3) := by decide +kernel
theorem dL_split_5 : decode cL_split 5 = .ok (.ireturn, 1) := by decide +kernel
theorem dL_split_6 : decode cL_split 6 = .ok (.astore_n 2, 1) := by decide +kernel
theorem dL_split_7 : decode cL_split 7 = .ok (.ldc 16, 2) := by decide +kernel
theorem dL_split_9 : decode cL_split 9 = .ok (.ireturn, 1) := by decide +kernel
theorem dL_view_0 : decode cL_view 0 = .ok (.aload_n 0, 1) := by decide +kernel
theorem dL_view_1 : decode cL_view 1 = .ok (.iload_n 1, 1) := by decide +kernel
theorem dL_view_2 : decode cL_view 2 = .ok (.iload_n 2, 1) := by decide +kernel
theorem dL_view_3 : decode cL_view 3 = .ok (.iload_n 3, 1) := by decide +kernel
theorem dL_view_4 : decode cL_view 4 = .ok (.iload 4, 2) := by decide +kernel
theorem dL_view_6 : decode cL_view 6 = .ok (.invokevirtual 80, 3) := by decide +kernel
theorem dL_view_9 : decode cL_view 9 = .ok (.ireturn, 1) := by decide +kernel
theorem dL_view_10 : decode cL_view 10 = .ok (.astore 5, 2) := by decide +kernel
theorem dL_view_12 : decode cL_view 12 = .ok (.ldc 16, 2) := by decide +kernel
theorem dL_view_14 : decode cL_view 14 = .ok (.ireturn, 1) := by decide +kernel
theorem dL_view_15 : decode cL_view 15 = .ok (.astore 5, 2) := by decide +kernel
theorem dL_view_17 : decode cL_view 17 = .ok (.ldc 16, 2) := by decide +kernel
theorem dL_view_19 : decode cL_view 19 = .ok (.ireturn, 1) := by decide +kernel
theorem dL_view_20 : decode cL_view 20 = .ok (.astore 5, 2) := by decide +kernel
theorem dL_view_22 : decode cL_view 22 = .ok (.ldc 16, 2) := by decide +kernel
theorem dL_view_24 : decode cL_view 24 = .ok (.ireturn, 1) := by decide +kernel
theorem dL_different_0 : decode cL_different 0 = .ok (.aload_n 0, 1) := by decide +kernel
theorem dL_different_1 : decode cL_different 1 = .ok (.iload_n 1, 1) := by decide +kernel
theorem dL_different_2 : decode cL_different 2 = .ok (.invokevirtual 83, 3) := by decide +kernel
theorem dL_different_5 : decode cL_different 5 = .ok (.ireturn, 1) := by decide +kernel
theorem dL_different_6 : decode cL_different 6 = .ok (.astore_n 2, 1) := by decide +kernel
theorem dL_different_7 : decode cL_different 7 = .ok (.ldc 16, 2) := by decide +kernel
theorem dL_different_9 : decode cL_different 9 = .ok (.ireturn, 1) := by decide +kernel
theorem dL_often_0 : decode cL_often 0 = .ok (.aload_n 0, 1) := by decide +kernel
theorem dL_often_1 : decode cL_often 1 = .ok (.iload_n 1, 1) := by decide +kernel
theorem dL_often_2 : decode cL_often 2 = .ok (.iload_n 2, 1) := by decide +kernel
theorem dL_often_3 : decode cL_often 3 = .ok (.iload_n 3, 1) := by decide +kernel
theorem dL_often_4 : decode cL_often 4 = .ok (.invokevirtual 86, 3) := by decide +kernel
theorem dL_often_7 : decode cL_often 7 = .ok (.ireturn, 1) := by decide +kernel
theorem dL_often_8 : decode cL_often 8 = .ok (.astore 4, 2) := by decide +kernel
theorem dL_often_10 : decode cL_often 10 = .ok (.ldc 16, 2) := by decide +kernel
theorem dL_often_12 : decode cL_often 12 = .ok (.ireturn, 1) := by decide +kernel
theorem dL_ways_0 : decode cL_ways 0 = .ok (.aload_n 0, 1) := by decide +kernel
theorem dL_ways_1 : decode cL_ways 1 = .ok (.iload_n 1, 1) := by decide +kernel
theorem dL_ways_2 : decode cL_ways 2 = .ok (.invokevirtual 89, 3) := by decide +kernel
theorem dL_ways_5 : decode cL_ways 5 = .ok (.ireturn, 1) := by decide +kernel
theorem dL_ways_6 : decode cL_ways 6 = .ok (.astore_n 2, 1) := by decide +kernel
theorem dL_ways_7 : decode cL_ways 7 = .ok (.ldc 16, 2) := by decide +kernel
theorem dL_ways_9 : decode cL_ways 9 = .ok (.ireturn, 1) := by decide +kernel
theorem dL_ways_10 : decode cL_ways 10 = .ok (.astore_n 2, 1) := by decide +kernel
theorem dL_ways_11 : decode cL_ways 11 = .ok (.ldc 16, 2) := by decide +kernel
theorem dL_ways_13 : decode cL_ways 13 = .ok (.ireturn, 1) := by decide +kernel
theorem dL_act_0 : decode cL_act 0 = .ok (.iload_n 1, 1) := by decide +kernel
theorem dL_act_1 : decode cL_act 1 = .ok (.bipush 26, 2) := by decide +kernel
theorem dL_act_3 : decode cL_act 3 = .ok (.ishr, 1) := by decide +kernel
theorem dL_act_4 : decode cL_act 4 = .ok (.bipush 14, 2) := by decide +kernel
theorem dL_act_6 : decode cL_act 6 = .ok (.invokestatic 92, 3) := by decide +kernel
theorem dL_act_9 : decode cL_act 9 = .ok (.ifCond .ne 7, 3) := by decide +kernel
theorem dL_act_12 : decode cL_act 12 = .ok (.iconst 1, 1) := by decide +kernel
theorem dL_act_13 : decode cL_act 13 = .ok (.goto 4, 3) := by decide +kernel
theorem dL_act_16 : decode cL_act 16 = .ok (.iconst 0, 1) := by decide +kernel
theorem dL_act_17 : decode cL_act 17 = .ok (.istore_n 2, 1) := by decide +kernel
theorem dL_act_18 : decode cL_act 18 = .ok (.iload_n 2, 1) := by decide +kernel
theorem dL_act_19 : decode cL_act 19 = .ok (.ifCond .eq 16, 3) := by decide +kernel
theorem dL_act_22 : decode cL_act 22 = .ok (.iload_n 1, 1) := by decide +kernel
theorem dL_act_23 : decode cL_act 23 = .ok (.iconst 5, 1) := by decide +kernel
theorem dL_act_24 : decode cL_act 24 = .ok (.ishr, 1) := by decide +kernel
theorem dL_act_25 : decode cL_act 25 = .ok (.bipush 6, 2) := by decide +kernel
theorem dL_act_27 : decode cL_act 27 = .ok (.invokestatic 92, 3) := by decide +kernel
theorem dL_act_30 : decode cL_act 30 = .ok (.iconst 1, 1) := by decide +kernel
theorem dL_act_31 : decode cL_act 31 = .ok (.isub, 1) := by decide +kernel
theorem dL_act_32 : decode cL_act 32 = .ok (.goto 10, 3) := by decide +kernel
theorem dL_act_35 : decode cL_act 35 = .ok (.iload_n 1, 1) := by decide +kernel
theorem dL_act_36 : decode cL_act 36 = .ok (.iconst 5, 1) := by decide +kernel
theorem dL_act_37 : decode cL_act 37 = .ok (.ishr, 1) := by decide +kernel
theorem dL_act_38 : decode cL_act 38 = .ok (.iconst 3, 1) := by decide +kernel
theorem dL_act_39 : decode cL_act 39 = .ok (.invokestatic 92, 3) := by decide +kernel
theorem dL_act_42 : decode cL_act 42 = .ok (.istore_n 3, 1) := by decide +kernel
theorem dL_act_43 : decode cL_act 43 = .ok (.iload_n 2, 1) := by decide +kernel
theorem dL_act_44 : decode cL_act 44 = .ok (.ifCond .eq 17, 3) := by decide +kernel
theorem dL_act_47 : decode cL_act 47 = .ok (.iload_n 1, 1) := by decide +kernel
theorem dL_act_48 : decode cL_act 48 = .ok (.bipush 8, 2) := by decide +kernel
theorem dL_act_50 : decode cL_act 50 = .ok (.ishr, 1) := by decide +kernel
theorem dL_act_51 : decode cL_act 51 = .ok (.bipush 30, 2) := by decide +kernel
theorem dL_act_53 : decode cL_act 53 = .ok (.invokestatic 92, 3) := by decide +kernel
theorem dL_act_56 : decode cL_act 56 = .ok (.iconst 2, 1) := by decide +kernel
theorem dL_act_57 : decode cL_act 57 = .ok (.isub, 1) := by decide +kernel
theorem dL_act_58 : decode cL_act 58 = .ok (.goto 12, 3) := by decide +kernel
theorem dL_act_61 : decode cL_act 61 = .ok (.iload_n 1, 1) := by decide +kernel
theorem dL_act_62 : decode cL_act 62 = .ok (.bipush 8, 2) := by decide +kernel
theorem dL_act_64 : decode cL_act 64 = .ok (.ishr, 1) := by decide +kernel
theorem dL_act_65 : decode cL_act 65 = .ok (.bipush 9, 2) := by decide +kernel
theorem dL_act_67 : decode cL_act 67 = .ok (.invokestatic 92, 3) := by decide +kernel
theorem dL_act_70 : decode cL_act 70 = .ok (.istore 4, 2) := by decide +kernel
theorem dL_act_72 : decode cL_act 72 = .ok (.iload_n 2, 1) := by decide +kernel
theorem dL_act_73 : decode cL_act 73 = .ok (.ifCond .eq 17, 3) := by decide +kernel
theorem dL_act_76 : decode cL_act 76 = .ok (.iload_n 1, 1) := by decide +kernel
theorem dL_act_77 : decode cL_act 77 = .ok (.bipush 12, 2) := by decide +kernel
theorem dL_act_79 : decode cL_act 79 = .ok (.ishr, 1) := by decide +kernel
theorem dL_act_80 : decode cL_act 80 = .ok (.bipush 30, 2) := by decide +kernel
theorem dL_act_82 : decode cL_act 82 = .ok (.invokestatic 92, 3) := by decide +kernel
theorem dL_act_85 : decode cL_act 85 = .ok (.iconst 2, 1) := by decide +kernel
theorem dL_act_86 : decode cL_act 86 = .ok (.isub, 1) := by decide +kernel
theorem dL_act_87 : decode cL_act 87 = .ok (.goto 12, 3) := by decide +kernel
theorem dL_act_90 : decode cL_act 90 = .ok (.iload_n 1, 1) := by decide +kernel
theorem dL_act_91 : decode cL_act 91 = .ok (.bipush 12, 2) := by decide +kernel
theorem dL_act_93 : decode cL_act 93 = .ok (.ishr, 1) := by decide +kernel
theorem dL_act_94 : decode cL_act 94 = .ok (.bipush 9, 2) := by decide +kernel
theorem dL_act_96 : decode cL_act 96 = .ok (.invokestatic 92, 3) := by decide +kernel
theorem dL_act_99 : decode cL_act 99 = .ok (.istore 5, 2) := by decide +kernel
theorem dL_act_101 : decode cL_act 101 = .ok (.iload_n 2, 1) := by decide +kernel
theorem dL_act_102 : decode cL_act 102 = .ok (.ifCond .eq 17, 3) := by decide +kernel
theorem dL_act_105 : decode cL_act 105 = .ok (.iload_n 1, 1) := by decide +kernel
theorem dL_act_106 : decode cL_act 106 = .ok (.bipush 16, 2) := by decide +kernel
theorem dL_act_108 : decode cL_act 108 = .ok (.ishr, 1) := by decide +kernel
theorem dL_act_109 : decode cL_act 109 = .ok (.bipush 8, 2) := by decide +kernel
theorem dL_act_111 : decode cL_act 111 = .ok (.invokestatic 92, 3) := by decide +kernel
theorem dL_act_114 : decode cL_act 114 = .ok (.iconst 1, 1) := by decide +kernel
theorem dL_act_115 : decode cL_act 115 = .ok (.isub, 1) := by decide +kernel
theorem dL_act_116 : decode cL_act 116 = .ok (.goto 11, 3) := by decide +kernel
theorem dL_act_119 : decode cL_act 119 = .ok (.iload_n 1, 1) := by decide +kernel
theorem dL_act_120 : decode cL_act 120 = .ok (.bipush 16, 2) := by decide +kernel
theorem dL_act_122 : decode cL_act 122 = .ok (.ishr, 1) := by decide +kernel
theorem dL_act_123 : decode cL_act 123 = .ok (.iconst 2, 1) := by decide +kernel
theorem dL_act_124 : decode cL_act 124 = .ok (.invokestatic 92, 3) := by decide +kernel
theorem dL_act_127 : decode cL_act 127 = .ok (.istore 6, 2) := by decide +kernel
theorem dL_act_129 : decode cL_act 129 = .ok (.iload_n 1, 1) := by decide +kernel
theorem dL_act_130 : decode cL_act 130 = .ok (.bipush 18, 2) := by decide +kernel
theorem dL_act_132 : decode cL_act 132 = .ok (.ishr, 1) := by decide +kernel
theorem dL_act_133 : decode cL_act 133 = .ok (.iconst 2, 1) := by decide +kernel
theorem dL_act_134 : decode cL_act 134 = .ok (.invokestatic 92, 3) := by decide +kernel
theorem dL_act_137 : decode cL_act 137 = .ok (.istore 7, 2) := by decide +kernel
theorem dL_act_139 : decode cL_act 139 = .ok (.iload_n 1, 1) := by decide +kernel
theorem dL_act_140 : decode cL_act 140 = .ok (.bipush 30, 2) := by decide +kernel
theorem dL_act_142 : decode cL_act 142 = .ok (.invokestatic 92, 3) := by decide +kernel
theorem dL_act_145 : decode cL_act 145 = .ok (.tableswitch 645 0 28 #[131, 131, 155, 155, 155, 155, 155, 229, 247, 247, 253, 253, 253, 296, 296, 296, 335, 360, 360, 395, 402, 409, 437, 481, 488, 535, 559, 588, 606], 131) := by decide +kernel
theorem dL_act_276 : decode cL_act 276 = .ok (.aload_n 0, 1) := by decide +kernel
theorem dL_act_277 : decode cL_act 277 = .ok (.iload_n 2, 1) := by decide +kernel
theorem dL_act_278 : decode cL_act 278 = .ok (.ifCond .eq 9, 3) := by decide +kernel
theorem dL_act_281 : decode cL_act 281 = .ok (.iload_n 1, 1) := by decide +kernel
theorem dL_act_282 : decode cL_act 282 = .ok (.iconst 5, 1) := by decide +kernel
theorem dL_act_283 : decode cL_act 283 = .ok (.ishr, 1) := by decide +kernel
theorem dL_act_284 : decode cL_act 284 = .ok (.goto 12, 3) := by decide +kernel
theorem dL_act_287 : decode cL_act 287 = .ok (.iconst 1, 1) := by decide +kernel
theorem dL_act_288 : decode cL_act 288 = .ok (.iload_n 1, 1) := by decide +kernel
theorem dL_act_289 : decode cL_act 289 = .ok (.iconst 5, 1) := by decide +kernel
theorem dL_act_290 : decode cL_act 290 = .ok (.ishr, 1) := by decide +kernel
theorem dL_act_291 : decode cL_act 291 = .ok (.iconst 3, 1) := by decide +kernel
theorem dL_act_292 : decode cL_act 292 = .ok (.invokestatic 92, 3) := by decide +kernel
theorem dL_act_295 : decode cL_act 295 = .ok (.iadd, 1) := by decide +kernel
theorem dL_act_296 : decode cL_act 296 = .ok (.invokestatic 97, 3) := by decide +kernel
theorem dL_act_299 : decode cL_act 299 = .ok (.ireturn, 1) := by decide +kernel
theorem dL_act_300 : decode cL_act 300 = .ok (.aload_n 0, 1) := by decide +kernel
theorem dL_act_301 : decode cL_act 301 = .ok (.iload_n 3, 1) := by decide +kernel
theorem dL_act_302 : decode cL_act 302 = .ok (.iload_n 1, 1) := by decide +kernel
theorem dL_act_303 : decode cL_act 303 = .ok (.bipush 8, 2) := by decide +kernel
theorem dL_act_305 : decode cL_act 305 = .ok (.ishr, 1) := by decide +kernel
theorem dL_act_306 : decode cL_act 306 = .ok (.iconst 4, 1) := by decide +kernel
theorem dL_act_307 : decode cL_act 307 = .ok (.invokestatic 92, 3) := by decide +kernel
theorem dL_act_310 : decode cL_act 310 = .ok (.iload_n 2, 1) := by decide +kernel
theorem dL_act_311 : decode cL_act 311 = .ok (.ifCond .eq 10, 3) := by decide +kernel
theorem dL_act_314 : decode cL_act 314 = .ok (.iload_n 1, 1) := by decide +kernel
theorem dL_act_315 : decode cL_act 315 = .ok (.bipush 10, 2) := by decide +kernel
theorem dL_act_317 : decode cL_act 317 = .ok (.ishr, 1) := by decide +kernel
theorem dL_act_318 : decode cL_act 318 = .ok (.goto 29, 3) := by decide +kernel
theorem dL_act_321 : decode cL_act 321 = .ok (.iload_n 1, 1) := by decide +kernel
theorem dL_act_322 : decode cL_act 322 = .ok (.bipush 10, 2) := by decide +kernel
theorem dL_act_324 : decode cL_act 324 = .ok (.ishr, 1) := by decide +kernel
theorem dL_act_325 : decode cL_act 325 = .ok (.bipush 7, 2) := by decide +kernel
theorem dL_act_327 : decode cL_act 327 = .ok (.invokestatic 92, 3) := by decide +kernel
theorem dL_act_330 : decode cL_act 330 = .ok (.ifCond .ne 9, 3) := by decide +kernel
theorem dL_act_333 : decode cL_act 333 = .ok (.sipush (-1000), 3) := by decide +kernel
theorem dL_act_336 : decode cL_act 336 = .ok (.goto 11, 3) := by decide +kernel
theorem dL_act_339 : decode cL_act 339 = .ok (.iload_n 1, 1) := by decide +kernel
theorem dL_act_340 : decode cL_act 340 = .ok (.bipush 13, 2) := by decide +kernel
theorem dL_act_342 : decode cL_act 342 = .ok (.ishr, 1) := by decide +kernel
theorem dL_act_343 : decode cL_act 343 = .ok (.iconst 3, 1) := by decide +kernel
theorem dL_act_344 : decode cL_act 344 = .ok (.invokestatic 92, 3) := by decide +kernel
theorem dL_act_347 : decode cL_act 347 = .ok (.iload_n 1, 1) := by decide +kernel
theorem dL_act_348 : decode cL_act 348 = .ok (.bipush 16, 2) := by decide +kernel
theorem dL_act_350 : decode cL_act 350 = .ok (.ishr, 1) := by decide +kernel
theorem dL_act_351 : decode cL_act 351 = .ok (.iconst 3, 1) := by decide +kernel
theorem dL_act_352 : decode cL_act 352 = .ok (.invokestatic 92, 3) := by decide +kernel
theorem dL_act_355 : decode cL_act 355 = .ok (.ifCond .ne 14, 3) := by decide +kernel
theorem dL_act_358 : decode cL_act 358 = .ok (.iload_n 1, 1) := by decide +kernel
theorem dL_act_359 : decode cL_act 359 = .ok (.bipush 18, 2) := by decide +kernel
theorem dL_act_361 : decode cL_act 361 = .ok (.ishr, 1) := by decide +kernel
theorem dL_act_362 : decode cL_act 362 = .ok (.iconst 3, 1) := by decide +kernel
theorem dL_act_363 : decode cL_act 363 = .ok (.invokestatic 92, 3) := by decide +kernel
theorem dL_act_366 : decode cL_act 366 = .ok (.goto 4, 3) := by decide +kernel
theorem dL_act_369 : decode cL_act 369 = .ok (.iconst 0, 1) := by decide +kernel
theorem dL_act_370 : decode cL_act 370 = .ok (.invokestatic 100, 3) := by decide +kernel
theorem dL_act_373 : decode cL_act 373 = .ok (.ireturn, 1) := by decide +kernel
theorem dL_act_374 : decode cL_act 374 = .ok (.aload_n 0, 1) := by decide +kernel
theorem dL_act_375 : decode cL_act 375 = .ok (.iload_n 3, 1) := by decide +kernel
theorem dL_act_376 : decode cL_act 376 = .ok (.iload_n 2, 1) := by decide +kernel
theorem dL_act_377 : decode cL_act 377 = .ok (.ifCond .eq 10, 3) := by decide +kernel
theorem dL_act_380 : decode cL_act 380 = .ok (.iload_n 1, 1) := by decide +kernel
theorem dL_act_381 : decode cL_act 381 = .ok (.bipush 8, 2) := by decide +kernel
theorem dL_act_383 : decode cL_act 383 = .ok (.ishr, 1) := by decide +kernel
theorem dL_act_384 : decode cL_act 384 = .ok (.goto 4, 3) := by decide +kernel
theorem dL_act_387 : decode cL_act 387 = .ok (.iconst 0, 1) := by decide +kernel
theorem dL_act_388 : decode cL_act 388 = .ok (.invokestatic 103, 3) := by decide +kernel
theorem dL_act_391 : decode cL_act 391 = .ok (.ireturn, 1) := by decide +kernel
theorem dL_act_392 : decode cL_act 392 = .ok (.aload_n 0, 1) := by decide +kernel
theorem dL_act_393 : decode cL_act 393 = .ok (.iload_n 3, 1) := by decide +kernel
theorem dL_act_394 : decode cL_act 394 = .ok (.invokestatic 106, 3) := by decide +kernel
theorem dL_act_397 : decode cL_act 397 = .ok (.ireturn, 1) := by decide +kernel
theorem dL_act_398 : decode cL_act 398 = .ok (.aload_n 0, 1) := by decide +kernel
theorem dL_act_399 : decode cL_act 399 = .ok (.iload 4, 2) := by decide +kernel
theorem dL_act_401 : decode cL_act 401 = .ok (.iload 6, 2) := by decide +kernel
theorem dL_act_403 : decode cL_act 403 = .ok (.iload_n 2, 1) := by decide +kernel
theorem dL_act_404 : decode cL_act 404 = .ok (.ifCond .eq 17, 3) := by decide +kernel
theorem dL_act_407 : decode cL_act 407 = .ok (.iload_n 1, 1) := by decide +kernel
theorem dL_act_408 : decode cL_act 408 = .ok (.bipush 18, 2) := by decide +kernel
theorem dL_act_410 : decode cL_act 410 = .ok (.ishr, 1) := by decide +kernel
theorem dL_act_411 : decode cL_act 411 = .ok (.bipush 8, 2) := by decide +kernel
theorem dL_act_413 : decode cL_act 413 = .ok (.invokestatic 92, 3) := by decide +kernel
theorem dL_act_416 : decode cL_act 416 = .ok (.iconst 1, 1) := by decide +kernel
theorem dL_act_417 : decode cL_act 417 = .ok (.isub, 1) := by decide +kernel
theorem dL_act_418 : decode cL_act 418 = .ok (.goto 11, 3) := by decide +kernel
theorem dL_act_421 : decode cL_act 421 = .ok (.iload_n 1, 1) := by decide +kernel
theorem dL_act_422 : decode cL_act 422 = .ok (.bipush 18, 2) := by decide +kernel
theorem dL_act_424 : decode cL_act 424 = .ok (.ishr, 1) := by decide +kernel
theorem dL_act_425 : decode cL_act 425 = .ok (.iconst 4, 1) := by decide +kernel
theorem dL_act_426 : decode cL_act 426 = .ok (.invokestatic 92, 3) := by decide +kernel
theorem dL_act_429 : decode cL_act 429 = .ok (.iload_n 1, 1) := by decide +kernel
theorem dL_act_430 : decode cL_act 430 = .ok (.bipush 21, 2) := by decide +kernel
theorem dL_act_432 : decode cL_act 432 = .ok (.ishr, 1) := by decide +kernel
theorem dL_act_433 : decode cL_act 433 = .ok (.iconst 3, 1) := by decide +kernel
theorem dL_act_434 : decode cL_act 434 = .ok (.invokestatic 92, 3) := by decide +kernel
theorem dL_act_437 : decode cL_act 437 = .ok (.invokestatic 108, 3) := by decide +kernel
theorem dL_act_440 : decode cL_act 440 = .ok (.ireturn, 1) := by decide +kernel
theorem dL_act_441 : decode cL_act 441 = .ok (.aload_n 0, 1) := by decide +kernel
theorem dL_act_442 : decode cL_act 442 = .ok (.iload 4, 2) := by decide +kernel
theorem dL_act_444 : decode cL_act 444 = .ok (.iload 5, 2) := by decide +kernel
theorem dL_act_446 : decode cL_act 446 = .ok (.iload 6, 2) := by decide +kernel
theorem dL_act_448 : decode cL_act 448 = .ok (.iload 7, 2) := by decide +kernel
theorem dL_act_450 : decode cL_act 450 = .ok (.iload_n 2, 1) := by decide +kernel
theorem dL_act_451 : decode cL_act 451 = .ok (.ifCond .eq 17, 3) := by decide +kernel
theorem dL_act_454 : decode cL_act 454 = .ok (.iload_n 1, 1) := by decide +kernel
theorem dL_act_455 : decode cL_act 455 = .ok (.bipush 19, 2) := by decide +kernel
theorem dL_act_457 : decode cL_act 457 = .ok (.ishr, 1) := by decide +kernel
theorem dL_act_458 : decode cL_act 458 = .ok (.bipush 7, 2) := by decide +kernel
theorem dL_act_460 : decode cL_act 460 = .ok (.invokestatic 92, 3) := by decide +kernel
theorem dL_act_463 : decode cL_act 463 = .ok (.iconst 1, 1) := by decide +kernel
theorem dL_act_464 : decode cL_act 464 = .ok (.isub, 1) := by decide +kernel
theorem dL_act_465 : decode cL_act 465 = .ok (.goto 11, 3) := by decide +kernel
theorem dL_act_468 : decode cL_act 468 = .ok (.iload_n 1, 1) := by decide +kernel
theorem dL_act_469 : decode cL_act 469 = .ok (.bipush 19, 2) := by decide +kernel
theorem dL_act_471 : decode cL_act 471 = .ok (.ishr, 1) := by decide +kernel
theorem dL_act_472 : decode cL_act 472 = .ok (.iconst 5, 1) := by decide +kernel
theorem dL_act_473 : decode cL_act 473 = .ok (.invokestatic 92, 3) := by decide +kernel
theorem dL_act_476 : decode cL_act 476 = .ok (.invokestatic 110, 3) := by decide +kernel
theorem dL_act_479 : decode cL_act 479 = .ok (.ireturn, 1) := by decide +kernel
theorem dL_act_480 : decode cL_act 480 = .ok (.aload_n 0, 1) := by decide +kernel
theorem dL_act_481 : decode cL_act 481 = .ok (.iload 4, 2) := by decide +kernel
theorem dL_act_483 : decode cL_act 483 = .ok (.iload 6, 2) := by decide +kernel
theorem dL_act_485 : decode cL_act 485 = .ok (.iload_n 1, 1) := by decide +kernel
theorem dL_act_486 : decode cL_act 486 = .ok (.bipush 19, 2) := by decide +kernel
theorem dL_act_488 : decode cL_act 488 = .ok (.ishr, 1) := by decide +kernel
theorem dL_act_489 : decode cL_act 489 = .ok (.iconst 5, 1) := by decide +kernel
theorem dL_act_490 : decode cL_act 490 = .ok (.invokestatic 92, 3) := by decide +kernel
theorem dL_act_493 : decode cL_act 493 = .ok (.iload_n 1, 1) := by decide +kernel
theorem dL_act_494 : decode cL_act 494 = .ok (.bipush 22, 2) := by decide +kernel
theorem dL_act_496 : decode cL_act 496 = .ok (.ishr, 1) := by decide +kernel
theorem dL_act_497 : decode cL_act 497 = .ok (.iconst 2, 1) := by decide +kernel
theorem dL_act_498 : decode cL_act 498 = .ok (.invokestatic 92, 3) := by decide +kernel
theorem dL_act_501 : decode cL_act 501 = .ok (.invokestatic 113, 3) := by decide +kernel
theorem dL_act_504 : decode cL_act 504 = .ok (.ireturn, 1) := by decide +kernel
theorem dL_act_505 : decode cL_act 505 = .ok (.aload_n 0, 1) := by decide +kernel
theorem dL_act_506 : decode cL_act 506 = .ok (.iload 4, 2) := by decide +kernel
theorem dL_act_508 : decode cL_act 508 = .ok (.iload 5, 2) := by decide +kernel
theorem dL_act_510 : decode cL_act 510 = .ok (.iload_n 2, 1) := by decide +kernel
theorem dL_act_511 : decode cL_act 511 = .ok (.ifCond .eq 17, 3) := by decide +kernel
theorem dL_act_514 : decode cL_act 514 = .ok (.iload_n 1, 1) := by decide +kernel
theorem dL_act_515 : decode cL_act 515 = .ok (.bipush 19, 2) := by decide +kernel
theorem dL_act_517 : decode cL_act 517 = .ok (.ishr, 1) := by decide +kernel
theorem dL_act_518 : decode cL_act 518 = .ok (.bipush 6, 2) := by decide +kernel
theorem dL_act_520 : decode cL_act 520 = .ok (.invokestatic 92, 3) := by decide +kernel
theorem dL_act_523 : decode cL_act 523 = .ok (.iconst 1, 1) := by decide +kernel
theorem dL_act_524 : decode cL_act 524 = .ok (.isub, 1) := by decide +kernel
theorem dL_act_525 : decode cL_act 525 = .ok (.goto 11, 3) := by decide +kernel
theorem dL_act_528 : decode cL_act 528 = .ok (.iload_n 1, 1) := by decide +kernel
theorem dL_act_529 : decode cL_act 529 = .ok (.bipush 19, 2) := by decide +kernel
theorem dL_act_531 : decode cL_act 531 = .ok (.ishr, 1) := by decide +kernel
theorem dL_act_532 : decode cL_act 532 = .ok (.iconst 4, 1) := by decide +kernel
theorem dL_act_533 : decode cL_act 533 = .ok (.invokestatic 92, 3) := by decide +kernel
theorem dL_act_536 : decode cL_act 536 = .ok (.invokestatic 115, 3) := by decide +kernel
theorem dL_act_539 : decode cL_act 539 = .ok (.ireturn, 1) := by decide +kernel
theorem dL_act_540 : decode cL_act 540 = .ok (.aload_n 0, 1) := by decide +kernel
theorem dL_act_541 : decode cL_act 541 = .ok (.iload 4, 2) := by decide +kernel
theorem dL_act_543 : decode cL_act 543 = .ok (.invokestatic 118, 3) := by decide +kernel
theorem dL_act_546 : decode cL_act 546 = .ok (.ireturn, 1) := by decide +kernel
theorem dL_act_547 : decode cL_act 547 = .ok (.aload_n 0, 1) := by decide +kernel
theorem dL_act_548 : decode cL_act 548 = .ok (.iload 4, 2) := by decide +kernel
theorem dL_act_550 : decode cL_act 550 = .ok (.invokestatic 120, 3) := by decide +kernel
theorem dL_act_553 : decode cL_act 553 = .ok (.ireturn, 1) := by decide +kernel
theorem dL_act_554 : decode cL_act 554 = .ok (.aload_n 0, 1) := by decide +kernel
theorem dL_act_555 : decode cL_act 555 = .ok (.iload 4, 2) := by decide +kernel
theorem dL_act_557 : decode cL_act 557 = .ok (.iload_n 2, 1) := by decide +kernel
theorem dL_act_558 : decode cL_act 558 = .ok (.ifCond .eq 10, 3) := by decide +kernel
theorem dL_act_561 : decode cL_act 561 = .ok (.iload_n 1, 1) := by decide +kernel
theorem dL_act_562 : decode cL_act 562 = .ok (.bipush 12, 2) := by decide +kernel
theorem dL_act_564 : decode cL_act 564 = .ok (.ishr, 1) := by decide +kernel
theorem dL_act_565 : decode cL_act 565 = .ok (.goto 11, 3) := by decide +kernel
theorem dL_act_568 : decode cL_act 568 = .ok (.iload_n 1, 1) := by decide +kernel
theorem dL_act_569 : decode cL_act 569 = .ok (.bipush 12, 2) := by decide +kernel
theorem dL_act_571 : decode cL_act 571 = .ok (.ishr, 1) := by decide +kernel
theorem dL_act_572 : decode cL_act 572 = .ok (.iconst 4, 1) := by decide +kernel
theorem dL_act_573 : decode cL_act 573 = .ok (.invokestatic 92, 3) := by decide +kernel
theorem dL_act_576 : decode cL_act 576 = .ok (.iload 6, 2) := by decide +kernel
theorem dL_act_578 : decode cL_act 578 = .ok (.invokestatic 122, 3) := by decide +kernel
theorem dL_act_581 : decode cL_act 581 = .ok (.ireturn, 1) := by decide +kernel
theorem dL_act_582 : decode cL_act 582 = .ok (.aload_n 0, 1) := by decide +kernel
theorem dL_act_583 : decode cL_act 583 = .ok (.iload_n 2, 1) := by decide +kernel
theorem dL_act_584 : decode cL_act 584 = .ok (.ifCond .eq 16, 3) := by decide +kernel
theorem dL_act_587 : decode cL_act 587 = .ok (.iload_n 1, 1) := by decide +kernel
theorem dL_act_588 : decode cL_act 588 = .ok (.bipush 8, 2) := by decide +kernel
theorem dL_act_590 : decode cL_act 590 = .ok (.ishr, 1) := by decide +kernel
theorem dL_act_591 : decode cL_act 591 = .ok (.iconst 4, 1) := by decide +kernel
theorem dL_act_592 : decode cL_act 592 = .ok (.invokestatic 92, 3) := by decide +kernel
theorem dL_act_595 : decode cL_act 595 = .ok (.iconst 1, 1) := by decide +kernel
theorem dL_act_596 : decode cL_act 596 = .ok (.isub, 1) := by decide +kernel
theorem dL_act_597 : decode cL_act 597 = .ok (.goto 5, 3) := by decide +kernel
theorem dL_act_600 : decode cL_act 600 = .ok (.iload 4, 2) := by decide +kernel
theorem dL_act_602 : decode cL_act 602 = .ok (.iload_n 2, 1) := by decide +kernel
theorem dL_act_603 : decode cL_act 603 = .ok (.ifCond .eq 17, 3) := by decide +kernel
theorem dL_act_606 : decode cL_act 606 = .ok (.iload_n 1, 1) := by decide +kernel
theorem dL_act_607 : decode cL_act 607 = .ok (.bipush 12, 2) := by decide +kernel
theorem dL_act_609 : decode cL_act 609 = .ok (.ishr, 1) := by decide +kernel
theorem dL_act_610 : decode cL_act 610 = .ok (.bipush 12, 2) := by decide +kernel
theorem dL_act_612 : decode cL_act 612 = .ok (.invokestatic 92, 3) := by decide +kernel
theorem dL_act_615 : decode cL_act 615 = .ok (.iconst 1, 1) := by decide +kernel
theorem dL_act_616 : decode cL_act 616 = .ok (.isub, 1) := by decide +kernel
theorem dL_act_617 : decode cL_act 617 = .ok (.goto 5, 3) := by decide +kernel
theorem dL_act_620 : decode cL_act 620 = .ok (.iload 5, 2) := by decide +kernel
theorem dL_act_622 : decode cL_act 622 = .ok (.invokestatic 125, 3) := by decide +kernel
theorem dL_act_625 : decode cL_act 625 = .ok (.ireturn, 1) := by decide +kernel
theorem dL_act_626 : decode cL_act 626 = .ok (.aload_n 0, 1) := by decide +kernel
theorem dL_act_627 : decode cL_act 627 = .ok (.iload 4, 2) := by decide +kernel
theorem dL_act_629 : decode cL_act 629 = .ok (.invokestatic 127, 3) := by decide +kernel
theorem dL_act_632 : decode cL_act 632 = .ok (.ireturn, 1) := by decide +kernel
theorem dL_act_633 : decode cL_act 633 = .ok (.iload_n 1, 1) := by decide +kernel
theorem dL_act_634 : decode cL_act 634 = .ok (.iconst 5, 1) := by decide +kernel
theorem dL_act_635 : decode cL_act 635 = .ok (.ishr, 1) := by decide +kernel
theorem dL_act_636 : decode cL_act 636 = .ok (.iconst 4, 1) := by decide +kernel
theorem dL_act_637 : decode cL_act 637 = .ok (.invokestatic 92, 3) := by decide +kernel
theorem dL_act_640 : decode cL_act 640 = .ok (.ifCond .ne 33, 3) := by decide +kernel
theorem dL_act_643 : decode cL_act 643 = .ok (.aload_n 0, 1) := by decide +kernel
theorem dL_act_644 : decode cL_act 644 = .ok (.iload_n 2, 1) := by decide +kernel
theorem dL_act_645 : decode cL_act 645 = .ok (.ifCond .eq 10, 3) := by decide +kernel
theorem dL_act_648 : decode cL_act 648 = .ok (.iload_n 1, 1) := by decide +kernel
theorem dL_act_649 : decode cL_act 649 = .ok (.bipush 8, 2) := by decide +kernel
theorem dL_act_651 : decode cL_act 651 = .ok (.ishr, 1) := by decide +kernel
theorem dL_act_652 : decode cL_act 652 = .ok (.goto 15, 3) := by decide +kernel
theorem dL_act_655 : decode cL_act 655 = .ok (.iconst 1, 1) := by decide +kernel
theorem dL_act_656 : decode cL_act 656 = .ok (.iload_n 1, 1) := by decide +kernel
theorem dL_act_657 : decode cL_act 657 = .ok (.bipush 8, 2) := by decide +kernel
theorem dL_act_659 : decode cL_act 659 = .ok (.ishr, 1) := by decide +kernel
theorem dL_act_660 : decode cL_act 660 = .ok (.sipush 300, 3) := by decide +kernel
theorem dL_act_663 : decode cL_act 663 = .ok (.invokestatic 92, 3) := by decide +kernel
theorem dL_act_666 : decode cL_act 666 = .ok (.iadd, 1) := by decide +kernel
theorem dL_act_667 : decode cL_act 667 = .ok (.invokestatic 129, 3) := by decide +kernel
theorem dL_act_670 : decode cL_act 670 = .ok (.goto 9, 3) := by decide +kernel
theorem dL_act_673 : decode cL_act 673 = .ok (.aload_n 0, 1) := by decide +kernel
theorem dL_act_674 : decode cL_act 674 = .ok (.ldc 131, 2) := by decide +kernel
theorem dL_act_676 : decode cL_act 676 = .ok (.invokestatic 129, 3) := by decide +kernel
theorem dL_act_679 : decode cL_act 679 = .ok (.ireturn, 1) := by decide +kernel
theorem dL_act_680 : decode cL_act 680 = .ok (.aload_n 0, 1) := by decide +kernel
theorem dL_act_681 : decode cL_act 681 = .ok (.iload_n 3, 1) := by decide +kernel
theorem dL_act_682 : decode cL_act 682 = .ok (.iload 6, 2) := by decide +kernel
theorem dL_act_684 : decode cL_act 684 = .ok (.iload_n 1, 1) := by decide +kernel
theorem dL_act_685 : decode cL_act 685 = .ok (.bipush 18, 2) := by decide +kernel
theorem dL_act_687 : decode cL_act 687 = .ok (.ishr, 1) := by decide +kernel
theorem dL_act_688 : decode cL_act 688 = .ok (.iconst 3, 1) := by decide +kernel
theorem dL_act_689 : decode cL_act 689 = .ok (.invokestatic 92, 3) := by decide +kernel
theorem dL_act_692 : decode cL_act 692 = .ok (.iload_n 1, 1) := by decide +kernel
theorem dL_act_693 : decode cL_act 693 = .ok (.bipush 20, 2) := by decide +kernel
theorem dL_act_695 : decode cL_act 695 = .ok (.ishr, 1) := by decide +kernel
theorem dL_act_696 : decode cL_act 696 = .ok (.iconst 2, 1) := by decide +kernel
theorem dL_act_697 : decode cL_act 697 = .ok (.invokestatic 92, 3) := by decide +kernel
theorem dL_act_700 : decode cL_act 700 = .ok (.invokestatic 132, 3) := by decide +kernel
theorem dL_act_703 : decode cL_act 703 = .ok (.ireturn, 1) := by decide +kernel
theorem dL_act_704 : decode cL_act 704 = .ok (.iload_n 2, 1) := by decide +kernel
theorem dL_act_705 : decode cL_act 705 = .ok (.ifCond .eq 13, 3) := by decide +kernel
theorem dL_act_708 : decode cL_act 708 = .ok (.aload_n 0, 1) := by decide +kernel
theorem dL_act_709 : decode cL_act 709 = .ok (.iload_n 1, 1) := by decide +kernel
theorem dL_act_710 : decode cL_act 710 = .ok (.iconst 5, 1) := by decide +kernel
theorem dL_act_711 : decode cL_act 711 = .ok (.ishr, 1) := by decide +kernel
theorem dL_act_712 : decode cL_act 712 = .ok (.invokestatic 134, 3) := by decide +kernel
theorem dL_act_715 : decode cL_act 715 = .ok (.goto 17, 3) := by decide +kernel
theorem dL_act_718 : decode cL_act 718 = .ok (.aload_n 0, 1) := by decide +kernel
theorem dL_act_719 : decode cL_act 719 = .ok (.iconst 1, 1) := by decide +kernel
theorem dL_act_720 : decode cL_act 720 = .ok (.iload_n 1, 1) := by decide +kernel
theorem dL_act_721 : decode cL_act 721 = .ok (.iconst 5, 1) := by decide +kernel
theorem dL_act_722 : decode cL_act 722 = .ok (.ishr, 1) := by decide +kernel
theorem dL_act_723 : decode cL_act 723 = .ok (.bipush 7, 2) := by decide +kernel
theorem dL_act_725 : decode cL_act 725 = .ok (.invokestatic 92, 3) := by decide +kernel
theorem dL_act_728 : decode cL_act 728 = .ok (.iadd, 1) := by decide +kernel
theorem dL_act_729 : decode cL_act 729 = .ok (.invokestatic 134, 3) := by decide +kernel
theorem dL_act_732 : decode cL_act 732 = .ok (.ireturn, 1) := by decide +kernel
theorem dL_act_733 : decode cL_act 733 = .ok (.aload_n 0, 1) := by decide +kernel
theorem dL_act_734 : decode cL_act 734 = .ok (.iload_n 3, 1) := by decide +kernel
theorem dL_act_735 : decode cL_act 735 = .ok (.iload_n 1, 1) := by decide +kernel
theorem dL_act_736 : decode cL_act 736 = .ok (.bipush 8, 2) := by decide +kernel
theorem dL_act_738 : decode cL_act 738 = .ok (.ishr, 1) := by decide +kernel
theorem dL_act_739 : decode cL_act 739 = .ok (.iconst 3, 1) := by decide +kernel
theorem dL_act_740 : decode cL_act 740 = .ok (.invokestatic 92, 3) := by decide +kernel
theorem dL_act_743 : decode cL_act 743 = .ok (.iload 6, 2) := by decide +kernel
theorem dL_act_745 : decode cL_act 745 = .ok (.iload 7, 2) := by decide +kernel
theorem dL_act_747 : decode cL_act 747 = .ok (.invokestatic 136, 3) := by decide +kernel
theorem dL_act_750 : decode cL_act 750 = .ok (.ireturn, 1) := by decide +kernel
theorem dL_act_751 : decode cL_act 751 = .ok (.aload_n 0, 1) := by decide +kernel
theorem dL_act_752 : decode cL_act 752 = .ok (.iload_n 1, 1) := by decide +kernel
theorem dL_act_753 : decode cL_act 753 = .ok (.iconst 5, 1) := by decide +kernel
theorem dL_act_754 : decode cL_act 754 = .ok (.ishr, 1) := by decide +kernel
theorem dL_act_755 : decode cL_act 755 = .ok (.iconst 2, 1) := by decide +kernel
theorem dL_act_756 : decode cL_act 756 = .ok (.invokestatic 92, 3) := by decide +kernel
theorem dL_act_759 : decode cL_act 759 = .ok (.iload_n 2, 1) := by decide +kernel
theorem dL_act_760 : decode cL_act 760 = .ok (.ifCond .eq 10, 3) := by decide +kernel
theorem dL_act_763 : decode cL_act 763 = .ok (.iload_n 1, 1) := by decide +kernel
theorem dL_act_764 : decode cL_act 764 = .ok (.bipush 8, 2) := by decide +kernel
theorem dL_act_766 : decode cL_act 766 = .ok (.ishr, 1) := by decide +kernel
theorem dL_act_767 : decode cL_act 767 = .ok (.goto 11, 3) := by decide +kernel
theorem dL_act_770 : decode cL_act 770 = .ok (.iload_n 1, 1) := by decide +kernel
theorem dL_act_771 : decode cL_act 771 = .ok (.bipush 8, 2) := by decide +kernel
theorem dL_act_773 : decode cL_act 773 = .ok (.ishr, 1) := by decide +kernel
theorem dL_act_774 : decode cL_act 774 = .ok (.iconst 2, 1) := by decide +kernel
theorem dL_act_775 : decode cL_act 775 = .ok (.invokestatic 92, 3) := by decide +kernel
theorem dL_act_778 : decode cL_act 778 = .ok (.iload_n 1, 1) := by decide +kernel
theorem dL_act_779 : decode cL_act 779 = .ok (.bipush 10, 2) := by decide +kernel
theorem dL_act_781 : decode cL_act 781 = .ok (.ishr, 1) := by decide +kernel
theorem dL_act_782 : decode cL_act 782 = .ok (.iconst 2, 1) := by decide +kernel
theorem dL_act_783 : decode cL_act 783 = .ok (.invokestatic 92, 3) := by decide +kernel
theorem dL_act_786 : decode cL_act 786 = .ok (.invokestatic 138, 3) := by decide +kernel
theorem dL_act_789 : decode cL_act 789 = .ok (.ireturn, 1) := by decide +kernel
theorem dL_act_790 : decode cL_act 790 = .ok (.aload_n 0, 1) := by decide +kernel
theorem dL_act_791 : decode cL_act 791 = .ok (.iload_n 3, 1) := by decide +kernel
theorem dL_act_792 : decode cL_act 792 = .ok (.invokestatic 140, 3) := by decide +kernel
theorem dL_act_795 : decode cL_act 795 = .ok (.ireturn, 1) := by decide +kernel
theorem dL_areAlike_0 : decode cL_areAlike 0 = .ok (.aload_n 0, 1) := by decide +kernel
theorem dL_areAlike_1 : decode cL_areAlike 1 = .ok (.iload_n 2, 1) := by decide +kernel
theorem dL_areAlike_2 : decode cL_areAlike 2 = .ok (.iconst 3, 1) := by decide +kernel
theorem dL_areAlike_3 : decode cL_areAlike 3 = .ok (.invokestatic 92, 3) := by decide +kernel
theorem dL_areAlike_6 : decode cL_areAlike 6 = .ok (.invokestatic 140, 3) := by decide +kernel
theorem dL_areAlike_9 : decode cL_areAlike 9 = .ok (.aload_n 1, 1) := by decide +kernel
theorem dL_areAlike_10 : decode cL_areAlike 10 = .ok (.iload_n 2, 1) := by decide +kernel
theorem dL_areAlike_11 : decode cL_areAlike 11 = .ok (.iconst 3, 1) := by decide +kernel
theorem dL_areAlike_12 : decode cL_areAlike 12 = .ok (.invokestatic 92, 3) := by decide +kernel
theorem dL_areAlike_15 : decode cL_areAlike 15 = .ok (.invokestatic 140, 3) := by decide +kernel
theorem dL_areAlike_18 : decode cL_areAlike 18 = .ok (.if_icmp .ne 74, 3) := by decide +kernel
theorem dL_areAlike_21 : decode cL_areAlike 21 = .ok (.aload_n 0, 1) := by decide +kernel
theorem dL_areAlike_22 : decode cL_areAlike 22 = .ok (.iconst 1, 1) := by decide +kernel
theorem dL_areAlike_23 : decode cL_areAlike 23 = .ok (.iload_n 2, 1) := by decide +kernel
theorem dL_areAlike_24 : decode cL_areAlike 24 = .ok (.bipush 15, 2) := by decide +kernel
theorem dL_areAlike_26 : decode cL_areAlike 26 = .ok (.invokestatic 92, 3) := by decide +kernel
theorem dL_areAlike_29 : decode cL_areAlike 29 = .ok (.iadd, 1) := by decide +kernel
theorem dL_areAlike_30 : decode cL_areAlike 30 = .ok (.invokestatic 142, 3) := by decide +kernel
theorem dL_areAlike_33 : decode cL_areAlike 33 = .ok (.aload_n 1, 1) := by decide +kernel
theorem dL_areAlike_34 : decode cL_areAlike 34 = .ok (.iconst 1, 1) := by decide +kernel
theorem dL_areAlike_35 : decode cL_areAlike 35 = .ok (.iload_n 2, 1) := by decide +kernel
theorem dL_areAlike_36 : decode cL_areAlike 36 = .ok (.bipush 15, 2) := by decide +kernel
theorem dL_areAlike_38 : decode cL_areAlike 38 = .ok (.invokestatic 92, 3) := by decide +kernel
theorem dL_areAlike_41 : decode cL_areAlike 41 = .ok (.iadd, 1) := by decide +kernel
theorem dL_areAlike_42 : decode cL_areAlike 42 = .ok (.invokestatic 142, 3) := by decide +kernel
theorem dL_areAlike_45 : decode cL_areAlike 45 = .ok (.if_icmp .ne 47, 3) := by decide +kernel
theorem dL_areAlike_48 : decode cL_areAlike 48 = .ok (.aload_n 0, 1) := by decide +kernel
theorem dL_areAlike_49 : decode cL_areAlike 49 = .ok (.iconst 1, 1) := by decide +kernel
theorem dL_areAlike_50 : decode cL_areAlike 50 = .ok (.iload_n 2, 1) := by decide +kernel
theorem dL_areAlike_51 : decode cL_areAlike 51 = .ok (.bipush 15, 2) := by decide +kernel
theorem dL_areAlike_53 : decode cL_areAlike 53 = .ok (.invokestatic 92, 3) := by decide +kernel
theorem dL_areAlike_56 : decode cL_areAlike 56 = .ok (.iadd, 1) := by decide +kernel
theorem dL_areAlike_57 : decode cL_areAlike 57 = .ok (.invokestatic 144, 3) := by decide +kernel
theorem dL_areAlike_60 : decode cL_areAlike 60 = .ok (.aload_n 1, 1) := by decide +kernel
theorem dL_areAlike_61 : decode cL_areAlike 61 = .ok (.iconst 1, 1) := by decide +kernel
theorem dL_areAlike_62 : decode cL_areAlike 62 = .ok (.iload_n 2, 1) := by decide +kernel
theorem dL_areAlike_63 : decode cL_areAlike 63 = .ok (.bipush 15, 2) := by decide +kernel
theorem dL_areAlike_65 : decode cL_areAlike 65 = .ok (.invokestatic 92, 3) := by decide +kernel
theorem dL_areAlike_68 : decode cL_areAlike 68 = .ok (.iadd, 1) := by decide +kernel
theorem dL_areAlike_69 : decode cL_areAlike 69 = .ok (.invokestatic 144, 3) := by decide +kernel
theorem dL_areAlike_72 : decode cL_areAlike 72 = .ok (.if_icmp .ne 20, 3) := by decide +kernel
theorem dL_areAlike_75 : decode cL_areAlike 75 = .ok (.aload_n 0, 1) := by decide +kernel
theorem dL_areAlike_76 : decode cL_areAlike 76 = .ok (.iconst 0, 1) := by decide +kernel
theorem dL_areAlike_77 : decode cL_areAlike 77 = .ok (.invokestatic 146, 3) := by decide +kernel
theorem dL_areAlike_80 : decode cL_areAlike 80 = .ok (.aload_n 1, 1) := by decide +kernel
theorem dL_areAlike_81 : decode cL_areAlike 81 = .ok (.iconst 0, 1) := by decide +kernel
theorem dL_areAlike_82 : decode cL_areAlike 82 = .ok (.invokestatic 146, 3) := by decide +kernel
theorem dL_areAlike_85 : decode cL_areAlike 85 = .ok (.if_icmp .ne 7, 3) := by decide +kernel
theorem dL_areAlike_88 : decode cL_areAlike 88 = .ok (.iconst 1, 1) := by decide +kernel
theorem dL_areAlike_89 : decode cL_areAlike 89 = .ok (.goto 4, 3) := by decide +kernel
theorem dL_areAlike_92 : decode cL_areAlike 92 = .ok (.iconst 0, 1) := by decide +kernel
theorem dL_areAlike_93 : decode cL_areAlike 93 = .ok (.istore_n 3, 1) := by decide +kernel
theorem dL_areAlike_94 : decode cL_areAlike 94 = .ok (.iconst 0, 1) := by decide +kernel
theorem dL_areAlike_95 : decode cL_areAlike 95 = .ok (.istore 4, 2) := by decide +kernel
theorem dL_areAlike_97 : decode cL_areAlike 97 = .ok (.iload 4, 2) := by decide +kernel
theorem dL_areAlike_99 : decode cL_areAlike 99 = .ok (.bipush 10, 2) := by decide +kernel
theorem dL_areAlike_101 : decode cL_areAlike 101 = .ok (.if_icmp .ge 93, 3) := by decide +kernel
theorem dL_areAlike_104 : decode cL_areAlike 104 = .ok (.iload_n 3, 1) := by decide +kernel
theorem dL_areAlike_105 : decode cL_areAlike 105 = .ok (.ifCond .eq 89, 3) := by decide +kernel
theorem dL_areAlike_108 : decode cL_areAlike 108 = .ok (.aload_n 0, 1) := by decide +kernel
theorem dL_areAlike_109 : decode cL_areAlike 109 = .ok (.iload 4, 2) := by decide +kernel
theorem dL_areAlike_111 : decode cL_areAlike 111 = .ok (.invokestatic 120, 3) := by decide +kernel
theorem dL_areAlike_114 : decode cL_areAlike 114 = .ok (.aload_n 1, 1) := by decide +kernel
theorem dL_areAlike_115 : decode cL_areAlike 115 = .ok (.iload 4, 2) := by decide +kernel
theorem dL_areAlike_117 : decode cL_areAlike 117 = .ok (.invokestatic 120, 3) := by decide +kernel
theorem dL_areAlike_120 : decode cL_areAlike 120 = .ok (.if_icmp .ne 66, 3) := by decide +kernel
theorem dL_areAlike_123 : decode cL_areAlike 123 = .ok (.aload_n 0, 1) := by decide +kernel
theorem dL_areAlike_124 : decode cL_areAlike 124 = .ok (.iload 4, 2) := by decide +kernel
theorem dL_areAlike_126 : decode cL_areAlike 126 = .ok (.invokestatic 127, 3) := by decide +kernel
theorem dL_areAlike_129 : decode cL_areAlike 129 = .ok (.aload_n 1, 1) := by decide +kernel
theorem dL_areAlike_130 : decode cL_areAlike 130 = .ok (.iload 4, 2) := by decide +kernel
theorem dL_areAlike_132 : decode cL_areAlike 132 = .ok (.invokestatic 127, 3) := by decide +kernel
theorem dL_areAlike_135 : decode cL_areAlike 135 = .ok (.if_icmp .ne 51, 3) := by decide +kernel
theorem dL_areAlike_138 : decode cL_areAlike 138 = .ok (.aload_n 0, 1) := by decide +kernel
theorem dL_areAlike_139 : decode cL_areAlike 139 = .ok (.iload 4, 2) := by decide +kernel
theorem dL_areAlike_141 : decode cL_areAlike 141 = .ok (.iload_n 2, 1) := by decide +kernel
theorem dL_areAlike_142 : decode cL_areAlike 142 = .ok (.iconst 4, 1) := by decide +kernel
theorem dL_areAlike_143 : decode cL_areAlike 143 = .ok (.invokestatic 92, 3) := by decide +kernel
theorem dL_areAlike_146 : decode cL_areAlike 146 = .ok (.invokestatic 148, 3) := by decide +kernel
theorem dL_areAlike_149 : decode cL_areAlike 149 = .ok (.aload_n 1, 1) := by decide +kernel
theorem dL_areAlike_150 : decode cL_areAlike 150 = .ok (.iload 4, 2) := by decide +kernel
theorem dL_areAlike_152 : decode cL_areAlike 152 = .ok (.iload_n 2, 1) := by decide +kernel
theorem dL_areAlike_153 : decode cL_areAlike 153 = .ok (.iconst 4, 1) := by decide +kernel
theorem dL_areAlike_154 : decode cL_areAlike 154 = .ok (.invokestatic 92, 3) := by decide +kernel
theorem dL_areAlike_157 : decode cL_areAlike 157 = .ok (.invokestatic 148, 3) := by decide +kernel
theorem dL_areAlike_160 : decode cL_areAlike 160 = .ok (.if_icmp .ne 26, 3) := by decide +kernel
theorem dL_areAlike_163 : decode cL_areAlike 163 = .ok (.aload_n 0, 1) := by decide +kernel
theorem dL_areAlike_164 : decode cL_areAlike 164 = .ok (.iload 4, 2) := by decide +kernel
theorem dL_areAlike_166 : decode cL_areAlike 166 = .ok (.iconst 0, 1) := by decide +kernel
theorem dL_areAlike_167 : decode cL_areAlike 167 = .ok (.iconst 0, 1) := by decide +kernel
theorem dL_areAlike_168 : decode cL_areAlike 168 = .ok (.invokestatic 122, 3) := by decide +kernel
theorem dL_areAlike_171 : decode cL_areAlike 171 = .ok (.aload_n 1, 1) := by decide +kernel
theorem dL_areAlike_172 : decode cL_areAlike 172 = .ok (.iload 4, 2) := by decide +kernel
theorem dL_areAlike_174 : decode cL_areAlike 174 = .ok (.iconst 0, 1) := by decide +kernel
theorem dL_areAlike_175 : decode cL_areAlike 175 = .ok (.iconst 0, 1) := by decide +kernel
theorem dL_areAlike_176 : decode cL_areAlike 176 = .ok (.invokestatic 122, 3) := by decide +kernel
theorem dL_areAlike_179 : decode cL_areAlike 179 = .ok (.if_icmp .ne 7, 3) := by decide +kernel
theorem dL_areAlike_182 : decode cL_areAlike 182 = .ok (.iconst 1, 1) := by decide +kernel
theorem dL_areAlike_183 : decode cL_areAlike 183 = .ok (.goto 4, 3) := by decide +kernel
theorem dL_areAlike_186 : decode cL_areAlike 186 = .ok (.iconst 0, 1) := by decide +kernel
theorem dL_areAlike_187 : decode cL_areAlike 187 = .ok (.istore_n 3, 1) := by decide +kernel
theorem dL_areAlike_188 : decode cL_areAlike 188 = .ok (.iinc 4 1, 3) := by decide +kernel
theorem dL_areAlike_191 : decode cL_areAlike 191 = .ok (.goto (-94), 3) := by decide +kernel
theorem dL_areAlike_194 : decode cL_areAlike 194 = .ok (.iload_n 3, 1) := by decide +kernel
theorem dL_areAlike_195 : decode cL_areAlike 195 = .ok (.ireturn, 1) := by decide +kernel
theorem dL_areNodesSo_0 : decode cL_areNodesSo 0 = .ok (.iconst 1, 1) := by decide +kernel
theorem dL_areNodesSo_1 : decode cL_areNodesSo 1 = .ok (.istore_n 1, 1) := by decide +kernel
theorem dL_areNodesSo_2 : decode cL_areNodesSo 2 = .ok (.bipush 24, 2) := by decide +kernel
theorem dL_areNodesSo_4 : decode cL_areNodesSo 4 = .ok (.newarray .int, 2) := by decide +kernel
theorem dL_areNodesSo_6 : decode cL_areNodesSo 6 = .ok (.astore_n 2, 1) := by decide +kernel
theorem dL_areNodesSo_7 : decode cL_areNodesSo 7 = .ok (.bipush 24, 2) := by decide +kernel
theorem dL_areNodesSo_9 : decode cL_areNodesSo 9 = .ok (.newarray .int, 2) := by decide +kernel
theorem dL_areNodesSo_11 : decode cL_areNodesSo 11 = .ok (.astore_n 3, 1) := by decide +kernel
theorem dL_areNodesSo_12 : decode cL_areNodesSo 12 = .ok (.iconst 0, 1) := by decide +kernel
theorem dL_areNodesSo_13 : decode cL_areNodesSo 13 = .ok (.istore 4, 2) := by decide +kernel
theorem dL_areNodesSo_15 : decode cL_areNodesSo 15 = .ok (.iload 4, 2) := by decide +kernel
theorem dL_areNodesSo_17 : decode cL_areNodesSo 17 = .ok (.bipush 24, 2) := by decide +kernel
theorem dL_areNodesSo_19 : decode cL_areNodesSo 19 = .ok (.if_icmp .ge 288, 3) := by decide +kernel
theorem dL_areNodesSo_22 : decode cL_areNodesSo 22 = .ok (.iload_n 1, 1) := by decide +kernel
theorem dL_areNodesSo_23 : decode cL_areNodesSo 23 = .ok (.ifCond .eq 284, 3) := by decide +kernel
theorem dL_areNodesSo_26 : decode cL_areNodesSo 26 = .ok (.aload_n 0, 1) := by decide +kernel
theorem dL_areNodesSo_27 : decode cL_areNodesSo 27 = .ok (.iload 4, 2) := by decide +kernel
theorem dL_areNodesSo_29 : decode cL_areNodesSo 29 = .ok (.invokestatic 120, 3) := by decide +kernel
theorem dL_areNodesSo_32 : decode cL_areNodesSo 32 = .ok (.istore 5, 2) := by decide +kernel
theorem dL_areNodesSo_34 : decode cL_areNodesSo 34 = .ok (.aload_n 0, 1) := by decide +kernel
theorem dL_areNodesSo_35 : decode cL_areNodesSo 35 = .ok (.iload 4, 2) := by decide +kernel
theorem dL_areNodesSo_37 : decode cL_areNodesSo 37 = .ok (.iconst 0, 1) := by decide +kernel
theorem dL_areNodesSo_38 : decode cL_areNodesSo 38 = .ok (.invokestatic 148, 3) := by decide +kernel
theorem dL_areNodesSo_41 : decode cL_areNodesSo 41 = .ok (.istore 6, 2) := by decide +kernel
theorem dL_areNodesSo_43 : decode cL_areNodesSo 43 = .ok (.aload_n 0, 1) := by decide +kernel
theorem dL_areNodesSo_44 : decode cL_areNodesSo 44 = .ok (.iload 4, 2) := by decide +kernel
theorem dL_areNodesSo_46 : decode cL_areNodesSo 46 = .ok (.iconst 1, 1) := by decide +kernel
theorem dL_areNodesSo_47 : decode cL_areNodesSo 47 = .ok (.invokestatic 148, 3) := by decide +kernel
theorem dL_areNodesSo_50 : decode cL_areNodesSo 50 = .ok (.istore 7, 2) := by decide +kernel
theorem dL_areNodesSo_52 : decode cL_areNodesSo 52 = .ok (.aload_n 0, 1) := by decide +kernel
theorem dL_areNodesSo_53 : decode cL_areNodesSo 53 = .ok (.iload 4, 2) := by decide +kernel
theorem dL_areNodesSo_55 : decode cL_areNodesSo 55 = .ok (.iconst 2, 1) := by decide +kernel
theorem dL_areNodesSo_56 : decode cL_areNodesSo 56 = .ok (.invokestatic 148, 3) := by decide +kernel
theorem dL_areNodesSo_59 : decode cL_areNodesSo 59 = .ok (.istore 8, 2) := by decide +kernel
theorem dL_areNodesSo_61 : decode cL_areNodesSo 61 = .ok (.aload_n 2, 1) := by decide +kernel
theorem dL_areNodesSo_62 : decode cL_areNodesSo 62 = .ok (.iload 4, 2) := by decide +kernel
theorem dL_areNodesSo_64 : decode cL_areNodesSo 64 = .ok (.iload 5, 2) := by decide +kernel
theorem dL_areNodesSo_66 : decode cL_areNodesSo 66 = .ok (.iastore, 1) := by decide +kernel
theorem dL_areNodesSo_67 : decode cL_areNodesSo 67 = .ok (.aload_n 3, 1) := by decide +kernel
theorem dL_areNodesSo_68 : decode cL_areNodesSo 68 = .ok (.iload 4, 2) := by decide +kernel
theorem dL_areNodesSo_70 : decode cL_areNodesSo 70 = .ok (.aload_n 0, 1) := by decide +kernel
theorem dL_areNodesSo_71 : decode cL_areNodesSo 71 = .ok (.iload 4, 2) := by decide +kernel
theorem dL_areNodesSo_73 : decode cL_areNodesSo 73 = .ok (.invokestatic 127, 3) := by decide +kernel
theorem dL_areNodesSo_76 : decode cL_areNodesSo 76 = .ok (.iastore, 1) := by decide +kernel
theorem dL_areNodesSo_77 : decode cL_areNodesSo 77 = .ok (.iload 6, 2) := by decide +kernel
theorem dL_areNodesSo_79 : decode cL_areNodesSo 79 = .ok (.ifCond .le 222, 3) := by decide +kernel
theorem dL_areNodesSo_82 : decode cL_areNodesSo 82 = .ok (.iload 5, 2) := by decide +kernel
theorem dL_areNodesSo_84 : decode cL_areNodesSo 84 = .ok (.ifCond .lt 217, 3) := by decide +kernel
theorem dL_areNodesSo_87 : decode cL_areNodesSo 87 = .ok (.iload 7, 2) := by decide +kernel
theorem dL_areNodesSo_89 : decode cL_areNodesSo 89 = .ok (.ifCond .lt 21, 3) := by decide +kernel
theorem dL_areNodesSo_92 : decode cL_areNodesSo 92 = .ok (.iload 7, 2) := by decide +kernel
theorem dL_areNodesSo_94 : decode cL_areNodesSo 94 = .ok (.iload 4, 2) := by decide +kernel
theorem dL_areNodesSo_96 : decode cL_areNodesSo 96 = .ok (.if_icmp .ge 14, 3) := by decide +kernel
theorem dL_areNodesSo_99 : decode cL_areNodesSo 99 = .ok (.iload 8, 2) := by decide +kernel
theorem dL_areNodesSo_101 : decode cL_areNodesSo 101 = .ok (.iload 4, 2) := by decide +kernel
theorem dL_areNodesSo_103 : decode cL_areNodesSo 103 = .ok (.if_icmp .ge 7, 3) := by decide +kernel
theorem dL_areNodesSo_106 : decode cL_areNodesSo 106 = .ok (.iconst 1, 1) := by decide +kernel
theorem dL_areNodesSo_107 : decode cL_areNodesSo 107 = .ok (.goto 4, 3) := by decide +kernel
theorem dL_areNodesSo_110 : decode cL_areNodesSo 110 = .ok (.iconst 0, 1) := by decide +kernel
theorem dL_areNodesSo_111 : decode cL_areNodesSo 111 = .ok (.istore_n 1, 1) := by decide +kernel
theorem dL_areNodesSo_112 : decode cL_areNodesSo 112 = .ok (.iload_n 1, 1) := by decide +kernel
theorem dL_areNodesSo_113 : decode cL_areNodesSo 113 = .ok (.ifCond .eq 10, 3) := by decide +kernel
theorem dL_areNodesSo_116 : decode cL_areNodesSo 116 = .ok (.aload_n 2, 1) := by decide +kernel
theorem dL_areNodesSo_117 : decode cL_areNodesSo 117 = .ok (.iload 7, 2) := by decide +kernel
theorem dL_areNodesSo_119 : decode cL_areNodesSo 119 = .ok (.iaload, 1) := by decide +kernel
theorem dL_areNodesSo_120 : decode cL_areNodesSo 120 = .ok (.goto 4, 3) := by decide +kernel
theorem dL_areNodesSo_123 : decode cL_areNodesSo 123 = .ok (.iconst 0, 1) := by decide +kernel
theorem dL_areNodesSo_124 : decode cL_areNodesSo 124 = .ok (.istore 9, 2) := by decide +kernel
theorem dL_areNodesSo_126 : decode cL_areNodesSo 126 = .ok (.iload 8, 2) := by decide +kernel
theorem dL_areNodesSo_128 : decode cL_areNodesSo 128 = .ok (.ifCond .lt 7, 3) := by decide +kernel
theorem dL_areNodesSo_131 : decode cL_areNodesSo 131 = .ok (.iload_n 1, 1) := by decide +kernel
theorem dL_areNodesSo_132 : decode cL_areNodesSo 132 = .ok (.ifCond .ne 7, 3) := by decide +kernel
theorem dL_areNodesSo_135 : decode cL_areNodesSo 135 = .ok (.iconst 0, 1) := by decide +kernel
theorem dL_areNodesSo_136 : decode cL_areNodesSo 136 = .ok (.goto 7, 3) := by decide +kernel
theorem dL_areNodesSo_139 : decode cL_areNodesSo 139 = .ok (.aload_n 2, 1) := by decide +kernel
theorem dL_areNodesSo_140 : decode cL_areNodesSo 140 = .ok (.iload 8, 2) := by decide +kernel
theorem dL_areNodesSo_142 : decode cL_areNodesSo 142 = .ok (.iaload, 1) := by decide +kernel
theorem dL_areNodesSo_143 : decode cL_areNodesSo 143 = .ok (.istore 10, 2) := by decide +kernel
theorem dL_areNodesSo_145 : decode cL_areNodesSo 145 = .ok (.iload_n 1, 1) := by decide +kernel
theorem dL_areNodesSo_146 : decode cL_areNodesSo 146 = .ok (.ifCond .eq 61, 3) := by decide +kernel
theorem dL_areNodesSo_149 : decode cL_areNodesSo 149 = .ok (.aload_n 3, 1) := by decide +kernel
theorem dL_areNodesSo_150 : decode cL_areNodesSo 150 = .ok (.iload 4, 2) := by decide +kernel
theorem dL_areNodesSo_152 : decode cL_areNodesSo 152 = .ok (.iaload, 1) := by decide +kernel
theorem dL_areNodesSo_153 : decode cL_areNodesSo 153 = .ok (.iload 5, 2) := by decide +kernel
theorem dL_areNodesSo_155 : decode cL_areNodesSo 155 = .ok (.aload_n 3, 1) := by decide +kernel
theorem dL_areNodesSo_156 : decode cL_areNodesSo 156 = .ok (.iload 7, 2) := by decide +kernel
theorem dL_areNodesSo_158 : decode cL_areNodesSo 158 = .ok (.iaload, 1) := by decide +kernel
theorem dL_areNodesSo_159 : decode cL_areNodesSo 159 = .ok (.iadd, 1) := by decide +kernel
theorem dL_areNodesSo_160 : decode cL_areNodesSo 160 = .ok (.iload 8, 2) := by decide +kernel
theorem dL_areNodesSo_162 : decode cL_areNodesSo 162 = .ok (.ifCond .ge 7, 3) := by decide +kernel
theorem dL_areNodesSo_165 : decode cL_areNodesSo 165 = .ok (.iconst 0, 1) := by decide +kernel
theorem dL_areNodesSo_166 : decode cL_areNodesSo 166 = .ok (.goto 7, 3) := by decide +kernel
theorem dL_areNodesSo_169 : decode cL_areNodesSo 169 = .ok (.aload_n 3, 1) := by decide +kernel
theorem dL_areNodesSo_170 : decode cL_areNodesSo 170 = .ok (.iload 8, 2) := by decide +kernel
theorem dL_areNodesSo_172 : decode cL_areNodesSo 172 = .ok (.iaload, 1) := by decide +kernel
theorem dL_areNodesSo_173 : decode cL_areNodesSo 173 = .ok (.iadd, 1) := by decide +kernel
theorem dL_areNodesSo_174 : decode cL_areNodesSo 174 = .ok (.if_icmp .ne 33, 3) := by decide +kernel
theorem dL_areNodesSo_177 : decode cL_areNodesSo 177 = .ok (.aload_n 0, 1) := by decide +kernel
theorem dL_areNodesSo_178 : decode cL_areNodesSo 178 = .ok (.iload 4, 2) := by decide +kernel
theorem dL_areNodesSo_180 : decode cL_areNodesSo 180 = .ok (.iload 4, 2) := by decide +kernel
theorem dL_areNodesSo_182 : decode cL_areNodesSo 182 = .ok (.invokestatic 125, 3) := by decide +kernel
theorem dL_areNodesSo_185 : decode cL_areNodesSo 185 = .ok (.iconst 1, 1) := by decide +kernel
theorem dL_areNodesSo_186 : decode cL_areNodesSo 186 = .ok (.if_icmp .ne 21, 3) := by decide +kernel
theorem dL_areNodesSo_189 : decode cL_areNodesSo 189 = .ok (.aload_n 0, 1) := by decide +kernel
theorem dL_areNodesSo_190 : decode cL_areNodesSo 190 = .ok (.iload 4, 2) := by decide +kernel
theorem dL_areNodesSo_192 : decode cL_areNodesSo 192 = .ok (.iload 5, 2) := by decide +kernel
theorem dL_areNodesSo_194 : decode cL_areNodesSo 194 = .ok (.iconst 0, 1) := by decide +kernel
theorem dL_areNodesSo_195 : decode cL_areNodesSo 195 = .ok (.invokestatic 122, 3) := by decide +kernel
theorem dL_areNodesSo_198 : decode cL_areNodesSo 198 = .ok (.ldc 16, 2) := by decide +kernel
theorem dL_areNodesSo_200 : decode cL_areNodesSo 200 = .ok (.if_icmp .ne 7, 3) := by decide +kernel
theorem dL_areNodesSo_203 : decode cL_areNodesSo 203 = .ok (.iconst 1, 1) := by decide +kernel
theorem dL_areNodesSo_204 : decode cL_areNodesSo 204 = .ok (.goto 4, 3) := by decide +kernel
theorem dL_areNodesSo_207 : decode cL_areNodesSo 207 = .ok (.iconst 0, 1) := by decide +kernel
theorem dL_areNodesSo_208 : decode cL_areNodesSo 208 = .ok (.istore_n 1, 1) := by decide +kernel
theorem dL_areNodesSo_209 : decode cL_areNodesSo 209 = .ok (.iload_n 1, 1) := by decide +kernel
theorem dL_areNodesSo_210 : decode cL_areNodesSo 210 = .ok (.ifCond .eq 89, 3) := by decide +kernel
theorem dL_areNodesSo_213 : decode cL_areNodesSo 213 = .ok (.iload 6, 2) := by decide +kernel
theorem dL_areNodesSo_215 : decode cL_areNodesSo 215 = .ok (.iconst 1, 1) := by decide +kernel
theorem dL_areNodesSo_216 : decode cL_areNodesSo 216 = .ok (.if_icmp .eq 9, 3) := by decide +kernel
theorem dL_areNodesSo_219 : decode cL_areNodesSo 219 = .ok (.iload 6, 2) := by decide +kernel
theorem dL_areNodesSo_221 : decode cL_areNodesSo 221 = .ok (.iconst 3, 1) := by decide +kernel
theorem dL_areNodesSo_222 : decode cL_areNodesSo 222 = .ok (.if_icmp .ne 13, 3) := by decide +kernel
theorem dL_areNodesSo_225 : decode cL_areNodesSo 225 = .ok (.iload 5, 2) := by decide +kernel
theorem dL_areNodesSo_227 : decode cL_areNodesSo 227 = .ok (.iload 9, 2) := by decide +kernel
theorem dL_areNodesSo_229 : decode cL_areNodesSo 229 = .ok (.if_icmp .gt 70, 3) := by decide +kernel
theorem dL_areNodesSo_232 : decode cL_areNodesSo 232 = .ok (.goto 39, 3) := by decide +kernel
theorem dL_areNodesSo_235 : decode cL_areNodesSo 235 = .ok (.iload 6, 2) := by decide +kernel
theorem dL_areNodesSo_237 : decode cL_areNodesSo 237 = .ok (.iconst 2, 1) := by decide +kernel
theorem dL_areNodesSo_238 : decode cL_areNodesSo 238 = .ok (.if_icmp .ne 23, 3) := by decide +kernel
theorem dL_areNodesSo_241 : decode cL_areNodesSo 241 = .ok (.iload 5, 2) := by decide +kernel
theorem dL_areNodesSo_243 : decode cL_areNodesSo 243 = .ok (.iload 9, 2) := by decide +kernel
theorem dL_areNodesSo_245 : decode cL_areNodesSo 245 = .ok (.iload 10, 2) := by decide +kernel
theorem dL_areNodesSo_247 : decode cL_areNodesSo 247 = .ok (.imul, 1) := by decide +kernel
theorem dL_areNodesSo_248 : decode cL_areNodesSo 248 = .ok (.if_icmp .le 23, 3) := by decide +kernel
theorem dL_areNodesSo_251 : decode cL_areNodesSo 251 = .ok (.iload 5, 2) := by decide +kernel
theorem dL_areNodesSo_253 : decode cL_areNodesSo 253 = .ok (.iload 9, 2) := by decide +kernel
theorem dL_areNodesSo_255 : decode cL_areNodesSo 255 = .ok (.if_icmp .gt 44, 3) := by decide +kernel
theorem dL_areNodesSo_258 : decode cL_areNodesSo 258 = .ok (.goto 13, 3) := by decide +kernel
theorem dL_areNodesSo_261 : decode cL_areNodesSo 261 = .ok (.iload 5, 2) := by decide +kernel
theorem dL_areNodesSo_263 : decode cL_areNodesSo 263 = .ok (.iload 9, 2) := by decide +kernel
theorem dL_areNodesSo_265 : decode cL_areNodesSo 265 = .ok (.iload 10, 2) := by decide +kernel
theorem dL_areNodesSo_267 : decode cL_areNodesSo 267 = .ok (.iadd, 1) := by decide +kernel
theorem dL_areNodesSo_268 : decode cL_areNodesSo 268 = .ok (.if_icmp .gt 31, 3) := by decide +kernel
theorem dL_areNodesSo_271 : decode cL_areNodesSo 271 = .ok (.aload_n 0, 1) := by decide +kernel
theorem dL_areNodesSo_272 : decode cL_areNodesSo 272 = .ok (.iload 4, 2) := by decide +kernel
theorem dL_areNodesSo_274 : decode cL_areNodesSo 274 = .ok (.iconst 3, 1) := by decide +kernel
theorem dL_areNodesSo_275 : decode cL_areNodesSo 275 = .ok (.invokestatic 148, 3) := by decide +kernel
theorem dL_areNodesSo_278 : decode cL_areNodesSo 278 = .ok (.bipush 6, 2) := by decide +kernel
theorem dL_areNodesSo_280 : decode cL_areNodesSo 280 = .ok (.if_icmp .gt 19, 3) := by decide +kernel
theorem dL_areNodesSo_283 : decode cL_areNodesSo 283 = .ok (.aload_n 0, 1) := by decide +kernel
theorem dL_areNodesSo_284 : decode cL_areNodesSo 284 = .ok (.iload 4, 2) := by decide +kernel
theorem dL_areNodesSo_286 : decode cL_areNodesSo 286 = .ok (.iconst 4, 1) := by decide +kernel
theorem dL_areNodesSo_287 : decode cL_areNodesSo 287 = .ok (.invokestatic 148, 3) := by decide +kernel
theorem dL_areNodesSo_290 : decode cL_areNodesSo 290 = .ok (.ldc 16, 2) := by decide +kernel
theorem dL_areNodesSo_292 : decode cL_areNodesSo 292 = .ok (.if_icmp .ne 7, 3) := by decide +kernel
theorem dL_areNodesSo_295 : decode cL_areNodesSo 295 = .ok (.iconst 1, 1) := by decide +kernel
theorem dL_areNodesSo_296 : decode cL_areNodesSo 296 = .ok (.goto 4, 3) := by decide +kernel
theorem dL_areNodesSo_299 : decode cL_areNodesSo 299 = .ok (.iconst 0, 1) := by decide +kernel
theorem dL_areNodesSo_300 : decode cL_areNodesSo 300 = .ok (.istore_n 1, 1) := by decide +kernel
theorem dL_areNodesSo_301 : decode cL_areNodesSo 301 = .ok (.iinc 4 1, 3) := by decide +kernel
theorem dL_areNodesSo_304 : decode cL_areNodesSo 304 = .ok (.goto (-289), 3) := by decide +kernel
theorem dL_areNodesSo_307 : decode cL_areNodesSo 307 = .ok (.iload_n 1, 1) := by decide +kernel
theorem dL_areNodesSo_308 : decode cL_areNodesSo 308 = .ok (.ireturn, 1) := by decide +kernel
theorem dL_law_0 : decode cL_law 0 = .ok (.new 9, 3) := by decide +kernel
theorem dL_law_3 : decode cL_law 3 = .ok (.dup, 1) := by decide +kernel
theorem dL_law_4 : decode cL_law 4 = .ok (.invokespecial 150, 3) := by decide +kernel
theorem dL_law_7 : decode cL_law 7 = .ok (.astore_n 1, 1) := by decide +kernel
theorem dL_law_8 : decode cL_law 8 = .ok (.new 9, 3) := by decide +kernel
theorem dL_law_11 : decode cL_law 11 = .ok (.dup, 1) := by decide +kernel
theorem dL_law_12 : decode cL_law 12 = .ok (.invokespecial 150, 3) := by decide +kernel
theorem dL_law_15 : decode cL_law 15 = .ok (.astore_n 2, 1) := by decide +kernel
theorem dL_law_16 : decode cL_law 16 = .ok (.iconst 0, 1) := by decide +kernel
theorem dL_law_17 : decode cL_law 17 = .ok (.istore_n 3, 1) := by decide +kernel
theorem dL_law_18 : decode cL_law 18 = .ok (.iload_n 3, 1) := by decide +kernel
theorem dL_law_19 : decode cL_law 19 = .ok (.bipush 90, 2) := by decide +kernel
theorem dL_law_21 : decode cL_law 21 = .ok (.if_icmp .ge 154, 3) := by decide +kernel
theorem dL_law_24 : decode cL_law 24 = .ok (.aload_n 0, 1) := by decide +kernel
theorem dL_law_25 : decode cL_law 25 = .ok (.iload_n 3, 1) := by decide +kernel
theorem dL_law_26 : decode cL_law 26 = .ok (.invokestatic 151, 3) := by decide +kernel
theorem dL_law_29 : decode cL_law 29 = .ok (.istore 4, 2) := by decide +kernel
theorem dL_law_31 : decode cL_law 31 = .ok (.aload_n 1, 1) := by decide +kernel
theorem dL_law_32 : decode cL_law 32 = .ok (.iload 4, 2) := by decide +kernel
theorem dL_law_34 : decode cL_law 34 = .ok (.invokestatic 154, 3) := by decide +kernel
theorem dL_law_37 : decode cL_law 37 = .ok (.istore 5, 2) := by decide +kernel
theorem dL_law_39 : decode cL_law 39 = .ok (.iload 5, 2) := by decide +kernel
theorem dL_law_41 : decode cL_law 41 = .ok (.ldc 16, 2) := by decide +kernel
theorem dL_law_43 : decode cL_law 43 = .ok (.if_icmp .eq 14, 3) := by decide +kernel
theorem dL_law_46 : decode cL_law 46 = .ok (.aload_n 2, 1) := by decide +kernel
theorem dL_law_47 : decode cL_law 47 = .ok (.iload 4, 2) := by decide +kernel
theorem dL_law_49 : decode cL_law 49 = .ok (.invokestatic 154, 3) := by decide +kernel
theorem dL_law_52 : decode cL_law 52 = .ok (.iload 5, 2) := by decide +kernel
theorem dL_law_54 : decode cL_law 54 = .ok (.if_icmp .ne 40, 3) := by decide +kernel
theorem dL_law_57 : decode cL_law 57 = .ok (.iload_n 3, 1) := by decide +kernel
theorem dL_law_58 : decode cL_law 58 = .ok (.bipush 18, 2) := by decide +kernel
theorem dL_law_60 : decode cL_law 60 = .ok (.irem, 1) := by decide +kernel
theorem dL_law_61 : decode cL_law 61 = .ok (.bipush 17, 2) := by decide +kernel
theorem dL_law_63 : decode cL_law 63 = .ok (.if_icmp .ne 15, 3) := by decide +kernel
theorem dL_law_66 : decode cL_law 66 = .ok (.aload_n 1, 1) := by decide +kernel
theorem dL_law_67 : decode cL_law 67 = .ok (.aload_n 2, 1) := by decide +kernel
theorem dL_law_68 : decode cL_law 68 = .ok (.iload 4, 2) := by decide +kernel
theorem dL_law_70 : decode cL_law 70 = .ok (.iconst 3, 1) := by decide +kernel
theorem dL_law_71 : decode cL_law 71 = .ok (.ishr, 1) := by decide +kernel
theorem dL_law_72 : decode cL_law 72 = .ok (.invokestatic 157, 3) := by decide +kernel
theorem dL_law_75 : decode cL_law 75 = .ok (.ifCond .eq 19, 3) := by decide +kernel
theorem dL_law_78 : decode cL_law 78 = .ok (.iload_n 3, 1) := by decide +kernel
theorem dL_law_79 : decode cL_law 79 = .ok (.bipush 45, 2) := by decide +kernel
theorem dL_law_81 : decode cL_law 81 = .ok (.irem, 1) := by decide +kernel
theorem dL_law_82 : decode cL_law 82 = .ok (.bipush 44, 2) := by decide +kernel
theorem dL_law_84 : decode cL_law 84 = .ok (.if_icmp .ne 12, 3) := by decide +kernel
theorem dL_law_87 : decode cL_law 87 = .ok (.aload_n 1, 1) := by decide +kernel
theorem dL_law_88 : decode cL_law 88 = .ok (.invokestatic 161, 3) := by decide +kernel
theorem dL_law_91 : decode cL_law 91 = .ok (.ifCond .ne 5, 3) := by decide +kernel
theorem dL_law_94 : decode cL_law 94 = .ok (.iconst 0, 1) := by decide +kernel
theorem dL_law_95 : decode cL_law 95 = .ok (.ireturn, 1) := by decide +kernel
theorem dL_law_96 : decode cL_law 96 = .ok (.iload 4, 2) := by decide +kernel
theorem dL_law_98 : decode cL_law 98 = .ok (.iconst 4, 1) := by decide +kernel
theorem dL_law_99 : decode cL_law 99 = .ok (.ishr, 1) := by decide +kernel
theorem dL_law_100 : decode cL_law 100 = .ok (.bipush 9, 2) := by decide +kernel
theorem dL_law_102 : decode cL_law 102 = .ok (.invokestatic 92, 3) := by decide +kernel
theorem dL_law_105 : decode cL_law 105 = .ok (.istore 6, 2) := by decide +kernel
theorem dL_law_107 : decode cL_law 107 = .ok (.iload_n 3, 1) := by decide +kernel
theorem dL_law_108 : decode cL_law 108 = .ok (.iconst 5, 1) := by decide +kernel
theorem dL_law_109 : decode cL_law 109 = .ok (.irem, 1) := by decide +kernel
theorem dL_law_110 : decode cL_law 110 = .ok (.iconst 4, 1) := by decide +kernel
theorem dL_law_111 : decode cL_law 111 = .ok (.if_icmp .ne 12, 3) := by decide +kernel
theorem dL_law_114 : decode cL_law 114 = .ok (.aload_n 1, 1) := by decide +kernel
theorem dL_law_115 : decode cL_law 115 = .ok (.iload 6, 2) := by decide +kernel
theorem dL_law_117 : decode cL_law 117 = .ok (.invokestatic 118, 3) := by decide +kernel
theorem dL_law_120 : decode cL_law 120 = .ok (.goto 5, 3) := by decide +kernel
theorem dL_law_123 : decode cL_law 123 = .ok (.ldc 16, 2) := by decide +kernel
theorem dL_law_125 : decode cL_law 125 = .ok (.istore 7, 2) := by decide +kernel
theorem dL_law_127 : decode cL_law 127 = .ok (.iload 7, 2) := by decide +kernel
theorem dL_law_129 : decode cL_law 129 = .ok (.ldc 16, 2) := by decide +kernel
theorem dL_law_131 : decode cL_law 131 = .ok (.if_icmp .eq 38, 3) := by decide +kernel
theorem dL_law_134 : decode cL_law 134 = .ok (.aload_n 2, 1) := by decide +kernel
theorem dL_law_135 : decode cL_law 135 = .ok (.iload 6, 2) := by decide +kernel
theorem dL_law_137 : decode cL_law 137 = .ok (.invokestatic 118, 3) := by decide +kernel
theorem dL_law_140 : decode cL_law 140 = .ok (.iload 7, 2) := by decide +kernel
theorem dL_law_142 : decode cL_law 142 = .ok (.if_icmp .ne 25, 3) := by decide +kernel
theorem dL_law_145 : decode cL_law 145 = .ok (.aload_n 1, 1) := by decide +kernel
theorem dL_law_146 : decode cL_law 146 = .ok (.iload 6, 2) := by decide +kernel
theorem dL_law_148 : decode cL_law 148 = .ok (.iload 7, 2) := by decide +kernel
theorem dL_law_150 : decode cL_law 150 = .ok (.invokestatic 125, 3) := by decide +kernel
theorem dL_law_153 : decode cL_law 153 = .ok (.ifCond .eq 14, 3) := by decide +kernel
theorem dL_law_156 : decode cL_law 156 = .ok (.aload_n 1, 1) := by decide +kernel
theorem dL_law_157 : decode cL_law 157 = .ok (.iload 7, 2) := by decide +kernel
theorem dL_law_159 : decode cL_law 159 = .ok (.invokestatic 118, 3) := by decide +kernel
theorem dL_law_162 : decode cL_law 162 = .ok (.iload 7, 2) := by decide +kernel
theorem dL_law_164 : decode cL_law 164 = .ok (.if_icmp .eq 5, 3) := by decide +kernel
theorem dL_law_167 : decode cL_law 167 = .ok (.iconst 0, 1) := by decide +kernel
theorem dL_law_168 : decode cL_law 168 = .ok (.ireturn, 1) := by decide +kernel
theorem dL_law_169 : decode cL_law 169 = .ok (.iinc 3 1, 3) := by decide +kernel
theorem dL_law_172 : decode cL_law 172 = .ok (.goto (-154), 3) := by decide +kernel
theorem dL_law_175 : decode cL_law 175 = .ok (.iconst 1, 1) := by decide +kernel
theorem dL_law_176 : decode cL_law 176 = .ok (.ireturn, 1) := by decide +kernel
